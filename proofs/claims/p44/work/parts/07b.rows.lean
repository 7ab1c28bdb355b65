-- ===== rows: longs in locals, sums of longs, chars, static arrays
section
variable {p : Program} {l : Launch} {e : Env} {R : Room} {s : State} {m : MethodId} {args : Array Value} {below : List Frame} {meth : Method} {c : Code} {Q : State → Prop} {r : Nat → Value} {D : va_G} {dA : Nat → ClassId} {A : Nat → Prop} {H0 : Heap} {n0 z0 : Nat} {ad0 : Nat → Nat} {mi pc : Nat} {lo : xL} {st : List Jvm.Term} {h : xH} {E : List xB} {β : Type} {res : β} {k : Nat → xL → List Jvm.Term → xH → List xB → Option β}
theorem xs_lload (G : xCx p R s m args meth c r D dA A H0 mi) {i : Nat} {ln : Nat} {ax : List Nat} (hd : decode (xb mi) pc = .ok (.lload i, 2)) (hs : xsp mi pc (.lload i, ln, ax) lo st h E k = some res) :
    xR1 p l e R s m args below meth c Q r D dA A H0 n0 z0 ad0 (xm mi) pc lo st h E β k res := by
  obtain ⟨hx, hb, hml, hts, hK, hNw, hown, hr, hA, hin, hRf, hRl, hSc⟩ := G
  simp only [xsp, xhg_eq] at hs
  cases hlk : xlk lo i with
  | none => rw [hlk] at hs; cases hs
  | some t =>
    rw [hlk] at hs
    cases ht : xG t with
    | false => simp [ht] at hs
    | true =>
      simp only [ht, cond_true] at hs
      refine xR1_push hs (fun ad H locs ls cl sl hP hl K => ?_)
      have h1 := xlk_has hl hlk
      rw [xG_dv hr ad ht] at h1 K
      exact lv_lload hx hb hd h1 K
theorem xs_lconst (G : xCx p R s m args meth c r D dA A H0 mi) {n : Fin 2} {ln : Nat} {ax : List Nat} (hd : decode (xb mi) pc = .ok (.lconst n, 1)) (hs : xsp mi pc (.lconst n, ln, ax) lo st h E k = some res) :
    xR1 p l e R s m args below meth c Q r D dA A H0 n0 z0 ad0 (xm mi) pc lo st h E β k res := by
  obtain ⟨hx, hb, hml, hts, hK, hNw, hown, hr, hA, hin, hRf, hRl, hSc⟩ := G
  simp only [xsp, xhg_eq] at hs
  exact xR1_push hs (fun ad H locs ls cl sl hP hl K => lv_lconst hx hb hd rfl K)
theorem xs_lstore_n (G : xCx p R s m args meth c r D dA A H0 mi) {i : Fin 4} {ln : Nat} {ax : List Nat} (hd : decode (xb mi) pc = .ok (.lstore_n i, 1)) (hs : xsp mi pc (.lstore_n i, ln, ax) lo st h E k = some res) :
    xR1 p l e R s m args below meth c Q r D dA A H0 n0 z0 ad0 (xm mi) pc lo st h E β k res := by
  obtain ⟨hx, hb, hml, hts, hK, hNw, hown, hr, hA, hin, hRf, hRl, hSc⟩ := G
  simp only [xsp, xhg_eq] at hs
  cases st with
  | nil => cases hs
  | cons t s' =>
    simp only at hs
    cases ht : (xG t && Nat.ble (i.val + 2) (xm mi)) with
    | false => simp [ht] at hs
    | true =>
      simp only [ht, cond_true, xfL_eq, xfN_eq] at hs
      simp only [Bool.and_eq_true] at ht
      obtain ⟨ht, hi⟩ := ht
      have hi : i.val + 1 < xm mi := Nat.le_of_ble_eq_true hi
      refine xR1_same (mi := mi) hs (fun q => q) (fun _ ad H locs ls cl sl hP hl K => ?_)
      simp only [List.map_cons]
      rw [xG_dv hr ad ht]
      refine lv_lstore_n hx hb hd rfl hl hi rfl (fun ls' hl' => K ls' (lv_less hl' ?_))
      rw [← xG_dv hr ad ht]
      exact xs2_in hr
theorem xs_lstore (G : xCx p R s m args meth c r D dA A H0 mi) {i : Nat} {ln : Nat} {ax : List Nat} (hd : decode (xb mi) pc = .ok (.lstore i, 2)) (hs : xsp mi pc (.lstore i, ln, ax) lo st h E k = some res) :
    xR1 p l e R s m args below meth c Q r D dA A H0 n0 z0 ad0 (xm mi) pc lo st h E β k res := by
  obtain ⟨hx, hb, hml, hts, hK, hNw, hown, hr, hA, hin, hRf, hRl, hSc⟩ := G
  simp only [xsp, xhg_eq] at hs
  cases st with
  | nil => cases hs
  | cons t s' =>
    simp only at hs
    cases ht : (xG t && Nat.ble (i + 2) (xm mi)) with
    | false => simp [ht] at hs
    | true =>
      simp only [ht, cond_true, xfL_eq, xfN_eq] at hs
      simp only [Bool.and_eq_true] at ht
      obtain ⟨ht, hi⟩ := ht
      have hi : i + 1 < xm mi := Nat.le_of_ble_eq_true hi
      refine xR1_same (mi := mi) hs (fun q => q) (fun _ ad H locs ls cl sl hP hl K => ?_)
      simp only [List.map_cons]
      rw [xG_dv hr ad ht]
      refine lv_lstore hx hb hd hl hi rfl (fun ls' hl' => K ls' (lv_less hl' ?_))
      rw [← xG_dv hr ad ht]
      exact xs2_in hr
theorem xs_ladd (G : xCx p R s m args meth c r D dA A H0 mi)  {ln : Nat} {ax : List Nat} (hd : decode (xb mi) pc = .ok (.ladd, 1)) (hs : xsp mi pc (.ladd, ln, ax) lo st h E k = some res) :
    xR1 p l e R s m args below meth c Q r D dA A H0 n0 z0 ad0 (xm mi) pc lo st h E β k res := by
  obtain ⟨hx, hb, hml, hts, hK, hNw, hown, hr, hA, hin, hRf, hRl, hSc⟩ := G
  simp only [xsp, xhg_eq] at hs
  cases st with
  | nil => cases hs
  | cons b st => cases st with
    | nil => cases hs
    | cons a s' =>
      simp only at hs
      cases ht : (xG a && xG b) with
      | false => simp [ht] at hs
      | true =>
        simp only [ht, cond_true] at hs
        simp only [Bool.and_eq_true] at ht
        refine xR1_push hs (fun ad H locs ls cl sl hP hl K => ?_)
        rw [xl2_dv (o := .ladd) (fun v w => rfl)] at K
        simp only [List.map_cons]
        rw [xG_dv hr ad ht.1, xG_dv hr ad ht.2]
        exact lv_ladd hx hb hd K
theorem xs_lsub (G : xCx p R s m args meth c r D dA A H0 mi)  {ln : Nat} {ax : List Nat} (hd : decode (xb mi) pc = .ok (.lsub, 1)) (hs : xsp mi pc (.lsub, ln, ax) lo st h E k = some res) :
    xR1 p l e R s m args below meth c Q r D dA A H0 n0 z0 ad0 (xm mi) pc lo st h E β k res := by
  obtain ⟨hx, hb, hml, hts, hK, hNw, hown, hr, hA, hin, hRf, hRl, hSc⟩ := G
  simp only [xsp, xhg_eq] at hs
  cases st with
  | nil => cases hs
  | cons b st => cases st with
    | nil => cases hs
    | cons a s' =>
      simp only at hs
      cases ht : (xG a && xG b) with
      | false => simp [ht] at hs
      | true =>
        simp only [ht, cond_true] at hs
        simp only [Bool.and_eq_true] at ht
        refine xR1_push hs (fun ad H locs ls cl sl hP hl K => ?_)
        rw [xl2_dv (o := .lsub) (fun v w => rfl)] at K
        simp only [List.map_cons]
        rw [xG_dv hr ad ht.1, xG_dv hr ad ht.2]
        exact lv_lsub hx hb hd K
theorem xs_i2c (G : xCx p R s m args meth c r D dA A H0 mi)  {ln : Nat} {ax : List Nat} (hd : decode (xb mi) pc = .ok (.i2c, 1)) (hs : xsp mi pc (.i2c, ln, ax) lo st h E k = some res) :
    xR1 p l e R s m args below meth c Q r D dA A H0 n0 z0 ad0 (xm mi) pc lo st h E β k res := by
  obtain ⟨hx, hb, hml, hts, hK, hNw, hown, hr, hA, hin, hRf, hRl, hSc⟩ := G
  simp only [xsp, xhg_eq] at hs
  cases st with
  | nil => cases hs
  | cons a s' =>
    simp only at hs
    cases ht : xI a with
    | false => simp [ht] at hs
    | true =>
      simp only [ht, cond_true] at hs
      refine xR1_push hs (fun ad H locs ls cl sl hP hl K => ?_)
      have hv : xdv r ad (xb1 .i2c a) = xo1 .i2c (xdv r ad a) := by
        cases ha : xlit a <;> simp only [xb1, ha] <;> first | rfl | (rw [xlit_eq ha]; rfl)
      rw [hv] at K
      simp only [List.map_cons]
      rw [xI_dv hr ad ht]
      exact lv_i2c hx hb hd rfl K
theorem xs_getstatic (G : xCx p R s m args meth c r D dA A H0 mi) {idx : Nat} {ln : Nat} {ax : List Nat} (hd : decode (xb mi) pc = .ok (.getstatic idx, 3)) (ha : xau mi (.getstatic idx) ln ax = true) (hs : xsp mi pc (.getstatic idx, ln, ax) lo st h E k = some res) :
    xR1 p l e R s m args below meth c Q r D dA A H0 n0 z0 ad0 (xm mi) pc lo st h E β k res := by
  obtain ⟨hx, hb, hml, hts, hK, hNw, hown, hr, hA, hin, hRf, hRl, hSc⟩ := G
  rcases ax with _ | ⟨p0, _ | ⟨j, _ | ⟨x9, t9⟩⟩⟩ <;> simp only [xsp, xhg_eq] at hs <;> first | (cases hs; done) | skip
  have ha := (Bool.and_eq_true_iff.mp ha).2
  simp only at ha
  cases hq : xstat[j]? with
  | none => rw [hq] at ha; cases ha
  | some q =>
  rw [hq] at ha
  simp only at ha
  obtain ⟨t, r1, hZ, -⟩ := hSc.2.1.1 _ q hq
  have eH := hSc.2.2
  subst eH
  simp only [xpu, xfT_eq, xfN_eq] at hs
  refine ⟨_, _, _, _, _, hs, fun q => q, Nat.le_refl _, Nat.le_refl _, fun _ _ hh C hn hz hw0 ad H locs ls hag hP hD hS hl => ?_⟩
  have K := C hn hz hw0 ad H locs ls hag hP hD hS hl
  simp only [List.map_cons, xdv, r1] at K
  split at ha
  · have hl1 := hNw.2.2.2 _ (List.mem_of_getElem? (of_decide_eq_true ha)) q hq
    exact va_getsN hx hb hZ hS hown (va_Nw.use rfl hl1) (fun x hx => hx) hd K
  · exact va_gets hx hb hZ hS hown (hts _ (xw (of_decide_eq_true ha) rfl)) (fun x hx => hx) hd K
end
