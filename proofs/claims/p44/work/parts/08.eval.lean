section
variable {p : Program} {l : Launch} {e : Env} {R : Room} {s : State} {m : MethodId} {args : Array Value} {below : List Frame} {meth : Method} {c : Code} {Q : State → Prop} {r : Nat → Value} {D : va_G} {dA : Nat → ClassId} {A : Nat → Prop} {H0 : Heap} {n0 z0 : Nat} {ad0 : Nat → Nat} {mi pc : Nat} {lo : xL} {st : List Jvm.Term} {h : xH} {E : List xB} {β : Type} {res : β} {k : Nat → xL → List Jvm.Term → xH → List xB → Option β}
theorem xcpy_get {f g : Nat → Int32} {lf lg : List Jvm.Term} {ad : Nat → Nat} {sp dp n : Nat} (hf : f = fun j => xti (xdv r ad (lf.getD j (.int 0)))) (hg : g = fun j => xti (xdv r ad (lg.getD j (.int 0)))) (h1 : sp + n ≤ lf.length) (h2 : dp + n ≤ lg.length) :
    va_cpy f g sp dp n = fun j => xti (xdv r ad ((lg.take dp ++ ((lf.drop sp).take n ++ lg.drop (dp + n))).getD j (.int 0))) := by
  funext j
  rw [List.getD_eq_getElem?_getD]
  by_cases hj : dp ≤ j ∧ j < dp + n
  · rw [pk_cpy_in hj.1 hj.2, hf]
    simp only [List.getD_eq_getElem?_getD]
    rw [List.getElem?_append_right (by rw [List.length_take]; omega), List.getElem?_append_left (by rw [List.length_take, List.length_take, List.length_drop]; omega), List.getElem?_take, List.length_take, if_pos (by omega), List.getElem?_drop]
    congr 4
    rw [Nat.min_eq_left (by omega)]
  · rw [pk_cpy_out (by omega), hg]
    simp only [List.getD_eq_getElem?_getD]
    by_cases hj1 : j < dp
    · rw [List.getElem?_append_left (by rw [List.length_take]; omega), List.getElem?_take, if_pos hj1]
    · rw [List.getElem?_append_right (by rw [List.length_take]; omega), List.getElem?_append_right (by rw [List.length_take, List.length_take, List.length_drop]; omega), List.getElem?_drop, List.length_take, List.length_take, List.length_drop]
      congr 4
      omega
theorem xs_native (G : xCx p R s m args meth c r D dA A H0 mi) {idx ln p0 cm a1 b1 d1 : Nat} (hd : decode (xb mi) pc = .ok (.invokestatic idx, 3)) (ha : xau mi (.invokestatic idx) ln [p0, cm, a1, b1, d1] = true) (hs : xsp mi pc (.invokestatic idx, ln, [p0, cm, a1, b1, d1]) lo st h E k = some res) :
    xR1 p l e R s m args below meth c Q r D dA A H0 n0 z0 ad0 (xm mi) pc lo st h E β k res := by
  obtain ⟨hx, hb, hml, hts, hK, hNw, hown, hr, hA, hin, hRf, hRl, hSc⟩ := G
  simp only [xsp, xhg_eq] at hs
  rcases st with _ | ⟨b, _ | ⟨a, s'⟩⟩
  · cases hs
  · cases hs
  simp only at hs
  cases h1 : (Nat.ble s'.length 6 && (s'.all (fun t => !(xG t)) && (xI a && xI b))) with
  | false => simp [h1] at hs
  | true =>
  simp only [h1, cond_true] at hs
  simp only [Bool.and_eq_true] at h1
  obtain ⟨hl6', hall, hIa, hIb⟩ := h1
  have hl6 := Nat.le_of_ble_eq_true hl6'
  clear hl6'
  simp only [xau, Bool.and_eq_true] at ha
  obtain ⟨-, ha⟩ := ha
  cases h901 : Nat.beq cm 901 with
  | true =>
    rw [h901] at ha hs
    simp only [Bool.and_eq_true, decide_eq_true_eq] at ha
    simp only [cond_true, xpu, xfT_eq, xfN_eq] at hs
    refine ⟨_, _, _, _, _, hs, fun q => q, Nat.le_refl _, Nat.le_refl _, fun hc9 hs9 _ C hn hz hw0 ad H locs ls hag hP hD hS hl => ?_⟩
    have K := C hn hz hw0 ad H locs ls hag hP hD hS hl
    have h2 := xsum hr ad hall
    have hv : xdv r ad (xb2 .fcmpl a b) = xo2 .fcmpl (xdv r ad a) (xdv r ad b) := by
      cases hxa : xlit a <;> cases hxb : xlit b <;> simp only [xb2, hxa, hxb] <;> first | rfl | (rw [xlit_eq hxa, xlit_eq hxb]; rfl)
    simp only [List.map_cons] at K ⊢
    rw [hv] at K
    rw [xI_dv hr ad hIa, xI_dv hr ad hIb]
    exact va_mmax hx hb (by rw [hml]; exact hl.1.symm) hown (hts _ (xw ha.1 rfl)) (hts _ (xw ha.2.1 rfl)) (hts _ (xw ha.2.2.1 rfl)) (hts _ (xw ha.2.2.2 rfl)) hRf (by omega) hc9 hs9 hd K
  | false =>
  rw [h901] at ha hs
  simp only [cond_false] at ha hs
  cases h902 : Nat.beq cm 902 with
  | true =>
    rw [h902] at ha hs
    simp only [Bool.and_eq_true, decide_eq_true_eq] at ha
    simp only [cond_true, xpu, xfT_eq, xfN_eq] at hs
    refine ⟨_, _, _, _, _, hs, fun q => q, Nat.le_refl _, Nat.le_refl _, fun hc9 hs9 _ C hn hz hw0 ad H locs ls hag hP hD hS hl => ?_⟩
    have K := C hn hz hw0 ad H locs ls hag hP hD hS hl
    have h2 := xsum hr ad hall
    have hv : xdv r ad (xb2 .fcmpg a b) = xo2 .fcmpg (xdv r ad a) (xdv r ad b) := by
      cases hxa : xlit a <;> cases hxb : xlit b <;> simp only [xb2, hxa, hxb] <;> first | rfl | (rw [xlit_eq hxa, xlit_eq hxb]; rfl)
    simp only [List.map_cons] at K ⊢
    rw [hv] at K
    rw [xI_dv hr ad hIa, xI_dv hr ad hIb]
    exact va_mmin hx hb (by rw [hml]; exact hl.1.symm) hown (hts _ (xw ha.1 rfl)) (hts _ (xw ha.2.1 rfl)) (hts _ (xw ha.2.2.1 rfl)) (hts _ (xw ha.2.2.2 rfl)) hRf (by omega) hc9 hs9 hd K
  | false =>
  rw [h902] at ha hs
  simp only [cond_false] at ha hs
  cases h903 : Nat.beq cm 903 with
  | false => rw [h903] at hs; cases hs
  | true =>
  rw [h903] at hs
  simp only [cond_true] at hs
  simp only [Bool.and_eq_true, decide_eq_true_eq] at ha
  cases b <;> first | (cases hs; done) | skip
  rename_i n
  cases a <;> first | (cases hs; done) | skip
  rename_i dp
  rcases s' with _ | ⟨u1, s'⟩
  · cases hs
  cases u1 <;> first | (cases hs; done) | skip
  rename_i q1
  rcases s' with _ | ⟨u2, s'⟩
  · cases hs
  cases u2 <;> first | (cases hs; done) | skip
  rename_i sp
  rcases s' with _ | ⟨u3, s'⟩
  · cases hs
  cases u3 <;> first | (cases hs; done) | skip
  rename_i q0
  simp only at hs
  cases hc0 : h[q0]? with
  | none => simp [hc0] at hs
  | some c0 =>
  cases hc1 : h[q1]? with
  | none => simp [hc0, hc1] at hs
  | some c1 =>
  simp only [hc0, hc1] at hs
  cases h2 : (Nat.beq c0.1 20 && (Nat.beq c1.1 20 && ((!decide (sp < 0)) && ((!decide (dp < 0)) && ((!decide (n < 0)) && (Nat.ble (sp.toNatClampNeg + n.toNatClampNeg) c0.2.length && Nat.ble (dp.toNatClampNeg + n.toNatClampNeg) c1.2.length)))))) with
  | false => simp [h2] at hs
  | true =>
  simp only [h2, cond_true, xfL_eq, xst_eq, xfN_eq] at hs
  simp only [Bool.and_eq_true, Bool.not_eq_true', decide_eq_false_iff_not] at h2
  obtain ⟨k0, k1, k2, k3, k4, k5, k6⟩ := h2
  have e0 : c0.1 = 20 := Nat.eq_of_beq_eq_true k0
  have e1 : c1.1 = 20 := Nat.eq_of_beq_eq_true k1
  have k5 := Nat.le_of_ble_eq_true k5
  have k6 := Nat.le_of_ble_eq_true k6
  have hlen : (c1.2.take dp.toNatClampNeg ++ ((c0.2.drop sp.toNatClampNeg).take n.toNatClampNeg ++ c1.2.drop (dp.toNatClampNeg + n.toNatClampNeg))).length = c1.2.length := by
    simp only [List.length_append, List.length_take, List.length_drop]
    omega
  have hz' : xhz (h.set q1 (20, c1.2.take dp.toNatClampNeg ++ ((c0.2.drop sp.toNatClampNeg).take n.toNatClampNeg ++ c1.2.drop (dp.toNatClampNeg + n.toNatClampNeg)))) = xhz h := xhz_set hc1 hlen
  refine ⟨_, _, _, _, _, hs, fun q => q, by rw [List.length_set]; exact Nat.le_refl _, by rw [hz']; exact Nat.le_refl _, fun _ _ _ C hn hz hw0 ad H locs ls hag hP hD hS hl => ?_⟩
  have he0 := xwv_at (r := r) (ad := ad) (dA := dA) hc0
  have he1 := xwv_at (r := r) (ad := ad) (dA := dA) hc1
  rw [xcv_int e0] at he0
  rw [xcv_int e1] at he1
  have hw : (xwv r ad dA h).set q1 (ad q1, .inl (dA 0, c1.2.length, .inl (va_cpy (fun j => xti (xdv r ad (c0.2.getD j (.int 0)))) (fun j => xti (xdv r ad (c1.2.getD j (.int 0)))) sp.toNatClampNeg dp.toNatClampNeg n.toNatClampNeg))) = xwv r ad dA (h.set q1 (20, c1.2.take dp.toNatClampNeg ++ ((c0.2.drop sp.toNatClampNeg).take n.toNatClampNeg ++ c1.2.drop (dp.toNatClampNeg + n.toNatClampNeg)))) := by
    rw [← xwv_set hc1, xcv_int (c := (20, _)) rfl, xcpy_get rfl rfl k5 k6]
    simp only [hlen]
  have hw1 : xhw (h.set q1 (20, c1.2.take dp.toNatClampNeg ++ ((c0.2.drop sp.toNatClampNeg).take n.toNatClampNeg ++ c1.2.drop (dp.toNatClampNeg + n.toNatClampNeg)))) := xhw_set hw0 xokc_20
  unfold xCf at C
  rw [List.length_set, hz'] at C
  simp only [List.all_cons, Bool.and_eq_true] at hall
  have h3 := xsum hr ad hall.2.2.2
  simp only [List.length_cons] at hl6
  refine va_copyi hx hb (by rw [hml]; exact hl.1.symm) hown (hts _ (xw ha.1 rfl)) (hts _ (xw ha.2.1 rfl)) (hts _ (xw ha.2.2.1 rfl)) (hts _ (xw ha.2.2.2 rfl)) hK hP hD hS q0 q1 0 0 he0 he1 rfl rfl rfl k2 k3 k4 k5 k6 (fun i _ => rfl) hRf ?_ hd (fun H1 locs1 hP1 hD1 hS1 => ?_)
  · have : nativeFrameWords "java/lang/System" "arraycopy" 5 + 11 ≤ 50 := by decide
    omega
  · rw [hw] at hP1 hD1
    exact C hn hz hw1 ad H1 locs1 ls hag hP1 hD1 hS1 hl
end
-- ===== the evaluator
def xal (i : Nat) (l : List Jvm.Term) : xL := match l with
  | [] => []
  | t :: ts => (i, t) :: xal (bif xG t then i + 2 else i + 1) ts
def xasz (l : List Jvm.Term) : Nat := match l with
  | [] => 0
  | t :: ts => (bif xG t then 2 else 1) + xasz ts
def xtk (n : Nat) (st acc : List Jvm.Term) : Option (List Jvm.Term × List Jvm.Term) := match n with
  | 0 => some (acc, st)
  | n + 1 => match st with
    | [] => none
    | t :: s => xtk n s (t :: acc)
def xrt (ty : Option FieldType) (t : Jvm.Term) : Bool := match ty with
  | some .int => xI t
  | some .boolean => match xlit t with
    | some v => decide (v = 0) || decide (v = 1)
    | none => false
  | _ => false
def xrr (ty : Option FieldType) (t : Jvm.Term) : Bool := match ty with
  | some (.object _) => xF t
  | some (.array _) => xF t
  | _ => false
def xcc (n : Nat) (lo : xL) (s : List Jvm.Term) : Bool := Nat.ble s.length 6 && (s.all (fun t => !(xG t)) && (lo.all (fun q => xidx n q.2) && s.all (xidx n)))
abbrev xO : Type := Option Jvm.Term × xH × List xB
def xpr (v : Option Jvm.Term) (st : List Jvm.Term) : List Jvm.Term := match v with
  | none => st
  | some t => t :: st
-- ===== indexOf
def jce (c : Int32) : Int32 := if c < 0 then 0 else if 255 < c then 0 else 1
/-- the loop's answer: from place k on, n places left -/
def jlp (tx : String) (b : Int32) (n k : Nat) : Int32 := match n with
  | 0 => -1
  | n + 1 => if xchr tx k = b then Int32.ofNat k else jlp tx b n (k + 1)
def jix (tx : String) (x : Int32) : Int32 := if jce x = 0 then -1 else jlp tx x.toInt8.toInt32 4 0
/-- the stack behind indexOf of a String constant -/
def xixs (d n : Nat) (lo : xL) (st : List Jvm.Term) : Option (List Jvm.Term) := match st with
  | .int x :: .arg z :: s' => (match Nat.ble 4 d && (Nat.ble 101 z && xcc n lo s') with
    | false => none
    | true => match xstra (z - 101) with
      | some q => some (.int (jix q.2.2 x) :: s')
      | none => none)
  | _ => none
theorem xixs_ok {d n : Nat} {lo : xL} {st st' : List Jvm.Term} (h : xixs d n lo st = some st') : ∃ (x : Int32) (z : Nat) (q : Nat × Nat × String) (s' : List Jvm.Term), st = .int x :: .arg z :: s' ∧ (Nat.ble 4 d && (Nat.ble 101 z && xcc n lo s')) = true ∧ xstra (z - 101) = some q ∧ st' = .int (jix q.2.2 x) :: s' := by
  unfold xixs at h
  split at h
  · rename_i x z s'
    split at h
    · cases h
    · rename_i hk
      split at h
      · rename_i q hq
        cases h
        exact ⟨x, z, q, s', rfl, hk, hq, rfl⟩
      · cases h
  · cases h
noncomputable def xev (f : Nat) (d mi pc : Nat) (lo : xL) (st : List Jvm.Term) (h : xH) (E : List xB) : Option xO := match f with
  | 0 => none
  | f + 1 => match xcd mi pc with
    | none => none
    | some e => match e.1 with
      | .return_ => match st with
        | [] => (match xr mi with
          | none => some (none, h, E)
          | some _ => none)
        | _ => none
      | .ireturn => match st with
        | [t] => bif xrt (xr mi) t then some (some t, h, E) else none
        | _ => none
      | .areturn => match st with
        | [t] => bif xrr (xr mi) t then some (some t, h, E) else none
        | _ => none
      | .invokevirtual _ => match e.2.2 with
        | [_, cm, _, _, _] => match d with
          | 0 => none
          | d' + 1 => match xtk (xn cm) st [] with
            | none => none
            | some q => match q.2 with
              | .index a :: s' => match xhg h a with
                | none => none
                | some c => bif Nat.beq c.1 (xo cm) && (Nat.ble c.1 12 && (Nat.ble (xasz (.index a :: q.1)) (xm cm) && xcc h.length lo s')) then (match xev f d' cm 0 (xal 0 (.index a :: q.1)) [] h E with
                  | none => none
                  | some o => xfN (pc + 3) fun pc' => xev f (d' + 1) mi pc' lo (xpr o.1 s') o.2.1 (E.drop (E.length - o.2.2.length))) else none
              | _ => none
        | [_, _, _, _, _, _] => match xixs d h.length lo st with
          | none => none
          | some st' => xfN (pc + 3) fun pc' => xev f d mi pc' lo st' h E
        | _ => none
      | .invokespecial _ => match e.2.2 with
        | [_, cm, _, _] => bif Nat.beq cm 900 then xsp mi pc e lo st h E (fun pc lo st h E => xev f d mi pc lo st h E) else (match d with
          | 0 => none
          | d' + 1 => match xtk (xn cm) st [] with
            | none => none
            | some q => match q.2 with
              | .index a :: s' => bif Nat.ble (xasz (.index a :: q.1)) (xm cm) && xcc h.length lo s' then (match xev f d' cm 0 (xal 0 (.index a :: q.1)) [] h E with
                  | none => none
                  | some o => xfN (pc + 3) fun pc' => xev f (d' + 1) mi pc' lo (xpr o.1 s') o.2.1 (E.drop (E.length - o.2.2.length))) else none
              | _ => none)
        | _ => none
      | .invokestatic _ => match e.2.2 with
        | [_, cm, _, _] => match d with
          | 0 => none
          | d' + 1 => match xtk (xn cm) st [] with
            | none => none
            | some q => bif Nat.ble (xasz q.1) (xm cm) && xcc h.length lo q.2 then (match xev f d' cm 0 (xal 0 q.1) [] h E with
                  | none => none
                  | some o => xfN (pc + 3) fun pc' => xev f (d' + 1) mi pc' lo (xpr o.1 q.2) o.2.1 (E.drop (E.length - o.2.2.length))) else none
        | [_, _, _, _, _] => xsp mi pc e lo st h E (fun pc lo st h E => xev f d mi pc lo st h E)
        | _ => none
      | _ => xsp mi pc e lo st h E (fun pc lo st h E => xev f d mi pc lo st h E)
