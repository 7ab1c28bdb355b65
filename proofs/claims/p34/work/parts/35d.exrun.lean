-- ===== the evaluator: a method's ends, or the ends of a stretch
abbrev yQ : Type := List yS × List yR
def yal (F : yS → Option yQ) (l : List yS) : Option yQ := match l with
  | [] => some ([], [])
  | S :: t => match F S with
    | none => none
    | some p => match yal F t with
      | none => none
      | some q => some (p.1 ++ q.1, p.2 ++ q.2)
def yrl (F : yR → Option yQ) (l : List yR) : Option yQ := match l with
  | [] => some ([], [])
  | S :: t => match F S with
    | none => none
    | some p => match yrl F t with
      | none => none
      | some q => some (p.1 ++ q.1, p.2 ++ q.2)
/-- a state, worked out -/
noncomputable def yfS {β : Type} (S : yS) (k : yS → β) : β := xfN S.1 fun pc => xfL S.2.1 fun lo => xfL S.2.2.1 fun st => xfL S.2.2.2.1 fun ov => xfL S.2.2.2.2.1 fun C => xfL S.2.2.2.2.2 fun W => k (pc, lo, st, ov, C, W)
theorem yfS_eq {β : Type} (S : yS) (k : yS → β) : yfS S k = k S := by
  unfold yfS
  simp only [xfN_eq, xfL_eq]
noncomputable def ygo (stops : List Nat) (F : yS → Option yQ) (S : yS) : Option yQ := yfS S fun S => bif stops.any (Nat.beq S.1) then some ([S], []) else F S
def yct (A : yA) (lo : xL) (s : List Jvm.Term) : Bool := Nat.ble s.length 6 && (s.all (fun t => !(xG t)) && (lo.all (fun q => yxi A q.2) && s.all (yxi A)))
def yrs (o : Option yQ) (F : yR → Option yQ) : Option yQ := match o with
  | none => none
  | some q => match q.1 with
    | [] => yrl F q.2
    | _ => none
/-- indexOf of a String constant, literally -/
def yxs (A : yA) (lo : xL) (st : List Jvm.Term) : Option (List Jvm.Term) := match st with
  | .int x :: .arg z :: s' => (match (Nat.ble 101 z && Nat.ble z 141) && yct A lo s' with
    | false => none
    | true => match xstra (z - 101) with
      | some q => some (.int (jix q.2.2 x) :: s')
      | none => none)
  | _ => none
/-- a call of an int whose answer is told -/
def ypl (l : List (Nat × Jvm.Term × Jvm.Term)) (cm : Nat) (t : Jvm.Term) : Option Jvm.Term := match l with
  | [] => none
  | q :: l => match Nat.beq q.1 cm && (xq q.2.1 t && (xI t && xI q.2.2)) with
    | true => some q.2.2
    | false => ypl l cm t
def yp1 (A : yA) (cm : Nat) (st : List Jvm.Term) : Option (Jvm.Term × List Jvm.Term) := match st with
  | [] => none
  | t :: s => match ypl A.2.2.2.2 cm t with
    | none => none
    | some u => some (u, s)
noncomputable def yev (A : yA) (f : Nat) (d mi : Nat) (stops : List Nat) (S : yS) : Option yQ := match f with
  | 0 => none
  | f + 1 => match xcd mi S.1 with
    | none => none
    | some e => match e.1 with
      | .return_ => match S.2.2.1 with
        | [] => (match xr mi with
          | none => some ([], [(none, S.2.2.2)])
          | some _ => none)
        | _ => none
      | .ireturn => match S.2.2.1 with
        | [t] => bif xrt (xr mi) t then some ([], [(some t, S.2.2.2)]) else none
        | _ => none
      | .areturn => match S.2.2.1 with
        | [t] => bif xrr (xr mi) t then some ([], [(some t, S.2.2.2)]) else none
        | _ => none
      | .invokespecial _ => none
      | .invokevirtual _ => match e.2.2 with
        | [_, cm, _, _, _] => match d with
          | 0 => none
          | d' + 1 => match xtk (xn cm) S.2.2.1 [] with
            | none => none
            | some q => match q.2 with
              | .index n :: s' => match A.1 n with
                | none => none
                | some z => bif Nat.beq z.1 (xo cm) && (Nat.ble z.1 12 && (Nat.ble (xasz (.index n :: q.1)) (xm cm) && yct A S.2.1 s')) then xfN (S.1 + 3) fun pc' =>
                    yrs (yev A f d' cm [] (0, xal 0 (.index n :: q.1), [], S.2.2.2)) (fun R => ygo stops (fun U => yev A f (d' + 1) mi stops U) (pc', S.2.1, xpr R.1 s', R.2)) else none
              | _ => none
        | [_, _, _, _, _, _] => bif Nat.ble 4 d then (match yxs A S.2.1 S.2.2.1 with
          | none => none
          | some st' => xfN (S.1 + 3) fun pc' => ygo stops (fun U => yev A f d mi stops U) (pc', S.2.1, st', S.2.2.2)) else none
        | _ => none
      | .invokestatic _ => match e.2.2 with
        | [_, cm, _, _] => match d with
          | 0 => none
          | d' + 1 => match yp1 A cm S.2.2.1 with
            | some p => bif Nat.ble 5 d' && (Nat.beq (xn cm) 1 && (Nat.ble 1 (xm cm) && yct A S.2.1 p.2)) then xfN (S.1 + 3) fun pc' =>
                ygo stops (fun U => yev A f (d' + 1) mi stops U) (pc', S.2.1, p.1 :: p.2, S.2.2.2) else none
            | none => match xtk (xn cm) S.2.2.1 [] with
              | none => none
              | some q => bif Nat.ble (xasz q.1) (xm cm) && yct A S.2.1 q.2 then xfN (S.1 + 3) fun pc' =>
                  yrs (yev A f d' cm [] (0, xal 0 q.1, [], S.2.2.2)) (fun R => ygo stops (fun U => yev A f (d' + 1) mi stops U) (pc', S.2.1, xpr R.1 q.2, R.2)) else none
        | [_, _, _, _, _] => match yst A mi S.1 e S.2.1 S.2.2.1 S.2.2.2 with
          | none => none
          | some l => yal (ygo stops (fun U => yev A f d mi stops U)) l
        | _ => none
      | _ => match yst A mi S.1 e S.2.1 S.2.2.1 S.2.2.2 with
        | none => none
        | some l => yal (ygo stops (fun U => yev A f d mi stops U)) l
def yEnd (A : yA) (r : Nat → Value) (g : Nat → Nat) (h0 : xH) (d mi pc : Nat) (lo : xL) (st : List Jvm.Term) (h : xH) (R : yQ) : Prop :=
  (∃ q ∈ R.1, ∃ h', yok A r g h0 q.2.2.2 h' ∧ bldD d mi pc lo st h q.1 (ylo r g q.2.1) (q.2.2.1.map (ysb r g)) h') ∨ (∃ q ∈ R.2, ∃ h', yok A r g h0 q.2 h' ∧ ∀ D, d ≤ D → xrun D mi pc lo st h (q.1.map (ysb r g), h', []))
section
variable {A : yA} {r : Nat → Value} {g : Nat → Nat} {h0 h h1 : xH} {d mi pc pc1 : Nat} {lo lo1 : xL} {st st1 : List Jvm.Term}
theorem yEnd_led {R : yQ} (hl : bldD d mi pc lo st h pc1 lo1 st1 h1) (H : yEnd A r g h0 d mi pc1 lo1 st1 h1 R) : yEnd A r g h0 d mi pc lo st h R := by
  rcases H with ⟨q, hq, h', k, l⟩ | ⟨q, hq, h', k, l⟩
  · exact Or.inl ⟨q, hq, h', k, fun D hD o z => hl D hD o (l D hD o z)⟩
  · exact Or.inr ⟨q, hq, h', k, fun D hD => hl D hD _ (l D hD)⟩
theorem yEnd_more {R R' : yQ} (h1 : ∀ q ∈ R.1, q ∈ R'.1) (h2 : ∀ q ∈ R.2, q ∈ R'.2) (H : yEnd A r g h0 d mi pc lo st h R) : yEnd A r g h0 d mi pc lo st h R' := by
  rcases H with ⟨q, hq, k⟩ | ⟨q, hq, k⟩
  · exact Or.inl ⟨q, h1 q hq, k⟩
  · exact Or.inr ⟨q, h2 q hq, k⟩
theorem yal_in {F : yS → Option yQ} : ∀ {l : List yS} {R : yQ} {S : yS}, yal F l = some R → S ∈ l → ∃ P, F S = some P ∧ (∀ q ∈ P.1, q ∈ R.1) ∧ ∀ q ∈ P.2, q ∈ R.2 := by
  intro l
  induction l with
  | nil => intro R S _ hS; cases hS
  | cons T t ih =>
    intro R S h hS
    simp only [yal] at h
    cases h1 : F T with
    | none => rw [h1] at h; cases h
    | some p =>
      rw [h1] at h
      simp only at h
      cases h2 : yal F t with
      | none => rw [h2] at h; cases h
      | some q =>
        rw [h2] at h
        cases h
        rcases List.mem_cons.mp hS with e | hS
        · subst e
          exact ⟨p, h1, fun z hz => List.mem_append.mpr (Or.inl hz), fun z hz => List.mem_append.mpr (Or.inl hz)⟩
        · obtain ⟨P, k1, k2, k3⟩ := ih h2 hS
          exact ⟨P, k1, fun z hz => List.mem_append.mpr (Or.inr (k2 z hz)), fun z hz => List.mem_append.mpr (Or.inr (k3 z hz))⟩
theorem yrl_in {F : yR → Option yQ} : ∀ {l : List yR} {R : yQ} {S : yR}, yrl F l = some R → S ∈ l → ∃ P, F S = some P ∧ (∀ q ∈ P.1, q ∈ R.1) ∧ ∀ q ∈ P.2, q ∈ R.2 := by
  intro l
  induction l with
  | nil => intro R S _ hS; cases hS
  | cons T t ih =>
    intro R S h hS
    simp only [yrl] at h
    cases h1 : F T with
    | none => rw [h1] at h; cases h
    | some p =>
      rw [h1] at h
      simp only at h
      cases h2 : yrl F t with
      | none => rw [h2] at h; cases h
      | some q =>
        rw [h2] at h
        cases h
        rcases List.mem_cons.mp hS with e | hS
        · subst e
          exact ⟨p, h1, fun z hz => List.mem_append.mpr (Or.inl hz), fun z hz => List.mem_append.mpr (Or.inl hz)⟩
        · obtain ⟨P, k1, k2, k3⟩ := ih h2 hS
          exact ⟨P, k1, fun z hz => List.mem_append.mpr (Or.inr (k2 z hz)), fun z hz => List.mem_append.mpr (Or.inr (k3 z hz))⟩
theorem yct_ok {s : List Jvm.Term} (hs : ysh A.1 g h) (k : yct A lo s = true) : xcc h.length (ylo r g lo) (s.map (ysb r g)) = true := by
  unfold yct at k
  simp only [Bool.and_eq_true] at k
  obtain ⟨k1, k2, k3, k4⟩ := k
  unfold xcc
  rw [List.length_map, k1, notG_y k2]
  simp only [Bool.true_and, Bool.and_eq_true]
  refine ⟨?_, ?_⟩
  · unfold ylo
    rw [List.all_map]
    exact List.all_eq_true.mpr (fun q hq => yxi_ok hs (List.all_eq_true.mp k3 q hq))
  · rw [List.all_map]
    exact List.all_eq_true.mpr (fun q hq => yxi_ok hs (List.all_eq_true.mp k4 q hq))
theorem ypl_ok {l : List (Nat × Jvm.Term × Jvm.Term)} {cm : Nat} {t u : Jvm.Term} (h : ypl l cm t = some u) : (cm, t, u) ∈ l ∧ xI t = true ∧ xI u = true := by
  induction l with
  | nil => cases h
  | cons q l ih =>
    simp only [ypl] at h
    cases e : (Nat.beq q.1 cm && (xq q.2.1 t && (xI t && xI q.2.2))) with
    | true =>
      rw [e] at h
      cases h
      simp only [Bool.and_eq_true] at e
      rw [← Nat.eq_of_beq_eq_true e.1, ← xq_eq _ _ e.2.1]
      rw [← xq_eq _ _ e.2.1] at e
      exact ⟨List.mem_cons_self, e.2.2.1, e.2.2.2⟩
    | false =>
      rw [e] at h
      obtain ⟨a, b⟩ := ih h
      exact ⟨List.mem_cons_of_mem _ a, b⟩
theorem yp1_ok {cm : Nat} {u : Jvm.Term} {s : List Jvm.Term} (hA : yas A r g) (h : yp1 A cm st = some (u, s)) : ∃ t, st = t :: s ∧ xI u = true ∧ xI t = true ∧ yPu r (cm, t, u) := by
  unfold yp1 at h
  split at h
  · cases h
  · rename_i t s0
    cases e : ypl A.2.2.2.2 cm t with
    | none => rw [e] at h; cases h
    | some w =>
      rw [e] at h
      cases h
      obtain ⟨a, b, c⟩ := ypl_ok e
      exact ⟨t, rfl, c, b, hA.2.2.2.2 _ a⟩
/-- what such a runner says is right -/
def yFo (A : yA) (r : Nat → Value) (g : Nat → Nat) (h0 : xH) (d mi : Nat) (F : yS → Option yQ) : Prop := ∀ S R, F S = some R → ∀ h, yok A r g h0 S.2.2.2 h → yEnd A r g h0 d mi S.1 (ylo r g S.2.1) (S.2.2.1.map (ysb r g)) h R
theorem ygo_ok {F : yS → Option yQ} {stops : List Nat} (hF : yFo A r g h0 d mi F) : yFo A r g h0 d mi (ygo stops F) := by
  intro S R hs h H
  unfold ygo at hs
  rw [yfS_eq] at hs
  cases e : stops.any (Nat.beq S.1) with
  | true =>
    simp only [e, cond_true] at hs
    cases hs
    exact Or.inl ⟨S, List.mem_singleton.mpr rfl, h, H, fun D _ o z => z⟩
  | false =>
    simp only [e, cond_false] at hs
    exact hF S R hs h H
theorem yev_ok (hA : yas A r g) : ∀ (f d mi : Nat) (stops : List Nat), yFo A r g h0 d mi (fun S => yev A f d mi stops S) := by
  intro f
  induction f with
  | zero => intro d mi stops S R hs; cases hs
  | succ f ih =>
    intro d mi stops S R hs h H
    obtain ⟨pc, lo, st, M⟩ := S
    have hs : yev A (f + 1) d mi stops (pc, lo, st, M) = some R := hs
    have H : yok A r g h0 M h := H
    show yEnd A r g h0 d mi pc (ylo r g lo) (st.map (ysb r g)) h R
    unfold yev at hs
    cases hcd : xcd mi pc with
    | none => rw [hcd] at hs; cases hs
    | some e =>
    rw [hcd] at hs
    have plain : xpl e = true → (match yst A mi pc e lo st M with
        | none => none
        | some l => yal (ygo stops (fun U => yev A f d mi stops U)) l) = some R → yEnd A r g h0 d mi pc (ylo r g lo) (st.map (ysb r g)) h R := by
      intro hp hs
      cases hl : yst A mi pc e lo st M with
      | none => rw [hl] at hs; cases hs
      | some l =>
        rw [hl] at hs
        obtain ⟨S, hS, h', H', hx⟩ := yst_ok (h := h) (mi := mi) hA H hl
        obtain ⟨P, k1, k2, k3⟩ := yal_in hs hS
        exact yEnd_more k2 k3 (yEnd_led (fun D _ o z => xrun_step hcd hp hx z) (ygo_ok (ih d mi stops) S P k1 h' H'))
    obtain ⟨i, ln, ax⟩ := e
    cases i with
    | return_ =>
      simp only at hs
      rcases st with _ | ⟨t, s⟩
      · simp only at hs
        cases hr : xr mi with
        | some q => rw [hr] at hs; cases hs
        | none =>
          rw [hr] at hs
          cases hs
          exact Or.inr ⟨_, List.mem_singleton.mpr rfl, h, H, fun D _ => xrun_return hcd hr⟩
      · cases hs
    | ireturn =>
      simp only at hs
      rcases st with _ | ⟨t, _ | ⟨u, s⟩⟩
      · cases hs
      · simp only at hs
        cases ht : xrt (xr mi) t with
        | false => simp [ht] at hs
        | true =>
          simp only [ht, cond_true] at hs
          cases hs
          exact Or.inr ⟨_, List.mem_singleton.mpr rfl, h, H, fun D _ => xrun_ireturn hcd (xrt_y ht)⟩
      · cases hs
    | areturn =>
      simp only at hs
      rcases st with _ | ⟨t, _ | ⟨u, s⟩⟩
      · cases hs
      · simp only at hs
        cases ht : xrr (xr mi) t with
        | false => simp [ht] at hs
        | true =>
          simp only [ht, cond_true] at hs
          cases hs
          exact Or.inr ⟨_, List.mem_singleton.mpr rfl, h, H, fun D _ => xrun_areturn hcd (xrr_y ht)⟩
      · cases hs
    | invokespecial q => cases hs
    | invokevirtual q =>
      simp only at hs
      rcases ax with _ | ⟨p0, _ | ⟨cm, _ | ⟨a1, _ | ⟨b1, _ | ⟨d1, _ | ⟨x9, _ | ⟨y9, t9⟩⟩⟩⟩⟩⟩⟩ <;> first | (cases hs; done) | skip
      · simp only at hs
        cases d with
        | zero => cases hs
        | succ d' =>
        simp only at hs
        cases hk : xtk (xn cm) st [] with
        | none => rw [hk] at hs; cases hs
        | some q =>
        obtain ⟨as, s0⟩ := q
        rw [hk] at hs
        simp only at hs
        rcases s0 with _ | ⟨u, s'⟩
        · cases hs
        cases u <;> first | (cases hs; done) | skip
        rename_i n
        simp only at hs
        cases hz : A.1 n with
        | none => rw [hz] at hs; cases hs
        | some z =>
        rw [hz] at hs
        simp only at hs
        cases h1 : (Nat.beq z.1 (xo cm) && (Nat.ble z.1 12 && (Nat.ble (xasz (.index n :: as)) (xm cm) && yct A lo s'))) with
        | false => simp only [h1, cond_false] at hs; cases hs
        | true =>
        simp only [h1, cond_true, xfN_eq] at hs
        simp only [Bool.and_eq_true] at h1
        obtain ⟨k1, k2, k3, k4⟩ := h1
        obtain ⟨c, c1, c2, c3⟩ := H.1 n z hz
        have hcc := yct_ok (r := r) H.1 k4
        have hkk : (Nat.beq c.1 (xo cm) && (Nat.ble c.1 12 && (Nat.ble (xasz (.index (g n) :: as.map (ysb r g))) (xm cm) && xcc h.length (ylo r g lo) (s'.map (ysb r g))))) = true := by
          have e1 : xasz (.index (g n) :: as.map (ysb r g)) = xasz (.index n :: as) := xasz_y (l := .index n :: as)
          rw [c2, k1, k2, e1, k3, hcc]
          rfl
        unfold yrs at hs
        cases hy : yev A f d' cm [] (0, xal 0 (.index n :: as), [], M) with
        | none => rw [hy] at hs; cases hs
        | some P =>
        rw [hy] at hs
        simp only at hs
        obtain ⟨ss, rs⟩ := P
        cases ss with
        | cons a b => cases hs
        | nil =>
        simp only at hs
        rcases ih d' cm [] _ _ hy h H with ⟨q, hq, -⟩ | ⟨q, hq, h', H', hr⟩
        · cases hq
        · obtain ⟨P, k5, k6, k7⟩ := yrl_in hs hq
          have hr : ∀ D, d' ≤ D → xrun D cm 0 (xal 0 (.index (g n) :: as.map (ysb r g))) [] h (q.1.map (ysb r g), h', []) := fun D hD => by
            have w := hr D hD
            rw [show ylo r g (xal 0 (.index n :: as)) = xal 0 (.index (g n) :: as.map (ysb r g)) from (xal_y (l := .index n :: as)).symm] at w
            exact w
          refine yEnd_more k6 k7 (yEnd_led (fun D hD o hz => ?_) (ygo_ok (ih (d' + 1) mi stops) _ P k5 h' H'))
          obtain ⟨D', rfl⟩ : ∃ D', D = D' + 1 := ⟨D - 1, by omega⟩
          refine xrun_virtual hcd (xtk_y hk) c1 hkk (hr D' (by omega)) ?_
          have e2 : xpr (q.1.map (ysb r g)) (s'.map (ysb r g)) = (xpr q.1 s').map (ysb r g) := by cases q.1 <;> rfl
          rw [e2]
          exact hz
      · simp only at hs
        cases h4 : Nat.ble 4 d with
        | false => simp [h4] at hs
        | true =>
        simp only [h4, cond_true] at hs
        cases hx : yxs A lo st with
        | none => rw [hx] at hs; cases hs
        | some st' =>
        rw [hx] at hs
        simp only [xfN_eq] at hs
        refine yEnd_led (fun D hD o hz => ?_) (ygo_ok (ih d mi stops) _ R hs h H)
        refine xrun_ix hcd ?_ hz
        unfold yxs at hx
        split at hx
        · rename_i x z s'
          split at hx
          · cases hx
          · rename_i hk
            simp only [Bool.and_eq_true] at hk
            obtain ⟨⟨w1, w2⟩, w3⟩ := hk
            split at hx
            · rename_i q hq
              cases hx
              have l1 := Nat.le_of_ble_eq_true w1
              have l2 := Nat.le_of_ble_eq_true w2
              have ez : ysb r g (.arg z) = .arg z := by
                obtain ⟨j, rfl⟩ : ∃ j, z = 101 + j := ⟨z - 101, by omega⟩
                exact ysb_sr (Nat.ble_eq_true_of_le (by omega))
              have hkk : (Nat.ble 4 D && (Nat.ble 101 z && xcc h.length (ylo r g lo) (s'.map (ysb r g)))) = true := by
                rw [Nat.ble_eq_true_of_le (Nat.le_trans (Nat.le_of_ble_eq_true h4) hD), w1, yct_ok H.1 w3]
                rfl
              show xixs D h.length (ylo r g lo) (.int x :: ysb r g (.arg z) :: s'.map (ysb r g)) = _
              rw [ez]
              simp only [xixs, hkk, hq]
              rfl
            · cases hx
        · cases hx
    | invokestatic q =>
      simp only at hs
      rcases ax with _ | ⟨p0, _ | ⟨cm, _ | ⟨a1, _ | ⟨b1, _ | ⟨d1, _ | ⟨x9, t9⟩⟩⟩⟩⟩⟩ <;> first | (cases hs; done) | skip
      · simp only at hs
        cases d with
        | zero => cases hs
        | succ d' =>
        simp only at hs
        cases hp1 : yp1 A cm st with
        | some p =>
          rw [hp1] at hs
          simp only at hs
          obtain ⟨u, s'⟩ := p
          cases h1 : (Nat.ble 5 d' && (Nat.beq (xn cm) 1 && (Nat.ble 1 (xm cm) && yct A lo s'))) with
          | false => simp only [h1, cond_false] at hs; cases hs
          | true =>
          simp only [h1, cond_true, xfN_eq] at hs
          simp only [Bool.and_eq_true] at h1
          obtain ⟨k1, k2, k3, k4⟩ := h1
          obtain ⟨t, e1, iu, it, hP⟩ := yp1_ok hA hp1
          subst e1
          have hcc := yct_ok (r := r) H.1 k4
          refine yEnd_led (fun D hD o hz => ?_) (ygo_ok (ih (d' + 1) mi stops) _ R hs h H)
          obtain ⟨D', rfl⟩ : ∃ D', D = D' + 1 := ⟨D - 1, by omega⟩
          have l5 := Nat.le_of_ble_eq_true k1
          have hkk : (Nat.ble (xasz [ysb r g t]) (xm cm) && xcc h.length (ylo r g lo) (s'.map (ysb r g))) = true := by
            rw [ysb_I it, show xasz [Jvm.Term.int (yv r t)] = 1 from rfl, k3, hcc]
            rfl
          have htk : xtk (xn cm) ((t :: s').map (ysb r g)) [] = some ([ysb r g t], s'.map (ysb r g)) := by
            rw [Nat.eq_of_beq_eq_true k2]
            rfl
          refine xrun_static (v := some (.int (yv r u))) hcd htk hkk ?_ ?_
          · rw [ysb_I it]
            exact hP h D' (by omega)
          · have e2 : xpr (some (Jvm.Term.int (yv r u))) (s'.map (ysb r g)) = (u :: s').map (ysb r g) := by
              show Jvm.Term.int (yv r u) :: s'.map (ysb r g) = ysb r g u :: s'.map (ysb r g)
              rw [ysb_I iu]
            rw [e2]
            exact hz
        | none =>
        rw [hp1] at hs
        simp only at hs
        cases hk : xtk (xn cm) st [] with
        | none => rw [hk] at hs; cases hs
        | some q =>
        obtain ⟨as, s'⟩ := q
        rw [hk] at hs
        simp only at hs
        cases h1 : (Nat.ble (xasz as) (xm cm) && yct A lo s') with
        | false => simp only [h1, cond_false] at hs; cases hs
        | true =>
        simp only [h1, cond_true, xfN_eq] at hs
        simp only [Bool.and_eq_true] at h1
        obtain ⟨k3, k4⟩ := h1
        have hcc := yct_ok (r := r) H.1 k4
        have hkk : (Nat.ble (xasz (as.map (ysb r g))) (xm cm) && xcc h.length (ylo r g lo) (s'.map (ysb r g))) = true := by
          rw [xasz_y, k3, hcc]
          rfl
        unfold yrs at hs
        cases hy : yev A f d' cm [] (0, xal 0 as, [], M) with
        | none => rw [hy] at hs; cases hs
        | some P =>
        rw [hy] at hs
        simp only at hs
        obtain ⟨ss, rs⟩ := P
        cases ss with
        | cons a b => cases hs
        | nil =>
        simp only at hs
        rcases ih d' cm [] _ _ hy h H with ⟨q, hq, -⟩ | ⟨q, hq, h', H', hr⟩
        · cases hq
        · obtain ⟨P, k5, k6, k7⟩ := yrl_in hs hq
          have hr : ∀ D, d' ≤ D → xrun D cm 0 (xal 0 (as.map (ysb r g))) [] h (q.1.map (ysb r g), h', []) := fun D hD => by
            have w := hr D hD
            rw [show ylo r g (xal 0 as) = xal 0 (as.map (ysb r g)) from xal_y.symm] at w
            exact w
          refine yEnd_more k6 k7 (yEnd_led (fun D hD o hz => ?_) (ygo_ok (ih (d' + 1) mi stops) _ P k5 h' H'))
          obtain ⟨D', rfl⟩ : ∃ D', D = D' + 1 := ⟨D - 1, by omega⟩
          refine xrun_static hcd (xtk_y hk) hkk (hr D' (by omega)) ?_
          have e2 : xpr (q.1.map (ysb r g)) (s'.map (ysb r g)) = (xpr q.1 s').map (ysb r g) := by cases q.1 <;> rfl
          rw [e2]
          exact hz
      · exact plain rfl hs
    | _ => exact plain rfl hs
end
-- ===== terms, states compared
def ytq (a b : Jvm.Term) : Bool := match a with
  | .index n => (match b with
    | .index m => Nat.beq n m
    | _ => false)
  | .null => (match b with
    | .null => true
    | _ => false)
  | a => xq a b
theorem ytq_eq {a b : Jvm.Term} (h : ytq a b = true) : a = b := by
  cases a <;> first | exact xq_eq _ _ h | skip
  · cases b <;> first | rfl | (cases h; done)
  · cases b <;> first | (cases h; done) | skip
    rw [Nat.eq_of_beq_eq_true h]
def yll {α : Type} (f : α → α → Bool) (a b : List α) : Bool := match a, b with
  | [], [] => true
  | x :: a, y :: b => f x y && yll f a b
  | _, _ => false
theorem yll_eq {α : Type} {f : α → α → Bool} (hf : ∀ x y, f x y = true → x = y) : ∀ {a b : List α}, yll f a b = true → a = b := by
  intro a
  induction a with
  | nil =>
    intro b h
    cases b with
    | nil => rfl
    | cons y b => cases h
  | cons x a ih =>
    intro b h
    cases b with
    | nil => cases h
    | cons y b =>
      simp only [yll, Bool.and_eq_true] at h
      rw [hf x y h.1, ih h.2]
def ylq (a b : Nat × Jvm.Term) : Bool := Nat.beq a.1 b.1 && ytq a.2 b.2
theorem ylq_eq (a b : Nat × Jvm.Term) (h : ylq a b = true) : a = b := by
  obtain ⟨a1, a2⟩ := a
  obtain ⟨b1, b2⟩ := b
  simp only [ylq, Bool.and_eq_true] at h
  rw [Nat.eq_of_beq_eq_true h.1, ytq_eq h.2]
def yoq (a b : Nat × Jvm.Term × Jvm.Term) : Bool := Nat.beq a.1 b.1 && (ytq a.2.1 b.2.1 && ytq a.2.2 b.2.2)
theorem yoq_eq (a b : Nat × Jvm.Term × Jvm.Term) (h : yoq a b = true) : a = b := by
  obtain ⟨a1, a2, a3⟩ := a
  obtain ⟨b1, b2, b3⟩ := b
  simp only [yoq, Bool.and_eq_true] at h
  rw [Nat.eq_of_beq_eq_true h.1, ytq_eq h.2.1, ytq_eq h.2.2]
def ycq (a b : xB) : Bool := decide (a.1 = b.1) && (ytq a.2.1 b.2.1 && (ytq a.2.2.1 b.2.2.1 && decide (a.2.2.2 = b.2.2.2)))
theorem ycq_eq (a b : xB) (h : ycq a b = true) : a = b := by
  obtain ⟨a1, a2, a3, a4⟩ := a
  obtain ⟨b1, b2, b3, b4⟩ := b
  simp only [ycq, Bool.and_eq_true, decide_eq_true_eq] at h
  rw [h.1, ytq_eq h.2.1, ytq_eq h.2.2.1, h.2.2.2]
def ymq (a b : yM) : Bool := yll yoq a.1 b.1 && (yll ycq a.2.1 b.2.1 && yll ylq a.2.2 b.2.2)
theorem ymq_eq {a b : yM} (h : ymq a b = true) : a = b := by
  obtain ⟨a1, a2, a3⟩ := a
  obtain ⟨b1, b2, b3⟩ := b
  simp only [ymq, Bool.and_eq_true] at h
  rw [yll_eq yoq_eq h.1, yll_eq ycq_eq h.2.1, yll_eq ylq_eq h.2.2]
def ysq (a b : yS) : Bool := Nat.beq a.1 b.1 && (yll ylq a.2.1 b.2.1 && (yll ytq a.2.2.1 b.2.2.1 && ymq a.2.2.2 b.2.2.2))
theorem ysq_eq (a b : yS) (h : ysq a b = true) : a = b := by
  obtain ⟨a1, a2, a3, a4⟩ := a
  obtain ⟨b1, b2, b3, b4⟩ := b
  simp only [ysq, Bool.and_eq_true] at h
  rw [Nat.eq_of_beq_eq_true h.1, yll_eq ylq_eq h.2.1, yll_eq (fun _ _ => ytq_eq) h.2.2.1, ymq_eq h.2.2.2]
def yrq (a b : yR) : Bool := (match a.1 with
  | none => (match b.1 with
    | none => true
    | some _ => false)
  | some x => (match b.1 with
    | none => false
    | some y => ytq x y)) && ymq a.2 b.2
theorem yrq_eq (a b : yR) (h : yrq a b = true) : a = b := by
  obtain ⟨a1, a2⟩ := a
  obtain ⟨b1, b2⟩ := b
  simp only [yrq, Bool.and_eq_true] at h
  have e := ymq_eq h.2
  subst e
  cases a1 <;> cases b1 <;> first | rfl | (exact absurd h.1 (by decide)) | skip
  rw [ytq_eq h.1]
/-- the evaluator says this -/
def yis (o : Option yQ) (ss : List yS) (rs : List yR) : Bool := match o with
  | none => false
  | some q => yll ysq q.1 ss && yll yrq q.2 rs
theorem yis_ok {o : Option yQ} {ss : List yS} {rs : List yR} (h : yis o ss rs = true) : o = some (ss, rs) := by
  unfold yis at h
  cases o with
  | none => cases h
  | some q =>
    obtain ⟨q1, q2⟩ := q
    simp only [Bool.and_eq_true] at h
    rw [yll_eq ysq_eq h.1, yll_eq yrq_eq h.2]
