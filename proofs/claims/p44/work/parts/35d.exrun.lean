-- ===== the evaluator: a method's ends, or the ends of a stretch
abbrev yQ : Type := List yS × List yR
def yal (F_ : yS → Option yQ) (l : List yS) : Option yQ := match l with
  | [] => some ([], [])
  | S_ :: t_ => match F_ S_ with
    | none => none
    | some p_ => match yal F_ t_ with
      | none => none
      | some q_ => some (p_.1 ++ q_.1, p_.2 ++ q_.2)
def yrl (F_ : yR → Option yQ) (l : List yR) : Option yQ := match l with
  | [] => some ([], [])
  | S_ :: t_ => match F_ S_ with
    | none => none
    | some p_ => match yrl F_ t_ with
      | none => none
      | some q_ => some (p_.1 ++ q_.1, p_.2 ++ q_.2)
/-- a state, worked out -/
noncomputable def yfS {β : Type} (S_ : yS) (k_ : yS → β) : β := xfN S_.1 fun pc => xfL S_.2.1 fun lo_ => xfL S_.2.2.1 fun st_ => xfL S_.2.2.2.1 fun ov => xfL S_.2.2.2.2.1 fun C_ => xfL S_.2.2.2.2.2 fun W_ => k_ (pc, lo_, st_, ov, C_, W_)
theorem yfS_eq {β : Type} (S_ : yS) (k_ : yS → β) : yfS S_ k_ = k_ S_ := by
  unfold yfS
  simp only [xfN_eq, xfL_eq]
noncomputable def ygo (stops : List Nat) (F_ : yS → Option yQ) (S_ : yS) : Option yQ := yfS S_ fun S_ => bif stops.any (Nat.beq S_.1) then some ([S_], []) else F_ S_
def yct (A_ : yA) (lo_ : xL) (s_ : List Jvm.Term) : Bool := Nat.ble s_.length 6 && (s_.all (fun t_ => !(xG t_)) && (lo_.all (fun q_ => yxi A_ q_.2) && s_.all (yxi A_)))
def yrs (o : Option yQ) (F_ : yR → Option yQ) : Option yQ := match o with
  | none => none
  | some q_ => match q_.1 with
    | [] => yrl F_ q_.2
    | _ => none
/-- indexOf of a String constant, literally -/
def yxs (A_ : yA) (lo_ : xL) (st_ : List Jvm.Term) : Option (List Jvm.Term) := match st_ with
  | .int x_ :: .arg z_ :: s' => (match (Nat.ble 101 z_ && Nat.ble z_ 141) && yct A_ lo_ s' with
    | false => none
    | true => match xstra (z_ - 101) with
      | some q_ => some (.int (jix q_.2.2 x_) :: s')
      | none => none)
  | _ => none
def yll {α : Type} (f_ : α → α → Bool) (a_ b_ : List α) : Bool := match a_, b_ with
  | [], [] => true
  | x_ :: a_, y_ :: b_ => f_ x_ y_ && yll f_ a_ b_
  | _, _ => false
theorem yll_eq {α : Type} {f_ : α → α → Bool} (hf : ∀ x_ y_, f_ x_ y_ = true → x_ = y_) : ∀ {a_ b_ : List α}, yll f_ a_ b_ = true → a_ = b_ := by
  intro a_
  induction a_ with
  | nil =>
    intro b_ h_
    cases b_ with
    | nil => rfl
    | cons y_ b_ => cases h_
  | cons x_ a_ ih_ =>
    intro b_ h_
    cases b_ with
    | nil => cases h_
    | cons y_ b_ =>
      simp only [yll, Bool.and_eq_true] at h_
      rw [hf x_ y_ h_.1, ih_ h_.2]
/-- a call of ints whose answer is told -/
def ypl (l : List (Nat × List Jvm.Term × Jvm.Term)) (cm : Nat) (as_ : List Jvm.Term) : Option Jvm.Term := match l with
  | [] => none
  | q_ :: l => match Nat.beq q_.1 cm && (yll xq q_.2.1 as_ && (as_.all xI && xI q_.2.2)) with
    | true => some q_.2.2
    | false => ypl l cm as_
def yp1 (A_ : yA) (cm : Nat) (st_ : List Jvm.Term) : Option (Jvm.Term × List Jvm.Term × List Jvm.Term) := match A_.2.2.2.2 with
  | [] => none
  | l => match xtk (xn cm) st_ [] with
    | none => none
    | some p_ => match ypl l cm p_.1 with
      | none => none
      | some u_ => some (u_, p_.1, p_.2)
noncomputable def yev (A_ : yA) (f_ : Nat) (d_ mi : Nat) (stops : List Nat) (S_ : yS) : Option yQ := match f_ with
  | 0 => none
  | f_ + 1 => match xcd mi S_.1 with
    | none => none
    | some e_ => match e_.1 with
      | .return_ => match S_.2.2.1 with
        | [] => (match xr mi with
          | none => some ([], [(none, S_.2.2.2)])
          | some _ => none)
        | _ => none
      | .ireturn => match S_.2.2.1 with
        | [t_] => bif xrt (xr mi) t_ then some ([], [(some t_, S_.2.2.2)]) else none
        | _ => none
      | .areturn => match S_.2.2.1 with
        | [t_] => bif xrr (xr mi) t_ then some ([], [(some t_, S_.2.2.2)]) else none
        | _ => none
      | .invokespecial _ => none
      | .invokevirtual _ => match e_.2.2 with
        | [_, cm, _, _, _] => match d_ with
          | 0 => none
          | d' + 1 => match xtk (xn cm) S_.2.2.1 [] with
            | none => none
            | some q_ => match q_.2 with
              | .index n_ :: s' => match A_.1 n_ with
                | none => none
                | some z_ => bif Nat.beq z_.1 (xo cm) && (Nat.ble z_.1 12 && (Nat.ble (xasz (.index n_ :: q_.1)) (xm cm) && yct A_ S_.2.1 s')) then xfN (S_.1 + 3) fun pc' =>
                    yrs (yev A_ f_ d' cm [] (0, xal 0 (.index n_ :: q_.1), [], S_.2.2.2)) (fun R_ => ygo stops (fun U_ => yev A_ f_ (d' + 1) mi stops U_) (pc', S_.2.1, xpr R_.1 s', R_.2)) else none
              | _ => none
        | [_, _, _, _, _, _] => bif Nat.ble 4 d_ then (match yxs A_ S_.2.1 S_.2.2.1 with
          | none => none
          | some st' => xfN (S_.1 + 3) fun pc' => ygo stops (fun U_ => yev A_ f_ d_ mi stops U_) (pc', S_.2.1, st', S_.2.2.2)) else none
        | _ => none
      | .invokestatic _ => match e_.2.2 with
        | [_, cm, _, _] => match d_ with
          | 0 => none
          | d' + 1 => match yp1 A_ cm S_.2.2.1 with
            | some p_ => bif Nat.ble 5 d' && (Nat.ble (xasz p_.2.1) (xm cm) && yct A_ S_.2.1 p_.2.2) then xfN (S_.1 + 3) fun pc' =>
                ygo stops (fun U_ => yev A_ f_ (d' + 1) mi stops U_) (pc', S_.2.1, p_.1 :: p_.2.2, S_.2.2.2) else none
            | none => match xtk (xn cm) S_.2.2.1 [] with
              | none => none
              | some q_ => bif Nat.ble (xasz q_.1) (xm cm) && yct A_ S_.2.1 q_.2 then xfN (S_.1 + 3) fun pc' =>
                  yrs (yev A_ f_ d' cm [] (0, xal 0 q_.1, [], S_.2.2.2)) (fun R_ => ygo stops (fun U_ => yev A_ f_ (d' + 1) mi stops U_) (pc', S_.2.1, xpr R_.1 q_.2, R_.2)) else none
        | [_, _, _, _, _] => match yst A_ mi S_.1 e_ S_.2.1 S_.2.2.1 S_.2.2.2 with
          | none => none
          | some l => yal (ygo stops (fun U_ => yev A_ f_ d_ mi stops U_)) l
        | _ => none
      | _ => match yst A_ mi S_.1 e_ S_.2.1 S_.2.2.1 S_.2.2.2 with
        | none => none
        | some l => yal (ygo stops (fun U_ => yev A_ f_ d_ mi stops U_)) l
def yEnd (A_ : yA) (r_ : Nat → Value) (g_ : Nat → Nat) (h0 : xH) (d_ mi pc : Nat) (lo_ : xL) (st_ : List Jvm.Term) (h_ : xH) (R_ : yQ) : Prop :=
  (∃ q_ ∈ R_.1, ∃ h', yok A_ r_ g_ h0 q_.2.2.2 h' ∧ bldD d_ mi pc lo_ st_ h_ q_.1 (ylo r_ g_ q_.2.1) (q_.2.2.1.map (ysb r_ g_)) h') ∨ (∃ q_ ∈ R_.2, ∃ h', yok A_ r_ g_ h0 q_.2 h' ∧ ∀ D_, d_ ≤ D_ → xrun D_ mi pc lo_ st_ h_ (q_.1.map (ysb r_ g_), h', []))
section
variable {A_ : yA} {r_ : Nat → Value} {g_ : Nat → Nat} {h0 h_ h1 : xH} {d_ mi pc pc1 : Nat} {lo_ lo1 : xL} {st_ st1 : List Jvm.Term}
theorem yEnd_led {R_ : yQ} (hl : bldD d_ mi pc lo_ st_ h_ pc1 lo1 st1 h1) (H_ : yEnd A_ r_ g_ h0 d_ mi pc1 lo1 st1 h1 R_) : yEnd A_ r_ g_ h0 d_ mi pc lo_ st_ h_ R_ := by
  rcases H_ with ⟨q_, hq, h', k_, l⟩ | ⟨q_, hq, h', k_, l⟩
  · exact Or.inl ⟨q_, hq, h', k_, fun D_ hD o z_ => hl D_ hD o (l D_ hD o z_)⟩
  · exact Or.inr ⟨q_, hq, h', k_, fun D_ hD => hl D_ hD _ (l D_ hD)⟩
theorem yEnd_more {R_ R' : yQ} (h1 : ∀ q_ ∈ R_.1, q_ ∈ R'.1) (h2 : ∀ q_ ∈ R_.2, q_ ∈ R'.2) (H_ : yEnd A_ r_ g_ h0 d_ mi pc lo_ st_ h_ R_) : yEnd A_ r_ g_ h0 d_ mi pc lo_ st_ h_ R' := by
  rcases H_ with ⟨q_, hq, k_⟩ | ⟨q_, hq, k_⟩
  · exact Or.inl ⟨q_, h1 q_ hq, k_⟩
  · exact Or.inr ⟨q_, h2 q_ hq, k_⟩
theorem yal_in {F_ : yS → Option yQ} : ∀ {l : List yS} {R_ : yQ} {S_ : yS}, yal F_ l = some R_ → S_ ∈ l → ∃ P_, F_ S_ = some P_ ∧ (∀ q_ ∈ P_.1, q_ ∈ R_.1) ∧ ∀ q_ ∈ P_.2, q_ ∈ R_.2 := by
  intro l
  induction l with
  | nil => intro R_ S_ _ hS_; cases hS_
  | cons T t_ ih_ =>
    intro R_ S_ h_ hS_
    simp only [yal] at h_
    cases h1 : F_ T with
    | none => rw [h1] at h_; cases h_
    | some p_ =>
      rw [h1] at h_
      simp only at h_
      cases h2 : yal F_ t_ with
      | none => rw [h2] at h_; cases h_
      | some q_ =>
        rw [h2] at h_
        cases h_
        rcases List.mem_cons.mp hS_ with e_ | hS_
        · subst e_
          exact ⟨p_, h1, fun z_ hz => List.mem_append.mpr (Or.inl hz), fun z_ hz => List.mem_append.mpr (Or.inl hz)⟩
        · obtain ⟨P_, k1_, k2_, k3_⟩ := ih_ h2 hS_
          exact ⟨P_, k1_, fun z_ hz => List.mem_append.mpr (Or.inr (k2_ z_ hz)), fun z_ hz => List.mem_append.mpr (Or.inr (k3_ z_ hz))⟩
theorem yrl_in {F_ : yR → Option yQ} : ∀ {l : List yR} {R_ : yQ} {S_ : yR}, yrl F_ l = some R_ → S_ ∈ l → ∃ P_, F_ S_ = some P_ ∧ (∀ q_ ∈ P_.1, q_ ∈ R_.1) ∧ ∀ q_ ∈ P_.2, q_ ∈ R_.2 := by
  intro l
  induction l with
  | nil => intro R_ S_ _ hS_; cases hS_
  | cons T t_ ih_ =>
    intro R_ S_ h_ hS_
    simp only [yrl] at h_
    cases h1 : F_ T with
    | none => rw [h1] at h_; cases h_
    | some p_ =>
      rw [h1] at h_
      simp only at h_
      cases h2 : yrl F_ t_ with
      | none => rw [h2] at h_; cases h_
      | some q_ =>
        rw [h2] at h_
        cases h_
        rcases List.mem_cons.mp hS_ with e_ | hS_
        · subst e_
          exact ⟨p_, h1, fun z_ hz => List.mem_append.mpr (Or.inl hz), fun z_ hz => List.mem_append.mpr (Or.inl hz)⟩
        · obtain ⟨P_, k1_, k2_, k3_⟩ := ih_ h2 hS_
          exact ⟨P_, k1_, fun z_ hz => List.mem_append.mpr (Or.inr (k2_ z_ hz)), fun z_ hz => List.mem_append.mpr (Or.inr (k3_ z_ hz))⟩
theorem yct_ok {s_ : List Jvm.Term} (hs : ysh A_.1 g_ h_) (k_ : yct A_ lo_ s_ = true) : xcc h_.length (ylo r_ g_ lo_) (s_.map (ysb r_ g_)) = true := by
  unfold yct at k_
  simp only [Bool.and_eq_true] at k_
  obtain ⟨k1_, k2_, k3_, k4_⟩ := k_
  unfold xcc
  rw [List.length_map, k1_, notG_y k2_]
  simp only [Bool.true_and, Bool.and_eq_true]
  refine ⟨?_, ?_⟩
  · unfold ylo
    rw [List.all_map]
    exact List.all_eq_true.mpr (fun q_ hq => yxi_ok hs (List.all_eq_true.mp k3_ q_ hq))
  · rw [List.all_map]
    exact List.all_eq_true.mpr (fun q_ hq => yxi_ok hs (List.all_eq_true.mp k4_ q_ hq))
theorem ypl_ok {l : List (Nat × List Jvm.Term × Jvm.Term)} {cm : Nat} {as_ : List Jvm.Term} {u_ : Jvm.Term} (h_ : ypl l cm as_ = some u_) : (cm, as_, u_) ∈ l ∧ as_.all xI = true ∧ xI u_ = true := by
  induction l with
  | nil => cases h_
  | cons q_ l ih_ =>
    simp only [ypl] at h_
    cases e_ : (Nat.beq q_.1 cm && (yll xq q_.2.1 as_ && (as_.all xI && xI q_.2.2))) with
    | true =>
      rw [e_] at h_
      cases h_
      simp only [Bool.and_eq_true] at e_
      obtain ⟨e1_, e2_, e3_, e4_⟩ := e_
      refine ⟨?_, e3_, e4_⟩
      rw [← Nat.eq_of_beq_eq_true e1_, ← yll_eq xq_eq e2_]
      exact List.mem_cons_self
    | false =>
      rw [e_] at h_
      obtain ⟨a_, b_⟩ := ih_ h_
      exact ⟨List.mem_cons_of_mem _ a_, b_⟩
theorem yp1_ok {cm : Nat} {u_ : Jvm.Term} {as_ s_ : List Jvm.Term} (hA : yas A_ r_ g_) (h_ : yp1 A_ cm st_ = some (u_, as_, s_)) : xtk (xn cm) st_ [] = some (as_, s_) ∧ xI u_ = true ∧ as_.all xI = true ∧ yPu r_ (cm, as_, u_) := by
  unfold yp1 at h_
  split at h_
  · cases h_
  · cases hk : xtk (xn cm) st_ [] with
    | none => rw [hk] at h_; cases h_
    | some p_ =>
      rw [hk] at h_
      simp only at h_
      cases e_ : ypl A_.2.2.2.2 cm p_.1 with
      | none => rw [e_] at h_; cases h_
      | some w_ =>
        rw [e_] at h_
        cases h_
        obtain ⟨a_, b_, c_⟩ := ypl_ok e_
        exact ⟨rfl, c_, b_, hA.2.2.2.2 _ a_⟩
theorem map_I {as_ : List Jvm.Term} (h_ : as_.all xI = true) : as_.map (ysb r_ g_) = as_.map (fun t_ => .int (yv r_ t_)) := List.map_congr_left (fun t_ ht => ysb_I (List.all_eq_true.mp h_ t_ ht))
/-- what such a runner says is right -/
def yFo (A_ : yA) (r_ : Nat → Value) (g_ : Nat → Nat) (h0 : xH) (d_ mi : Nat) (F_ : yS → Option yQ) : Prop := ∀ S_ R_, F_ S_ = some R_ → ∀ h_, yok A_ r_ g_ h0 S_.2.2.2 h_ → yEnd A_ r_ g_ h0 d_ mi S_.1 (ylo r_ g_ S_.2.1) (S_.2.2.1.map (ysb r_ g_)) h_ R_
theorem ygo_ok {F_ : yS → Option yQ} {stops : List Nat} (hF : yFo A_ r_ g_ h0 d_ mi F_) : yFo A_ r_ g_ h0 d_ mi (ygo stops F_) := by
  intro S_ R_ hs h_ H_
  unfold ygo at hs
  rw [yfS_eq] at hs
  cases e_ : stops.any (Nat.beq S_.1) with
  | true =>
    simp only [e_, cond_true] at hs
    cases hs
    exact Or.inl ⟨S_, List.mem_singleton.mpr rfl, h_, H_, fun D_ _ o z_ => z_⟩
  | false =>
    simp only [e_, cond_false] at hs
    exact hF S_ R_ hs h_ H_
theorem yev_ok (hA : yas A_ r_ g_) : ∀ (f_ d_ mi : Nat) (stops : List Nat), yFo A_ r_ g_ h0 d_ mi (fun S_ => yev A_ f_ d_ mi stops S_) := by
  intro f_
  induction f_ with
  | zero => intro d_ mi stops S_ R_ hs; cases hs
  | succ f_ ih_ =>
    intro d_ mi stops S_ R_ hs0 h_ H0
    obtain ⟨pc, lo_, st_, M_⟩ := S_
    have hs : yev A_ (f_ + 1) d_ mi stops (pc, lo_, st_, M_) = some R_ := hs0
    have H_ : yok A_ r_ g_ h0 M_ h_ := H0
    clear hs0 H0
    show yEnd A_ r_ g_ h0 d_ mi pc (ylo r_ g_ lo_) (st_.map (ysb r_ g_)) h_ R_
    unfold yev at hs
    cases hcd : xcd mi pc with
    | none => rw [hcd] at hs; cases hs
    | some e_ =>
    rw [hcd] at hs
    have plain : xpl e_ = true → (match yst A_ mi pc e_ lo_ st_ M_ with
        | none => none
        | some l => yal (ygo stops (fun U_ => yev A_ f_ d_ mi stops U_)) l) = some R_ → yEnd A_ r_ g_ h0 d_ mi pc (ylo r_ g_ lo_) (st_.map (ysb r_ g_)) h_ R_ := by
      intro hp hs
      cases hl : yst A_ mi pc e_ lo_ st_ M_ with
      | none => rw [hl] at hs; cases hs
      | some l =>
        rw [hl] at hs
        obtain ⟨S_, hS_, h', H', hx⟩ := yst_ok (h_ := h_) (mi := mi) hA H_ hl
        obtain ⟨P_, k1_, k2_, k3_⟩ := yal_in hs hS_
        exact yEnd_more k2_ k3_ (yEnd_led (fun D_ _ o z_ => xrun_step hcd hp hx z_) (ygo_ok (ih_ d_ mi stops) S_ P_ k1_ h' H'))
    obtain ⟨i_, ln, ax⟩ := e_
    cases i_ with
    | return_ =>
      simp only at hs
      rcases st_ with _ | ⟨t_, s_⟩
      · simp only at hs
        cases hr : xr mi with
        | some q_ => rw [hr] at hs; cases hs
        | none =>
          rw [hr] at hs
          cases hs
          exact Or.inr ⟨_, List.mem_singleton.mpr rfl, h_, H_, fun D_ _ => xrun_return hcd hr⟩
      · cases hs
    | ireturn =>
      simp only at hs
      rcases st_ with _ | ⟨t_, _ | ⟨u_, s_⟩⟩
      · cases hs
      · simp only at hs
        cases ht : xrt (xr mi) t_ with
        | false => simp [ht] at hs
        | true =>
          simp only [ht, cond_true] at hs
          cases hs
          exact Or.inr ⟨_, List.mem_singleton.mpr rfl, h_, H_, fun D_ _ => xrun_ireturn hcd (xrt_y ht)⟩
      · cases hs
    | areturn =>
      simp only at hs
      rcases st_ with _ | ⟨t_, _ | ⟨u_, s_⟩⟩
      · cases hs
      · simp only at hs
        cases ht : xrr (xr mi) t_ with
        | false => simp [ht] at hs
        | true =>
          simp only [ht, cond_true] at hs
          cases hs
          exact Or.inr ⟨_, List.mem_singleton.mpr rfl, h_, H_, fun D_ _ => xrun_areturn hcd (xrr_y ht)⟩
      · cases hs
    | invokespecial q_ => cases hs
    | invokevirtual q_ =>
      simp only at hs
      rcases ax with _ | ⟨p0_, _ | ⟨cm, _ | ⟨a1_, _ | ⟨b1, _ | ⟨d1_, _ | ⟨x9, _ | ⟨y9, t9⟩⟩⟩⟩⟩⟩⟩ <;> first | (cases hs; done) | skip
      · simp only at hs
        cases d_ with
        | zero => cases hs
        | succ d' =>
        simp only at hs
        cases hk : xtk (xn cm) st_ [] with
        | none => rw [hk] at hs; cases hs
        | some q_ =>
        obtain ⟨as_, s0_⟩ := q_
        rw [hk] at hs
        simp only at hs
        rcases s0_ with _ | ⟨u_, s'⟩
        · cases hs
        cases u_ <;> try simp only at hs
        all_goals first | (cases hs; done) | skip
        rename_i n_
        cases hz : A_.1 n_ with
        | none => rw [hz] at hs; cases hs
        | some z_ =>
        rw [hz] at hs
        simp only at hs
        cases h1 : (Nat.beq z_.1 (xo cm) && (Nat.ble z_.1 12 && (Nat.ble (xasz (.index n_ :: as_)) (xm cm) && yct A_ lo_ s'))) with
        | false => simp only [h1, cond_false] at hs; cases hs
        | true =>
        simp only [h1, cond_true, xfN_eq] at hs
        simp only [Bool.and_eq_true] at h1
        obtain ⟨k1_, k2_, k3_, k4_⟩ := h1
        obtain ⟨c_, c1_, c2_, c3_⟩ := H_.1 n_ z_ hz
        have hcc := yct_ok (r_ := r_) H_.1 k4_
        have hkk : (Nat.beq c_.1 (xo cm) && (Nat.ble c_.1 12 && (Nat.ble (xasz (.index (g_ n_) :: as_.map (ysb r_ g_))) (xm cm) && xcc h_.length (ylo r_ g_ lo_) (s'.map (ysb r_ g_))))) = true := by
          have e1_ : xasz (.index (g_ n_) :: as_.map (ysb r_ g_)) = xasz (.index n_ :: as_) := xasz_y (l := .index n_ :: as_)
          rw [c2_, k1_, k2_, e1_, k3_, hcc]
          rfl
        unfold yrs at hs
        cases hy : yev A_ f_ d' cm [] (0, xal 0 (.index n_ :: as_), [], M_) with
        | none => rw [hy] at hs; cases hs
        | some P_ =>
        rw [hy] at hs
        simp only at hs
        obtain ⟨ss, rs⟩ := P_
        cases ss with
        | cons a_ b_ => cases hs
        | nil =>
        simp only at hs
        rcases ih_ d' cm [] _ _ hy h_ H_ with ⟨q_, hq, -⟩ | ⟨q_, hq, h', H', hr⟩
        · cases hq
        · obtain ⟨P_, k5_, k6_, k7_⟩ := yrl_in hs hq
          have hr : ∀ D_, d' ≤ D_ → xrun D_ cm 0 (xal 0 (.index (g_ n_) :: as_.map (ysb r_ g_))) [] h_ (q_.1.map (ysb r_ g_), h', []) := fun D_ hD => by
            have w_ := hr D_ hD
            rw [show ylo r_ g_ (xal 0 (.index n_ :: as_)) = xal 0 (.index (g_ n_) :: as_.map (ysb r_ g_)) from (xal_y (l := .index n_ :: as_)).symm] at w_
            exact w_
          refine yEnd_more k6_ k7_ (yEnd_led (fun D_ hD o hz => ?_) (ygo_ok (ih_ (d' + 1) mi stops) _ P_ k5_ h' H'))
          obtain ⟨D', rfl⟩ : ∃ D', D_ = D' + 1 := ⟨D_ - 1, by omega⟩
          refine xrun_virtual hcd (xtk_y hk) c1_ hkk (hr D' (by omega)) ?_
          have e2_ : xpr (q_.1.map (ysb r_ g_)) (s'.map (ysb r_ g_)) = (xpr q_.1 s').map (ysb r_ g_) := by cases q_.1 <;> rfl
          rw [e2_]
          exact hz
      · simp only at hs
        cases h4 : Nat.ble 4 d_ with
        | false => simp [h4] at hs
        | true =>
        simp only [h4, cond_true] at hs
        cases hx : yxs A_ lo_ st_ with
        | none => rw [hx] at hs; cases hs
        | some st' =>
        rw [hx] at hs
        simp only [xfN_eq] at hs
        refine yEnd_led (fun D_ hD o hz => ?_) (ygo_ok (ih_ d_ mi stops) _ R_ hs h_ H_)
        refine xrun_ix hcd ?_ hz
        unfold yxs at hx
        split at hx
        · rename_i x_ z_ s'
          split at hx
          · cases hx
          · rename_i hk
            simp only [Bool.and_eq_true] at hk
            obtain ⟨⟨w1_, w2_⟩, w3_⟩ := hk
            split at hx
            · rename_i q_ hq
              cases hx
              have l1 := Nat.le_of_ble_eq_true w1_
              have l2 := Nat.le_of_ble_eq_true w2_
              have ez : ysb r_ g_ (.arg z_) = .arg z_ := by
                obtain ⟨j_, rfl⟩ : ∃ j_, z_ = 101 + j_ := ⟨z_ - 101, by omega⟩
                exact ysb_sr (Nat.ble_eq_true_of_le (by omega))
              have hkk : (Nat.ble 4 D_ && (Nat.ble 101 z_ && xcc h_.length (ylo r_ g_ lo_) (s'.map (ysb r_ g_)))) = true := by
                rw [Nat.ble_eq_true_of_le (Nat.le_trans (Nat.le_of_ble_eq_true h4) hD), w1_, yct_ok H_.1 w3_]
                rfl
              show xixs D_ h_.length (ylo r_ g_ lo_) (.int x_ :: ysb r_ g_ (.arg z_) :: s'.map (ysb r_ g_)) = _
              rw [ez]
              simp only [xixs, hkk, hq]
              rfl
            · cases hx
        · cases hx
    | invokestatic q_ =>
      simp only at hs
      rcases ax with _ | ⟨p0_, _ | ⟨cm, _ | ⟨a1_, _ | ⟨b1, _ | ⟨d1_, _ | ⟨x9, t9⟩⟩⟩⟩⟩⟩ <;> first | (cases hs; done) | skip
      · simp only at hs
        cases d_ with
        | zero => cases hs
        | succ d' =>
        simp only at hs
        cases hp1 : yp1 A_ cm st_ with
        | some p_ =>
          rw [hp1] at hs
          simp only at hs
          obtain ⟨u_, as_, s'⟩ := p_
          cases h1 : (Nat.ble 5 d' && (Nat.ble (xasz as_) (xm cm) && yct A_ lo_ s')) with
          | false => simp only [h1, cond_false] at hs; cases hs
          | true =>
          simp only [h1, cond_true, xfN_eq] at hs
          simp only [Bool.and_eq_true] at h1
          obtain ⟨k1_, k3_, k4_⟩ := h1
          obtain ⟨e1_, iu, it, hP⟩ := yp1_ok hA hp1
          have hcc := yct_ok (r_ := r_) H_.1 k4_
          refine yEnd_led (fun D_ hD o hz => ?_) (ygo_ok (ih_ (d' + 1) mi stops) _ R_ hs h_ H_)
          obtain ⟨D', rfl⟩ : ∃ D', D_ = D' + 1 := ⟨D_ - 1, by omega⟩
          have l5 := Nat.le_of_ble_eq_true k1_
          have hkk : (Nat.ble (xasz (as_.map (ysb r_ g_))) (xm cm) && xcc h_.length (ylo r_ g_ lo_) (s'.map (ysb r_ g_))) = true := by
            rw [xasz_y, k3_, hcc]
            rfl
          refine xrun_static (v := some (.int (yv r_ u_))) (h1 := h_) hcd (xtk_y e1_) hkk ?_ ?_
          · rw [map_I it]
            exact hP h_ D' (by omega)
          · have e2_ : xpr (some (Jvm.Term.int (yv r_ u_))) (s'.map (ysb r_ g_)) = (u_ :: s').map (ysb r_ g_) := by
              show Jvm.Term.int (yv r_ u_) :: s'.map (ysb r_ g_) = ysb r_ g_ u_ :: s'.map (ysb r_ g_)
              rw [ysb_I iu]
            rw [e2_]
            exact hz
        | none =>
        rw [hp1] at hs
        simp only at hs
        cases hk : xtk (xn cm) st_ [] with
        | none => rw [hk] at hs; cases hs
        | some q_ =>
        obtain ⟨as_, s'⟩ := q_
        rw [hk] at hs
        simp only at hs
        cases h1 : (Nat.ble (xasz as_) (xm cm) && yct A_ lo_ s') with
        | false => simp only [h1, cond_false] at hs; cases hs
        | true =>
        simp only [h1, cond_true, xfN_eq] at hs
        simp only [Bool.and_eq_true] at h1
        obtain ⟨k3_, k4_⟩ := h1
        have hcc := yct_ok (r_ := r_) H_.1 k4_
        have hkk : (Nat.ble (xasz (as_.map (ysb r_ g_))) (xm cm) && xcc h_.length (ylo r_ g_ lo_) (s'.map (ysb r_ g_))) = true := by
          rw [xasz_y, k3_, hcc]
          rfl
        unfold yrs at hs
        cases hy : yev A_ f_ d' cm [] (0, xal 0 as_, [], M_) with
        | none => rw [hy] at hs; cases hs
        | some P_ =>
        rw [hy] at hs
        simp only at hs
        obtain ⟨ss, rs⟩ := P_
        cases ss with
        | cons a_ b_ => cases hs
        | nil =>
        simp only at hs
        rcases ih_ d' cm [] _ _ hy h_ H_ with ⟨q_, hq, -⟩ | ⟨q_, hq, h', H', hr⟩
        · cases hq
        · obtain ⟨P_, k5_, k6_, k7_⟩ := yrl_in hs hq
          have hr : ∀ D_, d' ≤ D_ → xrun D_ cm 0 (xal 0 (as_.map (ysb r_ g_))) [] h_ (q_.1.map (ysb r_ g_), h', []) := fun D_ hD => by
            have w_ := hr D_ hD
            rw [show ylo r_ g_ (xal 0 as_) = xal 0 (as_.map (ysb r_ g_)) from xal_y.symm] at w_
            exact w_
          refine yEnd_more k6_ k7_ (yEnd_led (fun D_ hD o hz => ?_) (ygo_ok (ih_ (d' + 1) mi stops) _ P_ k5_ h' H'))
          obtain ⟨D', rfl⟩ : ∃ D', D_ = D' + 1 := ⟨D_ - 1, by omega⟩
          refine xrun_static hcd (xtk_y hk) hkk (hr D' (by omega)) ?_
          have e2_ : xpr (q_.1.map (ysb r_ g_)) (s'.map (ysb r_ g_)) = (xpr q_.1 s').map (ysb r_ g_) := by cases q_.1 <;> rfl
          rw [e2_]
          exact hz
      · exact plain rfl hs
    | _ => exact plain rfl hs
end
-- ===== terms, states compared
def ytq (a_ b_ : Jvm.Term) : Bool := match a_ with
  | .index n_ => (match b_ with
    | .index m_ => Nat.beq n_ m_
    | _ => false)
  | .null => (match b_ with
    | .null => true
    | _ => false)
  | a_ => xq a_ b_
theorem ytq_eq {a_ b_ : Jvm.Term} (h_ : ytq a_ b_ = true) : a_ = b_ := by
  cases a_ <;> first | exact xq_eq _ _ h_ | skip
  · cases b_ <;> first | rfl | (cases h_; done)
  · cases b_ <;> first | (cases h_; done) | skip
    rw [Nat.eq_of_beq_eq_true h_]
def ylq (a_ b_ : Nat × Jvm.Term) : Bool := Nat.beq a_.1 b_.1 && ytq a_.2 b_.2
theorem ylq_eq (a_ b_ : Nat × Jvm.Term) (h_ : ylq a_ b_ = true) : a_ = b_ := by
  obtain ⟨a1_, a2⟩ := a_
  obtain ⟨b1, b2⟩ := b_
  simp only [ylq, Bool.and_eq_true] at h_
  rw [Nat.eq_of_beq_eq_true h_.1, ytq_eq h_.2]
def yoq (a_ b_ : Nat × Jvm.Term × Jvm.Term) : Bool := Nat.beq a_.1 b_.1 && (ytq a_.2.1 b_.2.1 && ytq a_.2.2 b_.2.2)
theorem yoq_eq (a_ b_ : Nat × Jvm.Term × Jvm.Term) (h_ : yoq a_ b_ = true) : a_ = b_ := by
  obtain ⟨a1_, a2, a3⟩ := a_
  obtain ⟨b1, b2, b3⟩ := b_
  simp only [yoq, Bool.and_eq_true] at h_
  rw [Nat.eq_of_beq_eq_true h_.1, ytq_eq h_.2.1, ytq_eq h_.2.2]
def ycq (a_ b_ : xB) : Bool := decide (a_.1 = b_.1) && (ytq a_.2.1 b_.2.1 && (ytq a_.2.2.1 b_.2.2.1 && decide (a_.2.2.2 = b_.2.2.2)))
theorem ycq_eq (a_ b_ : xB) (h_ : ycq a_ b_ = true) : a_ = b_ := by
  obtain ⟨a1_, a2, a3, a4⟩ := a_
  obtain ⟨b1, b2, b3, b4⟩ := b_
  simp only [ycq, Bool.and_eq_true, decide_eq_true_eq] at h_
  rw [h_.1, ytq_eq h_.2.1, ytq_eq h_.2.2.1, h_.2.2.2]
def ymq (a_ b_ : yM) : Bool := yll yoq a_.1 b_.1 && (yll ycq a_.2.1 b_.2.1 && yll ylq a_.2.2 b_.2.2)
theorem ymq_eq {a_ b_ : yM} (h_ : ymq a_ b_ = true) : a_ = b_ := by
  obtain ⟨a1_, a2, a3⟩ := a_
  obtain ⟨b1, b2, b3⟩ := b_
  simp only [ymq, Bool.and_eq_true] at h_
  rw [yll_eq yoq_eq h_.1, yll_eq ycq_eq h_.2.1, yll_eq ylq_eq h_.2.2]
def ysq (a_ b_ : yS) : Bool := Nat.beq a_.1 b_.1 && (yll ylq a_.2.1 b_.2.1 && (yll ytq a_.2.2.1 b_.2.2.1 && ymq a_.2.2.2 b_.2.2.2))
theorem ysq_eq (a_ b_ : yS) (h_ : ysq a_ b_ = true) : a_ = b_ := by
  obtain ⟨a1_, a2, a3, a4⟩ := a_
  obtain ⟨b1, b2, b3, b4⟩ := b_
  simp only [ysq, Bool.and_eq_true] at h_
  rw [Nat.eq_of_beq_eq_true h_.1, yll_eq ylq_eq h_.2.1, yll_eq (fun _ _ => ytq_eq) h_.2.2.1, ymq_eq h_.2.2.2]
def yrq (a_ b_ : yR) : Bool := (match a_.1 with
  | none => (match b_.1 with
    | none => true
    | some _ => false)
  | some x_ => (match b_.1 with
    | none => false
    | some y_ => ytq x_ y_)) && ymq a_.2 b_.2
theorem yrq_eq (a_ b_ : yR) (h_ : yrq a_ b_ = true) : a_ = b_ := by
  obtain ⟨a1_, a2⟩ := a_
  obtain ⟨b1, b2⟩ := b_
  simp only [yrq, Bool.and_eq_true] at h_
  have e_ := ymq_eq h_.2
  subst e_
  cases a1_ with
  | none => cases b1 with
    | none => rfl
    | some y_ => simp at h_
  | some x_ => cases b1 with
    | none => simp at h_
    | some y_ =>
      have k_ : ytq x_ y_ = true := h_.1
      rw [ytq_eq k_]
/-- the evaluator says this -/
def yis (o : Option yQ) (ss : List yS) (rs : List yR) : Bool := match o with
  | none => false
  | some q_ => yll ysq q_.1 ss && yll yrq q_.2 rs
theorem yis_ok {o : Option yQ} {ss : List yS} {rs : List yR} (h_ : yis o ss rs = true) : o = some (ss, rs) := by
  unfold yis at h_
  cases o with
  | none => cases h_
  | some q_ =>
    obtain ⟨q1_, q2_⟩ := q_
    simp only [Bool.and_eq_true] at h_
    rw [yll_eq ysq_eq h_.1, yll_eq yrq_eq h_.2]
