-- ===== an evaluation makes no cell smaller, and none goes
set_option maxRecDepth 10000 in
set_option maxHeartbeats 8000000 in
theorem xev_mono : ∀ (f d mi pc : Nat) (lo : xL) (st : List Jvm.Term) (h : xH) (E : List xB) (o : xO), xev f d mi pc lo st h E = some o → h.length ≤ o.2.1.length ∧ xhz h ≤ xhz o.2.1 ∧ (xhw h → xhw o.2.1) := by
  intro f
  induction f with
  | zero => intro d mi pc lo st h E o hs; cases hs
  | succ f ih =>
    intro d mi pc lo st h E o hs
    simp only [xev, xhg_eq] at hs
    have gen : ∀ e : Instr × Nat × List Nat, xsp mi pc e lo st h E (fun pc lo st h E => xev f d mi pc lo st h E) = some o → h.length ≤ o.2.1.length ∧ xhz h ≤ xhz o.2.1 ∧ (xhw h → xhw o.2.1) := by
      intro e hs
      obtain ⟨pc', lo', st', h', E', hk, h1, h2, h4⟩ := xsp_mono hs
      have h3 := ih d mi pc' lo' st' h' E' o hk
      exact ⟨Nat.le_trans h1 h3.1, Nat.le_trans h2 h3.2.1, fun q => h3.2.2 (h4 q)⟩
    have two : ∀ (d1 m1 : Nat) (l1 : xL) (d2 p2 : Nat) (st2 : Option Jvm.Term → List Jvm.Term) (E2 : xO → List xB), (match xev f d1 m1 0 l1 [] h E with
      | none => none
      | some o => xfN p2 fun pc' => xev f d2 mi pc' lo (st2 o.1) o.2.1 (E2 o)) = some o → h.length ≤ o.2.1.length ∧ xhz h ≤ xhz o.2.1 ∧ (xhw h → xhw o.2.1) := by
      intro d1 m1 l1 d2 p2 st2 E2 hs
      cases h1 : xev f d1 m1 0 l1 [] h E with
      | none => rw [h1] at hs; cases hs
      | some o1 =>
        rw [h1] at hs
        simp only [xfN_eq] at hs
        have a1 := ih _ _ _ _ _ _ _ _ h1
        have a2 := ih _ _ _ _ _ _ _ _ hs
        exact ⟨Nat.le_trans a1.1 a2.1, Nat.le_trans a1.2.1 a2.2.1, fun q => a2.2.2 (a1.2.2 q)⟩
    have one : ∀ (p2 : Nat) (st2 : List Jvm.Term), xfN p2 (fun pc' => xev f d mi pc' lo st2 h E) = some o → h.length ≤ o.2.1.length ∧ xhz h ≤ xhz o.2.1 ∧ (xhw h → xhw o.2.1) := by
      intro p2 st2 hs
      simp only [xfN_eq] at hs
      exact ih _ _ _ _ _ _ _ _ hs
    cases hcd : xcd mi pc with
    | none => rw [hcd] at hs; cases hs
    | some e0 =>
      rw [hcd] at hs
      simp only [Bool.cond_eq_ite] at hs
      repeat' (first | (exact gen _ hs) | (exact two _ _ _ _ _ (fun v => xpr v _) (fun o => E.drop (E.length - o.2.2.length)) hs) | (cases hs; done) | (cases hs; exact ⟨Nat.le_refl _, Nat.le_refl _, fun q => q⟩) | split at hs | (exact one _ _ hs))
