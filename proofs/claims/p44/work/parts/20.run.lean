-- ===== the evaluator on numbers alone: what runs to its end
/-- from here a method ends so, with any fuel that is enough -/
def xrun (d mi pc : Nat) (lo : xL) (st : List Jvm.Term) (h : xH) (o : xO) : Prop := ∃ f0 : Nat, ∀ f, f0 ≤ f → xev f d mi pc lo st h [] = some o
theorem xS1_run (hT : xTok) {r : Nat → Value} (hr : xRr r) {d mi pc : Nat} {lo : xL} {st : List Jvm.Term} {h : xH} {o : xO} (H : xrun d mi pc lo st h o) : xS1 r d mi pc lo st h [] o := by
  obtain ⟨f0, hf⟩ := H
  exact xev_sound hT hr _ _ _ _ _ _ _ _ _ (hf f0 (Nat.le_refl _))
/-- one instruction without a call leads on -/
def xcst (mi pc : Nat) (e : Instr × Nat × List Nat) (lo : xL) (st : List Jvm.Term) (h : xH) (pc' : Nat) (lo' : xL) (st' : List Jvm.Term) (h' : xH) : Prop := ∀ k : Nat → xL → List Jvm.Term → xH → List xB → Option xO, xsp mi pc e lo st h [] k = k pc' lo' st' h' []
/-- not a return, not a call of a method of the tables -/
def xpl (e : Instr × Nat × List Nat) : Bool := match e.1 with
  | .return_ => false
  | .ireturn => false
  | .areturn => false
  | .invokevirtual _ => false
  | .invokespecial _ => false
  | .invokestatic _ => match e.2.2 with
    | [_, _, _, _, _] => true
    | _ => false
  | _ => true
section
variable {d mi pc pc' : Nat} {e : Instr × Nat × List Nat} {lo lo' : xL} {st st' : List Jvm.Term} {h h' : xH} {o : xO}
theorem xrun_step (hcd : xcd mi pc = some e) (hp : xpl e = true) (hs : xcst mi pc e lo st h pc' lo' st' h') (H : xrun d mi pc' lo' st' h' o) : xrun d mi pc lo st h o := by
  obtain ⟨f0, hf⟩ := H
  refine ⟨f0 + 1, fun f hl => ?_⟩
  obtain ⟨f, rfl⟩ : ∃ g, f = g + 1 := ⟨f - 1, by omega⟩
  have hn := (hs (fun pc lo st h E => xev f d mi pc lo st h E)).trans (hf f (by omega))
  obtain ⟨i, ln, ax⟩ := e
  unfold xev
  rw [hcd]
  cases i <;> first | (exact hn) | (cases hp; done) | skip
  rcases ax with _ | ⟨p0, _ | ⟨cm, _ | ⟨a1, _ | ⟨b1, _ | ⟨d1, _ | ⟨x9, t9⟩⟩⟩⟩⟩⟩ <;> first | (cases hp; done) | exact hn
theorem xrun_ireturn {ln : Nat} {ax : List Nat} {t : Jvm.Term} (hcd : xcd mi pc = some (.ireturn, ln, ax)) (ht : xrt (xr mi) t = true) : xrun d mi pc lo [t] h (some t, h, []) := by
  refine ⟨1, fun f hl => ?_⟩
  obtain ⟨f, rfl⟩ : ∃ g, f = g + 1 := ⟨f - 1, by omega⟩
  unfold xev
  rw [hcd]
  simp only [ht, cond_true]
theorem xrun_areturn {ln : Nat} {ax : List Nat} {t : Jvm.Term} (hcd : xcd mi pc = some (.areturn, ln, ax)) (ht : xrr (xr mi) t = true) : xrun d mi pc lo [t] h (some t, h, []) := by
  refine ⟨1, fun f hl => ?_⟩
  obtain ⟨f, rfl⟩ : ∃ g, f = g + 1 := ⟨f - 1, by omega⟩
  unfold xev
  rw [hcd]
  simp only [ht, cond_true]
theorem xrun_return {ln : Nat} {ax : List Nat} (hcd : xcd mi pc = some (.return_, ln, ax)) (ht : xr mi = none) : xrun d mi pc lo [] h (none, h, []) := by
  refine ⟨1, fun f hl => ?_⟩
  obtain ⟨f, rfl⟩ : ∃ g, f = g + 1 := ⟨f - 1, by omega⟩
  unfold xev
  rw [hcd]
  simp only [ht]
/-- indexOf of a String constant -/
theorem xrun_ix {idx ln a0 a1 a2 a3 a4 a5 : Nat} {st' : List Jvm.Term} (hcd : xcd mi pc = some (.invokevirtual idx, ln, [a0, a1, a2, a3, a4, a5])) (hk : xixs d h.length lo st = some st') (H : xrun d mi (pc + 3) lo st' h o) : xrun d mi pc lo st h o := by
  obtain ⟨f1, h1⟩ := H
  refine ⟨f1 + 1, fun f hl => ?_⟩
  obtain ⟨f, rfl⟩ : ∃ g, f = g + 1 := ⟨f - 1, by omega⟩
  unfold xev
  rw [hcd]
  simp only [hk, xfN_eq]
  exact h1 f (by omega)
theorem xrun_virtual {d' idx ln p0 cm a1 b1 d1 a : Nat} {as s' : List Jvm.Term} {c : xC} {v : Option Jvm.Term} {h1 : xH} (hcd : xcd mi pc = some (.invokevirtual idx, ln, [p0, cm, a1, b1, d1])) (htk : xtk (xn cm) st [] = some (as, .index a :: s')) (hc : h[a]? = some c) (hk : (Nat.beq c.1 (xo cm) && (Nat.ble c.1 12 && (Nat.ble (xasz (.index a :: as)) (xm cm) && xcc h.length lo s'))) = true)
    (H1 : xrun d' cm 0 (xal 0 (.index a :: as)) [] h (v, h1, [])) (H2 : xrun (d' + 1) mi (pc + 3) lo (xpr v s') h1 o) : xrun (d' + 1) mi pc lo st h o := by
  obtain ⟨f1, h1⟩ := H1
  obtain ⟨f2, h2⟩ := H2
  refine ⟨f1 + f2 + 1, fun f hl => ?_⟩
  obtain ⟨f, rfl⟩ : ∃ g, f = g + 1 := ⟨f - 1, by omega⟩
  unfold xev
  rw [hcd]
  simp only [htk, xhg_eq, hc, hk, cond_true, h1 f (by omega), xfN_eq, List.drop_nil]
  exact h2 f (by omega)
theorem xrun_static {d' idx ln p0 cm a1 b1 : Nat} {as s' : List Jvm.Term} {v : Option Jvm.Term} {h1 : xH} (hcd : xcd mi pc = some (.invokestatic idx, ln, [p0, cm, a1, b1])) (htk : xtk (xn cm) st [] = some (as, s')) (hk : (Nat.ble (xasz as) (xm cm) && xcc h.length lo s') = true)
    (H1 : xrun d' cm 0 (xal 0 as) [] h (v, h1, [])) (H2 : xrun (d' + 1) mi (pc + 3) lo (xpr v s') h1 o) : xrun (d' + 1) mi pc lo st h o := by
  obtain ⟨f1, h1⟩ := H1
  obtain ⟨f2, h2⟩ := H2
  refine ⟨f1 + f2 + 1, fun f hl => ?_⟩
  obtain ⟨f, rfl⟩ : ∃ g, f = g + 1 := ⟨f - 1, by omega⟩
  unfold xev
  rw [hcd]
  simp only [htk, hk, cond_true, h1 f (by omega), xfN_eq, List.drop_nil]
  exact h2 f (by omega)
end
