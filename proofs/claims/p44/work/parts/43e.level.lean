-- ===== the parser's levels: an operand, and signs with operands
def pW : bW := [(338, 338, 7, 9), (345, 345, 0, 123)]
/-- what is laid down leaves the pile g high; as many steps as bytes were read, at the most -/
def ppx (h : xH) (g_ : Nat) : Prop := tv h 338 9 ≤ tv h 338 7 ∧ thg (tcode h 345 0 (tv h 338 9).toNat) 0 = some g_
/-- a method of the parser: it lays down what makes the pile one higher, or answers 0 -/
def pT (m_ d_ : Nat) (o : Int) : Prop := ∀ (h : xH) (g_ : Nat), bInv bZ bIm h → tv h 338 8 = o → ppx h g_ → ∃ (t_ : Int32) (h' : xH), (∀ D_, d_ ≤ D_ → xrun D_ m_ 0 [(0, .index 338)] [] h (some (.int t_), h', [])) ∧ bInv bZ bIm h' ∧ bfr pW h h' ∧ (t_.toInt = 0 ∨ (t_.toInt = 1 ∧ tv h' 338 8 = o ∧ ppx h' (g_ + 1) ∧ tv h 338 7 ≤ tv h' 338 7 ∧ tv h 338 7 - tv h 338 9 ≤ tv h' 338 7 - tv h' 338 9))
section
variable {h h' : xH} {g_ : Nat} {o : Int}
/-- nothing of the draft is written -/
theorem ppx_7 (hf : bfr [(338, 338, 7, 7)] h h') (H_ : ppx h g_) (h7 : tv h 338 7 ≤ tv h' 338 7) : ppx h' g_ ∧ tv h' 338 9 = tv h 338 9 ∧ tv h' 338 8 = tv h 338 8 := by
  have e9_ : tv h' 338 9 = tv h 338 9 := pbiw hf rfl
  have e8 : tv h' 338 8 = tv h 338 8 := pbiw hf rfl
  refine ⟨⟨by rw [e9_]; exact Int.le_trans H_.1 h7, ?_⟩, e9_, e8⟩
  rw [e9_, tcode_eq (h := h) (a_ := 345) (b_ := 0) (fun j_ hj => pbiw hf rfl)]
  exact H_.2
theorem ppx_0 (hf : bfr [] h h') (H_ : ppx h g_) : ppx h' g_ ∧ (∀ a_ j_, tv h' a_ j_ = tv h a_ j_) := by
  have e : ∀ a_ j_, tv h' a_ j_ = tv h a_ j_ := fun a_ j_ => pbiw hf rfl
  refine ⟨⟨by rw [e, e]; exact H_.1, ?_⟩, e⟩
  rw [e, tcode_eq (h := h) (a_ := 345) (b_ := 0) (fun j_ hj => e 345 _)]
  exact H_.2
theorem bInv_R {p : Nat → Int} {G : bE} {n : Nat} {la : bL} {sa : List bV} {lo : xL} {st : List Jvm.Term} {h0 : xH} (R : bR bZ bIm p (G, n, la, sa, []) lo st h0) : bInv bZ bIm h0 := ⟨bHr_0 (ov := []) R.2.2.2.2.2.2.2.1, R.2.2.2.2.2.2.2.2.1⟩
/-- lays, for the draft -/
theorem lays_px {w_ v_ : Int32} (H_ : bInv bZ bIm h) (hp : ppx h g_) (hlt : tv h 338 9 < tv h 338 7) {g2 : Nat} (hg : thg [(w_.toInt, v_.toInt)] g_ = some g2) : ∃ h', (∀ D_, 4 ≤ D_ → xrun D_ 175 0 [(0, .index 338), (1, .int w_), (2, .int v_)] [] h (none, h', [])) ∧ bInv bZ bIm h' ∧ bfr pW h h' ∧ ppx h' g2 ∧ tv h' 338 7 = tv h 338 7 ∧ tv h' 338 8 = tv h 338 8 ∧ tv h' 338 9 = tv h 338 9 + 1 := by
  obtain ⟨c9_, x9, -, -, e9_, l9, u9⟩ := bint_at H_.1 bZ_338 (j_ := 9) (by show 9 < 26; omega) pI9
  obtain ⟨c7_, x7, -, -, e7_, l7, u7⟩ := bint_at H_.1 bZ_338 (j_ := 7) (by show 7 < 26; omega) pI7
  have hs : tv h 338 9 = (((tv h 338 9).toNat : Nat) : Int) := by omega
  obtain ⟨h', a1_, a2, a3, a4, a5, a6⟩ := lays_ok (s_ := (tv h 338 9).toNat) (w_ := w_) (v_ := v_) H_ (by omega) hs
  have f7_ : tv h' 338 7 = tv h 338 7 := pbiw a3 rfl
  have f8_ : tv h' 338 8 = tv h 338 8 := pbiw a3 rfl
  have f9_ : tv h' 338 9 = tv h 338 9 + 1 := by omega
  have hW : bfr pW h h' := fun a_ j_ hj => a3 a_ j_ (bws_ok (show bws (pWl (tv h 338 9).toNat) pW = true from by
    unfold bws pWl pW
    simp only [List.all_cons, List.all_nil, List.any_cons, List.any_nil, Bool.and_true, Bool.or_false, Bool.and_eq_true, Bool.or_eq_true]
    refine ⟨Or.inl ⟨⟨rfl, rfl⟩, ⟨rfl, rfl⟩⟩, Or.inr ⟨⟨rfl, rfl⟩, ⟨rfl, Nat.ble_eq_true_of_le (by omega)⟩⟩⟩) hj)
  refine ⟨h', a1_, a2, hW, ⟨by omega, ?_⟩, f7_, f8_, f9_⟩
  have en : (tv h' 338 9).toNat = (tv h 338 9).toNat + 1 := by omega
  rw [en, tcode_snoc, thg_app]
  have e0_ : tcode h' 345 0 (tv h 338 9).toNat = tcode h 345 0 (tv h 338 9).toNat := tcode_eq (fun j_ hj => by
    refine pbiw a3 ?_
    unfold pWl
    simp only [List.all_cons, List.all_nil, Bool.and_true, Bool.and_eq_true, Bool.or_eq_true]
    exact ⟨Or.inl (Or.inl rfl), Or.inr (Or.inr (Nat.ble_eq_true_of_le (by omega)))⟩)
  rw [e0_, hp.2]
  have e1_ : tv h' 345 (0 + 2 * (tv h 338 9).toNat) = w_.toInt := by rw [Nat.zero_add]; exact a4
  have e2_ : tv h' 345 (0 + 2 * (tv h 338 9).toNat + 1) = v_.toInt := by rw [Nat.zero_add]; exact a5
  rw [e1_, e2_]
  exact hg
end
