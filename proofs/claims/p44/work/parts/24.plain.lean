-- ===== the abstract step of the plain instructions
/-- the places that may be written: cells from, to, places from, to -/
abbrev bW : Type := List (Nat × Nat × Nat × Nat)
def biw (W : bW) (i j : Nat) : Bool := W.any (fun q => (Nat.ble q.1 i && Nat.ble i q.2.1) && (Nat.ble q.2.2.1 j && Nat.ble j q.2.2.2))
def bpat (h : xH) (i j : Nat) : Option Jvm.Term := match h[i]? with
  | none => none
  | some c => c.2[j]?
theorem bpat_at {h : xH} {i j : Nat} {c : xC} (hc : h[i]? = some c) : bpat h i j = c.2[j]? := by
  unfold bpat
  rw [hc]
def bfr (W : bW) (h h' : xH) : Prop := ∀ i j, biw W i j = false → bpat h' i j = bpat h i j
theorem bfr_rfl {W : bW} {h : xH} : bfr W h h := fun _ _ _ => rfl
theorem bfr_tt {W : bW} {h h1 h2 : xH} (a : bfr W h h1) (b : bfr W h1 h2) : bfr W h h2 := fun i j hi => (b i j hi).trans (a i j hi)
/-- a cell written anew, its unwritten places as they were -/
theorem bfr_setw {W : bW} {h : xH} {i k : Nat} {c : xC} {l : List Jvm.Term} (hc : h[i]? = some c) (hl : l.length = c.2.length) (hu : ∀ m u, l[m]? = some u → c.2[m]? = some u ∨ biw W i m = true) : bfr W h (h.set i (k, l)) := by
  intro a j hj
  by_cases ha : i = a
  · subst ha
    have hlt := (List.getElem?_eq_some_iff.mp hc).1
    have e1 : (h.set i (k, l))[i]? = some (k, l) := by rw [List.getElem?_set_self hlt]
    rw [bpat_at e1, bpat_at hc]
    show l[j]? = c.2[j]?
    cases e : l[j]? with
    | some u =>
      rcases hu j u e with k1 | k1
      · exact k1.symm
      · rw [k1] at hj
        cases hj
    | none =>
      have := List.getElem?_eq_none_iff.mp e
      exact (List.getElem?_eq_none_iff.mpr (by omega)).symm
  · unfold bpat
    rw [List.getElem?_set_ne ha]
theorem bfr_set1 {W : bW} {h : xH} {i j k : Nat} {c : xC} {t : Jvm.Term} (hc : h[i]? = some c) (hj : biw W i j = true) : bfr W h (h.set i (k, c.2.set j t)) := bfr_setw hc List.length_set (fun m u hm => by
  by_cases e : j = m
  · subst e
    exact Or.inr hj
  · rw [List.getElem?_set_ne e] at hm
    exact Or.inl hm)
/-- all of these are among those -/
def bws (V W : bW) : Bool := V.all (fun q => W.any (fun w => (Nat.ble w.1 q.1 && Nat.ble q.2.1 w.2.1) && (Nat.ble w.2.2.1 q.2.2.1 && Nat.ble q.2.2.2 w.2.2.2)))
theorem bws_ok {V W : bW} (h : bws V W = true) {i j : Nat} (hi : biw W i j = false) : biw V i j = false := by
  cases e : biw V i j with
  | false => rfl
  | true =>
    obtain ⟨q, hq, hb⟩ := List.any_eq_true.mp e
    obtain ⟨w, hw, hc⟩ := List.any_eq_true.mp (List.all_eq_true.mp h q hq)
    simp only [Bool.and_eq_true] at hb hc
    have : biw W i j = true := List.any_eq_true.mpr ⟨w, hw, by
      simp only [Bool.and_eq_true]
      exact ⟨⟨Nat.ble_eq_true_of_le (Nat.le_trans (Nat.le_of_ble_eq_true hc.1.1) (Nat.le_of_ble_eq_true hb.1.1)), Nat.ble_eq_true_of_le (Nat.le_trans (Nat.le_of_ble_eq_true hb.1.2) (Nat.le_of_ble_eq_true hc.1.2))⟩, ⟨Nat.ble_eq_true_of_le (Nat.le_trans (Nat.le_of_ble_eq_true hc.2.1) (Nat.le_of_ble_eq_true hb.2.1)), Nat.ble_eq_true_of_le (Nat.le_trans (Nat.le_of_ble_eq_true hb.2.2) (Nat.le_of_ble_eq_true hc.2.2))⟩⟩⟩
    rw [this] at hi
    cases hi
def bint (c : Int32) : bV := some (.inl (bcn c.toInt))
theorem bint_ok {p : Nat → Int} {c : Int32} : bga p (bint c) (.int c) := ⟨c, rfl, by simp only [bfv, bcn, bsm]; omega⟩
abbrev bQ : Type := Nat × bT
/-- a form, so much more -/
def bwr (k : Int) (f : bF) : bF := (f.1 + k, f.2)
theorem bwr_ok {p : Nat → Int} {k : Int} {f : bF} : bfv p (bwr k f) = bfv p f + k := by
  unfold bfv bwr
  show f.1 + k + bsm p f.2 = f.1 + bsm p f.2 + k
  omega
theorem xbm32a {x : Int} (h1 : -2147483648 ≤ x + -4294967296) (h2 : x + -4294967296 ≤ 2147483647) : x.bmod (2 ^ 32) = x + -4294967296 := by
  have e : (2 ^ 32 : Nat) = 4294967296 := rfl
  rw [e, Int.bmod_def]
  split <;> omega
theorem xbm32b {x : Int} (h1 : -2147483648 ≤ x + 4294967296) (h2 : x + 4294967296 ≤ 2147483647) : x.bmod (2 ^ 32) = x + 4294967296 := by
  have e : (2 ^ 32 : Nat) = 4294967296 := rfl
  rw [e, Int.bmod_def]
  split <;> omega
/-- the sum, run over by once, or a new unknown where it may run over -/
def bari (pc : Nat) (G : bE) (n : Nat) (la : bL) (sa : List bV) (ov : bO) (f : bF) : Option bQ := match bfit G f with
  | true => some (pc + 1, G, n, la, some (.inl f) :: sa, ov)
  | false => match bfit G (bwr (-4294967296) f) with
    | true => some (pc + 1, G, n, la, some (.inl (bwr (-4294967296) f)) :: sa, ov)
    | false => match bfit G (bwr 4294967296 f) with
      | true => some (pc + 1, G, n, la, some (.inl (bwr 4294967296 f)) :: sa, ov)
      | false => some (pc + 1, (n, -2147483648, 2147483647) :: G, n + 1, la, some (.inl (bvr n)) :: sa, ov)
def bst (mi pc : Nat) (e : Instr × Nat × List Nat) (G : bE) (n : Nat) (la : bL) (sa : List bV) (ov : bO) : Option bQ := match e.1 with
  | .iconst k => some (pc + 1, G, n, la, bint (Int32.ofInt k) :: sa, ov)
  | .bipush k => some (pc + 2, G, n, la, bint (Int8.ofInt k).toInt32 :: sa, ov)
  | .sipush k => some (pc + 3, G, n, la, bint (Int16.ofInt k).toInt32 :: sa, ov)
  | .aconst_null => some (pc + 1, G, n, la, some (.inr [.null]) :: sa, ov)
  | .iload_n i => match blL la i.val with
    | some (some (.inl f)) => some (pc + 1, G, n, la, some (.inl f) :: sa, ov)
    | _ => none
  | .iload i => match blL la i with
    | some (some (.inl f)) => some (pc + 2, G, n, la, some (.inl f) :: sa, ov)
    | _ => none
  | .aload_n i => match blL la i.val with
    | some (some (.inr l)) => some (pc + 1, G, n, la, some (.inr l) :: sa, ov)
    | _ => none
  | .aload i => match blL la i with
    | some (some (.inr l)) => some (pc + 2, G, n, la, some (.inr l) :: sa, ov)
    | _ => none
  | .istore_n i => match sa with
    | some (.inl f) :: s => match Nat.ble (i.val + 1) (xm mi) with
      | true => some (pc + 1, G, n, bs1 la i.val (some (.inl f)), s, ov)
      | false => none
    | _ => none
  | .istore i => match sa with
    | some (.inl f) :: s => match Nat.ble (i + 1) (xm mi) with
      | true => some (pc + 2, G, n, bs1 la i (some (.inl f)), s, ov)
      | false => none
    | _ => none
  | .astore_n i => match sa with
    | some (.inr l) :: s => match Nat.ble (i.val + 1) (xm mi) with
      | true => some (pc + 1, G, n, bs1 la i.val (some (.inr l)), s, ov)
      | false => none
    | _ => none
  | .astore i => match sa with
    | some (.inr l) :: s => match Nat.ble (i + 1) (xm mi) with
      | true => some (pc + 2, G, n, bs1 la i (some (.inr l)), s, ov)
      | false => none
    | _ => none
  | .iinc i k => match blL la i with
    | some (some (.inl f)) => match Nat.ble (i + 1) (xm mi) with
      | true => (match bfit G (badd f (bcn (Int32.ofInt k).toInt)) with
        | true => some (pc + 3, G, n, bs1 la i (some (.inl (badd f (bcn (Int32.ofInt k).toInt)))), sa, ov)
        | false => some (pc + 3, (n, -2147483648, 2147483647) :: G, n + 1, bs1 la i (some (.inl (bvr n))), sa, ov))
      | false => none
    | _ => none
  | .iadd => match sa with
    | some (.inl g) :: some (.inl f) :: s => bari pc G n la s ov (badd f g)
    | _ => none
  | .isub => match sa with
    | some (.inl g) :: some (.inl f) :: s => bari pc G n la s ov (bsub f g)
    | _ => none
  | .dup => match sa with
    | some a :: s => some (pc + 1, G, n, la, some a :: some a :: s, ov)
    | _ => none
  | .pop => match sa with
    | some a :: s => some (pc + 1, G, n, la, s, ov)
    | _ => none
  | .dup2 => match sa with
    | some a :: some b :: s => some (pc + 1, G, n, la, some a :: some b :: some a :: some b :: s, ov)
    | _ => none
  | .ldc _ => match e.2.2 with
    | [_, m] => some (pc + 2, G, n, la, bint (Int32.ofNat m) :: sa, ov)
    | _ => none
  | .ldc_w _ => match e.2.2 with
    | [_, m] => some (pc + 3, G, n, la, bint (Int32.ofNat m) :: sa, ov)
    | _ => none
  | .goto off => match (pc : Int) + off with
    | .ofNat t => some (t, G, n, la, sa, ov)
    | .negSucc _ => none
  | _ => none
section
variable {Z : List (Nat × Nat)} {I : Nat → Nat → Option bN} {W : bW} {p : Nat → Int} {mi pc pc' : Nat} {e : Instr × Nat × List Nat} {G G' : bE} {n n' : Nat} {la la' : bL} {sa sa' : List bV} {ov ov' : bO} {lo : xL} {st : List Jvm.Term} {h : xH}
/-- an abstract step speaks of the concrete one -/
def bSt (Z : List (Nat × Nat)) (I : Nat → Nat → Option bN) (W : bW) (p : Nat → Int) (mi pc : Nat) (e : Instr × Nat × List Nat) (n : Nat) (lo : xL) (st : List Jvm.Term) (h : xH) (q : bQ) : Prop := ∃ p' lo' st' h', (∀ v, v < n → p' v = p v) ∧ n ≤ q.2.2.1 ∧ bR Z I p' q.2 lo' st' h' ∧ bfr W h h' ∧ xcst mi pc e lo st h q.1 lo' st' h'
theorem bSt_push {w : Nat} {v : bV} {t : Jvm.Term} {s : List Jvm.Term} (R : bR Z I p (G, n, la, sa, ov) lo s h) (hv : bvl n v = true) (g : bga p v t) (hx : ∀ kk : Nat → xL → List Jvm.Term → xH → List xB → Option xO, xsp mi pc e lo st h [] kk = xpu pc w lo s h [] t kk) : bSt Z I W p mi pc e n lo st h (pc + w, G, n, la, v :: sa, ov) :=
  ⟨p, lo, t :: s, h, fun _ _ => rfl, Nat.le_refl _, bR_push R hv g, bfr_rfl, fun kk => (hx kk).trans (by simp only [xpu, xfT_eq, xfN_eq])⟩
theorem bSt_store {w i : Nat} {v : bV} {t : Jvm.Term} {s : List Jvm.Term} (R : bR Z I p (G, n, la, sa, ov) lo s h) (hv : bvl n v = true) (g : bga p v t) (hx : ∀ kk : Nat → xL → List Jvm.Term → xH → List xB → Option xO, xsp mi pc e lo st h [] kk = kk (pc + w) (xs1 lo i t) s h []) : bSt Z I W p mi pc e n lo st h (pc + w, G, n, bs1 la i v, sa, ov) :=
  ⟨p, xs1 lo i t, s, h, fun _ _ => rfl, Nat.le_refl _, bR_store R i hv g, bfr_rfl, hx⟩
theorem bSt_same {q : Nat} {s : List Jvm.Term} (R : bR Z I p (G, n, la, sa, ov) lo s h) (hx : ∀ kk : Nat → xL → List Jvm.Term → xH → List xB → Option xO, xsp mi pc e lo st h [] kk = kk q lo s h []) : bSt Z I W p mi pc e n lo st h (q, G, n, la, sa, ov) :=
  ⟨p, lo, s, h, fun _ _ => rfl, Nat.le_refl _, R, bfr_rfl, hx⟩
theorem bSt_ari {f : bF} {x : Int32} {s : List Jvm.Term} {q : bQ} (R : bR Z I p (G, n, la, sa, ov) lo s h) (hf : blt n f = true) (hv : x.toInt = (bfv p f).bmod (2 ^ 32)) (hs : bari pc G n la sa ov f = some q) (hx : ∀ kk : Nat → xL → List Jvm.Term → xH → List xB → Option xO, xsp mi pc e lo st h [] kk = xpu pc 1 lo s h [] (.int x) kk) : bSt Z I W p mi pc e n lo st h q := by
  unfold bari at hs
  cases hb : bfit G f with
  | true =>
    rw [hb] at hs
    cases hs
    have k := bfit_ok R.1 hb
    exact bSt_push R hf ⟨x, rfl, hv.trans (xbm32 k.1 k.2)⟩ hx
  | false =>
    rw [hb] at hs
    simp only at hs
    cases hb1 : bfit G (bwr (-4294967296) f) with
    | true =>
      rw [hb1] at hs
      cases hs
      have k := bfit_ok R.1 hb1
      rw [bwr_ok] at k
      exact bSt_push R (show blt n (bwr (-4294967296) f) = true from hf) ⟨x, rfl, by rw [hv, bwr_ok]; exact xbm32a k.1 k.2⟩ hx
    | false =>
      rw [hb1] at hs
      simp only at hs
      cases hb2 : bfit G (bwr 4294967296 f) with
      | true =>
        rw [hb2] at hs
        cases hs
        have k := bfit_ok R.1 hb2
        rw [bwr_ok] at k
        exact bSt_push R (show blt n (bwr 4294967296 f) = true from hf) ⟨x, rfl, by rw [hv, bwr_ok]; exact xbm32b k.1 k.2⟩ hx
      | false =>
        rw [hb2] at hs
        cases hs
        refine ⟨bup p n x.toInt, lo, .int x :: s, h, fun v hv => bup_ne (by omega), Nat.le_succ _, ?_, bfr_rfl, fun kk => (hx kk).trans (by simp only [xpu, xfT_eq, xfN_eq])⟩
        refine bR_push (bR_new R (bi_lo x) (bi_hi x)) ?_ ⟨x, rfl, bvr_v.symm⟩
        simp only [bvl, blt, bvr, List.all_cons, List.all_nil, Bool.and_true]
        exact Nat.ble_eq_true_of_le (Nat.le_refl _)
theorem bga_s {v : bF ⊕ List Jvm.Term} {t : Jvm.Term} (g : bga p (some v) t) : xG t = false := by
  rw [bga_G g]; rfl
set_option maxHeartbeats 4000000 in
theorem bst_ok {q : bQ} (R : bR Z I p (G, n, la, sa, ov) lo st h) (hs : bst mi pc e G n la sa ov = some q) : bSt Z I W p mi pc e n lo st h q := by
  obtain ⟨i, ln, ax⟩ := e
  have R0 := R
  obtain ⟨r1, r2, r3, r4, r5, r6, r7, r8, r9, rx⟩ := R0
  cases i with
  | iconst k => cases hs; exact bSt_push R rfl bint_ok (fun kk => rfl)
  | bipush k => cases hs; exact bSt_push R rfl bint_ok (fun kk => rfl)
  | sipush k => cases hs; exact bSt_push R rfl bint_ok (fun kk => rfl)
  | aconst_null => cases hs; exact bSt_push R rfl ⟨List.mem_cons_self, rfl, rfl⟩ (fun kk => rfl)
  | iload_n i =>
    simp only [bst] at hs
    split at hs
    · rename_i f hf
      cases hs
      obtain ⟨t, ht, g⟩ := blL_ok r6 hf
      exact bSt_push R (blL_l r3 hf) g (fun kk => by simp only [xsp, ht, bga_I g, cond_true])
    · cases hs
  | iload i =>
    simp only [bst] at hs
    split at hs
    · rename_i f hf
      cases hs
      obtain ⟨t, ht, g⟩ := blL_ok r6 hf
      exact bSt_push R (blL_l r3 hf) g (fun kk => by simp only [xsp, ht, bga_I g, cond_true])
    · cases hs
  | aload_n i =>
    simp only [bst] at hs
    split at hs
    · rename_i f hf
      cases hs
      obtain ⟨t, ht, g⟩ := blL_ok r6 hf
      exact bSt_push R (blL_l r3 hf) g (fun kk => by simp only [xsp, ht, g.2.1, cond_true])
    · cases hs
  | aload i =>
    simp only [bst] at hs
    split at hs
    · rename_i f hf
      cases hs
      obtain ⟨t, ht, g⟩ := blL_ok r6 hf
      exact bSt_push R (blL_l r3 hf) g (fun kk => by simp only [xsp, ht, g.2.1, cond_true])
    · cases hs
  | istore_n i =>
    simp only [bst] at hs
    split at hs
    · split at hs
      · rename_i hb
        cases hs
        obtain ⟨t, s, rfl⟩ := bR_top R
        obtain ⟨R1, hv, g⟩ := bR_pop R
        exact bSt_store R1 hv g (fun kk => by simp only [xsp, bga_I g, hb, Bool.and_self, cond_true, xfL_eq, xfN_eq])
      · cases hs
    · cases hs
  | istore i =>
    simp only [bst] at hs
    split at hs
    · split at hs
      · rename_i hb
        cases hs
        obtain ⟨t, s, rfl⟩ := bR_top R
        obtain ⟨R1, hv, g⟩ := bR_pop R
        exact bSt_store R1 hv g (fun kk => by simp only [xsp, bga_I g, hb, Bool.and_self, cond_true, xfL_eq, xfN_eq])
      · cases hs
    · cases hs
  | astore_n i =>
    simp only [bst] at hs
    split at hs
    · split at hs
      · rename_i hb
        cases hs
        obtain ⟨t, s, rfl⟩ := bR_top R
        obtain ⟨R1, hv, g⟩ := bR_pop R
        exact bSt_store R1 hv g (fun kk => by simp only [xsp, g.2.1, hb, Bool.and_self, cond_true, xfL_eq, xfN_eq])
      · cases hs
    · cases hs
  | astore i =>
    simp only [bst] at hs
    split at hs
    · split at hs
      · rename_i hb
        cases hs
        obtain ⟨t, s, rfl⟩ := bR_top R
        obtain ⟨R1, hv, g⟩ := bR_pop R
        exact bSt_store R1 hv g (fun kk => by simp only [xsp, g.2.1, hb, Bool.and_self, cond_true, xfL_eq, xfN_eq])
      · cases hs
    · cases hs
  | iinc i k =>
    simp only [bst] at hs
    split at hs
    · rename_i f hf
      split at hs
      · rename_i hb
        obtain ⟨t, ht, x, rfl, hx⟩ := blL_ok r6 hf
        have hxs : ∀ kk : Nat → xL → List Jvm.Term → xH → List xB → Option xO, xsp mi pc (.iinc i k, ln, ax) lo st h [] kk = kk (pc + 3) (xs1 lo i (.int (x + Int32.ofInt k))) st h [] := fun kk => by simp only [xsp, ht, xI, hb, Bool.and_self, cond_true, xfT_eq, xfL_eq, xfN_eq, xad, xlit]
        split at hs
        · rename_i hb2
          cases hs
          have hfit := bfit_ok r1 hb2
          have hg : bga p (some (.inl (badd f (bcn (Int32.ofInt k).toInt)))) (.int (x + Int32.ofInt k)) := by
            refine ⟨_, rfl, ?_⟩
            rw [badd_ok] at hfit ⊢
            have e1 : bfv p (bcn (Int32.ofInt k).toInt) = (Int32.ofInt k).toInt := by simp only [bfv, bcn, bsm]; omega
            rw [e1] at hfit ⊢
            rw [Int32.toInt_add, hx]
            exact xbm32 hfit.1 hfit.2
          exact bSt_store R (blt_add (blL_l r3 hf) rfl) hg hxs
        · cases hs
          refine ⟨bup p n (x + Int32.ofInt k).toInt, xs1 lo i (.int (x + Int32.ofInt k)), st, h, fun v hv => bup_ne (by omega), Nat.le_succ _, ?_, bfr_rfl, hxs⟩
          refine bR_store (bR_new R (bi_lo _) (bi_hi _)) i ?_ ⟨_, rfl, bvr_v.symm⟩
          simp only [bvl, blt, bvr, List.all_cons, List.all_nil, Bool.and_true]
          exact Nat.ble_eq_true_of_le (Nat.le_refl _)
      · cases hs
    · cases hs
  | iadd =>
    simp only [bst] at hs
    split at hs
    · obtain ⟨t, s, rfl⟩ := bR_top R
      obtain ⟨R1, hv, y, rfl, hy⟩ := bR_pop R
      obtain ⟨t, s, rfl⟩ := bR_top R1
      obtain ⟨R2, hw, x, rfl, hx⟩ := bR_pop R1
      refine bSt_ari (x := x + y) R2 (blt_add hw hv) ?_ hs (fun kk => by simp only [xsp, xI, Bool.and_self, cond_true, xad, xlit])
      rw [badd_ok, Int32.toInt_add, hx, hy]
    · cases hs
  | isub =>
    simp only [bst] at hs
    split at hs
    · obtain ⟨t, s, rfl⟩ := bR_top R
      obtain ⟨R1, hv, y, rfl, hy⟩ := bR_pop R
      obtain ⟨t, s, rfl⟩ := bR_top R1
      obtain ⟨R2, hw, x, rfl, hx⟩ := bR_pop R1
      refine bSt_ari (x := x - y) R2 (blt_add hw (blt_scl hv)) ?_ hs (fun kk => by simp only [xsp, xI, Bool.and_self, cond_true, xsb, xlit])
      rw [badd_ok, bscl_ok, Int32.toInt_sub, hx, hy]
      exact congrArg (fun z => Int.bmod z (2 ^ 32)) (by omega)
    · cases hs
  | dup =>
    simp only [bst] at hs
    split at hs
    · cases hs
      obtain ⟨t, s, rfl⟩ := bR_top R
      obtain ⟨R1, hv, g⟩ := bR_pop R
      exact bSt_push R hv g (fun kk => by simp only [xsp, bga_s g, cond_false])
    · cases hs
  | pop =>
    simp only [bst] at hs
    split at hs
    · cases hs
      obtain ⟨t, s, rfl⟩ := bR_top R
      obtain ⟨R1, hv, g⟩ := bR_pop R
      exact bSt_same R1 (fun kk => by simp only [xsp, bga_s g, cond_false, xfN_eq])
    · cases hs
  | dup2 =>
    simp only [bst] at hs
    split at hs
    · cases hs
      obtain ⟨t, s, rfl⟩ := bR_top R
      obtain ⟨R1, hv, g⟩ := bR_pop R
      obtain ⟨u, s, rfl⟩ := bR_top R1
      obtain ⟨R2, hw, g2⟩ := bR_pop R1
      exact bSt_same (bR_push (bR_push R hw g2) hv g) (fun kk => by simp only [xsp, bga_s g, bga_s g2, Bool.or_self, cond_false, xfN_eq])
    · cases hs
  | ldc idx =>
    simp only [bst] at hs
    rcases ax with _ | ⟨x0, _ | ⟨m, _ | ⟨x9, t9⟩⟩⟩ <;> first | (cases hs; done) | skip
    cases hs
    exact bSt_push R rfl bint_ok (fun kk => rfl)
  | ldc_w idx =>
    simp only [bst] at hs
    rcases ax with _ | ⟨x0, _ | ⟨m, _ | ⟨x9, t9⟩⟩⟩ <;> first | (cases hs; done) | skip
    cases hs
    exact bSt_push R rfl bint_ok (fun kk => rfl)
  | goto off =>
    simp only [bst] at hs
    split at hs
    · rename_i t ht
      cases hs
      exact bSt_same R (fun kk => by simp only [xsp, xjp, ht, xfN_eq])
    · cases hs
  | _ => cases hs
end
