-- ===== places, conditions, what is taken as given
abbrev yO : Type := List (Nat × Jvm.Term × Jvm.Term)
abbrev yW : Type := List (Nat × Jvm.Term)
abbrev yM : Type := yO × List xB × yW
abbrev yS : Type := Nat × xL × List Jvm.Term × yM
abbrev yR : Type := Option Jvm.Term × yM
/-- cells' classes and lengths; indexes below lengths; indexes that differ; cells that differ; calls of an int whose answer is told, and that change nothing -/
abbrev yA : Type := (Nat → Option (Nat × Nat)) × List (Jvm.Term × Nat) × List (Jvm.Term × Jvm.Term) × List (Nat × Nat) × List (Nat × Jvm.Term × Jvm.Term)
def yix (r : Nat → Value) (i : Jvm.Term) : Nat := (yv r i).toNatClampNeg
def ysh (Z : Nat → Option (Nat × Nat)) (g : Nat → Nat) (h : xH) : Prop := ∀ n z, Z n = some z → ∃ c, h[g n]? = some c ∧ c.1 = z.1 ∧ c.2.length = z.2
def ymem (r : Nat → Value) (g : Nat → Nat) (ov : yO) (h : xH) : Prop := ∀ q ∈ ov, ∃ c, h[g q.1]? = some c ∧ c.2[yix r q.2.1]? = some (ysb r g q.2.2)
def yfr (r : Nat → Value) (g : Nat → Nat) (W : yW) (h0 h : xH) : Prop := h.length = h0.length ∧ ∀ a c, h0[a]? = some c → ∃ c', h[a]? = some c' ∧ c'.1 = c.1 ∧ c'.2.length = c.2.length ∧ ∀ j, (∀ q ∈ W, ¬ (g q.1 = a ∧ yix r q.2 = j)) → c'.2[j]? = c.2[j]?
def yPu (r : Nat → Value) (q : Nat × Jvm.Term × Jvm.Term) : Prop := ∀ (h : xH) (D : Nat), 5 ≤ D → xrun D q.1 0 [(0, .int (yv r q.2.1))] [] h (some (.int (yv r q.2.2)), h, [])
def yas (A : yA) (r : Nat → Value) (g : Nat → Nat) : Prop := (∀ q ∈ A.2.1, 0 ≤ (yv r q.1).toInt ∧ (yv r q.1).toInt < (q.2 : Int)) ∧ ((∀ q ∈ A.2.2.1, ¬ yix r q.1 = yix r q.2) ∧ ((∀ q ∈ A.2.2.2.1, ¬ g q.1 = g q.2) ∧ ((∀ n, n < 1000 → g n = n) ∧ ∀ q ∈ A.2.2.2.2, yPu r q)))
def yok (A : yA) (r : Nat → Value) (g : Nat → Nat) (h0 : xH) (M : yM) (h : xH) : Prop := ysh A.1 g h ∧ (ymem r g M.1 h ∧ ((∀ q ∈ M.2.1, xhold r q) ∧ yfr r g M.2.2 h0 h))
/-- these cells differ -/
def ydn (A : yA) (n m : Nat) : Bool := match Nat.ble n 999 && Nat.ble m 999 with
  | true => !(Nat.beq n m)
  | false => A.2.2.2.1.any (fun q => (Nat.beq q.1 n && Nat.beq q.2 m) || (Nat.beq q.1 m && Nat.beq q.2 n)) || (match A.1 n with
    | some z => (match A.1 m with
      | some u => !(Nat.beq z.1 u.1)
      | none => false)
    | none => false)
/-- these indexes differ -/
def ydi (A : yA) (i j : Jvm.Term) : Bool := match xlit i with
  | some x => (match xlit j with
    | some y => !(Nat.beq x.toNatClampNeg y.toNatClampNeg)
    | none => A.2.2.1.any (fun q => (xq q.1 i && xq q.2 j) || (xq q.1 j && xq q.2 i)))
  | none => A.2.2.1.any (fun q => (xq q.1 i && xq q.2 j) || (xq q.1 j && xq q.2 i))
/-- this index lies below -/
def ybk (A : yA) (i : Jvm.Term) (n : Nat) : Bool := match xlit i with
  | some v => !(decide (v < 0)) && !(Nat.ble n v.toNatClampNeg)
  | none => A.2.1.any (fun q => xq q.1 i && Nat.ble q.2 n)
def yrd (n : Nat) (i : Jvm.Term) (ov : yO) : Option Jvm.Term := match ov with
  | [] => none
  | q :: t => match Nat.beq q.1 n && xq q.2.1 i with
    | true => some q.2.2
    | false => yrd n i t
def ywr (A : yA) (n : Nat) (i t : Jvm.Term) (ov : yO) : yO := (n, i, t) :: ov.filter (fun q => ydn A q.1 n || ydi A q.2.1 i)
section
variable {A : yA} {r : Nat → Value} {g : Nat → Nat} {h0 h : xH} {ov : yO} {W : yW} {n m : Nat} {i j t : Jvm.Term}
theorem ydn_ok (hA : yas A r g) (hs : ysh A.1 g h) (k : ydn A n m = true) : ¬ g n = g m := by
  unfold ydn at k
  cases hb : (Nat.ble n 999 && Nat.ble m 999) with
  | true =>
    rw [hb] at k
    simp only [Bool.not_eq_true'] at k
    simp only [Bool.and_eq_true] at hb
    rw [hA.2.2.2.1 n (Nat.lt_succ_of_le (Nat.le_of_ble_eq_true hb.1)), hA.2.2.2.1 m (Nat.lt_succ_of_le (Nat.le_of_ble_eq_true hb.2))]
    intro e
    subst e
    rw [Nat.beq_refl] at k
    cases k
  | false =>
    rw [hb] at k
    simp only [Bool.or_eq_true] at k
    rcases k with k | k
    · obtain ⟨q, hq, e⟩ := List.any_eq_true.mp k
      have d := hA.2.2.1 q hq
      simp only [Bool.or_eq_true, Bool.and_eq_true] at e
      rcases e with ⟨e1, e2⟩ | ⟨e1, e2⟩
      · rw [← Nat.eq_of_beq_eq_true e1, ← Nat.eq_of_beq_eq_true e2]
        exact d
      · rw [← Nat.eq_of_beq_eq_true e1, ← Nat.eq_of_beq_eq_true e2]
        exact fun e => d e.symm
    · cases hz : A.1 n with
      | none => rw [hz] at k; cases k
      | some z =>
        rw [hz] at k
        simp only at k
        cases hu : A.1 m with
        | none => rw [hu] at k; cases k
        | some u =>
          rw [hu] at k
          simp only [Bool.not_eq_true'] at k
          obtain ⟨c, c1, c2, -⟩ := hs n z hz
          obtain ⟨d, d1, d2, -⟩ := hs m u hu
          intro e
          rw [e, d1] at c1
          cases c1
          rw [← c2, ← d2, Nat.beq_refl] at k
          cases k
theorem ydi_ok (hA : yas A r g) (k : ydi A i j = true) : ¬ yix r i = yix r j := by
  have key : A.2.2.1.any (fun q => (xq q.1 i && xq q.2 j) || (xq q.1 j && xq q.2 i)) = true → ¬ yix r i = yix r j := by
    intro k
    obtain ⟨q, hq, e⟩ := List.any_eq_true.mp k
    have d := hA.2.1 q hq
    simp only [Bool.or_eq_true, Bool.and_eq_true] at e
    rcases e with ⟨e1, e2⟩ | ⟨e1, e2⟩
    · rw [← xq_eq _ _ e1, ← xq_eq _ _ e2]
      exact d
    · rw [← xq_eq _ _ e1, ← xq_eq _ _ e2]
      exact fun e => d e.symm
  unfold ydi at k
  cases hx : xlit i with
  | none => rw [hx] at k; exact key k
  | some x =>
    rw [hx] at k
    simp only at k
    cases hy : xlit j with
    | none => rw [hy] at k; exact key k
    | some y =>
      rw [hy] at k
      simp only [Bool.not_eq_true'] at k
      rw [xlit_eq hx, xlit_eq hy]
      intro e
      have e : x.toNatClampNeg = y.toNatClampNeg := e
      rw [e, Nat.beq_refl] at k
      cases k
theorem ybk_ok (hA : yas A r g) {k : Nat} (hk : ybk A i k = true) : xix (.int (yv r i)) k = some (yix r i) ∧ yix r i < k := by
  have fin : (decide (yv r i < 0) || Nat.ble k (yv r i).toNatClampNeg) = false → xix (.int (yv r i)) k = some (yix r i) ∧ yix r i < k := by
    intro e
    refine ⟨?_, ?_⟩
    · simp only [xix, e]
      rfl
    · rw [Bool.or_eq_false_iff] at e
      by_cases q : yix r i < k
      · exact q
      · exact absurd (show Nat.ble k (yv r i).toNatClampNeg = true from Nat.ble_eq_true_of_le (Nat.le_of_not_lt q)) (by rw [e.2]; decide)
  unfold ybk at hk
  cases hx : xlit i with
  | some x =>
    rw [hx] at hk
    simp only [Bool.and_eq_true, Bool.not_eq_true'] at hk
    refine fin ?_
    rw [xlit_eq hx]
    show (decide (x < 0) || Nat.ble k x.toNatClampNeg) = false
    rw [hk.1, hk.2]
    rfl
  | none =>
    rw [hx] at hk
    obtain ⟨q, hq, e⟩ := List.any_eq_true.mp hk
    simp only [Bool.and_eq_true] at e
    have d := hA.1 q hq
    rw [xq_eq _ _ e.1] at d
    have l := Nat.le_of_ble_eq_true e.2
    refine fin ?_
    rw [Bool.or_eq_false_iff]
    refine ⟨decide_eq_false (fun z => ?_), ble_no ?_⟩
    · have z := Int32.lt_iff_toInt_lt.mp z
      have e0 : (0 : Int32).toInt = 0 := rfl
      omega
    · show (yv r i).toInt.toNat < k
      omega
theorem yrd_ok (hm : ymem r g ov h) (k : yrd n i ov = some t) : ∃ c, h[g n]? = some c ∧ c.2[yix r i]? = some (ysb r g t) := by
  induction ov with
  | nil => cases k
  | cons q l ih =>
    simp only [yrd] at k
    cases e : (Nat.beq q.1 n && xq q.2.1 i) with
    | true =>
      rw [e] at k
      cases k
      simp only [Bool.and_eq_true] at e
      have d := hm q List.mem_cons_self
      rw [Nat.eq_of_beq_eq_true e.1, xq_eq _ _ e.2] at d
      exact d
    | false =>
      rw [e] at k
      exact ih (fun z hz => hm z (List.mem_cons_of_mem _ hz)) k
/-- a write: shape, places, frame -/
theorem ywr_ok {c : xC} {C : List xB} (hA : yas A r g) (H : yok A r g h0 (ov, C, W) h) (hc : h[g n]? = some c) (hi : yix r i < c.2.length) (t : Jvm.Term) : yok A r g h0 (ywr A n i t ov, C, (n, i) :: W) (h.set (g n) (c.1, c.2.set (yix r i) (ysb r g t))) := by
  obtain ⟨H1, H2, H3, H4, H5⟩ := H
  have hn : g n < h.length := (List.getElem?_eq_some_iff.mp hc).1
  have hs : (h.set (g n) (c.1, c.2.set (yix r i) (ysb r g t)))[g n]? = some (c.1, c.2.set (yix r i) (ysb r g t)) := List.getElem?_set_self hn
  refine ⟨fun m z hz => ?_, fun q hq => ?_, H3, (List.length_set).trans H4, fun a d hd => ?_⟩
  · obtain ⟨d, d1, d2, d3⟩ := H1 m z hz
    by_cases e : g n = g m
    · rw [← e] at d1 ⊢
      rw [hc] at d1
      cases d1
      exact ⟨_, hs, d2, (List.length_set).trans d3⟩
    · exact ⟨d, by rw [List.getElem?_set_ne e]; exact d1, d2, d3⟩
  · unfold ywr at hq
    rcases List.mem_cons.mp hq with e | hq
    · subst e
      exact ⟨_, hs, List.getElem?_set_self hi⟩
    · obtain ⟨hq, k⟩ := List.mem_filter.mp hq
      obtain ⟨d, d1, d2⟩ := H2 q hq
      by_cases e : g n = g q.1
      · simp only [Bool.or_eq_true] at k
        rcases k with k | k
        · exact absurd e.symm (ydn_ok hA H1 k)
        · have f := ydi_ok hA k
          rw [← e] at d1 ⊢
          rw [hc] at d1
          cases d1
          exact ⟨_, hs, by rw [List.getElem?_set_ne (fun z => f z.symm)]; exact d2⟩
      · exact ⟨d, by rw [List.getElem?_set_ne e]; exact d1, d2⟩
  · obtain ⟨d', d1, d2, d3, d4⟩ := H5 a d hd
    by_cases e : g n = a
    · subst e
      rw [hc] at d1
      cases d1
      refine ⟨_, hs, d2, (List.length_set).trans d3, fun j hj => ?_⟩
      have f := hj (n, i) List.mem_cons_self
      show (c.2.set (yix r i) (ysb r g t))[j]? = d.2[j]?
      rw [List.getElem?_set_ne (fun z => f ⟨rfl, z⟩)]
      exact d4 j (fun q hq => hj q (List.mem_cons_of_mem _ hq))
    · refine ⟨d', by rw [List.getElem?_set_ne e]; exact d1, d2, d3, fun j hj => d4 j (fun q hq => hj q (List.mem_cons_of_mem _ hq))⟩
end
-- ===== conditions: what is known of them
/-- as one of eq, lt, le; whether it is turned -/
def ync (c : Jvm.ClassFile.Cond) : Jvm.ClassFile.Cond := match c with
  | .ne => .eq
  | .ge => .lt
  | .gt => .le
  | c => c
def ynf (c : Jvm.ClassFile.Cond) : Bool := match c with
  | .ne => true
  | .ge => true
  | .gt => true
  | _ => false
theorem ync_ok {c : Jvm.ClassFile.Cond} {x y : Int32} : xcmb c x y = (xcmb (ync c) x y ^^ ynf c) := by
  cases c <;> simp only [xcmb, ync, ynf, Bool.xor_false, Bool.xor_true]
  · rw [decide_not]
  · rw [← decide_not]
    refine decide_eq_decide.mpr ?_
    rw [Int32.lt_iff_toInt_lt, Int32.le_iff_toInt_le]
    omega
  · rw [← decide_not]
    refine decide_eq_decide.mpr ?_
    rw [Int32.lt_iff_toInt_lt, Int32.le_iff_toInt_le]
    omega
def yfd (c : Jvm.ClassFile.Cond) (a b : Jvm.Term) (C : List xB) : Option Bool := match C with
  | [] => none
  | q :: t => match decide (q.1 = c) && (xq q.2.1 a && xq q.2.2.1 b) with
    | true => some q.2.2.2
    | false => yfd c a b t
/-- the bounds of a term -/
def ybd (a : Jvm.Term) (C : List xB) : Int × Int := match C with
  | [] => (-2147483648, 2147483647)
  | q :: t => match xq q.2.1 a with
    | false => ybd a t
    | true => match xlit q.2.2.1 with
      | none => ybd a t
      | some y => match q.1, q.2.2.2 with
        | .lt, true => ((ybd a t).1, min (y.toInt - 1) (ybd a t).2)
        | .lt, false => (max y.toInt (ybd a t).1, (ybd a t).2)
        | .le, true => ((ybd a t).1, min y.toInt (ybd a t).2)
        | .le, false => (max (y.toInt + 1) (ybd a t).1, (ybd a t).2)
        | .eq, true => (y.toInt, y.toInt)
        | _, _ => ybd a t
def ydl (c : Jvm.ClassFile.Cond) (l u y : Int) : Option Bool := match c with
  | .lt => if u < y then some true else if y ≤ l then some false else none
  | .le => if u ≤ y then some true else if y < l then some false else none
  | .eq => if y < l then some false else if u < y then some false else if l = y ∧ u = y then some true else none
  | _ => none
/-- does it hold? -/
def ydc (c : Jvm.ClassFile.Cond) (a b : Jvm.Term) (C : List xB) : Option Bool := match xlit b with
  | some y => (match xlit a with
    | some x => some (xcmb c x y)
    | none => (match yfd c a b C with
      | some z => some z
      | none => ydl c (ybd a C).1 (ybd a C).2 y.toInt))
  | none => yfd c a b C
section
variable {r : Nat → Value} {a b : Jvm.Term} {C : List xB}
theorem xhold_b {q : xB} (h : xhold r q) : xcmb q.1 (yv r q.2.1) (yv r q.2.2.1) = q.2.2.2 := by
  unfold xhold at h
  cases e : q.2.2.2 with
  | true => rw [e] at h; exact xcmb_t.mpr h
  | false =>
    rw [e] at h
    cases f : xcmb q.1 (yv r q.2.1) (yv r q.2.2.1) with
    | false => rfl
    | true => exact absurd (xcmb_t.mp f) h
theorem xhold_o {q : xB} (h : xcmb q.1 (yv r q.2.1) (yv r q.2.2.1) = q.2.2.2) : xhold r q := by
  unfold xhold
  cases e : q.2.2.2 with
  | true => rw [e] at h; exact xcmb_t.mp h
  | false =>
    rw [e] at h
    intro f
    have f := xcmb_t.mpr f
    have f : xcmb q.1 (yv r q.2.1) (yv r q.2.2.1) = true := f
    rw [f] at h
    cases h
theorem yfd_ok {c : Jvm.ClassFile.Cond} {z : Bool} (hC : ∀ q ∈ C, xhold r q) (h : yfd c a b C = some z) : xcmb c (yv r a) (yv r b) = z := by
  induction C with
  | nil => cases h
  | cons q t ih =>
    simp only [yfd] at h
    cases e : (decide (q.1 = c) && (xq q.2.1 a && xq q.2.2.1 b)) with
    | true =>
      rw [e] at h
      cases h
      simp only [Bool.and_eq_true, decide_eq_true_eq] at e
      have d := xhold_b (hC q List.mem_cons_self)
      rw [e.1, xq_eq _ _ e.2.1, xq_eq _ _ e.2.2] at d
      exact d
    | false =>
      rw [e] at h
      exact ih (fun u hu => hC u (List.mem_cons_of_mem _ hu)) h
theorem ybd_ok (hC : ∀ q ∈ C, xhold r q) : (ybd a C).1 ≤ (yv r a).toInt ∧ (yv r a).toInt ≤ (ybd a C).2 := by
  induction C with
  | nil => exact ⟨bi_lo _, bi_hi _⟩
  | cons q t ih =>
    have ih := ih (fun u hu => hC u (List.mem_cons_of_mem _ hu))
    have d := xhold_b (hC q List.mem_cons_self)
    unfold ybd
    cases e : xq q.2.1 a with
    | false => exact ih
    | true =>
      cases f : xlit q.2.2.1 with
      | none => exact ih
      | some y =>
        rw [xq_eq _ _ e, xlit_eq f] at d
        have d : xcmb q.1 (yv r a) y = q.2.2.2 := d
        obtain ⟨c, t1, t2, z⟩ := q
        simp only at d ⊢
        cases c <;> cases z <;> simp only [xcmb, decide_eq_true_eq, decide_eq_false_iff_not, Int32.lt_iff_toInt_lt, Int32.le_iff_toInt_le] at d <;> first | exact ih | skip
        · rw [d]
          exact ⟨Int.le_refl _, Int.le_refl _⟩
        · exact ⟨Int.max_le.mpr ⟨by omega, ih.1⟩, ih.2⟩
        · exact ⟨ih.1, Int.le_min.mpr ⟨by omega, ih.2⟩⟩
        · exact ⟨Int.max_le.mpr ⟨by omega, ih.1⟩, ih.2⟩
        · exact ⟨ih.1, Int.le_min.mpr ⟨by omega, ih.2⟩⟩
theorem ydl_ok {c : Jvm.ClassFile.Cond} {l u : Int} {x y : Int32} {z : Bool} (h1 : l ≤ x.toInt) (h2 : x.toInt ≤ u) (h : ydl c l u y.toInt = some z) : xcmb c x y = z := by
  cases c <;> simp only [ydl] at h <;> first | (cases h; done) | skip
  · split at h
    · cases h
      refine decide_eq_false (fun e => ?_)
      rw [e] at h1
      omega
    · split at h
      · cases h
        refine decide_eq_false (fun e => ?_)
        rw [e] at h2
        omega
      · split at h
        · cases h
          exact decide_eq_true (Int32.toInt_inj.mp (by omega))
        · cases h
  · split at h
    · cases h
      exact decide_eq_true (Int32.lt_iff_toInt_lt.mpr (by omega))
    · split at h
      · cases h
        refine decide_eq_false (fun e => ?_)
        have e := Int32.lt_iff_toInt_lt.mp e
        omega
      · cases h
  · split at h
    · cases h
      exact decide_eq_true (Int32.le_iff_toInt_le.mpr (by omega))
    · split at h
      · cases h
        refine decide_eq_false (fun e => ?_)
        have e := Int32.le_iff_toInt_le.mp e
        omega
      · cases h
theorem ydc_ok {c : Jvm.ClassFile.Cond} {z : Bool} (hC : ∀ q ∈ C, xhold r q) (h : ydc c a b C = some z) : xcmb c (yv r a) (yv r b) = z := by
  unfold ydc at h
  cases hb : xlit b with
  | none => rw [hb] at h; exact yfd_ok hC h
  | some y =>
    rw [hb] at h
    simp only at h
    cases ha : xlit a with
    | some x =>
      rw [ha] at h
      cases h
      rw [xlit_eq ha, xlit_eq hb]
      rfl
    | none =>
      rw [ha] at h
      simp only at h
      cases hf : yfd c a b C with
      | some w =>
        rw [hf] at h
        cases h
        exact yfd_ok hC hf
      | none =>
        rw [hf] at h
        have k := ybd_ok (a := a) hC
        rw [xlit_eq hb]
        exact ydl_ok k.1 k.2 h
end
