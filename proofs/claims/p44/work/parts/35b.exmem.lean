-- ===== places, conditions, what is taken as given
abbrev yO : Type := List (Nat × Jvm.Term × Jvm.Term)
abbrev yW : Type := List (Nat × Jvm.Term)
abbrev yM : Type := yO × List xB × yW
abbrev yS : Type := Nat × xL × List Jvm.Term × yM
abbrev yR : Type := Option Jvm.Term × yM
/-- cells' classes and lengths; indexes below lengths; indexes that differ; cells that differ; calls of ints whose answer is told, and that change nothing -/
abbrev yA : Type := (Nat → Option (Nat × Nat)) × List (Jvm.Term × Nat) × List (Jvm.Term × Jvm.Term) × List (Nat × Nat) × List (Nat × List Jvm.Term × Jvm.Term)
def yix (r_ : Nat → Value) (i_ : Jvm.Term) : Nat := (yv r_ i_).toNatClampNeg
def ysh (Z : Nat → Option (Nat × Nat)) (g_ : Nat → Nat) (h_ : xH) : Prop := ∀ n_ z_, Z n_ = some z_ → ∃ c_, h_[g_ n_]? = some c_ ∧ c_.1 = z_.1 ∧ c_.2.length = z_.2
def ymem (r_ : Nat → Value) (g_ : Nat → Nat) (ov : yO) (h_ : xH) : Prop := ∀ q_ ∈ ov, ∃ c_, h_[g_ q_.1]? = some c_ ∧ c_.2[yix r_ q_.2.1]? = some (ysb r_ g_ q_.2.2)
def yfr (r_ : Nat → Value) (g_ : Nat → Nat) (W_ : yW) (h0 h_ : xH) : Prop := h_.length = h0.length ∧ ∀ a_ c_, h0[a_]? = some c_ → ∃ c', h_[a_]? = some c' ∧ c'.1 = c_.1 ∧ c'.2.length = c_.2.length ∧ ∀ j_, (∀ q_ ∈ W_, ¬ (g_ q_.1 = a_ ∧ yix r_ q_.2 = j_)) → c'.2[j_]? = c_.2[j_]?
def yPu (r_ : Nat → Value) (q_ : Nat × List Jvm.Term × Jvm.Term) : Prop := ∀ (h_ : xH) (D_ : Nat), 5 ≤ D_ → xrun D_ q_.1 0 (xal 0 (q_.2.1.map (fun t_ => .int (yv r_ t_)))) [] h_ (some (.int (yv r_ q_.2.2)), h_, [])
def yas (A_ : yA) (r_ : Nat → Value) (g_ : Nat → Nat) : Prop := (∀ q_ ∈ A_.2.1, 0 ≤ (yv r_ q_.1).toInt ∧ (yv r_ q_.1).toInt < (q_.2 : Int)) ∧ ((∀ q_ ∈ A_.2.2.1, ¬ yix r_ q_.1 = yix r_ q_.2) ∧ ((∀ q_ ∈ A_.2.2.2.1, ¬ g_ q_.1 = g_ q_.2) ∧ ((∀ n_, n_ < 1000 → g_ n_ = n_) ∧ ∀ q_ ∈ A_.2.2.2.2, yPu r_ q_)))
def yok (A_ : yA) (r_ : Nat → Value) (g_ : Nat → Nat) (h0 : xH) (M_ : yM) (h_ : xH) : Prop := ysh A_.1 g_ h_ ∧ (ymem r_ g_ M_.1 h_ ∧ ((∀ q_ ∈ M_.2.1, xhold r_ q_) ∧ yfr r_ g_ M_.2.2 h0 h_))
/-- these cells differ -/
def ydn (A_ : yA) (n_ m_ : Nat) : Bool := match Nat.ble n_ 999 && Nat.ble m_ 999 with
  | true => !(Nat.beq n_ m_)
  | false => A_.2.2.2.1.any (fun q_ => (Nat.beq q_.1 n_ && Nat.beq q_.2 m_) || (Nat.beq q_.1 m_ && Nat.beq q_.2 n_)) || (match A_.1 n_ with
    | some z_ => (match A_.1 m_ with
      | some u_ => !(Nat.beq z_.1 u_.1)
      | none => false)
    | none => false)
/-- these indexes differ -/
def ydi (A_ : yA) (i_ j_ : Jvm.Term) : Bool := match xlit i_ with
  | some x_ => (match xlit j_ with
    | some y_ => !(Nat.beq x_.toNatClampNeg y_.toNatClampNeg)
    | none => A_.2.2.1.any (fun q_ => (xq q_.1 i_ && xq q_.2 j_) || (xq q_.1 j_ && xq q_.2 i_)))
  | none => A_.2.2.1.any (fun q_ => (xq q_.1 i_ && xq q_.2 j_) || (xq q_.1 j_ && xq q_.2 i_))
/-- this index lies below -/
def ybk (A_ : yA) (i_ : Jvm.Term) (n_ : Nat) : Bool := match xlit i_ with
  | some v_ => !(decide (v_ < 0)) && !(Nat.ble n_ v_.toNatClampNeg)
  | none => A_.2.1.any (fun q_ => xq q_.1 i_ && Nat.ble q_.2 n_)
def yrd (n_ : Nat) (i_ : Jvm.Term) (ov : yO) : Option Jvm.Term := match ov with
  | [] => none
  | q_ :: t_ => match Nat.beq q_.1 n_ && xq q_.2.1 i_ with
    | true => some q_.2.2
    | false => yrd n_ i_ t_
def ywr (A_ : yA) (n_ : Nat) (i_ t_ : Jvm.Term) (ov : yO) : yO := (n_, i_, t_) :: ov.filter (fun q_ => ydn A_ q_.1 n_ || ydi A_ q_.2.1 i_)
section
variable {A_ : yA} {r_ : Nat → Value} {g_ : Nat → Nat} {h0 h_ : xH} {ov : yO} {W_ : yW} {n_ m_ : Nat} {i_ j_ t_ : Jvm.Term}
theorem ydn_ok (hA : yas A_ r_ g_) (hs : ysh A_.1 g_ h_) (k_ : ydn A_ n_ m_ = true) : ¬ g_ n_ = g_ m_ := by
  unfold ydn at k_
  cases hb_ : (Nat.ble n_ 999 && Nat.ble m_ 999) with
  | true =>
    rw [hb_] at k_
    simp only [Bool.not_eq_true'] at k_
    simp only [Bool.and_eq_true] at hb_
    rw [hA.2.2.2.1 n_ (Nat.lt_succ_of_le (Nat.le_of_ble_eq_true hb_.1)), hA.2.2.2.1 m_ (Nat.lt_succ_of_le (Nat.le_of_ble_eq_true hb_.2))]
    intro e_
    subst e_
    rw [Nat.beq_refl] at k_
    cases k_
  | false =>
    rw [hb_] at k_
    simp only [Bool.or_eq_true] at k_
    rcases k_ with k_ | k_
    · obtain ⟨q_, hq, e_⟩ := List.any_eq_true.mp k_
      have d_ := hA.2.2.1 q_ hq
      simp only [Bool.or_eq_true, Bool.and_eq_true] at e_
      rcases e_ with ⟨e1_, e2_⟩ | ⟨e1_, e2_⟩
      · rw [← Nat.eq_of_beq_eq_true e1_, ← Nat.eq_of_beq_eq_true e2_]
        exact d_
      · rw [← Nat.eq_of_beq_eq_true e1_, ← Nat.eq_of_beq_eq_true e2_]
        exact fun e_ => d_ e_.symm
    · cases hz : A_.1 n_ with
      | none => rw [hz] at k_; cases k_
      | some z_ =>
        rw [hz] at k_
        simp only at k_
        cases hu : A_.1 m_ with
        | none => rw [hu] at k_; cases k_
        | some u_ =>
          rw [hu] at k_
          simp only [Bool.not_eq_true'] at k_
          obtain ⟨c_, c1_, c2_, -⟩ := hs n_ z_ hz
          obtain ⟨d_, d1_, d2_, -⟩ := hs m_ u_ hu
          intro e_
          rw [e_, d1_] at c1_
          cases c1_
          rw [← c2_, ← d2_, Nat.beq_refl] at k_
          cases k_
theorem ydi_ok (hA : yas A_ r_ g_) (k_ : ydi A_ i_ j_ = true) : ¬ yix r_ i_ = yix r_ j_ := by
  have key_ : A_.2.2.1.any (fun q_ => (xq q_.1 i_ && xq q_.2 j_) || (xq q_.1 j_ && xq q_.2 i_)) = true → ¬ yix r_ i_ = yix r_ j_ := by
    intro k_
    obtain ⟨q_, hq, e_⟩ := List.any_eq_true.mp k_
    have d_ := hA.2.1 q_ hq
    simp only [Bool.or_eq_true, Bool.and_eq_true] at e_
    rcases e_ with ⟨e1_, e2_⟩ | ⟨e1_, e2_⟩
    · rw [← xq_eq _ _ e1_, ← xq_eq _ _ e2_]
      exact d_
    · rw [← xq_eq _ _ e1_, ← xq_eq _ _ e2_]
      exact fun e_ => d_ e_.symm
  unfold ydi at k_
  cases hx : xlit i_ with
  | none => rw [hx] at k_; exact key_ k_
  | some x_ =>
    rw [hx] at k_
    simp only at k_
    cases hy : xlit j_ with
    | none => rw [hy] at k_; exact key_ k_
    | some y_ =>
      rw [hy] at k_
      simp only [Bool.not_eq_true'] at k_
      rw [xlit_eq hx, xlit_eq hy]
      intro e_
      have e_ : x_.toNatClampNeg = y_.toNatClampNeg := e_
      rw [e_, Nat.beq_refl] at k_
      cases k_
theorem ybk_ok (hA : yas A_ r_ g_) {k_ : Nat} (hk : ybk A_ i_ k_ = true) : xix (.int (yv r_ i_)) k_ = some (yix r_ i_) ∧ yix r_ i_ < k_ := by
  have fin_ : (decide (yv r_ i_ < 0) || Nat.ble k_ (yv r_ i_).toNatClampNeg) = false → xix (.int (yv r_ i_)) k_ = some (yix r_ i_) ∧ yix r_ i_ < k_ := by
    intro e_
    refine ⟨?_, ?_⟩
    · simp only [xix, e_]
      rfl
    · rw [Bool.or_eq_false_iff] at e_
      by_cases q_ : yix r_ i_ < k_
      · exact q_
      · exact absurd (show Nat.ble k_ (yv r_ i_).toNatClampNeg = true from Nat.ble_eq_true_of_le (Nat.le_of_not_lt q_)) (by rw [e_.2]; decide)
  unfold ybk at hk
  cases hx : xlit i_ with
  | some x_ =>
    rw [hx] at hk
    simp only [Bool.and_eq_true, Bool.not_eq_true'] at hk
    refine fin_ ?_
    rw [xlit_eq hx]
    show (decide (x_ < 0) || Nat.ble k_ x_.toNatClampNeg) = false
    rw [hk.1, hk.2]
    rfl
  | none =>
    rw [hx] at hk
    obtain ⟨q_, hq, e_⟩ := List.any_eq_true.mp hk
    simp only [Bool.and_eq_true] at e_
    have d_ := hA.1 q_ hq
    rw [xq_eq _ _ e_.1] at d_
    have l := Nat.le_of_ble_eq_true e_.2
    refine fin_ ?_
    rw [Bool.or_eq_false_iff]
    refine ⟨decide_eq_false (fun z_ => ?_), ble_no ?_⟩
    · have z_ := Int32.lt_iff_toInt_lt.mp z_
      have e0_ : (0 : Int32).toInt = 0 := rfl
      omega
    · show (yv r_ i_).toInt.toNat < k_
      omega
theorem yrd_ok (hm_ : ymem r_ g_ ov h_) (k_ : yrd n_ i_ ov = some t_) : ∃ c_, h_[g_ n_]? = some c_ ∧ c_.2[yix r_ i_]? = some (ysb r_ g_ t_) := by
  induction ov with
  | nil => cases k_
  | cons q_ l ih_ =>
    simp only [yrd] at k_
    cases e_ : (Nat.beq q_.1 n_ && xq q_.2.1 i_) with
    | true =>
      rw [e_] at k_
      cases k_
      simp only [Bool.and_eq_true] at e_
      have d_ := hm_ q_ List.mem_cons_self
      rw [Nat.eq_of_beq_eq_true e_.1, xq_eq _ _ e_.2] at d_
      exact d_
    | false =>
      rw [e_] at k_
      exact ih_ (fun z_ hz => hm_ z_ (List.mem_cons_of_mem _ hz)) k_
/-- a write: shape, places, frame -/
theorem ywr_ok {c_ : xC} {C_ : List xB} (hA : yas A_ r_ g_) (H_ : yok A_ r_ g_ h0 (ov, C_, W_) h_) (hc_ : h_[g_ n_]? = some c_) (hi_ : yix r_ i_ < c_.2.length) (t_ : Jvm.Term) : yok A_ r_ g_ h0 (ywr A_ n_ i_ t_ ov, C_, (n_, i_) :: W_) (h_.set (g_ n_) (c_.1, c_.2.set (yix r_ i_) (ysb r_ g_ t_))) := by
  obtain ⟨H1_, H2_, H3, H4, H5⟩ := H_
  have hn : g_ n_ < h_.length := (List.getElem?_eq_some_iff.mp hc_).1
  have hs : (h_.set (g_ n_) (c_.1, c_.2.set (yix r_ i_) (ysb r_ g_ t_)))[g_ n_]? = some (c_.1, c_.2.set (yix r_ i_) (ysb r_ g_ t_)) := List.getElem?_set_self hn
  refine ⟨fun m_ z_ hz => ?_, fun q_ hq => ?_, H3, (List.length_set).trans H4, fun a_ d_ hd_ => ?_⟩
  · obtain ⟨d_, d1_, d2_, d3_⟩ := H1_ m_ z_ hz
    by_cases e_ : g_ n_ = g_ m_
    · rw [← e_] at d1_ ⊢
      rw [hc_] at d1_
      cases d1_
      exact ⟨_, hs, d2_, (List.length_set).trans d3_⟩
    · exact ⟨d_, by rw [List.getElem?_set_ne e_]; exact d1_, d2_, d3_⟩
  · unfold ywr at hq
    rcases List.mem_cons.mp hq with e_ | hq
    · subst e_
      exact ⟨_, hs, List.getElem?_set_self hi_⟩
    · obtain ⟨hq, k_⟩ := List.mem_filter.mp hq
      obtain ⟨d_, d1_, d2_⟩ := H2_ q_ hq
      by_cases e_ : g_ n_ = g_ q_.1
      · simp only [Bool.or_eq_true] at k_
        rcases k_ with k_ | k_
        · exact absurd e_.symm (ydn_ok hA H1_ k_)
        · have f_ := ydi_ok hA k_
          rw [← e_] at d1_ ⊢
          rw [hc_] at d1_
          cases d1_
          exact ⟨_, hs, by rw [List.getElem?_set_ne (fun z_ => f_ z_.symm)]; exact d2_⟩
      · exact ⟨d_, by rw [List.getElem?_set_ne e_]; exact d1_, d2_⟩
  · obtain ⟨d', d1_, d2_, d3_, d4_⟩ := H5 a_ d_ hd_
    by_cases e_ : g_ n_ = a_
    · subst e_
      rw [hc_] at d1_
      cases d1_
      refine ⟨_, hs, d2_, (List.length_set).trans d3_, fun j_ hj => ?_⟩
      have f_ := hj (n_, i_) List.mem_cons_self
      show (c_.2.set (yix r_ i_) (ysb r_ g_ t_))[j_]? = d_.2[j_]?
      rw [List.getElem?_set_ne (fun z_ => f_ ⟨rfl, z_⟩)]
      exact d4_ j_ (fun q_ hq => hj q_ (List.mem_cons_of_mem _ hq))
    · refine ⟨d', by rw [List.getElem?_set_ne e_]; exact d1_, d2_, d3_, fun j_ hj => d4_ j_ (fun q_ hq => hj q_ (List.mem_cons_of_mem _ hq))⟩
end
-- ===== conditions: what is known of them
/-- as one of eq, lt, le; whether it is turned -/
def ync (c_ : Jvm.ClassFile.Cond) : Jvm.ClassFile.Cond := match c_ with
  | .ne => .eq
  | .ge => .lt
  | .gt => .le
  | c_ => c_
def ynf (c_ : Jvm.ClassFile.Cond) : Bool := match c_ with
  | .ne => true
  | .ge => true
  | .gt => true
  | _ => false
theorem ync_ok {c_ : Jvm.ClassFile.Cond} {x_ y_ : Int32} : xcmb c_ x_ y_ = (xcmb (ync c_) x_ y_ ^^ ynf c_) := by
  cases c_ <;> simp only [xcmb, ync, ynf, Bool.xor_false, Bool.xor_true]
  · rw [decide_not]
  · rw [← decide_not]
    refine decide_eq_decide.mpr ?_
    rw [Int32.lt_iff_toInt_lt, Int32.le_iff_toInt_le]
    omega
  · rw [← decide_not]
    refine decide_eq_decide.mpr ?_
    rw [Int32.lt_iff_toInt_lt, Int32.le_iff_toInt_le]
    omega
def yfd (c_ : Jvm.ClassFile.Cond) (a_ b_ : Jvm.Term) (C_ : List xB) : Option Bool := match C_ with
  | [] => none
  | q_ :: t_ => match decide (q_.1 = c_) && (xq q_.2.1 a_ && xq q_.2.2.1 b_) with
    | true => some q_.2.2.2
    | false => yfd c_ a_ b_ t_
/-- the bounds of a term -/
def ybd (a_ : Jvm.Term) (C_ : List xB) : Int × Int := match C_ with
  | [] => (-2147483648, 2147483647)
  | q_ :: t_ => match xq q_.2.1 a_ with
    | false => ybd a_ t_
    | true => match xlit q_.2.2.1 with
      | none => ybd a_ t_
      | some y_ => match q_.1, q_.2.2.2 with
        | .lt, true => ((ybd a_ t_).1, min (y_.toInt - 1) (ybd a_ t_).2)
        | .lt, false => (max y_.toInt (ybd a_ t_).1, (ybd a_ t_).2)
        | .le, true => ((ybd a_ t_).1, min y_.toInt (ybd a_ t_).2)
        | .le, false => (max (y_.toInt + 1) (ybd a_ t_).1, (ybd a_ t_).2)
        | .eq, true => (y_.toInt, y_.toInt)
        | _, _ => ybd a_ t_
def ydl (c_ : Jvm.ClassFile.Cond) (l u_ y_ : Int) : Option Bool := match c_ with
  | .lt => if u_ < y_ then some true else if y_ ≤ l then some false else none
  | .le => if u_ ≤ y_ then some true else if y_ < l then some false else none
  | .eq => if y_ < l then some false else if u_ < y_ then some false else if l = y_ ∧ u_ = y_ then some true else none
  | _ => none
/-- does it hold? -/
def ydc (c_ : Jvm.ClassFile.Cond) (a_ b_ : Jvm.Term) (C_ : List xB) : Option Bool := match xlit b_ with
  | some y_ => (match xlit a_ with
    | some x_ => some (xcmb c_ x_ y_)
    | none => (match yfd c_ a_ b_ C_ with
      | some z_ => some z_
      | none => ydl c_ (ybd a_ C_).1 (ybd a_ C_).2 y_.toInt))
  | none => yfd c_ a_ b_ C_
section
variable {r_ : Nat → Value} {a_ b_ : Jvm.Term} {C_ : List xB}
theorem xhold_b {q_ : xB} (h_ : xhold r_ q_) : xcmb q_.1 (yv r_ q_.2.1) (yv r_ q_.2.2.1) = q_.2.2.2 := by
  unfold xhold at h_
  cases e_ : q_.2.2.2 with
  | true => rw [e_] at h_; exact xcmb_t.mpr h_
  | false =>
    rw [e_] at h_
    cases f_ : xcmb q_.1 (yv r_ q_.2.1) (yv r_ q_.2.2.1) with
    | false => rfl
    | true => exact absurd (xcmb_t.mp f_) h_
theorem xhold_o {q_ : xB} (h_ : xcmb q_.1 (yv r_ q_.2.1) (yv r_ q_.2.2.1) = q_.2.2.2) : xhold r_ q_ := by
  unfold xhold
  cases e_ : q_.2.2.2 with
  | true => rw [e_] at h_; exact xcmb_t.mp h_
  | false =>
    rw [e_] at h_
    intro f_
    have f_ := xcmb_t.mpr f_
    have f_ : xcmb q_.1 (yv r_ q_.2.1) (yv r_ q_.2.2.1) = true := f_
    rw [f_] at h_
    cases h_
theorem yfd_ok {c_ : Jvm.ClassFile.Cond} {z_ : Bool} (hC : ∀ q_ ∈ C_, xhold r_ q_) (h_ : yfd c_ a_ b_ C_ = some z_) : xcmb c_ (yv r_ a_) (yv r_ b_) = z_ := by
  induction C_ with
  | nil => cases h_
  | cons q_ t_ ih_ =>
    simp only [yfd] at h_
    cases e_ : (decide (q_.1 = c_) && (xq q_.2.1 a_ && xq q_.2.2.1 b_)) with
    | true =>
      rw [e_] at h_
      cases h_
      simp only [Bool.and_eq_true, decide_eq_true_eq] at e_
      have d_ := xhold_b (hC q_ List.mem_cons_self)
      rw [e_.1, xq_eq _ _ e_.2.1, xq_eq _ _ e_.2.2] at d_
      exact d_
    | false =>
      rw [e_] at h_
      exact ih_ (fun u_ hu => hC u_ (List.mem_cons_of_mem _ hu)) h_
theorem ybd_ok (hC : ∀ q_ ∈ C_, xhold r_ q_) : (ybd a_ C_).1 ≤ (yv r_ a_).toInt ∧ (yv r_ a_).toInt ≤ (ybd a_ C_).2 := by
  induction C_ with
  | nil => exact ⟨bi_lo _, bi_hi _⟩
  | cons q_ t_ ih_ =>
    have ih_ := ih_ (fun u_ hu => hC u_ (List.mem_cons_of_mem _ hu))
    have d_ := xhold_b (hC q_ List.mem_cons_self)
    unfold ybd
    cases e_ : xq q_.2.1 a_ with
    | false => exact ih_
    | true =>
      cases f_ : xlit q_.2.2.1 with
      | none => exact ih_
      | some y_ =>
        rw [xq_eq _ _ e_, xlit_eq f_] at d_
        have d_ : xcmb q_.1 (yv r_ a_) y_ = q_.2.2.2 := d_
        obtain ⟨c_, t1_, t2_, z_⟩ := q_
        simp only at d_ ⊢
        cases c_ <;> cases z_ <;> simp only [xcmb, decide_eq_true_eq, decide_eq_false_iff_not, Int32.lt_iff_toInt_lt, Int32.le_iff_toInt_le] at d_ <;> first | exact ih_ | skip
        · rw [d_]
          exact ⟨Int.le_refl _, Int.le_refl _⟩
        · exact ⟨Int.max_le.mpr ⟨by omega, ih_.1⟩, ih_.2⟩
        · exact ⟨ih_.1, Int.le_min.mpr ⟨by omega, ih_.2⟩⟩
        · exact ⟨Int.max_le.mpr ⟨by omega, ih_.1⟩, ih_.2⟩
        · exact ⟨ih_.1, Int.le_min.mpr ⟨by omega, ih_.2⟩⟩
theorem ydl_ok {c_ : Jvm.ClassFile.Cond} {l u_ : Int} {x_ y_ : Int32} {z_ : Bool} (h1 : l ≤ x_.toInt) (h2 : x_.toInt ≤ u_) (h_ : ydl c_ l u_ y_.toInt = some z_) : xcmb c_ x_ y_ = z_ := by
  cases c_ <;> simp only [ydl] at h_ <;> first | (cases h_; done) | skip
  · split at h_
    · cases h_
      refine decide_eq_false (fun e_ => ?_)
      rw [e_] at h1
      omega
    · split at h_
      · cases h_
        refine decide_eq_false (fun e_ => ?_)
        rw [e_] at h2
        omega
      · split at h_
        · cases h_
          exact decide_eq_true (Int32.toInt_inj.mp (by omega))
        · cases h_
  · split at h_
    · cases h_
      exact decide_eq_true (Int32.lt_iff_toInt_lt.mpr (by omega))
    · split at h_
      · cases h_
        refine decide_eq_false (fun e_ => ?_)
        have e_ := Int32.lt_iff_toInt_lt.mp e_
        omega
      · cases h_
  · split at h_
    · cases h_
      exact decide_eq_true (Int32.le_iff_toInt_le.mpr (by omega))
    · split at h_
      · cases h_
        refine decide_eq_false (fun e_ => ?_)
        have e_ := Int32.le_iff_toInt_le.mp e_
        omega
      · cases h_
theorem ydc_ok {c_ : Jvm.ClassFile.Cond} {z_ : Bool} (hC : ∀ q_ ∈ C_, xhold r_ q_) (h_ : ydc c_ a_ b_ C_ = some z_) : xcmb c_ (yv r_ a_) (yv r_ b_) = z_ := by
  unfold ydc at h_
  cases hb_ : xlit b_ with
  | none => rw [hb_] at h_; exact yfd_ok hC h_
  | some y_ =>
    rw [hb_] at h_
    simp only at h_
    cases ha_ : xlit a_ with
    | some x_ =>
      rw [ha_] at h_
      cases h_
      rw [xlit_eq ha_, xlit_eq hb_]
      rfl
    | none =>
      rw [ha_] at h_
      simp only at h_
      cases hf : yfd c_ a_ b_ C_ with
      | some w_ =>
        rw [hf] at h_
        cases h_
        exact yfd_ok hC hf
      | none =>
        rw [hf] at h_
        have k_ := ybd_ok (a_ := a_) hC
        rw [xlit_eq hb_]
        exact ydl_ok k_.1 k_.2 h_
end
