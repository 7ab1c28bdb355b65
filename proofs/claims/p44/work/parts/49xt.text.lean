-- ===== TEXT: what both readers do, as one function
def nxt (T : List Int32) (a_ : Nat) : Int32 := (T[a_]?).getD (-1)
theorem nxt_in {T : List Int32} {a_ : Nat} (h_ : a_ < T.length) : T[a_]? = some (nxt T a_) := by
  unfold nxt
  rw [List.getElem?_eq_getElem h_]
  rfl
theorem nxt_out {T : List Int32} {a_ : Nat} (h_ : ¬ a_ < T.length) : nxt T a_ = -1 := by
  unfold nxt
  rw [List.getElem?_eq_none_iff.mpr (by omega)]
  rfl
theorem nxt_lt {T : List Int32} {a_ : Nat} (h_ : ¬ nxt T a_ = -1) : a_ < T.length := by
  by_cases g_ : a_ < T.length
  · exact g_
  · exact absurd (nxt_out g_) h_
/-- bytes -/
def byts (T : List Int32) : Prop := T.length ≤ 60 ∧ ∀ x_ ∈ T, 0 ≤ x_.toInt ∧ x_.toInt ≤ 255
theorem nxt_b {T : List Int32} {a_ : Nat} (H_ : byts T) : -1 ≤ (nxt T a_).toInt ∧ (nxt T a_).toInt ≤ 255 := by
  by_cases g_ : a_ < T.length
  · have e_ := H_.2 _ (List.mem_of_getElem? (nxt_in g_))
    omega
  · rw [nxt_out g_]
    decide
theorem nxt_0 {T : List Int32} {a_ : Nat} (H_ : byts T) (h_ : ¬ nxt T a_ = -1) : 0 ≤ (nxt T a_).toInt := (H_.2 _ (List.mem_of_getElem? (nxt_in (nxt_lt h_)))).1
/-- level of what joins -/
def lvF (x_ : Int32) : Int32 := if x_ = 124 then 0 else if x_ = 38 then 1 else if x_ = 60 ∨ (x_ = 61 ∨ x_ = 62) then 2 else if x_ = 43 ∨ x_ = 45 then 3 else if x_ = 42 ∨ (x_ = 47 ∨ x_ = 37) then 4 else -1
theorem lv_no {x_ : Int32} (h0 : ¬ x_ = 124) (h1 : ¬ x_ = 38) (h2 : ¬ (x_ = 60 ∨ (x_ = 61 ∨ x_ = 62))) (h3 : ¬ (x_ = 43 ∨ x_ = 45)) (h4 : ¬ (x_ = 42 ∨ (x_ = 47 ∨ x_ = 37))) : lvF x_ = -1 := by
  unfold lvF
  rw [if_neg h0, if_neg h1, if_neg h2, if_neg h3, if_neg h4]
theorem lv_cs (x_ : Int32) : (x_ = 124 ∧ lvF x_ = 0) ∨ ((x_ = 38 ∧ lvF x_ = 1) ∨ (((x_ = 60 ∨ (x_ = 61 ∨ x_ = 62)) ∧ lvF x_ = 2) ∨ (((x_ = 43 ∨ x_ = 45) ∧ lvF x_ = 3) ∨ (((x_ = 42 ∨ (x_ = 47 ∨ x_ = 37)) ∧ lvF x_ = 4) ∨ (lvF x_ = -1 ∧ (¬ x_ = 124 ∧ (¬ x_ = 38 ∧ (¬ (x_ = 60 ∨ (x_ = 61 ∨ x_ = 62)) ∧ (¬ (x_ = 43 ∨ x_ = 45) ∧ ¬ (x_ = 42 ∨ (x_ = 47 ∨ x_ = 37)))))))))))  := by
  by_cases h0 : x_ = 124
  · exact Or.inl ⟨h0, by rw [h0]; decide⟩
  by_cases h1 : x_ = 38
  · exact Or.inr (Or.inl ⟨h1, by rw [h1]; decide⟩)
  by_cases h2 : x_ = 60 ∨ (x_ = 61 ∨ x_ = 62)
  · exact Or.inr (Or.inr (Or.inl ⟨h2, by rcases h2 with e_ | e_ | e_ <;> rw [e_] <;> decide⟩))
  by_cases h3 : x_ = 43 ∨ x_ = 45
  · exact Or.inr (Or.inr (Or.inr (Or.inl ⟨h3, by rcases h3 with e_ | e_ <;> rw [e_] <;> decide⟩)))
  by_cases h4 : x_ = 42 ∨ (x_ = 47 ∨ x_ = 37)
  · exact Or.inr (Or.inr (Or.inr (Or.inr (Or.inl ⟨h4, by rcases h4 with e_ | e_ | e_ <;> rw [e_] <;> decide⟩))))
  · exact Or.inr (Or.inr (Or.inr (Or.inr (Or.inr ⟨lv_no h0 h1 h2 h3 h4, h0, h1, h2, h3, h4⟩))))
theorem lv_j {x_ : Int32} {l : Nat} (hl : l ≤ 4) (h_ : lvF x_ = Int32.ofNat l) : ∃ c_, c_ ∈ jsg ∧ x_ = Int32.ofNat c_ := by
  rcases lv_cs x_ with ⟨e_, -⟩ | ⟨e_, -⟩ | ⟨e_ | e_ | e_, -⟩ | ⟨e_ | e_, -⟩ | ⟨e_ | e_ | e_, -⟩ | ⟨e_, -⟩
  · exact ⟨124, by decide, e_⟩
  · exact ⟨38, by decide, e_⟩
  · exact ⟨60, by decide, e_⟩
  · exact ⟨61, by decide, e_⟩
  · exact ⟨62, by decide, e_⟩
  · exact ⟨43, by decide, e_⟩
  · exact ⟨45, by decide, e_⟩
  · exact ⟨42, by decide, e_⟩
  · exact ⟨47, by decide, e_⟩
  · exact ⟨37, by decide, e_⟩
  · rw [e_] at h_
    have q_ := congrArg Int32.toInt h_
    rw [i32n (by omega)] at q_
    have z_ : (-1 : Int32).toInt = -1 := rfl
    omega
theorem lv_n1 {x_ : Int32} {l : Nat} (hl : l ≤ 4) (h_ : lvF x_ = Int32.ofNat l) : ¬ x_ = -1 := by
  intro e_
  rw [e_] at h_
  have q_ := congrArg Int32.toInt h_
  rw [i32n (by omega)] at q_
  have z_ : (lvF (-1)).toInt = -1 := by decide
  omega
/-- which name -/
def nmi (u_ : Nat) (x_ : Int32) : Nat := if x_ = Int32.ofNat (nmc u_ 0) then 0 else if x_ = Int32.ofNat (nmc u_ 1) then 1 else if x_ = Int32.ofNat (nmc u_ 2) then 2 else if x_ = Int32.ofNat (nmc u_ 3) then 3 else 4
theorem nmi_4 (u_ : Nat) (x_ : Int32) : nmi u_ x_ ≤ 4 := by
  unfold nmi
  split
  · omega
  · split
    · omega
    · split
      · omega
      · split <;> omega
theorem nmi_x {u_ : Nat} {x_ : Int32} (h_ : nmi u_ x_ < 4) : x_ = Int32.ofNat (nmc u_ (nmi u_ x_)) := by
  by_cases h0 : x_ = Int32.ofNat (nmc u_ 0)
  · have e_ : nmi u_ x_ = 0 := if_pos h0
    rw [e_]
    exact h0
  by_cases h1 : x_ = Int32.ofNat (nmc u_ 1)
  · have e_ : nmi u_ x_ = 1 := by
      unfold nmi
      rw [if_neg h0, if_pos h1]
    rw [e_]
    exact h1
  by_cases h2 : x_ = Int32.ofNat (nmc u_ 2)
  · have e_ : nmi u_ x_ = 2 := by
      unfold nmi
      rw [if_neg h0, if_neg h1, if_pos h2]
    rw [e_]
    exact h2
  by_cases h3 : x_ = Int32.ofNat (nmc u_ 3)
  · have e_ : nmi u_ x_ = 3 := by
      unfold nmi
      rw [if_neg h0, if_neg h1, if_neg h2, if_pos h3]
    rw [e_]
    exact h3
  · have e_ : nmi u_ x_ = 4 := by
      unfold nmi
      rw [if_neg h0, if_neg h1, if_neg h2, if_neg h3]
    omega
theorem nmc_b (u_ j_ : Nat) : 98 ≤ nmc u_ j_ ∧ nmc u_ j_ ≤ 116 := by
  unfold nmc
  split
  · split
    · omega
    · split
      · omega
      · split <;> omega
  · split
    · omega
    · split
      · omega
      · split <;> omega
theorem nmi_n1 {u_ : Nat} {x_ : Int32} (h_ : nmi u_ x_ < 4) : 98 ≤ x_.toInt ∧ x_.toInt ≤ 116 := by
  have e_ := nmi_x h_
  have b_ := nmc_b u_ (nmi u_ x_)
  rw [e_, i32n (by omega)]
  omega
/-- a number: n digits at most are left -/
def rdn (T : List Int32) (n_ a_ : Nat) (v_ : Int32) : Nat × Int32 := match n_ with
  | 0 => (a_, v_)
  | n_ + 1 => if 48 ≤ (nxt T a_).toInt ∧ (nxt T a_).toInt ≤ 57 then rdn T n_ (a_ + 1) (v_ * 10 + nxt T a_ - 48) else (a_, v_)
theorem i32_d {v_ x_ : Int32} (h1 : 0 ≤ v_.toInt) (h2 : v_.toInt < 1000) (h3 : 48 ≤ x_.toInt) (h4 : x_.toInt ≤ 57) : (v_ * 10 + x_ - 48).toInt = v_.toInt * 10 + x_.toInt - 48 := by
  have z10 : (10 : Int32).toInt = 10 := rfl
  have z48_ : (48 : Int32).toInt = 48 := rfl
  have e1_ : (v_ * 10).toInt = v_.toInt * 10 := by
    rw [Int32.toInt_mul, z10, xbm32 (by omega) (by omega)]
  have e2_ : (v_ * 10 + x_).toInt = v_.toInt * 10 + x_.toInt := by
    rw [Int32.toInt_add, e1_, xbm32 (by omega) (by omega)]
  rw [Int32.toInt_sub, e2_, z48_, xbm32 (by omega) (by omega)]
theorem rdn_b {T : List Int32} : ∀ (n_ a_ : Nat) (v_ : Int32), n_ ≤ 4 → a_ ≤ T.length → 0 ≤ v_.toInt → v_.toInt < 10 ^ (4 - n_) → (a_ ≤ (rdn T n_ a_ v_).1 ∧ (rdn T n_ a_ v_).1 ≤ T.length) ∧ (0 ≤ (rdn T n_ a_ v_).2.toInt ∧ (rdn T n_ a_ v_).2.toInt < 10000) := by
  intro n_
  induction n_ with
  | zero =>
    intro a_ v_ hn ha_ h1 h2
    exact ⟨⟨Nat.le_refl _, ha_⟩, h1, h2⟩
  | succ n_ ih_ =>
    intro a_ v_ hn ha_ h1 h2
    have hp : v_.toInt < 1000 := by
      have hp4 : 10 ^ (4 - (n_ + 1)) ≤ 10 ^ 3 := Nat.pow_le_pow_right (by omega) (by omega)
      have hp5 : ((10 : Int) ^ (4 - (n_ + 1))) = ((10 ^ (4 - (n_ + 1)) : Nat) : Int) := by rw [Int.natCast_pow]; rfl
      rw [hp5] at h2
      have : ((10 ^ (4 - (n_ + 1)) : Nat) : Int) ≤ ((10 ^ 3 : Nat) : Int) := Int.ofNat_le.mpr hp4
      have z3 : ((10 ^ 3 : Nat) : Int) = 1000 := rfl
      omega
    show ((a_ ≤ (if 48 ≤ (nxt T a_).toInt ∧ (nxt T a_).toInt ≤ 57 then rdn T n_ (a_ + 1) (v_ * 10 + nxt T a_ - 48) else (a_, v_)).1 ∧ (if 48 ≤ (nxt T a_).toInt ∧ (nxt T a_).toInt ≤ 57 then rdn T n_ (a_ + 1) (v_ * 10 + nxt T a_ - 48) else (a_, v_)).1 ≤ T.length) ∧ (0 ≤ (if 48 ≤ (nxt T a_).toInt ∧ (nxt T a_).toInt ≤ 57 then rdn T n_ (a_ + 1) (v_ * 10 + nxt T a_ - 48) else (a_, v_)).2.toInt ∧ (if 48 ≤ (nxt T a_).toInt ∧ (nxt T a_).toInt ≤ 57 then rdn T n_ (a_ + 1) (v_ * 10 + nxt T a_ - 48) else (a_, v_)).2.toInt < 10000))
    by_cases g_ : 48 ≤ (nxt T a_).toInt ∧ (nxt T a_).toInt ≤ 57
    · rw [if_pos g_]
      have lt_ : a_ < T.length := nxt_lt (fun q_ => by rw [q_] at g_; exact absurd g_.1 (by decide))
      have e_ := i32_d h1 hp g_.1 g_.2
      have hq : (v_ * 10 + nxt T a_ - 48).toInt < 10 ^ (4 - n_) := by
        have ep : (10 : Int) ^ (4 - n_) = 10 ^ (4 - (n_ + 1)) * 10 := by
          rw [show 4 - n_ = (4 - (n_ + 1)) + 1 by omega, Int.pow_succ]
        rw [ep, e_]
        omega
      obtain ⟨⟨q1_, q2_⟩, q3_⟩ := ih_ (a_ + 1) (v_ * 10 + nxt T a_ - 48) (by omega) (by omega) (by rw [e_]; omega) hq
      exact ⟨⟨by omega, q2_⟩, q3_⟩
    · rw [if_neg g_]
      exact ⟨⟨Nat.le_refl _, ha_⟩, h1, by show v_.toInt < 10000; omega⟩
theorem rdn_1 {T : List Int32} {a_ : Nat} (g_ : 48 ≤ (nxt T a_).toInt ∧ (nxt T a_).toInt ≤ 57) : (a_ + 1 ≤ (rdn T 4 a_ 0).1 ∧ (rdn T 4 a_ 0).1 ≤ T.length) ∧ (0 ≤ (rdn T 4 a_ 0).2.toInt ∧ (rdn T 4 a_ 0).2.toInt < 10000) := by
  have lt_ : a_ < T.length := nxt_lt (fun q_ => by rw [q_] at g_; exact absurd g_.1 (by decide))
  have e_ : rdn T 4 a_ 0 = rdn T 3 (a_ + 1) (0 * 10 + nxt T a_ - 48) := if_pos g_
  have z_ := i32_d (v_ := 0) (by decide) (by decide) g_.1 g_.2
  have z0 : (0 : Int32).toInt = 0 := rfl
  rw [e_]
  exact rdn_b 3 (a_ + 1) _ (by omega) (by omega) (by omega) (by show (0 * 10 + nxt T a_ - 48).toInt < 10; omega)
/-- then -/
def thn (r_ : Option (Bool × (Nat × List Int32))) (g_ : Nat → List Int32 → Option (Bool × (Nat × List Int32))) : Option (Bool × (Nat × List Int32)) := match r_ with
  | none => none
  | some (true, q_) => g_ q_.1 q_.2
  | some (false, q_) => some (false, q_)
theorem thn_s {r_ : Option (Bool × (Nat × List Int32))} {g_ : Nat → List Int32 → Option (Bool × (Nat × List Int32))} {b_ : Bool} {q_ : Nat × List Int32} (h_ : thn r_ g_ = some (b_, q_)) : (∃ q1_, r_ = some (true, q1_) ∧ g_ q1_.1 q1_.2 = some (b_, q_)) ∨ (r_ = some (false, q_) ∧ b_ = false) := by
  rcases r_ with _ | ⟨b0, q0⟩
  · cases h_
  · cases b0
    · have h_ : some (false, q0) = some (b_, q_) := h_
      cases h_
      exact Or.inr ⟨rfl, rfl⟩
    · exact Or.inl ⟨q0, rfl, h_⟩
theorem thn_t {r_ : Option (Bool × (Nat × List Int32))} {g_ : Nat → List Int32 → Option (Bool × (Nat × List Int32))} (h1 : ∃ q_, r_ = some q_) (h2 : ∀ q_, r_ = some (true, q_) → ∃ q2_, g_ q_.1 q_.2 = some q2_) : ∃ q_, thn r_ g_ = some q_ := by
  obtain ⟨⟨b_, q_⟩, rfl⟩ := h1
  cases b_
  · exact ⟨_, rfl⟩
  · exact h2 q_ rfl
/-- levels 0 to 4; 5: what stands alone; 10 + l: what joins on level l -/
def prs (T : List Int32) (u_ f_ k_ o a_ : Nat) (c_ : List Int32) : Option (Bool × (Nat × List Int32)) := match f_ with
  | 0 => none
  | f_ + 1 => if k_ < 5 then thn (prs T u_ f_ (k_ + 1) o a_ c_) (fun a1_ c1_ => prs T u_ f_ (10 + k_) o a1_ c1_) else if k_ = 5 then (if 48 ≤ (nxt T a_).toInt ∧ (nxt T a_).toInt ≤ 57 then some (true, (rdn T 4 a_ 0).1, c_ ++ [(rdn T 4 a_ 0).2]) else if nmi u_ (nxt T a_) < 4 then some (true, a_ + 1, c_ ++ [Int32.ofNat (10000 + nmi u_ (nxt T a_))]) else if 5 ≤ o then some (false, a_, c_) else if nxt T a_ = 33 then thn (prs T u_ f_ 5 (o + 1) (a_ + 1) c_) (fun a1_ c1_ => some (true, a1_, c1_ ++ [20033])) else if nxt T a_ = 40 then thn (prs T u_ f_ 0 (o + 1) (a_ + 1) c_) (fun a1_ c1_ => if nxt T a1_ = 41 then some (true, a1_ + 1, c1_) else some (false, a1_, c1_)) else some (false, a_, c_)) else (if lvF (nxt T a_) = Int32.ofNat (k_ - 10) then thn (prs T u_ f_ (k_ - 10 + 1) o (a_ + 1) c_) (fun a1_ c1_ => if k_ = 12 then some (true, a1_, c1_ ++ [20000 + nxt T a_]) else prs T u_ f_ k_ o a1_ (c1_ ++ [20000 + nxt T a_])) else some (true, a_, c_))
theorem prs_l {T : List Int32} {u_ f_ k_ o a_ : Nat} {c_ : List Int32} (h_ : k_ < 5) : prs T u_ (f_ + 1) k_ o a_ c_ = thn (prs T u_ f_ (k_ + 1) o a_ c_) (fun a1_ c1_ => prs T u_ f_ (10 + k_) o a1_ c1_) := if_pos h_
theorem prs_q {T : List Int32} {u_ f_ o a_ : Nat} {c_ : List Int32} : prs T u_ (f_ + 1) 5 o a_ c_ = (if 48 ≤ (nxt T a_).toInt ∧ (nxt T a_).toInt ≤ 57 then some (true, (rdn T 4 a_ 0).1, c_ ++ [(rdn T 4 a_ 0).2]) else if nmi u_ (nxt T a_) < 4 then some (true, a_ + 1, c_ ++ [Int32.ofNat (10000 + nmi u_ (nxt T a_))]) else if 5 ≤ o then some (false, a_, c_) else if nxt T a_ = 33 then thn (prs T u_ f_ 5 (o + 1) (a_ + 1) c_) (fun a1_ c1_ => some (true, a1_, c1_ ++ [20033])) else if nxt T a_ = 40 then thn (prs T u_ f_ 0 (o + 1) (a_ + 1) c_) (fun a1_ c1_ => if nxt T a1_ = 41 then some (true, a1_ + 1, c1_) else some (false, a1_, c1_)) else some (false, a_, c_)) := (if_neg (show ¬ 5 < 5 by omega)).trans (if_pos rfl)
theorem prs_j {T : List Int32} {u_ f_ l o a_ : Nat} {c_ : List Int32} : prs T u_ (f_ + 1) (10 + l) o a_ c_ = (if lvF (nxt T a_) = Int32.ofNat l then thn (prs T u_ f_ (l + 1) o (a_ + 1) c_) (fun a1_ c1_ => if l = 2 then some (true, a1_, c1_ ++ [20000 + nxt T a_]) else prs T u_ f_ (10 + l) o a1_ (c1_ ++ [20000 + nxt T a_])) else some (true, a_, c_)) := by
  have e_ : prs T u_ (f_ + 1) (10 + l) o a_ c_ = (if lvF (nxt T a_) = Int32.ofNat (10 + l - 10) then thn (prs T u_ f_ (10 + l - 10 + 1) o (a_ + 1) c_) (fun a1_ c1_ => if 10 + l = 12 then some (true, a1_, c1_ ++ [20000 + nxt T a_]) else prs T u_ f_ (10 + l) o a1_ (c1_ ++ [20000 + nxt T a_])) else some (true, a_, c_)) := (if_neg (show ¬ 10 + l < 5 by omega)).trans (if_neg (show ¬ 10 + l = 5 by omega))
  rw [e_, show 10 + l - 10 = l by omega]
  have ec : (10 + l = 12) = (l = 2) := propext ⟨fun q_ => by omega, fun q_ => by omega⟩
  simp only [ec]
-- ===== what comes out
theorem evl_sn {nm : Nat → Int32} {y_ : Int32} {t' : List Int32} : ∀ {xs s_ t_ : List Int32}, evl nm xs s_ = some t_ → evs nm y_ t_ = some t' → evl nm (xs ++ [y_]) s_ = some t' := by
  intro xs
  induction xs with
  | nil =>
    intro s_ t_ h_ e_
    have h_ : some s_ = some t_ := h_
    cases h_
    show (match evs nm y_ s_ with
      | none => none
      | some s' => evl nm [] s') = some t'
    rw [e_]
    rfl
  | cons x_ xs ih_ =>
    intro s_ t_ h_ e_
    show (match evs nm x_ s_ with
      | none => none
      | some s' => evl nm (xs ++ [y_]) s') = some t'
    have h_ : (match evs nm x_ s_ with
      | none => none
      | some s' => evl nm xs s') = some t_ := h_
    cases hx : evs nm x_ s_ with
    | none => rw [hx] at h_; cases h_
    | some s' =>
      rw [hx] at h_
      exact ih_ h_ e_
theorem evs_n {nm : Nat → Int32} {x_ : Int32} {s_ : List Int32} (h_ : x_.toInt < 10000) : evs nm x_ s_ = some (x_ :: s_) := if_pos h_
theorem evs_m {nm : Nat → Int32} {j_ : Nat} {s_ : List Int32} (h_ : j_ < 4) : ∃ y_, evs nm (Int32.ofNat (10000 + j_)) s_ = some (y_ :: s_) := by
  unfold evs
  have e_ : (Int32.ofNat (10000 + j_)).toInt = ((10000 + j_ : Nat) : Int) := i32n (by omega)
  rw [if_neg (by omega), if_pos (by omega)]
  exact ⟨_, rfl⟩
theorem evs_d {nm : Nat → Int32} {x_ : Int32} {s_ : List Int32} : ∃ y_, evs nm 20033 (x_ :: s_) = some (y_ :: s_) := by
  unfold evs
  rw [if_neg (by decide), if_neg (by decide), if_pos rfl]
  exact ⟨_, rfl⟩
theorem evs_j {nm : Nat → Int32} {c_ : Nat} {x_ z_ : Int32} {s_ : List Int32} (h_ : c_ ∈ jsg) : ∃ y_, evs nm (Int32.ofNat (20000 + c_)) (z_ :: x_ :: s_) = some (y_ :: s_) := by
  have k_ : jsg.all (fun c_ => (!(decide ((Int32.ofNat (20000 + c_)).toInt < 10000)) && !(decide ((Int32.ofNat (20000 + c_)).toInt < 10004))) && !(decide (Int32.ofNat (20000 + c_) = 20033))) = true := by decide +kernel
  have k1_ := List.all_eq_true.mp k_ c_ h_
  simp only [Bool.and_eq_true, Bool.not_eq_true', decide_eq_false_iff_not] at k1_
  unfold evs
  rw [if_neg k1_.1.1, if_neg k1_.1.2, if_neg k1_.2]
  exact ⟨_, rfl⟩
theorem i20_j {c_ : Nat} : (20000 : Int32) + Int32.ofNat c_ = Int32.ofNat (20000 + c_) := i32p 20000 c_
def prQ (T : List Int32) (k_ a_ : Nat) (c_ : List Int32) (b_ : Bool) (a' : Nat) (c' : List Int32) : Prop := (a_ ≤ a' ∧ a' ≤ T.length) ∧ (b_ = true → (k_ ≤ 5 → a_ < a') ∧ (c'.length + a_ ≤ c_.length + a' ∧ (((∀ x_ ∈ c_, okx x_) → ∀ x_ ∈ c', okx x_) ∧ ((k_ ≤ 5 → ∀ nm s0_ s_, evl nm c_ s0_ = some s_ → ∃ x_, evl nm c' s0_ = some (x_ :: s_)) ∧ (¬ k_ ≤ 5 → ∀ nm s0_ x_ s_, evl nm c_ s0_ = some (x_ :: s_) → ∃ y_, evl nm c' s0_ = some (y_ :: s_))))))
theorem okx_sn {c_ : List Int32} {y_ : Int32} (h_ : ∀ x_ ∈ c_, okx x_) (hy : okx y_) : ∀ x_ ∈ c_ ++ [y_], okx x_ := by
  intro x_ hx
  rcases List.mem_append.mp hx with hx | hx
  · exact h_ x_ hx
  · rw [List.mem_singleton.mp hx]
    exact hy
theorem len_sn {c_ : List Int32} {y_ : Int32} : (c_ ++ [y_]).length = c_.length + 1 := by rw [List.length_append]; rfl
theorem prs_b (T : List Int32) (u_ : Nat) : ∀ (f_ k_ o a_ : Nat) (c_ : List Int32) (b_ : Bool) (a' : Nat) (c' : List Int32), (k_ ≤ 5 ∨ ∃ l, l ≤ 4 ∧ k_ = 10 + l) → a_ ≤ T.length → prs T u_ f_ k_ o a_ c_ = some (b_, a', c') → prQ T k_ a_ c_ b_ a' c' := by
  intro f_
  induction f_ with
  | zero => intro k_ o a_ c_ b_ a' c' hk ha_ h_; cases h_
  | succ f_ ih_ =>
    intro k_ o a_ c_ b_ a' c' hk ha_ h_
    rcases hk with hk | ⟨l, hl, rfl⟩
    · by_cases k5_ : k_ < 5
      · rw [prs_l k5_] at h_
        rcases thn_s h_ with ⟨⟨a1_, c1_⟩, e1_, e2_⟩ | ⟨e1_, rfl⟩
        · have e2_ : prs T u_ f_ (10 + k_) o a1_ c1_ = some (b_, (a', c')) := e2_
          obtain ⟨⟨p1_, p2_⟩, p3_⟩ := ih_ _ _ _ _ _ _ _ (Or.inl (by omega)) ha_ e1_
          obtain ⟨p4_, p5_, p6_, p7_, -⟩ := p3_ rfl
          obtain ⟨⟨q1_, q2_⟩, q3_⟩ := ih_ _ _ _ _ _ _ _ (Or.inr ⟨k_, by omega, rfl⟩) p2_ e2_
          have p4_ := p4_ (by omega)
          refine ⟨⟨by omega, q2_⟩, fun hb_ => ?_⟩
          obtain ⟨-, r5_, r6, -, r8⟩ := q3_ hb_
          refine ⟨fun _ => by omega, by omega, fun z_ => r6 (p6_ z_), fun _ nm s0_ s_ hs => ?_, fun n_ => absurd hk n_⟩
          obtain ⟨x_, e_⟩ := p7_ (by omega) nm s0_ s_ hs
          exact r8 (by omega) nm s0_ x_ s_ e_
        · obtain ⟨p_, -⟩ := ih_ _ _ _ _ _ _ _ (Or.inl (by omega)) ha_ e1_
          exact ⟨p_, fun q_ => by cases q_⟩
      · have k6_ : k_ = 5 := by omega
        subst k6_
        rw [prs_q] at h_
        by_cases g_ : 48 ≤ (nxt T a_).toInt ∧ (nxt T a_).toInt ≤ 57
        · rw [if_pos g_] at h_
          cases h_
          obtain ⟨⟨r1_, r2⟩, r3, r4⟩ := rdn_1 g_
          refine ⟨⟨by omega, r2⟩, fun _ => ⟨fun _ => by omega, by rw [len_sn]; omega, fun z_ => okx_sn z_ (Or.inl ⟨r3, r4⟩), fun _ nm s0_ s_ hs => ⟨_, evl_sn hs (evs_n r4)⟩, fun n_ => absurd hk n_⟩⟩
        rw [if_neg g_] at h_
        by_cases g2 : nmi u_ (nxt T a_) < 4
        · rw [if_pos g2] at h_
          cases h_
          have b2 := nmi_n1 g2
          have lt_ : a_ < T.length := nxt_lt (fun q_ => by rw [q_] at b2; exact absurd b2.1 (by decide))
          refine ⟨⟨by omega, by omega⟩, fun _ => ⟨fun _ => by omega, by rw [len_sn]; omega, fun z_ => okx_sn z_ (Or.inr (Or.inl ⟨_, g2, rfl⟩)), fun _ nm s0_ s_ hs => ?_, fun n_ => absurd hk n_⟩⟩
          obtain ⟨y_, e_⟩ := evs_m (nm := nm) (s_ := s_) g2
          exact ⟨y_, evl_sn hs e_⟩
        rw [if_neg g2] at h_
        by_cases g3_ : 5 ≤ o
        · rw [if_pos g3_] at h_
          cases h_
          exact ⟨⟨Nat.le_refl _, ha_⟩, fun q_ => by cases q_⟩
        rw [if_neg g3_] at h_
        by_cases g4 : nxt T a_ = 33
        · rw [if_pos g4] at h_
          have lt_ : a_ < T.length := nxt_lt (fun q_ => by rw [q_] at g4; exact absurd g4 (by decide))
          rcases thn_s h_ with ⟨⟨a1_, c1_⟩, e1_, e2_⟩ | ⟨e1_, rfl⟩
          · obtain ⟨⟨p1_, p2_⟩, p3_⟩ := ih_ _ _ _ _ _ _ _ (Or.inl (by omega)) (by omega) e1_
            obtain ⟨p4_, p5_, p6_, p7_, -⟩ := p3_ rfl
            have e2_ : some (true, a1_, c1_ ++ [20033]) = some (b_, a', c') := e2_
            cases e2_
            refine ⟨⟨by omega, p2_⟩, fun _ => ⟨fun _ => by omega, by rw [len_sn]; omega, fun z_ => okx_sn (p6_ z_) (Or.inr (Or.inr (Or.inl rfl))), fun _ nm s0_ s_ hs => ?_, fun n_ => absurd hk n_⟩⟩
            obtain ⟨x_, e_⟩ := p7_ (by omega) nm s0_ s_ hs
            obtain ⟨y_, e3_⟩ := evs_d (nm := nm) (x_ := x_) (s_ := s_)
            exact ⟨y_, evl_sn e_ e3_⟩
          · obtain ⟨p_, -⟩ := ih_ _ _ _ _ _ _ _ (Or.inl (by omega)) (by omega) e1_
            exact ⟨⟨by omega, p_.2⟩, fun q_ => by cases q_⟩
        rw [if_neg g4] at h_
        by_cases g5_ : nxt T a_ = 40
        · rw [if_pos g5_] at h_
          have lt_ : a_ < T.length := nxt_lt (fun q_ => by rw [q_] at g5_; exact absurd g5_ (by decide))
          rcases thn_s h_ with ⟨⟨a1_, c1_⟩, e1_, e2_⟩ | ⟨e1_, rfl⟩
          · obtain ⟨⟨p1_, p2_⟩, p3_⟩ := ih_ _ _ _ _ _ _ _ (Or.inl (by omega)) (by omega) e1_
            obtain ⟨p4_, p5_, p6_, p7_, -⟩ := p3_ rfl
            have e2_ : (if nxt T a1_ = 41 then some (true, a1_ + 1, c1_) else some (false, a1_, c1_)) = some (b_, a', c') := e2_
            by_cases g6 : nxt T a1_ = 41
            · rw [if_pos g6] at e2_
              cases e2_
              have lt1 : a1_ < T.length := nxt_lt (fun q_ => by rw [q_] at g6; exact absurd g6 (by decide))
              exact ⟨⟨by omega, by omega⟩, fun _ => ⟨fun _ => by omega, by omega, p6_, fun _ => p7_ (by omega), fun n_ => absurd hk n_⟩⟩
            · rw [if_neg g6] at e2_
              cases e2_
              exact ⟨⟨by omega, p2_⟩, fun q_ => by cases q_⟩
          · obtain ⟨p_, -⟩ := ih_ _ _ _ _ _ _ _ (Or.inl (by omega)) (by omega) e1_
            exact ⟨⟨by omega, p_.2⟩, fun q_ => by cases q_⟩
        rw [if_neg g5_] at h_
        cases h_
        exact ⟨⟨Nat.le_refl _, ha_⟩, fun q_ => by cases q_⟩
    · rw [prs_j] at h_
      by_cases g_ : lvF (nxt T a_) = Int32.ofNat l
      · rw [if_pos g_] at h_
        have lt_ : a_ < T.length := nxt_lt (lv_n1 hl g_)
        obtain ⟨sg, hsg, es⟩ := lv_j hl g_
        have eg : (20000 : Int32) + nxt T a_ = Int32.ofNat (20000 + sg) := by rw [es]; exact i20_j
        rw [eg] at h_
        have ok1 : okx (Int32.ofNat (20000 + sg)) := Or.inr (Or.inr (Or.inr ⟨sg, hsg, rfl⟩))
        rcases thn_s h_ with ⟨⟨a1_, c1_⟩, e1_, e2_⟩ | ⟨e1_, rfl⟩
        · obtain ⟨⟨p1_, p2_⟩, p3_⟩ := ih_ _ _ _ _ _ _ _ (Or.inl (by omega)) (by omega) e1_
          obtain ⟨p4_, p5_, p6_, p7_, -⟩ := p3_ rfl
          have e2_ : (if l = 2 then some (true, a1_, c1_ ++ [Int32.ofNat (20000 + sg)]) else prs T u_ f_ (10 + l) o a1_ (c1_ ++ [Int32.ofNat (20000 + sg)])) = some (b_, a', c') := e2_
          have ev1 : ∀ nm s0_ x_ s_, evl nm c_ s0_ = some (x_ :: s_) → ∃ y_, evl nm (c1_ ++ [Int32.ofNat (20000 + sg)]) s0_ = some (y_ :: s_) := fun nm s0_ x_ s_ hs => by
            obtain ⟨z_, e_⟩ := p7_ (by omega) nm s0_ _ hs
            obtain ⟨y_, e3_⟩ := evs_j (nm := nm) (x_ := x_) (z_ := z_) (s_ := s_) hsg
            exact ⟨y_, evl_sn e_ e3_⟩
          by_cases g2 : l = 2
          · rw [if_pos g2] at e2_
            cases e2_
            exact ⟨⟨by omega, p2_⟩, fun _ => ⟨fun n_ => by omega, by rw [len_sn]; omega, fun z_ => okx_sn (p6_ z_) ok1, fun n_ => by omega, fun _ => ev1⟩⟩
          · rw [if_neg g2] at e2_
            obtain ⟨⟨q1_, q2_⟩, q3_⟩ := ih_ _ _ _ _ _ _ _ (Or.inr ⟨l, hl, rfl⟩) p2_ e2_
            refine ⟨⟨by omega, q2_⟩, fun hb_ => ?_⟩
            obtain ⟨-, r5_, r6, -, r8⟩ := q3_ hb_
            rw [len_sn] at r5_
            refine ⟨fun n_ => by omega, by omega, fun z_ => r6 (okx_sn (p6_ z_) ok1), fun n_ => by omega, fun _ nm s0_ x_ s_ hs => ?_⟩
            obtain ⟨y_, e_⟩ := ev1 nm s0_ x_ s_ hs
            exact r8 (by omega) nm s0_ y_ s_ e_
        · obtain ⟨p_, -⟩ := ih_ _ _ _ _ _ _ _ (Or.inl (by omega)) (by omega) e1_
          exact ⟨⟨by omega, p_.2⟩, fun q_ => by cases q_⟩
      · rw [if_neg g_] at h_
        cases h_
        exact ⟨⟨Nat.le_refl _, ha_⟩, fun _ => ⟨fun n_ => by omega, Nat.le_refl _, fun z_ => z_, fun n_ => by omega, fun _ nm s0_ x_ s_ hs => ⟨x_, hs⟩⟩⟩
-- ===== it ends
def prk (k_ : Nat) : Nat := if k_ ≤ 5 then 10 - k_ else 11
theorem prk_l {k_ : Nat} (h_ : k_ ≤ 5) : prk k_ = 10 - k_ := if_pos h_
theorem prk_j {l : Nat} : prk (10 + l) = 11 := if_neg (by omega)
theorem prs_t (T : List Int32) (hT_ : T.length ≤ 60) (u_ : Nat) : ∀ (f_ k_ o a_ : Nat) (c_ : List Int32), (k_ ≤ 5 ∨ ∃ l, l ≤ 4 ∧ k_ = 10 + l) → a_ ≤ T.length → (61 - a_) * 20 + prk k_ < f_ → ∃ r_, prs T u_ f_ k_ o a_ c_ = some r_ := by
  intro f_
  induction f_ with
  | zero => intro k_ o a_ c_ hk ha_ h_; omega
  | succ f_ ih_ =>
    intro k_ o a_ c_ hk ha_ h_
    rcases hk with hk | ⟨l, hl, rfl⟩
    · rw [prk_l hk] at h_
      by_cases k5_ : k_ < 5
      · rw [prs_l k5_]
        refine thn_t (ih_ _ _ _ _ (Or.inl (by omega)) ha_ (by rw [prk_l (by omega)]; omega)) (fun q_ e_ => ?_)
        obtain ⟨⟨p1_, p2_⟩, p3_⟩ := prs_b T u_ _ _ _ _ _ _ _ _ (Or.inl (by omega)) ha_ e_
        have p4_ := (p3_ rfl).1 (by omega)
        exact ih_ _ _ _ _ (Or.inr ⟨k_, by omega, rfl⟩) p2_ (by rw [prk_j]; omega)
      · have k6_ : k_ = 5 := by omega
        subst k6_
        rw [prs_q]
        by_cases g_ : 48 ≤ (nxt T a_).toInt ∧ (nxt T a_).toInt ≤ 57
        · rw [if_pos g_]; exact ⟨_, rfl⟩
        rw [if_neg g_]
        by_cases g2 : nmi u_ (nxt T a_) < 4
        · rw [if_pos g2]; exact ⟨_, rfl⟩
        rw [if_neg g2]
        by_cases g3_ : 5 ≤ o
        · rw [if_pos g3_]; exact ⟨_, rfl⟩
        rw [if_neg g3_]
        by_cases g4 : nxt T a_ = 33
        · rw [if_pos g4]
          have lt_ : a_ < T.length := nxt_lt (fun q_ => by rw [q_] at g4; exact absurd g4 (by decide))
          exact thn_t (ih_ _ _ _ _ (Or.inl (by omega)) (by omega) (by rw [prk_l (by omega)]; omega)) (fun q_ e_ => ⟨_, rfl⟩)
        rw [if_neg g4]
        by_cases g5_ : nxt T a_ = 40
        · rw [if_pos g5_]
          have lt_ : a_ < T.length := nxt_lt (fun q_ => by rw [q_] at g5_; exact absurd g5_ (by decide))
          refine thn_t (ih_ _ _ _ _ (Or.inl (by omega)) (by omega) (by rw [prk_l (by omega)]; omega)) (fun q_ e_ => ?_)
          by_cases g6 : nxt T q_.1 = 41
          · exact ⟨_, if_pos g6⟩
          · exact ⟨_, if_neg g6⟩
        rw [if_neg g5_]
        exact ⟨_, rfl⟩
    · rw [prk_j] at h_
      rw [prs_j]
      by_cases g_ : lvF (nxt T a_) = Int32.ofNat l
      · rw [if_pos g_]
        have lt_ : a_ < T.length := nxt_lt (lv_n1 hl g_)
        refine thn_t (ih_ _ _ _ _ (Or.inl (by omega)) (by omega) (by rw [prk_l (by omega)]; omega)) (fun q_ e_ => ?_)
        obtain ⟨⟨p1_, p2_⟩, p3_⟩ := prs_b T u_ _ _ _ _ _ _ _ _ (Or.inl (by omega)) (by omega) e_
        have p4_ := (p3_ rfl).1 (by omega)
        by_cases g2 : l = 2
        · exact ⟨_, if_pos g2⟩
        · obtain ⟨r_, e2_⟩ := ih_ (10 + l) o q_.1 (q_.2 ++ [20000 + nxt T a_]) (Or.inr ⟨l, hl, rfl⟩) p2_ (by rw [prk_j]; omega)
          exact ⟨r_, (if_neg g2).trans e2_⟩
      · rw [if_neg g_]; exact ⟨_, rfl⟩
theorem inj3 {b_ b' : Bool} {a_ a' : Nat} {c_ c' : List Int32} (h_ : some (b_, (a_, c_)) = some (b', (a', c'))) : b_ = b' ∧ (a_ = a' ∧ c_ = c') := by
  cases h_
  exact ⟨rfl, rfl, rfl⟩
def bI (b_ : Bool) : Int32 := if b_ = true then 1 else 0
