-- ===== bits
theorem and_split {a_ b_ c_ d_ : Nat} (ha_ : a_ < 256) (hc_ : c_ < 256) : (a_ + 256 * b_) &&& (c_ + 256 * d_) = (a_ &&& c_) + 256 * (b_ &&& d_) := by
  have hac : a_ &&& c_ < 256 := Nat.lt_of_le_of_lt Nat.and_le_left ha_
  apply Nat.eq_of_testBit_eq
  intro j_
  rw [Nat.testBit_and, show a_ + 256 * b_ = 2 ^ 8 * b_ + a_ by omega, show c_ + 256 * d_ = 2 ^ 8 * d_ + c_ by omega, show (a_ &&& c_) + 256 * (b_ &&& d_) = 2 ^ 8 * (b_ &&& d_) + (a_ &&& c_) by omega, Nat.testBit_two_pow_mul_add _ (by omega), Nat.testBit_two_pow_mul_add _ (by omega), Nat.testBit_two_pow_mul_add _ (by omega)]
  split
  · rw [Nat.testBit_and]
  · rw [Nat.testBit_and]
/-- a byte once more and once more -/
def nMk (c_ n_ : Nat) : Nat := match n_ with
  | 0 => 0
  | n_ + 1 => c_ + 256 * nMk c_ n_
/-- byte by byte -/
def bwF (f_ : Nat → Nat) (n_ x_ : Nat) : Nat := match n_ with
  | 0 => 0
  | n_ + 1 => f_ (x_ % 256) + 256 * bwF f_ n_ (x_ / 256)
theorem bw_s {f_ : Nat → Nat} {n_ x_ : Nat} (hf : ∀ b_, b_ < 256 → f_ b_ < 256) : bwF f_ (n_ + 1) x_ % 256 = f_ (x_ % 256) ∧ bwF f_ (n_ + 1) x_ / 256 = bwF f_ n_ (x_ / 256) := by
  have k_ := hf (x_ % 256) (Nat.mod_lt _ (by omega))
  have e_ : bwF f_ (n_ + 1) x_ = f_ (x_ % 256) + 256 * bwF f_ n_ (x_ / 256) := rfl
  omega
theorem bw_c {f_ g_ : Nat → Nat} (hf : ∀ b_, b_ < 256 → f_ b_ < 256) : ∀ (n_ x_ : Nat), bwF g_ n_ (bwF f_ n_ x_) = bwF (fun b_ => g_ (f_ b_)) n_ x_ := by
  intro n_
  induction n_ with
  | zero => intro x_; rfl
  | succ n_ ih_ =>
    intro x_
    obtain ⟨a_, b_⟩ := bw_s (f_ := f_) (n_ := n_) (x_ := x_) hf
    show g_ (bwF f_ (n_ + 1) x_ % 256) + 256 * bwF g_ n_ (bwF f_ (n_ + 1) x_ / 256) = g_ (f_ (x_ % 256)) + 256 * bwF (fun b_ => g_ (f_ b_)) n_ (x_ / 256)
    rw [a_, b_, ih_]
theorem bw_le {f_ : Nat → Nat} {m_ : Nat} (hf : ∀ b_, b_ < 256 → f_ b_ ≤ m_) : ∀ (n_ x_ : Nat), bwF f_ n_ x_ ≤ m_ * nMk 1 n_ := by
  intro n_
  induction n_ with
  | zero => intro x_; exact Nat.zero_le _
  | succ n_ ih_ =>
    intro x_
    have a_ := hf (x_ % 256) (Nat.mod_lt _ (by omega))
    have b_ := ih_ (x_ / 256)
    show f_ (x_ % 256) + 256 * bwF f_ n_ (x_ / 256) ≤ m_ * (1 + 256 * nMk 1 n_)
    rw [Nat.mul_add, Nat.mul_one, Nat.mul_left_comm]
    omega
def pt1 (b_ : Nat) : Nat := b_ - ((b_ / 2) &&& 85)
def pt2 (b_ : Nat) : Nat := (b_ &&& 51) + ((b_ / 4) &&& 51)
theorem pt_k : (List.range 256).all (fun b_ => (decide (pt1 b_ < 256) && decide ((b_ / 2) &&& 85 ≤ b_)) && ((decide (pt2 b_ < 256) && (decide (((b_ / 2 + 128) &&& 85) = ((b_ / 2) &&& 85)) && (decide (((b_ / 4 + 64) &&& 51) = ((b_ / 4) &&& 51)) && (decide (((b_ / 4 + 128) &&& 51) = ((b_ / 4) &&& 51)) && decide (((b_ / 4 + 192) &&& 51) = ((b_ / 4) &&& 51)))))) && (decide (pt2 (pt1 b_) % 16 ≤ 4) && decide (pt2 (pt1 b_) / 16 ≤ 4)))) = true := by decide +kernel
theorem pt_a {b_ : Nat} (h_ : b_ < 256) : ((pt1 b_ < 256 ∧ (b_ / 2) &&& 85 ≤ b_) ∧ (pt2 b_ < 256 ∧ (((b_ / 2 + 128) &&& 85) = ((b_ / 2) &&& 85) ∧ (((b_ / 4 + 64) &&& 51) = ((b_ / 4) &&& 51) ∧ (((b_ / 4 + 128) &&& 51) = ((b_ / 4) &&& 51) ∧ ((b_ / 4 + 192) &&& 51) = ((b_ / 4) &&& 51)))))) ∧ (pt2 (pt1 b_) % 16 ≤ 4 ∧ pt2 (pt1 b_) / 16 ≤ 4) := by
  have k_ := List.all_eq_true.mp pt_k b_ (List.mem_range.mpr h_)
  simp only [Bool.and_eq_true, decide_eq_true_eq] at k_
  exact ⟨⟨k_.1, k_.2.1⟩, k_.2.2⟩
theorem st1 : ∀ (n_ x_ : Nat), x_ < 256 ^ n_ → (x_ / 2) &&& nMk 85 n_ ≤ x_ ∧ x_ - ((x_ / 2) &&& nMk 85 n_) = bwF pt1 n_ x_ := by
  intro n_
  induction n_ with
  | zero =>
    intro x_ hx
    have e_ : x_ = 0 := by simpa using hx
    subst e_
    exact ⟨Nat.zero_le _, rfl⟩
  | succ n_ ih_ =>
    intro x_ hx
    have hb_ : x_ % 256 < 256 := Nat.mod_lt _ (by omega)
    obtain ⟨⟨⟨-, a2⟩, -, a4, -⟩, -⟩ := pt_a hb_
    obtain ⟨i1_, i2_⟩ := ih_ (x_ / 256) (by rw [Nat.pow_succ] at hx; omega)
    have es : (x_ / 2) &&& nMk 85 (n_ + 1) = ((x_ % 256 / 2) &&& 85) + 256 * ((x_ / 256 / 2) &&& nMk 85 n_) := by
      show (x_ / 2) &&& (85 + 256 * nMk 85 n_) = _
      rw [show x_ / 2 = (x_ % 256 / 2 + 128 * (x_ / 256 % 2)) + 256 * (x_ / 256 / 2) by omega, and_split (by omega) (by omega)]
      rcases (show x_ / 256 % 2 = 0 ∨ x_ / 256 % 2 = 1 by omega) with e_ | e_
      · rw [e_, Nat.mul_zero, Nat.add_zero]
      · rw [e_, Nat.mul_one, a4]
    rw [es]
    show _ ∧ _ = pt1 (x_ % 256) + 256 * bwF pt1 n_ (x_ / 256)
    unfold pt1
    unfold pt1 at i2_
    rw [← i2_]
    omega
theorem st2 : ∀ (n_ x_ : Nat), x_ < 256 ^ n_ → (x_ &&& nMk 51 n_) + ((x_ / 4) &&& nMk 51 n_) = bwF pt2 n_ x_ := by
  intro n_
  induction n_ with
  | zero =>
    intro x_ hx
    have e_ : x_ = 0 := by simpa using hx
    subst e_
    rfl
  | succ n_ ih_ =>
    intro x_ hx
    have hb_ : x_ % 256 < 256 := Nat.mod_lt _ (by omega)
    obtain ⟨⟨-, -, -, a5, a6, a7⟩, -⟩ := pt_a hb_
    have i2_ := ih_ (x_ / 256) (by rw [Nat.pow_succ] at hx; omega)
    have e1_ : x_ &&& nMk 51 (n_ + 1) = ((x_ % 256) &&& 51) + 256 * ((x_ / 256) &&& nMk 51 n_) := by
      show x_ &&& (51 + 256 * nMk 51 n_) = _
      have q_ := and_split (a_ := x_ % 256) (b_ := x_ / 256) (c_ := 51) (d_ := nMk 51 n_) hb_ (by omega)
      rw [show x_ % 256 + 256 * (x_ / 256) = x_ by omega] at q_
      exact q_
    have e2_ : (x_ / 4) &&& nMk 51 (n_ + 1) = ((x_ % 256 / 4) &&& 51) + 256 * ((x_ / 256 / 4) &&& nMk 51 n_) := by
      show (x_ / 4) &&& (51 + 256 * nMk 51 n_) = _
      rw [show x_ / 4 = (x_ % 256 / 4 + 64 * (x_ / 256 % 4)) + 256 * (x_ / 256 / 4) by omega, and_split (by omega) (by omega)]
      rcases (show x_ / 256 % 4 = 0 ∨ (x_ / 256 % 4 = 1 ∨ (x_ / 256 % 4 = 2 ∨ x_ / 256 % 4 = 3)) by omega) with e_ | e_ | e_ | e_
      · rw [e_, Nat.mul_zero, Nat.add_zero]
      · rw [e_, Nat.mul_one, a5]
      · rw [e_, show 64 * 2 = 128 from rfl, a6]
      · rw [e_, show 64 * 3 = 192 from rfl, a7]
    rw [e1_, e2_]
    show _ = pt2 (x_ % 256) + 256 * bwF pt2 n_ (x_ / 256)
    unfold pt2
    unfold pt2 at i2_
    rw [← i2_]
    omega
theorem and15 {a_ : Nat} : a_ &&& 15 = a_ % 16 := Nat.and_two_pow_sub_one_eq_mod a_ 4
/-- both halves of each byte -/
theorem st3 {c_ : Nat → Nat} (hc_ : ∀ b_, b_ < 256 → c_ b_ % 16 ≤ 4 ∧ c_ b_ / 16 ≤ 4) : ∀ (n_ x_ : Nat), (bwF c_ n_ x_) % 16 ≤ 4 ∧ ((bwF c_ n_ x_ + bwF c_ n_ x_ / 16) &&& nMk 15 n_) = bwF (fun b_ => c_ b_ % 16 + c_ b_ / 16) n_ x_ := by
  intro n_
  induction n_ with
  | zero => intro x_; exact ⟨by show 0 % 16 ≤ 4; omega, by show (0 + 0 / 16) &&& 0 = 0; exact Nat.and_zero _⟩
  | succ n_ ih_ =>
    intro x_
    obtain ⟨h1, h2⟩ := hc_ (x_ % 256) (Nat.mod_lt _ (by omega))
    obtain ⟨i1_, i2_⟩ := ih_ (x_ / 256)
    have e_ : bwF c_ (n_ + 1) x_ = c_ (x_ % 256) + 256 * bwF c_ n_ (x_ / 256) := rfl
    generalize hu : c_ (x_ % 256) = u_ at e_ h1 h2
    generalize hy : bwF c_ n_ (x_ / 256) = y_ at e_ i1_ i2_
    rw [e_]
    refine ⟨by omega, ?_⟩
    show ((u_ + 256 * y_ + (u_ + 256 * y_) / 16) &&& (15 + 256 * nMk 15 n_)) = (c_ (x_ % 256) % 16 + c_ (x_ % 256) / 16) + 256 * bwF (fun b_ => c_ b_ % 16 + c_ b_ / 16) n_ (x_ / 256)
    rw [show u_ + 256 * y_ + (u_ + 256 * y_) / 16 = (u_ + u_ / 16 + 16 * (y_ % 16)) + 256 * (y_ + y_ / 16) by omega, and_split (by omega) (by omega), and15, i2_, hu]
    omega
def ppF (b_ : Nat) : Nat := pt2 (pt1 b_) % 16 + pt2 (pt1 b_) / 16
/-- how many of f 0 .. f (n - 1) -/
def cfF (f_ : Nat → Bool) (n_ : Nat) : Nat := match n_ with
  | 0 => 0
  | n_ + 1 => cfF f_ n_ + (if f_ n_ = true then 1 else 0)
theorem cf_g {f_ g_ : Nat → Bool} : ∀ {n_ : Nat}, (∀ i_, i_ < n_ → f_ i_ = g_ i_) → cfF f_ n_ = cfF g_ n_ := by
  intro n_
  induction n_ with
  | zero => intro _; rfl
  | succ n_ ih_ =>
    intro h_
    show cfF f_ n_ + (if f_ n_ = true then 1 else 0) = cfF g_ n_ + (if g_ n_ = true then 1 else 0)
    rw [ih_ (fun i_ hi_ => h_ i_ (by omega)), h_ n_ (by omega)]
theorem cf_a {f_ : Nat → Bool} {m_ : Nat} : ∀ {n_ : Nat}, cfF f_ (m_ + n_) = cfF f_ m_ + cfF (fun i_ => f_ (m_ + i_)) n_ := by
  intro n_
  induction n_ with
  | zero => rfl
  | succ n_ ih_ =>
    show cfF f_ (m_ + n_) + (if f_ (m_ + n_) = true then 1 else 0) = cfF f_ m_ + (cfF (fun i_ => f_ (m_ + i_)) n_ + (if f_ (m_ + n_) = true then 1 else 0))
    rw [ih_, Nat.add_assoc]
theorem cf_0 {f_ : Nat → Bool} : ∀ {n_ : Nat}, (∀ i_, i_ < n_ → f_ i_ = false) → cfF f_ n_ = 0 := by
  intro n_
  induction n_ with
  | zero => intro _; rfl
  | succ n_ ih_ =>
    intro h_
    show cfF f_ n_ + (if f_ n_ = true then 1 else 0) = 0
    rw [ih_ (fun i_ hi_ => h_ i_ (by omega)), h_ n_ (by omega)]
    rfl
theorem pp_k : (List.range 256).all (fun b_ => decide (ppF b_ = cfF (fun i_ => Nat.testBit b_ i_) 8) && Nat.ble (ppF b_) 8) = true := by decide +kernel
theorem pp_a {b_ : Nat} (h_ : b_ < 256) : ppF b_ = cfF (fun i_ => Nat.testBit b_ i_) 8 ∧ ppF b_ ≤ 8 := by
  have k_ := List.all_eq_true.mp pp_k b_ (List.mem_range.mpr h_)
  rw [Bool.and_eq_true] at k_
  exact ⟨of_decide_eq_true k_.1, Nat.le_of_ble_eq_true k_.2⟩
/-- bits of eight bytes -/
def pbF (n_ x_ : Nat) : Nat := match n_ with
  | 0 => 0
  | n_ + 1 => ppF (x_ % 256) + pbF n_ (x_ / 256)
theorem pb_c : ∀ (n_ x_ : Nat), pbF n_ x_ = cfF (fun i_ => Nat.testBit x_ i_) (8 * n_) := by
  intro n_
  induction n_ with
  | zero => intro x_; rfl
  | succ n_ ih_ =>
    intro x_
    show ppF (x_ % 256) + pbF n_ (x_ / 256) = _
    rw [(pp_a (Nat.mod_lt _ (by omega))).1, ih_, show 8 * (n_ + 1) = 8 + 8 * n_ by omega, cf_a]
    have e1_ : cfF (fun i_ => Nat.testBit (x_ % 256) i_) 8 = cfF (fun i_ => Nat.testBit x_ i_) 8 := cf_g (fun i_ hi_ => by
      have q_ := Nat.testBit_mod_two_pow x_ 8 i_
      rw [decide_eq_true hi_, Bool.true_and] at q_
      exact q_)
    have e2_ : cfF (fun i_ => Nat.testBit (x_ / 256) i_) (8 * n_) = cfF (fun i_ => Nat.testBit x_ (8 + i_)) (8 * n_) := cf_g (fun i_ hi_ => by
      have q_ := Nat.testBit_div_two_pow (n := 8) x_ i_
      rw [Nat.add_comm i_ 8] at q_
      exact q_)
    rw [e1_, e2_]
theorem dv1 {a_ B_ : Nat} (h_ : a_ < 256) : (a_ + 256 * B_) / 256 = B_ := by omega
theorem dv2 {a_ b_ C_ : Nat} (h_ : a_ < 256) (h2 : b_ < 256) : (a_ + 256 * (b_ + 256 * C_)) / 65536 = C_ := by
  rw [show 65536 = 256 * 256 from rfl, ← Nat.div_div_eq_div_mul, dv1 h_, dv1 h2]
theorem dv4 {a_ b_ c_ d_ E_ : Nat} (h_ : a_ < 256) (h2 : b_ < 256) (h3 : c_ < 256) (h4 : d_ < 256) : (a_ + 256 * (b_ + 256 * (c_ + 256 * (d_ + 256 * E_)))) / 4294967296 = E_ := by
  rw [show 4294967296 = 65536 * 65536 from rfl, ← Nat.div_div_eq_div_mul, dv2 h_ h2, dv2 h3 h4]
theorem bnds {y_ : Nat} (h_ : y_ ≤ 578721382704613384) : (y_ + y_ / 256) < 2 ^ 60 := by omega
theorem bnds2 {y_ : Nat} (h_ : y_ < 2 ^ 60) : (y_ + y_ / 65536) < 2 ^ 61 := by omega
theorem bnds3 {y_ : Nat} (h_ : y_ < 2 ^ 61) : (y_ + y_ / 4294967296) < 2 ^ 62 := by omega
theorem md1 {a_ B_ : Nat} (h_ : a_ < 128) : (a_ + 256 * B_) % 128 = a_ := by omega
theorem ad1 {a0_ a1_ a2 a3 a4 a5 a6 a7 : Nat} : (a0_ + 256 * (a1_ + 256 * (a2 + 256 * (a3 + 256 * (a4 + 256 * (a5 + 256 * (a6 + 256 * (a7 + 256 * 0)))))))) + (a1_ + 256 * (a2 + 256 * (a3 + 256 * (a4 + 256 * (a5 + 256 * (a6 + 256 * (a7 + 256 * 0))))))) = (a0_ + a1_) + 256 * ((a1_ + a2) + 256 * ((a2 + a3) + 256 * ((a3 + a4) + 256 * ((a4 + a5) + 256 * ((a5 + a6) + 256 * ((a6 + a7) + 256 * a7)))))) := by omega
theorem ad2 {b0 b1 b2 b3 b4 b5 b6 b7 : Nat} : (b0 + 256 * (b1 + 256 * (b2 + 256 * (b3 + 256 * (b4 + 256 * (b5 + 256 * (b6 + 256 * b7))))))) + (b2 + 256 * (b3 + 256 * (b4 + 256 * (b5 + 256 * (b6 + 256 * b7))))) = (b0 + b2) + 256 * ((b1 + b3) + 256 * ((b2 + b4) + 256 * ((b3 + b5) + 256 * ((b4 + b6) + 256 * ((b5 + b7) + 256 * (b6 + 256 * b7)))))) := by omega
theorem ad3 {b0 b1 b2 b3 b4 b5 b6 b7 : Nat} : (b0 + 256 * (b1 + 256 * (b2 + 256 * (b3 + 256 * (b4 + 256 * (b5 + 256 * (b6 + 256 * b7))))))) + (b4 + 256 * (b5 + 256 * (b6 + 256 * b7))) = (b0 + b4) + 256 * ((b1 + b5) + 256 * ((b2 + b6) + 256 * ((b3 + b7) + 256 * (b4 + 256 * (b5 + 256 * (b6 + 256 * b7)))))) := by omega
theorem le2 {a_ b_ : Nat} (h_ : a_ ≤ 8) (h2 : b_ ≤ 8) : a_ + b_ < 256 := by omega
theorem le4 {a_ b_ c_ d_ : Nat} (h_ : a_ ≤ 8) (h2 : b_ ≤ 8) (h3 : c_ ≤ 8) (h4 : d_ ≤ 8) : a_ + b_ + (c_ + d_) < 256 := by omega
theorem le8 {a_ b_ c_ d_ e_ f_ g_ u_ : Nat} (h_ : a_ ≤ 8) (h2 : b_ ≤ 8) (h3 : c_ ≤ 8) (h4 : d_ ≤ 8) (h5 : e_ ≤ 8) (h6 : f_ ≤ 8) (h7 : g_ ≤ 8) (h8 : u_ ≤ 8) : a_ + b_ + (c_ + d_) + (e_ + f_ + (g_ + u_)) < 128 ∧ a_ + b_ + (c_ + d_) + (e_ + f_ + (g_ + u_)) = a_ + (b_ + (c_ + (d_ + (e_ + (f_ + (g_ + (u_ + 0))))))) := by omega
theorem sums {a0_ a1_ a2 a3 a4 a5 a6 a7 y_ : Nat} (h0 : a0_ ≤ 8) (h1 : a1_ ≤ 8) (h2 : a2 ≤ 8) (h3 : a3 ≤ 8) (h4 : a4 ≤ 8) (h5 : a5 ≤ 8) (h6 : a6 ≤ 8) (h7 : a7 ≤ 8) (e_ : y_ = a0_ + 256 * (a1_ + 256 * (a2 + 256 * (a3 + 256 * (a4 + 256 * (a5 + 256 * (a6 + 256 * (a7 + 256 * 0)))))))) : (((y_ + y_ / 256) + (y_ + y_ / 256) / 65536) + ((y_ + y_ / 256) + (y_ + y_ / 256) / 65536) / 4294967296) % 128 = a0_ + (a1_ + (a2 + (a3 + (a4 + (a5 + (a6 + (a7 + 0))))))) := by
  have k8_ : ∀ {a_ : Nat}, a_ ≤ 8 → a_ < 256 := fun q_ => Nat.lt_of_le_of_lt q_ (by decide)
  have y4 : y_ + y_ / 256 = (a0_ + a1_) + 256 * ((a1_ + a2) + 256 * ((a2 + a3) + 256 * ((a3 + a4) + 256 * ((a4 + a5) + 256 * ((a5 + a6) + 256 * ((a6 + a7) + 256 * a7)))))) := by
    rw [e_, dv1 (k8_ h0)]
    exact ad1
  have y5 : (y_ + y_ / 256) + (y_ + y_ / 256) / 65536 = (a0_ + a1_ + (a2 + a3)) + 256 * ((a1_ + a2 + (a3 + a4)) + 256 * ((a2 + a3 + (a4 + a5)) + 256 * ((a3 + a4 + (a5 + a6)) + 256 * ((a4 + a5 + (a6 + a7)) + 256 * ((a5 + a6 + a7) + 256 * ((a6 + a7) + 256 * a7)))))) := by
    rw [y4, dv2 (le2 h0 h1) (le2 h1 h2)]
    exact ad2
  rw [y5, dv4 (le4 h0 h1 h2 h3) (le4 h1 h2 h3 h4) (le4 h2 h3 h4 h5) (le4 h3 h4 h5 h6), ad3, md1 (le8 h0 h1 h2 h3 h4 h5 h6 h7).1]
  exact (le8 h0 h1 h2 h3 h4 h5 h6 h7).2
/-- a long's bits as a number -/
def nq (w_ : Int64) : Nat := w_.toBitVec.toNat
theorem nq_lt {w_ : Int64} : nq w_ < 2 ^ 64 := w_.toBitVec.isLt
theorem nq_and {a_ b_ : Int64} : nq (a_ &&& b_) = nq a_ &&& nq b_ := rfl
theorem nq_or {a_ b_ : Int64} : nq (a_ ||| b_) = nq a_ ||| nq b_ := rfl
theorem nq_add {a_ b_ : Int64} (h_ : nq a_ + nq b_ < 2 ^ 64) : nq (a_ + b_) = nq a_ + nq b_ := (BitVec.toNat_add a_.toBitVec b_.toBitVec).trans (Nat.mod_eq_of_lt h_)
theorem nq_sub {a_ b_ : Int64} (h_ : nq b_ ≤ nq a_) : nq (a_ - b_) = nq a_ - nq b_ := BitVec.toNat_sub_of_le (x := a_.toBitVec) (y := b_.toBitVec) (BitVec.le_def.mpr h_)
theorem nq_s1 {w_ : Int64} : nq (((w_).toUInt64 >>> ((1 : Int32).toInt64.toUInt64 &&& Int64.toUInt64 63)).toInt64) = nq w_ / 2 := by
  show (w_.toBitVec >>> (1 : Nat)).toNat = _
  rw [BitVec.toNat_ushiftRight, Nat.shiftRight_eq_div_pow]
  rfl
theorem nq_s2 {w_ : Int64} : nq (((w_).toUInt64 >>> ((2 : Int32).toInt64.toUInt64 &&& Int64.toUInt64 63)).toInt64) = nq w_ / 4 := by
  show (w_.toBitVec >>> (2 : Nat)).toNat = _
  rw [BitVec.toNat_ushiftRight, Nat.shiftRight_eq_div_pow]
  rfl
theorem nq_s4 {w_ : Int64} : nq (((w_).toUInt64 >>> ((4 : Int32).toInt64.toUInt64 &&& Int64.toUInt64 63)).toInt64) = nq w_ / 16 := by
  show (w_.toBitVec >>> (4 : Nat)).toNat = _
  rw [BitVec.toNat_ushiftRight, Nat.shiftRight_eq_div_pow]
  rfl
theorem nq_s8 {w_ : Int64} : nq (((w_).toUInt64 >>> ((8 : Int32).toInt64.toUInt64 &&& Int64.toUInt64 63)).toInt64) = nq w_ / 256 := by
  show (w_.toBitVec >>> (8 : Nat)).toNat = _
  rw [BitVec.toNat_ushiftRight, Nat.shiftRight_eq_div_pow]
  rfl
theorem nq_s16 {w_ : Int64} : nq (((w_).toUInt64 >>> ((16 : Int32).toInt64.toUInt64 &&& Int64.toUInt64 63)).toInt64) = nq w_ / 65536 := by
  show (w_.toBitVec >>> (16 : Nat)).toNat = _
  rw [BitVec.toNat_ushiftRight, Nat.shiftRight_eq_div_pow]
  rfl
theorem nq_s32 {w_ : Int64} : nq (((w_).toUInt64 >>> ((32 : Int32).toInt64.toUInt64 &&& Int64.toUInt64 63)).toInt64) = nq w_ / 4294967296 := by
  show (w_.toBitVec >>> (32 : Nat)).toNat = _
  rw [BitVec.toNat_ushiftRight, Nat.shiftRight_eq_div_pow]
  rfl
def pq0 (w_ : Int64) : Int64 := (w_ - (((w_).toUInt64 >>> ((1 : Int32).toInt64.toUInt64 &&& Int64.toUInt64 63)).toInt64 &&& (6148914691236517205 : Int64)))
def pq1 (w_ : Int64) : Int64 := ((w_ &&& (3689348814741910323 : Int64)) + (((w_).toUInt64 >>> ((2 : Int32).toInt64.toUInt64 &&& Int64.toUInt64 63)).toInt64 &&& (3689348814741910323 : Int64)))
def pq2 (w_ : Int64) : Int64 := ((w_ + ((w_).toUInt64 >>> ((4 : Int32).toInt64.toUInt64 &&& Int64.toUInt64 63)).toInt64) &&& (1085102592571150095 : Int64))
def pq3 (w_ : Int64) : Int64 := (w_ + ((w_).toUInt64 >>> ((8 : Int32).toInt64.toUInt64 &&& Int64.toUInt64 63)).toInt64)
def pq4 (w_ : Int64) : Int64 := (w_ + ((w_).toUInt64 >>> ((16 : Int32).toInt64.toUInt64 &&& Int64.toUInt64 63)).toInt64)
def pq5 (w_ : Int64) : Int64 := (w_ + ((w_).toUInt64 >>> ((32 : Int32).toInt64.toUInt64 &&& Int64.toUInt64 63)).toInt64)
/-- what Long.bitCount says -/
def pc64 (w_ : Int64) : Int32 := (pq5 (pq4 (pq3 (pq2 (pq1 (pq0 w_)))))).toInt32 &&& 127
theorem pq_m : ((nq (6148914691236517205 : Int64) = nMk 85 8 ∧ nq (3689348814741910323 : Int64) = nMk 51 8) ∧ (nq (1085102592571150095 : Int64) = nMk 15 8 ∧ nMk 1 8 = 72340172838076673)) ∧ 256 ^ 8 = 2 ^ 64 := by decide +kernel
theorem i127 (w_ : Int64) : w_.toInt32 &&& 127 = Int32.ofNat (nq w_ % 128) := by
  apply Int32.toBitVec_inj.mp
  apply BitVec.eq_of_toNat_eq
  show (w_.toBitVec.signExtend 32 &&& 127#32).toNat = (BitVec.ofNat 32 (nq w_ % 128)).toNat
  have r_ : (BitVec.ofNat 32 (nq w_ % 128)).toNat = nq w_ % 128 := (BitVec.toNat_ofNat _ _).trans (Nat.mod_eq_of_lt (by omega))
  rw [r_, BitVec.signExtend_eq_setWidth_of_le _ (by omega), BitVec.toNat_and, BitVec.toNat_setWidth]
  show (w_.toBitVec.toNat % 2 ^ 32) &&& 127 = _
  rw [show (w_.toBitVec.toNat % 2 ^ 32) &&& 127 = (w_.toBitVec.toNat % 2 ^ 32) % 2 ^ 7 from Nat.and_two_pow_sub_one_eq_mod _ 7]
  unfold nq
  omega
theorem pc_ok (w_ : Int64) : pc64 w_ = Int32.ofNat (cfF (fun i_ => Nat.testBit (nq w_) i_) 64) := by
  obtain ⟨⟨⟨m1_, m2_⟩, m3_, m4_⟩, m5_⟩ := pq_m
  have hw := nq_lt (w_ := w_)
  obtain ⟨a1_, a2⟩ := st1 8 (nq w_) (by omega)
  have e0_ : nq (pq0 w_) = bwF pt1 8 (nq w_) := by
    unfold pq0
    rw [nq_sub (by rw [nq_and, nq_s1, m1_]; exact a1_), nq_and, nq_s1, m1_]
    exact a2
  have f1_ : ∀ b_, b_ < 256 → pt1 b_ < 256 := fun b_ h_ => (pt_a h_).1.1.1
  have f2_ : ∀ b_, b_ < 256 → pt2 b_ < 256 := fun b_ h_ => (pt_a h_).1.2.1
  have f3_ : ∀ b_, b_ < 256 → pt2 (pt1 b_) % 16 ≤ 4 ∧ pt2 (pt1 b_) / 16 ≤ 4 := fun b_ h_ => (pt_a h_).2
  have e1_ : nq (pq1 (pq0 w_)) = bwF (fun b_ => pt2 (pt1 b_)) 8 (nq w_) := by
    have q_ := st2 8 (nq (pq0 w_)) (by have z_ := nq_lt (w_ := pq0 w_); omega)
    have lt_ := bw_le (f_ := fun b_ => pt2 (pt1 b_)) (m_ := 68) (fun b_ h_ => by have z_ := f3_ b_ h_; show pt2 (pt1 b_) ≤ 68; omega) 8 (nq w_)
    rw [m4_] at lt_
    rw [e0_, bw_c f1_] at q_
    unfold pq1
    rw [nq_add (by rw [nq_and, nq_and, nq_s2, m2_, e0_, q_]; omega), nq_and, nq_and, nq_s2, m2_, e0_]
    exact q_
  have e2_ : nq (pq2 (pq1 (pq0 w_))) = bwF ppF 8 (nq w_) := by
    have q_ := (st3 (c_ := fun b_ => pt2 (pt1 b_)) f3_ 8 (nq w_)).2
    have lt_ := bw_le (f_ := fun b_ => pt2 (pt1 b_)) (m_ := 68) (fun b_ h_ => by have z_ := f3_ b_ h_; show pt2 (pt1 b_) ≤ 68; omega) 8 (nq w_)
    rw [m4_] at lt_
    unfold pq2
    rw [nq_and, nq_add (by rw [nq_s4, e1_]; omega), nq_s4, m3_, e1_]
    exact q_
  have ey : bwF ppF 8 (nq w_) = ppF (nq w_ % 256) + 256 * (ppF (nq w_ / 256 % 256) + 256 * (ppF (nq w_ / 256 / 256 % 256) + 256 * (ppF (nq w_ / 256 / 256 / 256 % 256) + 256 * (ppF (nq w_ / 256 / 256 / 256 / 256 % 256) + 256 * (ppF (nq w_ / 256 / 256 / 256 / 256 / 256 % 256) + 256 * (ppF (nq w_ / 256 / 256 / 256 / 256 / 256 / 256 % 256) + 256 * (ppF (nq w_ / 256 / 256 / 256 / 256 / 256 / 256 / 256 % 256) + 256 * 0))))))) := rfl
  have es : pbF 8 (nq w_) = ppF (nq w_ % 256) + (ppF (nq w_ / 256 % 256) + (ppF (nq w_ / 256 / 256 % 256) + (ppF (nq w_ / 256 / 256 / 256 % 256) + (ppF (nq w_ / 256 / 256 / 256 / 256 % 256) + (ppF (nq w_ / 256 / 256 / 256 / 256 / 256 % 256) + (ppF (nq w_ / 256 / 256 / 256 / 256 / 256 / 256 % 256) + (ppF (nq w_ / 256 / 256 / 256 / 256 / 256 / 256 / 256 % 256) + 0))))))) := rfl
  have p8_ : ∀ b_, ppF (b_ % 256) ≤ 8 := fun b_ => (pp_a (Nat.mod_lt _ (by omega))).2
  have ly := bw_le (f_ := ppF) (m_ := 8) (fun b_ h_ => (pp_a h_).2) 8 (nq w_)
  rw [m4_] at ly
  have s4_ := sums (p8_ _) (p8_ _) (p8_ _) (p8_ _) (p8_ _) (p8_ _) (p8_ _) (p8_ _) ey
  rw [← es] at s4_
  have s1_ := bnds ly
  have s2_ := bnds2 s1_
  have s3_ := bnds3 s2_
  generalize hy : bwF ppF 8 (nq w_) = y_ at e2_ s1_ s2_ s3_ s4_
  have e3_ : nq (pq3 (pq2 (pq1 (pq0 w_)))) = y_ + y_ / 256 := by
    unfold pq3
    rw [nq_add (by rw [nq_s8, e2_]; omega), nq_s8, e2_]
  have e4_ : nq (pq4 (pq3 (pq2 (pq1 (pq0 w_))))) = (y_ + y_ / 256) + (y_ + y_ / 256) / 65536 := by
    unfold pq4
    rw [nq_add (by rw [nq_s16, e3_]; omega), nq_s16, e3_]
  have e5_ : nq (pq5 (pq4 (pq3 (pq2 (pq1 (pq0 w_)))))) = ((y_ + y_ / 256) + (y_ + y_ / 256) / 65536) + ((y_ + y_ / 256) + (y_ + y_ / 256) / 65536) / 4294967296 := by
    unfold pq5
    rw [nq_add (by rw [nq_s32, e4_]; omega), nq_s32, e4_]
  unfold pc64
  rw [i127, e5_, s4_, pb_c]
