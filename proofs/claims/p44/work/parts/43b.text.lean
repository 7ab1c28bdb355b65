-- ===== the reference's texts: what worked is out, at each of its steps there is enough on the pile
/-- a place's number -/
def tv (h : xH) (a_ j_ : Nat) : Int := match bpat h a_ j_ with
  | some (.int x_) => x_.toInt
  | _ => 0
/-- n steps from place b on -/
def tcode (h : xH) (a_ b_ n : Nat) : List (Int × Int) := match n with
  | 0 => []
  | n + 1 => (tv h a_ b_, tv h a_ (b_ + 1)) :: tcode h a_ (b_ + 2) n
/-- how high the pile is behind them -/
def thg (l : List (Int × Int)) (g_ : Nat) : Option Nat := match l with
  | [] => some g_
  | q_ :: t_ => match decide (q_.1 = 0) with
    | true => thg t_ (g_ + 1)
    | false => match decide (q_.1 = 1) with
      | true => (match decide (98 ≤ q_.2) && decide (q_.2 ≤ 116) with
        | true => thg t_ (g_ + 1)
        | false => none)
      | false => match decide (q_.1 = 2) with
        | true => (match g_ with
          | 0 => none
          | g_ + 1 => thg t_ (g_ + 1))
        | false => match decide (q_.1 = 3) with
          | true => (match g_ with
            | g_ + 2 => thg t_ (g_ + 1)
            | _ => none)
          | false => none
theorem thg_app {l m_ : List (Int × Int)} : ∀ {g_ : Nat}, thg (l ++ m_) g_ = (thg l g_).bind (thg m_) := by
  induction l with
  | nil => intro g_; rfl
  | cons q_ t_ ih_ =>
    intro g_
    simp only [List.cons_append, thg]
    repeat' split
    all_goals first | rfl | exact ih_
/-- a text that can be worked out -/
def ttx (h : xH) (a_ b_ : Nat) : Prop := (tv h a_ b_).toNat ≤ 60 ∧ ∃ g_, thg (tcode h a_ (b_ + 1) (tv h a_ b_).toNat) 0 = some g_
def bXm (h : xH) : Prop := (ttx h 339 434 ∧ ttx h 339 559) ∧ (ttx h 340 434 ∧ ttx h 340 559)
theorem tv_eq {h h' : xH} {a_ j_ : Nat} (e : bpat h' a_ j_ = bpat h a_ j_) : tv h' a_ j_ = tv h a_ j_ := by
  unfold tv
  rw [e]
theorem tcode_eq {h h' : xH} {a_ a' : Nat} : ∀ {n b_ b' : Nat}, (∀ j_, j_ < 2 * n → tv h' a' (b' + j_) = tv h a_ (b_ + j_)) → tcode h' a' b' n = tcode h a_ b_ n := by
  intro n
  induction n with
  | zero => intro b_ b' e; rfl
  | succ n ih_ =>
    intro b_ b' e
    have e1_ : tv h' a' b' = tv h a_ b_ := e 0 (by omega)
    have e2_ : tv h' a' (b' + 1) = tv h a_ (b_ + 1) := e 1 (by omega)
    simp only [tcode]
    rw [e1_, e2_, @ih_ (b_ + 2) (b' + 2) (fun j_ hj => by
      have k_ := e (2 + j_) (by omega)
      rw [← Nat.add_assoc, ← Nat.add_assoc] at k_
      exact k_)]
theorem tcode_snoc {h : xH} {a_ : Nat} : ∀ {n b_ : Nat}, tcode h a_ b_ (n + 1) = tcode h a_ b_ n ++ [(tv h a_ (b_ + 2 * n), tv h a_ (b_ + 2 * n + 1))] := by
  intro n
  induction n with
  | zero => intro b_; rfl
  | succ n ih_ =>
    intro b_
    have e : tcode h a_ b_ (n + 1 + 1) = (tv h a_ b_, tv h a_ (b_ + 1)) :: tcode h a_ (b_ + 2) (n + 1) := rfl
    have e2_ : tcode h a_ b_ (n + 1) = (tv h a_ b_, tv h a_ (b_ + 1)) :: tcode h a_ (b_ + 2) n := rfl
    rw [e, ih_, e2_, List.cons_append, show b_ + 2 + 2 * n = b_ + 2 * (n + 1) by omega]
theorem ttx_eq {h h' : xH} {a_ b_ : Nat} (e : ∀ j_, b_ ≤ j_ → j_ ≤ b_ + 120 → tv h' a_ j_ = tv h a_ j_) (H_ : ttx h a_ b_) : ttx h' a_ b_ := by
  obtain ⟨h1, g_, h2⟩ := H_
  have e0_ := e b_ (Nat.le_refl _) (by omega)
  refine ⟨by rw [e0_]; exact h1, g_, ?_⟩
  rw [e0_, tcode_eq (h := h) (a_ := a_) (b_ := b_ + 1) (fun j_ hj => e (b_ + 1 + j_) (by omega) (by omega))]
  exact h2
/-- nothing of the texts is among these -/
def bxw (W : bW) : Bool := W.all (fun q_ => (Nat.ble (q_.2.1 + 1) 339 || Nat.ble 341 q_.1) || (Nat.ble (q_.2.2.2 + 1) 434 || Nat.ble 684 q_.2.2.1))
theorem bxw_out {W : bW} (hw : bxw W = true) {a_ j_ : Nat} (h1 : 339 ≤ a_) (h2 : a_ ≤ 340) (h3 : 434 ≤ j_) (h4 : j_ ≤ 683) : biw W a_ j_ = false := by
  cases e : biw W a_ j_ with
  | false => rfl
  | true =>
    obtain ⟨q_, hq, hb_⟩ := List.any_eq_true.mp e
    have k_ := List.all_eq_true.mp hw q_ hq
    simp only [Bool.and_eq_true] at hb_
    simp only [Bool.or_eq_true] at k_
    have b1 := Nat.le_of_ble_eq_true hb_.1.1
    have b2 := Nat.le_of_ble_eq_true hb_.1.2
    have b3 := Nat.le_of_ble_eq_true hb_.2.1
    have b4 := Nat.le_of_ble_eq_true hb_.2.2
    rcases k_ with (k_ | k_) | (k_ | k_)
    · have := Nat.le_of_ble_eq_true k_; omega
    · have := Nat.le_of_ble_eq_true k_; omega
    · have := Nat.le_of_ble_eq_true k_; omega
    · have := Nat.le_of_ble_eq_true k_; omega
theorem bxw_ok {W : bW} (hw : bxw W = true) : ∀ h h', bfr W h h' → bXm h → bXm h' := by
  intro h h' hf H_
  have key_ : ∀ a_ b_, 339 ≤ a_ → a_ ≤ 340 → 434 ≤ b_ → b_ + 120 ≤ 683 → ttx h a_ b_ → ttx h' a_ b_ := fun a_ b_ h1 h2 h3 h4 =>
    ttx_eq (fun j_ j1 j2_ => tv_eq (hf a_ j_ (bxw_out hw h1 h2 (by omega) (by omega))))
  exact ⟨⟨key_ 339 434 (by omega) (by omega) (by omega) (by omega) H_.1.1, key_ 339 559 (by omega) (by omega) (by omega) (by omega) H_.1.2⟩, ⟨key_ 340 434 (by omega) (by omega) (by omega) (by omega) H_.2.1, key_ 340 559 (by omega) (by omega) (by omega) (by omega) H_.2.2⟩⟩
