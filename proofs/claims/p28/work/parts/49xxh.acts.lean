-- ===== reads
/-- the class: what may come yet, place by place -/
def cf (m_ : Nat) (n_ : Bool) (i_ : Nat) (l : List Int32) : Int := match l with
  | [] => if m_ = 0 then -1 else (i_ : Int)
  | v_ :: t_ => if 60 ≤ v_.toInt then (if n_ = true then cf m_ true (i_ + 1) t_ else (i_ : Int))
    else if v_.toInt = 50 ∨ v_.toInt = 51 then (if m_ = 0 then cf 1 false (i_ + 1) t_ else (i_ : Int))
    else if m_ = 0 then (i_ : Int)
    else if v_.toInt = 52 then cf (m_ + 1) false (i_ + 1) t_
    else if v_.toInt = 53 then cf m_ false (i_ + 1) t_
    else cf (m_ - 1) true (i_ + 1) t_
/-- NUMBERS behind a WORD -/
def nru (i_ : Nat) (s_ : Int32) (l : List Int32) : Nat × Int32 × List Int32 := match l with
  | [] => (i_, s_, [])
  | v_ :: t_ => if 60 ≤ v_.toInt then nru (i_ + 1) (s_ + (v_ - 80)) t_ else (i_, s_, v_ :: t_)
/-- the reference: T from a place on: whether it reads, where it ends, whether it is so, what is left -/
def tmF (so : Int32 → Bool) (f_ i_ : Nat) (l : List Int32) : Bool × Nat × Bool × List Int32 := match f_ with
  | 0 => (false, i_, false, l)
  | f_ + 1 => match l with
    | [] => (false, i_, false, [])
    | v_ :: t_ => if 60 ≤ v_.toInt ∨ (v_.toInt = 50 ∨ v_.toInt = 51) then (false, i_, false, v_ :: t_)
      else if v_.toInt = 53 then ((tmF so f_ (i_ + 1) t_).1, (tmF so f_ (i_ + 1) t_).2.1, !(tmF so f_ (i_ + 1) t_).2.2.1, (tmF so f_ (i_ + 1) t_).2.2.2)
      else if v_.toInt = 52 then (if (tmF so f_ (i_ + 1) t_).1 = true then ((tmF so f_ (tmF so f_ (i_ + 1) t_).2.1 (tmF so f_ (i_ + 1) t_).2.2.2).1, (tmF so f_ (tmF so f_ (i_ + 1) t_).2.1 (tmF so f_ (i_ + 1) t_).2.2.2).2.1, !(tmF so f_ (i_ + 1) t_).2.2.1 || (tmF so f_ (tmF so f_ (i_ + 1) t_).2.1 (tmF so f_ (i_ + 1) t_).2.2.2).2.2.1, (tmF so f_ (tmF so f_ (i_ + 1) t_).2.1 (tmF so f_ (i_ + 1) t_).2.2.2).2.2.2) else (false, (tmF so f_ (i_ + 1) t_).2.1, false, (tmF so f_ (i_ + 1) t_).2.2.2))
      else (true, (nru (i_ + 1) 0 t_).1, so v_ && decide (0 ≤ (nru (i_ + 1) 0 t_).2.1.toInt), (nru (i_ + 1) 0 t_).2.2)
/-- what is joined -/
def syF (so : Int32 → Bool) (f_ i_ : Nat) (any all : Bool) (l : List Int32) : Bool × Nat × Bool := match f_ with
  | 0 => (true, i_, any || all)
  | f_ + 1 => match l with
    | [] => (true, i_, any || all)
    | v_ :: t_ => if v_.toInt = 50 ∨ v_.toInt = 51 then (if (tmF so 20 (i_ + 1) t_).1 = true then syF so f_ (tmF so 20 (i_ + 1) t_).2.1 (any || (decide (v_.toInt = 51) && all)) (if v_.toInt = 51 then (tmF so 20 (i_ + 1) t_).2.2.1 else (all && (tmF so 20 (i_ + 1) t_).2.2.1)) (tmF so 20 (i_ + 1) t_).2.2.2 else (false, (tmF so 20 (i_ + 1) t_).2.1, false)) else (false, i_, false)
def hd0 (l : List Int32) : Prop := ∀ v_ t_, l = v_ :: t_ → ¬ 60 ≤ v_.toInt
theorem nru_c {m_ : Nat} : ∀ (l : List Int32) (i_ : Nat) (s_ : Int32), cf m_ true i_ l = cf m_ true (nru i_ s_ l).1 (nru i_ s_ l).2.2 ∧ (hd0 (nru i_ s_ l).2.2 ∧ ((nru i_ s_ l).2.2.length ≤ l.length ∧ (nru i_ s_ l).1 + (nru i_ s_ l).2.2.length = i_ + l.length)) := by
  intro l
  induction l with
  | nil => intro i_ s_; exact ⟨rfl, (fun v_ t_ h_ => by cases h_), Nat.le_refl _, rfl⟩
  | cons v_ t_ ih_ =>
    intro i_ s_
    by_cases g_ : 60 ≤ v_.toInt
    · have e_ : nru i_ s_ (v_ :: t_) = nru (i_ + 1) (s_ + (v_ - 80)) t_ := if_pos g_
      have ec : cf m_ true i_ (v_ :: t_) = cf m_ true (i_ + 1) t_ := (if_pos g_).trans (if_pos rfl)
      obtain ⟨h1, h2, h3, h4⟩ := ih_ (i_ + 1) (s_ + (v_ - 80))
      rw [e_, ec]
      refine ⟨h1, h2, ?_, ?_⟩
      · rw [List.length_cons]; omega
      · rw [h4, List.length_cons]; omega
    · have e_ : nru i_ s_ (v_ :: t_) = (i_, s_, v_ :: t_) := if_neg g_
      rw [e_]
      exact ⟨rfl, (fun v2 t2_ h_ => by cases h_; exact g_), Nat.le_refl _, rfl⟩
theorem tmF_c {so : Int32 → Bool} : ∀ (f_ i_ : Nat) (l : List Int32) (m_ : Nat) (n_ : Bool), l.length < f_ → (n_ = false ∨ hd0 l) → ((tmF so f_ i_ l).1 = true → cf (m_ + 1) n_ i_ l = cf m_ true (tmF so f_ i_ l).2.1 (tmF so f_ i_ l).2.2.2 ∧ (hd0 (tmF so f_ i_ l).2.2.2 ∧ ((tmF so f_ i_ l).2.2.2.length ≤ l.length ∧ (tmF so f_ i_ l).2.1 + (tmF so f_ i_ l).2.2.2.length = i_ + l.length))) ∧ ((tmF so f_ i_ l).1 = false → cf (m_ + 1) n_ i_ l = ((tmF so f_ i_ l).2.1 : Int)) := by
  intro f_
  induction f_ with
  | zero => intro i_ l m_ n_ hl _; omega
  | succ f_ ih_ =>
    intro i_ l m_ n_ hl hn
    cases l with
    | nil =>
      have e_ : tmF so (f_ + 1) i_ [] = (false, i_, false, []) := rfl
      rw [e_]
      exact ⟨(fun q_ => by cases q_), fun _ => if_neg (by omega)⟩
    | cons v_ t_ =>
      rw [List.length_cons] at hl
      by_cases g6 : 60 ≤ v_.toInt
      · have e_ : tmF so (f_ + 1) i_ (v_ :: t_) = (false, i_, false, v_ :: t_) := if_pos (Or.inl g6)
        rw [e_]
        refine ⟨(fun q_ => by cases q_), fun _ => ?_⟩
        have n0_ : ¬ n_ = true := fun q_ => by
          rcases hn with hn | hn
          · rw [hn] at q_; cases q_
          · exact hn v_ t_ rfl g6
        exact (if_pos g6).trans (if_neg n0_)
      by_cases gj : v_.toInt = 50 ∨ v_.toInt = 51
      · have e_ : tmF so (f_ + 1) i_ (v_ :: t_) = (false, i_, false, v_ :: t_) := if_pos (Or.inr gj)
        rw [e_]
        exact ⟨(fun q_ => by cases q_), fun _ => (if_neg g6).trans ((if_pos gj).trans (if_neg (by omega)))⟩
      have gq : ¬ (60 ≤ v_.toInt ∨ (v_.toInt = 50 ∨ v_.toInt = 51)) := fun q_ => by
        rcases q_ with q_ | q_
        · exact g6 q_
        · exact gj q_
      have cc : ∀ x_ : Int, (if v_.toInt = 52 then cf (m_ + 1 + 1) false (i_ + 1) t_ else if v_.toInt = 53 then cf (m_ + 1) false (i_ + 1) t_ else cf (m_ + 1 - 1) true (i_ + 1) t_) = x_ → cf (m_ + 1) n_ i_ (v_ :: t_) = x_ := fun x_ h_ => (if_neg g6).trans ((if_neg gj).trans ((if_neg (by omega)).trans h_))
      by_cases g53 : v_.toInt = 53
      · have e_ : tmF so (f_ + 1) i_ (v_ :: t_) = ((tmF so f_ (i_ + 1) t_).1, (tmF so f_ (i_ + 1) t_).2.1, !(tmF so f_ (i_ + 1) t_).2.2.1, (tmF so f_ (i_ + 1) t_).2.2.2) := (if_neg gq).trans (if_pos g53)
        rw [e_, List.length_cons]
        obtain ⟨a1_, a2⟩ := ih_ (i_ + 1) t_ m_ false (by omega) (Or.inl rfl)
        refine ⟨fun q_ => ?_, fun q_ => ?_⟩
        · obtain ⟨b1, b2, b3, b4⟩ := a1_ q_
          refine ⟨cc _ ((if_neg (by omega)).trans ((if_pos g53).trans b1)), b2, ?_, ?_⟩
          · show (tmF so f_ (i_ + 1) t_).2.2.2.length ≤ t_.length + 1
            omega
          · show (tmF so f_ (i_ + 1) t_).2.1 + (tmF so f_ (i_ + 1) t_).2.2.2.length = i_ + (t_.length + 1)
            omega
        · exact cc _ ((if_neg (by omega)).trans ((if_pos g53).trans (a2 q_)))
      by_cases g52 : v_.toInt = 52
      · obtain ⟨a1_, a2⟩ := ih_ (i_ + 1) t_ (m_ + 1) false (by omega) (Or.inl rfl)
        by_cases ga : (tmF so f_ (i_ + 1) t_).1 = true
        · obtain ⟨b1, b2, b3, b4⟩ := a1_ ga
          have e_ : tmF so (f_ + 1) i_ (v_ :: t_) = ((tmF so f_ (tmF so f_ (i_ + 1) t_).2.1 (tmF so f_ (i_ + 1) t_).2.2.2).1, (tmF so f_ (tmF so f_ (i_ + 1) t_).2.1 (tmF so f_ (i_ + 1) t_).2.2.2).2.1, !(tmF so f_ (i_ + 1) t_).2.2.1 || (tmF so f_ (tmF so f_ (i_ + 1) t_).2.1 (tmF so f_ (i_ + 1) t_).2.2.2).2.2.1, (tmF so f_ (tmF so f_ (i_ + 1) t_).2.1 (tmF so f_ (i_ + 1) t_).2.2.2).2.2.2) := (if_neg gq).trans ((if_neg g53).trans ((if_pos g52).trans (if_pos ga)))
          obtain ⟨c1_, c2_⟩ := ih_ (tmF so f_ (i_ + 1) t_).2.1 (tmF so f_ (i_ + 1) t_).2.2.2 m_ true (by omega) (Or.inr b2)
          rw [e_, List.length_cons]
          refine ⟨fun q_ => ?_, fun q_ => ?_⟩
          · obtain ⟨d1_, d2_, d3_, d4_⟩ := c1_ q_
            refine ⟨cc _ ((if_pos g52).trans (b1.trans d1_)), d2_, ?_, ?_⟩
            · show (tmF so f_ (tmF so f_ (i_ + 1) t_).2.1 (tmF so f_ (i_ + 1) t_).2.2.2).2.2.2.length ≤ t_.length + 1
              omega
            · show (tmF so f_ (tmF so f_ (i_ + 1) t_).2.1 (tmF so f_ (i_ + 1) t_).2.2.2).2.1 + (tmF so f_ (tmF so f_ (i_ + 1) t_).2.1 (tmF so f_ (i_ + 1) t_).2.2.2).2.2.2.length = i_ + (t_.length + 1)
              omega
          · exact cc _ ((if_pos g52).trans (b1.trans (c2_ q_)))
        · have e_ : tmF so (f_ + 1) i_ (v_ :: t_) = (false, (tmF so f_ (i_ + 1) t_).2.1, false, (tmF so f_ (i_ + 1) t_).2.2.2) := (if_neg gq).trans ((if_neg g53).trans ((if_pos g52).trans (if_neg ga)))
          rw [e_]
          exact ⟨(fun q_ => by cases q_), fun _ => cc _ ((if_pos g52).trans (a2 (by cases q_ : (tmF so f_ (i_ + 1) t_).1 with
            | true => exact absurd q_ ga
            | false => rfl)))⟩
      · have e_ : tmF so (f_ + 1) i_ (v_ :: t_) = (true, (nru (i_ + 1) 0 t_).1, so v_ && decide (0 ≤ (nru (i_ + 1) 0 t_).2.1.toInt), (nru (i_ + 1) 0 t_).2.2) := (if_neg gq).trans ((if_neg g53).trans (if_neg g52))
        obtain ⟨b1, b2, b3, b4⟩ := nru_c (m_ := m_) t_ (i_ + 1) 0
        rw [e_, List.length_cons]
        refine ⟨fun _ => ⟨cc _ ((if_neg g52).trans ((if_neg g53).trans b1)), b2, ?_, ?_⟩, fun q_ => by cases q_⟩
        · show (nru (i_ + 1) 0 t_).2.2.length ≤ t_.length + 1
          omega
        · show (nru (i_ + 1) 0 t_).1 + (nru (i_ + 1) 0 t_).2.2.length = i_ + (t_.length + 1)
          omega
theorem syF_c {so : Int32 → Bool} : ∀ (f_ i_ : Nat) (any all : Bool) (l : List Int32), l.length < f_ → l.length < 20 → hd0 l → ((syF so f_ i_ any all l).1 = true → cf 0 true i_ l = -1) ∧ ((syF so f_ i_ any all l).1 = false → cf 0 true i_ l = ((syF so f_ i_ any all l).2.1 : Int)) := by
  intro f_
  induction f_ with
  | zero => intro i_ any all l hl _ _; omega
  | succ f_ ih_ =>
    intro i_ any all l hl h20 hd_
    cases l with
    | nil =>
      have e_ : syF so (f_ + 1) i_ any all [] = (true, i_, any || all) := rfl
      rw [e_]
      exact ⟨fun _ => rfl, fun q_ => by cases q_⟩
    | cons v_ t_ =>
      rw [List.length_cons] at hl h20
      have g6 := hd_ v_ t_ rfl
      by_cases gj : v_.toInt = 50 ∨ v_.toInt = 51
      · have ec : cf 0 true i_ (v_ :: t_) = cf 1 false (i_ + 1) t_ := (if_neg g6).trans ((if_pos gj).trans (if_pos rfl))
        obtain ⟨a1_, a2⟩ := tmF_c (so := so) 20 (i_ + 1) t_ 0 false (by omega) (Or.inl rfl)
        by_cases ga : (tmF so 20 (i_ + 1) t_).1 = true
        · have e_ : syF so (f_ + 1) i_ any all (v_ :: t_) = syF so f_ (tmF so 20 (i_ + 1) t_).2.1 (any || (decide (v_.toInt = 51) && all)) (if v_.toInt = 51 then (tmF so 20 (i_ + 1) t_).2.2.1 else (all && (tmF so 20 (i_ + 1) t_).2.2.1)) (tmF so 20 (i_ + 1) t_).2.2.2 := (if_pos gj).trans (if_pos ga)
          obtain ⟨b1, b2, b3, b4⟩ := a1_ ga
          rw [e_, ec, b1]
          exact ih_ _ _ _ _ (by omega) (by omega) b2
        · have e_ : syF so (f_ + 1) i_ any all (v_ :: t_) = (false, (tmF so 20 (i_ + 1) t_).2.1, false) := (if_pos gj).trans (if_neg ga)
          rw [e_, ec]
          exact ⟨(fun q_ => by cases q_), fun _ => a2 (by cases q_ : (tmF so 20 (i_ + 1) t_).1 with
            | true => exact absurd q_ ga
            | false => rfl)⟩
      · have e_ : syF so (f_ + 1) i_ any all (v_ :: t_) = (false, i_, false) := if_neg gj
        rw [e_]
        exact ⟨(fun q_ => by cases q_), fun _ => (if_neg g6).trans ((if_neg gj).trans (if_pos rfl))⟩
/-- the whole row -/
def sayF (so : Int32 → Bool) (l : List Int32) : Bool × Nat × Bool := if (tmF so 20 0 l).1 = true then syF so 20 (tmF so 20 0 l).2.1 false (tmF so 20 0 l).2.2.1 (tmF so 20 0 l).2.2.2 else (false, (tmF so 20 0 l).2.1, false)
theorem sayF_c {so : Int32 → Bool} {l : List Int32} (hl : l.length < 20) : ((sayF so l).1 = true → cf 1 false 0 l = -1) ∧ ((sayF so l).1 = false → cf 1 false 0 l = ((sayF so l).2.1 : Int)) := by
  obtain ⟨a1_, a2⟩ := tmF_c (so := so) 20 0 l 0 false hl (Or.inl rfl)
  by_cases ga : (tmF so 20 0 l).1 = true
  · have e_ : sayF so l = syF so 20 (tmF so 20 0 l).2.1 false (tmF so 20 0 l).2.2.1 (tmF so 20 0 l).2.2.2 := if_pos ga
    obtain ⟨b1, b2, b3, b4⟩ := a1_ ga
    rw [e_, b1]
    exact syF_c 20 _ _ _ _ (by omega) (by omega) b2
  · have e_ : sayF so l = (false, (tmF so 20 0 l).2.1, false) := if_neg ga
    rw [e_]
    exact ⟨(fun q_ => by cases q_), fun _ => a2 (by cases q_ : (tmF so 20 0 l).1 with
      | true => exact absurd q_ ga
      | false => rfl)⟩
-- xfoE: 6 steps, 1 ends, 0 returns
def xfoE_L : List (Nat × Nat × Nat) := [(1000, 6, 2), (1001, 20, 12)]
def xfoE_O : yO := []
def xfoE_A : yA := (yZ xfoE_L, [], [], [], [])
def xfoE_C : List xB := []
def xfoE_ss : List yS := [(7, [(4, .int 0), (3, .int 0), (2, .int 1), (0, .index 152), (1, .index 1000)], [], [], [], [])]
def xfoE_rs : List yR := []
theorem xfoE_w : ywa xfoE_A xfoE_ss xfoE_rs = true := by decide +kernel
theorem xfoE_k : yis (yev xfoE_A 3000 60 5 [7] (0, [(0, .index 152), (1, .index 1000)], [], xfoE_O, xfoE_C, [])) xfoE_ss xfoE_rs = true := by decide +kernel
def xfoE_r (k_ : Nat) : Value := .int 0
def xfoE_s (a1000 a1001 : Nat) (n_ : Nat) : Nat := bif Nat.beq n_ 1000 then a1000 else (bif Nat.beq n_ 1001 then a1001 else (0))
theorem xfoE {h_ : xH} {a1000 a1001 : Nat} (hs : sHp h_) (k1000 : bcq h_ a1000 6 2) (k1001 : bcq h_ a1001 20 12) : ∃ h', ysm h_ h' ∧ (((∀ a_ j_ : Nat, bpat h' a_ j_ = bpat h_ a_ j_) ∧ (bldD 60 5 0 [(0, .index 152), (1, .index a1000)] [] h_ 7 [(4, .int (0 : Int32)), (3, .int (0 : Int32)), (2, .int (1 : Int32)), (0, .index 152), (1, .index a1000)] [] h'))) := by
  have hA : yas xfoE_A xfoE_r (yg (xfoE_s a1000 a1001)) := ⟨fun q_ hq => absurd hq List.not_mem_nil, fun q_ hq => absurd hq List.not_mem_nil, fun q_ hq => absurd hq List.not_mem_nil, fun n_ hn => yg_lo hn, fun q_ hq => absurd hq List.not_mem_nil⟩
  have Hs : ysh xfoE_A.1 (yg (xfoE_s a1000 a1001)) h_ := ysh_of2 hs (List.forall_mem_cons.mpr ⟨⟨by decide, k1000⟩, List.forall_mem_cons.mpr ⟨⟨by decide, k1001⟩, fun q_ hq => absurd hq List.not_mem_nil⟩⟩)
  have Ho : ymem xfoE_r (yg (xfoE_s a1000 a1001)) xfoE_O h_ := fun q_ hq => absurd hq List.not_mem_nil
  have HC : ∀ q_ ∈ xfoE_C, xhold xfoE_r q_ := fun q_ hq => absurd hq List.not_mem_nil
  rcases yrun (yis_ok xfoE_k) hA Hs Ho HC with ⟨q_, hq, h', K_, G_⟩ | ⟨q_, hq, h', K_, G_⟩
  · have e_ := List.mem_singleton.mp hq
    subst e_
    exact ⟨h', yfr_sm K_.2.2.2 hs K_.1 (ywa_s xfoE_w List.mem_cons_self), ⟨fun a_ j_ => yfr_bp K_.2.2.2 (fun q_ hq => absurd hq List.not_mem_nil), G_⟩⟩
  · cases hq
-- xfoX0A: 9 steps, 0 ends, 1 returns
def xfoX0A_L : List (Nat × Nat × Nat) := [(1000, 6, 2), (1001, 20, 12)]
def xfoX0A_O : yO := [(1000, .int 1, .arg 300)]
def xfoX0A_A : yA := (yZ xfoX0A_L, [], [], [], [])
def xfoX0A_C : List xB := [(.eq, .arg 2, .int 0, true), (.lt, .arg 4, .arg 300, false)]
def xfoX0A_ss : List yS := []
def xfoX0A_rs : List yR := [(some (.int (Int32.ofInt (-1))), [(1000, .int 1, .arg 300)], [(.eq, .arg 2, .int 0, true), (.lt, .arg 4, .arg 300, false)], [])]
theorem xfoX0A_w : ywa xfoX0A_A xfoX0A_ss xfoX0A_rs = true := by decide +kernel
theorem xfoX0A_k : yis (yev xfoX0A_A 3000 60 5 [] (7, [(4, .arg 4), (3, .arg 3), (2, .arg 2), (0, .index 152), (1, .index 1000)], [], xfoX0A_O, xfoX0A_C, [])) xfoX0A_ss xfoX0A_rs = true := by decide +kernel
def xfoX0A_r (v2 v3 v4_ v300 : Int32) (k_ : Nat) : Value := bif Nat.beq k_ 2 then .int v2 else (bif Nat.beq k_ 3 then .int v3 else (bif Nat.beq k_ 4 then .int v4_ else (bif Nat.beq k_ 300 then .int v300 else (.int 0))))
def xfoX0A_s (a1000 a1001 : Nat) (n_ : Nat) : Nat := bif Nat.beq n_ 1000 then a1000 else (bif Nat.beq n_ 1001 then a1001 else (0))
theorem xfoX0A {h_ : xH} {a1000 a1001 : Nat} {v2 v3 v4_ v300 : Int32} (hs : sHp h_) (k1000 : bcq h_ a1000 6 2) (k1001 : bcq h_ a1001 20 12) (o0_ : bpat h_ a1000 1 = some (.int v300)) (c0_ : v2 = (0 : Int32)) (c1_ : v300.toInt ≤ v4_.toInt) : ∃ h', ysm h_ h' ∧ (((∀ a_ j_ : Nat, bpat h' a_ j_ = bpat h_ a_ j_) ∧ (∀ D_, 60 ≤ D_ → xrun D_ 5 7 [(4, .int v4_), (3, .int v3), (2, .int v2), (0, .index 152), (1, .index a1000)] [] h_ (some (.int (Int32.ofInt (-1))), h', [])))) := by
  have hA : yas xfoX0A_A (xfoX0A_r v2 v3 v4_ v300) (yg (xfoX0A_s a1000 a1001)) := ⟨fun q_ hq => absurd hq List.not_mem_nil, fun q_ hq => absurd hq List.not_mem_nil, fun q_ hq => absurd hq List.not_mem_nil, fun n_ hn => yg_lo hn, fun q_ hq => absurd hq List.not_mem_nil⟩
  have Hs : ysh xfoX0A_A.1 (yg (xfoX0A_s a1000 a1001)) h_ := ysh_of2 hs (List.forall_mem_cons.mpr ⟨⟨by decide, k1000⟩, List.forall_mem_cons.mpr ⟨⟨by decide, k1001⟩, fun q_ hq => absurd hq List.not_mem_nil⟩⟩)
  have Ho : ymem (xfoX0A_r v2 v3 v4_ v300) (yg (xfoX0A_s a1000 a1001)) xfoX0A_O h_ := List.forall_mem_cons.mpr ⟨bpat_some o0_, fun q_ hq => absurd hq List.not_mem_nil⟩
  have HC : ∀ q_ ∈ xfoX0A_C, xhold (xfoX0A_r v2 v3 v4_ v300) q_ := List.forall_mem_cons.mpr ⟨xh_eqT2 c0_, List.forall_mem_cons.mpr ⟨xh_ltF c1_, fun q_ hq => absurd hq List.not_mem_nil⟩⟩
  rcases yrun (yis_ok xfoX0A_k) hA Hs Ho HC with ⟨q_, hq, h', K_, G_⟩ | ⟨q_, hq, h', K_, G_⟩
  · cases hq
  · have e_ := List.mem_singleton.mp hq
    subst e_
    exact ⟨h', yfr_sm K_.2.2.2 hs K_.1 (ywa_r xfoX0A_w List.mem_cons_self), ⟨fun a_ j_ => yfr_bp K_.2.2.2 (fun q_ hq => absurd hq List.not_mem_nil), G_⟩⟩
-- xfoX1A: 9 steps, 0 ends, 1 returns
def xfoX1A_L : List (Nat × Nat × Nat) := [(1000, 6, 2), (1001, 20, 12)]
def xfoX1A_O : yO := [(1000, .int 1, .arg 300)]
def xfoX1A_A : yA := (yZ xfoX1A_L, [], [], [], [])
def xfoX1A_C : List xB := [(.eq, .arg 2, .int 0, false), (.lt, .arg 4, .arg 300, false)]
def xfoX1A_ss : List yS := []
def xfoX1A_rs : List yR := [(some (.arg 300), [(1000, .int 1, .arg 300)], [(.eq, .arg 2, .int 0, false), (.lt, .arg 4, .arg 300, false)], [])]
theorem xfoX1A_w : ywa xfoX1A_A xfoX1A_ss xfoX1A_rs = true := by decide +kernel
theorem xfoX1A_k : yis (yev xfoX1A_A 3000 60 5 [] (7, [(4, .arg 4), (3, .arg 3), (2, .arg 2), (0, .index 152), (1, .index 1000)], [], xfoX1A_O, xfoX1A_C, [])) xfoX1A_ss xfoX1A_rs = true := by decide +kernel
def xfoX1A_r (v2 v3 v4_ v300 : Int32) (k_ : Nat) : Value := bif Nat.beq k_ 2 then .int v2 else (bif Nat.beq k_ 3 then .int v3 else (bif Nat.beq k_ 4 then .int v4_ else (bif Nat.beq k_ 300 then .int v300 else (.int 0))))
def xfoX1A_s (a1000 a1001 : Nat) (n_ : Nat) : Nat := bif Nat.beq n_ 1000 then a1000 else (bif Nat.beq n_ 1001 then a1001 else (0))
theorem xfoX1A {h_ : xH} {a1000 a1001 : Nat} {v2 v3 v4_ v300 : Int32} (hs : sHp h_) (k1000 : bcq h_ a1000 6 2) (k1001 : bcq h_ a1001 20 12) (o0_ : bpat h_ a1000 1 = some (.int v300)) (c0_ : ¬ v2 = (0 : Int32)) (c1_ : v300.toInt ≤ v4_.toInt) : ∃ h', ysm h_ h' ∧ (((∀ a_ j_ : Nat, bpat h' a_ j_ = bpat h_ a_ j_) ∧ (∀ D_, 60 ≤ D_ → xrun D_ 5 7 [(4, .int v4_), (3, .int v3), (2, .int v2), (0, .index 152), (1, .index a1000)] [] h_ (some (.int v300), h', [])))) := by
  have hA : yas xfoX1A_A (xfoX1A_r v2 v3 v4_ v300) (yg (xfoX1A_s a1000 a1001)) := ⟨fun q_ hq => absurd hq List.not_mem_nil, fun q_ hq => absurd hq List.not_mem_nil, fun q_ hq => absurd hq List.not_mem_nil, fun n_ hn => yg_lo hn, fun q_ hq => absurd hq List.not_mem_nil⟩
  have Hs : ysh xfoX1A_A.1 (yg (xfoX1A_s a1000 a1001)) h_ := ysh_of2 hs (List.forall_mem_cons.mpr ⟨⟨by decide, k1000⟩, List.forall_mem_cons.mpr ⟨⟨by decide, k1001⟩, fun q_ hq => absurd hq List.not_mem_nil⟩⟩)
  have Ho : ymem (xfoX1A_r v2 v3 v4_ v300) (yg (xfoX1A_s a1000 a1001)) xfoX1A_O h_ := List.forall_mem_cons.mpr ⟨bpat_some o0_, fun q_ hq => absurd hq List.not_mem_nil⟩
  have HC : ∀ q_ ∈ xfoX1A_C, xhold (xfoX1A_r v2 v3 v4_ v300) q_ := List.forall_mem_cons.mpr ⟨xh_eqF2 c0_, List.forall_mem_cons.mpr ⟨xh_ltF c1_, fun q_ hq => absurd hq List.not_mem_nil⟩⟩
  rcases yrun (yis_ok xfoX1A_k) hA Hs Ho HC with ⟨q_, hq, h', K_, G_⟩ | ⟨q_, hq, h', K_, G_⟩
  · cases hq
  · have e_ := List.mem_singleton.mp hq
    subst e_
    exact ⟨h', yfr_sm K_.2.2.2 hs K_.1 (ywa_r xfoX1A_w List.mem_cons_self), ⟨fun a_ j_ => yfr_bp K_.2.2.2 (fun q_ hq => absurd hq List.not_mem_nil), G_⟩⟩
-- xfoN1A: 59 steps, 1 ends, 0 returns
def xfoN1A_L : List (Nat × Nat × Nat) := [(1000, 6, 2), (1001, 20, 12)]
def xfoN1A_O : yO := [(1000, .int 1, .arg 300), (1000, .int 0, .index 1001), (1001, .arg 4, .arg 301)]
def xfoN1A_A : yA := (yZ xfoN1A_L, [(.arg 4, 12)], [], [], [])
def xfoN1A_C : List xB := [(.le, .arg 301, .int 99, true), (.lt, .arg 301, .int 60, false), (.eq, .arg 301, .int 51, false), (.eq, .arg 301, .int 50, false), (.eq, .arg 301, .int 52, false), (.lt, .arg 301, .int 50, false), (.lt, .arg 4, .arg 300, true)]
def xfoN1A_ss : List yS := [(7, [(4, .add (.arg 4) (.int 1)), (3, .int 1), (7, .int 1), (6, .int 0), (5, .arg 301), (2, .arg 2), (0, .index 152), (1, .index 1000)], [], [(1000, .int 1, .arg 300), (1000, .int 0, .index 1001), (1001, .arg 4, .arg 301)], [(.le, .arg 301, .int 99, true), (.lt, .arg 301, .int 60, false), (.eq, .arg 301, .int 51, false), (.eq, .arg 301, .int 50, false), (.eq, .arg 301, .int 52, false), (.lt, .arg 301, .int 50, false), (.lt, .arg 4, .arg 300, true)], [])]
def xfoN1A_rs : List yR := []
theorem xfoN1A_w : ywa xfoN1A_A xfoN1A_ss xfoN1A_rs = true := by decide +kernel
theorem xfoN1A_k : yis (yev xfoN1A_A 3000 60 5 [7] (7, [(4, .arg 4), (3, .int 1), (2, .arg 2), (0, .index 152), (1, .index 1000)], [], xfoN1A_O, xfoN1A_C, [])) xfoN1A_ss xfoN1A_rs = true := by decide +kernel
def xfoN1A_r (v2 v4_ v300 v301 : Int32) (k_ : Nat) : Value := bif Nat.beq k_ 2 then .int v2 else (bif Nat.beq k_ 4 then .int v4_ else (bif Nat.beq k_ 300 then .int v300 else (bif Nat.beq k_ 301 then .int v301 else (.int 0))))
def xfoN1A_s (a1000 a1001 : Nat) (n_ : Nat) : Nat := bif Nat.beq n_ 1000 then a1000 else (bif Nat.beq n_ 1001 then a1001 else (0))
theorem xfoN1A {h_ : xH} {a1000 a1001 : Nat} {v2 v4_ v300 v301 : Int32} (hs : sHp h_) (k1000 : bcq h_ a1000 6 2) (k1001 : bcq h_ a1001 20 12) (o0_ : bpat h_ a1000 1 = some (.int v300)) (o1 : bpat h_ a1000 0 = some (.index a1001)) (o2 : bpat h_ a1001 (v4_).toInt.toNat = some (.int v301)) (b0 : 0 ≤ (v4_).toInt ∧ (v4_).toInt < 12) (c0_ : v301.toInt ≤ (99 : Int32).toInt) (c1_ : (60 : Int32).toInt ≤ v301.toInt) (c2_ : ¬ v301 = (51 : Int32)) (c3_ : ¬ v301 = (50 : Int32)) (c4_ : ¬ v301 = (52 : Int32)) (c5_ : (50 : Int32).toInt ≤ v301.toInt) (c6_ : v4_.toInt < v300.toInt) : ∃ h', ysm h_ h' ∧ (((∀ a_ j_ : Nat, bpat h' a_ j_ = bpat h_ a_ j_) ∧ (bldD 60 5 7 [(4, .int v4_), (3, .int (1 : Int32)), (2, .int v2), (0, .index 152), (1, .index a1000)] [] h_ 7 [(4, .int (v4_ + (1 : Int32))), (3, .int (1 : Int32)), (7, .int (1 : Int32)), (6, .int (0 : Int32)), (5, .int v301), (2, .int v2), (0, .index 152), (1, .index a1000)] [] h'))) := by
  have hA : yas xfoN1A_A (xfoN1A_r v2 v4_ v300 v301) (yg (xfoN1A_s a1000 a1001)) := ⟨List.forall_mem_cons.mpr ⟨b0, fun q_ hq => absurd hq List.not_mem_nil⟩, fun q_ hq => absurd hq List.not_mem_nil, fun q_ hq => absurd hq List.not_mem_nil, fun n_ hn => yg_lo hn, fun q_ hq => absurd hq List.not_mem_nil⟩
  have Hs : ysh xfoN1A_A.1 (yg (xfoN1A_s a1000 a1001)) h_ := ysh_of2 hs (List.forall_mem_cons.mpr ⟨⟨by decide, k1000⟩, List.forall_mem_cons.mpr ⟨⟨by decide, k1001⟩, fun q_ hq => absurd hq List.not_mem_nil⟩⟩)
  have Ho : ymem (xfoN1A_r v2 v4_ v300 v301) (yg (xfoN1A_s a1000 a1001)) xfoN1A_O h_ := List.forall_mem_cons.mpr ⟨bpat_some o0_, List.forall_mem_cons.mpr ⟨bpat_some o1, List.forall_mem_cons.mpr ⟨bpat_some o2, fun q_ hq => absurd hq List.not_mem_nil⟩⟩⟩
  have HC : ∀ q_ ∈ xfoN1A_C, xhold (xfoN1A_r v2 v4_ v300 v301) q_ := List.forall_mem_cons.mpr ⟨xh_leT c0_, List.forall_mem_cons.mpr ⟨xh_ltF c1_, List.forall_mem_cons.mpr ⟨xh_eqF2 c2_, List.forall_mem_cons.mpr ⟨xh_eqF2 c3_, List.forall_mem_cons.mpr ⟨xh_eqF2 c4_, List.forall_mem_cons.mpr ⟨xh_ltF c5_, List.forall_mem_cons.mpr ⟨xh_ltT c6_, fun q_ hq => absurd hq List.not_mem_nil⟩⟩⟩⟩⟩⟩⟩
  rcases yrun (yis_ok xfoN1A_k) hA Hs Ho HC with ⟨q_, hq, h', K_, G_⟩ | ⟨q_, hq, h', K_, G_⟩
  · have e_ := List.mem_singleton.mp hq
    subst e_
    exact ⟨h', yfr_sm K_.2.2.2 hs K_.1 (ywa_s xfoN1A_w List.mem_cons_self), ⟨fun a_ j_ => yfr_bp K_.2.2.2 (fun q_ hq => absurd hq List.not_mem_nil), G_⟩⟩
  · cases hq
-- xfoN0A: 36 steps, 0 ends, 1 returns
def xfoN0A_L : List (Nat × Nat × Nat) := [(1000, 6, 2), (1001, 20, 12)]
def xfoN0A_O : yO := [(1000, .int 1, .arg 300), (1000, .int 0, .index 1001), (1001, .arg 4, .arg 301)]
def xfoN0A_A : yA := (yZ xfoN0A_L, [(.arg 4, 12)], [], [], [])
def xfoN0A_C : List xB := [(.le, .arg 301, .int 99, true), (.lt, .arg 301, .int 60, false), (.eq, .arg 301, .int 51, false), (.eq, .arg 301, .int 50, false), (.lt, .arg 4, .arg 300, true)]
def xfoN0A_ss : List yS := []
def xfoN0A_rs : List yR := [(some (.arg 4), [(1000, .int 1, .arg 300), (1000, .int 0, .index 1001), (1001, .arg 4, .arg 301)], [(.le, .arg 301, .int 99, true), (.lt, .arg 301, .int 60, false), (.eq, .arg 301, .int 51, false), (.eq, .arg 301, .int 50, false), (.lt, .arg 4, .arg 300, true)], [])]
theorem xfoN0A_w : ywa xfoN0A_A xfoN0A_ss xfoN0A_rs = true := by decide +kernel
theorem xfoN0A_k : yis (yev xfoN0A_A 3000 60 5 [7] (7, [(4, .arg 4), (3, .int 0), (2, .arg 2), (0, .index 152), (1, .index 1000)], [], xfoN0A_O, xfoN0A_C, [])) xfoN0A_ss xfoN0A_rs = true := by decide +kernel
def xfoN0A_r (v2 v4_ v300 v301 : Int32) (k_ : Nat) : Value := bif Nat.beq k_ 2 then .int v2 else (bif Nat.beq k_ 4 then .int v4_ else (bif Nat.beq k_ 300 then .int v300 else (bif Nat.beq k_ 301 then .int v301 else (.int 0))))
def xfoN0A_s (a1000 a1001 : Nat) (n_ : Nat) : Nat := bif Nat.beq n_ 1000 then a1000 else (bif Nat.beq n_ 1001 then a1001 else (0))
theorem xfoN0A {h_ : xH} {a1000 a1001 : Nat} {v2 v4_ v300 v301 : Int32} (hs : sHp h_) (k1000 : bcq h_ a1000 6 2) (k1001 : bcq h_ a1001 20 12) (o0_ : bpat h_ a1000 1 = some (.int v300)) (o1 : bpat h_ a1000 0 = some (.index a1001)) (o2 : bpat h_ a1001 (v4_).toInt.toNat = some (.int v301)) (b0 : 0 ≤ (v4_).toInt ∧ (v4_).toInt < 12) (c0_ : v301.toInt ≤ (99 : Int32).toInt) (c1_ : (60 : Int32).toInt ≤ v301.toInt) (c2_ : ¬ v301 = (51 : Int32)) (c3_ : ¬ v301 = (50 : Int32)) (c4_ : v4_.toInt < v300.toInt) : ∃ h', ysm h_ h' ∧ (((∀ a_ j_ : Nat, bpat h' a_ j_ = bpat h_ a_ j_) ∧ (∀ D_, 60 ≤ D_ → xrun D_ 5 7 [(4, .int v4_), (3, .int (0 : Int32)), (2, .int v2), (0, .index 152), (1, .index a1000)] [] h_ (some (.int v4_), h', [])))) := by
  have hA : yas xfoN0A_A (xfoN0A_r v2 v4_ v300 v301) (yg (xfoN0A_s a1000 a1001)) := ⟨List.forall_mem_cons.mpr ⟨b0, fun q_ hq => absurd hq List.not_mem_nil⟩, fun q_ hq => absurd hq List.not_mem_nil, fun q_ hq => absurd hq List.not_mem_nil, fun n_ hn => yg_lo hn, fun q_ hq => absurd hq List.not_mem_nil⟩
  have Hs : ysh xfoN0A_A.1 (yg (xfoN0A_s a1000 a1001)) h_ := ysh_of2 hs (List.forall_mem_cons.mpr ⟨⟨by decide, k1000⟩, List.forall_mem_cons.mpr ⟨⟨by decide, k1001⟩, fun q_ hq => absurd hq List.not_mem_nil⟩⟩)
  have Ho : ymem (xfoN0A_r v2 v4_ v300 v301) (yg (xfoN0A_s a1000 a1001)) xfoN0A_O h_ := List.forall_mem_cons.mpr ⟨bpat_some o0_, List.forall_mem_cons.mpr ⟨bpat_some o1, List.forall_mem_cons.mpr ⟨bpat_some o2, fun q_ hq => absurd hq List.not_mem_nil⟩⟩⟩
  have HC : ∀ q_ ∈ xfoN0A_C, xhold (xfoN0A_r v2 v4_ v300 v301) q_ := List.forall_mem_cons.mpr ⟨xh_leT c0_, List.forall_mem_cons.mpr ⟨xh_ltF c1_, List.forall_mem_cons.mpr ⟨xh_eqF2 c2_, List.forall_mem_cons.mpr ⟨xh_eqF2 c3_, List.forall_mem_cons.mpr ⟨xh_ltT c4_, fun q_ hq => absurd hq List.not_mem_nil⟩⟩⟩⟩⟩
  rcases yrun (yis_ok xfoN0A_k) hA Hs Ho HC with ⟨q_, hq, h', K_, G_⟩ | ⟨q_, hq, h', K_, G_⟩
  · cases hq
  · have e_ := List.mem_singleton.mp hq
    subst e_
    exact ⟨h', yfr_sm K_.2.2.2 hs K_.1 (ywa_r xfoN0A_w List.mem_cons_self), ⟨fun a_ j_ => yfr_bp K_.2.2.2 (fun q_ hq => absurd hq List.not_mem_nil), G_⟩⟩
-- xfo500A: 56 steps, 1 ends, 0 returns
def xfo500A_L : List (Nat × Nat × Nat) := [(1000, 6, 2), (1001, 20, 12)]
def xfo500A_O : yO := [(1000, .int 1, .arg 300), (1000, .int 0, .index 1001), (1001, .arg 4, .int 50)]
def xfo500A_A : yA := (yZ xfo500A_L, [(.arg 4, 12)], [], [], [])
def xfo500A_C : List xB := [(.eq, .arg 2, .int 0, true), (.lt, .arg 4, .arg 300, true)]
def xfo500A_ss : List yS := [(7, [(4, .add (.arg 4) (.int 1)), (3, .int 0), (2, .add (.arg 2) (.int 1)), (7, .int 1), (6, .int 1), (5, .int 50), (0, .index 152), (1, .index 1000)], [], [(1000, .int 1, .arg 300), (1000, .int 0, .index 1001), (1001, .arg 4, .int 50)], [(.eq, .arg 2, .int 0, true), (.lt, .arg 4, .arg 300, true)], [])]
def xfo500A_rs : List yR := []
theorem xfo500A_w : ywa xfo500A_A xfo500A_ss xfo500A_rs = true := by decide +kernel
theorem xfo500A_k : yis (yev xfo500A_A 3000 60 5 [7] (7, [(4, .arg 4), (3, .arg 3), (2, .arg 2), (0, .index 152), (1, .index 1000)], [], xfo500A_O, xfo500A_C, [])) xfo500A_ss xfo500A_rs = true := by decide +kernel
def xfo500A_r (v2 v3 v4_ v300 : Int32) (k_ : Nat) : Value := bif Nat.beq k_ 2 then .int v2 else (bif Nat.beq k_ 3 then .int v3 else (bif Nat.beq k_ 4 then .int v4_ else (bif Nat.beq k_ 300 then .int v300 else (.int 0))))
def xfo500A_s (a1000 a1001 : Nat) (n_ : Nat) : Nat := bif Nat.beq n_ 1000 then a1000 else (bif Nat.beq n_ 1001 then a1001 else (0))
theorem xfo500A {h_ : xH} {a1000 a1001 : Nat} {v2 v3 v4_ v300 : Int32} (hs : sHp h_) (k1000 : bcq h_ a1000 6 2) (k1001 : bcq h_ a1001 20 12) (o0_ : bpat h_ a1000 1 = some (.int v300)) (o1 : bpat h_ a1000 0 = some (.index a1001)) (o2 : bpat h_ a1001 (v4_).toInt.toNat = some (.int (50 : Int32))) (b0 : 0 ≤ (v4_).toInt ∧ (v4_).toInt < 12) (c0_ : v2 = (0 : Int32)) (c1_ : v4_.toInt < v300.toInt) : ∃ h', ysm h_ h' ∧ (((∀ a_ j_ : Nat, bpat h' a_ j_ = bpat h_ a_ j_) ∧ (bldD 60 5 7 [(4, .int v4_), (3, .int v3), (2, .int v2), (0, .index 152), (1, .index a1000)] [] h_ 7 [(4, .int (v4_ + (1 : Int32))), (3, .int (0 : Int32)), (2, .int (v2 + (1 : Int32))), (7, .int (1 : Int32)), (6, .int (1 : Int32)), (5, .int (50 : Int32)), (0, .index 152), (1, .index a1000)] [] h'))) := by
  have hA : yas xfo500A_A (xfo500A_r v2 v3 v4_ v300) (yg (xfo500A_s a1000 a1001)) := ⟨List.forall_mem_cons.mpr ⟨b0, fun q_ hq => absurd hq List.not_mem_nil⟩, fun q_ hq => absurd hq List.not_mem_nil, fun q_ hq => absurd hq List.not_mem_nil, fun n_ hn => yg_lo hn, fun q_ hq => absurd hq List.not_mem_nil⟩
  have Hs : ysh xfo500A_A.1 (yg (xfo500A_s a1000 a1001)) h_ := ysh_of2 hs (List.forall_mem_cons.mpr ⟨⟨by decide, k1000⟩, List.forall_mem_cons.mpr ⟨⟨by decide, k1001⟩, fun q_ hq => absurd hq List.not_mem_nil⟩⟩)
  have Ho : ymem (xfo500A_r v2 v3 v4_ v300) (yg (xfo500A_s a1000 a1001)) xfo500A_O h_ := List.forall_mem_cons.mpr ⟨bpat_some o0_, List.forall_mem_cons.mpr ⟨bpat_some o1, List.forall_mem_cons.mpr ⟨bpat_some o2, fun q_ hq => absurd hq List.not_mem_nil⟩⟩⟩
  have HC : ∀ q_ ∈ xfo500A_C, xhold (xfo500A_r v2 v3 v4_ v300) q_ := List.forall_mem_cons.mpr ⟨xh_eqT2 c0_, List.forall_mem_cons.mpr ⟨xh_ltT c1_, fun q_ hq => absurd hq List.not_mem_nil⟩⟩
  rcases yrun (yis_ok xfo500A_k) hA Hs Ho HC with ⟨q_, hq, h', K_, G_⟩ | ⟨q_, hq, h', K_, G_⟩
  · have e_ := List.mem_singleton.mp hq
    subst e_
    exact ⟨h', yfr_sm K_.2.2.2 hs K_.1 (ywa_s xfo500A_w List.mem_cons_self), ⟨fun a_ j_ => yfr_bp K_.2.2.2 (fun q_ hq => absurd hq List.not_mem_nil), G_⟩⟩
  · cases hq
-- xfo501A: 34 steps, 0 ends, 1 returns
def xfo501A_L : List (Nat × Nat × Nat) := [(1000, 6, 2), (1001, 20, 12)]
def xfo501A_O : yO := [(1000, .int 1, .arg 300), (1000, .int 0, .index 1001), (1001, .arg 4, .int 50)]
def xfo501A_A : yA := (yZ xfo501A_L, [(.arg 4, 12)], [], [], [])
def xfo501A_C : List xB := [(.eq, .arg 2, .int 0, false), (.lt, .arg 4, .arg 300, true)]
def xfo501A_ss : List yS := []
def xfo501A_rs : List yR := [(some (.arg 4), [(1000, .int 1, .arg 300), (1000, .int 0, .index 1001), (1001, .arg 4, .int 50)], [(.eq, .arg 2, .int 0, false), (.lt, .arg 4, .arg 300, true)], [])]
theorem xfo501A_w : ywa xfo501A_A xfo501A_ss xfo501A_rs = true := by decide +kernel
theorem xfo501A_k : yis (yev xfo501A_A 3000 60 5 [7] (7, [(4, .arg 4), (3, .arg 3), (2, .arg 2), (0, .index 152), (1, .index 1000)], [], xfo501A_O, xfo501A_C, [])) xfo501A_ss xfo501A_rs = true := by decide +kernel
def xfo501A_r (v2 v3 v4_ v300 : Int32) (k_ : Nat) : Value := bif Nat.beq k_ 2 then .int v2 else (bif Nat.beq k_ 3 then .int v3 else (bif Nat.beq k_ 4 then .int v4_ else (bif Nat.beq k_ 300 then .int v300 else (.int 0))))
def xfo501A_s (a1000 a1001 : Nat) (n_ : Nat) : Nat := bif Nat.beq n_ 1000 then a1000 else (bif Nat.beq n_ 1001 then a1001 else (0))
theorem xfo501A {h_ : xH} {a1000 a1001 : Nat} {v2 v3 v4_ v300 : Int32} (hs : sHp h_) (k1000 : bcq h_ a1000 6 2) (k1001 : bcq h_ a1001 20 12) (o0_ : bpat h_ a1000 1 = some (.int v300)) (o1 : bpat h_ a1000 0 = some (.index a1001)) (o2 : bpat h_ a1001 (v4_).toInt.toNat = some (.int (50 : Int32))) (b0 : 0 ≤ (v4_).toInt ∧ (v4_).toInt < 12) (c0_ : ¬ v2 = (0 : Int32)) (c1_ : v4_.toInt < v300.toInt) : ∃ h', ysm h_ h' ∧ (((∀ a_ j_ : Nat, bpat h' a_ j_ = bpat h_ a_ j_) ∧ (∀ D_, 60 ≤ D_ → xrun D_ 5 7 [(4, .int v4_), (3, .int v3), (2, .int v2), (0, .index 152), (1, .index a1000)] [] h_ (some (.int v4_), h', [])))) := by
  have hA : yas xfo501A_A (xfo501A_r v2 v3 v4_ v300) (yg (xfo501A_s a1000 a1001)) := ⟨List.forall_mem_cons.mpr ⟨b0, fun q_ hq => absurd hq List.not_mem_nil⟩, fun q_ hq => absurd hq List.not_mem_nil, fun q_ hq => absurd hq List.not_mem_nil, fun n_ hn => yg_lo hn, fun q_ hq => absurd hq List.not_mem_nil⟩
  have Hs : ysh xfo501A_A.1 (yg (xfo501A_s a1000 a1001)) h_ := ysh_of2 hs (List.forall_mem_cons.mpr ⟨⟨by decide, k1000⟩, List.forall_mem_cons.mpr ⟨⟨by decide, k1001⟩, fun q_ hq => absurd hq List.not_mem_nil⟩⟩)
  have Ho : ymem (xfo501A_r v2 v3 v4_ v300) (yg (xfo501A_s a1000 a1001)) xfo501A_O h_ := List.forall_mem_cons.mpr ⟨bpat_some o0_, List.forall_mem_cons.mpr ⟨bpat_some o1, List.forall_mem_cons.mpr ⟨bpat_some o2, fun q_ hq => absurd hq List.not_mem_nil⟩⟩⟩
  have HC : ∀ q_ ∈ xfo501A_C, xhold (xfo501A_r v2 v3 v4_ v300) q_ := List.forall_mem_cons.mpr ⟨xh_eqF2 c0_, List.forall_mem_cons.mpr ⟨xh_ltT c1_, fun q_ hq => absurd hq List.not_mem_nil⟩⟩
  rcases yrun (yis_ok xfo501A_k) hA Hs Ho HC with ⟨q_, hq, h', K_, G_⟩ | ⟨q_, hq, h', K_, G_⟩
  · cases hq
  · have e_ := List.mem_singleton.mp hq
    subst e_
    exact ⟨h', yfr_sm K_.2.2.2 hs K_.1 (ywa_r xfo501A_w List.mem_cons_self), ⟨fun a_ j_ => yfr_bp K_.2.2.2 (fun q_ hq => absurd hq List.not_mem_nil), G_⟩⟩
-- xfo510A: 59 steps, 1 ends, 0 returns
def xfo510A_L : List (Nat × Nat × Nat) := [(1000, 6, 2), (1001, 20, 12)]
def xfo510A_O : yO := [(1000, .int 1, .arg 300), (1000, .int 0, .index 1001), (1001, .arg 4, .int 51)]
def xfo510A_A : yA := (yZ xfo510A_L, [(.arg 4, 12)], [], [], [])
def xfo510A_C : List xB := [(.eq, .arg 2, .int 0, true), (.lt, .arg 4, .arg 300, true)]
def xfo510A_ss : List yS := [(7, [(4, .add (.arg 4) (.int 1)), (3, .int 0), (2, .add (.arg 2) (.int 1)), (7, .int 1), (6, .int 1), (5, .int 51), (0, .index 152), (1, .index 1000)], [], [(1000, .int 1, .arg 300), (1000, .int 0, .index 1001), (1001, .arg 4, .int 51)], [(.eq, .arg 2, .int 0, true), (.lt, .arg 4, .arg 300, true)], [])]
def xfo510A_rs : List yR := []
theorem xfo510A_w : ywa xfo510A_A xfo510A_ss xfo510A_rs = true := by decide +kernel
theorem xfo510A_k : yis (yev xfo510A_A 3000 60 5 [7] (7, [(4, .arg 4), (3, .arg 3), (2, .arg 2), (0, .index 152), (1, .index 1000)], [], xfo510A_O, xfo510A_C, [])) xfo510A_ss xfo510A_rs = true := by decide +kernel
def xfo510A_r (v2 v3 v4_ v300 : Int32) (k_ : Nat) : Value := bif Nat.beq k_ 2 then .int v2 else (bif Nat.beq k_ 3 then .int v3 else (bif Nat.beq k_ 4 then .int v4_ else (bif Nat.beq k_ 300 then .int v300 else (.int 0))))
def xfo510A_s (a1000 a1001 : Nat) (n_ : Nat) : Nat := bif Nat.beq n_ 1000 then a1000 else (bif Nat.beq n_ 1001 then a1001 else (0))
theorem xfo510A {h_ : xH} {a1000 a1001 : Nat} {v2 v3 v4_ v300 : Int32} (hs : sHp h_) (k1000 : bcq h_ a1000 6 2) (k1001 : bcq h_ a1001 20 12) (o0_ : bpat h_ a1000 1 = some (.int v300)) (o1 : bpat h_ a1000 0 = some (.index a1001)) (o2 : bpat h_ a1001 (v4_).toInt.toNat = some (.int (51 : Int32))) (b0 : 0 ≤ (v4_).toInt ∧ (v4_).toInt < 12) (c0_ : v2 = (0 : Int32)) (c1_ : v4_.toInt < v300.toInt) : ∃ h', ysm h_ h' ∧ (((∀ a_ j_ : Nat, bpat h' a_ j_ = bpat h_ a_ j_) ∧ (bldD 60 5 7 [(4, .int v4_), (3, .int v3), (2, .int v2), (0, .index 152), (1, .index a1000)] [] h_ 7 [(4, .int (v4_ + (1 : Int32))), (3, .int (0 : Int32)), (2, .int (v2 + (1 : Int32))), (7, .int (1 : Int32)), (6, .int (1 : Int32)), (5, .int (51 : Int32)), (0, .index 152), (1, .index a1000)] [] h'))) := by
  have hA : yas xfo510A_A (xfo510A_r v2 v3 v4_ v300) (yg (xfo510A_s a1000 a1001)) := ⟨List.forall_mem_cons.mpr ⟨b0, fun q_ hq => absurd hq List.not_mem_nil⟩, fun q_ hq => absurd hq List.not_mem_nil, fun q_ hq => absurd hq List.not_mem_nil, fun n_ hn => yg_lo hn, fun q_ hq => absurd hq List.not_mem_nil⟩
  have Hs : ysh xfo510A_A.1 (yg (xfo510A_s a1000 a1001)) h_ := ysh_of2 hs (List.forall_mem_cons.mpr ⟨⟨by decide, k1000⟩, List.forall_mem_cons.mpr ⟨⟨by decide, k1001⟩, fun q_ hq => absurd hq List.not_mem_nil⟩⟩)
  have Ho : ymem (xfo510A_r v2 v3 v4_ v300) (yg (xfo510A_s a1000 a1001)) xfo510A_O h_ := List.forall_mem_cons.mpr ⟨bpat_some o0_, List.forall_mem_cons.mpr ⟨bpat_some o1, List.forall_mem_cons.mpr ⟨bpat_some o2, fun q_ hq => absurd hq List.not_mem_nil⟩⟩⟩
  have HC : ∀ q_ ∈ xfo510A_C, xhold (xfo510A_r v2 v3 v4_ v300) q_ := List.forall_mem_cons.mpr ⟨xh_eqT2 c0_, List.forall_mem_cons.mpr ⟨xh_ltT c1_, fun q_ hq => absurd hq List.not_mem_nil⟩⟩
  rcases yrun (yis_ok xfo510A_k) hA Hs Ho HC with ⟨q_, hq, h', K_, G_⟩ | ⟨q_, hq, h', K_, G_⟩
  · have e_ := List.mem_singleton.mp hq
    subst e_
    exact ⟨h', yfr_sm K_.2.2.2 hs K_.1 (ywa_s xfo510A_w List.mem_cons_self), ⟨fun a_ j_ => yfr_bp K_.2.2.2 (fun q_ hq => absurd hq List.not_mem_nil), G_⟩⟩
  · cases hq
-- xfo511A: 37 steps, 0 ends, 1 returns
def xfo511A_L : List (Nat × Nat × Nat) := [(1000, 6, 2), (1001, 20, 12)]
def xfo511A_O : yO := [(1000, .int 1, .arg 300), (1000, .int 0, .index 1001), (1001, .arg 4, .int 51)]
def xfo511A_A : yA := (yZ xfo511A_L, [(.arg 4, 12)], [], [], [])
def xfo511A_C : List xB := [(.eq, .arg 2, .int 0, false), (.lt, .arg 4, .arg 300, true)]
def xfo511A_ss : List yS := []
def xfo511A_rs : List yR := [(some (.arg 4), [(1000, .int 1, .arg 300), (1000, .int 0, .index 1001), (1001, .arg 4, .int 51)], [(.eq, .arg 2, .int 0, false), (.lt, .arg 4, .arg 300, true)], [])]
theorem xfo511A_w : ywa xfo511A_A xfo511A_ss xfo511A_rs = true := by decide +kernel
theorem xfo511A_k : yis (yev xfo511A_A 3000 60 5 [7] (7, [(4, .arg 4), (3, .arg 3), (2, .arg 2), (0, .index 152), (1, .index 1000)], [], xfo511A_O, xfo511A_C, [])) xfo511A_ss xfo511A_rs = true := by decide +kernel
def xfo511A_r (v2 v3 v4_ v300 : Int32) (k_ : Nat) : Value := bif Nat.beq k_ 2 then .int v2 else (bif Nat.beq k_ 3 then .int v3 else (bif Nat.beq k_ 4 then .int v4_ else (bif Nat.beq k_ 300 then .int v300 else (.int 0))))
def xfo511A_s (a1000 a1001 : Nat) (n_ : Nat) : Nat := bif Nat.beq n_ 1000 then a1000 else (bif Nat.beq n_ 1001 then a1001 else (0))
theorem xfo511A {h_ : xH} {a1000 a1001 : Nat} {v2 v3 v4_ v300 : Int32} (hs : sHp h_) (k1000 : bcq h_ a1000 6 2) (k1001 : bcq h_ a1001 20 12) (o0_ : bpat h_ a1000 1 = some (.int v300)) (o1 : bpat h_ a1000 0 = some (.index a1001)) (o2 : bpat h_ a1001 (v4_).toInt.toNat = some (.int (51 : Int32))) (b0 : 0 ≤ (v4_).toInt ∧ (v4_).toInt < 12) (c0_ : ¬ v2 = (0 : Int32)) (c1_ : v4_.toInt < v300.toInt) : ∃ h', ysm h_ h' ∧ (((∀ a_ j_ : Nat, bpat h' a_ j_ = bpat h_ a_ j_) ∧ (∀ D_, 60 ≤ D_ → xrun D_ 5 7 [(4, .int v4_), (3, .int v3), (2, .int v2), (0, .index 152), (1, .index a1000)] [] h_ (some (.int v4_), h', [])))) := by
  have hA : yas xfo511A_A (xfo511A_r v2 v3 v4_ v300) (yg (xfo511A_s a1000 a1001)) := ⟨List.forall_mem_cons.mpr ⟨b0, fun q_ hq => absurd hq List.not_mem_nil⟩, fun q_ hq => absurd hq List.not_mem_nil, fun q_ hq => absurd hq List.not_mem_nil, fun n_ hn => yg_lo hn, fun q_ hq => absurd hq List.not_mem_nil⟩
  have Hs : ysh xfo511A_A.1 (yg (xfo511A_s a1000 a1001)) h_ := ysh_of2 hs (List.forall_mem_cons.mpr ⟨⟨by decide, k1000⟩, List.forall_mem_cons.mpr ⟨⟨by decide, k1001⟩, fun q_ hq => absurd hq List.not_mem_nil⟩⟩)
  have Ho : ymem (xfo511A_r v2 v3 v4_ v300) (yg (xfo511A_s a1000 a1001)) xfo511A_O h_ := List.forall_mem_cons.mpr ⟨bpat_some o0_, List.forall_mem_cons.mpr ⟨bpat_some o1, List.forall_mem_cons.mpr ⟨bpat_some o2, fun q_ hq => absurd hq List.not_mem_nil⟩⟩⟩
  have HC : ∀ q_ ∈ xfo511A_C, xhold (xfo511A_r v2 v3 v4_ v300) q_ := List.forall_mem_cons.mpr ⟨xh_eqF2 c0_, List.forall_mem_cons.mpr ⟨xh_ltT c1_, fun q_ hq => absurd hq List.not_mem_nil⟩⟩
  rcases yrun (yis_ok xfo511A_k) hA Hs Ho HC with ⟨q_, hq, h', K_, G_⟩ | ⟨q_, hq, h', K_, G_⟩
  · cases hq
  · have e_ := List.mem_singleton.mp hq
    subst e_
    exact ⟨h', yfr_sm K_.2.2.2 hs K_.1 (ywa_r xfo511A_w List.mem_cons_self), ⟨fun a_ j_ => yfr_bp K_.2.2.2 (fun q_ hq => absurd hq List.not_mem_nil), G_⟩⟩
-- xfo520A: 37 steps, 0 ends, 1 returns
def xfo520A_L : List (Nat × Nat × Nat) := [(1000, 6, 2), (1001, 20, 12)]
def xfo520A_O : yO := [(1000, .int 1, .arg 300), (1000, .int 0, .index 1001), (1001, .arg 4, .int 52)]
def xfo520A_A : yA := (yZ xfo520A_L, [(.arg 4, 12)], [], [], [])
def xfo520A_C : List xB := [(.eq, .arg 2, .int 0, true), (.lt, .arg 4, .arg 300, true)]
def xfo520A_ss : List yS := []
def xfo520A_rs : List yR := [(some (.arg 4), [(1000, .int 1, .arg 300), (1000, .int 0, .index 1001), (1001, .arg 4, .int 52)], [(.eq, .arg 2, .int 0, true), (.lt, .arg 4, .arg 300, true)], [])]
theorem xfo520A_w : ywa xfo520A_A xfo520A_ss xfo520A_rs = true := by decide +kernel
theorem xfo520A_k : yis (yev xfo520A_A 3000 60 5 [7] (7, [(4, .arg 4), (3, .arg 3), (2, .arg 2), (0, .index 152), (1, .index 1000)], [], xfo520A_O, xfo520A_C, [])) xfo520A_ss xfo520A_rs = true := by decide +kernel
def xfo520A_r (v2 v3 v4_ v300 : Int32) (k_ : Nat) : Value := bif Nat.beq k_ 2 then .int v2 else (bif Nat.beq k_ 3 then .int v3 else (bif Nat.beq k_ 4 then .int v4_ else (bif Nat.beq k_ 300 then .int v300 else (.int 0))))
def xfo520A_s (a1000 a1001 : Nat) (n_ : Nat) : Nat := bif Nat.beq n_ 1000 then a1000 else (bif Nat.beq n_ 1001 then a1001 else (0))
theorem xfo520A {h_ : xH} {a1000 a1001 : Nat} {v2 v3 v4_ v300 : Int32} (hs : sHp h_) (k1000 : bcq h_ a1000 6 2) (k1001 : bcq h_ a1001 20 12) (o0_ : bpat h_ a1000 1 = some (.int v300)) (o1 : bpat h_ a1000 0 = some (.index a1001)) (o2 : bpat h_ a1001 (v4_).toInt.toNat = some (.int (52 : Int32))) (b0 : 0 ≤ (v4_).toInt ∧ (v4_).toInt < 12) (c0_ : v2 = (0 : Int32)) (c1_ : v4_.toInt < v300.toInt) : ∃ h', ysm h_ h' ∧ (((∀ a_ j_ : Nat, bpat h' a_ j_ = bpat h_ a_ j_) ∧ (∀ D_, 60 ≤ D_ → xrun D_ 5 7 [(4, .int v4_), (3, .int v3), (2, .int v2), (0, .index 152), (1, .index a1000)] [] h_ (some (.int v4_), h', [])))) := by
  have hA : yas xfo520A_A (xfo520A_r v2 v3 v4_ v300) (yg (xfo520A_s a1000 a1001)) := ⟨List.forall_mem_cons.mpr ⟨b0, fun q_ hq => absurd hq List.not_mem_nil⟩, fun q_ hq => absurd hq List.not_mem_nil, fun q_ hq => absurd hq List.not_mem_nil, fun n_ hn => yg_lo hn, fun q_ hq => absurd hq List.not_mem_nil⟩
  have Hs : ysh xfo520A_A.1 (yg (xfo520A_s a1000 a1001)) h_ := ysh_of2 hs (List.forall_mem_cons.mpr ⟨⟨by decide, k1000⟩, List.forall_mem_cons.mpr ⟨⟨by decide, k1001⟩, fun q_ hq => absurd hq List.not_mem_nil⟩⟩)
  have Ho : ymem (xfo520A_r v2 v3 v4_ v300) (yg (xfo520A_s a1000 a1001)) xfo520A_O h_ := List.forall_mem_cons.mpr ⟨bpat_some o0_, List.forall_mem_cons.mpr ⟨bpat_some o1, List.forall_mem_cons.mpr ⟨bpat_some o2, fun q_ hq => absurd hq List.not_mem_nil⟩⟩⟩
  have HC : ∀ q_ ∈ xfo520A_C, xhold (xfo520A_r v2 v3 v4_ v300) q_ := List.forall_mem_cons.mpr ⟨xh_eqT2 c0_, List.forall_mem_cons.mpr ⟨xh_ltT c1_, fun q_ hq => absurd hq List.not_mem_nil⟩⟩
  rcases yrun (yis_ok xfo520A_k) hA Hs Ho HC with ⟨q_, hq, h', K_, G_⟩ | ⟨q_, hq, h', K_, G_⟩
  · cases hq
  · have e_ := List.mem_singleton.mp hq
    subst e_
    exact ⟨h', yfr_sm K_.2.2.2 hs K_.1 (ywa_r xfo520A_w List.mem_cons_self), ⟨fun a_ j_ => yfr_bp K_.2.2.2 (fun q_ hq => absurd hq List.not_mem_nil), G_⟩⟩
-- xfo521A: 55 steps, 1 ends, 0 returns
def xfo521A_L : List (Nat × Nat × Nat) := [(1000, 6, 2), (1001, 20, 12)]
def xfo521A_O : yO := [(1000, .int 1, .arg 300), (1000, .int 0, .index 1001), (1001, .arg 4, .int 52)]
def xfo521A_A : yA := (yZ xfo521A_L, [(.arg 4, 12)], [], [], [])
def xfo521A_C : List xB := [(.eq, .arg 2, .int 0, false), (.lt, .arg 4, .arg 300, true)]
def xfo521A_ss : List yS := [(7, [(4, .add (.arg 4) (.int 1)), (3, .int 0), (2, .add (.arg 2) (.int 1)), (7, .int 1), (6, .int 0), (5, .int 52), (0, .index 152), (1, .index 1000)], [], [(1000, .int 1, .arg 300), (1000, .int 0, .index 1001), (1001, .arg 4, .int 52)], [(.eq, .arg 2, .int 0, false), (.lt, .arg 4, .arg 300, true)], [])]
def xfo521A_rs : List yR := []
theorem xfo521A_w : ywa xfo521A_A xfo521A_ss xfo521A_rs = true := by decide +kernel
theorem xfo521A_k : yis (yev xfo521A_A 3000 60 5 [7] (7, [(4, .arg 4), (3, .arg 3), (2, .arg 2), (0, .index 152), (1, .index 1000)], [], xfo521A_O, xfo521A_C, [])) xfo521A_ss xfo521A_rs = true := by decide +kernel
def xfo521A_r (v2 v3 v4_ v300 : Int32) (k_ : Nat) : Value := bif Nat.beq k_ 2 then .int v2 else (bif Nat.beq k_ 3 then .int v3 else (bif Nat.beq k_ 4 then .int v4_ else (bif Nat.beq k_ 300 then .int v300 else (.int 0))))
def xfo521A_s (a1000 a1001 : Nat) (n_ : Nat) : Nat := bif Nat.beq n_ 1000 then a1000 else (bif Nat.beq n_ 1001 then a1001 else (0))
theorem xfo521A {h_ : xH} {a1000 a1001 : Nat} {v2 v3 v4_ v300 : Int32} (hs : sHp h_) (k1000 : bcq h_ a1000 6 2) (k1001 : bcq h_ a1001 20 12) (o0_ : bpat h_ a1000 1 = some (.int v300)) (o1 : bpat h_ a1000 0 = some (.index a1001)) (o2 : bpat h_ a1001 (v4_).toInt.toNat = some (.int (52 : Int32))) (b0 : 0 ≤ (v4_).toInt ∧ (v4_).toInt < 12) (c0_ : ¬ v2 = (0 : Int32)) (c1_ : v4_.toInt < v300.toInt) : ∃ h', ysm h_ h' ∧ (((∀ a_ j_ : Nat, bpat h' a_ j_ = bpat h_ a_ j_) ∧ (bldD 60 5 7 [(4, .int v4_), (3, .int v3), (2, .int v2), (0, .index 152), (1, .index a1000)] [] h_ 7 [(4, .int (v4_ + (1 : Int32))), (3, .int (0 : Int32)), (2, .int (v2 + (1 : Int32))), (7, .int (1 : Int32)), (6, .int (0 : Int32)), (5, .int (52 : Int32)), (0, .index 152), (1, .index a1000)] [] h'))) := by
  have hA : yas xfo521A_A (xfo521A_r v2 v3 v4_ v300) (yg (xfo521A_s a1000 a1001)) := ⟨List.forall_mem_cons.mpr ⟨b0, fun q_ hq => absurd hq List.not_mem_nil⟩, fun q_ hq => absurd hq List.not_mem_nil, fun q_ hq => absurd hq List.not_mem_nil, fun n_ hn => yg_lo hn, fun q_ hq => absurd hq List.not_mem_nil⟩
  have Hs : ysh xfo521A_A.1 (yg (xfo521A_s a1000 a1001)) h_ := ysh_of2 hs (List.forall_mem_cons.mpr ⟨⟨by decide, k1000⟩, List.forall_mem_cons.mpr ⟨⟨by decide, k1001⟩, fun q_ hq => absurd hq List.not_mem_nil⟩⟩)
  have Ho : ymem (xfo521A_r v2 v3 v4_ v300) (yg (xfo521A_s a1000 a1001)) xfo521A_O h_ := List.forall_mem_cons.mpr ⟨bpat_some o0_, List.forall_mem_cons.mpr ⟨bpat_some o1, List.forall_mem_cons.mpr ⟨bpat_some o2, fun q_ hq => absurd hq List.not_mem_nil⟩⟩⟩
  have HC : ∀ q_ ∈ xfo521A_C, xhold (xfo521A_r v2 v3 v4_ v300) q_ := List.forall_mem_cons.mpr ⟨xh_eqF2 c0_, List.forall_mem_cons.mpr ⟨xh_ltT c1_, fun q_ hq => absurd hq List.not_mem_nil⟩⟩
  rcases yrun (yis_ok xfo521A_k) hA Hs Ho HC with ⟨q_, hq, h', K_, G_⟩ | ⟨q_, hq, h', K_, G_⟩
  · have e_ := List.mem_singleton.mp hq
    subst e_
    exact ⟨h', yfr_sm K_.2.2.2 hs K_.1 (ywa_s xfo521A_w List.mem_cons_self), ⟨fun a_ j_ => yfr_bp K_.2.2.2 (fun q_ hq => absurd hq List.not_mem_nil), G_⟩⟩
  · cases hq
-- xfo530A: 37 steps, 0 ends, 1 returns
def xfo530A_L : List (Nat × Nat × Nat) := [(1000, 6, 2), (1001, 20, 12)]
def xfo530A_O : yO := [(1000, .int 1, .arg 300), (1000, .int 0, .index 1001), (1001, .arg 4, .int 53)]
def xfo530A_A : yA := (yZ xfo530A_L, [(.arg 4, 12)], [], [], [])
def xfo530A_C : List xB := [(.eq, .arg 2, .int 0, true), (.lt, .arg 4, .arg 300, true)]
def xfo530A_ss : List yS := []
def xfo530A_rs : List yR := [(some (.arg 4), [(1000, .int 1, .arg 300), (1000, .int 0, .index 1001), (1001, .arg 4, .int 53)], [(.eq, .arg 2, .int 0, true), (.lt, .arg 4, .arg 300, true)], [])]
theorem xfo530A_w : ywa xfo530A_A xfo530A_ss xfo530A_rs = true := by decide +kernel
theorem xfo530A_k : yis (yev xfo530A_A 3000 60 5 [7] (7, [(4, .arg 4), (3, .arg 3), (2, .arg 2), (0, .index 152), (1, .index 1000)], [], xfo530A_O, xfo530A_C, [])) xfo530A_ss xfo530A_rs = true := by decide +kernel
def xfo530A_r (v2 v3 v4_ v300 : Int32) (k_ : Nat) : Value := bif Nat.beq k_ 2 then .int v2 else (bif Nat.beq k_ 3 then .int v3 else (bif Nat.beq k_ 4 then .int v4_ else (bif Nat.beq k_ 300 then .int v300 else (.int 0))))
def xfo530A_s (a1000 a1001 : Nat) (n_ : Nat) : Nat := bif Nat.beq n_ 1000 then a1000 else (bif Nat.beq n_ 1001 then a1001 else (0))
theorem xfo530A {h_ : xH} {a1000 a1001 : Nat} {v2 v3 v4_ v300 : Int32} (hs : sHp h_) (k1000 : bcq h_ a1000 6 2) (k1001 : bcq h_ a1001 20 12) (o0_ : bpat h_ a1000 1 = some (.int v300)) (o1 : bpat h_ a1000 0 = some (.index a1001)) (o2 : bpat h_ a1001 (v4_).toInt.toNat = some (.int (53 : Int32))) (b0 : 0 ≤ (v4_).toInt ∧ (v4_).toInt < 12) (c0_ : v2 = (0 : Int32)) (c1_ : v4_.toInt < v300.toInt) : ∃ h', ysm h_ h' ∧ (((∀ a_ j_ : Nat, bpat h' a_ j_ = bpat h_ a_ j_) ∧ (∀ D_, 60 ≤ D_ → xrun D_ 5 7 [(4, .int v4_), (3, .int v3), (2, .int v2), (0, .index 152), (1, .index a1000)] [] h_ (some (.int v4_), h', [])))) := by
  have hA : yas xfo530A_A (xfo530A_r v2 v3 v4_ v300) (yg (xfo530A_s a1000 a1001)) := ⟨List.forall_mem_cons.mpr ⟨b0, fun q_ hq => absurd hq List.not_mem_nil⟩, fun q_ hq => absurd hq List.not_mem_nil, fun q_ hq => absurd hq List.not_mem_nil, fun n_ hn => yg_lo hn, fun q_ hq => absurd hq List.not_mem_nil⟩
  have Hs : ysh xfo530A_A.1 (yg (xfo530A_s a1000 a1001)) h_ := ysh_of2 hs (List.forall_mem_cons.mpr ⟨⟨by decide, k1000⟩, List.forall_mem_cons.mpr ⟨⟨by decide, k1001⟩, fun q_ hq => absurd hq List.not_mem_nil⟩⟩)
  have Ho : ymem (xfo530A_r v2 v3 v4_ v300) (yg (xfo530A_s a1000 a1001)) xfo530A_O h_ := List.forall_mem_cons.mpr ⟨bpat_some o0_, List.forall_mem_cons.mpr ⟨bpat_some o1, List.forall_mem_cons.mpr ⟨bpat_some o2, fun q_ hq => absurd hq List.not_mem_nil⟩⟩⟩
  have HC : ∀ q_ ∈ xfo530A_C, xhold (xfo530A_r v2 v3 v4_ v300) q_ := List.forall_mem_cons.mpr ⟨xh_eqT2 c0_, List.forall_mem_cons.mpr ⟨xh_ltT c1_, fun q_ hq => absurd hq List.not_mem_nil⟩⟩
  rcases yrun (yis_ok xfo530A_k) hA Hs Ho HC with ⟨q_, hq, h', K_, G_⟩ | ⟨q_, hq, h', K_, G_⟩
  · cases hq
  · have e_ := List.mem_singleton.mp hq
    subst e_
    exact ⟨h', yfr_sm K_.2.2.2 hs K_.1 (ywa_r xfo530A_w List.mem_cons_self), ⟨fun a_ j_ => yfr_bp K_.2.2.2 (fun q_ hq => absurd hq List.not_mem_nil), G_⟩⟩
-- xfo531A: 58 steps, 1 ends, 0 returns
def xfo531A_L : List (Nat × Nat × Nat) := [(1000, 6, 2), (1001, 20, 12)]
def xfo531A_O : yO := [(1000, .int 1, .arg 300), (1000, .int 0, .index 1001), (1001, .arg 4, .int 53)]
def xfo531A_A : yA := (yZ xfo531A_L, [(.arg 4, 12)], [], [], [])
def xfo531A_C : List xB := [(.eq, .arg 2, .int 0, false), (.lt, .arg 4, .arg 300, true)]
def xfo531A_ss : List yS := [(7, [(4, .add (.arg 4) (.int 1)), (3, .int 0), (7, .int 1), (6, .int 0), (5, .int 53), (2, .arg 2), (0, .index 152), (1, .index 1000)], [], [(1000, .int 1, .arg 300), (1000, .int 0, .index 1001), (1001, .arg 4, .int 53)], [(.eq, .arg 2, .int 0, false), (.lt, .arg 4, .arg 300, true)], [])]
def xfo531A_rs : List yR := []
theorem xfo531A_w : ywa xfo531A_A xfo531A_ss xfo531A_rs = true := by decide +kernel
theorem xfo531A_k : yis (yev xfo531A_A 3000 60 5 [7] (7, [(4, .arg 4), (3, .arg 3), (2, .arg 2), (0, .index 152), (1, .index 1000)], [], xfo531A_O, xfo531A_C, [])) xfo531A_ss xfo531A_rs = true := by decide +kernel
def xfo531A_r (v2 v3 v4_ v300 : Int32) (k_ : Nat) : Value := bif Nat.beq k_ 2 then .int v2 else (bif Nat.beq k_ 3 then .int v3 else (bif Nat.beq k_ 4 then .int v4_ else (bif Nat.beq k_ 300 then .int v300 else (.int 0))))
def xfo531A_s (a1000 a1001 : Nat) (n_ : Nat) : Nat := bif Nat.beq n_ 1000 then a1000 else (bif Nat.beq n_ 1001 then a1001 else (0))
theorem xfo531A {h_ : xH} {a1000 a1001 : Nat} {v2 v3 v4_ v300 : Int32} (hs : sHp h_) (k1000 : bcq h_ a1000 6 2) (k1001 : bcq h_ a1001 20 12) (o0_ : bpat h_ a1000 1 = some (.int v300)) (o1 : bpat h_ a1000 0 = some (.index a1001)) (o2 : bpat h_ a1001 (v4_).toInt.toNat = some (.int (53 : Int32))) (b0 : 0 ≤ (v4_).toInt ∧ (v4_).toInt < 12) (c0_ : ¬ v2 = (0 : Int32)) (c1_ : v4_.toInt < v300.toInt) : ∃ h', ysm h_ h' ∧ (((∀ a_ j_ : Nat, bpat h' a_ j_ = bpat h_ a_ j_) ∧ (bldD 60 5 7 [(4, .int v4_), (3, .int v3), (2, .int v2), (0, .index 152), (1, .index a1000)] [] h_ 7 [(4, .int (v4_ + (1 : Int32))), (3, .int (0 : Int32)), (7, .int (1 : Int32)), (6, .int (0 : Int32)), (5, .int (53 : Int32)), (2, .int v2), (0, .index 152), (1, .index a1000)] [] h'))) := by
  have hA : yas xfo531A_A (xfo531A_r v2 v3 v4_ v300) (yg (xfo531A_s a1000 a1001)) := ⟨List.forall_mem_cons.mpr ⟨b0, fun q_ hq => absurd hq List.not_mem_nil⟩, fun q_ hq => absurd hq List.not_mem_nil, fun q_ hq => absurd hq List.not_mem_nil, fun n_ hn => yg_lo hn, fun q_ hq => absurd hq List.not_mem_nil⟩
  have Hs : ysh xfo531A_A.1 (yg (xfo531A_s a1000 a1001)) h_ := ysh_of2 hs (List.forall_mem_cons.mpr ⟨⟨by decide, k1000⟩, List.forall_mem_cons.mpr ⟨⟨by decide, k1001⟩, fun q_ hq => absurd hq List.not_mem_nil⟩⟩)
  have Ho : ymem (xfo531A_r v2 v3 v4_ v300) (yg (xfo531A_s a1000 a1001)) xfo531A_O h_ := List.forall_mem_cons.mpr ⟨bpat_some o0_, List.forall_mem_cons.mpr ⟨bpat_some o1, List.forall_mem_cons.mpr ⟨bpat_some o2, fun q_ hq => absurd hq List.not_mem_nil⟩⟩⟩
  have HC : ∀ q_ ∈ xfo531A_C, xhold (xfo531A_r v2 v3 v4_ v300) q_ := List.forall_mem_cons.mpr ⟨xh_eqF2 c0_, List.forall_mem_cons.mpr ⟨xh_ltT c1_, fun q_ hq => absurd hq List.not_mem_nil⟩⟩
  rcases yrun (yis_ok xfo531A_k) hA Hs Ho HC with ⟨q_, hq, h', K_, G_⟩ | ⟨q_, hq, h', K_, G_⟩
  · have e_ := List.mem_singleton.mp hq
    subst e_
    exact ⟨h', yfr_sm K_.2.2.2 hs K_.1 (ywa_s xfo531A_w List.mem_cons_self), ⟨fun a_ j_ => yfr_bp K_.2.2.2 (fun q_ hq => absurd hq List.not_mem_nil), G_⟩⟩
  · cases hq
-- xfoW0A: 37 steps, 0 ends, 1 returns
def xfoW0A_L : List (Nat × Nat × Nat) := [(1000, 6, 2), (1001, 20, 12)]
def xfoW0A_O : yO := [(1000, .int 1, .arg 300), (1000, .int 0, .index 1001), (1001, .arg 4, .arg 301)]
def xfoW0A_A : yA := (yZ xfoW0A_L, [(.arg 4, 12)], [], [], [])
def xfoW0A_C : List xB := [(.eq, .arg 2, .int 0, true), (.lt, .arg 301, .int 60, true), (.eq, .arg 301, .int 51, false), (.eq, .arg 301, .int 50, false), (.lt, .arg 4, .arg 300, true)]
def xfoW0A_ss : List yS := []
def xfoW0A_rs : List yR := [(some (.arg 4), [(1000, .int 1, .arg 300), (1000, .int 0, .index 1001), (1001, .arg 4, .arg 301)], [(.eq, .arg 2, .int 0, true), (.lt, .arg 301, .int 60, true), (.eq, .arg 301, .int 51, false), (.eq, .arg 301, .int 50, false), (.lt, .arg 4, .arg 300, true)], [])]
theorem xfoW0A_w : ywa xfoW0A_A xfoW0A_ss xfoW0A_rs = true := by decide +kernel
theorem xfoW0A_k : yis (yev xfoW0A_A 3000 60 5 [7] (7, [(4, .arg 4), (3, .arg 3), (2, .arg 2), (0, .index 152), (1, .index 1000)], [], xfoW0A_O, xfoW0A_C, [])) xfoW0A_ss xfoW0A_rs = true := by decide +kernel
def xfoW0A_r (v2 v3 v4_ v300 v301 : Int32) (k_ : Nat) : Value := bif Nat.beq k_ 2 then .int v2 else (bif Nat.beq k_ 3 then .int v3 else (bif Nat.beq k_ 4 then .int v4_ else (bif Nat.beq k_ 300 then .int v300 else (bif Nat.beq k_ 301 then .int v301 else (.int 0)))))
def xfoW0A_s (a1000 a1001 : Nat) (n_ : Nat) : Nat := bif Nat.beq n_ 1000 then a1000 else (bif Nat.beq n_ 1001 then a1001 else (0))
theorem xfoW0A {h_ : xH} {a1000 a1001 : Nat} {v2 v3 v4_ v300 v301 : Int32} (hs : sHp h_) (k1000 : bcq h_ a1000 6 2) (k1001 : bcq h_ a1001 20 12) (o0_ : bpat h_ a1000 1 = some (.int v300)) (o1 : bpat h_ a1000 0 = some (.index a1001)) (o2 : bpat h_ a1001 (v4_).toInt.toNat = some (.int v301)) (b0 : 0 ≤ (v4_).toInt ∧ (v4_).toInt < 12) (c0_ : v2 = (0 : Int32)) (c1_ : v301.toInt < (60 : Int32).toInt) (c2_ : ¬ v301 = (51 : Int32)) (c3_ : ¬ v301 = (50 : Int32)) (c4_ : v4_.toInt < v300.toInt) : ∃ h', ysm h_ h' ∧ (((∀ a_ j_ : Nat, bpat h' a_ j_ = bpat h_ a_ j_) ∧ (∀ D_, 60 ≤ D_ → xrun D_ 5 7 [(4, .int v4_), (3, .int v3), (2, .int v2), (0, .index 152), (1, .index a1000)] [] h_ (some (.int v4_), h', [])))) := by
  have hA : yas xfoW0A_A (xfoW0A_r v2 v3 v4_ v300 v301) (yg (xfoW0A_s a1000 a1001)) := ⟨List.forall_mem_cons.mpr ⟨b0, fun q_ hq => absurd hq List.not_mem_nil⟩, fun q_ hq => absurd hq List.not_mem_nil, fun q_ hq => absurd hq List.not_mem_nil, fun n_ hn => yg_lo hn, fun q_ hq => absurd hq List.not_mem_nil⟩
  have Hs : ysh xfoW0A_A.1 (yg (xfoW0A_s a1000 a1001)) h_ := ysh_of2 hs (List.forall_mem_cons.mpr ⟨⟨by decide, k1000⟩, List.forall_mem_cons.mpr ⟨⟨by decide, k1001⟩, fun q_ hq => absurd hq List.not_mem_nil⟩⟩)
  have Ho : ymem (xfoW0A_r v2 v3 v4_ v300 v301) (yg (xfoW0A_s a1000 a1001)) xfoW0A_O h_ := List.forall_mem_cons.mpr ⟨bpat_some o0_, List.forall_mem_cons.mpr ⟨bpat_some o1, List.forall_mem_cons.mpr ⟨bpat_some o2, fun q_ hq => absurd hq List.not_mem_nil⟩⟩⟩
  have HC : ∀ q_ ∈ xfoW0A_C, xhold (xfoW0A_r v2 v3 v4_ v300 v301) q_ := List.forall_mem_cons.mpr ⟨xh_eqT2 c0_, List.forall_mem_cons.mpr ⟨xh_ltT c1_, List.forall_mem_cons.mpr ⟨xh_eqF2 c2_, List.forall_mem_cons.mpr ⟨xh_eqF2 c3_, List.forall_mem_cons.mpr ⟨xh_ltT c4_, fun q_ hq => absurd hq List.not_mem_nil⟩⟩⟩⟩⟩
  rcases yrun (yis_ok xfoW0A_k) hA Hs Ho HC with ⟨q_, hq, h', K_, G_⟩ | ⟨q_, hq, h', K_, G_⟩
  · cases hq
  · have e_ := List.mem_singleton.mp hq
    subst e_
    exact ⟨h', yfr_sm K_.2.2.2 hs K_.1 (ywa_r xfoW0A_w List.mem_cons_self), ⟨fun a_ j_ => yfr_bp K_.2.2.2 (fun q_ hq => absurd hq List.not_mem_nil), G_⟩⟩
-- xfoW1A: 60 steps, 1 ends, 0 returns
def xfoW1A_L : List (Nat × Nat × Nat) := [(1000, 6, 2), (1001, 20, 12)]
def xfoW1A_O : yO := [(1000, .int 1, .arg 300), (1000, .int 0, .index 1001), (1001, .arg 4, .arg 301)]
def xfoW1A_A : yA := (yZ xfoW1A_L, [(.arg 4, 12)], [], [], [])
def xfoW1A_C : List xB := [(.eq, .arg 2, .int 0, false), (.lt, .arg 301, .int 50, true), (.eq, .arg 301, .int 52, false), (.lt, .arg 301, .int 60, true), (.eq, .arg 301, .int 51, false), (.eq, .arg 301, .int 50, false), (.lt, .arg 4, .arg 300, true)]
def xfoW1A_ss : List yS := [(7, [(4, .add (.arg 4) (.int 1)), (3, .int 1), (2, .add (.arg 2) (.int (Int32.ofInt (-1)))), (7, .int 1), (6, .int 0), (5, .arg 301), (0, .index 152), (1, .index 1000)], [], [(1000, .int 1, .arg 300), (1000, .int 0, .index 1001), (1001, .arg 4, .arg 301)], [(.eq, .arg 2, .int 0, false), (.lt, .arg 301, .int 50, true), (.eq, .arg 301, .int 52, false), (.lt, .arg 301, .int 60, true), (.eq, .arg 301, .int 51, false), (.eq, .arg 301, .int 50, false), (.lt, .arg 4, .arg 300, true)], [])]
def xfoW1A_rs : List yR := []
theorem xfoW1A_w : ywa xfoW1A_A xfoW1A_ss xfoW1A_rs = true := by decide +kernel
theorem xfoW1A_k : yis (yev xfoW1A_A 3000 60 5 [7] (7, [(4, .arg 4), (3, .arg 3), (2, .arg 2), (0, .index 152), (1, .index 1000)], [], xfoW1A_O, xfoW1A_C, [])) xfoW1A_ss xfoW1A_rs = true := by decide +kernel
def xfoW1A_r (v2 v3 v4_ v300 v301 : Int32) (k_ : Nat) : Value := bif Nat.beq k_ 2 then .int v2 else (bif Nat.beq k_ 3 then .int v3 else (bif Nat.beq k_ 4 then .int v4_ else (bif Nat.beq k_ 300 then .int v300 else (bif Nat.beq k_ 301 then .int v301 else (.int 0)))))
def xfoW1A_s (a1000 a1001 : Nat) (n_ : Nat) : Nat := bif Nat.beq n_ 1000 then a1000 else (bif Nat.beq n_ 1001 then a1001 else (0))
theorem xfoW1A {h_ : xH} {a1000 a1001 : Nat} {v2 v3 v4_ v300 v301 : Int32} (hs : sHp h_) (k1000 : bcq h_ a1000 6 2) (k1001 : bcq h_ a1001 20 12) (o0_ : bpat h_ a1000 1 = some (.int v300)) (o1 : bpat h_ a1000 0 = some (.index a1001)) (o2 : bpat h_ a1001 (v4_).toInt.toNat = some (.int v301)) (b0 : 0 ≤ (v4_).toInt ∧ (v4_).toInt < 12) (c0_ : ¬ v2 = (0 : Int32)) (c1_ : v301.toInt < (50 : Int32).toInt) (c2_ : ¬ v301 = (52 : Int32)) (c3_ : v301.toInt < (60 : Int32).toInt) (c4_ : ¬ v301 = (51 : Int32)) (c5_ : ¬ v301 = (50 : Int32)) (c6_ : v4_.toInt < v300.toInt) : ∃ h', ysm h_ h' ∧ (((∀ a_ j_ : Nat, bpat h' a_ j_ = bpat h_ a_ j_) ∧ (bldD 60 5 7 [(4, .int v4_), (3, .int v3), (2, .int v2), (0, .index 152), (1, .index a1000)] [] h_ 7 [(4, .int (v4_ + (1 : Int32))), (3, .int (1 : Int32)), (2, .int (v2 + (Int32.ofInt (-1)))), (7, .int (1 : Int32)), (6, .int (0 : Int32)), (5, .int v301), (0, .index 152), (1, .index a1000)] [] h'))) := by
  have hA : yas xfoW1A_A (xfoW1A_r v2 v3 v4_ v300 v301) (yg (xfoW1A_s a1000 a1001)) := ⟨List.forall_mem_cons.mpr ⟨b0, fun q_ hq => absurd hq List.not_mem_nil⟩, fun q_ hq => absurd hq List.not_mem_nil, fun q_ hq => absurd hq List.not_mem_nil, fun n_ hn => yg_lo hn, fun q_ hq => absurd hq List.not_mem_nil⟩
  have Hs : ysh xfoW1A_A.1 (yg (xfoW1A_s a1000 a1001)) h_ := ysh_of2 hs (List.forall_mem_cons.mpr ⟨⟨by decide, k1000⟩, List.forall_mem_cons.mpr ⟨⟨by decide, k1001⟩, fun q_ hq => absurd hq List.not_mem_nil⟩⟩)
  have Ho : ymem (xfoW1A_r v2 v3 v4_ v300 v301) (yg (xfoW1A_s a1000 a1001)) xfoW1A_O h_ := List.forall_mem_cons.mpr ⟨bpat_some o0_, List.forall_mem_cons.mpr ⟨bpat_some o1, List.forall_mem_cons.mpr ⟨bpat_some o2, fun q_ hq => absurd hq List.not_mem_nil⟩⟩⟩
  have HC : ∀ q_ ∈ xfoW1A_C, xhold (xfoW1A_r v2 v3 v4_ v300 v301) q_ := List.forall_mem_cons.mpr ⟨xh_eqF2 c0_, List.forall_mem_cons.mpr ⟨xh_ltT c1_, List.forall_mem_cons.mpr ⟨xh_eqF2 c2_, List.forall_mem_cons.mpr ⟨xh_ltT c3_, List.forall_mem_cons.mpr ⟨xh_eqF2 c4_, List.forall_mem_cons.mpr ⟨xh_eqF2 c5_, List.forall_mem_cons.mpr ⟨xh_ltT c6_, fun q_ hq => absurd hq List.not_mem_nil⟩⟩⟩⟩⟩⟩⟩
  rcases yrun (yis_ok xfoW1A_k) hA Hs Ho HC with ⟨q_, hq, h', K_, G_⟩ | ⟨q_, hq, h', K_, G_⟩
  · have e_ := List.mem_singleton.mp hq
    subst e_
    exact ⟨h', yfr_sm K_.2.2.2 hs K_.1 (ywa_s xfoW1A_w List.mem_cons_self), ⟨fun a_ j_ => yfr_bp K_.2.2.2 (fun q_ hq => absurd hq List.not_mem_nil), G_⟩⟩
  · cases hq
-- xfoX0B: 9 steps, 0 ends, 1 returns
def xfoX0B_L : List (Nat × Nat × Nat) := [(1000, 6, 2), (1001, 20, 12)]
def xfoX0B_O : yO := [(1000, .int 1, .arg 300)]
def xfoX0B_A : yA := (yZ xfoX0B_L, [], [], [], [])
def xfoX0B_C : List xB := [(.eq, .arg 2, .int 0, true), (.lt, .arg 4, .arg 300, false)]
def xfoX0B_ss : List yS := []
def xfoX0B_rs : List yR := [(some (.int (Int32.ofInt (-1))), [(1000, .int 1, .arg 300)], [(.eq, .arg 2, .int 0, true), (.lt, .arg 4, .arg 300, false)], [])]
theorem xfoX0B_w : ywa xfoX0B_A xfoX0B_ss xfoX0B_rs = true := by decide +kernel
theorem xfoX0B_k : yis (yev xfoX0B_A 3000 60 5 [] (7, [(4, .arg 4), (3, .arg 3), (2, .arg 2), (7, .arg 7), (6, .arg 6), (5, .arg 5), (0, .index 152), (1, .index 1000)], [], xfoX0B_O, xfoX0B_C, [])) xfoX0B_ss xfoX0B_rs = true := by decide +kernel
def xfoX0B_r (v2 v3 v4_ v5 v6 v7 v300 : Int32) (k_ : Nat) : Value := bif Nat.beq k_ 2 then .int v2 else (bif Nat.beq k_ 3 then .int v3 else (bif Nat.beq k_ 4 then .int v4_ else (bif Nat.beq k_ 5 then .int v5 else (bif Nat.beq k_ 6 then .int v6 else (bif Nat.beq k_ 7 then .int v7 else (bif Nat.beq k_ 300 then .int v300 else (.int 0)))))))
def xfoX0B_s (a1000 a1001 : Nat) (n_ : Nat) : Nat := bif Nat.beq n_ 1000 then a1000 else (bif Nat.beq n_ 1001 then a1001 else (0))
theorem xfoX0B {h_ : xH} {a1000 a1001 : Nat} {v2 v3 v4_ v5 v6 v7 v300 : Int32} (hs : sHp h_) (k1000 : bcq h_ a1000 6 2) (k1001 : bcq h_ a1001 20 12) (o0_ : bpat h_ a1000 1 = some (.int v300)) (c0_ : v2 = (0 : Int32)) (c1_ : v300.toInt ≤ v4_.toInt) : ∃ h', ysm h_ h' ∧ (((∀ a_ j_ : Nat, bpat h' a_ j_ = bpat h_ a_ j_) ∧ (∀ D_, 60 ≤ D_ → xrun D_ 5 7 [(4, .int v4_), (3, .int v3), (2, .int v2), (7, .int v7), (6, .int v6), (5, .int v5), (0, .index 152), (1, .index a1000)] [] h_ (some (.int (Int32.ofInt (-1))), h', [])))) := by
  have hA : yas xfoX0B_A (xfoX0B_r v2 v3 v4_ v5 v6 v7 v300) (yg (xfoX0B_s a1000 a1001)) := ⟨fun q_ hq => absurd hq List.not_mem_nil, fun q_ hq => absurd hq List.not_mem_nil, fun q_ hq => absurd hq List.not_mem_nil, fun n_ hn => yg_lo hn, fun q_ hq => absurd hq List.not_mem_nil⟩
  have Hs : ysh xfoX0B_A.1 (yg (xfoX0B_s a1000 a1001)) h_ := ysh_of2 hs (List.forall_mem_cons.mpr ⟨⟨by decide, k1000⟩, List.forall_mem_cons.mpr ⟨⟨by decide, k1001⟩, fun q_ hq => absurd hq List.not_mem_nil⟩⟩)
  have Ho : ymem (xfoX0B_r v2 v3 v4_ v5 v6 v7 v300) (yg (xfoX0B_s a1000 a1001)) xfoX0B_O h_ := List.forall_mem_cons.mpr ⟨bpat_some o0_, fun q_ hq => absurd hq List.not_mem_nil⟩
  have HC : ∀ q_ ∈ xfoX0B_C, xhold (xfoX0B_r v2 v3 v4_ v5 v6 v7 v300) q_ := List.forall_mem_cons.mpr ⟨xh_eqT2 c0_, List.forall_mem_cons.mpr ⟨xh_ltF c1_, fun q_ hq => absurd hq List.not_mem_nil⟩⟩
  rcases yrun (yis_ok xfoX0B_k) hA Hs Ho HC with ⟨q_, hq, h', K_, G_⟩ | ⟨q_, hq, h', K_, G_⟩
  · cases hq
  · have e_ := List.mem_singleton.mp hq
    subst e_
    exact ⟨h', yfr_sm K_.2.2.2 hs K_.1 (ywa_r xfoX0B_w List.mem_cons_self), ⟨fun a_ j_ => yfr_bp K_.2.2.2 (fun q_ hq => absurd hq List.not_mem_nil), G_⟩⟩
-- xfoX1B: 9 steps, 0 ends, 1 returns
def xfoX1B_L : List (Nat × Nat × Nat) := [(1000, 6, 2), (1001, 20, 12)]
def xfoX1B_O : yO := [(1000, .int 1, .arg 300)]
def xfoX1B_A : yA := (yZ xfoX1B_L, [], [], [], [])
def xfoX1B_C : List xB := [(.eq, .arg 2, .int 0, false), (.lt, .arg 4, .arg 300, false)]
def xfoX1B_ss : List yS := []
def xfoX1B_rs : List yR := [(some (.arg 300), [(1000, .int 1, .arg 300)], [(.eq, .arg 2, .int 0, false), (.lt, .arg 4, .arg 300, false)], [])]
theorem xfoX1B_w : ywa xfoX1B_A xfoX1B_ss xfoX1B_rs = true := by decide +kernel
theorem xfoX1B_k : yis (yev xfoX1B_A 3000 60 5 [] (7, [(4, .arg 4), (3, .arg 3), (2, .arg 2), (7, .arg 7), (6, .arg 6), (5, .arg 5), (0, .index 152), (1, .index 1000)], [], xfoX1B_O, xfoX1B_C, [])) xfoX1B_ss xfoX1B_rs = true := by decide +kernel
def xfoX1B_r (v2 v3 v4_ v5 v6 v7 v300 : Int32) (k_ : Nat) : Value := bif Nat.beq k_ 2 then .int v2 else (bif Nat.beq k_ 3 then .int v3 else (bif Nat.beq k_ 4 then .int v4_ else (bif Nat.beq k_ 5 then .int v5 else (bif Nat.beq k_ 6 then .int v6 else (bif Nat.beq k_ 7 then .int v7 else (bif Nat.beq k_ 300 then .int v300 else (.int 0)))))))
def xfoX1B_s (a1000 a1001 : Nat) (n_ : Nat) : Nat := bif Nat.beq n_ 1000 then a1000 else (bif Nat.beq n_ 1001 then a1001 else (0))
theorem xfoX1B {h_ : xH} {a1000 a1001 : Nat} {v2 v3 v4_ v5 v6 v7 v300 : Int32} (hs : sHp h_) (k1000 : bcq h_ a1000 6 2) (k1001 : bcq h_ a1001 20 12) (o0_ : bpat h_ a1000 1 = some (.int v300)) (c0_ : ¬ v2 = (0 : Int32)) (c1_ : v300.toInt ≤ v4_.toInt) : ∃ h', ysm h_ h' ∧ (((∀ a_ j_ : Nat, bpat h' a_ j_ = bpat h_ a_ j_) ∧ (∀ D_, 60 ≤ D_ → xrun D_ 5 7 [(4, .int v4_), (3, .int v3), (2, .int v2), (7, .int v7), (6, .int v6), (5, .int v5), (0, .index 152), (1, .index a1000)] [] h_ (some (.int v300), h', [])))) := by
  have hA : yas xfoX1B_A (xfoX1B_r v2 v3 v4_ v5 v6 v7 v300) (yg (xfoX1B_s a1000 a1001)) := ⟨fun q_ hq => absurd hq List.not_mem_nil, fun q_ hq => absurd hq List.not_mem_nil, fun q_ hq => absurd hq List.not_mem_nil, fun n_ hn => yg_lo hn, fun q_ hq => absurd hq List.not_mem_nil⟩
  have Hs : ysh xfoX1B_A.1 (yg (xfoX1B_s a1000 a1001)) h_ := ysh_of2 hs (List.forall_mem_cons.mpr ⟨⟨by decide, k1000⟩, List.forall_mem_cons.mpr ⟨⟨by decide, k1001⟩, fun q_ hq => absurd hq List.not_mem_nil⟩⟩)
  have Ho : ymem (xfoX1B_r v2 v3 v4_ v5 v6 v7 v300) (yg (xfoX1B_s a1000 a1001)) xfoX1B_O h_ := List.forall_mem_cons.mpr ⟨bpat_some o0_, fun q_ hq => absurd hq List.not_mem_nil⟩
  have HC : ∀ q_ ∈ xfoX1B_C, xhold (xfoX1B_r v2 v3 v4_ v5 v6 v7 v300) q_ := List.forall_mem_cons.mpr ⟨xh_eqF2 c0_, List.forall_mem_cons.mpr ⟨xh_ltF c1_, fun q_ hq => absurd hq List.not_mem_nil⟩⟩
  rcases yrun (yis_ok xfoX1B_k) hA Hs Ho HC with ⟨q_, hq, h', K_, G_⟩ | ⟨q_, hq, h', K_, G_⟩
  · cases hq
  · have e_ := List.mem_singleton.mp hq
    subst e_
    exact ⟨h', yfr_sm K_.2.2.2 hs K_.1 (ywa_r xfoX1B_w List.mem_cons_self), ⟨fun a_ j_ => yfr_bp K_.2.2.2 (fun q_ hq => absurd hq List.not_mem_nil), G_⟩⟩
-- xfoN1B: 59 steps, 1 ends, 0 returns
def xfoN1B_L : List (Nat × Nat × Nat) := [(1000, 6, 2), (1001, 20, 12)]
def xfoN1B_O : yO := [(1000, .int 1, .arg 300), (1000, .int 0, .index 1001), (1001, .arg 4, .arg 301)]
def xfoN1B_A : yA := (yZ xfoN1B_L, [(.arg 4, 12)], [], [], [])
def xfoN1B_C : List xB := [(.le, .arg 301, .int 99, true), (.lt, .arg 301, .int 60, false), (.eq, .arg 301, .int 51, false), (.eq, .arg 301, .int 50, false), (.eq, .arg 301, .int 52, false), (.lt, .arg 301, .int 50, false), (.lt, .arg 4, .arg 300, true)]
def xfoN1B_ss : List yS := [(7, [(4, .add (.arg 4) (.int 1)), (3, .int 1), (7, .int 1), (6, .int 0), (5, .arg 301), (2, .arg 2), (0, .index 152), (1, .index 1000)], [], [(1000, .int 1, .arg 300), (1000, .int 0, .index 1001), (1001, .arg 4, .arg 301)], [(.le, .arg 301, .int 99, true), (.lt, .arg 301, .int 60, false), (.eq, .arg 301, .int 51, false), (.eq, .arg 301, .int 50, false), (.eq, .arg 301, .int 52, false), (.lt, .arg 301, .int 50, false), (.lt, .arg 4, .arg 300, true)], [])]
def xfoN1B_rs : List yR := []
theorem xfoN1B_w : ywa xfoN1B_A xfoN1B_ss xfoN1B_rs = true := by decide +kernel
theorem xfoN1B_k : yis (yev xfoN1B_A 3000 60 5 [7] (7, [(4, .arg 4), (3, .int 1), (2, .arg 2), (7, .arg 7), (6, .arg 6), (5, .arg 5), (0, .index 152), (1, .index 1000)], [], xfoN1B_O, xfoN1B_C, [])) xfoN1B_ss xfoN1B_rs = true := by decide +kernel
def xfoN1B_r (v2 v4_ v5 v6 v7 v300 v301 : Int32) (k_ : Nat) : Value := bif Nat.beq k_ 2 then .int v2 else (bif Nat.beq k_ 4 then .int v4_ else (bif Nat.beq k_ 5 then .int v5 else (bif Nat.beq k_ 6 then .int v6 else (bif Nat.beq k_ 7 then .int v7 else (bif Nat.beq k_ 300 then .int v300 else (bif Nat.beq k_ 301 then .int v301 else (.int 0)))))))
def xfoN1B_s (a1000 a1001 : Nat) (n_ : Nat) : Nat := bif Nat.beq n_ 1000 then a1000 else (bif Nat.beq n_ 1001 then a1001 else (0))
theorem xfoN1B {h_ : xH} {a1000 a1001 : Nat} {v2 v4_ v5 v6 v7 v300 v301 : Int32} (hs : sHp h_) (k1000 : bcq h_ a1000 6 2) (k1001 : bcq h_ a1001 20 12) (o0_ : bpat h_ a1000 1 = some (.int v300)) (o1 : bpat h_ a1000 0 = some (.index a1001)) (o2 : bpat h_ a1001 (v4_).toInt.toNat = some (.int v301)) (b0 : 0 ≤ (v4_).toInt ∧ (v4_).toInt < 12) (c0_ : v301.toInt ≤ (99 : Int32).toInt) (c1_ : (60 : Int32).toInt ≤ v301.toInt) (c2_ : ¬ v301 = (51 : Int32)) (c3_ : ¬ v301 = (50 : Int32)) (c4_ : ¬ v301 = (52 : Int32)) (c5_ : (50 : Int32).toInt ≤ v301.toInt) (c6_ : v4_.toInt < v300.toInt) : ∃ h', ysm h_ h' ∧ (((∀ a_ j_ : Nat, bpat h' a_ j_ = bpat h_ a_ j_) ∧ (bldD 60 5 7 [(4, .int v4_), (3, .int (1 : Int32)), (2, .int v2), (7, .int v7), (6, .int v6), (5, .int v5), (0, .index 152), (1, .index a1000)] [] h_ 7 [(4, .int (v4_ + (1 : Int32))), (3, .int (1 : Int32)), (7, .int (1 : Int32)), (6, .int (0 : Int32)), (5, .int v301), (2, .int v2), (0, .index 152), (1, .index a1000)] [] h'))) := by
  have hA : yas xfoN1B_A (xfoN1B_r v2 v4_ v5 v6 v7 v300 v301) (yg (xfoN1B_s a1000 a1001)) := ⟨List.forall_mem_cons.mpr ⟨b0, fun q_ hq => absurd hq List.not_mem_nil⟩, fun q_ hq => absurd hq List.not_mem_nil, fun q_ hq => absurd hq List.not_mem_nil, fun n_ hn => yg_lo hn, fun q_ hq => absurd hq List.not_mem_nil⟩
  have Hs : ysh xfoN1B_A.1 (yg (xfoN1B_s a1000 a1001)) h_ := ysh_of2 hs (List.forall_mem_cons.mpr ⟨⟨by decide, k1000⟩, List.forall_mem_cons.mpr ⟨⟨by decide, k1001⟩, fun q_ hq => absurd hq List.not_mem_nil⟩⟩)
  have Ho : ymem (xfoN1B_r v2 v4_ v5 v6 v7 v300 v301) (yg (xfoN1B_s a1000 a1001)) xfoN1B_O h_ := List.forall_mem_cons.mpr ⟨bpat_some o0_, List.forall_mem_cons.mpr ⟨bpat_some o1, List.forall_mem_cons.mpr ⟨bpat_some o2, fun q_ hq => absurd hq List.not_mem_nil⟩⟩⟩
  have HC : ∀ q_ ∈ xfoN1B_C, xhold (xfoN1B_r v2 v4_ v5 v6 v7 v300 v301) q_ := List.forall_mem_cons.mpr ⟨xh_leT c0_, List.forall_mem_cons.mpr ⟨xh_ltF c1_, List.forall_mem_cons.mpr ⟨xh_eqF2 c2_, List.forall_mem_cons.mpr ⟨xh_eqF2 c3_, List.forall_mem_cons.mpr ⟨xh_eqF2 c4_, List.forall_mem_cons.mpr ⟨xh_ltF c5_, List.forall_mem_cons.mpr ⟨xh_ltT c6_, fun q_ hq => absurd hq List.not_mem_nil⟩⟩⟩⟩⟩⟩⟩
  rcases yrun (yis_ok xfoN1B_k) hA Hs Ho HC with ⟨q_, hq, h', K_, G_⟩ | ⟨q_, hq, h', K_, G_⟩
  · have e_ := List.mem_singleton.mp hq
    subst e_
    exact ⟨h', yfr_sm K_.2.2.2 hs K_.1 (ywa_s xfoN1B_w List.mem_cons_self), ⟨fun a_ j_ => yfr_bp K_.2.2.2 (fun q_ hq => absurd hq List.not_mem_nil), G_⟩⟩
  · cases hq
-- xfoN0B: 36 steps, 0 ends, 1 returns
def xfoN0B_L : List (Nat × Nat × Nat) := [(1000, 6, 2), (1001, 20, 12)]
def xfoN0B_O : yO := [(1000, .int 1, .arg 300), (1000, .int 0, .index 1001), (1001, .arg 4, .arg 301)]
def xfoN0B_A : yA := (yZ xfoN0B_L, [(.arg 4, 12)], [], [], [])
def xfoN0B_C : List xB := [(.le, .arg 301, .int 99, true), (.lt, .arg 301, .int 60, false), (.eq, .arg 301, .int 51, false), (.eq, .arg 301, .int 50, false), (.lt, .arg 4, .arg 300, true)]
def xfoN0B_ss : List yS := []
def xfoN0B_rs : List yR := [(some (.arg 4), [(1000, .int 1, .arg 300), (1000, .int 0, .index 1001), (1001, .arg 4, .arg 301)], [(.le, .arg 301, .int 99, true), (.lt, .arg 301, .int 60, false), (.eq, .arg 301, .int 51, false), (.eq, .arg 301, .int 50, false), (.lt, .arg 4, .arg 300, true)], [])]
theorem xfoN0B_w : ywa xfoN0B_A xfoN0B_ss xfoN0B_rs = true := by decide +kernel
theorem xfoN0B_k : yis (yev xfoN0B_A 3000 60 5 [7] (7, [(4, .arg 4), (3, .int 0), (2, .arg 2), (7, .arg 7), (6, .arg 6), (5, .arg 5), (0, .index 152), (1, .index 1000)], [], xfoN0B_O, xfoN0B_C, [])) xfoN0B_ss xfoN0B_rs = true := by decide +kernel
def xfoN0B_r (v2 v4_ v5 v6 v7 v300 v301 : Int32) (k_ : Nat) : Value := bif Nat.beq k_ 2 then .int v2 else (bif Nat.beq k_ 4 then .int v4_ else (bif Nat.beq k_ 5 then .int v5 else (bif Nat.beq k_ 6 then .int v6 else (bif Nat.beq k_ 7 then .int v7 else (bif Nat.beq k_ 300 then .int v300 else (bif Nat.beq k_ 301 then .int v301 else (.int 0)))))))
def xfoN0B_s (a1000 a1001 : Nat) (n_ : Nat) : Nat := bif Nat.beq n_ 1000 then a1000 else (bif Nat.beq n_ 1001 then a1001 else (0))
theorem xfoN0B {h_ : xH} {a1000 a1001 : Nat} {v2 v4_ v5 v6 v7 v300 v301 : Int32} (hs : sHp h_) (k1000 : bcq h_ a1000 6 2) (k1001 : bcq h_ a1001 20 12) (o0_ : bpat h_ a1000 1 = some (.int v300)) (o1 : bpat h_ a1000 0 = some (.index a1001)) (o2 : bpat h_ a1001 (v4_).toInt.toNat = some (.int v301)) (b0 : 0 ≤ (v4_).toInt ∧ (v4_).toInt < 12) (c0_ : v301.toInt ≤ (99 : Int32).toInt) (c1_ : (60 : Int32).toInt ≤ v301.toInt) (c2_ : ¬ v301 = (51 : Int32)) (c3_ : ¬ v301 = (50 : Int32)) (c4_ : v4_.toInt < v300.toInt) : ∃ h', ysm h_ h' ∧ (((∀ a_ j_ : Nat, bpat h' a_ j_ = bpat h_ a_ j_) ∧ (∀ D_, 60 ≤ D_ → xrun D_ 5 7 [(4, .int v4_), (3, .int (0 : Int32)), (2, .int v2), (7, .int v7), (6, .int v6), (5, .int v5), (0, .index 152), (1, .index a1000)] [] h_ (some (.int v4_), h', [])))) := by
  have hA : yas xfoN0B_A (xfoN0B_r v2 v4_ v5 v6 v7 v300 v301) (yg (xfoN0B_s a1000 a1001)) := ⟨List.forall_mem_cons.mpr ⟨b0, fun q_ hq => absurd hq List.not_mem_nil⟩, fun q_ hq => absurd hq List.not_mem_nil, fun q_ hq => absurd hq List.not_mem_nil, fun n_ hn => yg_lo hn, fun q_ hq => absurd hq List.not_mem_nil⟩
  have Hs : ysh xfoN0B_A.1 (yg (xfoN0B_s a1000 a1001)) h_ := ysh_of2 hs (List.forall_mem_cons.mpr ⟨⟨by decide, k1000⟩, List.forall_mem_cons.mpr ⟨⟨by decide, k1001⟩, fun q_ hq => absurd hq List.not_mem_nil⟩⟩)
  have Ho : ymem (xfoN0B_r v2 v4_ v5 v6 v7 v300 v301) (yg (xfoN0B_s a1000 a1001)) xfoN0B_O h_ := List.forall_mem_cons.mpr ⟨bpat_some o0_, List.forall_mem_cons.mpr ⟨bpat_some o1, List.forall_mem_cons.mpr ⟨bpat_some o2, fun q_ hq => absurd hq List.not_mem_nil⟩⟩⟩
  have HC : ∀ q_ ∈ xfoN0B_C, xhold (xfoN0B_r v2 v4_ v5 v6 v7 v300 v301) q_ := List.forall_mem_cons.mpr ⟨xh_leT c0_, List.forall_mem_cons.mpr ⟨xh_ltF c1_, List.forall_mem_cons.mpr ⟨xh_eqF2 c2_, List.forall_mem_cons.mpr ⟨xh_eqF2 c3_, List.forall_mem_cons.mpr ⟨xh_ltT c4_, fun q_ hq => absurd hq List.not_mem_nil⟩⟩⟩⟩⟩
  rcases yrun (yis_ok xfoN0B_k) hA Hs Ho HC with ⟨q_, hq, h', K_, G_⟩ | ⟨q_, hq, h', K_, G_⟩
  · cases hq
  · have e_ := List.mem_singleton.mp hq
    subst e_
    exact ⟨h', yfr_sm K_.2.2.2 hs K_.1 (ywa_r xfoN0B_w List.mem_cons_self), ⟨fun a_ j_ => yfr_bp K_.2.2.2 (fun q_ hq => absurd hq List.not_mem_nil), G_⟩⟩
-- xfo500B: 56 steps, 1 ends, 0 returns
def xfo500B_L : List (Nat × Nat × Nat) := [(1000, 6, 2), (1001, 20, 12)]
def xfo500B_O : yO := [(1000, .int 1, .arg 300), (1000, .int 0, .index 1001), (1001, .arg 4, .int 50)]
def xfo500B_A : yA := (yZ xfo500B_L, [(.arg 4, 12)], [], [], [])
def xfo500B_C : List xB := [(.eq, .arg 2, .int 0, true), (.lt, .arg 4, .arg 300, true)]
def xfo500B_ss : List yS := [(7, [(4, .add (.arg 4) (.int 1)), (3, .int 0), (2, .add (.arg 2) (.int 1)), (7, .int 1), (6, .int 1), (5, .int 50), (0, .index 152), (1, .index 1000)], [], [(1000, .int 1, .arg 300), (1000, .int 0, .index 1001), (1001, .arg 4, .int 50)], [(.eq, .arg 2, .int 0, true), (.lt, .arg 4, .arg 300, true)], [])]
def xfo500B_rs : List yR := []
theorem xfo500B_w : ywa xfo500B_A xfo500B_ss xfo500B_rs = true := by decide +kernel
theorem xfo500B_k : yis (yev xfo500B_A 3000 60 5 [7] (7, [(4, .arg 4), (3, .arg 3), (2, .arg 2), (7, .arg 7), (6, .arg 6), (5, .arg 5), (0, .index 152), (1, .index 1000)], [], xfo500B_O, xfo500B_C, [])) xfo500B_ss xfo500B_rs = true := by decide +kernel
def xfo500B_r (v2 v3 v4_ v5 v6 v7 v300 : Int32) (k_ : Nat) : Value := bif Nat.beq k_ 2 then .int v2 else (bif Nat.beq k_ 3 then .int v3 else (bif Nat.beq k_ 4 then .int v4_ else (bif Nat.beq k_ 5 then .int v5 else (bif Nat.beq k_ 6 then .int v6 else (bif Nat.beq k_ 7 then .int v7 else (bif Nat.beq k_ 300 then .int v300 else (.int 0)))))))
def xfo500B_s (a1000 a1001 : Nat) (n_ : Nat) : Nat := bif Nat.beq n_ 1000 then a1000 else (bif Nat.beq n_ 1001 then a1001 else (0))
theorem xfo500B {h_ : xH} {a1000 a1001 : Nat} {v2 v3 v4_ v5 v6 v7 v300 : Int32} (hs : sHp h_) (k1000 : bcq h_ a1000 6 2) (k1001 : bcq h_ a1001 20 12) (o0_ : bpat h_ a1000 1 = some (.int v300)) (o1 : bpat h_ a1000 0 = some (.index a1001)) (o2 : bpat h_ a1001 (v4_).toInt.toNat = some (.int (50 : Int32))) (b0 : 0 ≤ (v4_).toInt ∧ (v4_).toInt < 12) (c0_ : v2 = (0 : Int32)) (c1_ : v4_.toInt < v300.toInt) : ∃ h', ysm h_ h' ∧ (((∀ a_ j_ : Nat, bpat h' a_ j_ = bpat h_ a_ j_) ∧ (bldD 60 5 7 [(4, .int v4_), (3, .int v3), (2, .int v2), (7, .int v7), (6, .int v6), (5, .int v5), (0, .index 152), (1, .index a1000)] [] h_ 7 [(4, .int (v4_ + (1 : Int32))), (3, .int (0 : Int32)), (2, .int (v2 + (1 : Int32))), (7, .int (1 : Int32)), (6, .int (1 : Int32)), (5, .int (50 : Int32)), (0, .index 152), (1, .index a1000)] [] h'))) := by
  have hA : yas xfo500B_A (xfo500B_r v2 v3 v4_ v5 v6 v7 v300) (yg (xfo500B_s a1000 a1001)) := ⟨List.forall_mem_cons.mpr ⟨b0, fun q_ hq => absurd hq List.not_mem_nil⟩, fun q_ hq => absurd hq List.not_mem_nil, fun q_ hq => absurd hq List.not_mem_nil, fun n_ hn => yg_lo hn, fun q_ hq => absurd hq List.not_mem_nil⟩
  have Hs : ysh xfo500B_A.1 (yg (xfo500B_s a1000 a1001)) h_ := ysh_of2 hs (List.forall_mem_cons.mpr ⟨⟨by decide, k1000⟩, List.forall_mem_cons.mpr ⟨⟨by decide, k1001⟩, fun q_ hq => absurd hq List.not_mem_nil⟩⟩)
  have Ho : ymem (xfo500B_r v2 v3 v4_ v5 v6 v7 v300) (yg (xfo500B_s a1000 a1001)) xfo500B_O h_ := List.forall_mem_cons.mpr ⟨bpat_some o0_, List.forall_mem_cons.mpr ⟨bpat_some o1, List.forall_mem_cons.mpr ⟨bpat_some o2, fun q_ hq => absurd hq List.not_mem_nil⟩⟩⟩
  have HC : ∀ q_ ∈ xfo500B_C, xhold (xfo500B_r v2 v3 v4_ v5 v6 v7 v300) q_ := List.forall_mem_cons.mpr ⟨xh_eqT2 c0_, List.forall_mem_cons.mpr ⟨xh_ltT c1_, fun q_ hq => absurd hq List.not_mem_nil⟩⟩
  rcases yrun (yis_ok xfo500B_k) hA Hs Ho HC with ⟨q_, hq, h', K_, G_⟩ | ⟨q_, hq, h', K_, G_⟩
  · have e_ := List.mem_singleton.mp hq
    subst e_
    exact ⟨h', yfr_sm K_.2.2.2 hs K_.1 (ywa_s xfo500B_w List.mem_cons_self), ⟨fun a_ j_ => yfr_bp K_.2.2.2 (fun q_ hq => absurd hq List.not_mem_nil), G_⟩⟩
  · cases hq
-- xfo501B: 34 steps, 0 ends, 1 returns
def xfo501B_L : List (Nat × Nat × Nat) := [(1000, 6, 2), (1001, 20, 12)]
def xfo501B_O : yO := [(1000, .int 1, .arg 300), (1000, .int 0, .index 1001), (1001, .arg 4, .int 50)]
def xfo501B_A : yA := (yZ xfo501B_L, [(.arg 4, 12)], [], [], [])
def xfo501B_C : List xB := [(.eq, .arg 2, .int 0, false), (.lt, .arg 4, .arg 300, true)]
def xfo501B_ss : List yS := []
def xfo501B_rs : List yR := [(some (.arg 4), [(1000, .int 1, .arg 300), (1000, .int 0, .index 1001), (1001, .arg 4, .int 50)], [(.eq, .arg 2, .int 0, false), (.lt, .arg 4, .arg 300, true)], [])]
theorem xfo501B_w : ywa xfo501B_A xfo501B_ss xfo501B_rs = true := by decide +kernel
theorem xfo501B_k : yis (yev xfo501B_A 3000 60 5 [7] (7, [(4, .arg 4), (3, .arg 3), (2, .arg 2), (7, .arg 7), (6, .arg 6), (5, .arg 5), (0, .index 152), (1, .index 1000)], [], xfo501B_O, xfo501B_C, [])) xfo501B_ss xfo501B_rs = true := by decide +kernel
def xfo501B_r (v2 v3 v4_ v5 v6 v7 v300 : Int32) (k_ : Nat) : Value := bif Nat.beq k_ 2 then .int v2 else (bif Nat.beq k_ 3 then .int v3 else (bif Nat.beq k_ 4 then .int v4_ else (bif Nat.beq k_ 5 then .int v5 else (bif Nat.beq k_ 6 then .int v6 else (bif Nat.beq k_ 7 then .int v7 else (bif Nat.beq k_ 300 then .int v300 else (.int 0)))))))
def xfo501B_s (a1000 a1001 : Nat) (n_ : Nat) : Nat := bif Nat.beq n_ 1000 then a1000 else (bif Nat.beq n_ 1001 then a1001 else (0))
theorem xfo501B {h_ : xH} {a1000 a1001 : Nat} {v2 v3 v4_ v5 v6 v7 v300 : Int32} (hs : sHp h_) (k1000 : bcq h_ a1000 6 2) (k1001 : bcq h_ a1001 20 12) (o0_ : bpat h_ a1000 1 = some (.int v300)) (o1 : bpat h_ a1000 0 = some (.index a1001)) (o2 : bpat h_ a1001 (v4_).toInt.toNat = some (.int (50 : Int32))) (b0 : 0 ≤ (v4_).toInt ∧ (v4_).toInt < 12) (c0_ : ¬ v2 = (0 : Int32)) (c1_ : v4_.toInt < v300.toInt) : ∃ h', ysm h_ h' ∧ (((∀ a_ j_ : Nat, bpat h' a_ j_ = bpat h_ a_ j_) ∧ (∀ D_, 60 ≤ D_ → xrun D_ 5 7 [(4, .int v4_), (3, .int v3), (2, .int v2), (7, .int v7), (6, .int v6), (5, .int v5), (0, .index 152), (1, .index a1000)] [] h_ (some (.int v4_), h', [])))) := by
  have hA : yas xfo501B_A (xfo501B_r v2 v3 v4_ v5 v6 v7 v300) (yg (xfo501B_s a1000 a1001)) := ⟨List.forall_mem_cons.mpr ⟨b0, fun q_ hq => absurd hq List.not_mem_nil⟩, fun q_ hq => absurd hq List.not_mem_nil, fun q_ hq => absurd hq List.not_mem_nil, fun n_ hn => yg_lo hn, fun q_ hq => absurd hq List.not_mem_nil⟩
  have Hs : ysh xfo501B_A.1 (yg (xfo501B_s a1000 a1001)) h_ := ysh_of2 hs (List.forall_mem_cons.mpr ⟨⟨by decide, k1000⟩, List.forall_mem_cons.mpr ⟨⟨by decide, k1001⟩, fun q_ hq => absurd hq List.not_mem_nil⟩⟩)
  have Ho : ymem (xfo501B_r v2 v3 v4_ v5 v6 v7 v300) (yg (xfo501B_s a1000 a1001)) xfo501B_O h_ := List.forall_mem_cons.mpr ⟨bpat_some o0_, List.forall_mem_cons.mpr ⟨bpat_some o1, List.forall_mem_cons.mpr ⟨bpat_some o2, fun q_ hq => absurd hq List.not_mem_nil⟩⟩⟩
  have HC : ∀ q_ ∈ xfo501B_C, xhold (xfo501B_r v2 v3 v4_ v5 v6 v7 v300) q_ := List.forall_mem_cons.mpr ⟨xh_eqF2 c0_, List.forall_mem_cons.mpr ⟨xh_ltT c1_, fun q_ hq => absurd hq List.not_mem_nil⟩⟩
  rcases yrun (yis_ok xfo501B_k) hA Hs Ho HC with ⟨q_, hq, h', K_, G_⟩ | ⟨q_, hq, h', K_, G_⟩
  · cases hq
  · have e_ := List.mem_singleton.mp hq
    subst e_
    exact ⟨h', yfr_sm K_.2.2.2 hs K_.1 (ywa_r xfo501B_w List.mem_cons_self), ⟨fun a_ j_ => yfr_bp K_.2.2.2 (fun q_ hq => absurd hq List.not_mem_nil), G_⟩⟩
-- xfo510B: 59 steps, 1 ends, 0 returns
def xfo510B_L : List (Nat × Nat × Nat) := [(1000, 6, 2), (1001, 20, 12)]
def xfo510B_O : yO := [(1000, .int 1, .arg 300), (1000, .int 0, .index 1001), (1001, .arg 4, .int 51)]
def xfo510B_A : yA := (yZ xfo510B_L, [(.arg 4, 12)], [], [], [])
def xfo510B_C : List xB := [(.eq, .arg 2, .int 0, true), (.lt, .arg 4, .arg 300, true)]
def xfo510B_ss : List yS := [(7, [(4, .add (.arg 4) (.int 1)), (3, .int 0), (2, .add (.arg 2) (.int 1)), (7, .int 1), (6, .int 1), (5, .int 51), (0, .index 152), (1, .index 1000)], [], [(1000, .int 1, .arg 300), (1000, .int 0, .index 1001), (1001, .arg 4, .int 51)], [(.eq, .arg 2, .int 0, true), (.lt, .arg 4, .arg 300, true)], [])]
def xfo510B_rs : List yR := []
theorem xfo510B_w : ywa xfo510B_A xfo510B_ss xfo510B_rs = true := by decide +kernel
theorem xfo510B_k : yis (yev xfo510B_A 3000 60 5 [7] (7, [(4, .arg 4), (3, .arg 3), (2, .arg 2), (7, .arg 7), (6, .arg 6), (5, .arg 5), (0, .index 152), (1, .index 1000)], [], xfo510B_O, xfo510B_C, [])) xfo510B_ss xfo510B_rs = true := by decide +kernel
def xfo510B_r (v2 v3 v4_ v5 v6 v7 v300 : Int32) (k_ : Nat) : Value := bif Nat.beq k_ 2 then .int v2 else (bif Nat.beq k_ 3 then .int v3 else (bif Nat.beq k_ 4 then .int v4_ else (bif Nat.beq k_ 5 then .int v5 else (bif Nat.beq k_ 6 then .int v6 else (bif Nat.beq k_ 7 then .int v7 else (bif Nat.beq k_ 300 then .int v300 else (.int 0)))))))
def xfo510B_s (a1000 a1001 : Nat) (n_ : Nat) : Nat := bif Nat.beq n_ 1000 then a1000 else (bif Nat.beq n_ 1001 then a1001 else (0))
theorem xfo510B {h_ : xH} {a1000 a1001 : Nat} {v2 v3 v4_ v5 v6 v7 v300 : Int32} (hs : sHp h_) (k1000 : bcq h_ a1000 6 2) (k1001 : bcq h_ a1001 20 12) (o0_ : bpat h_ a1000 1 = some (.int v300)) (o1 : bpat h_ a1000 0 = some (.index a1001)) (o2 : bpat h_ a1001 (v4_).toInt.toNat = some (.int (51 : Int32))) (b0 : 0 ≤ (v4_).toInt ∧ (v4_).toInt < 12) (c0_ : v2 = (0 : Int32)) (c1_ : v4_.toInt < v300.toInt) : ∃ h', ysm h_ h' ∧ (((∀ a_ j_ : Nat, bpat h' a_ j_ = bpat h_ a_ j_) ∧ (bldD 60 5 7 [(4, .int v4_), (3, .int v3), (2, .int v2), (7, .int v7), (6, .int v6), (5, .int v5), (0, .index 152), (1, .index a1000)] [] h_ 7 [(4, .int (v4_ + (1 : Int32))), (3, .int (0 : Int32)), (2, .int (v2 + (1 : Int32))), (7, .int (1 : Int32)), (6, .int (1 : Int32)), (5, .int (51 : Int32)), (0, .index 152), (1, .index a1000)] [] h'))) := by
  have hA : yas xfo510B_A (xfo510B_r v2 v3 v4_ v5 v6 v7 v300) (yg (xfo510B_s a1000 a1001)) := ⟨List.forall_mem_cons.mpr ⟨b0, fun q_ hq => absurd hq List.not_mem_nil⟩, fun q_ hq => absurd hq List.not_mem_nil, fun q_ hq => absurd hq List.not_mem_nil, fun n_ hn => yg_lo hn, fun q_ hq => absurd hq List.not_mem_nil⟩
  have Hs : ysh xfo510B_A.1 (yg (xfo510B_s a1000 a1001)) h_ := ysh_of2 hs (List.forall_mem_cons.mpr ⟨⟨by decide, k1000⟩, List.forall_mem_cons.mpr ⟨⟨by decide, k1001⟩, fun q_ hq => absurd hq List.not_mem_nil⟩⟩)
  have Ho : ymem (xfo510B_r v2 v3 v4_ v5 v6 v7 v300) (yg (xfo510B_s a1000 a1001)) xfo510B_O h_ := List.forall_mem_cons.mpr ⟨bpat_some o0_, List.forall_mem_cons.mpr ⟨bpat_some o1, List.forall_mem_cons.mpr ⟨bpat_some o2, fun q_ hq => absurd hq List.not_mem_nil⟩⟩⟩
  have HC : ∀ q_ ∈ xfo510B_C, xhold (xfo510B_r v2 v3 v4_ v5 v6 v7 v300) q_ := List.forall_mem_cons.mpr ⟨xh_eqT2 c0_, List.forall_mem_cons.mpr ⟨xh_ltT c1_, fun q_ hq => absurd hq List.not_mem_nil⟩⟩
  rcases yrun (yis_ok xfo510B_k) hA Hs Ho HC with ⟨q_, hq, h', K_, G_⟩ | ⟨q_, hq, h', K_, G_⟩
  · have e_ := List.mem_singleton.mp hq
    subst e_
    exact ⟨h', yfr_sm K_.2.2.2 hs K_.1 (ywa_s xfo510B_w List.mem_cons_self), ⟨fun a_ j_ => yfr_bp K_.2.2.2 (fun q_ hq => absurd hq List.not_mem_nil), G_⟩⟩
  · cases hq
-- xfo511B: 37 steps, 0 ends, 1 returns
def xfo511B_L : List (Nat × Nat × Nat) := [(1000, 6, 2), (1001, 20, 12)]
def xfo511B_O : yO := [(1000, .int 1, .arg 300), (1000, .int 0, .index 1001), (1001, .arg 4, .int 51)]
def xfo511B_A : yA := (yZ xfo511B_L, [(.arg 4, 12)], [], [], [])
def xfo511B_C : List xB := [(.eq, .arg 2, .int 0, false), (.lt, .arg 4, .arg 300, true)]
def xfo511B_ss : List yS := []
def xfo511B_rs : List yR := [(some (.arg 4), [(1000, .int 1, .arg 300), (1000, .int 0, .index 1001), (1001, .arg 4, .int 51)], [(.eq, .arg 2, .int 0, false), (.lt, .arg 4, .arg 300, true)], [])]
theorem xfo511B_w : ywa xfo511B_A xfo511B_ss xfo511B_rs = true := by decide +kernel
theorem xfo511B_k : yis (yev xfo511B_A 3000 60 5 [7] (7, [(4, .arg 4), (3, .arg 3), (2, .arg 2), (7, .arg 7), (6, .arg 6), (5, .arg 5), (0, .index 152), (1, .index 1000)], [], xfo511B_O, xfo511B_C, [])) xfo511B_ss xfo511B_rs = true := by decide +kernel
def xfo511B_r (v2 v3 v4_ v5 v6 v7 v300 : Int32) (k_ : Nat) : Value := bif Nat.beq k_ 2 then .int v2 else (bif Nat.beq k_ 3 then .int v3 else (bif Nat.beq k_ 4 then .int v4_ else (bif Nat.beq k_ 5 then .int v5 else (bif Nat.beq k_ 6 then .int v6 else (bif Nat.beq k_ 7 then .int v7 else (bif Nat.beq k_ 300 then .int v300 else (.int 0)))))))
def xfo511B_s (a1000 a1001 : Nat) (n_ : Nat) : Nat := bif Nat.beq n_ 1000 then a1000 else (bif Nat.beq n_ 1001 then a1001 else (0))
theorem xfo511B {h_ : xH} {a1000 a1001 : Nat} {v2 v3 v4_ v5 v6 v7 v300 : Int32} (hs : sHp h_) (k1000 : bcq h_ a1000 6 2) (k1001 : bcq h_ a1001 20 12) (o0_ : bpat h_ a1000 1 = some (.int v300)) (o1 : bpat h_ a1000 0 = some (.index a1001)) (o2 : bpat h_ a1001 (v4_).toInt.toNat = some (.int (51 : Int32))) (b0 : 0 ≤ (v4_).toInt ∧ (v4_).toInt < 12) (c0_ : ¬ v2 = (0 : Int32)) (c1_ : v4_.toInt < v300.toInt) : ∃ h', ysm h_ h' ∧ (((∀ a_ j_ : Nat, bpat h' a_ j_ = bpat h_ a_ j_) ∧ (∀ D_, 60 ≤ D_ → xrun D_ 5 7 [(4, .int v4_), (3, .int v3), (2, .int v2), (7, .int v7), (6, .int v6), (5, .int v5), (0, .index 152), (1, .index a1000)] [] h_ (some (.int v4_), h', [])))) := by
  have hA : yas xfo511B_A (xfo511B_r v2 v3 v4_ v5 v6 v7 v300) (yg (xfo511B_s a1000 a1001)) := ⟨List.forall_mem_cons.mpr ⟨b0, fun q_ hq => absurd hq List.not_mem_nil⟩, fun q_ hq => absurd hq List.not_mem_nil, fun q_ hq => absurd hq List.not_mem_nil, fun n_ hn => yg_lo hn, fun q_ hq => absurd hq List.not_mem_nil⟩
  have Hs : ysh xfo511B_A.1 (yg (xfo511B_s a1000 a1001)) h_ := ysh_of2 hs (List.forall_mem_cons.mpr ⟨⟨by decide, k1000⟩, List.forall_mem_cons.mpr ⟨⟨by decide, k1001⟩, fun q_ hq => absurd hq List.not_mem_nil⟩⟩)
  have Ho : ymem (xfo511B_r v2 v3 v4_ v5 v6 v7 v300) (yg (xfo511B_s a1000 a1001)) xfo511B_O h_ := List.forall_mem_cons.mpr ⟨bpat_some o0_, List.forall_mem_cons.mpr ⟨bpat_some o1, List.forall_mem_cons.mpr ⟨bpat_some o2, fun q_ hq => absurd hq List.not_mem_nil⟩⟩⟩
  have HC : ∀ q_ ∈ xfo511B_C, xhold (xfo511B_r v2 v3 v4_ v5 v6 v7 v300) q_ := List.forall_mem_cons.mpr ⟨xh_eqF2 c0_, List.forall_mem_cons.mpr ⟨xh_ltT c1_, fun q_ hq => absurd hq List.not_mem_nil⟩⟩
  rcases yrun (yis_ok xfo511B_k) hA Hs Ho HC with ⟨q_, hq, h', K_, G_⟩ | ⟨q_, hq, h', K_, G_⟩
  · cases hq
  · have e_ := List.mem_singleton.mp hq
    subst e_
    exact ⟨h', yfr_sm K_.2.2.2 hs K_.1 (ywa_r xfo511B_w List.mem_cons_self), ⟨fun a_ j_ => yfr_bp K_.2.2.2 (fun q_ hq => absurd hq List.not_mem_nil), G_⟩⟩
-- xfo520B: 37 steps, 0 ends, 1 returns
def xfo520B_L : List (Nat × Nat × Nat) := [(1000, 6, 2), (1001, 20, 12)]
def xfo520B_O : yO := [(1000, .int 1, .arg 300), (1000, .int 0, .index 1001), (1001, .arg 4, .int 52)]
def xfo520B_A : yA := (yZ xfo520B_L, [(.arg 4, 12)], [], [], [])
def xfo520B_C : List xB := [(.eq, .arg 2, .int 0, true), (.lt, .arg 4, .arg 300, true)]
def xfo520B_ss : List yS := []
def xfo520B_rs : List yR := [(some (.arg 4), [(1000, .int 1, .arg 300), (1000, .int 0, .index 1001), (1001, .arg 4, .int 52)], [(.eq, .arg 2, .int 0, true), (.lt, .arg 4, .arg 300, true)], [])]
theorem xfo520B_w : ywa xfo520B_A xfo520B_ss xfo520B_rs = true := by decide +kernel
theorem xfo520B_k : yis (yev xfo520B_A 3000 60 5 [7] (7, [(4, .arg 4), (3, .arg 3), (2, .arg 2), (7, .arg 7), (6, .arg 6), (5, .arg 5), (0, .index 152), (1, .index 1000)], [], xfo520B_O, xfo520B_C, [])) xfo520B_ss xfo520B_rs = true := by decide +kernel
def xfo520B_r (v2 v3 v4_ v5 v6 v7 v300 : Int32) (k_ : Nat) : Value := bif Nat.beq k_ 2 then .int v2 else (bif Nat.beq k_ 3 then .int v3 else (bif Nat.beq k_ 4 then .int v4_ else (bif Nat.beq k_ 5 then .int v5 else (bif Nat.beq k_ 6 then .int v6 else (bif Nat.beq k_ 7 then .int v7 else (bif Nat.beq k_ 300 then .int v300 else (.int 0)))))))
def xfo520B_s (a1000 a1001 : Nat) (n_ : Nat) : Nat := bif Nat.beq n_ 1000 then a1000 else (bif Nat.beq n_ 1001 then a1001 else (0))
theorem xfo520B {h_ : xH} {a1000 a1001 : Nat} {v2 v3 v4_ v5 v6 v7 v300 : Int32} (hs : sHp h_) (k1000 : bcq h_ a1000 6 2) (k1001 : bcq h_ a1001 20 12) (o0_ : bpat h_ a1000 1 = some (.int v300)) (o1 : bpat h_ a1000 0 = some (.index a1001)) (o2 : bpat h_ a1001 (v4_).toInt.toNat = some (.int (52 : Int32))) (b0 : 0 ≤ (v4_).toInt ∧ (v4_).toInt < 12) (c0_ : v2 = (0 : Int32)) (c1_ : v4_.toInt < v300.toInt) : ∃ h', ysm h_ h' ∧ (((∀ a_ j_ : Nat, bpat h' a_ j_ = bpat h_ a_ j_) ∧ (∀ D_, 60 ≤ D_ → xrun D_ 5 7 [(4, .int v4_), (3, .int v3), (2, .int v2), (7, .int v7), (6, .int v6), (5, .int v5), (0, .index 152), (1, .index a1000)] [] h_ (some (.int v4_), h', [])))) := by
  have hA : yas xfo520B_A (xfo520B_r v2 v3 v4_ v5 v6 v7 v300) (yg (xfo520B_s a1000 a1001)) := ⟨List.forall_mem_cons.mpr ⟨b0, fun q_ hq => absurd hq List.not_mem_nil⟩, fun q_ hq => absurd hq List.not_mem_nil, fun q_ hq => absurd hq List.not_mem_nil, fun n_ hn => yg_lo hn, fun q_ hq => absurd hq List.not_mem_nil⟩
  have Hs : ysh xfo520B_A.1 (yg (xfo520B_s a1000 a1001)) h_ := ysh_of2 hs (List.forall_mem_cons.mpr ⟨⟨by decide, k1000⟩, List.forall_mem_cons.mpr ⟨⟨by decide, k1001⟩, fun q_ hq => absurd hq List.not_mem_nil⟩⟩)
  have Ho : ymem (xfo520B_r v2 v3 v4_ v5 v6 v7 v300) (yg (xfo520B_s a1000 a1001)) xfo520B_O h_ := List.forall_mem_cons.mpr ⟨bpat_some o0_, List.forall_mem_cons.mpr ⟨bpat_some o1, List.forall_mem_cons.mpr ⟨bpat_some o2, fun q_ hq => absurd hq List.not_mem_nil⟩⟩⟩
  have HC : ∀ q_ ∈ xfo520B_C, xhold (xfo520B_r v2 v3 v4_ v5 v6 v7 v300) q_ := List.forall_mem_cons.mpr ⟨xh_eqT2 c0_, List.forall_mem_cons.mpr ⟨xh_ltT c1_, fun q_ hq => absurd hq List.not_mem_nil⟩⟩
  rcases yrun (yis_ok xfo520B_k) hA Hs Ho HC with ⟨q_, hq, h', K_, G_⟩ | ⟨q_, hq, h', K_, G_⟩
  · cases hq
  · have e_ := List.mem_singleton.mp hq
    subst e_
    exact ⟨h', yfr_sm K_.2.2.2 hs K_.1 (ywa_r xfo520B_w List.mem_cons_self), ⟨fun a_ j_ => yfr_bp K_.2.2.2 (fun q_ hq => absurd hq List.not_mem_nil), G_⟩⟩
-- xfo521B: 55 steps, 1 ends, 0 returns
def xfo521B_L : List (Nat × Nat × Nat) := [(1000, 6, 2), (1001, 20, 12)]
def xfo521B_O : yO := [(1000, .int 1, .arg 300), (1000, .int 0, .index 1001), (1001, .arg 4, .int 52)]
def xfo521B_A : yA := (yZ xfo521B_L, [(.arg 4, 12)], [], [], [])
def xfo521B_C : List xB := [(.eq, .arg 2, .int 0, false), (.lt, .arg 4, .arg 300, true)]
def xfo521B_ss : List yS := [(7, [(4, .add (.arg 4) (.int 1)), (3, .int 0), (2, .add (.arg 2) (.int 1)), (7, .int 1), (6, .int 0), (5, .int 52), (0, .index 152), (1, .index 1000)], [], [(1000, .int 1, .arg 300), (1000, .int 0, .index 1001), (1001, .arg 4, .int 52)], [(.eq, .arg 2, .int 0, false), (.lt, .arg 4, .arg 300, true)], [])]
def xfo521B_rs : List yR := []
theorem xfo521B_w : ywa xfo521B_A xfo521B_ss xfo521B_rs = true := by decide +kernel
theorem xfo521B_k : yis (yev xfo521B_A 3000 60 5 [7] (7, [(4, .arg 4), (3, .arg 3), (2, .arg 2), (7, .arg 7), (6, .arg 6), (5, .arg 5), (0, .index 152), (1, .index 1000)], [], xfo521B_O, xfo521B_C, [])) xfo521B_ss xfo521B_rs = true := by decide +kernel
def xfo521B_r (v2 v3 v4_ v5 v6 v7 v300 : Int32) (k_ : Nat) : Value := bif Nat.beq k_ 2 then .int v2 else (bif Nat.beq k_ 3 then .int v3 else (bif Nat.beq k_ 4 then .int v4_ else (bif Nat.beq k_ 5 then .int v5 else (bif Nat.beq k_ 6 then .int v6 else (bif Nat.beq k_ 7 then .int v7 else (bif Nat.beq k_ 300 then .int v300 else (.int 0)))))))
def xfo521B_s (a1000 a1001 : Nat) (n_ : Nat) : Nat := bif Nat.beq n_ 1000 then a1000 else (bif Nat.beq n_ 1001 then a1001 else (0))
theorem xfo521B {h_ : xH} {a1000 a1001 : Nat} {v2 v3 v4_ v5 v6 v7 v300 : Int32} (hs : sHp h_) (k1000 : bcq h_ a1000 6 2) (k1001 : bcq h_ a1001 20 12) (o0_ : bpat h_ a1000 1 = some (.int v300)) (o1 : bpat h_ a1000 0 = some (.index a1001)) (o2 : bpat h_ a1001 (v4_).toInt.toNat = some (.int (52 : Int32))) (b0 : 0 ≤ (v4_).toInt ∧ (v4_).toInt < 12) (c0_ : ¬ v2 = (0 : Int32)) (c1_ : v4_.toInt < v300.toInt) : ∃ h', ysm h_ h' ∧ (((∀ a_ j_ : Nat, bpat h' a_ j_ = bpat h_ a_ j_) ∧ (bldD 60 5 7 [(4, .int v4_), (3, .int v3), (2, .int v2), (7, .int v7), (6, .int v6), (5, .int v5), (0, .index 152), (1, .index a1000)] [] h_ 7 [(4, .int (v4_ + (1 : Int32))), (3, .int (0 : Int32)), (2, .int (v2 + (1 : Int32))), (7, .int (1 : Int32)), (6, .int (0 : Int32)), (5, .int (52 : Int32)), (0, .index 152), (1, .index a1000)] [] h'))) := by
  have hA : yas xfo521B_A (xfo521B_r v2 v3 v4_ v5 v6 v7 v300) (yg (xfo521B_s a1000 a1001)) := ⟨List.forall_mem_cons.mpr ⟨b0, fun q_ hq => absurd hq List.not_mem_nil⟩, fun q_ hq => absurd hq List.not_mem_nil, fun q_ hq => absurd hq List.not_mem_nil, fun n_ hn => yg_lo hn, fun q_ hq => absurd hq List.not_mem_nil⟩
  have Hs : ysh xfo521B_A.1 (yg (xfo521B_s a1000 a1001)) h_ := ysh_of2 hs (List.forall_mem_cons.mpr ⟨⟨by decide, k1000⟩, List.forall_mem_cons.mpr ⟨⟨by decide, k1001⟩, fun q_ hq => absurd hq List.not_mem_nil⟩⟩)
  have Ho : ymem (xfo521B_r v2 v3 v4_ v5 v6 v7 v300) (yg (xfo521B_s a1000 a1001)) xfo521B_O h_ := List.forall_mem_cons.mpr ⟨bpat_some o0_, List.forall_mem_cons.mpr ⟨bpat_some o1, List.forall_mem_cons.mpr ⟨bpat_some o2, fun q_ hq => absurd hq List.not_mem_nil⟩⟩⟩
  have HC : ∀ q_ ∈ xfo521B_C, xhold (xfo521B_r v2 v3 v4_ v5 v6 v7 v300) q_ := List.forall_mem_cons.mpr ⟨xh_eqF2 c0_, List.forall_mem_cons.mpr ⟨xh_ltT c1_, fun q_ hq => absurd hq List.not_mem_nil⟩⟩
  rcases yrun (yis_ok xfo521B_k) hA Hs Ho HC with ⟨q_, hq, h', K_, G_⟩ | ⟨q_, hq, h', K_, G_⟩
  · have e_ := List.mem_singleton.mp hq
    subst e_
    exact ⟨h', yfr_sm K_.2.2.2 hs K_.1 (ywa_s xfo521B_w List.mem_cons_self), ⟨fun a_ j_ => yfr_bp K_.2.2.2 (fun q_ hq => absurd hq List.not_mem_nil), G_⟩⟩
  · cases hq
-- xfo530B: 37 steps, 0 ends, 1 returns
def xfo530B_L : List (Nat × Nat × Nat) := [(1000, 6, 2), (1001, 20, 12)]
def xfo530B_O : yO := [(1000, .int 1, .arg 300), (1000, .int 0, .index 1001), (1001, .arg 4, .int 53)]
def xfo530B_A : yA := (yZ xfo530B_L, [(.arg 4, 12)], [], [], [])
def xfo530B_C : List xB := [(.eq, .arg 2, .int 0, true), (.lt, .arg 4, .arg 300, true)]
def xfo530B_ss : List yS := []
def xfo530B_rs : List yR := [(some (.arg 4), [(1000, .int 1, .arg 300), (1000, .int 0, .index 1001), (1001, .arg 4, .int 53)], [(.eq, .arg 2, .int 0, true), (.lt, .arg 4, .arg 300, true)], [])]
theorem xfo530B_w : ywa xfo530B_A xfo530B_ss xfo530B_rs = true := by decide +kernel
theorem xfo530B_k : yis (yev xfo530B_A 3000 60 5 [7] (7, [(4, .arg 4), (3, .arg 3), (2, .arg 2), (7, .arg 7), (6, .arg 6), (5, .arg 5), (0, .index 152), (1, .index 1000)], [], xfo530B_O, xfo530B_C, [])) xfo530B_ss xfo530B_rs = true := by decide +kernel
def xfo530B_r (v2 v3 v4_ v5 v6 v7 v300 : Int32) (k_ : Nat) : Value := bif Nat.beq k_ 2 then .int v2 else (bif Nat.beq k_ 3 then .int v3 else (bif Nat.beq k_ 4 then .int v4_ else (bif Nat.beq k_ 5 then .int v5 else (bif Nat.beq k_ 6 then .int v6 else (bif Nat.beq k_ 7 then .int v7 else (bif Nat.beq k_ 300 then .int v300 else (.int 0)))))))
def xfo530B_s (a1000 a1001 : Nat) (n_ : Nat) : Nat := bif Nat.beq n_ 1000 then a1000 else (bif Nat.beq n_ 1001 then a1001 else (0))
theorem xfo530B {h_ : xH} {a1000 a1001 : Nat} {v2 v3 v4_ v5 v6 v7 v300 : Int32} (hs : sHp h_) (k1000 : bcq h_ a1000 6 2) (k1001 : bcq h_ a1001 20 12) (o0_ : bpat h_ a1000 1 = some (.int v300)) (o1 : bpat h_ a1000 0 = some (.index a1001)) (o2 : bpat h_ a1001 (v4_).toInt.toNat = some (.int (53 : Int32))) (b0 : 0 ≤ (v4_).toInt ∧ (v4_).toInt < 12) (c0_ : v2 = (0 : Int32)) (c1_ : v4_.toInt < v300.toInt) : ∃ h', ysm h_ h' ∧ (((∀ a_ j_ : Nat, bpat h' a_ j_ = bpat h_ a_ j_) ∧ (∀ D_, 60 ≤ D_ → xrun D_ 5 7 [(4, .int v4_), (3, .int v3), (2, .int v2), (7, .int v7), (6, .int v6), (5, .int v5), (0, .index 152), (1, .index a1000)] [] h_ (some (.int v4_), h', [])))) := by
  have hA : yas xfo530B_A (xfo530B_r v2 v3 v4_ v5 v6 v7 v300) (yg (xfo530B_s a1000 a1001)) := ⟨List.forall_mem_cons.mpr ⟨b0, fun q_ hq => absurd hq List.not_mem_nil⟩, fun q_ hq => absurd hq List.not_mem_nil, fun q_ hq => absurd hq List.not_mem_nil, fun n_ hn => yg_lo hn, fun q_ hq => absurd hq List.not_mem_nil⟩
  have Hs : ysh xfo530B_A.1 (yg (xfo530B_s a1000 a1001)) h_ := ysh_of2 hs (List.forall_mem_cons.mpr ⟨⟨by decide, k1000⟩, List.forall_mem_cons.mpr ⟨⟨by decide, k1001⟩, fun q_ hq => absurd hq List.not_mem_nil⟩⟩)
  have Ho : ymem (xfo530B_r v2 v3 v4_ v5 v6 v7 v300) (yg (xfo530B_s a1000 a1001)) xfo530B_O h_ := List.forall_mem_cons.mpr ⟨bpat_some o0_, List.forall_mem_cons.mpr ⟨bpat_some o1, List.forall_mem_cons.mpr ⟨bpat_some o2, fun q_ hq => absurd hq List.not_mem_nil⟩⟩⟩
  have HC : ∀ q_ ∈ xfo530B_C, xhold (xfo530B_r v2 v3 v4_ v5 v6 v7 v300) q_ := List.forall_mem_cons.mpr ⟨xh_eqT2 c0_, List.forall_mem_cons.mpr ⟨xh_ltT c1_, fun q_ hq => absurd hq List.not_mem_nil⟩⟩
  rcases yrun (yis_ok xfo530B_k) hA Hs Ho HC with ⟨q_, hq, h', K_, G_⟩ | ⟨q_, hq, h', K_, G_⟩
  · cases hq
  · have e_ := List.mem_singleton.mp hq
    subst e_
    exact ⟨h', yfr_sm K_.2.2.2 hs K_.1 (ywa_r xfo530B_w List.mem_cons_self), ⟨fun a_ j_ => yfr_bp K_.2.2.2 (fun q_ hq => absurd hq List.not_mem_nil), G_⟩⟩
-- xfo531B: 58 steps, 1 ends, 0 returns
def xfo531B_L : List (Nat × Nat × Nat) := [(1000, 6, 2), (1001, 20, 12)]
def xfo531B_O : yO := [(1000, .int 1, .arg 300), (1000, .int 0, .index 1001), (1001, .arg 4, .int 53)]
def xfo531B_A : yA := (yZ xfo531B_L, [(.arg 4, 12)], [], [], [])
def xfo531B_C : List xB := [(.eq, .arg 2, .int 0, false), (.lt, .arg 4, .arg 300, true)]
def xfo531B_ss : List yS := [(7, [(4, .add (.arg 4) (.int 1)), (3, .int 0), (7, .int 1), (6, .int 0), (5, .int 53), (2, .arg 2), (0, .index 152), (1, .index 1000)], [], [(1000, .int 1, .arg 300), (1000, .int 0, .index 1001), (1001, .arg 4, .int 53)], [(.eq, .arg 2, .int 0, false), (.lt, .arg 4, .arg 300, true)], [])]
def xfo531B_rs : List yR := []
theorem xfo531B_w : ywa xfo531B_A xfo531B_ss xfo531B_rs = true := by decide +kernel
theorem xfo531B_k : yis (yev xfo531B_A 3000 60 5 [7] (7, [(4, .arg 4), (3, .arg 3), (2, .arg 2), (7, .arg 7), (6, .arg 6), (5, .arg 5), (0, .index 152), (1, .index 1000)], [], xfo531B_O, xfo531B_C, [])) xfo531B_ss xfo531B_rs = true := by decide +kernel
def xfo531B_r (v2 v3 v4_ v5 v6 v7 v300 : Int32) (k_ : Nat) : Value := bif Nat.beq k_ 2 then .int v2 else (bif Nat.beq k_ 3 then .int v3 else (bif Nat.beq k_ 4 then .int v4_ else (bif Nat.beq k_ 5 then .int v5 else (bif Nat.beq k_ 6 then .int v6 else (bif Nat.beq k_ 7 then .int v7 else (bif Nat.beq k_ 300 then .int v300 else (.int 0)))))))
def xfo531B_s (a1000 a1001 : Nat) (n_ : Nat) : Nat := bif Nat.beq n_ 1000 then a1000 else (bif Nat.beq n_ 1001 then a1001 else (0))
theorem xfo531B {h_ : xH} {a1000 a1001 : Nat} {v2 v3 v4_ v5 v6 v7 v300 : Int32} (hs : sHp h_) (k1000 : bcq h_ a1000 6 2) (k1001 : bcq h_ a1001 20 12) (o0_ : bpat h_ a1000 1 = some (.int v300)) (o1 : bpat h_ a1000 0 = some (.index a1001)) (o2 : bpat h_ a1001 (v4_).toInt.toNat = some (.int (53 : Int32))) (b0 : 0 ≤ (v4_).toInt ∧ (v4_).toInt < 12) (c0_ : ¬ v2 = (0 : Int32)) (c1_ : v4_.toInt < v300.toInt) : ∃ h', ysm h_ h' ∧ (((∀ a_ j_ : Nat, bpat h' a_ j_ = bpat h_ a_ j_) ∧ (bldD 60 5 7 [(4, .int v4_), (3, .int v3), (2, .int v2), (7, .int v7), (6, .int v6), (5, .int v5), (0, .index 152), (1, .index a1000)] [] h_ 7 [(4, .int (v4_ + (1 : Int32))), (3, .int (0 : Int32)), (7, .int (1 : Int32)), (6, .int (0 : Int32)), (5, .int (53 : Int32)), (2, .int v2), (0, .index 152), (1, .index a1000)] [] h'))) := by
  have hA : yas xfo531B_A (xfo531B_r v2 v3 v4_ v5 v6 v7 v300) (yg (xfo531B_s a1000 a1001)) := ⟨List.forall_mem_cons.mpr ⟨b0, fun q_ hq => absurd hq List.not_mem_nil⟩, fun q_ hq => absurd hq List.not_mem_nil, fun q_ hq => absurd hq List.not_mem_nil, fun n_ hn => yg_lo hn, fun q_ hq => absurd hq List.not_mem_nil⟩
  have Hs : ysh xfo531B_A.1 (yg (xfo531B_s a1000 a1001)) h_ := ysh_of2 hs (List.forall_mem_cons.mpr ⟨⟨by decide, k1000⟩, List.forall_mem_cons.mpr ⟨⟨by decide, k1001⟩, fun q_ hq => absurd hq List.not_mem_nil⟩⟩)
  have Ho : ymem (xfo531B_r v2 v3 v4_ v5 v6 v7 v300) (yg (xfo531B_s a1000 a1001)) xfo531B_O h_ := List.forall_mem_cons.mpr ⟨bpat_some o0_, List.forall_mem_cons.mpr ⟨bpat_some o1, List.forall_mem_cons.mpr ⟨bpat_some o2, fun q_ hq => absurd hq List.not_mem_nil⟩⟩⟩
  have HC : ∀ q_ ∈ xfo531B_C, xhold (xfo531B_r v2 v3 v4_ v5 v6 v7 v300) q_ := List.forall_mem_cons.mpr ⟨xh_eqF2 c0_, List.forall_mem_cons.mpr ⟨xh_ltT c1_, fun q_ hq => absurd hq List.not_mem_nil⟩⟩
  rcases yrun (yis_ok xfo531B_k) hA Hs Ho HC with ⟨q_, hq, h', K_, G_⟩ | ⟨q_, hq, h', K_, G_⟩
  · have e_ := List.mem_singleton.mp hq
    subst e_
    exact ⟨h', yfr_sm K_.2.2.2 hs K_.1 (ywa_s xfo531B_w List.mem_cons_self), ⟨fun a_ j_ => yfr_bp K_.2.2.2 (fun q_ hq => absurd hq List.not_mem_nil), G_⟩⟩
  · cases hq
-- xfoW0B: 37 steps, 0 ends, 1 returns
def xfoW0B_L : List (Nat × Nat × Nat) := [(1000, 6, 2), (1001, 20, 12)]
def xfoW0B_O : yO := [(1000, .int 1, .arg 300), (1000, .int 0, .index 1001), (1001, .arg 4, .arg 301)]
def xfoW0B_A : yA := (yZ xfoW0B_L, [(.arg 4, 12)], [], [], [])
def xfoW0B_C : List xB := [(.eq, .arg 2, .int 0, true), (.lt, .arg 301, .int 60, true), (.eq, .arg 301, .int 51, false), (.eq, .arg 301, .int 50, false), (.lt, .arg 4, .arg 300, true)]
def xfoW0B_ss : List yS := []
def xfoW0B_rs : List yR := [(some (.arg 4), [(1000, .int 1, .arg 300), (1000, .int 0, .index 1001), (1001, .arg 4, .arg 301)], [(.eq, .arg 2, .int 0, true), (.lt, .arg 301, .int 60, true), (.eq, .arg 301, .int 51, false), (.eq, .arg 301, .int 50, false), (.lt, .arg 4, .arg 300, true)], [])]
theorem xfoW0B_w : ywa xfoW0B_A xfoW0B_ss xfoW0B_rs = true := by decide +kernel
theorem xfoW0B_k : yis (yev xfoW0B_A 3000 60 5 [7] (7, [(4, .arg 4), (3, .arg 3), (2, .arg 2), (7, .arg 7), (6, .arg 6), (5, .arg 5), (0, .index 152), (1, .index 1000)], [], xfoW0B_O, xfoW0B_C, [])) xfoW0B_ss xfoW0B_rs = true := by decide +kernel
def xfoW0B_r (v2 v3 v4_ v5 v6 v7 v300 v301 : Int32) (k_ : Nat) : Value := bif Nat.beq k_ 2 then .int v2 else (bif Nat.beq k_ 3 then .int v3 else (bif Nat.beq k_ 4 then .int v4_ else (bif Nat.beq k_ 5 then .int v5 else (bif Nat.beq k_ 6 then .int v6 else (bif Nat.beq k_ 7 then .int v7 else (bif Nat.beq k_ 300 then .int v300 else (bif Nat.beq k_ 301 then .int v301 else (.int 0))))))))
def xfoW0B_s (a1000 a1001 : Nat) (n_ : Nat) : Nat := bif Nat.beq n_ 1000 then a1000 else (bif Nat.beq n_ 1001 then a1001 else (0))
theorem xfoW0B {h_ : xH} {a1000 a1001 : Nat} {v2 v3 v4_ v5 v6 v7 v300 v301 : Int32} (hs : sHp h_) (k1000 : bcq h_ a1000 6 2) (k1001 : bcq h_ a1001 20 12) (o0_ : bpat h_ a1000 1 = some (.int v300)) (o1 : bpat h_ a1000 0 = some (.index a1001)) (o2 : bpat h_ a1001 (v4_).toInt.toNat = some (.int v301)) (b0 : 0 ≤ (v4_).toInt ∧ (v4_).toInt < 12) (c0_ : v2 = (0 : Int32)) (c1_ : v301.toInt < (60 : Int32).toInt) (c2_ : ¬ v301 = (51 : Int32)) (c3_ : ¬ v301 = (50 : Int32)) (c4_ : v4_.toInt < v300.toInt) : ∃ h', ysm h_ h' ∧ (((∀ a_ j_ : Nat, bpat h' a_ j_ = bpat h_ a_ j_) ∧ (∀ D_, 60 ≤ D_ → xrun D_ 5 7 [(4, .int v4_), (3, .int v3), (2, .int v2), (7, .int v7), (6, .int v6), (5, .int v5), (0, .index 152), (1, .index a1000)] [] h_ (some (.int v4_), h', [])))) := by
  have hA : yas xfoW0B_A (xfoW0B_r v2 v3 v4_ v5 v6 v7 v300 v301) (yg (xfoW0B_s a1000 a1001)) := ⟨List.forall_mem_cons.mpr ⟨b0, fun q_ hq => absurd hq List.not_mem_nil⟩, fun q_ hq => absurd hq List.not_mem_nil, fun q_ hq => absurd hq List.not_mem_nil, fun n_ hn => yg_lo hn, fun q_ hq => absurd hq List.not_mem_nil⟩
  have Hs : ysh xfoW0B_A.1 (yg (xfoW0B_s a1000 a1001)) h_ := ysh_of2 hs (List.forall_mem_cons.mpr ⟨⟨by decide, k1000⟩, List.forall_mem_cons.mpr ⟨⟨by decide, k1001⟩, fun q_ hq => absurd hq List.not_mem_nil⟩⟩)
  have Ho : ymem (xfoW0B_r v2 v3 v4_ v5 v6 v7 v300 v301) (yg (xfoW0B_s a1000 a1001)) xfoW0B_O h_ := List.forall_mem_cons.mpr ⟨bpat_some o0_, List.forall_mem_cons.mpr ⟨bpat_some o1, List.forall_mem_cons.mpr ⟨bpat_some o2, fun q_ hq => absurd hq List.not_mem_nil⟩⟩⟩
  have HC : ∀ q_ ∈ xfoW0B_C, xhold (xfoW0B_r v2 v3 v4_ v5 v6 v7 v300 v301) q_ := List.forall_mem_cons.mpr ⟨xh_eqT2 c0_, List.forall_mem_cons.mpr ⟨xh_ltT c1_, List.forall_mem_cons.mpr ⟨xh_eqF2 c2_, List.forall_mem_cons.mpr ⟨xh_eqF2 c3_, List.forall_mem_cons.mpr ⟨xh_ltT c4_, fun q_ hq => absurd hq List.not_mem_nil⟩⟩⟩⟩⟩
  rcases yrun (yis_ok xfoW0B_k) hA Hs Ho HC with ⟨q_, hq, h', K_, G_⟩ | ⟨q_, hq, h', K_, G_⟩
  · cases hq
  · have e_ := List.mem_singleton.mp hq
    subst e_
    exact ⟨h', yfr_sm K_.2.2.2 hs K_.1 (ywa_r xfoW0B_w List.mem_cons_self), ⟨fun a_ j_ => yfr_bp K_.2.2.2 (fun q_ hq => absurd hq List.not_mem_nil), G_⟩⟩
-- xfoW1B: 60 steps, 1 ends, 0 returns
def xfoW1B_L : List (Nat × Nat × Nat) := [(1000, 6, 2), (1001, 20, 12)]
def xfoW1B_O : yO := [(1000, .int 1, .arg 300), (1000, .int 0, .index 1001), (1001, .arg 4, .arg 301)]
def xfoW1B_A : yA := (yZ xfoW1B_L, [(.arg 4, 12)], [], [], [])
def xfoW1B_C : List xB := [(.eq, .arg 2, .int 0, false), (.lt, .arg 301, .int 50, true), (.eq, .arg 301, .int 52, false), (.lt, .arg 301, .int 60, true), (.eq, .arg 301, .int 51, false), (.eq, .arg 301, .int 50, false), (.lt, .arg 4, .arg 300, true)]
def xfoW1B_ss : List yS := [(7, [(4, .add (.arg 4) (.int 1)), (3, .int 1), (2, .add (.arg 2) (.int (Int32.ofInt (-1)))), (7, .int 1), (6, .int 0), (5, .arg 301), (0, .index 152), (1, .index 1000)], [], [(1000, .int 1, .arg 300), (1000, .int 0, .index 1001), (1001, .arg 4, .arg 301)], [(.eq, .arg 2, .int 0, false), (.lt, .arg 301, .int 50, true), (.eq, .arg 301, .int 52, false), (.lt, .arg 301, .int 60, true), (.eq, .arg 301, .int 51, false), (.eq, .arg 301, .int 50, false), (.lt, .arg 4, .arg 300, true)], [])]
def xfoW1B_rs : List yR := []
theorem xfoW1B_w : ywa xfoW1B_A xfoW1B_ss xfoW1B_rs = true := by decide +kernel
theorem xfoW1B_k : yis (yev xfoW1B_A 3000 60 5 [7] (7, [(4, .arg 4), (3, .arg 3), (2, .arg 2), (7, .arg 7), (6, .arg 6), (5, .arg 5), (0, .index 152), (1, .index 1000)], [], xfoW1B_O, xfoW1B_C, [])) xfoW1B_ss xfoW1B_rs = true := by decide +kernel
def xfoW1B_r (v2 v3 v4_ v5 v6 v7 v300 v301 : Int32) (k_ : Nat) : Value := bif Nat.beq k_ 2 then .int v2 else (bif Nat.beq k_ 3 then .int v3 else (bif Nat.beq k_ 4 then .int v4_ else (bif Nat.beq k_ 5 then .int v5 else (bif Nat.beq k_ 6 then .int v6 else (bif Nat.beq k_ 7 then .int v7 else (bif Nat.beq k_ 300 then .int v300 else (bif Nat.beq k_ 301 then .int v301 else (.int 0))))))))
def xfoW1B_s (a1000 a1001 : Nat) (n_ : Nat) : Nat := bif Nat.beq n_ 1000 then a1000 else (bif Nat.beq n_ 1001 then a1001 else (0))
theorem xfoW1B {h_ : xH} {a1000 a1001 : Nat} {v2 v3 v4_ v5 v6 v7 v300 v301 : Int32} (hs : sHp h_) (k1000 : bcq h_ a1000 6 2) (k1001 : bcq h_ a1001 20 12) (o0_ : bpat h_ a1000 1 = some (.int v300)) (o1 : bpat h_ a1000 0 = some (.index a1001)) (o2 : bpat h_ a1001 (v4_).toInt.toNat = some (.int v301)) (b0 : 0 ≤ (v4_).toInt ∧ (v4_).toInt < 12) (c0_ : ¬ v2 = (0 : Int32)) (c1_ : v301.toInt < (50 : Int32).toInt) (c2_ : ¬ v301 = (52 : Int32)) (c3_ : v301.toInt < (60 : Int32).toInt) (c4_ : ¬ v301 = (51 : Int32)) (c5_ : ¬ v301 = (50 : Int32)) (c6_ : v4_.toInt < v300.toInt) : ∃ h', ysm h_ h' ∧ (((∀ a_ j_ : Nat, bpat h' a_ j_ = bpat h_ a_ j_) ∧ (bldD 60 5 7 [(4, .int v4_), (3, .int v3), (2, .int v2), (7, .int v7), (6, .int v6), (5, .int v5), (0, .index 152), (1, .index a1000)] [] h_ 7 [(4, .int (v4_ + (1 : Int32))), (3, .int (1 : Int32)), (2, .int (v2 + (Int32.ofInt (-1)))), (7, .int (1 : Int32)), (6, .int (0 : Int32)), (5, .int v301), (0, .index 152), (1, .index a1000)] [] h'))) := by
  have hA : yas xfoW1B_A (xfoW1B_r v2 v3 v4_ v5 v6 v7 v300 v301) (yg (xfoW1B_s a1000 a1001)) := ⟨List.forall_mem_cons.mpr ⟨b0, fun q_ hq => absurd hq List.not_mem_nil⟩, fun q_ hq => absurd hq List.not_mem_nil, fun q_ hq => absurd hq List.not_mem_nil, fun n_ hn => yg_lo hn, fun q_ hq => absurd hq List.not_mem_nil⟩
  have Hs : ysh xfoW1B_A.1 (yg (xfoW1B_s a1000 a1001)) h_ := ysh_of2 hs (List.forall_mem_cons.mpr ⟨⟨by decide, k1000⟩, List.forall_mem_cons.mpr ⟨⟨by decide, k1001⟩, fun q_ hq => absurd hq List.not_mem_nil⟩⟩)
  have Ho : ymem (xfoW1B_r v2 v3 v4_ v5 v6 v7 v300 v301) (yg (xfoW1B_s a1000 a1001)) xfoW1B_O h_ := List.forall_mem_cons.mpr ⟨bpat_some o0_, List.forall_mem_cons.mpr ⟨bpat_some o1, List.forall_mem_cons.mpr ⟨bpat_some o2, fun q_ hq => absurd hq List.not_mem_nil⟩⟩⟩
  have HC : ∀ q_ ∈ xfoW1B_C, xhold (xfoW1B_r v2 v3 v4_ v5 v6 v7 v300 v301) q_ := List.forall_mem_cons.mpr ⟨xh_eqF2 c0_, List.forall_mem_cons.mpr ⟨xh_ltT c1_, List.forall_mem_cons.mpr ⟨xh_eqF2 c2_, List.forall_mem_cons.mpr ⟨xh_ltT c3_, List.forall_mem_cons.mpr ⟨xh_eqF2 c4_, List.forall_mem_cons.mpr ⟨xh_eqF2 c5_, List.forall_mem_cons.mpr ⟨xh_ltT c6_, fun q_ hq => absurd hq List.not_mem_nil⟩⟩⟩⟩⟩⟩⟩
  rcases yrun (yis_ok xfoW1B_k) hA Hs Ho HC with ⟨q_, hq, h', K_, G_⟩ | ⟨q_, hq, h', K_, G_⟩
  · have e_ := List.mem_singleton.mp hq
    subst e_
    exact ⟨h', yfr_sm K_.2.2.2 hs K_.1 (ywa_s xfoW1B_w List.mem_cons_self), ⟨fun a_ j_ => yfr_bp K_.2.2.2 (fun q_ hq => absurd hq List.not_mem_nil), G_⟩⟩
  · cases hq
-- xfoX0C: 9 steps, 0 ends, 1 returns
def xfoX0C_L : List (Nat × Nat × Nat) := [(1000, 6, 2), (1001, 20, 12)]
def xfoX0C_O : yO := [(1000, .int 1, .arg 300)]
def xfoX0C_A : yA := (yZ xfoX0C_L, [], [], [], [])
def xfoX0C_C : List xB := [(.eq, .arg 2, .int 0, true), (.lt, .arg 4, .arg 300, false)]
def xfoX0C_ss : List yS := []
def xfoX0C_rs : List yR := [(some (.int (Int32.ofInt (-1))), [(1000, .int 1, .arg 300)], [(.eq, .arg 2, .int 0, true), (.lt, .arg 4, .arg 300, false)], [])]
theorem xfoX0C_w : ywa xfoX0C_A xfoX0C_ss xfoX0C_rs = true := by decide +kernel
theorem xfoX0C_k : yis (yev xfoX0C_A 3000 60 5 [] (7, [(4, .arg 4), (3, .arg 3), (7, .arg 7), (6, .arg 6), (5, .arg 5), (2, .arg 2), (0, .index 152), (1, .index 1000)], [], xfoX0C_O, xfoX0C_C, [])) xfoX0C_ss xfoX0C_rs = true := by decide +kernel
def xfoX0C_r (v2 v3 v4_ v5 v6 v7 v300 : Int32) (k_ : Nat) : Value := bif Nat.beq k_ 2 then .int v2 else (bif Nat.beq k_ 3 then .int v3 else (bif Nat.beq k_ 4 then .int v4_ else (bif Nat.beq k_ 5 then .int v5 else (bif Nat.beq k_ 6 then .int v6 else (bif Nat.beq k_ 7 then .int v7 else (bif Nat.beq k_ 300 then .int v300 else (.int 0)))))))
def xfoX0C_s (a1000 a1001 : Nat) (n_ : Nat) : Nat := bif Nat.beq n_ 1000 then a1000 else (bif Nat.beq n_ 1001 then a1001 else (0))
theorem xfoX0C {h_ : xH} {a1000 a1001 : Nat} {v2 v3 v4_ v5 v6 v7 v300 : Int32} (hs : sHp h_) (k1000 : bcq h_ a1000 6 2) (k1001 : bcq h_ a1001 20 12) (o0_ : bpat h_ a1000 1 = some (.int v300)) (c0_ : v2 = (0 : Int32)) (c1_ : v300.toInt ≤ v4_.toInt) : ∃ h', ysm h_ h' ∧ (((∀ a_ j_ : Nat, bpat h' a_ j_ = bpat h_ a_ j_) ∧ (∀ D_, 60 ≤ D_ → xrun D_ 5 7 [(4, .int v4_), (3, .int v3), (7, .int v7), (6, .int v6), (5, .int v5), (2, .int v2), (0, .index 152), (1, .index a1000)] [] h_ (some (.int (Int32.ofInt (-1))), h', [])))) := by
  have hA : yas xfoX0C_A (xfoX0C_r v2 v3 v4_ v5 v6 v7 v300) (yg (xfoX0C_s a1000 a1001)) := ⟨fun q_ hq => absurd hq List.not_mem_nil, fun q_ hq => absurd hq List.not_mem_nil, fun q_ hq => absurd hq List.not_mem_nil, fun n_ hn => yg_lo hn, fun q_ hq => absurd hq List.not_mem_nil⟩
  have Hs : ysh xfoX0C_A.1 (yg (xfoX0C_s a1000 a1001)) h_ := ysh_of2 hs (List.forall_mem_cons.mpr ⟨⟨by decide, k1000⟩, List.forall_mem_cons.mpr ⟨⟨by decide, k1001⟩, fun q_ hq => absurd hq List.not_mem_nil⟩⟩)
  have Ho : ymem (xfoX0C_r v2 v3 v4_ v5 v6 v7 v300) (yg (xfoX0C_s a1000 a1001)) xfoX0C_O h_ := List.forall_mem_cons.mpr ⟨bpat_some o0_, fun q_ hq => absurd hq List.not_mem_nil⟩
  have HC : ∀ q_ ∈ xfoX0C_C, xhold (xfoX0C_r v2 v3 v4_ v5 v6 v7 v300) q_ := List.forall_mem_cons.mpr ⟨xh_eqT2 c0_, List.forall_mem_cons.mpr ⟨xh_ltF c1_, fun q_ hq => absurd hq List.not_mem_nil⟩⟩
  rcases yrun (yis_ok xfoX0C_k) hA Hs Ho HC with ⟨q_, hq, h', K_, G_⟩ | ⟨q_, hq, h', K_, G_⟩
  · cases hq
  · have e_ := List.mem_singleton.mp hq
    subst e_
    exact ⟨h', yfr_sm K_.2.2.2 hs K_.1 (ywa_r xfoX0C_w List.mem_cons_self), ⟨fun a_ j_ => yfr_bp K_.2.2.2 (fun q_ hq => absurd hq List.not_mem_nil), G_⟩⟩
-- xfoX1C: 9 steps, 0 ends, 1 returns
def xfoX1C_L : List (Nat × Nat × Nat) := [(1000, 6, 2), (1001, 20, 12)]
def xfoX1C_O : yO := [(1000, .int 1, .arg 300)]
def xfoX1C_A : yA := (yZ xfoX1C_L, [], [], [], [])
def xfoX1C_C : List xB := [(.eq, .arg 2, .int 0, false), (.lt, .arg 4, .arg 300, false)]
def xfoX1C_ss : List yS := []
def xfoX1C_rs : List yR := [(some (.arg 300), [(1000, .int 1, .arg 300)], [(.eq, .arg 2, .int 0, false), (.lt, .arg 4, .arg 300, false)], [])]
theorem xfoX1C_w : ywa xfoX1C_A xfoX1C_ss xfoX1C_rs = true := by decide +kernel
theorem xfoX1C_k : yis (yev xfoX1C_A 3000 60 5 [] (7, [(4, .arg 4), (3, .arg 3), (7, .arg 7), (6, .arg 6), (5, .arg 5), (2, .arg 2), (0, .index 152), (1, .index 1000)], [], xfoX1C_O, xfoX1C_C, [])) xfoX1C_ss xfoX1C_rs = true := by decide +kernel
def xfoX1C_r (v2 v3 v4_ v5 v6 v7 v300 : Int32) (k_ : Nat) : Value := bif Nat.beq k_ 2 then .int v2 else (bif Nat.beq k_ 3 then .int v3 else (bif Nat.beq k_ 4 then .int v4_ else (bif Nat.beq k_ 5 then .int v5 else (bif Nat.beq k_ 6 then .int v6 else (bif Nat.beq k_ 7 then .int v7 else (bif Nat.beq k_ 300 then .int v300 else (.int 0)))))))
def xfoX1C_s (a1000 a1001 : Nat) (n_ : Nat) : Nat := bif Nat.beq n_ 1000 then a1000 else (bif Nat.beq n_ 1001 then a1001 else (0))
theorem xfoX1C {h_ : xH} {a1000 a1001 : Nat} {v2 v3 v4_ v5 v6 v7 v300 : Int32} (hs : sHp h_) (k1000 : bcq h_ a1000 6 2) (k1001 : bcq h_ a1001 20 12) (o0_ : bpat h_ a1000 1 = some (.int v300)) (c0_ : ¬ v2 = (0 : Int32)) (c1_ : v300.toInt ≤ v4_.toInt) : ∃ h', ysm h_ h' ∧ (((∀ a_ j_ : Nat, bpat h' a_ j_ = bpat h_ a_ j_) ∧ (∀ D_, 60 ≤ D_ → xrun D_ 5 7 [(4, .int v4_), (3, .int v3), (7, .int v7), (6, .int v6), (5, .int v5), (2, .int v2), (0, .index 152), (1, .index a1000)] [] h_ (some (.int v300), h', [])))) := by
  have hA : yas xfoX1C_A (xfoX1C_r v2 v3 v4_ v5 v6 v7 v300) (yg (xfoX1C_s a1000 a1001)) := ⟨fun q_ hq => absurd hq List.not_mem_nil, fun q_ hq => absurd hq List.not_mem_nil, fun q_ hq => absurd hq List.not_mem_nil, fun n_ hn => yg_lo hn, fun q_ hq => absurd hq List.not_mem_nil⟩
  have Hs : ysh xfoX1C_A.1 (yg (xfoX1C_s a1000 a1001)) h_ := ysh_of2 hs (List.forall_mem_cons.mpr ⟨⟨by decide, k1000⟩, List.forall_mem_cons.mpr ⟨⟨by decide, k1001⟩, fun q_ hq => absurd hq List.not_mem_nil⟩⟩)
  have Ho : ymem (xfoX1C_r v2 v3 v4_ v5 v6 v7 v300) (yg (xfoX1C_s a1000 a1001)) xfoX1C_O h_ := List.forall_mem_cons.mpr ⟨bpat_some o0_, fun q_ hq => absurd hq List.not_mem_nil⟩
  have HC : ∀ q_ ∈ xfoX1C_C, xhold (xfoX1C_r v2 v3 v4_ v5 v6 v7 v300) q_ := List.forall_mem_cons.mpr ⟨xh_eqF2 c0_, List.forall_mem_cons.mpr ⟨xh_ltF c1_, fun q_ hq => absurd hq List.not_mem_nil⟩⟩
  rcases yrun (yis_ok xfoX1C_k) hA Hs Ho HC with ⟨q_, hq, h', K_, G_⟩ | ⟨q_, hq, h', K_, G_⟩
  · cases hq
  · have e_ := List.mem_singleton.mp hq
    subst e_
    exact ⟨h', yfr_sm K_.2.2.2 hs K_.1 (ywa_r xfoX1C_w List.mem_cons_self), ⟨fun a_ j_ => yfr_bp K_.2.2.2 (fun q_ hq => absurd hq List.not_mem_nil), G_⟩⟩
-- xfoN1C: 59 steps, 1 ends, 0 returns
def xfoN1C_L : List (Nat × Nat × Nat) := [(1000, 6, 2), (1001, 20, 12)]
def xfoN1C_O : yO := [(1000, .int 1, .arg 300), (1000, .int 0, .index 1001), (1001, .arg 4, .arg 301)]
def xfoN1C_A : yA := (yZ xfoN1C_L, [(.arg 4, 12)], [], [], [])
def xfoN1C_C : List xB := [(.le, .arg 301, .int 99, true), (.lt, .arg 301, .int 60, false), (.eq, .arg 301, .int 51, false), (.eq, .arg 301, .int 50, false), (.eq, .arg 301, .int 52, false), (.lt, .arg 301, .int 50, false), (.lt, .arg 4, .arg 300, true)]
def xfoN1C_ss : List yS := [(7, [(4, .add (.arg 4) (.int 1)), (3, .int 1), (7, .int 1), (6, .int 0), (5, .arg 301), (2, .arg 2), (0, .index 152), (1, .index 1000)], [], [(1000, .int 1, .arg 300), (1000, .int 0, .index 1001), (1001, .arg 4, .arg 301)], [(.le, .arg 301, .int 99, true), (.lt, .arg 301, .int 60, false), (.eq, .arg 301, .int 51, false), (.eq, .arg 301, .int 50, false), (.eq, .arg 301, .int 52, false), (.lt, .arg 301, .int 50, false), (.lt, .arg 4, .arg 300, true)], [])]
def xfoN1C_rs : List yR := []
theorem xfoN1C_w : ywa xfoN1C_A xfoN1C_ss xfoN1C_rs = true := by decide +kernel
theorem xfoN1C_k : yis (yev xfoN1C_A 3000 60 5 [7] (7, [(4, .arg 4), (3, .int 1), (7, .arg 7), (6, .arg 6), (5, .arg 5), (2, .arg 2), (0, .index 152), (1, .index 1000)], [], xfoN1C_O, xfoN1C_C, [])) xfoN1C_ss xfoN1C_rs = true := by decide +kernel
def xfoN1C_r (v2 v4_ v5 v6 v7 v300 v301 : Int32) (k_ : Nat) : Value := bif Nat.beq k_ 2 then .int v2 else (bif Nat.beq k_ 4 then .int v4_ else (bif Nat.beq k_ 5 then .int v5 else (bif Nat.beq k_ 6 then .int v6 else (bif Nat.beq k_ 7 then .int v7 else (bif Nat.beq k_ 300 then .int v300 else (bif Nat.beq k_ 301 then .int v301 else (.int 0)))))))
def xfoN1C_s (a1000 a1001 : Nat) (n_ : Nat) : Nat := bif Nat.beq n_ 1000 then a1000 else (bif Nat.beq n_ 1001 then a1001 else (0))
theorem xfoN1C {h_ : xH} {a1000 a1001 : Nat} {v2 v4_ v5 v6 v7 v300 v301 : Int32} (hs : sHp h_) (k1000 : bcq h_ a1000 6 2) (k1001 : bcq h_ a1001 20 12) (o0_ : bpat h_ a1000 1 = some (.int v300)) (o1 : bpat h_ a1000 0 = some (.index a1001)) (o2 : bpat h_ a1001 (v4_).toInt.toNat = some (.int v301)) (b0 : 0 ≤ (v4_).toInt ∧ (v4_).toInt < 12) (c0_ : v301.toInt ≤ (99 : Int32).toInt) (c1_ : (60 : Int32).toInt ≤ v301.toInt) (c2_ : ¬ v301 = (51 : Int32)) (c3_ : ¬ v301 = (50 : Int32)) (c4_ : ¬ v301 = (52 : Int32)) (c5_ : (50 : Int32).toInt ≤ v301.toInt) (c6_ : v4_.toInt < v300.toInt) : ∃ h', ysm h_ h' ∧ (((∀ a_ j_ : Nat, bpat h' a_ j_ = bpat h_ a_ j_) ∧ (bldD 60 5 7 [(4, .int v4_), (3, .int (1 : Int32)), (7, .int v7), (6, .int v6), (5, .int v5), (2, .int v2), (0, .index 152), (1, .index a1000)] [] h_ 7 [(4, .int (v4_ + (1 : Int32))), (3, .int (1 : Int32)), (7, .int (1 : Int32)), (6, .int (0 : Int32)), (5, .int v301), (2, .int v2), (0, .index 152), (1, .index a1000)] [] h'))) := by
  have hA : yas xfoN1C_A (xfoN1C_r v2 v4_ v5 v6 v7 v300 v301) (yg (xfoN1C_s a1000 a1001)) := ⟨List.forall_mem_cons.mpr ⟨b0, fun q_ hq => absurd hq List.not_mem_nil⟩, fun q_ hq => absurd hq List.not_mem_nil, fun q_ hq => absurd hq List.not_mem_nil, fun n_ hn => yg_lo hn, fun q_ hq => absurd hq List.not_mem_nil⟩
  have Hs : ysh xfoN1C_A.1 (yg (xfoN1C_s a1000 a1001)) h_ := ysh_of2 hs (List.forall_mem_cons.mpr ⟨⟨by decide, k1000⟩, List.forall_mem_cons.mpr ⟨⟨by decide, k1001⟩, fun q_ hq => absurd hq List.not_mem_nil⟩⟩)
  have Ho : ymem (xfoN1C_r v2 v4_ v5 v6 v7 v300 v301) (yg (xfoN1C_s a1000 a1001)) xfoN1C_O h_ := List.forall_mem_cons.mpr ⟨bpat_some o0_, List.forall_mem_cons.mpr ⟨bpat_some o1, List.forall_mem_cons.mpr ⟨bpat_some o2, fun q_ hq => absurd hq List.not_mem_nil⟩⟩⟩
  have HC : ∀ q_ ∈ xfoN1C_C, xhold (xfoN1C_r v2 v4_ v5 v6 v7 v300 v301) q_ := List.forall_mem_cons.mpr ⟨xh_leT c0_, List.forall_mem_cons.mpr ⟨xh_ltF c1_, List.forall_mem_cons.mpr ⟨xh_eqF2 c2_, List.forall_mem_cons.mpr ⟨xh_eqF2 c3_, List.forall_mem_cons.mpr ⟨xh_eqF2 c4_, List.forall_mem_cons.mpr ⟨xh_ltF c5_, List.forall_mem_cons.mpr ⟨xh_ltT c6_, fun q_ hq => absurd hq List.not_mem_nil⟩⟩⟩⟩⟩⟩⟩
  rcases yrun (yis_ok xfoN1C_k) hA Hs Ho HC with ⟨q_, hq, h', K_, G_⟩ | ⟨q_, hq, h', K_, G_⟩
  · have e_ := List.mem_singleton.mp hq
    subst e_
    exact ⟨h', yfr_sm K_.2.2.2 hs K_.1 (ywa_s xfoN1C_w List.mem_cons_self), ⟨fun a_ j_ => yfr_bp K_.2.2.2 (fun q_ hq => absurd hq List.not_mem_nil), G_⟩⟩
  · cases hq
-- xfoN0C: 36 steps, 0 ends, 1 returns
def xfoN0C_L : List (Nat × Nat × Nat) := [(1000, 6, 2), (1001, 20, 12)]
def xfoN0C_O : yO := [(1000, .int 1, .arg 300), (1000, .int 0, .index 1001), (1001, .arg 4, .arg 301)]
def xfoN0C_A : yA := (yZ xfoN0C_L, [(.arg 4, 12)], [], [], [])
def xfoN0C_C : List xB := [(.le, .arg 301, .int 99, true), (.lt, .arg 301, .int 60, false), (.eq, .arg 301, .int 51, false), (.eq, .arg 301, .int 50, false), (.lt, .arg 4, .arg 300, true)]
def xfoN0C_ss : List yS := []
def xfoN0C_rs : List yR := [(some (.arg 4), [(1000, .int 1, .arg 300), (1000, .int 0, .index 1001), (1001, .arg 4, .arg 301)], [(.le, .arg 301, .int 99, true), (.lt, .arg 301, .int 60, false), (.eq, .arg 301, .int 51, false), (.eq, .arg 301, .int 50, false), (.lt, .arg 4, .arg 300, true)], [])]
theorem xfoN0C_w : ywa xfoN0C_A xfoN0C_ss xfoN0C_rs = true := by decide +kernel
theorem xfoN0C_k : yis (yev xfoN0C_A 3000 60 5 [7] (7, [(4, .arg 4), (3, .int 0), (7, .arg 7), (6, .arg 6), (5, .arg 5), (2, .arg 2), (0, .index 152), (1, .index 1000)], [], xfoN0C_O, xfoN0C_C, [])) xfoN0C_ss xfoN0C_rs = true := by decide +kernel
def xfoN0C_r (v2 v4_ v5 v6 v7 v300 v301 : Int32) (k_ : Nat) : Value := bif Nat.beq k_ 2 then .int v2 else (bif Nat.beq k_ 4 then .int v4_ else (bif Nat.beq k_ 5 then .int v5 else (bif Nat.beq k_ 6 then .int v6 else (bif Nat.beq k_ 7 then .int v7 else (bif Nat.beq k_ 300 then .int v300 else (bif Nat.beq k_ 301 then .int v301 else (.int 0)))))))
def xfoN0C_s (a1000 a1001 : Nat) (n_ : Nat) : Nat := bif Nat.beq n_ 1000 then a1000 else (bif Nat.beq n_ 1001 then a1001 else (0))
theorem xfoN0C {h_ : xH} {a1000 a1001 : Nat} {v2 v4_ v5 v6 v7 v300 v301 : Int32} (hs : sHp h_) (k1000 : bcq h_ a1000 6 2) (k1001 : bcq h_ a1001 20 12) (o0_ : bpat h_ a1000 1 = some (.int v300)) (o1 : bpat h_ a1000 0 = some (.index a1001)) (o2 : bpat h_ a1001 (v4_).toInt.toNat = some (.int v301)) (b0 : 0 ≤ (v4_).toInt ∧ (v4_).toInt < 12) (c0_ : v301.toInt ≤ (99 : Int32).toInt) (c1_ : (60 : Int32).toInt ≤ v301.toInt) (c2_ : ¬ v301 = (51 : Int32)) (c3_ : ¬ v301 = (50 : Int32)) (c4_ : v4_.toInt < v300.toInt) : ∃ h', ysm h_ h' ∧ (((∀ a_ j_ : Nat, bpat h' a_ j_ = bpat h_ a_ j_) ∧ (∀ D_, 60 ≤ D_ → xrun D_ 5 7 [(4, .int v4_), (3, .int (0 : Int32)), (7, .int v7), (6, .int v6), (5, .int v5), (2, .int v2), (0, .index 152), (1, .index a1000)] [] h_ (some (.int v4_), h', [])))) := by
  have hA : yas xfoN0C_A (xfoN0C_r v2 v4_ v5 v6 v7 v300 v301) (yg (xfoN0C_s a1000 a1001)) := ⟨List.forall_mem_cons.mpr ⟨b0, fun q_ hq => absurd hq List.not_mem_nil⟩, fun q_ hq => absurd hq List.not_mem_nil, fun q_ hq => absurd hq List.not_mem_nil, fun n_ hn => yg_lo hn, fun q_ hq => absurd hq List.not_mem_nil⟩
  have Hs : ysh xfoN0C_A.1 (yg (xfoN0C_s a1000 a1001)) h_ := ysh_of2 hs (List.forall_mem_cons.mpr ⟨⟨by decide, k1000⟩, List.forall_mem_cons.mpr ⟨⟨by decide, k1001⟩, fun q_ hq => absurd hq List.not_mem_nil⟩⟩)
  have Ho : ymem (xfoN0C_r v2 v4_ v5 v6 v7 v300 v301) (yg (xfoN0C_s a1000 a1001)) xfoN0C_O h_ := List.forall_mem_cons.mpr ⟨bpat_some o0_, List.forall_mem_cons.mpr ⟨bpat_some o1, List.forall_mem_cons.mpr ⟨bpat_some o2, fun q_ hq => absurd hq List.not_mem_nil⟩⟩⟩
  have HC : ∀ q_ ∈ xfoN0C_C, xhold (xfoN0C_r v2 v4_ v5 v6 v7 v300 v301) q_ := List.forall_mem_cons.mpr ⟨xh_leT c0_, List.forall_mem_cons.mpr ⟨xh_ltF c1_, List.forall_mem_cons.mpr ⟨xh_eqF2 c2_, List.forall_mem_cons.mpr ⟨xh_eqF2 c3_, List.forall_mem_cons.mpr ⟨xh_ltT c4_, fun q_ hq => absurd hq List.not_mem_nil⟩⟩⟩⟩⟩
  rcases yrun (yis_ok xfoN0C_k) hA Hs Ho HC with ⟨q_, hq, h', K_, G_⟩ | ⟨q_, hq, h', K_, G_⟩
  · cases hq
  · have e_ := List.mem_singleton.mp hq
    subst e_
    exact ⟨h', yfr_sm K_.2.2.2 hs K_.1 (ywa_r xfoN0C_w List.mem_cons_self), ⟨fun a_ j_ => yfr_bp K_.2.2.2 (fun q_ hq => absurd hq List.not_mem_nil), G_⟩⟩
-- xfo500C: 56 steps, 1 ends, 0 returns
def xfo500C_L : List (Nat × Nat × Nat) := [(1000, 6, 2), (1001, 20, 12)]
def xfo500C_O : yO := [(1000, .int 1, .arg 300), (1000, .int 0, .index 1001), (1001, .arg 4, .int 50)]
def xfo500C_A : yA := (yZ xfo500C_L, [(.arg 4, 12)], [], [], [])
def xfo500C_C : List xB := [(.eq, .arg 2, .int 0, true), (.lt, .arg 4, .arg 300, true)]
def xfo500C_ss : List yS := [(7, [(4, .add (.arg 4) (.int 1)), (3, .int 0), (2, .add (.arg 2) (.int 1)), (7, .int 1), (6, .int 1), (5, .int 50), (0, .index 152), (1, .index 1000)], [], [(1000, .int 1, .arg 300), (1000, .int 0, .index 1001), (1001, .arg 4, .int 50)], [(.eq, .arg 2, .int 0, true), (.lt, .arg 4, .arg 300, true)], [])]
def xfo500C_rs : List yR := []
theorem xfo500C_w : ywa xfo500C_A xfo500C_ss xfo500C_rs = true := by decide +kernel
theorem xfo500C_k : yis (yev xfo500C_A 3000 60 5 [7] (7, [(4, .arg 4), (3, .arg 3), (7, .arg 7), (6, .arg 6), (5, .arg 5), (2, .arg 2), (0, .index 152), (1, .index 1000)], [], xfo500C_O, xfo500C_C, [])) xfo500C_ss xfo500C_rs = true := by decide +kernel
def xfo500C_r (v2 v3 v4_ v5 v6 v7 v300 : Int32) (k_ : Nat) : Value := bif Nat.beq k_ 2 then .int v2 else (bif Nat.beq k_ 3 then .int v3 else (bif Nat.beq k_ 4 then .int v4_ else (bif Nat.beq k_ 5 then .int v5 else (bif Nat.beq k_ 6 then .int v6 else (bif Nat.beq k_ 7 then .int v7 else (bif Nat.beq k_ 300 then .int v300 else (.int 0)))))))
def xfo500C_s (a1000 a1001 : Nat) (n_ : Nat) : Nat := bif Nat.beq n_ 1000 then a1000 else (bif Nat.beq n_ 1001 then a1001 else (0))
theorem xfo500C {h_ : xH} {a1000 a1001 : Nat} {v2 v3 v4_ v5 v6 v7 v300 : Int32} (hs : sHp h_) (k1000 : bcq h_ a1000 6 2) (k1001 : bcq h_ a1001 20 12) (o0_ : bpat h_ a1000 1 = some (.int v300)) (o1 : bpat h_ a1000 0 = some (.index a1001)) (o2 : bpat h_ a1001 (v4_).toInt.toNat = some (.int (50 : Int32))) (b0 : 0 ≤ (v4_).toInt ∧ (v4_).toInt < 12) (c0_ : v2 = (0 : Int32)) (c1_ : v4_.toInt < v300.toInt) : ∃ h', ysm h_ h' ∧ (((∀ a_ j_ : Nat, bpat h' a_ j_ = bpat h_ a_ j_) ∧ (bldD 60 5 7 [(4, .int v4_), (3, .int v3), (7, .int v7), (6, .int v6), (5, .int v5), (2, .int v2), (0, .index 152), (1, .index a1000)] [] h_ 7 [(4, .int (v4_ + (1 : Int32))), (3, .int (0 : Int32)), (2, .int (v2 + (1 : Int32))), (7, .int (1 : Int32)), (6, .int (1 : Int32)), (5, .int (50 : Int32)), (0, .index 152), (1, .index a1000)] [] h'))) := by
  have hA : yas xfo500C_A (xfo500C_r v2 v3 v4_ v5 v6 v7 v300) (yg (xfo500C_s a1000 a1001)) := ⟨List.forall_mem_cons.mpr ⟨b0, fun q_ hq => absurd hq List.not_mem_nil⟩, fun q_ hq => absurd hq List.not_mem_nil, fun q_ hq => absurd hq List.not_mem_nil, fun n_ hn => yg_lo hn, fun q_ hq => absurd hq List.not_mem_nil⟩
  have Hs : ysh xfo500C_A.1 (yg (xfo500C_s a1000 a1001)) h_ := ysh_of2 hs (List.forall_mem_cons.mpr ⟨⟨by decide, k1000⟩, List.forall_mem_cons.mpr ⟨⟨by decide, k1001⟩, fun q_ hq => absurd hq List.not_mem_nil⟩⟩)
  have Ho : ymem (xfo500C_r v2 v3 v4_ v5 v6 v7 v300) (yg (xfo500C_s a1000 a1001)) xfo500C_O h_ := List.forall_mem_cons.mpr ⟨bpat_some o0_, List.forall_mem_cons.mpr ⟨bpat_some o1, List.forall_mem_cons.mpr ⟨bpat_some o2, fun q_ hq => absurd hq List.not_mem_nil⟩⟩⟩
  have HC : ∀ q_ ∈ xfo500C_C, xhold (xfo500C_r v2 v3 v4_ v5 v6 v7 v300) q_ := List.forall_mem_cons.mpr ⟨xh_eqT2 c0_, List.forall_mem_cons.mpr ⟨xh_ltT c1_, fun q_ hq => absurd hq List.not_mem_nil⟩⟩
  rcases yrun (yis_ok xfo500C_k) hA Hs Ho HC with ⟨q_, hq, h', K_, G_⟩ | ⟨q_, hq, h', K_, G_⟩
  · have e_ := List.mem_singleton.mp hq
    subst e_
    exact ⟨h', yfr_sm K_.2.2.2 hs K_.1 (ywa_s xfo500C_w List.mem_cons_self), ⟨fun a_ j_ => yfr_bp K_.2.2.2 (fun q_ hq => absurd hq List.not_mem_nil), G_⟩⟩
  · cases hq
-- xfo501C: 34 steps, 0 ends, 1 returns
def xfo501C_L : List (Nat × Nat × Nat) := [(1000, 6, 2), (1001, 20, 12)]
def xfo501C_O : yO := [(1000, .int 1, .arg 300), (1000, .int 0, .index 1001), (1001, .arg 4, .int 50)]
def xfo501C_A : yA := (yZ xfo501C_L, [(.arg 4, 12)], [], [], [])
def xfo501C_C : List xB := [(.eq, .arg 2, .int 0, false), (.lt, .arg 4, .arg 300, true)]
def xfo501C_ss : List yS := []
def xfo501C_rs : List yR := [(some (.arg 4), [(1000, .int 1, .arg 300), (1000, .int 0, .index 1001), (1001, .arg 4, .int 50)], [(.eq, .arg 2, .int 0, false), (.lt, .arg 4, .arg 300, true)], [])]
theorem xfo501C_w : ywa xfo501C_A xfo501C_ss xfo501C_rs = true := by decide +kernel
theorem xfo501C_k : yis (yev xfo501C_A 3000 60 5 [7] (7, [(4, .arg 4), (3, .arg 3), (7, .arg 7), (6, .arg 6), (5, .arg 5), (2, .arg 2), (0, .index 152), (1, .index 1000)], [], xfo501C_O, xfo501C_C, [])) xfo501C_ss xfo501C_rs = true := by decide +kernel
def xfo501C_r (v2 v3 v4_ v5 v6 v7 v300 : Int32) (k_ : Nat) : Value := bif Nat.beq k_ 2 then .int v2 else (bif Nat.beq k_ 3 then .int v3 else (bif Nat.beq k_ 4 then .int v4_ else (bif Nat.beq k_ 5 then .int v5 else (bif Nat.beq k_ 6 then .int v6 else (bif Nat.beq k_ 7 then .int v7 else (bif Nat.beq k_ 300 then .int v300 else (.int 0)))))))
def xfo501C_s (a1000 a1001 : Nat) (n_ : Nat) : Nat := bif Nat.beq n_ 1000 then a1000 else (bif Nat.beq n_ 1001 then a1001 else (0))
theorem xfo501C {h_ : xH} {a1000 a1001 : Nat} {v2 v3 v4_ v5 v6 v7 v300 : Int32} (hs : sHp h_) (k1000 : bcq h_ a1000 6 2) (k1001 : bcq h_ a1001 20 12) (o0_ : bpat h_ a1000 1 = some (.int v300)) (o1 : bpat h_ a1000 0 = some (.index a1001)) (o2 : bpat h_ a1001 (v4_).toInt.toNat = some (.int (50 : Int32))) (b0 : 0 ≤ (v4_).toInt ∧ (v4_).toInt < 12) (c0_ : ¬ v2 = (0 : Int32)) (c1_ : v4_.toInt < v300.toInt) : ∃ h', ysm h_ h' ∧ (((∀ a_ j_ : Nat, bpat h' a_ j_ = bpat h_ a_ j_) ∧ (∀ D_, 60 ≤ D_ → xrun D_ 5 7 [(4, .int v4_), (3, .int v3), (7, .int v7), (6, .int v6), (5, .int v5), (2, .int v2), (0, .index 152), (1, .index a1000)] [] h_ (some (.int v4_), h', [])))) := by
  have hA : yas xfo501C_A (xfo501C_r v2 v3 v4_ v5 v6 v7 v300) (yg (xfo501C_s a1000 a1001)) := ⟨List.forall_mem_cons.mpr ⟨b0, fun q_ hq => absurd hq List.not_mem_nil⟩, fun q_ hq => absurd hq List.not_mem_nil, fun q_ hq => absurd hq List.not_mem_nil, fun n_ hn => yg_lo hn, fun q_ hq => absurd hq List.not_mem_nil⟩
  have Hs : ysh xfo501C_A.1 (yg (xfo501C_s a1000 a1001)) h_ := ysh_of2 hs (List.forall_mem_cons.mpr ⟨⟨by decide, k1000⟩, List.forall_mem_cons.mpr ⟨⟨by decide, k1001⟩, fun q_ hq => absurd hq List.not_mem_nil⟩⟩)
  have Ho : ymem (xfo501C_r v2 v3 v4_ v5 v6 v7 v300) (yg (xfo501C_s a1000 a1001)) xfo501C_O h_ := List.forall_mem_cons.mpr ⟨bpat_some o0_, List.forall_mem_cons.mpr ⟨bpat_some o1, List.forall_mem_cons.mpr ⟨bpat_some o2, fun q_ hq => absurd hq List.not_mem_nil⟩⟩⟩
  have HC : ∀ q_ ∈ xfo501C_C, xhold (xfo501C_r v2 v3 v4_ v5 v6 v7 v300) q_ := List.forall_mem_cons.mpr ⟨xh_eqF2 c0_, List.forall_mem_cons.mpr ⟨xh_ltT c1_, fun q_ hq => absurd hq List.not_mem_nil⟩⟩
  rcases yrun (yis_ok xfo501C_k) hA Hs Ho HC with ⟨q_, hq, h', K_, G_⟩ | ⟨q_, hq, h', K_, G_⟩
  · cases hq
  · have e_ := List.mem_singleton.mp hq
    subst e_
    exact ⟨h', yfr_sm K_.2.2.2 hs K_.1 (ywa_r xfo501C_w List.mem_cons_self), ⟨fun a_ j_ => yfr_bp K_.2.2.2 (fun q_ hq => absurd hq List.not_mem_nil), G_⟩⟩
-- xfo510C: 59 steps, 1 ends, 0 returns
def xfo510C_L : List (Nat × Nat × Nat) := [(1000, 6, 2), (1001, 20, 12)]
def xfo510C_O : yO := [(1000, .int 1, .arg 300), (1000, .int 0, .index 1001), (1001, .arg 4, .int 51)]
def xfo510C_A : yA := (yZ xfo510C_L, [(.arg 4, 12)], [], [], [])
def xfo510C_C : List xB := [(.eq, .arg 2, .int 0, true), (.lt, .arg 4, .arg 300, true)]
def xfo510C_ss : List yS := [(7, [(4, .add (.arg 4) (.int 1)), (3, .int 0), (2, .add (.arg 2) (.int 1)), (7, .int 1), (6, .int 1), (5, .int 51), (0, .index 152), (1, .index 1000)], [], [(1000, .int 1, .arg 300), (1000, .int 0, .index 1001), (1001, .arg 4, .int 51)], [(.eq, .arg 2, .int 0, true), (.lt, .arg 4, .arg 300, true)], [])]
def xfo510C_rs : List yR := []
theorem xfo510C_w : ywa xfo510C_A xfo510C_ss xfo510C_rs = true := by decide +kernel
theorem xfo510C_k : yis (yev xfo510C_A 3000 60 5 [7] (7, [(4, .arg 4), (3, .arg 3), (7, .arg 7), (6, .arg 6), (5, .arg 5), (2, .arg 2), (0, .index 152), (1, .index 1000)], [], xfo510C_O, xfo510C_C, [])) xfo510C_ss xfo510C_rs = true := by decide +kernel
def xfo510C_r (v2 v3 v4_ v5 v6 v7 v300 : Int32) (k_ : Nat) : Value := bif Nat.beq k_ 2 then .int v2 else (bif Nat.beq k_ 3 then .int v3 else (bif Nat.beq k_ 4 then .int v4_ else (bif Nat.beq k_ 5 then .int v5 else (bif Nat.beq k_ 6 then .int v6 else (bif Nat.beq k_ 7 then .int v7 else (bif Nat.beq k_ 300 then .int v300 else (.int 0)))))))
def xfo510C_s (a1000 a1001 : Nat) (n_ : Nat) : Nat := bif Nat.beq n_ 1000 then a1000 else (bif Nat.beq n_ 1001 then a1001 else (0))
theorem xfo510C {h_ : xH} {a1000 a1001 : Nat} {v2 v3 v4_ v5 v6 v7 v300 : Int32} (hs : sHp h_) (k1000 : bcq h_ a1000 6 2) (k1001 : bcq h_ a1001 20 12) (o0_ : bpat h_ a1000 1 = some (.int v300)) (o1 : bpat h_ a1000 0 = some (.index a1001)) (o2 : bpat h_ a1001 (v4_).toInt.toNat = some (.int (51 : Int32))) (b0 : 0 ≤ (v4_).toInt ∧ (v4_).toInt < 12) (c0_ : v2 = (0 : Int32)) (c1_ : v4_.toInt < v300.toInt) : ∃ h', ysm h_ h' ∧ (((∀ a_ j_ : Nat, bpat h' a_ j_ = bpat h_ a_ j_) ∧ (bldD 60 5 7 [(4, .int v4_), (3, .int v3), (7, .int v7), (6, .int v6), (5, .int v5), (2, .int v2), (0, .index 152), (1, .index a1000)] [] h_ 7 [(4, .int (v4_ + (1 : Int32))), (3, .int (0 : Int32)), (2, .int (v2 + (1 : Int32))), (7, .int (1 : Int32)), (6, .int (1 : Int32)), (5, .int (51 : Int32)), (0, .index 152), (1, .index a1000)] [] h'))) := by
  have hA : yas xfo510C_A (xfo510C_r v2 v3 v4_ v5 v6 v7 v300) (yg (xfo510C_s a1000 a1001)) := ⟨List.forall_mem_cons.mpr ⟨b0, fun q_ hq => absurd hq List.not_mem_nil⟩, fun q_ hq => absurd hq List.not_mem_nil, fun q_ hq => absurd hq List.not_mem_nil, fun n_ hn => yg_lo hn, fun q_ hq => absurd hq List.not_mem_nil⟩
  have Hs : ysh xfo510C_A.1 (yg (xfo510C_s a1000 a1001)) h_ := ysh_of2 hs (List.forall_mem_cons.mpr ⟨⟨by decide, k1000⟩, List.forall_mem_cons.mpr ⟨⟨by decide, k1001⟩, fun q_ hq => absurd hq List.not_mem_nil⟩⟩)
  have Ho : ymem (xfo510C_r v2 v3 v4_ v5 v6 v7 v300) (yg (xfo510C_s a1000 a1001)) xfo510C_O h_ := List.forall_mem_cons.mpr ⟨bpat_some o0_, List.forall_mem_cons.mpr ⟨bpat_some o1, List.forall_mem_cons.mpr ⟨bpat_some o2, fun q_ hq => absurd hq List.not_mem_nil⟩⟩⟩
  have HC : ∀ q_ ∈ xfo510C_C, xhold (xfo510C_r v2 v3 v4_ v5 v6 v7 v300) q_ := List.forall_mem_cons.mpr ⟨xh_eqT2 c0_, List.forall_mem_cons.mpr ⟨xh_ltT c1_, fun q_ hq => absurd hq List.not_mem_nil⟩⟩
  rcases yrun (yis_ok xfo510C_k) hA Hs Ho HC with ⟨q_, hq, h', K_, G_⟩ | ⟨q_, hq, h', K_, G_⟩
  · have e_ := List.mem_singleton.mp hq
    subst e_
    exact ⟨h', yfr_sm K_.2.2.2 hs K_.1 (ywa_s xfo510C_w List.mem_cons_self), ⟨fun a_ j_ => yfr_bp K_.2.2.2 (fun q_ hq => absurd hq List.not_mem_nil), G_⟩⟩
  · cases hq
-- xfo511C: 37 steps, 0 ends, 1 returns
def xfo511C_L : List (Nat × Nat × Nat) := [(1000, 6, 2), (1001, 20, 12)]
def xfo511C_O : yO := [(1000, .int 1, .arg 300), (1000, .int 0, .index 1001), (1001, .arg 4, .int 51)]
def xfo511C_A : yA := (yZ xfo511C_L, [(.arg 4, 12)], [], [], [])
def xfo511C_C : List xB := [(.eq, .arg 2, .int 0, false), (.lt, .arg 4, .arg 300, true)]
def xfo511C_ss : List yS := []
def xfo511C_rs : List yR := [(some (.arg 4), [(1000, .int 1, .arg 300), (1000, .int 0, .index 1001), (1001, .arg 4, .int 51)], [(.eq, .arg 2, .int 0, false), (.lt, .arg 4, .arg 300, true)], [])]
theorem xfo511C_w : ywa xfo511C_A xfo511C_ss xfo511C_rs = true := by decide +kernel
theorem xfo511C_k : yis (yev xfo511C_A 3000 60 5 [7] (7, [(4, .arg 4), (3, .arg 3), (7, .arg 7), (6, .arg 6), (5, .arg 5), (2, .arg 2), (0, .index 152), (1, .index 1000)], [], xfo511C_O, xfo511C_C, [])) xfo511C_ss xfo511C_rs = true := by decide +kernel
def xfo511C_r (v2 v3 v4_ v5 v6 v7 v300 : Int32) (k_ : Nat) : Value := bif Nat.beq k_ 2 then .int v2 else (bif Nat.beq k_ 3 then .int v3 else (bif Nat.beq k_ 4 then .int v4_ else (bif Nat.beq k_ 5 then .int v5 else (bif Nat.beq k_ 6 then .int v6 else (bif Nat.beq k_ 7 then .int v7 else (bif Nat.beq k_ 300 then .int v300 else (.int 0)))))))
def xfo511C_s (a1000 a1001 : Nat) (n_ : Nat) : Nat := bif Nat.beq n_ 1000 then a1000 else (bif Nat.beq n_ 1001 then a1001 else (0))
theorem xfo511C {h_ : xH} {a1000 a1001 : Nat} {v2 v3 v4_ v5 v6 v7 v300 : Int32} (hs : sHp h_) (k1000 : bcq h_ a1000 6 2) (k1001 : bcq h_ a1001 20 12) (o0_ : bpat h_ a1000 1 = some (.int v300)) (o1 : bpat h_ a1000 0 = some (.index a1001)) (o2 : bpat h_ a1001 (v4_).toInt.toNat = some (.int (51 : Int32))) (b0 : 0 ≤ (v4_).toInt ∧ (v4_).toInt < 12) (c0_ : ¬ v2 = (0 : Int32)) (c1_ : v4_.toInt < v300.toInt) : ∃ h', ysm h_ h' ∧ (((∀ a_ j_ : Nat, bpat h' a_ j_ = bpat h_ a_ j_) ∧ (∀ D_, 60 ≤ D_ → xrun D_ 5 7 [(4, .int v4_), (3, .int v3), (7, .int v7), (6, .int v6), (5, .int v5), (2, .int v2), (0, .index 152), (1, .index a1000)] [] h_ (some (.int v4_), h', [])))) := by
  have hA : yas xfo511C_A (xfo511C_r v2 v3 v4_ v5 v6 v7 v300) (yg (xfo511C_s a1000 a1001)) := ⟨List.forall_mem_cons.mpr ⟨b0, fun q_ hq => absurd hq List.not_mem_nil⟩, fun q_ hq => absurd hq List.not_mem_nil, fun q_ hq => absurd hq List.not_mem_nil, fun n_ hn => yg_lo hn, fun q_ hq => absurd hq List.not_mem_nil⟩
  have Hs : ysh xfo511C_A.1 (yg (xfo511C_s a1000 a1001)) h_ := ysh_of2 hs (List.forall_mem_cons.mpr ⟨⟨by decide, k1000⟩, List.forall_mem_cons.mpr ⟨⟨by decide, k1001⟩, fun q_ hq => absurd hq List.not_mem_nil⟩⟩)
  have Ho : ymem (xfo511C_r v2 v3 v4_ v5 v6 v7 v300) (yg (xfo511C_s a1000 a1001)) xfo511C_O h_ := List.forall_mem_cons.mpr ⟨bpat_some o0_, List.forall_mem_cons.mpr ⟨bpat_some o1, List.forall_mem_cons.mpr ⟨bpat_some o2, fun q_ hq => absurd hq List.not_mem_nil⟩⟩⟩
  have HC : ∀ q_ ∈ xfo511C_C, xhold (xfo511C_r v2 v3 v4_ v5 v6 v7 v300) q_ := List.forall_mem_cons.mpr ⟨xh_eqF2 c0_, List.forall_mem_cons.mpr ⟨xh_ltT c1_, fun q_ hq => absurd hq List.not_mem_nil⟩⟩
  rcases yrun (yis_ok xfo511C_k) hA Hs Ho HC with ⟨q_, hq, h', K_, G_⟩ | ⟨q_, hq, h', K_, G_⟩
  · cases hq
  · have e_ := List.mem_singleton.mp hq
    subst e_
    exact ⟨h', yfr_sm K_.2.2.2 hs K_.1 (ywa_r xfo511C_w List.mem_cons_self), ⟨fun a_ j_ => yfr_bp K_.2.2.2 (fun q_ hq => absurd hq List.not_mem_nil), G_⟩⟩
-- xfo520C: 37 steps, 0 ends, 1 returns
def xfo520C_L : List (Nat × Nat × Nat) := [(1000, 6, 2), (1001, 20, 12)]
def xfo520C_O : yO := [(1000, .int 1, .arg 300), (1000, .int 0, .index 1001), (1001, .arg 4, .int 52)]
def xfo520C_A : yA := (yZ xfo520C_L, [(.arg 4, 12)], [], [], [])
def xfo520C_C : List xB := [(.eq, .arg 2, .int 0, true), (.lt, .arg 4, .arg 300, true)]
def xfo520C_ss : List yS := []
def xfo520C_rs : List yR := [(some (.arg 4), [(1000, .int 1, .arg 300), (1000, .int 0, .index 1001), (1001, .arg 4, .int 52)], [(.eq, .arg 2, .int 0, true), (.lt, .arg 4, .arg 300, true)], [])]
theorem xfo520C_w : ywa xfo520C_A xfo520C_ss xfo520C_rs = true := by decide +kernel
theorem xfo520C_k : yis (yev xfo520C_A 3000 60 5 [7] (7, [(4, .arg 4), (3, .arg 3), (7, .arg 7), (6, .arg 6), (5, .arg 5), (2, .arg 2), (0, .index 152), (1, .index 1000)], [], xfo520C_O, xfo520C_C, [])) xfo520C_ss xfo520C_rs = true := by decide +kernel
def xfo520C_r (v2 v3 v4_ v5 v6 v7 v300 : Int32) (k_ : Nat) : Value := bif Nat.beq k_ 2 then .int v2 else (bif Nat.beq k_ 3 then .int v3 else (bif Nat.beq k_ 4 then .int v4_ else (bif Nat.beq k_ 5 then .int v5 else (bif Nat.beq k_ 6 then .int v6 else (bif Nat.beq k_ 7 then .int v7 else (bif Nat.beq k_ 300 then .int v300 else (.int 0)))))))
def xfo520C_s (a1000 a1001 : Nat) (n_ : Nat) : Nat := bif Nat.beq n_ 1000 then a1000 else (bif Nat.beq n_ 1001 then a1001 else (0))
theorem xfo520C {h_ : xH} {a1000 a1001 : Nat} {v2 v3 v4_ v5 v6 v7 v300 : Int32} (hs : sHp h_) (k1000 : bcq h_ a1000 6 2) (k1001 : bcq h_ a1001 20 12) (o0_ : bpat h_ a1000 1 = some (.int v300)) (o1 : bpat h_ a1000 0 = some (.index a1001)) (o2 : bpat h_ a1001 (v4_).toInt.toNat = some (.int (52 : Int32))) (b0 : 0 ≤ (v4_).toInt ∧ (v4_).toInt < 12) (c0_ : v2 = (0 : Int32)) (c1_ : v4_.toInt < v300.toInt) : ∃ h', ysm h_ h' ∧ (((∀ a_ j_ : Nat, bpat h' a_ j_ = bpat h_ a_ j_) ∧ (∀ D_, 60 ≤ D_ → xrun D_ 5 7 [(4, .int v4_), (3, .int v3), (7, .int v7), (6, .int v6), (5, .int v5), (2, .int v2), (0, .index 152), (1, .index a1000)] [] h_ (some (.int v4_), h', [])))) := by
  have hA : yas xfo520C_A (xfo520C_r v2 v3 v4_ v5 v6 v7 v300) (yg (xfo520C_s a1000 a1001)) := ⟨List.forall_mem_cons.mpr ⟨b0, fun q_ hq => absurd hq List.not_mem_nil⟩, fun q_ hq => absurd hq List.not_mem_nil, fun q_ hq => absurd hq List.not_mem_nil, fun n_ hn => yg_lo hn, fun q_ hq => absurd hq List.not_mem_nil⟩
  have Hs : ysh xfo520C_A.1 (yg (xfo520C_s a1000 a1001)) h_ := ysh_of2 hs (List.forall_mem_cons.mpr ⟨⟨by decide, k1000⟩, List.forall_mem_cons.mpr ⟨⟨by decide, k1001⟩, fun q_ hq => absurd hq List.not_mem_nil⟩⟩)
  have Ho : ymem (xfo520C_r v2 v3 v4_ v5 v6 v7 v300) (yg (xfo520C_s a1000 a1001)) xfo520C_O h_ := List.forall_mem_cons.mpr ⟨bpat_some o0_, List.forall_mem_cons.mpr ⟨bpat_some o1, List.forall_mem_cons.mpr ⟨bpat_some o2, fun q_ hq => absurd hq List.not_mem_nil⟩⟩⟩
  have HC : ∀ q_ ∈ xfo520C_C, xhold (xfo520C_r v2 v3 v4_ v5 v6 v7 v300) q_ := List.forall_mem_cons.mpr ⟨xh_eqT2 c0_, List.forall_mem_cons.mpr ⟨xh_ltT c1_, fun q_ hq => absurd hq List.not_mem_nil⟩⟩
  rcases yrun (yis_ok xfo520C_k) hA Hs Ho HC with ⟨q_, hq, h', K_, G_⟩ | ⟨q_, hq, h', K_, G_⟩
  · cases hq
  · have e_ := List.mem_singleton.mp hq
    subst e_
    exact ⟨h', yfr_sm K_.2.2.2 hs K_.1 (ywa_r xfo520C_w List.mem_cons_self), ⟨fun a_ j_ => yfr_bp K_.2.2.2 (fun q_ hq => absurd hq List.not_mem_nil), G_⟩⟩
-- xfo521C: 55 steps, 1 ends, 0 returns
def xfo521C_L : List (Nat × Nat × Nat) := [(1000, 6, 2), (1001, 20, 12)]
def xfo521C_O : yO := [(1000, .int 1, .arg 300), (1000, .int 0, .index 1001), (1001, .arg 4, .int 52)]
def xfo521C_A : yA := (yZ xfo521C_L, [(.arg 4, 12)], [], [], [])
def xfo521C_C : List xB := [(.eq, .arg 2, .int 0, false), (.lt, .arg 4, .arg 300, true)]
def xfo521C_ss : List yS := [(7, [(4, .add (.arg 4) (.int 1)), (3, .int 0), (2, .add (.arg 2) (.int 1)), (7, .int 1), (6, .int 0), (5, .int 52), (0, .index 152), (1, .index 1000)], [], [(1000, .int 1, .arg 300), (1000, .int 0, .index 1001), (1001, .arg 4, .int 52)], [(.eq, .arg 2, .int 0, false), (.lt, .arg 4, .arg 300, true)], [])]
def xfo521C_rs : List yR := []
theorem xfo521C_w : ywa xfo521C_A xfo521C_ss xfo521C_rs = true := by decide +kernel
theorem xfo521C_k : yis (yev xfo521C_A 3000 60 5 [7] (7, [(4, .arg 4), (3, .arg 3), (7, .arg 7), (6, .arg 6), (5, .arg 5), (2, .arg 2), (0, .index 152), (1, .index 1000)], [], xfo521C_O, xfo521C_C, [])) xfo521C_ss xfo521C_rs = true := by decide +kernel
def xfo521C_r (v2 v3 v4_ v5 v6 v7 v300 : Int32) (k_ : Nat) : Value := bif Nat.beq k_ 2 then .int v2 else (bif Nat.beq k_ 3 then .int v3 else (bif Nat.beq k_ 4 then .int v4_ else (bif Nat.beq k_ 5 then .int v5 else (bif Nat.beq k_ 6 then .int v6 else (bif Nat.beq k_ 7 then .int v7 else (bif Nat.beq k_ 300 then .int v300 else (.int 0)))))))
def xfo521C_s (a1000 a1001 : Nat) (n_ : Nat) : Nat := bif Nat.beq n_ 1000 then a1000 else (bif Nat.beq n_ 1001 then a1001 else (0))
theorem xfo521C {h_ : xH} {a1000 a1001 : Nat} {v2 v3 v4_ v5 v6 v7 v300 : Int32} (hs : sHp h_) (k1000 : bcq h_ a1000 6 2) (k1001 : bcq h_ a1001 20 12) (o0_ : bpat h_ a1000 1 = some (.int v300)) (o1 : bpat h_ a1000 0 = some (.index a1001)) (o2 : bpat h_ a1001 (v4_).toInt.toNat = some (.int (52 : Int32))) (b0 : 0 ≤ (v4_).toInt ∧ (v4_).toInt < 12) (c0_ : ¬ v2 = (0 : Int32)) (c1_ : v4_.toInt < v300.toInt) : ∃ h', ysm h_ h' ∧ (((∀ a_ j_ : Nat, bpat h' a_ j_ = bpat h_ a_ j_) ∧ (bldD 60 5 7 [(4, .int v4_), (3, .int v3), (7, .int v7), (6, .int v6), (5, .int v5), (2, .int v2), (0, .index 152), (1, .index a1000)] [] h_ 7 [(4, .int (v4_ + (1 : Int32))), (3, .int (0 : Int32)), (2, .int (v2 + (1 : Int32))), (7, .int (1 : Int32)), (6, .int (0 : Int32)), (5, .int (52 : Int32)), (0, .index 152), (1, .index a1000)] [] h'))) := by
  have hA : yas xfo521C_A (xfo521C_r v2 v3 v4_ v5 v6 v7 v300) (yg (xfo521C_s a1000 a1001)) := ⟨List.forall_mem_cons.mpr ⟨b0, fun q_ hq => absurd hq List.not_mem_nil⟩, fun q_ hq => absurd hq List.not_mem_nil, fun q_ hq => absurd hq List.not_mem_nil, fun n_ hn => yg_lo hn, fun q_ hq => absurd hq List.not_mem_nil⟩
  have Hs : ysh xfo521C_A.1 (yg (xfo521C_s a1000 a1001)) h_ := ysh_of2 hs (List.forall_mem_cons.mpr ⟨⟨by decide, k1000⟩, List.forall_mem_cons.mpr ⟨⟨by decide, k1001⟩, fun q_ hq => absurd hq List.not_mem_nil⟩⟩)
  have Ho : ymem (xfo521C_r v2 v3 v4_ v5 v6 v7 v300) (yg (xfo521C_s a1000 a1001)) xfo521C_O h_ := List.forall_mem_cons.mpr ⟨bpat_some o0_, List.forall_mem_cons.mpr ⟨bpat_some o1, List.forall_mem_cons.mpr ⟨bpat_some o2, fun q_ hq => absurd hq List.not_mem_nil⟩⟩⟩
  have HC : ∀ q_ ∈ xfo521C_C, xhold (xfo521C_r v2 v3 v4_ v5 v6 v7 v300) q_ := List.forall_mem_cons.mpr ⟨xh_eqF2 c0_, List.forall_mem_cons.mpr ⟨xh_ltT c1_, fun q_ hq => absurd hq List.not_mem_nil⟩⟩
  rcases yrun (yis_ok xfo521C_k) hA Hs Ho HC with ⟨q_, hq, h', K_, G_⟩ | ⟨q_, hq, h', K_, G_⟩
  · have e_ := List.mem_singleton.mp hq
    subst e_
    exact ⟨h', yfr_sm K_.2.2.2 hs K_.1 (ywa_s xfo521C_w List.mem_cons_self), ⟨fun a_ j_ => yfr_bp K_.2.2.2 (fun q_ hq => absurd hq List.not_mem_nil), G_⟩⟩
  · cases hq
-- xfo530C: 37 steps, 0 ends, 1 returns
def xfo530C_L : List (Nat × Nat × Nat) := [(1000, 6, 2), (1001, 20, 12)]
def xfo530C_O : yO := [(1000, .int 1, .arg 300), (1000, .int 0, .index 1001), (1001, .arg 4, .int 53)]
def xfo530C_A : yA := (yZ xfo530C_L, [(.arg 4, 12)], [], [], [])
def xfo530C_C : List xB := [(.eq, .arg 2, .int 0, true), (.lt, .arg 4, .arg 300, true)]
def xfo530C_ss : List yS := []
def xfo530C_rs : List yR := [(some (.arg 4), [(1000, .int 1, .arg 300), (1000, .int 0, .index 1001), (1001, .arg 4, .int 53)], [(.eq, .arg 2, .int 0, true), (.lt, .arg 4, .arg 300, true)], [])]
theorem xfo530C_w : ywa xfo530C_A xfo530C_ss xfo530C_rs = true := by decide +kernel
theorem xfo530C_k : yis (yev xfo530C_A 3000 60 5 [7] (7, [(4, .arg 4), (3, .arg 3), (7, .arg 7), (6, .arg 6), (5, .arg 5), (2, .arg 2), (0, .index 152), (1, .index 1000)], [], xfo530C_O, xfo530C_C, [])) xfo530C_ss xfo530C_rs = true := by decide +kernel
def xfo530C_r (v2 v3 v4_ v5 v6 v7 v300 : Int32) (k_ : Nat) : Value := bif Nat.beq k_ 2 then .int v2 else (bif Nat.beq k_ 3 then .int v3 else (bif Nat.beq k_ 4 then .int v4_ else (bif Nat.beq k_ 5 then .int v5 else (bif Nat.beq k_ 6 then .int v6 else (bif Nat.beq k_ 7 then .int v7 else (bif Nat.beq k_ 300 then .int v300 else (.int 0)))))))
def xfo530C_s (a1000 a1001 : Nat) (n_ : Nat) : Nat := bif Nat.beq n_ 1000 then a1000 else (bif Nat.beq n_ 1001 then a1001 else (0))
theorem xfo530C {h_ : xH} {a1000 a1001 : Nat} {v2 v3 v4_ v5 v6 v7 v300 : Int32} (hs : sHp h_) (k1000 : bcq h_ a1000 6 2) (k1001 : bcq h_ a1001 20 12) (o0_ : bpat h_ a1000 1 = some (.int v300)) (o1 : bpat h_ a1000 0 = some (.index a1001)) (o2 : bpat h_ a1001 (v4_).toInt.toNat = some (.int (53 : Int32))) (b0 : 0 ≤ (v4_).toInt ∧ (v4_).toInt < 12) (c0_ : v2 = (0 : Int32)) (c1_ : v4_.toInt < v300.toInt) : ∃ h', ysm h_ h' ∧ (((∀ a_ j_ : Nat, bpat h' a_ j_ = bpat h_ a_ j_) ∧ (∀ D_, 60 ≤ D_ → xrun D_ 5 7 [(4, .int v4_), (3, .int v3), (7, .int v7), (6, .int v6), (5, .int v5), (2, .int v2), (0, .index 152), (1, .index a1000)] [] h_ (some (.int v4_), h', [])))) := by
  have hA : yas xfo530C_A (xfo530C_r v2 v3 v4_ v5 v6 v7 v300) (yg (xfo530C_s a1000 a1001)) := ⟨List.forall_mem_cons.mpr ⟨b0, fun q_ hq => absurd hq List.not_mem_nil⟩, fun q_ hq => absurd hq List.not_mem_nil, fun q_ hq => absurd hq List.not_mem_nil, fun n_ hn => yg_lo hn, fun q_ hq => absurd hq List.not_mem_nil⟩
  have Hs : ysh xfo530C_A.1 (yg (xfo530C_s a1000 a1001)) h_ := ysh_of2 hs (List.forall_mem_cons.mpr ⟨⟨by decide, k1000⟩, List.forall_mem_cons.mpr ⟨⟨by decide, k1001⟩, fun q_ hq => absurd hq List.not_mem_nil⟩⟩)
  have Ho : ymem (xfo530C_r v2 v3 v4_ v5 v6 v7 v300) (yg (xfo530C_s a1000 a1001)) xfo530C_O h_ := List.forall_mem_cons.mpr ⟨bpat_some o0_, List.forall_mem_cons.mpr ⟨bpat_some o1, List.forall_mem_cons.mpr ⟨bpat_some o2, fun q_ hq => absurd hq List.not_mem_nil⟩⟩⟩
  have HC : ∀ q_ ∈ xfo530C_C, xhold (xfo530C_r v2 v3 v4_ v5 v6 v7 v300) q_ := List.forall_mem_cons.mpr ⟨xh_eqT2 c0_, List.forall_mem_cons.mpr ⟨xh_ltT c1_, fun q_ hq => absurd hq List.not_mem_nil⟩⟩
  rcases yrun (yis_ok xfo530C_k) hA Hs Ho HC with ⟨q_, hq, h', K_, G_⟩ | ⟨q_, hq, h', K_, G_⟩
  · cases hq
  · have e_ := List.mem_singleton.mp hq
    subst e_
    exact ⟨h', yfr_sm K_.2.2.2 hs K_.1 (ywa_r xfo530C_w List.mem_cons_self), ⟨fun a_ j_ => yfr_bp K_.2.2.2 (fun q_ hq => absurd hq List.not_mem_nil), G_⟩⟩
-- xfo531C: 58 steps, 1 ends, 0 returns
def xfo531C_L : List (Nat × Nat × Nat) := [(1000, 6, 2), (1001, 20, 12)]
def xfo531C_O : yO := [(1000, .int 1, .arg 300), (1000, .int 0, .index 1001), (1001, .arg 4, .int 53)]
def xfo531C_A : yA := (yZ xfo531C_L, [(.arg 4, 12)], [], [], [])
def xfo531C_C : List xB := [(.eq, .arg 2, .int 0, false), (.lt, .arg 4, .arg 300, true)]
def xfo531C_ss : List yS := [(7, [(4, .add (.arg 4) (.int 1)), (3, .int 0), (7, .int 1), (6, .int 0), (5, .int 53), (2, .arg 2), (0, .index 152), (1, .index 1000)], [], [(1000, .int 1, .arg 300), (1000, .int 0, .index 1001), (1001, .arg 4, .int 53)], [(.eq, .arg 2, .int 0, false), (.lt, .arg 4, .arg 300, true)], [])]
def xfo531C_rs : List yR := []
theorem xfo531C_w : ywa xfo531C_A xfo531C_ss xfo531C_rs = true := by decide +kernel
theorem xfo531C_k : yis (yev xfo531C_A 3000 60 5 [7] (7, [(4, .arg 4), (3, .arg 3), (7, .arg 7), (6, .arg 6), (5, .arg 5), (2, .arg 2), (0, .index 152), (1, .index 1000)], [], xfo531C_O, xfo531C_C, [])) xfo531C_ss xfo531C_rs = true := by decide +kernel
def xfo531C_r (v2 v3 v4_ v5 v6 v7 v300 : Int32) (k_ : Nat) : Value := bif Nat.beq k_ 2 then .int v2 else (bif Nat.beq k_ 3 then .int v3 else (bif Nat.beq k_ 4 then .int v4_ else (bif Nat.beq k_ 5 then .int v5 else (bif Nat.beq k_ 6 then .int v6 else (bif Nat.beq k_ 7 then .int v7 else (bif Nat.beq k_ 300 then .int v300 else (.int 0)))))))
def xfo531C_s (a1000 a1001 : Nat) (n_ : Nat) : Nat := bif Nat.beq n_ 1000 then a1000 else (bif Nat.beq n_ 1001 then a1001 else (0))
theorem xfo531C {h_ : xH} {a1000 a1001 : Nat} {v2 v3 v4_ v5 v6 v7 v300 : Int32} (hs : sHp h_) (k1000 : bcq h_ a1000 6 2) (k1001 : bcq h_ a1001 20 12) (o0_ : bpat h_ a1000 1 = some (.int v300)) (o1 : bpat h_ a1000 0 = some (.index a1001)) (o2 : bpat h_ a1001 (v4_).toInt.toNat = some (.int (53 : Int32))) (b0 : 0 ≤ (v4_).toInt ∧ (v4_).toInt < 12) (c0_ : ¬ v2 = (0 : Int32)) (c1_ : v4_.toInt < v300.toInt) : ∃ h', ysm h_ h' ∧ (((∀ a_ j_ : Nat, bpat h' a_ j_ = bpat h_ a_ j_) ∧ (bldD 60 5 7 [(4, .int v4_), (3, .int v3), (7, .int v7), (6, .int v6), (5, .int v5), (2, .int v2), (0, .index 152), (1, .index a1000)] [] h_ 7 [(4, .int (v4_ + (1 : Int32))), (3, .int (0 : Int32)), (7, .int (1 : Int32)), (6, .int (0 : Int32)), (5, .int (53 : Int32)), (2, .int v2), (0, .index 152), (1, .index a1000)] [] h'))) := by
  have hA : yas xfo531C_A (xfo531C_r v2 v3 v4_ v5 v6 v7 v300) (yg (xfo531C_s a1000 a1001)) := ⟨List.forall_mem_cons.mpr ⟨b0, fun q_ hq => absurd hq List.not_mem_nil⟩, fun q_ hq => absurd hq List.not_mem_nil, fun q_ hq => absurd hq List.not_mem_nil, fun n_ hn => yg_lo hn, fun q_ hq => absurd hq List.not_mem_nil⟩
  have Hs : ysh xfo531C_A.1 (yg (xfo531C_s a1000 a1001)) h_ := ysh_of2 hs (List.forall_mem_cons.mpr ⟨⟨by decide, k1000⟩, List.forall_mem_cons.mpr ⟨⟨by decide, k1001⟩, fun q_ hq => absurd hq List.not_mem_nil⟩⟩)
  have Ho : ymem (xfo531C_r v2 v3 v4_ v5 v6 v7 v300) (yg (xfo531C_s a1000 a1001)) xfo531C_O h_ := List.forall_mem_cons.mpr ⟨bpat_some o0_, List.forall_mem_cons.mpr ⟨bpat_some o1, List.forall_mem_cons.mpr ⟨bpat_some o2, fun q_ hq => absurd hq List.not_mem_nil⟩⟩⟩
  have HC : ∀ q_ ∈ xfo531C_C, xhold (xfo531C_r v2 v3 v4_ v5 v6 v7 v300) q_ := List.forall_mem_cons.mpr ⟨xh_eqF2 c0_, List.forall_mem_cons.mpr ⟨xh_ltT c1_, fun q_ hq => absurd hq List.not_mem_nil⟩⟩
  rcases yrun (yis_ok xfo531C_k) hA Hs Ho HC with ⟨q_, hq, h', K_, G_⟩ | ⟨q_, hq, h', K_, G_⟩
  · have e_ := List.mem_singleton.mp hq
    subst e_
    exact ⟨h', yfr_sm K_.2.2.2 hs K_.1 (ywa_s xfo531C_w List.mem_cons_self), ⟨fun a_ j_ => yfr_bp K_.2.2.2 (fun q_ hq => absurd hq List.not_mem_nil), G_⟩⟩
  · cases hq
-- xfoW0C: 37 steps, 0 ends, 1 returns
def xfoW0C_L : List (Nat × Nat × Nat) := [(1000, 6, 2), (1001, 20, 12)]
def xfoW0C_O : yO := [(1000, .int 1, .arg 300), (1000, .int 0, .index 1001), (1001, .arg 4, .arg 301)]
def xfoW0C_A : yA := (yZ xfoW0C_L, [(.arg 4, 12)], [], [], [])
def xfoW0C_C : List xB := [(.eq, .arg 2, .int 0, true), (.lt, .arg 301, .int 60, true), (.eq, .arg 301, .int 51, false), (.eq, .arg 301, .int 50, false), (.lt, .arg 4, .arg 300, true)]
def xfoW0C_ss : List yS := []
def xfoW0C_rs : List yR := [(some (.arg 4), [(1000, .int 1, .arg 300), (1000, .int 0, .index 1001), (1001, .arg 4, .arg 301)], [(.eq, .arg 2, .int 0, true), (.lt, .arg 301, .int 60, true), (.eq, .arg 301, .int 51, false), (.eq, .arg 301, .int 50, false), (.lt, .arg 4, .arg 300, true)], [])]
theorem xfoW0C_w : ywa xfoW0C_A xfoW0C_ss xfoW0C_rs = true := by decide +kernel
theorem xfoW0C_k : yis (yev xfoW0C_A 3000 60 5 [7] (7, [(4, .arg 4), (3, .arg 3), (7, .arg 7), (6, .arg 6), (5, .arg 5), (2, .arg 2), (0, .index 152), (1, .index 1000)], [], xfoW0C_O, xfoW0C_C, [])) xfoW0C_ss xfoW0C_rs = true := by decide +kernel
def xfoW0C_r (v2 v3 v4_ v5 v6 v7 v300 v301 : Int32) (k_ : Nat) : Value := bif Nat.beq k_ 2 then .int v2 else (bif Nat.beq k_ 3 then .int v3 else (bif Nat.beq k_ 4 then .int v4_ else (bif Nat.beq k_ 5 then .int v5 else (bif Nat.beq k_ 6 then .int v6 else (bif Nat.beq k_ 7 then .int v7 else (bif Nat.beq k_ 300 then .int v300 else (bif Nat.beq k_ 301 then .int v301 else (.int 0))))))))
def xfoW0C_s (a1000 a1001 : Nat) (n_ : Nat) : Nat := bif Nat.beq n_ 1000 then a1000 else (bif Nat.beq n_ 1001 then a1001 else (0))
theorem xfoW0C {h_ : xH} {a1000 a1001 : Nat} {v2 v3 v4_ v5 v6 v7 v300 v301 : Int32} (hs : sHp h_) (k1000 : bcq h_ a1000 6 2) (k1001 : bcq h_ a1001 20 12) (o0_ : bpat h_ a1000 1 = some (.int v300)) (o1 : bpat h_ a1000 0 = some (.index a1001)) (o2 : bpat h_ a1001 (v4_).toInt.toNat = some (.int v301)) (b0 : 0 ≤ (v4_).toInt ∧ (v4_).toInt < 12) (c0_ : v2 = (0 : Int32)) (c1_ : v301.toInt < (60 : Int32).toInt) (c2_ : ¬ v301 = (51 : Int32)) (c3_ : ¬ v301 = (50 : Int32)) (c4_ : v4_.toInt < v300.toInt) : ∃ h', ysm h_ h' ∧ (((∀ a_ j_ : Nat, bpat h' a_ j_ = bpat h_ a_ j_) ∧ (∀ D_, 60 ≤ D_ → xrun D_ 5 7 [(4, .int v4_), (3, .int v3), (7, .int v7), (6, .int v6), (5, .int v5), (2, .int v2), (0, .index 152), (1, .index a1000)] [] h_ (some (.int v4_), h', [])))) := by
  have hA : yas xfoW0C_A (xfoW0C_r v2 v3 v4_ v5 v6 v7 v300 v301) (yg (xfoW0C_s a1000 a1001)) := ⟨List.forall_mem_cons.mpr ⟨b0, fun q_ hq => absurd hq List.not_mem_nil⟩, fun q_ hq => absurd hq List.not_mem_nil, fun q_ hq => absurd hq List.not_mem_nil, fun n_ hn => yg_lo hn, fun q_ hq => absurd hq List.not_mem_nil⟩
  have Hs : ysh xfoW0C_A.1 (yg (xfoW0C_s a1000 a1001)) h_ := ysh_of2 hs (List.forall_mem_cons.mpr ⟨⟨by decide, k1000⟩, List.forall_mem_cons.mpr ⟨⟨by decide, k1001⟩, fun q_ hq => absurd hq List.not_mem_nil⟩⟩)
  have Ho : ymem (xfoW0C_r v2 v3 v4_ v5 v6 v7 v300 v301) (yg (xfoW0C_s a1000 a1001)) xfoW0C_O h_ := List.forall_mem_cons.mpr ⟨bpat_some o0_, List.forall_mem_cons.mpr ⟨bpat_some o1, List.forall_mem_cons.mpr ⟨bpat_some o2, fun q_ hq => absurd hq List.not_mem_nil⟩⟩⟩
  have HC : ∀ q_ ∈ xfoW0C_C, xhold (xfoW0C_r v2 v3 v4_ v5 v6 v7 v300 v301) q_ := List.forall_mem_cons.mpr ⟨xh_eqT2 c0_, List.forall_mem_cons.mpr ⟨xh_ltT c1_, List.forall_mem_cons.mpr ⟨xh_eqF2 c2_, List.forall_mem_cons.mpr ⟨xh_eqF2 c3_, List.forall_mem_cons.mpr ⟨xh_ltT c4_, fun q_ hq => absurd hq List.not_mem_nil⟩⟩⟩⟩⟩
  rcases yrun (yis_ok xfoW0C_k) hA Hs Ho HC with ⟨q_, hq, h', K_, G_⟩ | ⟨q_, hq, h', K_, G_⟩
  · cases hq
  · have e_ := List.mem_singleton.mp hq
    subst e_
    exact ⟨h', yfr_sm K_.2.2.2 hs K_.1 (ywa_r xfoW0C_w List.mem_cons_self), ⟨fun a_ j_ => yfr_bp K_.2.2.2 (fun q_ hq => absurd hq List.not_mem_nil), G_⟩⟩
-- xfoW1C: 60 steps, 1 ends, 0 returns
def xfoW1C_L : List (Nat × Nat × Nat) := [(1000, 6, 2), (1001, 20, 12)]
def xfoW1C_O : yO := [(1000, .int 1, .arg 300), (1000, .int 0, .index 1001), (1001, .arg 4, .arg 301)]
def xfoW1C_A : yA := (yZ xfoW1C_L, [(.arg 4, 12)], [], [], [])
def xfoW1C_C : List xB := [(.eq, .arg 2, .int 0, false), (.lt, .arg 301, .int 50, true), (.eq, .arg 301, .int 52, false), (.lt, .arg 301, .int 60, true), (.eq, .arg 301, .int 51, false), (.eq, .arg 301, .int 50, false), (.lt, .arg 4, .arg 300, true)]
def xfoW1C_ss : List yS := [(7, [(4, .add (.arg 4) (.int 1)), (3, .int 1), (2, .add (.arg 2) (.int (Int32.ofInt (-1)))), (7, .int 1), (6, .int 0), (5, .arg 301), (0, .index 152), (1, .index 1000)], [], [(1000, .int 1, .arg 300), (1000, .int 0, .index 1001), (1001, .arg 4, .arg 301)], [(.eq, .arg 2, .int 0, false), (.lt, .arg 301, .int 50, true), (.eq, .arg 301, .int 52, false), (.lt, .arg 301, .int 60, true), (.eq, .arg 301, .int 51, false), (.eq, .arg 301, .int 50, false), (.lt, .arg 4, .arg 300, true)], [])]
def xfoW1C_rs : List yR := []
theorem xfoW1C_w : ywa xfoW1C_A xfoW1C_ss xfoW1C_rs = true := by decide +kernel
theorem xfoW1C_k : yis (yev xfoW1C_A 3000 60 5 [7] (7, [(4, .arg 4), (3, .arg 3), (7, .arg 7), (6, .arg 6), (5, .arg 5), (2, .arg 2), (0, .index 152), (1, .index 1000)], [], xfoW1C_O, xfoW1C_C, [])) xfoW1C_ss xfoW1C_rs = true := by decide +kernel
def xfoW1C_r (v2 v3 v4_ v5 v6 v7 v300 v301 : Int32) (k_ : Nat) : Value := bif Nat.beq k_ 2 then .int v2 else (bif Nat.beq k_ 3 then .int v3 else (bif Nat.beq k_ 4 then .int v4_ else (bif Nat.beq k_ 5 then .int v5 else (bif Nat.beq k_ 6 then .int v6 else (bif Nat.beq k_ 7 then .int v7 else (bif Nat.beq k_ 300 then .int v300 else (bif Nat.beq k_ 301 then .int v301 else (.int 0))))))))
def xfoW1C_s (a1000 a1001 : Nat) (n_ : Nat) : Nat := bif Nat.beq n_ 1000 then a1000 else (bif Nat.beq n_ 1001 then a1001 else (0))
theorem xfoW1C {h_ : xH} {a1000 a1001 : Nat} {v2 v3 v4_ v5 v6 v7 v300 v301 : Int32} (hs : sHp h_) (k1000 : bcq h_ a1000 6 2) (k1001 : bcq h_ a1001 20 12) (o0_ : bpat h_ a1000 1 = some (.int v300)) (o1 : bpat h_ a1000 0 = some (.index a1001)) (o2 : bpat h_ a1001 (v4_).toInt.toNat = some (.int v301)) (b0 : 0 ≤ (v4_).toInt ∧ (v4_).toInt < 12) (c0_ : ¬ v2 = (0 : Int32)) (c1_ : v301.toInt < (50 : Int32).toInt) (c2_ : ¬ v301 = (52 : Int32)) (c3_ : v301.toInt < (60 : Int32).toInt) (c4_ : ¬ v301 = (51 : Int32)) (c5_ : ¬ v301 = (50 : Int32)) (c6_ : v4_.toInt < v300.toInt) : ∃ h', ysm h_ h' ∧ (((∀ a_ j_ : Nat, bpat h' a_ j_ = bpat h_ a_ j_) ∧ (bldD 60 5 7 [(4, .int v4_), (3, .int v3), (7, .int v7), (6, .int v6), (5, .int v5), (2, .int v2), (0, .index 152), (1, .index a1000)] [] h_ 7 [(4, .int (v4_ + (1 : Int32))), (3, .int (1 : Int32)), (2, .int (v2 + (Int32.ofInt (-1)))), (7, .int (1 : Int32)), (6, .int (0 : Int32)), (5, .int v301), (0, .index 152), (1, .index a1000)] [] h'))) := by
  have hA : yas xfoW1C_A (xfoW1C_r v2 v3 v4_ v5 v6 v7 v300 v301) (yg (xfoW1C_s a1000 a1001)) := ⟨List.forall_mem_cons.mpr ⟨b0, fun q_ hq => absurd hq List.not_mem_nil⟩, fun q_ hq => absurd hq List.not_mem_nil, fun q_ hq => absurd hq List.not_mem_nil, fun n_ hn => yg_lo hn, fun q_ hq => absurd hq List.not_mem_nil⟩
  have Hs : ysh xfoW1C_A.1 (yg (xfoW1C_s a1000 a1001)) h_ := ysh_of2 hs (List.forall_mem_cons.mpr ⟨⟨by decide, k1000⟩, List.forall_mem_cons.mpr ⟨⟨by decide, k1001⟩, fun q_ hq => absurd hq List.not_mem_nil⟩⟩)
  have Ho : ymem (xfoW1C_r v2 v3 v4_ v5 v6 v7 v300 v301) (yg (xfoW1C_s a1000 a1001)) xfoW1C_O h_ := List.forall_mem_cons.mpr ⟨bpat_some o0_, List.forall_mem_cons.mpr ⟨bpat_some o1, List.forall_mem_cons.mpr ⟨bpat_some o2, fun q_ hq => absurd hq List.not_mem_nil⟩⟩⟩
  have HC : ∀ q_ ∈ xfoW1C_C, xhold (xfoW1C_r v2 v3 v4_ v5 v6 v7 v300 v301) q_ := List.forall_mem_cons.mpr ⟨xh_eqF2 c0_, List.forall_mem_cons.mpr ⟨xh_ltT c1_, List.forall_mem_cons.mpr ⟨xh_eqF2 c2_, List.forall_mem_cons.mpr ⟨xh_ltT c3_, List.forall_mem_cons.mpr ⟨xh_eqF2 c4_, List.forall_mem_cons.mpr ⟨xh_eqF2 c5_, List.forall_mem_cons.mpr ⟨xh_ltT c6_, fun q_ hq => absurd hq List.not_mem_nil⟩⟩⟩⟩⟩⟩⟩
  rcases yrun (yis_ok xfoW1C_k) hA Hs Ho HC with ⟨q_, hq, h', K_, G_⟩ | ⟨q_, hq, h', K_, G_⟩
  · have e_ := List.mem_singleton.mp hq
    subst e_
    exact ⟨h', yfr_sm K_.2.2.2 hs K_.1 (ywa_s xfoW1C_w List.mem_cons_self), ⟨fun a_ j_ => yfr_bp K_.2.2.2 (fun q_ hq => absurd hq List.not_mem_nil), G_⟩⟩
  · cases hq
theorem fo_lp {a_ ia : Nat} {L_ : List Int32} (hL : L_.length ≤ 12) (hS_ : snds L_) : ∀ (l : List Int32) (i_ m_ : Nat) (n_ : Bool) (h_ : xH) (lo_ : xL), sHp h_ → i_ + l.length = L_.length → m_ ≤ i_ + 1 → L_.drop i_ = l → rwx h_ a_ ia 12 L_ → (lo_ = [(4, .int (Int32.ofNat i_)), (3, .int (bI n_)), (2, .int (Int32.ofNat m_)), (0, .index 152), (1, .index a_)] ∨ ((∃ y7 y6 y5 : Int32, lo_ = [(4, .int (Int32.ofNat i_)), (3, .int (bI n_)), (2, .int (Int32.ofNat m_)), (7, .int y7), (6, .int y6), (5, .int y5), (0, .index 152), (1, .index a_)]) ∨ ∃ y7 y6 y5 : Int32, lo_ = [(4, .int (Int32.ofNat i_)), (3, .int (bI n_)), (7, .int y7), (6, .int y6), (5, .int y5), (2, .int (Int32.ofNat m_)), (0, .index 152), (1, .index a_)])) → ∃ h', (ysm h_ h' ∧ ∀ c_ j_, bpat h' c_ j_ = bpat h_ c_ j_) ∧ ∀ D_, 60 ≤ D_ → xrun D_ 5 7 lo_ [] h_ (some (.int (Int32.ofInt (cf m_ n_ i_ l))), h', []) := by
  intro l
  have z60_ : (60 : Int32).toInt = 60 := rfl
  have z99 : (99 : Int32).toInt = 99 := rfl
  have z50_ : (50 : Int32).toInt = 50 := rfl
  have z51 : (51 : Int32).toInt = 51 := rfl
  have z52 : (52 : Int32).toInt = 52 := rfl
  have z0 := z0_
  have nz : ∀ {m_ : Nat}, ¬ m_ = 0 → m_ < 1000 → ¬ Int32.ofNat m_ = 0 := fun g_ hm_ q_ => g_ (by
    have q2_ := congrArg Int32.toInt q_
    rw [i32n (by omega), z0] at q2_
    omega)
  induction l with
  | nil =>
    intro i_ m_ n_ h_ lo_ S_ hi_ hm_ ed R_ hd_
    rw [List.length_nil] at hi_
    have eL : i_ = L_.length := by omega
    have nz : ¬ m_ = 0 → ¬ Int32.ofNat m_ = 0 := fun g_ => nz g_ (by omega)
    rcases hd_ with rfl | ⟨y7, y6, y5, rfl⟩ | ⟨y7, y6, y5, rfl⟩
    · by_cases gm_ : m_ = 0
      · have m0_ : Int32.ofNat m_ = 0 := by rw [gm_]; rfl
        rw [show cf m_ n_ i_ [] = -1 from if_pos gm_]
        obtain ⟨h1, m1_, f1_, r1_⟩ := xfoX0A (v2 := Int32.ofNat m_) (v4_ := Int32.ofNat i_) (v3 := bI n_) (v300 := Int32.ofNat L_.length) S_ R_.1.1 R_.1.2 R_.2.1.2 m0_ (by rw [eL]; exact Int.le_refl _)
        exact ⟨h1, ⟨m1_, f1_⟩, r1_⟩
      · have m0_ := nz gm_
        rw [show cf m_ n_ i_ [] = (i_ : Int) from if_neg gm_]
        obtain ⟨h1, m1_, f1_, r1_⟩ := xfoX1A (v2 := Int32.ofNat m_) (v4_ := Int32.ofNat i_) (v3 := bI n_) (v300 := Int32.ofNat L_.length) S_ R_.1.1 R_.1.2 R_.2.1.2 m0_ (by rw [eL]; exact Int.le_refl _)
        rw [← eL] at r1_
        exact ⟨h1, ⟨m1_, f1_⟩, r1_⟩
    · by_cases gm_ : m_ = 0
      · have m0_ : Int32.ofNat m_ = 0 := by rw [gm_]; rfl
        rw [show cf m_ n_ i_ [] = -1 from if_pos gm_]
        obtain ⟨h1, m1_, f1_, r1_⟩ := xfoX0B (v2 := Int32.ofNat m_) (v4_ := Int32.ofNat i_) (v3 := bI n_) (v5 := y5) (v6 := y6) (v7 := y7) (v300 := Int32.ofNat L_.length) S_ R_.1.1 R_.1.2 R_.2.1.2 m0_ (by rw [eL]; exact Int.le_refl _)
        exact ⟨h1, ⟨m1_, f1_⟩, r1_⟩
      · have m0_ := nz gm_
        rw [show cf m_ n_ i_ [] = (i_ : Int) from if_neg gm_]
        obtain ⟨h1, m1_, f1_, r1_⟩ := xfoX1B (v2 := Int32.ofNat m_) (v4_ := Int32.ofNat i_) (v3 := bI n_) (v5 := y5) (v6 := y6) (v7 := y7) (v300 := Int32.ofNat L_.length) S_ R_.1.1 R_.1.2 R_.2.1.2 m0_ (by rw [eL]; exact Int.le_refl _)
        rw [← eL] at r1_
        exact ⟨h1, ⟨m1_, f1_⟩, r1_⟩
    · by_cases gm_ : m_ = 0
      · have m0_ : Int32.ofNat m_ = 0 := by rw [gm_]; rfl
        rw [show cf m_ n_ i_ [] = -1 from if_pos gm_]
        obtain ⟨h1, m1_, f1_, r1_⟩ := xfoX0C (v2 := Int32.ofNat m_) (v4_ := Int32.ofNat i_) (v3 := bI n_) (v5 := y5) (v6 := y6) (v7 := y7) (v300 := Int32.ofNat L_.length) S_ R_.1.1 R_.1.2 R_.2.1.2 m0_ (by rw [eL]; exact Int.le_refl _)
        exact ⟨h1, ⟨m1_, f1_⟩, r1_⟩
      · have m0_ := nz gm_
        rw [show cf m_ n_ i_ [] = (i_ : Int) from if_neg gm_]
        obtain ⟨h1, m1_, f1_, r1_⟩ := xfoX1C (v2 := Int32.ofNat m_) (v4_ := Int32.ofNat i_) (v3 := bI n_) (v5 := y5) (v6 := y6) (v7 := y7) (v300 := Int32.ofNat L_.length) S_ R_.1.1 R_.1.2 R_.2.1.2 m0_ (by rw [eL]; exact Int.le_refl _)
        rw [← eL] at r1_
        exact ⟨h1, ⟨m1_, f1_⟩, r1_⟩
  | cons v_ t_ ih_ =>
    intro i_ m_ n_ h_ lo_ S_ hi_ hm_ ed R_ hd_
    rw [List.length_cons] at hi_
    have nz : ¬ m_ = 0 → ¬ Int32.ofNat m_ = 0 := fun g_ => nz g_ (by omega)
    have ov : bpat h_ ia i_ = some (.int v_) := R_.2.2.2 i_ v_ (by have q_ : (L_.drop i_)[0]? = some v_ := (by rw [ed]; rfl); rw [List.getElem?_drop, Nat.add_zero] at q_; exact q_)
    have sv : snd_ v_ := hS_ v_ (List.mem_of_mem_drop (by rw [ed]; exact List.mem_cons_self))
    unfold snd_ at sv
    have ed2 : L_.drop (i_ + 1) = t_ := by rw [show L_.drop (i_ + 1) = (L_.drop i_).drop 1 by rw [List.drop_drop], ed]; rfl
    have ed := ed2
    have ii := i32n (i_ := i_) (by omega)
    have iL := i32n (i_ := L_.length) (by omega)
    have lt_ : (Int32.ofNat i_).toInt < (Int32.ofNat L_.length).toInt := by omega
    have n50 : ¬ v_.toInt = 50 → ¬ v_ = 50 := fun q_ q2_ => q_ (by rw [q2_]; rfl)
    have n51 : ¬ v_.toInt = 51 → ¬ v_ = 51 := fun q_ q2_ => q_ (by rw [q2_]; rfl)
    have n52 : ¬ v_.toInt = 52 → ¬ v_ = 52 := fun q_ q2_ => q_ (by rw [q2_]; rfl)
    rcases hd_ with rfl | ⟨y7, y6, y5, rfl⟩ | ⟨y7, y6, y5, rfl⟩
    · by_cases g6 : 60 ≤ v_.toInt
      · cases n_ with
        | true =>
          rw [show cf m_ true i_ (v_ :: t_) = cf m_ true (i_ + 1) t_ from (if_pos g6).trans (if_pos rfl)]
          obtain ⟨h1, m1_, f1_, ld1⟩ := xfoN1A (v2 := Int32.ofNat m_) (v4_ := Int32.ofNat i_) (v300 := Int32.ofNat L_.length) (v301 := v_) S_ R_.1.1 R_.1.2 R_.2.1.2 R_.2.1.1 (by rw [i32t (by omega)]; exact ov) ⟨by omega, by omega⟩ (by omega) (by omega) (n51 (by omega)) (n50 (by omega)) (n52 (by omega)) (by omega) lt_
          rw [i32s] at ld1
          obtain ⟨h2, ⟨m2_, f2_⟩, r2⟩ := ih_ (i_ + 1) m_ true h1 _ m1_.1 (by omega) (by omega) ed (rwx_keep R_ m1_ (fun c_ j_ _ => f1_ c_ j_)) (Or.inr (Or.inr ⟨_, _, _, rfl⟩))
          exact ⟨h2, ⟨ysm_tr m1_ m2_, fun c_ j_ => (f2_ c_ j_).trans (f1_ c_ j_)⟩, fun D_ hD => ld1 D_ hD _ (r2 D_ hD)⟩
        | false =>
          rw [show cf m_ false i_ (v_ :: t_) = (i_ : Int) from (if_pos g6).trans (if_neg (fun q_ => by cases q_))]
          obtain ⟨h1, m1_, f1_, r1_⟩ := xfoN0A (v2 := Int32.ofNat m_) (v4_ := Int32.ofNat i_) (v300 := Int32.ofNat L_.length) (v301 := v_) S_ R_.1.1 R_.1.2 R_.2.1.2 R_.2.1.1 (by rw [i32t (by omega)]; exact ov) ⟨by omega, by omega⟩ (by omega) (by omega) (n51 (by omega)) (n50 (by omega)) lt_
          exact ⟨h1, ⟨m1_, f1_⟩, r1_⟩
      by_cases e50 : v_.toInt = 50
      · have ev_ : v_ = 50 := Int32.toInt_inj.mp e50
        subst ev_
        by_cases gm_ : m_ = 0
        · have m0_ : Int32.ofNat m_ = 0 := by rw [gm_]; rfl
          rw [show cf m_ n_ i_ (50 :: t_) = cf (m_ + 1) false (i_ + 1) t_ from (if_neg g6).trans ((if_pos (Or.inl e50)).trans ((if_pos gm_).trans (by rw [gm_])))]
          obtain ⟨h1, m1_, f1_, ld1⟩ := xfo500A (v2 := Int32.ofNat m_) (v4_ := Int32.ofNat i_) (v3 := bI n_) (v300 := Int32.ofNat L_.length) S_ R_.1.1 R_.1.2 R_.2.1.2 R_.2.1.1 (by rw [i32t (by omega)]; exact ov) ⟨by omega, by omega⟩ m0_ lt_
          rw [i32s, i32s] at ld1
          obtain ⟨h2, ⟨m2_, f2_⟩, r2⟩ := ih_ (i_ + 1) (m_ + 1) false h1 _ m1_.1 (by omega) (by omega) ed2 (rwx_keep R_ m1_ (fun c_ j_ _ => f1_ c_ j_)) (Or.inr (Or.inl ⟨_, _, _, rfl⟩))
          exact ⟨h2, ⟨ysm_tr m1_ m2_, fun c_ j_ => (f2_ c_ j_).trans (f1_ c_ j_)⟩, fun D_ hD => ld1 D_ hD _ (r2 D_ hD)⟩
        · have m0_ := nz gm_
          rw [show cf m_ n_ i_ (50 :: t_) = (i_ : Int) from (if_neg g6).trans ((if_pos (Or.inl e50)).trans (if_neg gm_))]
          obtain ⟨h1, m1_, f1_, r1_⟩ := xfo501A (v2 := Int32.ofNat m_) (v4_ := Int32.ofNat i_) (v3 := bI n_) (v300 := Int32.ofNat L_.length) S_ R_.1.1 R_.1.2 R_.2.1.2 R_.2.1.1 (by rw [i32t (by omega)]; exact ov) ⟨by omega, by omega⟩ m0_ lt_
          exact ⟨h1, ⟨m1_, f1_⟩, r1_⟩
      by_cases e51 : v_.toInt = 51
      · have ev_ : v_ = 51 := Int32.toInt_inj.mp e51
        subst ev_
        by_cases gm_ : m_ = 0
        · have m0_ : Int32.ofNat m_ = 0 := by rw [gm_]; rfl
          rw [show cf m_ n_ i_ (51 :: t_) = cf (m_ + 1) false (i_ + 1) t_ from (if_neg g6).trans ((if_pos (Or.inr e51)).trans ((if_pos gm_).trans (by rw [gm_])))]
          obtain ⟨h1, m1_, f1_, ld1⟩ := xfo510A (v2 := Int32.ofNat m_) (v4_ := Int32.ofNat i_) (v3 := bI n_) (v300 := Int32.ofNat L_.length) S_ R_.1.1 R_.1.2 R_.2.1.2 R_.2.1.1 (by rw [i32t (by omega)]; exact ov) ⟨by omega, by omega⟩ m0_ lt_
          rw [i32s, i32s] at ld1
          obtain ⟨h2, ⟨m2_, f2_⟩, r2⟩ := ih_ (i_ + 1) (m_ + 1) false h1 _ m1_.1 (by omega) (by omega) ed2 (rwx_keep R_ m1_ (fun c_ j_ _ => f1_ c_ j_)) (Or.inr (Or.inl ⟨_, _, _, rfl⟩))
          exact ⟨h2, ⟨ysm_tr m1_ m2_, fun c_ j_ => (f2_ c_ j_).trans (f1_ c_ j_)⟩, fun D_ hD => ld1 D_ hD _ (r2 D_ hD)⟩
        · have m0_ := nz gm_
          rw [show cf m_ n_ i_ (51 :: t_) = (i_ : Int) from (if_neg g6).trans ((if_pos (Or.inr e51)).trans (if_neg gm_))]
          obtain ⟨h1, m1_, f1_, r1_⟩ := xfo511A (v2 := Int32.ofNat m_) (v4_ := Int32.ofNat i_) (v3 := bI n_) (v300 := Int32.ofNat L_.length) S_ R_.1.1 R_.1.2 R_.2.1.2 R_.2.1.1 (by rw [i32t (by omega)]; exact ov) ⟨by omega, by omega⟩ m0_ lt_
          exact ⟨h1, ⟨m1_, f1_⟩, r1_⟩
      have gj : ¬ (v_.toInt = 50 ∨ v_.toInt = 51) := by omega
      by_cases e52 : v_.toInt = 52
      · have ev_ : v_ = 52 := Int32.toInt_inj.mp e52
        subst ev_
        by_cases gm_ : m_ = 0
        · have m0_ : Int32.ofNat m_ = 0 := by rw [gm_]; rfl
          rw [show cf m_ n_ i_ (52 :: t_) = (i_ : Int) from (if_neg g6).trans ((if_neg gj).trans (if_pos gm_))]
          obtain ⟨h1, m1_, f1_, r1_⟩ := xfo520A (v2 := Int32.ofNat m_) (v4_ := Int32.ofNat i_) (v3 := bI n_) (v300 := Int32.ofNat L_.length) S_ R_.1.1 R_.1.2 R_.2.1.2 R_.2.1.1 (by rw [i32t (by omega)]; exact ov) ⟨by omega, by omega⟩ m0_ lt_
          exact ⟨h1, ⟨m1_, f1_⟩, r1_⟩
        · have m0_ := nz gm_
          rw [show cf m_ n_ i_ (52 :: t_) = cf (m_ + 1) false (i_ + 1) t_ from (if_neg g6).trans ((if_neg gj).trans ((if_neg gm_).trans (if_pos e52)))]
          obtain ⟨h1, m1_, f1_, ld1⟩ := xfo521A (v2 := Int32.ofNat m_) (v4_ := Int32.ofNat i_) (v3 := bI n_) (v300 := Int32.ofNat L_.length) S_ R_.1.1 R_.1.2 R_.2.1.2 R_.2.1.1 (by rw [i32t (by omega)]; exact ov) ⟨by omega, by omega⟩ m0_ lt_
          rw [i32s, i32s] at ld1
          obtain ⟨h2, ⟨m2_, f2_⟩, r2⟩ := ih_ (i_ + 1) (m_ + 1) false h1 _ m1_.1 (by omega) (by omega) ed2 (rwx_keep R_ m1_ (fun c_ j_ _ => f1_ c_ j_)) (Or.inr (Or.inl ⟨_, _, _, rfl⟩))
          exact ⟨h2, ⟨ysm_tr m1_ m2_, fun c_ j_ => (f2_ c_ j_).trans (f1_ c_ j_)⟩, fun D_ hD => ld1 D_ hD _ (r2 D_ hD)⟩
      by_cases e53 : v_.toInt = 53
      · have ev_ : v_ = 53 := Int32.toInt_inj.mp e53
        subst ev_
        by_cases gm_ : m_ = 0
        · have m0_ : Int32.ofNat m_ = 0 := by rw [gm_]; rfl
          rw [show cf m_ n_ i_ (53 :: t_) = (i_ : Int) from (if_neg g6).trans ((if_neg gj).trans (if_pos gm_))]
          obtain ⟨h1, m1_, f1_, r1_⟩ := xfo530A (v2 := Int32.ofNat m_) (v4_ := Int32.ofNat i_) (v3 := bI n_) (v300 := Int32.ofNat L_.length) S_ R_.1.1 R_.1.2 R_.2.1.2 R_.2.1.1 (by rw [i32t (by omega)]; exact ov) ⟨by omega, by omega⟩ m0_ lt_
          exact ⟨h1, ⟨m1_, f1_⟩, r1_⟩
        · have m0_ := nz gm_
          rw [show cf m_ n_ i_ (53 :: t_) = cf m_ false (i_ + 1) t_ from (if_neg g6).trans ((if_neg gj).trans ((if_neg gm_).trans ((if_neg e52).trans (if_pos e53))))]
          obtain ⟨h1, m1_, f1_, ld1⟩ := xfo531A (v2 := Int32.ofNat m_) (v4_ := Int32.ofNat i_) (v3 := bI n_) (v300 := Int32.ofNat L_.length) S_ R_.1.1 R_.1.2 R_.2.1.2 R_.2.1.1 (by rw [i32t (by omega)]; exact ov) ⟨by omega, by omega⟩ m0_ lt_
          rw [i32s] at ld1
          obtain ⟨h2, ⟨m2_, f2_⟩, r2⟩ := ih_ (i_ + 1) m_ false h1 _ m1_.1 (by omega) (by omega) ed2 (rwx_keep R_ m1_ (fun c_ j_ _ => f1_ c_ j_)) (Or.inr (Or.inr ⟨_, _, _, rfl⟩))
          exact ⟨h2, ⟨ysm_tr m1_ m2_, fun c_ j_ => (f2_ c_ j_).trans (f1_ c_ j_)⟩, fun D_ hD => ld1 D_ hD _ (r2 D_ hD)⟩
      by_cases gm_ : m_ = 0
      · have m0_ : Int32.ofNat m_ = 0 := by rw [gm_]; rfl
        rw [show cf m_ n_ i_ (v_ :: t_) = (i_ : Int) from (if_neg g6).trans ((if_neg gj).trans (if_pos gm_))]
        obtain ⟨h1, m1_, f1_, r1_⟩ := xfoW0A (v2 := Int32.ofNat m_) (v4_ := Int32.ofNat i_) (v3 := bI n_) (v300 := Int32.ofNat L_.length) (v301 := v_) S_ R_.1.1 R_.1.2 R_.2.1.2 R_.2.1.1 (by rw [i32t (by omega)]; exact ov) ⟨by omega, by omega⟩ m0_ (by omega) (n51 (by omega)) (n50 (by omega)) lt_
        exact ⟨h1, ⟨m1_, f1_⟩, r1_⟩
      · have m0_ := nz gm_
        rw [show cf m_ n_ i_ (v_ :: t_) = cf (m_ - 1) true (i_ + 1) t_ from (if_neg g6).trans ((if_neg gj).trans ((if_neg gm_).trans ((if_neg e52).trans (if_neg e53))))]
        obtain ⟨h1, m1_, f1_, ld1⟩ := xfoW1A (v2 := Int32.ofNat m_) (v4_ := Int32.ofNat i_) (v3 := bI n_) (v300 := Int32.ofNat L_.length) (v301 := v_) S_ R_.1.1 R_.1.2 R_.2.1.2 R_.2.1.1 (by rw [i32t (by omega)]; exact ov) ⟨by omega, by omega⟩ m0_ (by omega) (n52 (by omega)) (by omega) (n51 (by omega)) (n50 (by omega)) lt_
        rw [i32s, i32m1 (by omega) (by omega)] at ld1
        obtain ⟨h2, ⟨m2_, f2_⟩, r2⟩ := ih_ (i_ + 1) (m_ - 1) true h1 _ m1_.1 (by omega) (by omega) ed2 (rwx_keep R_ m1_ (fun c_ j_ _ => f1_ c_ j_)) (Or.inr (Or.inl ⟨_, _, _, rfl⟩))
        exact ⟨h2, ⟨ysm_tr m1_ m2_, fun c_ j_ => (f2_ c_ j_).trans (f1_ c_ j_)⟩, fun D_ hD => ld1 D_ hD _ (r2 D_ hD)⟩
    · by_cases g6 : 60 ≤ v_.toInt
      · cases n_ with
        | true =>
          rw [show cf m_ true i_ (v_ :: t_) = cf m_ true (i_ + 1) t_ from (if_pos g6).trans (if_pos rfl)]
          obtain ⟨h1, m1_, f1_, ld1⟩ := xfoN1B (v2 := Int32.ofNat m_) (v4_ := Int32.ofNat i_) (v5 := y5) (v6 := y6) (v7 := y7) (v300 := Int32.ofNat L_.length) (v301 := v_) S_ R_.1.1 R_.1.2 R_.2.1.2 R_.2.1.1 (by rw [i32t (by omega)]; exact ov) ⟨by omega, by omega⟩ (by omega) (by omega) (n51 (by omega)) (n50 (by omega)) (n52 (by omega)) (by omega) lt_
          rw [i32s] at ld1
          obtain ⟨h2, ⟨m2_, f2_⟩, r2⟩ := ih_ (i_ + 1) m_ true h1 _ m1_.1 (by omega) (by omega) ed (rwx_keep R_ m1_ (fun c_ j_ _ => f1_ c_ j_)) (Or.inr (Or.inr ⟨_, _, _, rfl⟩))
          exact ⟨h2, ⟨ysm_tr m1_ m2_, fun c_ j_ => (f2_ c_ j_).trans (f1_ c_ j_)⟩, fun D_ hD => ld1 D_ hD _ (r2 D_ hD)⟩
        | false =>
          rw [show cf m_ false i_ (v_ :: t_) = (i_ : Int) from (if_pos g6).trans (if_neg (fun q_ => by cases q_))]
          obtain ⟨h1, m1_, f1_, r1_⟩ := xfoN0B (v2 := Int32.ofNat m_) (v4_ := Int32.ofNat i_) (v5 := y5) (v6 := y6) (v7 := y7) (v300 := Int32.ofNat L_.length) (v301 := v_) S_ R_.1.1 R_.1.2 R_.2.1.2 R_.2.1.1 (by rw [i32t (by omega)]; exact ov) ⟨by omega, by omega⟩ (by omega) (by omega) (n51 (by omega)) (n50 (by omega)) lt_
          exact ⟨h1, ⟨m1_, f1_⟩, r1_⟩
      by_cases e50 : v_.toInt = 50
      · have ev_ : v_ = 50 := Int32.toInt_inj.mp e50
        subst ev_
        by_cases gm_ : m_ = 0
        · have m0_ : Int32.ofNat m_ = 0 := by rw [gm_]; rfl
          rw [show cf m_ n_ i_ (50 :: t_) = cf (m_ + 1) false (i_ + 1) t_ from (if_neg g6).trans ((if_pos (Or.inl e50)).trans ((if_pos gm_).trans (by rw [gm_])))]
          obtain ⟨h1, m1_, f1_, ld1⟩ := xfo500B (v2 := Int32.ofNat m_) (v4_ := Int32.ofNat i_) (v3 := bI n_) (v5 := y5) (v6 := y6) (v7 := y7) (v300 := Int32.ofNat L_.length) S_ R_.1.1 R_.1.2 R_.2.1.2 R_.2.1.1 (by rw [i32t (by omega)]; exact ov) ⟨by omega, by omega⟩ m0_ lt_
          rw [i32s, i32s] at ld1
          obtain ⟨h2, ⟨m2_, f2_⟩, r2⟩ := ih_ (i_ + 1) (m_ + 1) false h1 _ m1_.1 (by omega) (by omega) ed2 (rwx_keep R_ m1_ (fun c_ j_ _ => f1_ c_ j_)) (Or.inr (Or.inl ⟨_, _, _, rfl⟩))
          exact ⟨h2, ⟨ysm_tr m1_ m2_, fun c_ j_ => (f2_ c_ j_).trans (f1_ c_ j_)⟩, fun D_ hD => ld1 D_ hD _ (r2 D_ hD)⟩
        · have m0_ := nz gm_
          rw [show cf m_ n_ i_ (50 :: t_) = (i_ : Int) from (if_neg g6).trans ((if_pos (Or.inl e50)).trans (if_neg gm_))]
          obtain ⟨h1, m1_, f1_, r1_⟩ := xfo501B (v2 := Int32.ofNat m_) (v4_ := Int32.ofNat i_) (v3 := bI n_) (v5 := y5) (v6 := y6) (v7 := y7) (v300 := Int32.ofNat L_.length) S_ R_.1.1 R_.1.2 R_.2.1.2 R_.2.1.1 (by rw [i32t (by omega)]; exact ov) ⟨by omega, by omega⟩ m0_ lt_
          exact ⟨h1, ⟨m1_, f1_⟩, r1_⟩
      by_cases e51 : v_.toInt = 51
      · have ev_ : v_ = 51 := Int32.toInt_inj.mp e51
        subst ev_
        by_cases gm_ : m_ = 0
        · have m0_ : Int32.ofNat m_ = 0 := by rw [gm_]; rfl
          rw [show cf m_ n_ i_ (51 :: t_) = cf (m_ + 1) false (i_ + 1) t_ from (if_neg g6).trans ((if_pos (Or.inr e51)).trans ((if_pos gm_).trans (by rw [gm_])))]
          obtain ⟨h1, m1_, f1_, ld1⟩ := xfo510B (v2 := Int32.ofNat m_) (v4_ := Int32.ofNat i_) (v3 := bI n_) (v5 := y5) (v6 := y6) (v7 := y7) (v300 := Int32.ofNat L_.length) S_ R_.1.1 R_.1.2 R_.2.1.2 R_.2.1.1 (by rw [i32t (by omega)]; exact ov) ⟨by omega, by omega⟩ m0_ lt_
          rw [i32s, i32s] at ld1
          obtain ⟨h2, ⟨m2_, f2_⟩, r2⟩ := ih_ (i_ + 1) (m_ + 1) false h1 _ m1_.1 (by omega) (by omega) ed2 (rwx_keep R_ m1_ (fun c_ j_ _ => f1_ c_ j_)) (Or.inr (Or.inl ⟨_, _, _, rfl⟩))
          exact ⟨h2, ⟨ysm_tr m1_ m2_, fun c_ j_ => (f2_ c_ j_).trans (f1_ c_ j_)⟩, fun D_ hD => ld1 D_ hD _ (r2 D_ hD)⟩
        · have m0_ := nz gm_
          rw [show cf m_ n_ i_ (51 :: t_) = (i_ : Int) from (if_neg g6).trans ((if_pos (Or.inr e51)).trans (if_neg gm_))]
          obtain ⟨h1, m1_, f1_, r1_⟩ := xfo511B (v2 := Int32.ofNat m_) (v4_ := Int32.ofNat i_) (v3 := bI n_) (v5 := y5) (v6 := y6) (v7 := y7) (v300 := Int32.ofNat L_.length) S_ R_.1.1 R_.1.2 R_.2.1.2 R_.2.1.1 (by rw [i32t (by omega)]; exact ov) ⟨by omega, by omega⟩ m0_ lt_
          exact ⟨h1, ⟨m1_, f1_⟩, r1_⟩
      have gj : ¬ (v_.toInt = 50 ∨ v_.toInt = 51) := by omega
      by_cases e52 : v_.toInt = 52
      · have ev_ : v_ = 52 := Int32.toInt_inj.mp e52
        subst ev_
        by_cases gm_ : m_ = 0
        · have m0_ : Int32.ofNat m_ = 0 := by rw [gm_]; rfl
          rw [show cf m_ n_ i_ (52 :: t_) = (i_ : Int) from (if_neg g6).trans ((if_neg gj).trans (if_pos gm_))]
          obtain ⟨h1, m1_, f1_, r1_⟩ := xfo520B (v2 := Int32.ofNat m_) (v4_ := Int32.ofNat i_) (v3 := bI n_) (v5 := y5) (v6 := y6) (v7 := y7) (v300 := Int32.ofNat L_.length) S_ R_.1.1 R_.1.2 R_.2.1.2 R_.2.1.1 (by rw [i32t (by omega)]; exact ov) ⟨by omega, by omega⟩ m0_ lt_
          exact ⟨h1, ⟨m1_, f1_⟩, r1_⟩
        · have m0_ := nz gm_
          rw [show cf m_ n_ i_ (52 :: t_) = cf (m_ + 1) false (i_ + 1) t_ from (if_neg g6).trans ((if_neg gj).trans ((if_neg gm_).trans (if_pos e52)))]
          obtain ⟨h1, m1_, f1_, ld1⟩ := xfo521B (v2 := Int32.ofNat m_) (v4_ := Int32.ofNat i_) (v3 := bI n_) (v5 := y5) (v6 := y6) (v7 := y7) (v300 := Int32.ofNat L_.length) S_ R_.1.1 R_.1.2 R_.2.1.2 R_.2.1.1 (by rw [i32t (by omega)]; exact ov) ⟨by omega, by omega⟩ m0_ lt_
          rw [i32s, i32s] at ld1
          obtain ⟨h2, ⟨m2_, f2_⟩, r2⟩ := ih_ (i_ + 1) (m_ + 1) false h1 _ m1_.1 (by omega) (by omega) ed2 (rwx_keep R_ m1_ (fun c_ j_ _ => f1_ c_ j_)) (Or.inr (Or.inl ⟨_, _, _, rfl⟩))
          exact ⟨h2, ⟨ysm_tr m1_ m2_, fun c_ j_ => (f2_ c_ j_).trans (f1_ c_ j_)⟩, fun D_ hD => ld1 D_ hD _ (r2 D_ hD)⟩
      by_cases e53 : v_.toInt = 53
      · have ev_ : v_ = 53 := Int32.toInt_inj.mp e53
        subst ev_
        by_cases gm_ : m_ = 0
        · have m0_ : Int32.ofNat m_ = 0 := by rw [gm_]; rfl
          rw [show cf m_ n_ i_ (53 :: t_) = (i_ : Int) from (if_neg g6).trans ((if_neg gj).trans (if_pos gm_))]
          obtain ⟨h1, m1_, f1_, r1_⟩ := xfo530B (v2 := Int32.ofNat m_) (v4_ := Int32.ofNat i_) (v3 := bI n_) (v5 := y5) (v6 := y6) (v7 := y7) (v300 := Int32.ofNat L_.length) S_ R_.1.1 R_.1.2 R_.2.1.2 R_.2.1.1 (by rw [i32t (by omega)]; exact ov) ⟨by omega, by omega⟩ m0_ lt_
          exact ⟨h1, ⟨m1_, f1_⟩, r1_⟩
        · have m0_ := nz gm_
          rw [show cf m_ n_ i_ (53 :: t_) = cf m_ false (i_ + 1) t_ from (if_neg g6).trans ((if_neg gj).trans ((if_neg gm_).trans ((if_neg e52).trans (if_pos e53))))]
          obtain ⟨h1, m1_, f1_, ld1⟩ := xfo531B (v2 := Int32.ofNat m_) (v4_ := Int32.ofNat i_) (v3 := bI n_) (v5 := y5) (v6 := y6) (v7 := y7) (v300 := Int32.ofNat L_.length) S_ R_.1.1 R_.1.2 R_.2.1.2 R_.2.1.1 (by rw [i32t (by omega)]; exact ov) ⟨by omega, by omega⟩ m0_ lt_
          rw [i32s] at ld1
          obtain ⟨h2, ⟨m2_, f2_⟩, r2⟩ := ih_ (i_ + 1) m_ false h1 _ m1_.1 (by omega) (by omega) ed2 (rwx_keep R_ m1_ (fun c_ j_ _ => f1_ c_ j_)) (Or.inr (Or.inr ⟨_, _, _, rfl⟩))
          exact ⟨h2, ⟨ysm_tr m1_ m2_, fun c_ j_ => (f2_ c_ j_).trans (f1_ c_ j_)⟩, fun D_ hD => ld1 D_ hD _ (r2 D_ hD)⟩
      by_cases gm_ : m_ = 0
      · have m0_ : Int32.ofNat m_ = 0 := by rw [gm_]; rfl
        rw [show cf m_ n_ i_ (v_ :: t_) = (i_ : Int) from (if_neg g6).trans ((if_neg gj).trans (if_pos gm_))]
        obtain ⟨h1, m1_, f1_, r1_⟩ := xfoW0B (v2 := Int32.ofNat m_) (v4_ := Int32.ofNat i_) (v3 := bI n_) (v5 := y5) (v6 := y6) (v7 := y7) (v300 := Int32.ofNat L_.length) (v301 := v_) S_ R_.1.1 R_.1.2 R_.2.1.2 R_.2.1.1 (by rw [i32t (by omega)]; exact ov) ⟨by omega, by omega⟩ m0_ (by omega) (n51 (by omega)) (n50 (by omega)) lt_
        exact ⟨h1, ⟨m1_, f1_⟩, r1_⟩
      · have m0_ := nz gm_
        rw [show cf m_ n_ i_ (v_ :: t_) = cf (m_ - 1) true (i_ + 1) t_ from (if_neg g6).trans ((if_neg gj).trans ((if_neg gm_).trans ((if_neg e52).trans (if_neg e53))))]
        obtain ⟨h1, m1_, f1_, ld1⟩ := xfoW1B (v2 := Int32.ofNat m_) (v4_ := Int32.ofNat i_) (v3 := bI n_) (v5 := y5) (v6 := y6) (v7 := y7) (v300 := Int32.ofNat L_.length) (v301 := v_) S_ R_.1.1 R_.1.2 R_.2.1.2 R_.2.1.1 (by rw [i32t (by omega)]; exact ov) ⟨by omega, by omega⟩ m0_ (by omega) (n52 (by omega)) (by omega) (n51 (by omega)) (n50 (by omega)) lt_
        rw [i32s, i32m1 (by omega) (by omega)] at ld1
        obtain ⟨h2, ⟨m2_, f2_⟩, r2⟩ := ih_ (i_ + 1) (m_ - 1) true h1 _ m1_.1 (by omega) (by omega) ed2 (rwx_keep R_ m1_ (fun c_ j_ _ => f1_ c_ j_)) (Or.inr (Or.inl ⟨_, _, _, rfl⟩))
        exact ⟨h2, ⟨ysm_tr m1_ m2_, fun c_ j_ => (f2_ c_ j_).trans (f1_ c_ j_)⟩, fun D_ hD => ld1 D_ hD _ (r2 D_ hD)⟩
    · by_cases g6 : 60 ≤ v_.toInt
      · cases n_ with
        | true =>
          rw [show cf m_ true i_ (v_ :: t_) = cf m_ true (i_ + 1) t_ from (if_pos g6).trans (if_pos rfl)]
          obtain ⟨h1, m1_, f1_, ld1⟩ := xfoN1C (v2 := Int32.ofNat m_) (v4_ := Int32.ofNat i_) (v5 := y5) (v6 := y6) (v7 := y7) (v300 := Int32.ofNat L_.length) (v301 := v_) S_ R_.1.1 R_.1.2 R_.2.1.2 R_.2.1.1 (by rw [i32t (by omega)]; exact ov) ⟨by omega, by omega⟩ (by omega) (by omega) (n51 (by omega)) (n50 (by omega)) (n52 (by omega)) (by omega) lt_
          rw [i32s] at ld1
          obtain ⟨h2, ⟨m2_, f2_⟩, r2⟩ := ih_ (i_ + 1) m_ true h1 _ m1_.1 (by omega) (by omega) ed (rwx_keep R_ m1_ (fun c_ j_ _ => f1_ c_ j_)) (Or.inr (Or.inr ⟨_, _, _, rfl⟩))
          exact ⟨h2, ⟨ysm_tr m1_ m2_, fun c_ j_ => (f2_ c_ j_).trans (f1_ c_ j_)⟩, fun D_ hD => ld1 D_ hD _ (r2 D_ hD)⟩
        | false =>
          rw [show cf m_ false i_ (v_ :: t_) = (i_ : Int) from (if_pos g6).trans (if_neg (fun q_ => by cases q_))]
          obtain ⟨h1, m1_, f1_, r1_⟩ := xfoN0C (v2 := Int32.ofNat m_) (v4_ := Int32.ofNat i_) (v5 := y5) (v6 := y6) (v7 := y7) (v300 := Int32.ofNat L_.length) (v301 := v_) S_ R_.1.1 R_.1.2 R_.2.1.2 R_.2.1.1 (by rw [i32t (by omega)]; exact ov) ⟨by omega, by omega⟩ (by omega) (by omega) (n51 (by omega)) (n50 (by omega)) lt_
          exact ⟨h1, ⟨m1_, f1_⟩, r1_⟩
      by_cases e50 : v_.toInt = 50
      · have ev_ : v_ = 50 := Int32.toInt_inj.mp e50
        subst ev_
        by_cases gm_ : m_ = 0
        · have m0_ : Int32.ofNat m_ = 0 := by rw [gm_]; rfl
          rw [show cf m_ n_ i_ (50 :: t_) = cf (m_ + 1) false (i_ + 1) t_ from (if_neg g6).trans ((if_pos (Or.inl e50)).trans ((if_pos gm_).trans (by rw [gm_])))]
          obtain ⟨h1, m1_, f1_, ld1⟩ := xfo500C (v2 := Int32.ofNat m_) (v4_ := Int32.ofNat i_) (v3 := bI n_) (v5 := y5) (v6 := y6) (v7 := y7) (v300 := Int32.ofNat L_.length) S_ R_.1.1 R_.1.2 R_.2.1.2 R_.2.1.1 (by rw [i32t (by omega)]; exact ov) ⟨by omega, by omega⟩ m0_ lt_
          rw [i32s, i32s] at ld1
          obtain ⟨h2, ⟨m2_, f2_⟩, r2⟩ := ih_ (i_ + 1) (m_ + 1) false h1 _ m1_.1 (by omega) (by omega) ed2 (rwx_keep R_ m1_ (fun c_ j_ _ => f1_ c_ j_)) (Or.inr (Or.inl ⟨_, _, _, rfl⟩))
          exact ⟨h2, ⟨ysm_tr m1_ m2_, fun c_ j_ => (f2_ c_ j_).trans (f1_ c_ j_)⟩, fun D_ hD => ld1 D_ hD _ (r2 D_ hD)⟩
        · have m0_ := nz gm_
          rw [show cf m_ n_ i_ (50 :: t_) = (i_ : Int) from (if_neg g6).trans ((if_pos (Or.inl e50)).trans (if_neg gm_))]
          obtain ⟨h1, m1_, f1_, r1_⟩ := xfo501C (v2 := Int32.ofNat m_) (v4_ := Int32.ofNat i_) (v3 := bI n_) (v5 := y5) (v6 := y6) (v7 := y7) (v300 := Int32.ofNat L_.length) S_ R_.1.1 R_.1.2 R_.2.1.2 R_.2.1.1 (by rw [i32t (by omega)]; exact ov) ⟨by omega, by omega⟩ m0_ lt_
          exact ⟨h1, ⟨m1_, f1_⟩, r1_⟩
      by_cases e51 : v_.toInt = 51
      · have ev_ : v_ = 51 := Int32.toInt_inj.mp e51
        subst ev_
        by_cases gm_ : m_ = 0
        · have m0_ : Int32.ofNat m_ = 0 := by rw [gm_]; rfl
          rw [show cf m_ n_ i_ (51 :: t_) = cf (m_ + 1) false (i_ + 1) t_ from (if_neg g6).trans ((if_pos (Or.inr e51)).trans ((if_pos gm_).trans (by rw [gm_])))]
          obtain ⟨h1, m1_, f1_, ld1⟩ := xfo510C (v2 := Int32.ofNat m_) (v4_ := Int32.ofNat i_) (v3 := bI n_) (v5 := y5) (v6 := y6) (v7 := y7) (v300 := Int32.ofNat L_.length) S_ R_.1.1 R_.1.2 R_.2.1.2 R_.2.1.1 (by rw [i32t (by omega)]; exact ov) ⟨by omega, by omega⟩ m0_ lt_
          rw [i32s, i32s] at ld1
          obtain ⟨h2, ⟨m2_, f2_⟩, r2⟩ := ih_ (i_ + 1) (m_ + 1) false h1 _ m1_.1 (by omega) (by omega) ed2 (rwx_keep R_ m1_ (fun c_ j_ _ => f1_ c_ j_)) (Or.inr (Or.inl ⟨_, _, _, rfl⟩))
          exact ⟨h2, ⟨ysm_tr m1_ m2_, fun c_ j_ => (f2_ c_ j_).trans (f1_ c_ j_)⟩, fun D_ hD => ld1 D_ hD _ (r2 D_ hD)⟩
        · have m0_ := nz gm_
          rw [show cf m_ n_ i_ (51 :: t_) = (i_ : Int) from (if_neg g6).trans ((if_pos (Or.inr e51)).trans (if_neg gm_))]
          obtain ⟨h1, m1_, f1_, r1_⟩ := xfo511C (v2 := Int32.ofNat m_) (v4_ := Int32.ofNat i_) (v3 := bI n_) (v5 := y5) (v6 := y6) (v7 := y7) (v300 := Int32.ofNat L_.length) S_ R_.1.1 R_.1.2 R_.2.1.2 R_.2.1.1 (by rw [i32t (by omega)]; exact ov) ⟨by omega, by omega⟩ m0_ lt_
          exact ⟨h1, ⟨m1_, f1_⟩, r1_⟩
      have gj : ¬ (v_.toInt = 50 ∨ v_.toInt = 51) := by omega
      by_cases e52 : v_.toInt = 52
      · have ev_ : v_ = 52 := Int32.toInt_inj.mp e52
        subst ev_
        by_cases gm_ : m_ = 0
        · have m0_ : Int32.ofNat m_ = 0 := by rw [gm_]; rfl
          rw [show cf m_ n_ i_ (52 :: t_) = (i_ : Int) from (if_neg g6).trans ((if_neg gj).trans (if_pos gm_))]
          obtain ⟨h1, m1_, f1_, r1_⟩ := xfo520C (v2 := Int32.ofNat m_) (v4_ := Int32.ofNat i_) (v3 := bI n_) (v5 := y5) (v6 := y6) (v7 := y7) (v300 := Int32.ofNat L_.length) S_ R_.1.1 R_.1.2 R_.2.1.2 R_.2.1.1 (by rw [i32t (by omega)]; exact ov) ⟨by omega, by omega⟩ m0_ lt_
          exact ⟨h1, ⟨m1_, f1_⟩, r1_⟩
        · have m0_ := nz gm_
          rw [show cf m_ n_ i_ (52 :: t_) = cf (m_ + 1) false (i_ + 1) t_ from (if_neg g6).trans ((if_neg gj).trans ((if_neg gm_).trans (if_pos e52)))]
          obtain ⟨h1, m1_, f1_, ld1⟩ := xfo521C (v2 := Int32.ofNat m_) (v4_ := Int32.ofNat i_) (v3 := bI n_) (v5 := y5) (v6 := y6) (v7 := y7) (v300 := Int32.ofNat L_.length) S_ R_.1.1 R_.1.2 R_.2.1.2 R_.2.1.1 (by rw [i32t (by omega)]; exact ov) ⟨by omega, by omega⟩ m0_ lt_
          rw [i32s, i32s] at ld1
          obtain ⟨h2, ⟨m2_, f2_⟩, r2⟩ := ih_ (i_ + 1) (m_ + 1) false h1 _ m1_.1 (by omega) (by omega) ed2 (rwx_keep R_ m1_ (fun c_ j_ _ => f1_ c_ j_)) (Or.inr (Or.inl ⟨_, _, _, rfl⟩))
          exact ⟨h2, ⟨ysm_tr m1_ m2_, fun c_ j_ => (f2_ c_ j_).trans (f1_ c_ j_)⟩, fun D_ hD => ld1 D_ hD _ (r2 D_ hD)⟩
      by_cases e53 : v_.toInt = 53
      · have ev_ : v_ = 53 := Int32.toInt_inj.mp e53
        subst ev_
        by_cases gm_ : m_ = 0
        · have m0_ : Int32.ofNat m_ = 0 := by rw [gm_]; rfl
          rw [show cf m_ n_ i_ (53 :: t_) = (i_ : Int) from (if_neg g6).trans ((if_neg gj).trans (if_pos gm_))]
          obtain ⟨h1, m1_, f1_, r1_⟩ := xfo530C (v2 := Int32.ofNat m_) (v4_ := Int32.ofNat i_) (v3 := bI n_) (v5 := y5) (v6 := y6) (v7 := y7) (v300 := Int32.ofNat L_.length) S_ R_.1.1 R_.1.2 R_.2.1.2 R_.2.1.1 (by rw [i32t (by omega)]; exact ov) ⟨by omega, by omega⟩ m0_ lt_
          exact ⟨h1, ⟨m1_, f1_⟩, r1_⟩
        · have m0_ := nz gm_
          rw [show cf m_ n_ i_ (53 :: t_) = cf m_ false (i_ + 1) t_ from (if_neg g6).trans ((if_neg gj).trans ((if_neg gm_).trans ((if_neg e52).trans (if_pos e53))))]
          obtain ⟨h1, m1_, f1_, ld1⟩ := xfo531C (v2 := Int32.ofNat m_) (v4_ := Int32.ofNat i_) (v3 := bI n_) (v5 := y5) (v6 := y6) (v7 := y7) (v300 := Int32.ofNat L_.length) S_ R_.1.1 R_.1.2 R_.2.1.2 R_.2.1.1 (by rw [i32t (by omega)]; exact ov) ⟨by omega, by omega⟩ m0_ lt_
          rw [i32s] at ld1
          obtain ⟨h2, ⟨m2_, f2_⟩, r2⟩ := ih_ (i_ + 1) m_ false h1 _ m1_.1 (by omega) (by omega) ed2 (rwx_keep R_ m1_ (fun c_ j_ _ => f1_ c_ j_)) (Or.inr (Or.inr ⟨_, _, _, rfl⟩))
          exact ⟨h2, ⟨ysm_tr m1_ m2_, fun c_ j_ => (f2_ c_ j_).trans (f1_ c_ j_)⟩, fun D_ hD => ld1 D_ hD _ (r2 D_ hD)⟩
      by_cases gm_ : m_ = 0
      · have m0_ : Int32.ofNat m_ = 0 := by rw [gm_]; rfl
        rw [show cf m_ n_ i_ (v_ :: t_) = (i_ : Int) from (if_neg g6).trans ((if_neg gj).trans (if_pos gm_))]
        obtain ⟨h1, m1_, f1_, r1_⟩ := xfoW0C (v2 := Int32.ofNat m_) (v4_ := Int32.ofNat i_) (v3 := bI n_) (v5 := y5) (v6 := y6) (v7 := y7) (v300 := Int32.ofNat L_.length) (v301 := v_) S_ R_.1.1 R_.1.2 R_.2.1.2 R_.2.1.1 (by rw [i32t (by omega)]; exact ov) ⟨by omega, by omega⟩ m0_ (by omega) (n51 (by omega)) (n50 (by omega)) lt_
        exact ⟨h1, ⟨m1_, f1_⟩, r1_⟩
      · have m0_ := nz gm_
        rw [show cf m_ n_ i_ (v_ :: t_) = cf (m_ - 1) true (i_ + 1) t_ from (if_neg g6).trans ((if_neg gj).trans ((if_neg gm_).trans ((if_neg e52).trans (if_neg e53))))]
        obtain ⟨h1, m1_, f1_, ld1⟩ := xfoW1C (v2 := Int32.ofNat m_) (v4_ := Int32.ofNat i_) (v3 := bI n_) (v5 := y5) (v6 := y6) (v7 := y7) (v300 := Int32.ofNat L_.length) (v301 := v_) S_ R_.1.1 R_.1.2 R_.2.1.2 R_.2.1.1 (by rw [i32t (by omega)]; exact ov) ⟨by omega, by omega⟩ m0_ (by omega) (n52 (by omega)) (by omega) (n51 (by omega)) (n50 (by omega)) lt_
        rw [i32s, i32m1 (by omega) (by omega)] at ld1
        obtain ⟨h2, ⟨m2_, f2_⟩, r2⟩ := ih_ (i_ + 1) (m_ - 1) true h1 _ m1_.1 (by omega) (by omega) ed2 (rwx_keep R_ m1_ (fun c_ j_ _ => f1_ c_ j_)) (Or.inr (Or.inl ⟨_, _, _, rfl⟩))
        exact ⟨h2, ⟨ysm_tr m1_ m2_, fun c_ j_ => (f2_ c_ j_).trans (f1_ c_ j_)⟩, fun D_ hD => ld1 D_ hD _ (r2 D_ hD)⟩
/-- faultOf -/
theorem foX {a_ ia : Nat} {L_ : List Int32} {h_ : xH} (S_ : sHp h_) (hS_ : snds L_) (R_ : rwx h_ a_ ia 12 L_) : ∃ h', (ysm h_ h' ∧ ∀ c_ j_, bpat h' c_ j_ = bpat h_ c_ j_) ∧ ∀ D_, 60 ≤ D_ → xrun D_ 5 0 [(0, .index 152), (1, .index a_)] [] h_ (some (.int (Int32.ofInt (cf 1 false 0 L_))), h', []) := by
  obtain ⟨h1, m1_, f1_, ld1⟩ := xfoE S_ R_.1.1 R_.1.2
  obtain ⟨h2, ⟨m2_, f2_⟩, r2⟩ := fo_lp R_.2.2.1 hS_ L_ 0 1 false h1 _ m1_.1 (Nat.zero_add _) (by omega) rfl (rwx_keep R_ m1_ (fun c_ j_ _ => f1_ c_ j_)) (Or.inl rfl)
  exact ⟨h2, ⟨ysm_tr m1_ m2_, fun c_ j_ => (f2_ c_ j_).trans (f1_ c_ j_)⟩, fun D_ hD => ld1 D_ hD _ (r2 D_ hD)⟩
-- xrdE: 52 steps, 1 ends, 2 returns
def xrdE_L : List (Nat × Nat × Nat) := []
def xrdE_O : yO := [(0, .int 0, .index 1), (1, .int 9, .arg 310), (0, .int 13, .index 323), (323, .int 1, .arg 400)]
def xrdE_A : yA := (yZ xrdE_L, [], [], [], [])
def xrdE_C : List xB := []
def xrdE_ss : List yS := [(14, [(0, .index 0), (1, .arg 1)], [], [(0, .int 0, .index 1), (1, .int 9, .arg 310), (0, .int 13, .index 323), (323, .int 1, .arg 400)], [(.lt, .arg 1, .arg 310, true), (.lt, .arg 1, .int 0, false)], [])]
def xrdE_rs : List yR := [(some (.int (Int32.ofInt (-1000001))), [(323, .int 1, .add (.arg 400) (.int 1)), (0, .int 0, .index 1), (1, .int 9, .arg 310), (0, .int 13, .index 323)], [(.lt, .arg 1, .int 0, true)], [(323, .int 1)]),
  (some (.int (Int32.ofInt (-1000001))), [(323, .int 1, .add (.arg 400) (.int 1)), (0, .int 0, .index 1), (1, .int 9, .arg 310), (0, .int 13, .index 323)], [(.lt, .arg 1, .arg 310, false), (.lt, .arg 1, .int 0, false)], [(323, .int 1)])]
theorem xrdE_w : ywa xrdE_A xrdE_ss xrdE_rs = true := by decide +kernel
theorem xrdE_k : yis (yev xrdE_A 3000 60 98 [14] (0, [(0, .index 0), (1, .arg 1)], [], xrdE_O, xrdE_C, [])) xrdE_ss xrdE_rs = true := by decide +kernel
def xrdE_r (v1_ v310 v400 : Int32) (k_ : Nat) : Value := bif Nat.beq k_ 1 then .int v1_ else (bif Nat.beq k_ 310 then .int v310 else (bif Nat.beq k_ 400 then .int v400 else (.int 0)))
def xrdE_s (n_ : Nat) : Nat := 0
theorem xrdE {h_ : xH} {v1_ v310 v400 : Int32} (hs : sHp h_) (o0_ : bpat h_ 1 9 = some (.int v310)) (o1 : bpat h_ 323 1 = some (.int v400)) : ∃ h', ysm h_ h' ∧ (((v1_.toInt < v310.toInt) ∧ ((0 : Int32).toInt ≤ v1_.toInt) ∧ (∀ a_ j_ : Nat, bpat h' a_ j_ = bpat h_ a_ j_) ∧ (bldD 60 98 0 [(0, .index 0), (1, .int v1_)] [] h_ 14 [(0, .index 0), (1, .int v1_)] [] h'))
  ∨ ((v1_.toInt < (0 : Int32).toInt) ∧ (bpat h' 323 1 = some (.int (v400 + (1 : Int32)))) ∧ (∀ a_ j_ : Nat, ¬ (a_ = 323 ∧ j_ = 1) → bpat h' a_ j_ = bpat h_ a_ j_) ∧ (∀ D_, 60 ≤ D_ → xrun D_ 98 0 [(0, .index 0), (1, .int v1_)] [] h_ (some (.int (Int32.ofInt (-1000001))), h', [])))
  ∨ ((v310.toInt ≤ v1_.toInt) ∧ ((0 : Int32).toInt ≤ v1_.toInt) ∧ (bpat h' 323 1 = some (.int (v400 + (1 : Int32)))) ∧ (∀ a_ j_ : Nat, ¬ (a_ = 323 ∧ j_ = 1) → bpat h' a_ j_ = bpat h_ a_ j_) ∧ (∀ D_, 60 ≤ D_ → xrun D_ 98 0 [(0, .index 0), (1, .int v1_)] [] h_ (some (.int (Int32.ofInt (-1000001))), h', [])))) := by
  have hA : yas xrdE_A (xrdE_r v1_ v310 v400) (yg xrdE_s) := ⟨fun q_ hq => absurd hq List.not_mem_nil, fun q_ hq => absurd hq List.not_mem_nil, fun q_ hq => absurd hq List.not_mem_nil, fun n_ hn => yg_lo hn, fun q_ hq => absurd hq List.not_mem_nil⟩
  have Hs : ysh xrdE_A.1 (yg xrdE_s) h_ := ysh_of2 hs (fun q_ hq => absurd hq List.not_mem_nil)
  have Ho : ymem (xrdE_r v1_ v310 v400) (yg xrdE_s) xrdE_O h_ := List.forall_mem_cons.mpr ⟨bpat_some (fxr_at hs.2 (show fxk fxl 0 0 = some 1 by decide +kernel)), List.forall_mem_cons.mpr ⟨bpat_some o0_, List.forall_mem_cons.mpr ⟨bpat_some (fxr_at hs.2 (show fxk fxl 0 13 = some 323 by decide +kernel)), List.forall_mem_cons.mpr ⟨bpat_some o1, fun q_ hq => absurd hq List.not_mem_nil⟩⟩⟩⟩
  have HC : ∀ q_ ∈ xrdE_C, xhold (xrdE_r v1_ v310 v400) q_ := fun q_ hq => absurd hq List.not_mem_nil
  rcases yrun (yis_ok xrdE_k) hA Hs Ho HC with ⟨q_, hq, h', K_, G_⟩ | ⟨q_, hq, h', K_, G_⟩
  · have e_ := List.mem_singleton.mp hq
    subst e_
    exact ⟨h', yfr_sm K_.2.2.2 hs K_.1 (ywa_s xrdE_w List.mem_cons_self), Or.inl (⟨xq_ltT rfl rfl (K_.2.2.1 _ List.mem_cons_self), xq_ltF rfl rfl (K_.2.2.1 _ (List.mem_cons_of_mem _ List.mem_cons_self)), fun a_ j_ => yfr_bp K_.2.2.2 (fun q_ hq => absurd hq List.not_mem_nil), G_⟩)⟩
  · rcases List.mem_cons.mp hq with e_ | hq
    · subst e_
      exact ⟨h', yfr_sm K_.2.2.2 hs K_.1 (ywa_r xrdE_w List.mem_cons_self), Or.inr (Or.inl (⟨xq_ltT rfl rfl (K_.2.2.1 _ List.mem_cons_self), bpat_of (K_.2.1 _ List.mem_cons_self), fun a_ j_ n0_ => yfr_bp K_.2.2.2 (List.forall_mem_cons.mpr ⟨fun e_ => n0_ ⟨e_.1.symm, e_.2.symm⟩, fun q_ hq => absurd hq List.not_mem_nil⟩), G_⟩))⟩
    have e_ := List.mem_singleton.mp hq
    subst e_
    exact ⟨h', yfr_sm K_.2.2.2 hs K_.1 (ywa_r xrdE_w (List.mem_cons_of_mem _ List.mem_cons_self)), Or.inr (Or.inr (⟨xq_ltF rfl rfl (K_.2.2.1 _ List.mem_cons_self), xq_ltF rfl rfl (K_.2.2.1 _ (List.mem_cons_of_mem _ List.mem_cons_self)), bpat_of (K_.2.1 _ List.mem_cons_self), fun a_ j_ n0_ => yfr_bp K_.2.2.2 (List.forall_mem_cons.mpr ⟨fun e_ => n0_ ⟨e_.1.symm, e_.2.symm⟩, fun q_ hq => absurd hq List.not_mem_nil⟩), G_⟩))⟩
-- xrdG: 7 steps, 1 ends, 0 returns
def xrdG_L : List (Nat × Nat × Nat) := [(1000, 6, 2)]
def xrdG_O : yO := [(0, .int 3, .index 152), (0, .int 0, .index 1), (1, .int 0, .index 2), (2, .arg 1, .index 1000)]
def xrdG_A : yA := (yZ xrdG_L, [(.arg 1, 12)], [], [], [])
def xrdG_C : List xB := []
def xrdG_ss : List yS := [(27, [(0, .index 0), (1, .arg 1)], [.index 1000, .index 152], [(0, .int 3, .index 152), (0, .int 0, .index 1), (1, .int 0, .index 2), (2, .arg 1, .index 1000)], [], [])]
def xrdG_rs : List yR := []
theorem xrdG_w : ywa xrdG_A xrdG_ss xrdG_rs = true := by decide +kernel
theorem xrdG_k : yis (yev xrdG_A 3000 60 98 [27] (14, [(0, .index 0), (1, .arg 1)], [], xrdG_O, xrdG_C, [])) xrdG_ss xrdG_rs = true := by decide +kernel
def xrdG_r (v1_ : Int32) (k_ : Nat) : Value := bif Nat.beq k_ 1 then .int v1_ else (.int 0)
def xrdG_s (a1000 : Nat) (n_ : Nat) : Nat := bif Nat.beq n_ 1000 then a1000 else (0)
theorem xrdG {h_ : xH} {a1000 : Nat} {v1_ : Int32} (hs : sHp h_) (k1000 : bcq h_ a1000 6 2) (o0_ : bpat h_ 2 (v1_).toInt.toNat = some (.index a1000)) (b0 : 0 ≤ (v1_).toInt ∧ (v1_).toInt < 12) : ∃ h', ysm h_ h' ∧ (((∀ a_ j_ : Nat, bpat h' a_ j_ = bpat h_ a_ j_) ∧ (bldD 60 98 14 [(0, .index 0), (1, .int v1_)] [] h_ 27 [(0, .index 0), (1, .int v1_)] [.index a1000, .index 152] h'))) := by
  have hA : yas xrdG_A (xrdG_r v1_) (yg (xrdG_s a1000)) := ⟨List.forall_mem_cons.mpr ⟨b0, fun q_ hq => absurd hq List.not_mem_nil⟩, fun q_ hq => absurd hq List.not_mem_nil, fun q_ hq => absurd hq List.not_mem_nil, fun n_ hn => yg_lo hn, fun q_ hq => absurd hq List.not_mem_nil⟩
  have Hs : ysh xrdG_A.1 (yg (xrdG_s a1000)) h_ := ysh_of2 hs (List.forall_mem_cons.mpr ⟨⟨by decide, k1000⟩, fun q_ hq => absurd hq List.not_mem_nil⟩)
  have Ho : ymem (xrdG_r v1_) (yg (xrdG_s a1000)) xrdG_O h_ := List.forall_mem_cons.mpr ⟨bpat_some (fxr_at hs.2 (show fxk fxl 0 3 = some 152 by decide +kernel)), List.forall_mem_cons.mpr ⟨bpat_some (fxr_at hs.2 (show fxk fxl 0 0 = some 1 by decide +kernel)), List.forall_mem_cons.mpr ⟨bpat_some (fxr_at hs.2 (show fxk fxl 1 0 = some 2 by decide +kernel)), List.forall_mem_cons.mpr ⟨bpat_some o0_, fun q_ hq => absurd hq List.not_mem_nil⟩⟩⟩⟩
  have HC : ∀ q_ ∈ xrdG_C, xhold (xrdG_r v1_) q_ := fun q_ hq => absurd hq List.not_mem_nil
  rcases yrun (yis_ok xrdG_k) hA Hs Ho HC with ⟨q_, hq, h', K_, G_⟩ | ⟨q_, hq, h', K_, G_⟩
  · have e_ := List.mem_singleton.mp hq
    subst e_
    exact ⟨h', yfr_sm K_.2.2.2 hs K_.1 (ywa_s xrdG_w List.mem_cons_self), ⟨fun a_ j_ => yfr_bp K_.2.2.2 (fun q_ hq => absurd hq List.not_mem_nil), G_⟩⟩
  · cases hq
-- xrdR1: 6 steps, 0 ends, 1 returns
def xrdR1_L : List (Nat × Nat × Nat) := []
def xrdR1_O : yO := []
def xrdR1_A : yA := (yZ xrdR1_L, [], [], [], [])
def xrdR1_C : List xB := [(.lt, .arg 5, .int 0, true)]
def xrdR1_ss : List yS := []
def xrdR1_rs : List yR := [(some (.int 1), [], [(.lt, .arg 5, .int 0, true)], [])]
theorem xrdR1_w : ywa xrdR1_A xrdR1_ss xrdR1_rs = true := by decide +kernel
theorem xrdR1_k : yis (yev xrdR1_A 3000 60 98 [] (30, [(0, .index 0), (1, .arg 1)], [.arg 5], xrdR1_O, xrdR1_C, [])) xrdR1_ss xrdR1_rs = true := by decide +kernel
def xrdR1_r (v1_ v5 : Int32) (k_ : Nat) : Value := bif Nat.beq k_ 1 then .int v1_ else (bif Nat.beq k_ 5 then .int v5 else (.int 0))
def xrdR1_s (n_ : Nat) : Nat := 0
theorem xrdR1 {h_ : xH} {v1_ v5 : Int32} (hs : sHp h_) (c0_ : v5.toInt < (0 : Int32).toInt) : ∃ h', ysm h_ h' ∧ (((∀ a_ j_ : Nat, bpat h' a_ j_ = bpat h_ a_ j_) ∧ (∀ D_, 60 ≤ D_ → xrun D_ 98 30 [(0, .index 0), (1, .int v1_)] [.int v5] h_ (some (.int (1 : Int32)), h', [])))) := by
  have hA : yas xrdR1_A (xrdR1_r v1_ v5) (yg xrdR1_s) := ⟨fun q_ hq => absurd hq List.not_mem_nil, fun q_ hq => absurd hq List.not_mem_nil, fun q_ hq => absurd hq List.not_mem_nil, fun n_ hn => yg_lo hn, fun q_ hq => absurd hq List.not_mem_nil⟩
  have Hs : ysh xrdR1_A.1 (yg xrdR1_s) h_ := ysh_of2 hs (fun q_ hq => absurd hq List.not_mem_nil)
  have Ho : ymem (xrdR1_r v1_ v5) (yg xrdR1_s) xrdR1_O h_ := fun q_ hq => absurd hq List.not_mem_nil
  have HC : ∀ q_ ∈ xrdR1_C, xhold (xrdR1_r v1_ v5) q_ := List.forall_mem_cons.mpr ⟨xh_ltT c0_, fun q_ hq => absurd hq List.not_mem_nil⟩
  rcases yrun (yis_ok xrdR1_k) hA Hs Ho HC with ⟨q_, hq, h', K_, G_⟩ | ⟨q_, hq, h', K_, G_⟩
  · cases hq
  · have e_ := List.mem_singleton.mp hq
    subst e_
    exact ⟨h', yfr_sm K_.2.2.2 hs K_.1 (ywa_r xrdR1_w List.mem_cons_self), ⟨fun a_ j_ => yfr_bp K_.2.2.2 (fun q_ hq => absurd hq List.not_mem_nil), G_⟩⟩
-- xrdR0: 7 steps, 0 ends, 1 returns
def xrdR0_L : List (Nat × Nat × Nat) := []
def xrdR0_O : yO := []
def xrdR0_A : yA := (yZ xrdR0_L, [], [], [], [])
def xrdR0_C : List xB := [(.lt, .arg 5, .int 0, false)]
def xrdR0_ss : List yS := []
def xrdR0_rs : List yR := [(some (.sub (.int (Int32.ofInt (-10))) (.arg 5)), [], [(.lt, .arg 5, .int 0, false)], [])]
theorem xrdR0_w : ywa xrdR0_A xrdR0_ss xrdR0_rs = true := by decide +kernel
theorem xrdR0_k : yis (yev xrdR0_A 3000 60 98 [] (30, [(0, .index 0), (1, .arg 1)], [.arg 5], xrdR0_O, xrdR0_C, [])) xrdR0_ss xrdR0_rs = true := by decide +kernel
def xrdR0_r (v1_ v5 : Int32) (k_ : Nat) : Value := bif Nat.beq k_ 1 then .int v1_ else (bif Nat.beq k_ 5 then .int v5 else (.int 0))
def xrdR0_s (n_ : Nat) : Nat := 0
theorem xrdR0 {h_ : xH} {v1_ v5 : Int32} (hs : sHp h_) (c0_ : (0 : Int32).toInt ≤ v5.toInt) : ∃ h', ysm h_ h' ∧ (((∀ a_ j_ : Nat, bpat h' a_ j_ = bpat h_ a_ j_) ∧ (∀ D_, 60 ≤ D_ → xrun D_ 98 30 [(0, .index 0), (1, .int v1_)] [.int v5] h_ (some (.int ((Int32.ofInt (-10)) - v5)), h', [])))) := by
  have hA : yas xrdR0_A (xrdR0_r v1_ v5) (yg xrdR0_s) := ⟨fun q_ hq => absurd hq List.not_mem_nil, fun q_ hq => absurd hq List.not_mem_nil, fun q_ hq => absurd hq List.not_mem_nil, fun n_ hn => yg_lo hn, fun q_ hq => absurd hq List.not_mem_nil⟩
  have Hs : ysh xrdR0_A.1 (yg xrdR0_s) h_ := ysh_of2 hs (fun q_ hq => absurd hq List.not_mem_nil)
  have Ho : ymem (xrdR0_r v1_ v5) (yg xrdR0_s) xrdR0_O h_ := fun q_ hq => absurd hq List.not_mem_nil
  have HC : ∀ q_ ∈ xrdR0_C, xhold (xrdR0_r v1_ v5) q_ := List.forall_mem_cons.mpr ⟨xh_ltF c0_, fun q_ hq => absurd hq List.not_mem_nil⟩
  rcases yrun (yis_ok xrdR0_k) hA Hs Ho HC with ⟨q_, hq, h', K_, G_⟩ | ⟨q_, hq, h', K_, G_⟩
  · cases hq
  · have e_ := List.mem_singleton.mp hq
    subst e_
    exact ⟨h', yfr_sm K_.2.2.2 hs K_.1 (ywa_r xrdR0_w List.mem_cons_self), ⟨fun a_ j_ => yfr_bp K_.2.2.2 (fun q_ hq => absurd hq List.not_mem_nil), G_⟩⟩
theorem cf_b : ∀ (l : List Int32) (m_ i_ : Nat) (n_ : Bool), -1 ≤ cf m_ n_ i_ l ∧ cf m_ n_ i_ l ≤ ((i_ + l.length : Nat) : Int) := by
  intro l
  induction l with
  | nil =>
    intro m_ i_ n_
    show -1 ≤ (if m_ = 0 then -1 else (i_ : Int)) ∧ (if m_ = 0 then -1 else (i_ : Int)) ≤ ((i_ + 0 : Nat) : Int)
    split <;> omega
  | cons v_ t_ ih_ =>
    intro m_ i_ n_
    have k_ : ∀ (m2_ : Nat) (n2_ : Bool), -1 ≤ cf m2_ n2_ (i_ + 1) t_ ∧ cf m2_ n2_ (i_ + 1) t_ ≤ ((i_ + (t_.length + 1) : Nat) : Int) := fun m2_ n2_ => by
      have q_ := ih_ m2_ (i_ + 1) n2_
      omega
    have ki : -1 ≤ (i_ : Int) ∧ (i_ : Int) ≤ ((i_ + (t_.length + 1) : Nat) : Int) := by omega
    rw [List.length_cons]
    unfold cf
    split
    · split
      · exact k_ _ _
      · exact ki
    · split
      · split
        · exact k_ _ _
        · exact ki
      · split
        · exact ki
        · split
          · exact k_ _ _
          · split
            · exact k_ _ _
            · exact k_ _ _
def readsF (W_ : Nat → List Int32) (V : Nat → Int32) (z_ : Int32) : (Nat → List Int32) × (Nat → Int32) × Int32 := if 0 ≤ z_.toInt ∧ z_.toInt < (V 0).toInt then (W_, V, if cf 1 false 0 (W_ z_.toInt.toNat) < 0 then 1 else Int32.ofInt (-10) - Int32.ofInt (cf 1 false 0 (W_ z_.toInt.toNat))) else (W_, V, Int32.ofInt (-1000001))
theorem ok_reads {W_ : Nat → List Int32} {V : Nat → Int32} (K_ : okS W_ V) (z_ : Int32) : okS (readsF W_ V z_).1 (readsF W_ V z_).2.1 := by
  unfold readsF
  split <;> exact K_
theorem x_reads {W_ : Nat → List Int32} {V : Nat → Int32} {h_ : xH} {z_ : Int32} (B_ : bInv bZ bIj h_) (K_ : okS W_ V) (H_ : SX W_ V h_) : ∃ h', ysm h_ h' ∧ (SX (readsF W_ V z_).1 (readsF W_ V z_).2.1 h' ∧ ∀ D_, 62 ≤ D_ → xrun D_ 98 0 [(0, .index 0), (1, .int z_)] [] h_ (some (.int (readsF W_ V z_).2.2), h', [])) := by
  obtain ⟨y_, oy⟩ := xerr (k_ := 1) B_ (by omega)
  have zz := z0_
  unfold readsF
  obtain ⟨h0, m0_, e_⟩ := xrdE (v1_ := z_) H_.1 (xNc H_) oy
  rcases e_ with ⟨g1, g2, f_, r_⟩ | ⟨g1, w0_, f_, r_⟩ | ⟨g1, g2, w0_, f_, r_⟩
  rotate_left
  · rw [if_neg (fun q_ => by omega)]; exact ⟨h0, m0_, SX_e H_ m0_ f_, fun D_ hD => r_ D_ (by omega)⟩
  · rw [if_neg (fun q_ => by omega)]; exact ⟨h0, m0_, SX_e H_ m0_ f_, fun D_ hD => r_ D_ (by omega)⟩
  have H0 := SX_fr H_ m0_ (fun c_ j_ _ => f_ c_ j_)
  obtain ⟨c_, hc_, hN_, rfl, ec⟩ := isC_n (z_ := z_) K_ ⟨by omega, by omega⟩
  rw [if_pos ⟨by omega, by omega⟩, ec]
  obtain ⟨s1_, s2_, s3_⟩ := cl_s H0.1 hc_
  obtain ⟨h1, m1_, f1_, ld1⟩ := xrdG (v1_ := Int32.ofNat c_) H0.1 s2_ (by rw [ec]; exact s1_) ⟨by omega, by omega⟩
  have H1_ := SX_fr H0 m1_ (fun c_ j_ _ => f1_ c_ j_)
  have kc_ := K_.1.2.2.1 c_ hc_
  rw [Nat.zero_add] at kc_
  obtain ⟨h2, ⟨m2_, f2_⟩, r2⟩ := foX H1_.1 kc_.2 (SX_w H1_ (cl_x hc_))
  have ld2 := ycv (d_ := 60) (mi := 98) (pc := 27) (cm := 5) (lo_ := [(0, .index 0), (1, .int (Int32.ofNat c_))]) (st_ := [.index (34 + 2 * c_), .index 152]) (as_ := [.index (34 + 2 * c_)]) (s' := []) rfl rfl (bcq_of (n_ := 152) (z_ := (1, 3)) H1_.1 rfl) rfl (xcc_l (List.forall_mem_cons.mpr ⟨xidx_i (bcq_lt (bcq_of (n_ := 0) (z_ := (11, 15)) H1_.1 rfl)), List.forall_mem_cons.mpr ⟨rfl, fun q_ hq => absurd hq List.not_mem_nil⟩⟩) (fun t_ ht => absurd ht List.not_mem_nil) (Nat.le_of_ble_eq_true rfl)) r2
  have H2_ := SX_fr H1_ m2_ (fun c_ j_ _ => f2_ c_ j_)
  have b_ := cf_b (W_ c_) 1 0 false
  have ei : (Int32.ofInt (cf 1 false 0 (W_ c_))).toInt = cf 1 false 0 (W_ c_) := Int32.toInt_ofInt_of_le (by omega) (by omega)
  by_cases g_ : cf 1 false 0 (W_ c_) < 0
  · rw [if_pos g_]
    obtain ⟨h3, m3_, f3_, r3⟩ := xrdR1 (v1_ := Int32.ofNat c_) (v5 := Int32.ofInt (cf 1 false 0 (W_ c_))) H2_.1 (by rw [ei]; exact g_)
    exact ⟨h3, ysm_tr m0_ (ysm_tr m1_ (ysm_tr m2_ m3_)), SX_fr H2_ m3_ (fun c_ j_ _ => f3_ c_ j_), fun D_ hD => r_ D_ (by omega) _ (ld1 D_ (by omega) _ (ld2 D_ (by omega) _ (r3 D_ (by omega))))⟩
  · rw [if_neg g_]
    obtain ⟨h3, m3_, f3_, r3⟩ := xrdR0 (v1_ := Int32.ofNat c_) (v5 := Int32.ofInt (cf 1 false 0 (W_ c_))) H2_.1 (by rw [ei]; omega)
    exact ⟨h3, ysm_tr m0_ (ysm_tr m1_ (ysm_tr m2_ m3_)), SX_fr H2_ m3_ (fun c_ j_ _ => f3_ c_ j_), fun D_ hD => r_ D_ (by omega) _ (ld1 D_ (by omega) _ (ld2 D_ (by omega) _ (r3 D_ (by omega))))⟩
-- tmW: 25 steps, 0 ends, 1 returns
def tmW_L : List (Nat × Nat × Nat) := []
def tmW_O : yO := [(338, .int 16, .arg 316), (338, .int 4, .index 342), (342, .int 0, .arg 300), (342, .arg 316, .arg 301), (338, .int 17, .arg 317)]
def tmW_A : yA := (yZ tmW_L, [(.arg 316, 13)], [], [], [])
def tmW_C : List xB := [(.eq, .arg 317, .int 0, false), (.le, .arg 316, .arg 300, true)]
def tmW_ss : List yS := []
def tmW_rs : List yR := [(some (.int 0), [(338, .int 17, .int 1), (338, .int 16, .arg 316), (338, .int 4, .index 342), (342, .int 0, .arg 300), (342, .arg 316, .arg 301)], [(.eq, .arg 317, .int 0, false), (.le, .arg 316, .arg 300, true)], [(338, .int 17)])]
theorem tmW_w : ywa tmW_A tmW_ss tmW_rs = true := by decide +kernel
theorem tmW_k : yis (yev tmW_A 3000 60 204 [] (0, [(0, .index 338)], [], tmW_O, tmW_C, [])) tmW_ss tmW_rs = true := by decide +kernel
def tmW_r (v300 v301 v316 v317 : Int32) (k_ : Nat) : Value := bif Nat.beq k_ 300 then .int v300 else (bif Nat.beq k_ 301 then .int v301 else (bif Nat.beq k_ 316 then .int v316 else (bif Nat.beq k_ 317 then .int v317 else (.int 0))))
def tmW_s (n_ : Nat) : Nat := 0
theorem tmW {h_ : xH} {v300 v301 v316 v317 : Int32} (hs : sHp h_) (o0_ : bpat h_ 338 16 = some (.int v316)) (o1 : bpat h_ 342 0 = some (.int v300)) (o2 : bpat h_ 342 (v316).toInt.toNat = some (.int v301)) (o3_ : bpat h_ 338 17 = some (.int v317)) (b0 : 0 ≤ (v316).toInt ∧ (v316).toInt < 13) (c0_ : ¬ v317 = (0 : Int32)) (c1_ : v316.toInt ≤ v300.toInt) : ∃ h', ysm h_ h' ∧ (((bpat h' 338 17 = some (.int (1 : Int32))) ∧ (∀ a_ j_ : Nat, ¬ (a_ = 338 ∧ j_ = 17) → bpat h' a_ j_ = bpat h_ a_ j_) ∧ (∀ D_, 60 ≤ D_ → xrun D_ 204 0 [(0, .index 338)] [] h_ (some (.int (0 : Int32)), h', [])))) := by
  have hA : yas tmW_A (tmW_r v300 v301 v316 v317) (yg tmW_s) := ⟨List.forall_mem_cons.mpr ⟨b0, fun q_ hq => absurd hq List.not_mem_nil⟩, fun q_ hq => absurd hq List.not_mem_nil, fun q_ hq => absurd hq List.not_mem_nil, fun n_ hn => yg_lo hn, fun q_ hq => absurd hq List.not_mem_nil⟩
  have Hs : ysh tmW_A.1 (yg tmW_s) h_ := ysh_of2 hs (fun q_ hq => absurd hq List.not_mem_nil)
  have Ho : ymem (tmW_r v300 v301 v316 v317) (yg tmW_s) tmW_O h_ := List.forall_mem_cons.mpr ⟨bpat_some o0_, List.forall_mem_cons.mpr ⟨bpat_some (fxr_at hs.2 (show fxk fxl 338 4 = some 342 by decide +kernel)), List.forall_mem_cons.mpr ⟨bpat_some o1, List.forall_mem_cons.mpr ⟨bpat_some o2, List.forall_mem_cons.mpr ⟨bpat_some o3_, fun q_ hq => absurd hq List.not_mem_nil⟩⟩⟩⟩⟩
  have HC : ∀ q_ ∈ tmW_C, xhold (tmW_r v300 v301 v316 v317) q_ := List.forall_mem_cons.mpr ⟨xh_eqF2 c0_, List.forall_mem_cons.mpr ⟨xh_leT c1_, fun q_ hq => absurd hq List.not_mem_nil⟩⟩
  rcases yrun (yis_ok tmW_k) hA Hs Ho HC with ⟨q_, hq, h', K_, G_⟩ | ⟨q_, hq, h', K_, G_⟩
  · cases hq
  · have e_ := List.mem_singleton.mp hq
    subst e_
    exact ⟨h', yfr_sm K_.2.2.2 hs K_.1 (ywa_r tmW_w List.mem_cons_self), ⟨bpat_of (K_.2.1 _ List.mem_cons_self), fun a_ j_ n0_ => yfr_bp K_.2.2.2 (List.forall_mem_cons.mpr ⟨fun e_ => n0_ ⟨e_.1.symm, e_.2.symm⟩, fun q_ hq => absurd hq List.not_mem_nil⟩), G_⟩⟩
-- tmW2: 21 steps, 0 ends, 1 returns
def tmW2_L : List (Nat × Nat × Nat) := []
def tmW2_O : yO := [(338, .int 16, .arg 316), (338, .int 4, .index 342), (342, .int 0, .arg 300), (338, .int 17, .arg 317)]
def tmW2_A : yA := (yZ tmW2_L, [], [], [], [])
def tmW2_C : List xB := [(.eq, .arg 317, .int 0, false), (.le, .arg 316, .arg 300, false)]
def tmW2_ss : List yS := []
def tmW2_rs : List yR := [(some (.int 0), [(338, .int 17, .int 1), (338, .int 16, .arg 316), (338, .int 4, .index 342), (342, .int 0, .arg 300)], [(.eq, .arg 317, .int 0, false), (.le, .arg 316, .arg 300, false)], [(338, .int 17)])]
theorem tmW2_w : ywa tmW2_A tmW2_ss tmW2_rs = true := by decide +kernel
theorem tmW2_k : yis (yev tmW2_A 3000 60 204 [] (0, [(0, .index 338)], [], tmW2_O, tmW2_C, [])) tmW2_ss tmW2_rs = true := by decide +kernel
def tmW2_r (v300 v316 v317 : Int32) (k_ : Nat) : Value := bif Nat.beq k_ 300 then .int v300 else (bif Nat.beq k_ 316 then .int v316 else (bif Nat.beq k_ 317 then .int v317 else (.int 0)))
def tmW2_s (n_ : Nat) : Nat := 0
theorem tmW2 {h_ : xH} {v300 v316 v317 : Int32} (hs : sHp h_) (o0_ : bpat h_ 338 16 = some (.int v316)) (o1 : bpat h_ 342 0 = some (.int v300)) (o2 : bpat h_ 338 17 = some (.int v317)) (c0_ : ¬ v317 = (0 : Int32)) (c1_ : v300.toInt < v316.toInt) : ∃ h', ysm h_ h' ∧ (((bpat h' 338 17 = some (.int (1 : Int32))) ∧ (∀ a_ j_ : Nat, ¬ (a_ = 338 ∧ j_ = 17) → bpat h' a_ j_ = bpat h_ a_ j_) ∧ (∀ D_, 60 ≤ D_ → xrun D_ 204 0 [(0, .index 338)] [] h_ (some (.int (0 : Int32)), h', [])))) := by
  have hA : yas tmW2_A (tmW2_r v300 v316 v317) (yg tmW2_s) := ⟨fun q_ hq => absurd hq List.not_mem_nil, fun q_ hq => absurd hq List.not_mem_nil, fun q_ hq => absurd hq List.not_mem_nil, fun n_ hn => yg_lo hn, fun q_ hq => absurd hq List.not_mem_nil⟩
  have Hs : ysh tmW2_A.1 (yg tmW2_s) h_ := ysh_of2 hs (fun q_ hq => absurd hq List.not_mem_nil)
  have Ho : ymem (tmW2_r v300 v316 v317) (yg tmW2_s) tmW2_O h_ := List.forall_mem_cons.mpr ⟨bpat_some o0_, List.forall_mem_cons.mpr ⟨bpat_some (fxr_at hs.2 (show fxk fxl 338 4 = some 342 by decide +kernel)), List.forall_mem_cons.mpr ⟨bpat_some o1, List.forall_mem_cons.mpr ⟨bpat_some o2, fun q_ hq => absurd hq List.not_mem_nil⟩⟩⟩⟩
  have HC : ∀ q_ ∈ tmW2_C, xhold (tmW2_r v300 v316 v317) q_ := List.forall_mem_cons.mpr ⟨xh_eqF2 c0_, List.forall_mem_cons.mpr ⟨xh_leF c1_, fun q_ hq => absurd hq List.not_mem_nil⟩⟩
  rcases yrun (yis_ok tmW2_k) hA Hs Ho HC with ⟨q_, hq, h', K_, G_⟩ | ⟨q_, hq, h', K_, G_⟩
  · cases hq
  · have e_ := List.mem_singleton.mp hq
    subst e_
    exact ⟨h', yfr_sm K_.2.2.2 hs K_.1 (ywa_r tmW2_w List.mem_cons_self), ⟨bpat_of (K_.2.1 _ List.mem_cons_self), fun a_ j_ n0_ => yfr_bp K_.2.2.2 (List.forall_mem_cons.mpr ⟨fun e_ => n0_ ⟨e_.1.symm, e_.2.symm⟩, fun q_ hq => absurd hq List.not_mem_nil⟩), G_⟩⟩
-- tmE: 24 steps, 0 ends, 1 returns
def tmE_L : List (Nat × Nat × Nat) := []
def tmE_O : yO := [(338, .int 16, .arg 316), (338, .int 4, .index 342), (342, .int 0, .arg 300), (338, .int 17, .arg 317)]
def tmE_A : yA := (yZ tmE_L, [], [], [], [])
def tmE_C : List xB := [(.eq, .arg 317, .int 0, true), (.le, .arg 316, .arg 300, false)]
def tmE_ss : List yS := []
def tmE_rs : List yR := [(some (.int 0), [(338, .int 17, .int 1), (338, .int 16, .arg 316), (338, .int 4, .index 342), (342, .int 0, .arg 300)], [(.eq, .arg 317, .int 0, true), (.le, .arg 316, .arg 300, false)], [(338, .int 17)])]
theorem tmE_w : ywa tmE_A tmE_ss tmE_rs = true := by decide +kernel
theorem tmE_k : yis (yev tmE_A 3000 60 204 [] (0, [(0, .index 338)], [], tmE_O, tmE_C, [])) tmE_ss tmE_rs = true := by decide +kernel
def tmE_r (v300 v316 v317 : Int32) (k_ : Nat) : Value := bif Nat.beq k_ 300 then .int v300 else (bif Nat.beq k_ 316 then .int v316 else (bif Nat.beq k_ 317 then .int v317 else (.int 0)))
def tmE_s (n_ : Nat) : Nat := 0
theorem tmE {h_ : xH} {v300 v316 v317 : Int32} (hs : sHp h_) (o0_ : bpat h_ 338 16 = some (.int v316)) (o1 : bpat h_ 342 0 = some (.int v300)) (o2 : bpat h_ 338 17 = some (.int v317)) (c0_ : v317 = (0 : Int32)) (c1_ : v300.toInt < v316.toInt) : ∃ h', ysm h_ h' ∧ (((bpat h' 338 17 = some (.int (1 : Int32))) ∧ (∀ a_ j_ : Nat, ¬ (a_ = 338 ∧ j_ = 17) → bpat h' a_ j_ = bpat h_ a_ j_) ∧ (∀ D_, 60 ≤ D_ → xrun D_ 204 0 [(0, .index 338)] [] h_ (some (.int (0 : Int32)), h', [])))) := by
  have hA : yas tmE_A (tmE_r v300 v316 v317) (yg tmE_s) := ⟨fun q_ hq => absurd hq List.not_mem_nil, fun q_ hq => absurd hq List.not_mem_nil, fun q_ hq => absurd hq List.not_mem_nil, fun n_ hn => yg_lo hn, fun q_ hq => absurd hq List.not_mem_nil⟩
  have Hs : ysh tmE_A.1 (yg tmE_s) h_ := ysh_of2 hs (fun q_ hq => absurd hq List.not_mem_nil)
  have Ho : ymem (tmE_r v300 v316 v317) (yg tmE_s) tmE_O h_ := List.forall_mem_cons.mpr ⟨bpat_some o0_, List.forall_mem_cons.mpr ⟨bpat_some (fxr_at hs.2 (show fxk fxl 338 4 = some 342 by decide +kernel)), List.forall_mem_cons.mpr ⟨bpat_some o1, List.forall_mem_cons.mpr ⟨bpat_some o2, fun q_ hq => absurd hq List.not_mem_nil⟩⟩⟩⟩
  have HC : ∀ q_ ∈ tmE_C, xhold (tmE_r v300 v316 v317) q_ := List.forall_mem_cons.mpr ⟨xh_eqT2 c0_, List.forall_mem_cons.mpr ⟨xh_leF c1_, fun q_ hq => absurd hq List.not_mem_nil⟩⟩
  rcases yrun (yis_ok tmE_k) hA Hs Ho HC with ⟨q_, hq, h', K_, G_⟩ | ⟨q_, hq, h', K_, G_⟩
  · cases hq
  · have e_ := List.mem_singleton.mp hq
    subst e_
    exact ⟨h', yfr_sm K_.2.2.2 hs K_.1 (ywa_r tmE_w List.mem_cons_self), ⟨bpat_of (K_.2.1 _ List.mem_cons_self), fun a_ j_ n0_ => yfr_bp K_.2.2.2 (List.forall_mem_cons.mpr ⟨fun e_ => n0_ ⟨e_.1.symm, e_.2.symm⟩, fun q_ hq => absurd hq List.not_mem_nil⟩), G_⟩⟩
-- tm50: 31 steps, 0 ends, 1 returns
def tm50_L : List (Nat × Nat × Nat) := []
def tm50_O : yO := [(338, .int 16, .arg 316), (338, .int 4, .index 342), (342, .int 0, .arg 300), (342, .arg 316, .int 50), (338, .int 17, .arg 317)]
def tm50_A : yA := (yZ tm50_L, [(.arg 316, 13)], [], [], [])
def tm50_C : List xB := [(.eq, .arg 317, .int 0, true), (.le, .arg 316, .arg 300, true)]
def tm50_ss : List yS := []
def tm50_rs : List yR := [(some (.int 0), [(338, .int 17, .int 1), (338, .int 16, .arg 316), (338, .int 4, .index 342), (342, .int 0, .arg 300), (342, .arg 316, .int 50)], [(.eq, .arg 317, .int 0, true), (.le, .arg 316, .arg 300, true)], [(338, .int 17)])]
theorem tm50_w : ywa tm50_A tm50_ss tm50_rs = true := by decide +kernel
theorem tm50_k : yis (yev tm50_A 3000 60 204 [] (0, [(0, .index 338)], [], tm50_O, tm50_C, [])) tm50_ss tm50_rs = true := by decide +kernel
def tm50_r (v300 v316 v317 : Int32) (k_ : Nat) : Value := bif Nat.beq k_ 300 then .int v300 else (bif Nat.beq k_ 316 then .int v316 else (bif Nat.beq k_ 317 then .int v317 else (.int 0)))
def tm50_s (n_ : Nat) : Nat := 0
theorem tm50 {h_ : xH} {v300 v316 v317 : Int32} (hs : sHp h_) (o0_ : bpat h_ 338 16 = some (.int v316)) (o1 : bpat h_ 342 0 = some (.int v300)) (o2 : bpat h_ 342 (v316).toInt.toNat = some (.int (50 : Int32))) (o3_ : bpat h_ 338 17 = some (.int v317)) (b0 : 0 ≤ (v316).toInt ∧ (v316).toInt < 13) (c0_ : v317 = (0 : Int32)) (c1_ : v316.toInt ≤ v300.toInt) : ∃ h', ysm h_ h' ∧ (((bpat h' 338 17 = some (.int (1 : Int32))) ∧ (∀ a_ j_ : Nat, ¬ (a_ = 338 ∧ j_ = 17) → bpat h' a_ j_ = bpat h_ a_ j_) ∧ (∀ D_, 60 ≤ D_ → xrun D_ 204 0 [(0, .index 338)] [] h_ (some (.int (0 : Int32)), h', [])))) := by
  have hA : yas tm50_A (tm50_r v300 v316 v317) (yg tm50_s) := ⟨List.forall_mem_cons.mpr ⟨b0, fun q_ hq => absurd hq List.not_mem_nil⟩, fun q_ hq => absurd hq List.not_mem_nil, fun q_ hq => absurd hq List.not_mem_nil, fun n_ hn => yg_lo hn, fun q_ hq => absurd hq List.not_mem_nil⟩
  have Hs : ysh tm50_A.1 (yg tm50_s) h_ := ysh_of2 hs (fun q_ hq => absurd hq List.not_mem_nil)
  have Ho : ymem (tm50_r v300 v316 v317) (yg tm50_s) tm50_O h_ := List.forall_mem_cons.mpr ⟨bpat_some o0_, List.forall_mem_cons.mpr ⟨bpat_some (fxr_at hs.2 (show fxk fxl 338 4 = some 342 by decide +kernel)), List.forall_mem_cons.mpr ⟨bpat_some o1, List.forall_mem_cons.mpr ⟨bpat_some o2, List.forall_mem_cons.mpr ⟨bpat_some o3_, fun q_ hq => absurd hq List.not_mem_nil⟩⟩⟩⟩⟩
  have HC : ∀ q_ ∈ tm50_C, xhold (tm50_r v300 v316 v317) q_ := List.forall_mem_cons.mpr ⟨xh_eqT2 c0_, List.forall_mem_cons.mpr ⟨xh_leT c1_, fun q_ hq => absurd hq List.not_mem_nil⟩⟩
  rcases yrun (yis_ok tm50_k) hA Hs Ho HC with ⟨q_, hq, h', K_, G_⟩ | ⟨q_, hq, h', K_, G_⟩
  · cases hq
  · have e_ := List.mem_singleton.mp hq
    subst e_
    exact ⟨h', yfr_sm K_.2.2.2 hs K_.1 (ywa_r tm50_w List.mem_cons_self), ⟨bpat_of (K_.2.1 _ List.mem_cons_self), fun a_ j_ n0_ => yfr_bp K_.2.2.2 (List.forall_mem_cons.mpr ⟨fun e_ => n0_ ⟨e_.1.symm, e_.2.symm⟩, fun q_ hq => absurd hq List.not_mem_nil⟩), G_⟩⟩
-- tm51: 34 steps, 0 ends, 1 returns
def tm51_L : List (Nat × Nat × Nat) := []
def tm51_O : yO := [(338, .int 16, .arg 316), (338, .int 4, .index 342), (342, .int 0, .arg 300), (342, .arg 316, .int 51), (338, .int 17, .arg 317)]
def tm51_A : yA := (yZ tm51_L, [(.arg 316, 13)], [], [], [])
def tm51_C : List xB := [(.eq, .arg 317, .int 0, true), (.le, .arg 316, .arg 300, true)]
def tm51_ss : List yS := []
def tm51_rs : List yR := [(some (.int 0), [(338, .int 17, .int 1), (338, .int 16, .arg 316), (338, .int 4, .index 342), (342, .int 0, .arg 300), (342, .arg 316, .int 51)], [(.eq, .arg 317, .int 0, true), (.le, .arg 316, .arg 300, true)], [(338, .int 17)])]
theorem tm51_w : ywa tm51_A tm51_ss tm51_rs = true := by decide +kernel
theorem tm51_k : yis (yev tm51_A 3000 60 204 [] (0, [(0, .index 338)], [], tm51_O, tm51_C, [])) tm51_ss tm51_rs = true := by decide +kernel
def tm51_r (v300 v316 v317 : Int32) (k_ : Nat) : Value := bif Nat.beq k_ 300 then .int v300 else (bif Nat.beq k_ 316 then .int v316 else (bif Nat.beq k_ 317 then .int v317 else (.int 0)))
def tm51_s (n_ : Nat) : Nat := 0
theorem tm51 {h_ : xH} {v300 v316 v317 : Int32} (hs : sHp h_) (o0_ : bpat h_ 338 16 = some (.int v316)) (o1 : bpat h_ 342 0 = some (.int v300)) (o2 : bpat h_ 342 (v316).toInt.toNat = some (.int (51 : Int32))) (o3_ : bpat h_ 338 17 = some (.int v317)) (b0 : 0 ≤ (v316).toInt ∧ (v316).toInt < 13) (c0_ : v317 = (0 : Int32)) (c1_ : v316.toInt ≤ v300.toInt) : ∃ h', ysm h_ h' ∧ (((bpat h' 338 17 = some (.int (1 : Int32))) ∧ (∀ a_ j_ : Nat, ¬ (a_ = 338 ∧ j_ = 17) → bpat h' a_ j_ = bpat h_ a_ j_) ∧ (∀ D_, 60 ≤ D_ → xrun D_ 204 0 [(0, .index 338)] [] h_ (some (.int (0 : Int32)), h', [])))) := by
  have hA : yas tm51_A (tm51_r v300 v316 v317) (yg tm51_s) := ⟨List.forall_mem_cons.mpr ⟨b0, fun q_ hq => absurd hq List.not_mem_nil⟩, fun q_ hq => absurd hq List.not_mem_nil, fun q_ hq => absurd hq List.not_mem_nil, fun n_ hn => yg_lo hn, fun q_ hq => absurd hq List.not_mem_nil⟩
  have Hs : ysh tm51_A.1 (yg tm51_s) h_ := ysh_of2 hs (fun q_ hq => absurd hq List.not_mem_nil)
  have Ho : ymem (tm51_r v300 v316 v317) (yg tm51_s) tm51_O h_ := List.forall_mem_cons.mpr ⟨bpat_some o0_, List.forall_mem_cons.mpr ⟨bpat_some (fxr_at hs.2 (show fxk fxl 338 4 = some 342 by decide +kernel)), List.forall_mem_cons.mpr ⟨bpat_some o1, List.forall_mem_cons.mpr ⟨bpat_some o2, List.forall_mem_cons.mpr ⟨bpat_some o3_, fun q_ hq => absurd hq List.not_mem_nil⟩⟩⟩⟩⟩
  have HC : ∀ q_ ∈ tm51_C, xhold (tm51_r v300 v316 v317) q_ := List.forall_mem_cons.mpr ⟨xh_eqT2 c0_, List.forall_mem_cons.mpr ⟨xh_leT c1_, fun q_ hq => absurd hq List.not_mem_nil⟩⟩
  rcases yrun (yis_ok tm51_k) hA Hs Ho HC with ⟨q_, hq, h', K_, G_⟩ | ⟨q_, hq, h', K_, G_⟩
  · cases hq
  · have e_ := List.mem_singleton.mp hq
    subst e_
    exact ⟨h', yfr_sm K_.2.2.2 hs K_.1 (ywa_r tm51_w List.mem_cons_self), ⟨bpat_of (K_.2.1 _ List.mem_cons_self), fun a_ j_ n0_ => yfr_bp K_.2.2.2 (List.forall_mem_cons.mpr ⟨fun e_ => n0_ ⟨e_.1.symm, e_.2.symm⟩, fun q_ hq => absurd hq List.not_mem_nil⟩), G_⟩⟩
-- tmG: 37 steps, 0 ends, 1 returns
def tmG_L : List (Nat × Nat × Nat) := []
def tmG_O : yO := [(338, .int 16, .arg 316), (338, .int 4, .index 342), (342, .int 0, .arg 300), (342, .arg 316, .arg 301), (338, .int 17, .arg 317)]
def tmG_A : yA := (yZ tmG_L, [(.arg 316, 13)], [], [], [])
def tmG_C : List xB := [(.lt, .arg 301, .int 60, false), (.eq, .arg 301, .int 51, false), (.eq, .arg 301, .int 50, false), (.eq, .arg 301, .int (Int32.ofInt (-1)), false), (.eq, .arg 317, .int 0, true), (.le, .arg 316, .arg 300, true)]
def tmG_ss : List yS := []
def tmG_rs : List yR := [(some (.int 0), [(338, .int 17, .int 1), (338, .int 16, .arg 316), (338, .int 4, .index 342), (342, .int 0, .arg 300), (342, .arg 316, .arg 301)], [(.lt, .arg 301, .int 60, false), (.eq, .arg 301, .int 51, false), (.eq, .arg 301, .int 50, false), (.eq, .arg 301, .int (Int32.ofInt (-1)), false), (.eq, .arg 317, .int 0, true), (.le, .arg 316, .arg 300, true)], [(338, .int 17)])]
theorem tmG_w : ywa tmG_A tmG_ss tmG_rs = true := by decide +kernel
theorem tmG_k : yis (yev tmG_A 3000 60 204 [] (0, [(0, .index 338)], [], tmG_O, tmG_C, [])) tmG_ss tmG_rs = true := by decide +kernel
def tmG_r (v300 v301 v316 v317 : Int32) (k_ : Nat) : Value := bif Nat.beq k_ 300 then .int v300 else (bif Nat.beq k_ 301 then .int v301 else (bif Nat.beq k_ 316 then .int v316 else (bif Nat.beq k_ 317 then .int v317 else (.int 0))))
def tmG_s (n_ : Nat) : Nat := 0
theorem tmG {h_ : xH} {v300 v301 v316 v317 : Int32} (hs : sHp h_) (o0_ : bpat h_ 338 16 = some (.int v316)) (o1 : bpat h_ 342 0 = some (.int v300)) (o2 : bpat h_ 342 (v316).toInt.toNat = some (.int v301)) (o3_ : bpat h_ 338 17 = some (.int v317)) (b0 : 0 ≤ (v316).toInt ∧ (v316).toInt < 13) (c0_ : (60 : Int32).toInt ≤ v301.toInt) (c1_ : ¬ v301 = (51 : Int32)) (c2_ : ¬ v301 = (50 : Int32)) (c3_ : ¬ v301 = (Int32.ofInt (-1))) (c4_ : v317 = (0 : Int32)) (c5_ : v316.toInt ≤ v300.toInt) : ∃ h', ysm h_ h' ∧ (((bpat h' 338 17 = some (.int (1 : Int32))) ∧ (∀ a_ j_ : Nat, ¬ (a_ = 338 ∧ j_ = 17) → bpat h' a_ j_ = bpat h_ a_ j_) ∧ (∀ D_, 60 ≤ D_ → xrun D_ 204 0 [(0, .index 338)] [] h_ (some (.int (0 : Int32)), h', [])))) := by
  have hA : yas tmG_A (tmG_r v300 v301 v316 v317) (yg tmG_s) := ⟨List.forall_mem_cons.mpr ⟨b0, fun q_ hq => absurd hq List.not_mem_nil⟩, fun q_ hq => absurd hq List.not_mem_nil, fun q_ hq => absurd hq List.not_mem_nil, fun n_ hn => yg_lo hn, fun q_ hq => absurd hq List.not_mem_nil⟩
  have Hs : ysh tmG_A.1 (yg tmG_s) h_ := ysh_of2 hs (fun q_ hq => absurd hq List.not_mem_nil)
  have Ho : ymem (tmG_r v300 v301 v316 v317) (yg tmG_s) tmG_O h_ := List.forall_mem_cons.mpr ⟨bpat_some o0_, List.forall_mem_cons.mpr ⟨bpat_some (fxr_at hs.2 (show fxk fxl 338 4 = some 342 by decide +kernel)), List.forall_mem_cons.mpr ⟨bpat_some o1, List.forall_mem_cons.mpr ⟨bpat_some o2, List.forall_mem_cons.mpr ⟨bpat_some o3_, fun q_ hq => absurd hq List.not_mem_nil⟩⟩⟩⟩⟩
  have HC : ∀ q_ ∈ tmG_C, xhold (tmG_r v300 v301 v316 v317) q_ := List.forall_mem_cons.mpr ⟨xh_ltF c0_, List.forall_mem_cons.mpr ⟨xh_eqF2 c1_, List.forall_mem_cons.mpr ⟨xh_eqF2 c2_, List.forall_mem_cons.mpr ⟨xh_eqF2 c3_, List.forall_mem_cons.mpr ⟨xh_eqT2 c4_, List.forall_mem_cons.mpr ⟨xh_leT c5_, fun q_ hq => absurd hq List.not_mem_nil⟩⟩⟩⟩⟩⟩
  rcases yrun (yis_ok tmG_k) hA Hs Ho HC with ⟨q_, hq, h', K_, G_⟩ | ⟨q_, hq, h', K_, G_⟩
  · cases hq
  · have e_ := List.mem_singleton.mp hq
    subst e_
    exact ⟨h', yfr_sm K_.2.2.2 hs K_.1 (ywa_r tmG_w List.mem_cons_self), ⟨bpat_of (K_.2.1 _ List.mem_cons_self), fun a_ j_ n0_ => yfr_bp K_.2.2.2 (List.forall_mem_cons.mpr ⟨fun e_ => n0_ ⟨e_.1.symm, e_.2.symm⟩, fun q_ hq => absurd hq List.not_mem_nil⟩), G_⟩⟩
-- tm53: 42 steps, 1 ends, 0 returns
def tm53_L : List (Nat × Nat × Nat) := []
def tm53_O : yO := [(338, .int 16, .arg 316), (338, .int 4, .index 342), (342, .int 0, .arg 300), (342, .arg 316, .int 53), (338, .int 17, .arg 317)]
def tm53_A : yA := (yZ tm53_L, [(.arg 316, 13)], [], [], [])
def tm53_C : List xB := [(.eq, .arg 317, .int 0, true), (.le, .arg 316, .arg 300, true)]
def tm53_ss : List yS := [(63, [(1, .int 53), (0, .index 338)], [.index 338], [(338, .int 16, .add (.arg 316) (.int 1)), (338, .int 4, .index 342), (342, .int 0, .arg 300), (342, .arg 316, .int 53), (338, .int 17, .arg 317)], [(.eq, .arg 317, .int 0, true), (.le, .arg 316, .arg 300, true)], [(338, .int 16)])]
def tm53_rs : List yR := []
theorem tm53_w : ywa tm53_A tm53_ss tm53_rs = true := by decide +kernel
theorem tm53_k : yis (yev tm53_A 3000 60 204 [63] (0, [(0, .index 338)], [], tm53_O, tm53_C, [])) tm53_ss tm53_rs = true := by decide +kernel
def tm53_r (v300 v316 v317 : Int32) (k_ : Nat) : Value := bif Nat.beq k_ 300 then .int v300 else (bif Nat.beq k_ 316 then .int v316 else (bif Nat.beq k_ 317 then .int v317 else (.int 0)))
def tm53_s (n_ : Nat) : Nat := 0
theorem tm53 {h_ : xH} {v300 v316 v317 : Int32} (hs : sHp h_) (o0_ : bpat h_ 338 16 = some (.int v316)) (o1 : bpat h_ 342 0 = some (.int v300)) (o2 : bpat h_ 342 (v316).toInt.toNat = some (.int (53 : Int32))) (o3_ : bpat h_ 338 17 = some (.int v317)) (b0 : 0 ≤ (v316).toInt ∧ (v316).toInt < 13) (c0_ : v317 = (0 : Int32)) (c1_ : v316.toInt ≤ v300.toInt) : ∃ h', ysm h_ h' ∧ (((bpat h' 338 16 = some (.int (v316 + (1 : Int32)))) ∧ (∀ a_ j_ : Nat, ¬ (a_ = 338 ∧ j_ = 16) → bpat h' a_ j_ = bpat h_ a_ j_) ∧ (bldD 60 204 0 [(0, .index 338)] [] h_ 63 [(1, .int (53 : Int32)), (0, .index 338)] [.index 338] h'))) := by
  have hA : yas tm53_A (tm53_r v300 v316 v317) (yg tm53_s) := ⟨List.forall_mem_cons.mpr ⟨b0, fun q_ hq => absurd hq List.not_mem_nil⟩, fun q_ hq => absurd hq List.not_mem_nil, fun q_ hq => absurd hq List.not_mem_nil, fun n_ hn => yg_lo hn, fun q_ hq => absurd hq List.not_mem_nil⟩
  have Hs : ysh tm53_A.1 (yg tm53_s) h_ := ysh_of2 hs (fun q_ hq => absurd hq List.not_mem_nil)
  have Ho : ymem (tm53_r v300 v316 v317) (yg tm53_s) tm53_O h_ := List.forall_mem_cons.mpr ⟨bpat_some o0_, List.forall_mem_cons.mpr ⟨bpat_some (fxr_at hs.2 (show fxk fxl 338 4 = some 342 by decide +kernel)), List.forall_mem_cons.mpr ⟨bpat_some o1, List.forall_mem_cons.mpr ⟨bpat_some o2, List.forall_mem_cons.mpr ⟨bpat_some o3_, fun q_ hq => absurd hq List.not_mem_nil⟩⟩⟩⟩⟩
  have HC : ∀ q_ ∈ tm53_C, xhold (tm53_r v300 v316 v317) q_ := List.forall_mem_cons.mpr ⟨xh_eqT2 c0_, List.forall_mem_cons.mpr ⟨xh_leT c1_, fun q_ hq => absurd hq List.not_mem_nil⟩⟩
  rcases yrun (yis_ok tm53_k) hA Hs Ho HC with ⟨q_, hq, h', K_, G_⟩ | ⟨q_, hq, h', K_, G_⟩
  · have e_ := List.mem_singleton.mp hq
    subst e_
    exact ⟨h', yfr_sm K_.2.2.2 hs K_.1 (ywa_s tm53_w List.mem_cons_self), ⟨bpat_of (K_.2.1 _ List.mem_cons_self), fun a_ j_ n0_ => yfr_bp K_.2.2.2 (List.forall_mem_cons.mpr ⟨fun e_ => n0_ ⟨e_.1.symm, e_.2.symm⟩, fun q_ hq => absurd hq List.not_mem_nil⟩), G_⟩⟩
  · cases hq
-- tm53r0: 4 steps, 0 ends, 1 returns
def tm53r0_L : List (Nat × Nat × Nat) := []
def tm53r0_O : yO := []
def tm53r0_A : yA := (yZ tm53r0_L, [], [], [], [])
def tm53r0_C : List xB := []
def tm53r0_ss : List yS := []
def tm53r0_rs : List yR := [(some (.int 1), [], [], [])]
theorem tm53r0_w : ywa tm53r0_A tm53r0_ss tm53r0_rs = true := by decide +kernel
theorem tm53r0_k : yis (yev tm53r0_A 3000 60 204 [] (66, [(1, .int 53), (0, .index 338)], [.int 0], tm53r0_O, tm53r0_C, [])) tm53r0_ss tm53r0_rs = true := by decide +kernel
def tm53r0_r (k_ : Nat) : Value := .int 0
def tm53r0_s (n_ : Nat) : Nat := 0
theorem tm53r0 {h_ : xH} (hs : sHp h_) : ∃ h', ysm h_ h' ∧ (((∀ a_ j_ : Nat, bpat h' a_ j_ = bpat h_ a_ j_) ∧ (∀ D_, 60 ≤ D_ → xrun D_ 204 66 [(1, .int (53 : Int32)), (0, .index 338)] [.int (0 : Int32)] h_ (some (.int (1 : Int32)), h', [])))) := by
  have hA : yas tm53r0_A tm53r0_r (yg tm53r0_s) := ⟨fun q_ hq => absurd hq List.not_mem_nil, fun q_ hq => absurd hq List.not_mem_nil, fun q_ hq => absurd hq List.not_mem_nil, fun n_ hn => yg_lo hn, fun q_ hq => absurd hq List.not_mem_nil⟩
  have Hs : ysh tm53r0_A.1 (yg tm53r0_s) h_ := ysh_of2 hs (fun q_ hq => absurd hq List.not_mem_nil)
  have Ho : ymem tm53r0_r (yg tm53r0_s) tm53r0_O h_ := fun q_ hq => absurd hq List.not_mem_nil
  have HC : ∀ q_ ∈ tm53r0_C, xhold tm53r0_r q_ := fun q_ hq => absurd hq List.not_mem_nil
  rcases yrun (yis_ok tm53r0_k) hA Hs Ho HC with ⟨q_, hq, h', K_, G_⟩ | ⟨q_, hq, h', K_, G_⟩
  · cases hq
  · have e_ := List.mem_singleton.mp hq
    subst e_
    exact ⟨h', yfr_sm K_.2.2.2 hs K_.1 (ywa_r tm53r0_w List.mem_cons_self), ⟨fun a_ j_ => yfr_bp K_.2.2.2 (fun q_ hq => absurd hq List.not_mem_nil), G_⟩⟩
-- tm53r1: 3 steps, 0 ends, 1 returns
def tm53r1_L : List (Nat × Nat × Nat) := []
def tm53r1_O : yO := []
def tm53r1_A : yA := (yZ tm53r1_L, [], [], [], [])
def tm53r1_C : List xB := []
def tm53r1_ss : List yS := []
def tm53r1_rs : List yR := [(some (.int 0), [], [], [])]
theorem tm53r1_w : ywa tm53r1_A tm53r1_ss tm53r1_rs = true := by decide +kernel
theorem tm53r1_k : yis (yev tm53r1_A 3000 60 204 [] (66, [(1, .int 53), (0, .index 338)], [.int 1], tm53r1_O, tm53r1_C, [])) tm53r1_ss tm53r1_rs = true := by decide +kernel
def tm53r1_r (k_ : Nat) : Value := .int 0
def tm53r1_s (n_ : Nat) : Nat := 0
theorem tm53r1 {h_ : xH} (hs : sHp h_) : ∃ h', ysm h_ h' ∧ (((∀ a_ j_ : Nat, bpat h' a_ j_ = bpat h_ a_ j_) ∧ (∀ D_, 60 ≤ D_ → xrun D_ 204 66 [(1, .int (53 : Int32)), (0, .index 338)] [.int (1 : Int32)] h_ (some (.int (0 : Int32)), h', [])))) := by
  have hA : yas tm53r1_A tm53r1_r (yg tm53r1_s) := ⟨fun q_ hq => absurd hq List.not_mem_nil, fun q_ hq => absurd hq List.not_mem_nil, fun q_ hq => absurd hq List.not_mem_nil, fun n_ hn => yg_lo hn, fun q_ hq => absurd hq List.not_mem_nil⟩
  have Hs : ysh tm53r1_A.1 (yg tm53r1_s) h_ := ysh_of2 hs (fun q_ hq => absurd hq List.not_mem_nil)
  have Ho : ymem tm53r1_r (yg tm53r1_s) tm53r1_O h_ := fun q_ hq => absurd hq List.not_mem_nil
  have HC : ∀ q_ ∈ tm53r1_C, xhold tm53r1_r q_ := fun q_ hq => absurd hq List.not_mem_nil
  rcases yrun (yis_ok tm53r1_k) hA Hs Ho HC with ⟨q_, hq, h', K_, G_⟩ | ⟨q_, hq, h', K_, G_⟩
  · cases hq
  · have e_ := List.mem_singleton.mp hq
    subst e_
    exact ⟨h', yfr_sm K_.2.2.2 hs K_.1 (ywa_r tm53r1_w List.mem_cons_self), ⟨fun a_ j_ => yfr_bp K_.2.2.2 (fun q_ hq => absurd hq List.not_mem_nil), G_⟩⟩
-- tm52: 45 steps, 1 ends, 0 returns
def tm52_L : List (Nat × Nat × Nat) := []
def tm52_O : yO := [(338, .int 16, .arg 316), (338, .int 4, .index 342), (342, .int 0, .arg 300), (342, .arg 316, .int 52), (338, .int 17, .arg 317)]
def tm52_A : yA := (yZ tm52_L, [(.arg 316, 13)], [], [], [])
def tm52_C : List xB := [(.eq, .arg 317, .int 0, true), (.le, .arg 316, .arg 300, true)]
def tm52_ss : List yS := [(82, [(1, .int 52), (0, .index 338)], [.index 338], [(338, .int 16, .add (.arg 316) (.int 1)), (338, .int 4, .index 342), (342, .int 0, .arg 300), (342, .arg 316, .int 52), (338, .int 17, .arg 317)], [(.eq, .arg 317, .int 0, true), (.le, .arg 316, .arg 300, true)], [(338, .int 16)])]
def tm52_rs : List yR := []
theorem tm52_w : ywa tm52_A tm52_ss tm52_rs = true := by decide +kernel
theorem tm52_k : yis (yev tm52_A 3000 60 204 [82] (0, [(0, .index 338)], [], tm52_O, tm52_C, [])) tm52_ss tm52_rs = true := by decide +kernel
def tm52_r (v300 v316 v317 : Int32) (k_ : Nat) : Value := bif Nat.beq k_ 300 then .int v300 else (bif Nat.beq k_ 316 then .int v316 else (bif Nat.beq k_ 317 then .int v317 else (.int 0)))
def tm52_s (n_ : Nat) : Nat := 0
theorem tm52 {h_ : xH} {v300 v316 v317 : Int32} (hs : sHp h_) (o0_ : bpat h_ 338 16 = some (.int v316)) (o1 : bpat h_ 342 0 = some (.int v300)) (o2 : bpat h_ 342 (v316).toInt.toNat = some (.int (52 : Int32))) (o3_ : bpat h_ 338 17 = some (.int v317)) (b0 : 0 ≤ (v316).toInt ∧ (v316).toInt < 13) (c0_ : v317 = (0 : Int32)) (c1_ : v316.toInt ≤ v300.toInt) : ∃ h', ysm h_ h' ∧ (((bpat h' 338 16 = some (.int (v316 + (1 : Int32)))) ∧ (∀ a_ j_ : Nat, ¬ (a_ = 338 ∧ j_ = 16) → bpat h' a_ j_ = bpat h_ a_ j_) ∧ (bldD 60 204 0 [(0, .index 338)] [] h_ 82 [(1, .int (52 : Int32)), (0, .index 338)] [.index 338] h'))) := by
  have hA : yas tm52_A (tm52_r v300 v316 v317) (yg tm52_s) := ⟨List.forall_mem_cons.mpr ⟨b0, fun q_ hq => absurd hq List.not_mem_nil⟩, fun q_ hq => absurd hq List.not_mem_nil, fun q_ hq => absurd hq List.not_mem_nil, fun n_ hn => yg_lo hn, fun q_ hq => absurd hq List.not_mem_nil⟩
  have Hs : ysh tm52_A.1 (yg tm52_s) h_ := ysh_of2 hs (fun q_ hq => absurd hq List.not_mem_nil)
  have Ho : ymem (tm52_r v300 v316 v317) (yg tm52_s) tm52_O h_ := List.forall_mem_cons.mpr ⟨bpat_some o0_, List.forall_mem_cons.mpr ⟨bpat_some (fxr_at hs.2 (show fxk fxl 338 4 = some 342 by decide +kernel)), List.forall_mem_cons.mpr ⟨bpat_some o1, List.forall_mem_cons.mpr ⟨bpat_some o2, List.forall_mem_cons.mpr ⟨bpat_some o3_, fun q_ hq => absurd hq List.not_mem_nil⟩⟩⟩⟩⟩
  have HC : ∀ q_ ∈ tm52_C, xhold (tm52_r v300 v316 v317) q_ := List.forall_mem_cons.mpr ⟨xh_eqT2 c0_, List.forall_mem_cons.mpr ⟨xh_leT c1_, fun q_ hq => absurd hq List.not_mem_nil⟩⟩
  rcases yrun (yis_ok tm52_k) hA Hs Ho HC with ⟨q_, hq, h', K_, G_⟩ | ⟨q_, hq, h', K_, G_⟩
  · have e_ := List.mem_singleton.mp hq
    subst e_
    exact ⟨h', yfr_sm K_.2.2.2 hs K_.1 (ywa_s tm52_w List.mem_cons_self), ⟨bpat_of (K_.2.1 _ List.mem_cons_self), fun a_ j_ n0_ => yfr_bp K_.2.2.2 (List.forall_mem_cons.mpr ⟨fun e_ => n0_ ⟨e_.1.symm, e_.2.symm⟩, fun q_ hq => absurd hq List.not_mem_nil⟩), G_⟩⟩
  · cases hq
-- tm52a: 2 steps, 1 ends, 0 returns
def tm52a_L : List (Nat × Nat × Nat) := []
def tm52a_O : yO := []
def tm52a_A : yA := (yZ tm52a_L, [], [], [], [])
def tm52a_C : List xB := []
def tm52a_ss : List yS := [(87, [(2, .arg 8), (1, .int 52), (0, .index 338)], [.index 338], [], [], [])]
def tm52a_rs : List yR := []
theorem tm52a_w : ywa tm52a_A tm52a_ss tm52a_rs = true := by decide +kernel
theorem tm52a_k : yis (yev tm52a_A 3000 60 204 [87] (85, [(1, .int 52), (0, .index 338)], [.arg 8], tm52a_O, tm52a_C, [])) tm52a_ss tm52a_rs = true := by decide +kernel
def tm52a_r (v8 : Int32) (k_ : Nat) : Value := bif Nat.beq k_ 8 then .int v8 else (.int 0)
def tm52a_s (n_ : Nat) : Nat := 0
theorem tm52a {h_ : xH} {v8 : Int32} (hs : sHp h_) : ∃ h', ysm h_ h' ∧ (((∀ a_ j_ : Nat, bpat h' a_ j_ = bpat h_ a_ j_) ∧ (bldD 60 204 85 [(1, .int (52 : Int32)), (0, .index 338)] [.int v8] h_ 87 [(2, .int v8), (1, .int (52 : Int32)), (0, .index 338)] [.index 338] h'))) := by
  have hA : yas tm52a_A (tm52a_r v8) (yg tm52a_s) := ⟨fun q_ hq => absurd hq List.not_mem_nil, fun q_ hq => absurd hq List.not_mem_nil, fun q_ hq => absurd hq List.not_mem_nil, fun n_ hn => yg_lo hn, fun q_ hq => absurd hq List.not_mem_nil⟩
  have Hs : ysh tm52a_A.1 (yg tm52a_s) h_ := ysh_of2 hs (fun q_ hq => absurd hq List.not_mem_nil)
  have Ho : ymem (tm52a_r v8) (yg tm52a_s) tm52a_O h_ := fun q_ hq => absurd hq List.not_mem_nil
  have HC : ∀ q_ ∈ tm52a_C, xhold (tm52a_r v8) q_ := fun q_ hq => absurd hq List.not_mem_nil
  rcases yrun (yis_ok tm52a_k) hA Hs Ho HC with ⟨q_, hq, h', K_, G_⟩ | ⟨q_, hq, h', K_, G_⟩
  · have e_ := List.mem_singleton.mp hq
    subst e_
    exact ⟨h', yfr_sm K_.2.2.2 hs K_.1 (ywa_s tm52a_w List.mem_cons_self), ⟨fun a_ j_ => yfr_bp K_.2.2.2 (fun q_ hq => absurd hq List.not_mem_nil), G_⟩⟩
  · cases hq
-- tm52r00: 6 steps, 0 ends, 1 returns
def tm52r00_L : List (Nat × Nat × Nat) := []
def tm52r00_O : yO := []
def tm52r00_A : yA := (yZ tm52r00_L, [], [], [], [])
def tm52r00_C : List xB := []
def tm52r00_ss : List yS := []
def tm52r00_rs : List yR := [(some (.int 1), [], [], [])]
theorem tm52r00_w : ywa tm52r00_A tm52r00_ss tm52r00_rs = true := by decide +kernel
theorem tm52r00_k : yis (yev tm52r00_A 3000 60 204 [] (90, [(2, .int 0), (1, .int 52), (0, .index 338)], [.int 0], tm52r00_O, tm52r00_C, [])) tm52r00_ss tm52r00_rs = true := by decide +kernel
def tm52r00_r (k_ : Nat) : Value := .int 0
def tm52r00_s (n_ : Nat) : Nat := 0
theorem tm52r00 {h_ : xH} (hs : sHp h_) : ∃ h', ysm h_ h' ∧ (((∀ a_ j_ : Nat, bpat h' a_ j_ = bpat h_ a_ j_) ∧ (∀ D_, 60 ≤ D_ → xrun D_ 204 90 [(2, .int (0 : Int32)), (1, .int (52 : Int32)), (0, .index 338)] [.int (0 : Int32)] h_ (some (.int (1 : Int32)), h', [])))) := by
  have hA : yas tm52r00_A tm52r00_r (yg tm52r00_s) := ⟨fun q_ hq => absurd hq List.not_mem_nil, fun q_ hq => absurd hq List.not_mem_nil, fun q_ hq => absurd hq List.not_mem_nil, fun n_ hn => yg_lo hn, fun q_ hq => absurd hq List.not_mem_nil⟩
  have Hs : ysh tm52r00_A.1 (yg tm52r00_s) h_ := ysh_of2 hs (fun q_ hq => absurd hq List.not_mem_nil)
  have Ho : ymem tm52r00_r (yg tm52r00_s) tm52r00_O h_ := fun q_ hq => absurd hq List.not_mem_nil
  have HC : ∀ q_ ∈ tm52r00_C, xhold tm52r00_r q_ := fun q_ hq => absurd hq List.not_mem_nil
  rcases yrun (yis_ok tm52r00_k) hA Hs Ho HC with ⟨q_, hq, h', K_, G_⟩ | ⟨q_, hq, h', K_, G_⟩
  · cases hq
  · have e_ := List.mem_singleton.mp hq
    subst e_
    exact ⟨h', yfr_sm K_.2.2.2 hs K_.1 (ywa_r tm52r00_w List.mem_cons_self), ⟨fun a_ j_ => yfr_bp K_.2.2.2 (fun q_ hq => absurd hq List.not_mem_nil), G_⟩⟩
-- tm52r01: 6 steps, 0 ends, 1 returns
def tm52r01_L : List (Nat × Nat × Nat) := []
def tm52r01_O : yO := []
def tm52r01_A : yA := (yZ tm52r01_L, [], [], [], [])
def tm52r01_C : List xB := []
def tm52r01_ss : List yS := []
def tm52r01_rs : List yR := [(some (.int 1), [], [], [])]
theorem tm52r01_w : ywa tm52r01_A tm52r01_ss tm52r01_rs = true := by decide +kernel
theorem tm52r01_k : yis (yev tm52r01_A 3000 60 204 [] (90, [(2, .int 0), (1, .int 52), (0, .index 338)], [.int 1], tm52r01_O, tm52r01_C, [])) tm52r01_ss tm52r01_rs = true := by decide +kernel
def tm52r01_r (k_ : Nat) : Value := .int 0
def tm52r01_s (n_ : Nat) : Nat := 0
theorem tm52r01 {h_ : xH} (hs : sHp h_) : ∃ h', ysm h_ h' ∧ (((∀ a_ j_ : Nat, bpat h' a_ j_ = bpat h_ a_ j_) ∧ (∀ D_, 60 ≤ D_ → xrun D_ 204 90 [(2, .int (0 : Int32)), (1, .int (52 : Int32)), (0, .index 338)] [.int (1 : Int32)] h_ (some (.int (1 : Int32)), h', [])))) := by
  have hA : yas tm52r01_A tm52r01_r (yg tm52r01_s) := ⟨fun q_ hq => absurd hq List.not_mem_nil, fun q_ hq => absurd hq List.not_mem_nil, fun q_ hq => absurd hq List.not_mem_nil, fun n_ hn => yg_lo hn, fun q_ hq => absurd hq List.not_mem_nil⟩
  have Hs : ysh tm52r01_A.1 (yg tm52r01_s) h_ := ysh_of2 hs (fun q_ hq => absurd hq List.not_mem_nil)
  have Ho : ymem tm52r01_r (yg tm52r01_s) tm52r01_O h_ := fun q_ hq => absurd hq List.not_mem_nil
  have HC : ∀ q_ ∈ tm52r01_C, xhold tm52r01_r q_ := fun q_ hq => absurd hq List.not_mem_nil
  rcases yrun (yis_ok tm52r01_k) hA Hs Ho HC with ⟨q_, hq, h', K_, G_⟩ | ⟨q_, hq, h', K_, G_⟩
  · cases hq
  · have e_ := List.mem_singleton.mp hq
    subst e_
    exact ⟨h', yfr_sm K_.2.2.2 hs K_.1 (ywa_r tm52r01_w List.mem_cons_self), ⟨fun a_ j_ => yfr_bp K_.2.2.2 (fun q_ hq => absurd hq List.not_mem_nil), G_⟩⟩
-- tm52r10: 7 steps, 0 ends, 1 returns
def tm52r10_L : List (Nat × Nat × Nat) := []
def tm52r10_O : yO := []
def tm52r10_A : yA := (yZ tm52r10_L, [], [], [], [])
def tm52r10_C : List xB := []
def tm52r10_ss : List yS := []
def tm52r10_rs : List yR := [(some (.int 0), [], [], [])]
theorem tm52r10_w : ywa tm52r10_A tm52r10_ss tm52r10_rs = true := by decide +kernel
theorem tm52r10_k : yis (yev tm52r10_A 3000 60 204 [] (90, [(2, .int 1), (1, .int 52), (0, .index 338)], [.int 0], tm52r10_O, tm52r10_C, [])) tm52r10_ss tm52r10_rs = true := by decide +kernel
def tm52r10_r (k_ : Nat) : Value := .int 0
def tm52r10_s (n_ : Nat) : Nat := 0
theorem tm52r10 {h_ : xH} (hs : sHp h_) : ∃ h', ysm h_ h' ∧ (((∀ a_ j_ : Nat, bpat h' a_ j_ = bpat h_ a_ j_) ∧ (∀ D_, 60 ≤ D_ → xrun D_ 204 90 [(2, .int (1 : Int32)), (1, .int (52 : Int32)), (0, .index 338)] [.int (0 : Int32)] h_ (some (.int (0 : Int32)), h', [])))) := by
  have hA : yas tm52r10_A tm52r10_r (yg tm52r10_s) := ⟨fun q_ hq => absurd hq List.not_mem_nil, fun q_ hq => absurd hq List.not_mem_nil, fun q_ hq => absurd hq List.not_mem_nil, fun n_ hn => yg_lo hn, fun q_ hq => absurd hq List.not_mem_nil⟩
  have Hs : ysh tm52r10_A.1 (yg tm52r10_s) h_ := ysh_of2 hs (fun q_ hq => absurd hq List.not_mem_nil)
  have Ho : ymem tm52r10_r (yg tm52r10_s) tm52r10_O h_ := fun q_ hq => absurd hq List.not_mem_nil
  have HC : ∀ q_ ∈ tm52r10_C, xhold tm52r10_r q_ := fun q_ hq => absurd hq List.not_mem_nil
  rcases yrun (yis_ok tm52r10_k) hA Hs Ho HC with ⟨q_, hq, h', K_, G_⟩ | ⟨q_, hq, h', K_, G_⟩
  · cases hq
  · have e_ := List.mem_singleton.mp hq
    subst e_
    exact ⟨h', yfr_sm K_.2.2.2 hs K_.1 (ywa_r tm52r10_w List.mem_cons_self), ⟨fun a_ j_ => yfr_bp K_.2.2.2 (fun q_ hq => absurd hq List.not_mem_nil), G_⟩⟩
-- tm52r11: 8 steps, 0 ends, 1 returns
def tm52r11_L : List (Nat × Nat × Nat) := []
def tm52r11_O : yO := []
def tm52r11_A : yA := (yZ tm52r11_L, [], [], [], [])
def tm52r11_C : List xB := []
def tm52r11_ss : List yS := []
def tm52r11_rs : List yR := [(some (.int 1), [], [], [])]
theorem tm52r11_w : ywa tm52r11_A tm52r11_ss tm52r11_rs = true := by decide +kernel
theorem tm52r11_k : yis (yev tm52r11_A 3000 60 204 [] (90, [(2, .int 1), (1, .int 52), (0, .index 338)], [.int 1], tm52r11_O, tm52r11_C, [])) tm52r11_ss tm52r11_rs = true := by decide +kernel
def tm52r11_r (k_ : Nat) : Value := .int 0
def tm52r11_s (n_ : Nat) : Nat := 0
theorem tm52r11 {h_ : xH} (hs : sHp h_) : ∃ h', ysm h_ h' ∧ (((∀ a_ j_ : Nat, bpat h' a_ j_ = bpat h_ a_ j_) ∧ (∀ D_, 60 ≤ D_ → xrun D_ 204 90 [(2, .int (1 : Int32)), (1, .int (52 : Int32)), (0, .index 338)] [.int (1 : Int32)] h_ (some (.int (1 : Int32)), h', [])))) := by
  have hA : yas tm52r11_A tm52r11_r (yg tm52r11_s) := ⟨fun q_ hq => absurd hq List.not_mem_nil, fun q_ hq => absurd hq List.not_mem_nil, fun q_ hq => absurd hq List.not_mem_nil, fun n_ hn => yg_lo hn, fun q_ hq => absurd hq List.not_mem_nil⟩
  have Hs : ysh tm52r11_A.1 (yg tm52r11_s) h_ := ysh_of2 hs (fun q_ hq => absurd hq List.not_mem_nil)
  have Ho : ymem tm52r11_r (yg tm52r11_s) tm52r11_O h_ := fun q_ hq => absurd hq List.not_mem_nil
  have HC : ∀ q_ ∈ tm52r11_C, xhold tm52r11_r q_ := fun q_ hq => absurd hq List.not_mem_nil
  rcases yrun (yis_ok tm52r11_k) hA Hs Ho HC with ⟨q_, hq, h', K_, G_⟩ | ⟨q_, hq, h', K_, G_⟩
  · cases hq
  · have e_ := List.mem_singleton.mp hq
    subst e_
    exact ⟨h', yfr_sm K_.2.2.2 hs K_.1 (ywa_r tm52r11_w List.mem_cons_self), ⟨fun a_ j_ => yfr_bp K_.2.2.2 (fun q_ hq => absurd hq List.not_mem_nil), G_⟩⟩
-- tmV: 46 steps, 1 ends, 0 returns
def tmV_L : List (Nat × Nat × Nat) := []
def tmV_O : yO := [(338, .int 16, .arg 316), (338, .int 4, .index 342), (342, .int 0, .arg 300), (342, .arg 316, .arg 301), (338, .int 17, .arg 317)]
def tmV_A : yA := (yZ tmV_L, [(.arg 316, 13)], [], [], [])
def tmV_C : List xB := [(.eq, .arg 301, .int 52, false), (.eq, .arg 301, .int 53, false), (.lt, .arg 301, .int 60, true), (.eq, .arg 301, .int 51, false), (.eq, .arg 301, .int 50, false), (.eq, .arg 301, .int (Int32.ofInt (-1)), false), (.eq, .arg 317, .int 0, true), (.le, .arg 316, .arg 300, true)]
def tmV_ss : List yS := [(107, [(2, .int 0), (1, .arg 301), (0, .index 338)], [], [(338, .int 16, .add (.arg 316) (.int 1)), (338, .int 4, .index 342), (342, .int 0, .arg 300), (342, .arg 316, .arg 301), (338, .int 17, .arg 317)], [(.eq, .arg 301, .int 52, false), (.eq, .arg 301, .int 53, false), (.lt, .arg 301, .int 60, true), (.eq, .arg 301, .int 51, false), (.eq, .arg 301, .int 50, false), (.eq, .arg 301, .int (Int32.ofInt (-1)), false), (.eq, .arg 317, .int 0, true), (.le, .arg 316, .arg 300, true)], [(338, .int 16)])]
def tmV_rs : List yR := []
theorem tmV_w : ywa tmV_A tmV_ss tmV_rs = true := by decide +kernel
theorem tmV_k : yis (yev tmV_A 3000 60 204 [107] (0, [(0, .index 338)], [], tmV_O, tmV_C, [])) tmV_ss tmV_rs = true := by decide +kernel
def tmV_r (v300 v301 v316 v317 : Int32) (k_ : Nat) : Value := bif Nat.beq k_ 300 then .int v300 else (bif Nat.beq k_ 301 then .int v301 else (bif Nat.beq k_ 316 then .int v316 else (bif Nat.beq k_ 317 then .int v317 else (.int 0))))
def tmV_s (n_ : Nat) : Nat := 0
theorem tmV {h_ : xH} {v300 v301 v316 v317 : Int32} (hs : sHp h_) (o0_ : bpat h_ 338 16 = some (.int v316)) (o1 : bpat h_ 342 0 = some (.int v300)) (o2 : bpat h_ 342 (v316).toInt.toNat = some (.int v301)) (o3_ : bpat h_ 338 17 = some (.int v317)) (b0 : 0 ≤ (v316).toInt ∧ (v316).toInt < 13) (c0_ : ¬ v301 = (52 : Int32)) (c1_ : ¬ v301 = (53 : Int32)) (c2_ : v301.toInt < (60 : Int32).toInt) (c3_ : ¬ v301 = (51 : Int32)) (c4_ : ¬ v301 = (50 : Int32)) (c5_ : ¬ v301 = (Int32.ofInt (-1))) (c6_ : v317 = (0 : Int32)) (c7_ : v316.toInt ≤ v300.toInt) : ∃ h', ysm h_ h' ∧ (((bpat h' 338 16 = some (.int (v316 + (1 : Int32)))) ∧ (∀ a_ j_ : Nat, ¬ (a_ = 338 ∧ j_ = 16) → bpat h' a_ j_ = bpat h_ a_ j_) ∧ (bldD 60 204 0 [(0, .index 338)] [] h_ 107 [(2, .int (0 : Int32)), (1, .int v301), (0, .index 338)] [] h'))) := by
  have hA : yas tmV_A (tmV_r v300 v301 v316 v317) (yg tmV_s) := ⟨List.forall_mem_cons.mpr ⟨b0, fun q_ hq => absurd hq List.not_mem_nil⟩, fun q_ hq => absurd hq List.not_mem_nil, fun q_ hq => absurd hq List.not_mem_nil, fun n_ hn => yg_lo hn, fun q_ hq => absurd hq List.not_mem_nil⟩
  have Hs : ysh tmV_A.1 (yg tmV_s) h_ := ysh_of2 hs (fun q_ hq => absurd hq List.not_mem_nil)
  have Ho : ymem (tmV_r v300 v301 v316 v317) (yg tmV_s) tmV_O h_ := List.forall_mem_cons.mpr ⟨bpat_some o0_, List.forall_mem_cons.mpr ⟨bpat_some (fxr_at hs.2 (show fxk fxl 338 4 = some 342 by decide +kernel)), List.forall_mem_cons.mpr ⟨bpat_some o1, List.forall_mem_cons.mpr ⟨bpat_some o2, List.forall_mem_cons.mpr ⟨bpat_some o3_, fun q_ hq => absurd hq List.not_mem_nil⟩⟩⟩⟩⟩
  have HC : ∀ q_ ∈ tmV_C, xhold (tmV_r v300 v301 v316 v317) q_ := List.forall_mem_cons.mpr ⟨xh_eqF2 c0_, List.forall_mem_cons.mpr ⟨xh_eqF2 c1_, List.forall_mem_cons.mpr ⟨xh_ltT c2_, List.forall_mem_cons.mpr ⟨xh_eqF2 c3_, List.forall_mem_cons.mpr ⟨xh_eqF2 c4_, List.forall_mem_cons.mpr ⟨xh_eqF2 c5_, List.forall_mem_cons.mpr ⟨xh_eqT2 c6_, List.forall_mem_cons.mpr ⟨xh_leT c7_, fun q_ hq => absurd hq List.not_mem_nil⟩⟩⟩⟩⟩⟩⟩⟩
  rcases yrun (yis_ok tmV_k) hA Hs Ho HC with ⟨q_, hq, h', K_, G_⟩ | ⟨q_, hq, h', K_, G_⟩
  · have e_ := List.mem_singleton.mp hq
    subst e_
    exact ⟨h', yfr_sm K_.2.2.2 hs K_.1 (ywa_s tmV_w List.mem_cons_self), ⟨bpat_of (K_.2.1 _ List.mem_cons_self), fun a_ j_ n0_ => yfr_bp K_.2.2.2 (List.forall_mem_cons.mpr ⟨fun e_ => n0_ ⟨e_.1.symm, e_.2.symm⟩, fun q_ hq => absurd hq List.not_mem_nil⟩), G_⟩⟩
  · cases hq
-- tmL: 46 steps, 1 ends, 0 returns
def tmL_L : List (Nat × Nat × Nat) := []
def tmL_O : yO := [(338, .int 16, .arg 316), (338, .int 4, .index 342), (342, .int 0, .arg 300), (342, .arg 316, .arg 301)]
def tmL_A : yA := (yZ tmL_L, [(.arg 316, 13)], [], [], [])
def tmL_C : List xB := [(.lt, .arg 301, .int 60, false), (.le, .arg 316, .arg 300, true)]
def tmL_ss : List yS := [(107, [(2, .add (.arg 2) (.sub (.arg 301) (.int 80))), (1, .arg 1), (0, .index 338)], [], [(338, .int 16, .add (.arg 316) (.int 1)), (338, .int 4, .index 342), (342, .int 0, .arg 300), (342, .arg 316, .arg 301)], [(.lt, .arg 301, .int 60, false), (.le, .arg 316, .arg 300, true)], [(338, .int 16)])]
def tmL_rs : List yR := []
theorem tmL_w : ywa tmL_A tmL_ss tmL_rs = true := by decide +kernel
theorem tmL_k : yis (yev tmL_A 3000 60 204 [107] (107, [(2, .arg 2), (1, .arg 1), (0, .index 338)], [], tmL_O, tmL_C, [])) tmL_ss tmL_rs = true := by decide +kernel
def tmL_r (v1_ v2 v300 v301 v316 : Int32) (k_ : Nat) : Value := bif Nat.beq k_ 1 then .int v1_ else (bif Nat.beq k_ 2 then .int v2 else (bif Nat.beq k_ 300 then .int v300 else (bif Nat.beq k_ 301 then .int v301 else (bif Nat.beq k_ 316 then .int v316 else (.int 0)))))
def tmL_s (n_ : Nat) : Nat := 0
theorem tmL {h_ : xH} {v1_ v2 v300 v301 v316 : Int32} (hs : sHp h_) (o0_ : bpat h_ 338 16 = some (.int v316)) (o1 : bpat h_ 342 0 = some (.int v300)) (o2 : bpat h_ 342 (v316).toInt.toNat = some (.int v301)) (b0 : 0 ≤ (v316).toInt ∧ (v316).toInt < 13) (c0_ : (60 : Int32).toInt ≤ v301.toInt) (c1_ : v316.toInt ≤ v300.toInt) : ∃ h', ysm h_ h' ∧ (((bpat h' 338 16 = some (.int (v316 + (1 : Int32)))) ∧ (∀ a_ j_ : Nat, ¬ (a_ = 338 ∧ j_ = 16) → bpat h' a_ j_ = bpat h_ a_ j_) ∧ (bldD 60 204 107 [(2, .int v2), (1, .int v1_), (0, .index 338)] [] h_ 107 [(2, .int (v2 + (v301 - (80 : Int32)))), (1, .int v1_), (0, .index 338)] [] h'))) := by
  have hA : yas tmL_A (tmL_r v1_ v2 v300 v301 v316) (yg tmL_s) := ⟨List.forall_mem_cons.mpr ⟨b0, fun q_ hq => absurd hq List.not_mem_nil⟩, fun q_ hq => absurd hq List.not_mem_nil, fun q_ hq => absurd hq List.not_mem_nil, fun n_ hn => yg_lo hn, fun q_ hq => absurd hq List.not_mem_nil⟩
  have Hs : ysh tmL_A.1 (yg tmL_s) h_ := ysh_of2 hs (fun q_ hq => absurd hq List.not_mem_nil)
  have Ho : ymem (tmL_r v1_ v2 v300 v301 v316) (yg tmL_s) tmL_O h_ := List.forall_mem_cons.mpr ⟨bpat_some o0_, List.forall_mem_cons.mpr ⟨bpat_some (fxr_at hs.2 (show fxk fxl 338 4 = some 342 by decide +kernel)), List.forall_mem_cons.mpr ⟨bpat_some o1, List.forall_mem_cons.mpr ⟨bpat_some o2, fun q_ hq => absurd hq List.not_mem_nil⟩⟩⟩⟩
  have HC : ∀ q_ ∈ tmL_C, xhold (tmL_r v1_ v2 v300 v301 v316) q_ := List.forall_mem_cons.mpr ⟨xh_ltF c0_, List.forall_mem_cons.mpr ⟨xh_leT c1_, fun q_ hq => absurd hq List.not_mem_nil⟩⟩
  rcases yrun (yis_ok tmL_k) hA Hs Ho HC with ⟨q_, hq, h', K_, G_⟩ | ⟨q_, hq, h', K_, G_⟩
  · have e_ := List.mem_singleton.mp hq
    subst e_
    exact ⟨h', yfr_sm K_.2.2.2 hs K_.1 (ywa_s tmL_w List.mem_cons_self), ⟨bpat_of (K_.2.1 _ List.mem_cons_self), fun a_ j_ n0_ => yfr_bp K_.2.2.2 (List.forall_mem_cons.mpr ⟨fun e_ => n0_ ⟨e_.1.symm, e_.2.symm⟩, fun q_ hq => absurd hq List.not_mem_nil⟩), G_⟩⟩
  · cases hq
-- tmLx: 18 steps, 1 ends, 0 returns
def tmLx_L : List (Nat × Nat × Nat) := []
def tmLx_O : yO := [(338, .int 16, .arg 316), (338, .int 4, .index 342), (342, .int 0, .arg 300), (342, .arg 316, .arg 301)]
def tmLx_A : yA := (yZ tmLx_L, [(.arg 316, 13)], [], [], [])
def tmLx_C : List xB := [(.lt, .arg 301, .int 60, true), (.le, .arg 316, .arg 300, true)]
def tmLx_ss : List yS := [(147, [(2, .arg 2), (1, .arg 1), (0, .index 338)], [], [(338, .int 16, .arg 316), (338, .int 4, .index 342), (342, .int 0, .arg 300), (342, .arg 316, .arg 301)], [(.lt, .arg 301, .int 60, true), (.le, .arg 316, .arg 300, true)], [])]
def tmLx_rs : List yR := []
theorem tmLx_w : ywa tmLx_A tmLx_ss tmLx_rs = true := by decide +kernel
theorem tmLx_k : yis (yev tmLx_A 3000 60 204 [147] (107, [(2, .arg 2), (1, .arg 1), (0, .index 338)], [], tmLx_O, tmLx_C, [])) tmLx_ss tmLx_rs = true := by decide +kernel
def tmLx_r (v1_ v2 v300 v301 v316 : Int32) (k_ : Nat) : Value := bif Nat.beq k_ 1 then .int v1_ else (bif Nat.beq k_ 2 then .int v2 else (bif Nat.beq k_ 300 then .int v300 else (bif Nat.beq k_ 301 then .int v301 else (bif Nat.beq k_ 316 then .int v316 else (.int 0)))))
def tmLx_s (n_ : Nat) : Nat := 0
theorem tmLx {h_ : xH} {v1_ v2 v300 v301 v316 : Int32} (hs : sHp h_) (o0_ : bpat h_ 338 16 = some (.int v316)) (o1 : bpat h_ 342 0 = some (.int v300)) (o2 : bpat h_ 342 (v316).toInt.toNat = some (.int v301)) (b0 : 0 ≤ (v316).toInt ∧ (v316).toInt < 13) (c0_ : v301.toInt < (60 : Int32).toInt) (c1_ : v316.toInt ≤ v300.toInt) : ∃ h', ysm h_ h' ∧ (((∀ a_ j_ : Nat, bpat h' a_ j_ = bpat h_ a_ j_) ∧ (bldD 60 204 107 [(2, .int v2), (1, .int v1_), (0, .index 338)] [] h_ 147 [(2, .int v2), (1, .int v1_), (0, .index 338)] [] h'))) := by
  have hA : yas tmLx_A (tmLx_r v1_ v2 v300 v301 v316) (yg tmLx_s) := ⟨List.forall_mem_cons.mpr ⟨b0, fun q_ hq => absurd hq List.not_mem_nil⟩, fun q_ hq => absurd hq List.not_mem_nil, fun q_ hq => absurd hq List.not_mem_nil, fun n_ hn => yg_lo hn, fun q_ hq => absurd hq List.not_mem_nil⟩
  have Hs : ysh tmLx_A.1 (yg tmLx_s) h_ := ysh_of2 hs (fun q_ hq => absurd hq List.not_mem_nil)
  have Ho : ymem (tmLx_r v1_ v2 v300 v301 v316) (yg tmLx_s) tmLx_O h_ := List.forall_mem_cons.mpr ⟨bpat_some o0_, List.forall_mem_cons.mpr ⟨bpat_some (fxr_at hs.2 (show fxk fxl 338 4 = some 342 by decide +kernel)), List.forall_mem_cons.mpr ⟨bpat_some o1, List.forall_mem_cons.mpr ⟨bpat_some o2, fun q_ hq => absurd hq List.not_mem_nil⟩⟩⟩⟩
  have HC : ∀ q_ ∈ tmLx_C, xhold (tmLx_r v1_ v2 v300 v301 v316) q_ := List.forall_mem_cons.mpr ⟨xh_ltT c0_, List.forall_mem_cons.mpr ⟨xh_leT c1_, fun q_ hq => absurd hq List.not_mem_nil⟩⟩
  rcases yrun (yis_ok tmLx_k) hA Hs Ho HC with ⟨q_, hq, h', K_, G_⟩ | ⟨q_, hq, h', K_, G_⟩
  · have e_ := List.mem_singleton.mp hq
    subst e_
    exact ⟨h', yfr_sm K_.2.2.2 hs K_.1 (ywa_s tmLx_w List.mem_cons_self), ⟨fun a_ j_ => yfr_bp K_.2.2.2 (fun q_ hq => absurd hq List.not_mem_nil), G_⟩⟩
  · cases hq
-- tmLE: 14 steps, 1 ends, 0 returns
def tmLE_L : List (Nat × Nat × Nat) := []
def tmLE_O : yO := [(338, .int 16, .arg 316), (338, .int 4, .index 342), (342, .int 0, .arg 300)]
def tmLE_A : yA := (yZ tmLE_L, [], [], [], [])
def tmLE_C : List xB := [(.le, .arg 316, .arg 300, false)]
def tmLE_ss : List yS := [(147, [(2, .arg 2), (1, .arg 1), (0, .index 338)], [], [(338, .int 16, .arg 316), (338, .int 4, .index 342), (342, .int 0, .arg 300)], [(.le, .arg 316, .arg 300, false)], [])]
def tmLE_rs : List yR := []
theorem tmLE_w : ywa tmLE_A tmLE_ss tmLE_rs = true := by decide +kernel
theorem tmLE_k : yis (yev tmLE_A 3000 60 204 [147] (107, [(2, .arg 2), (1, .arg 1), (0, .index 338)], [], tmLE_O, tmLE_C, [])) tmLE_ss tmLE_rs = true := by decide +kernel
def tmLE_r (v1_ v2 v300 v316 : Int32) (k_ : Nat) : Value := bif Nat.beq k_ 1 then .int v1_ else (bif Nat.beq k_ 2 then .int v2 else (bif Nat.beq k_ 300 then .int v300 else (bif Nat.beq k_ 316 then .int v316 else (.int 0))))
def tmLE_s (n_ : Nat) : Nat := 0
theorem tmLE {h_ : xH} {v1_ v2 v300 v316 : Int32} (hs : sHp h_) (o0_ : bpat h_ 338 16 = some (.int v316)) (o1 : bpat h_ 342 0 = some (.int v300)) (c0_ : v300.toInt < v316.toInt) : ∃ h', ysm h_ h' ∧ (((∀ a_ j_ : Nat, bpat h' a_ j_ = bpat h_ a_ j_) ∧ (bldD 60 204 107 [(2, .int v2), (1, .int v1_), (0, .index 338)] [] h_ 147 [(2, .int v2), (1, .int v1_), (0, .index 338)] [] h'))) := by
  have hA : yas tmLE_A (tmLE_r v1_ v2 v300 v316) (yg tmLE_s) := ⟨fun q_ hq => absurd hq List.not_mem_nil, fun q_ hq => absurd hq List.not_mem_nil, fun q_ hq => absurd hq List.not_mem_nil, fun n_ hn => yg_lo hn, fun q_ hq => absurd hq List.not_mem_nil⟩
  have Hs : ysh tmLE_A.1 (yg tmLE_s) h_ := ysh_of2 hs (fun q_ hq => absurd hq List.not_mem_nil)
  have Ho : ymem (tmLE_r v1_ v2 v300 v316) (yg tmLE_s) tmLE_O h_ := List.forall_mem_cons.mpr ⟨bpat_some o0_, List.forall_mem_cons.mpr ⟨bpat_some (fxr_at hs.2 (show fxk fxl 338 4 = some 342 by decide +kernel)), List.forall_mem_cons.mpr ⟨bpat_some o1, fun q_ hq => absurd hq List.not_mem_nil⟩⟩⟩
  have HC : ∀ q_ ∈ tmLE_C, xhold (tmLE_r v1_ v2 v300 v316) q_ := List.forall_mem_cons.mpr ⟨xh_leF c0_, fun q_ hq => absurd hq List.not_mem_nil⟩
  rcases yrun (yis_ok tmLE_k) hA Hs Ho HC with ⟨q_, hq, h', K_, G_⟩ | ⟨q_, hq, h', K_, G_⟩
  · have e_ := List.mem_singleton.mp hq
    subst e_
    exact ⟨h', yfr_sm K_.2.2.2 hs K_.1 (ywa_s tmLE_w List.mem_cons_self), ⟨fun a_ j_ => yfr_bp K_.2.2.2 (fun q_ hq => absurd hq List.not_mem_nil), G_⟩⟩
  · cases hq
-- tmS: 2 steps, 1 ends, 0 returns
def tmS_L : List (Nat × Nat × Nat) := []
def tmS_O : yO := []
def tmS_A : yA := (yZ tmS_L, [], [], [], [])
def tmS_C : List xB := []
def tmS_ss : List yS := [(149, [(2, .arg 2), (1, .arg 1), (0, .index 338)], [.arg 1, .index 338], [], [], [])]
def tmS_rs : List yR := []
theorem tmS_w : ywa tmS_A tmS_ss tmS_rs = true := by decide +kernel
theorem tmS_k : yis (yev tmS_A 3000 60 204 [149] (147, [(2, .arg 2), (1, .arg 1), (0, .index 338)], [], tmS_O, tmS_C, [])) tmS_ss tmS_rs = true := by decide +kernel
def tmS_r (v1_ v2 : Int32) (k_ : Nat) : Value := bif Nat.beq k_ 1 then .int v1_ else (bif Nat.beq k_ 2 then .int v2 else (.int 0))
def tmS_s (n_ : Nat) : Nat := 0
theorem tmS {h_ : xH} {v1_ v2 : Int32} (hs : sHp h_) : ∃ h', ysm h_ h' ∧ (((∀ a_ j_ : Nat, bpat h' a_ j_ = bpat h_ a_ j_) ∧ (bldD 60 204 147 [(2, .int v2), (1, .int v1_), (0, .index 338)] [] h_ 149 [(2, .int v2), (1, .int v1_), (0, .index 338)] [.int v1_, .index 338] h'))) := by
  have hA : yas tmS_A (tmS_r v1_ v2) (yg tmS_s) := ⟨fun q_ hq => absurd hq List.not_mem_nil, fun q_ hq => absurd hq List.not_mem_nil, fun q_ hq => absurd hq List.not_mem_nil, fun n_ hn => yg_lo hn, fun q_ hq => absurd hq List.not_mem_nil⟩
  have Hs : ysh tmS_A.1 (yg tmS_s) h_ := ysh_of2 hs (fun q_ hq => absurd hq List.not_mem_nil)
  have Ho : ymem (tmS_r v1_ v2) (yg tmS_s) tmS_O h_ := fun q_ hq => absurd hq List.not_mem_nil
  have HC : ∀ q_ ∈ tmS_C, xhold (tmS_r v1_ v2) q_ := fun q_ hq => absurd hq List.not_mem_nil
  rcases yrun (yis_ok tmS_k) hA Hs Ho HC with ⟨q_, hq, h', K_, G_⟩ | ⟨q_, hq, h', K_, G_⟩
  · have e_ := List.mem_singleton.mp hq
    subst e_
    exact ⟨h', yfr_sm K_.2.2.2 hs K_.1 (ywa_s tmS_w List.mem_cons_self), ⟨fun a_ j_ => yfr_bp K_.2.2.2 (fun q_ hq => absurd hq List.not_mem_nil), G_⟩⟩
  · cases hq
-- tmR0: 3 steps, 0 ends, 1 returns
def tmR0_L : List (Nat × Nat × Nat) := []
def tmR0_O : yO := []
def tmR0_A : yA := (yZ tmR0_L, [], [], [], [])
def tmR0_C : List xB := []
def tmR0_ss : List yS := []
def tmR0_rs : List yR := [(some (.int 0), [], [], [])]
theorem tmR0_w : ywa tmR0_A tmR0_ss tmR0_rs = true := by decide +kernel
theorem tmR0_k : yis (yev tmR0_A 3000 60 204 [] (152, [(2, .arg 2), (1, .arg 1), (0, .index 338)], [.int 0], tmR0_O, tmR0_C, [])) tmR0_ss tmR0_rs = true := by decide +kernel
def tmR0_r (v1_ v2 : Int32) (k_ : Nat) : Value := bif Nat.beq k_ 1 then .int v1_ else (bif Nat.beq k_ 2 then .int v2 else (.int 0))
def tmR0_s (n_ : Nat) : Nat := 0
theorem tmR0 {h_ : xH} {v1_ v2 : Int32} (hs : sHp h_) : ∃ h', ysm h_ h' ∧ (((∀ a_ j_ : Nat, bpat h' a_ j_ = bpat h_ a_ j_) ∧ (∀ D_, 60 ≤ D_ → xrun D_ 204 152 [(2, .int v2), (1, .int v1_), (0, .index 338)] [.int (0 : Int32)] h_ (some (.int (0 : Int32)), h', [])))) := by
  have hA : yas tmR0_A (tmR0_r v1_ v2) (yg tmR0_s) := ⟨fun q_ hq => absurd hq List.not_mem_nil, fun q_ hq => absurd hq List.not_mem_nil, fun q_ hq => absurd hq List.not_mem_nil, fun n_ hn => yg_lo hn, fun q_ hq => absurd hq List.not_mem_nil⟩
  have Hs : ysh tmR0_A.1 (yg tmR0_s) h_ := ysh_of2 hs (fun q_ hq => absurd hq List.not_mem_nil)
  have Ho : ymem (tmR0_r v1_ v2) (yg tmR0_s) tmR0_O h_ := fun q_ hq => absurd hq List.not_mem_nil
  have HC : ∀ q_ ∈ tmR0_C, xhold (tmR0_r v1_ v2) q_ := fun q_ hq => absurd hq List.not_mem_nil
  rcases yrun (yis_ok tmR0_k) hA Hs Ho HC with ⟨q_, hq, h', K_, G_⟩ | ⟨q_, hq, h', K_, G_⟩
  · cases hq
  · have e_ := List.mem_singleton.mp hq
    subst e_
    exact ⟨h', yfr_sm K_.2.2.2 hs K_.1 (ywa_r tmR0_w List.mem_cons_self), ⟨fun a_ j_ => yfr_bp K_.2.2.2 (fun q_ hq => absurd hq List.not_mem_nil), G_⟩⟩
-- tmR11: 5 steps, 0 ends, 1 returns
def tmR11_L : List (Nat × Nat × Nat) := []
def tmR11_O : yO := []
def tmR11_A : yA := (yZ tmR11_L, [], [], [], [])
def tmR11_C : List xB := [(.lt, .arg 2, .int 0, true)]
def tmR11_ss : List yS := []
def tmR11_rs : List yR := [(some (.int 0), [], [(.lt, .arg 2, .int 0, true)], [])]
theorem tmR11_w : ywa tmR11_A tmR11_ss tmR11_rs = true := by decide +kernel
theorem tmR11_k : yis (yev tmR11_A 3000 60 204 [] (152, [(2, .arg 2), (1, .arg 1), (0, .index 338)], [.int 1], tmR11_O, tmR11_C, [])) tmR11_ss tmR11_rs = true := by decide +kernel
def tmR11_r (v1_ v2 : Int32) (k_ : Nat) : Value := bif Nat.beq k_ 1 then .int v1_ else (bif Nat.beq k_ 2 then .int v2 else (.int 0))
def tmR11_s (n_ : Nat) : Nat := 0
theorem tmR11 {h_ : xH} {v1_ v2 : Int32} (hs : sHp h_) (c0_ : v2.toInt < (0 : Int32).toInt) : ∃ h', ysm h_ h' ∧ (((∀ a_ j_ : Nat, bpat h' a_ j_ = bpat h_ a_ j_) ∧ (∀ D_, 60 ≤ D_ → xrun D_ 204 152 [(2, .int v2), (1, .int v1_), (0, .index 338)] [.int (1 : Int32)] h_ (some (.int (0 : Int32)), h', [])))) := by
  have hA : yas tmR11_A (tmR11_r v1_ v2) (yg tmR11_s) := ⟨fun q_ hq => absurd hq List.not_mem_nil, fun q_ hq => absurd hq List.not_mem_nil, fun q_ hq => absurd hq List.not_mem_nil, fun n_ hn => yg_lo hn, fun q_ hq => absurd hq List.not_mem_nil⟩
  have Hs : ysh tmR11_A.1 (yg tmR11_s) h_ := ysh_of2 hs (fun q_ hq => absurd hq List.not_mem_nil)
  have Ho : ymem (tmR11_r v1_ v2) (yg tmR11_s) tmR11_O h_ := fun q_ hq => absurd hq List.not_mem_nil
  have HC : ∀ q_ ∈ tmR11_C, xhold (tmR11_r v1_ v2) q_ := List.forall_mem_cons.mpr ⟨xh_ltT c0_, fun q_ hq => absurd hq List.not_mem_nil⟩
  rcases yrun (yis_ok tmR11_k) hA Hs Ho HC with ⟨q_, hq, h', K_, G_⟩ | ⟨q_, hq, h', K_, G_⟩
  · cases hq
  · have e_ := List.mem_singleton.mp hq
    subst e_
    exact ⟨h', yfr_sm K_.2.2.2 hs K_.1 (ywa_r tmR11_w List.mem_cons_self), ⟨fun a_ j_ => yfr_bp K_.2.2.2 (fun q_ hq => absurd hq List.not_mem_nil), G_⟩⟩
-- tmR10: 6 steps, 0 ends, 1 returns
def tmR10_L : List (Nat × Nat × Nat) := []
def tmR10_O : yO := []
def tmR10_A : yA := (yZ tmR10_L, [], [], [], [])
def tmR10_C : List xB := [(.lt, .arg 2, .int 0, false)]
def tmR10_ss : List yS := []
def tmR10_rs : List yR := [(some (.int 1), [], [(.lt, .arg 2, .int 0, false)], [])]
theorem tmR10_w : ywa tmR10_A tmR10_ss tmR10_rs = true := by decide +kernel
theorem tmR10_k : yis (yev tmR10_A 3000 60 204 [] (152, [(2, .arg 2), (1, .arg 1), (0, .index 338)], [.int 1], tmR10_O, tmR10_C, [])) tmR10_ss tmR10_rs = true := by decide +kernel
def tmR10_r (v1_ v2 : Int32) (k_ : Nat) : Value := bif Nat.beq k_ 1 then .int v1_ else (bif Nat.beq k_ 2 then .int v2 else (.int 0))
def tmR10_s (n_ : Nat) : Nat := 0
theorem tmR10 {h_ : xH} {v1_ v2 : Int32} (hs : sHp h_) (c0_ : (0 : Int32).toInt ≤ v2.toInt) : ∃ h', ysm h_ h' ∧ (((∀ a_ j_ : Nat, bpat h' a_ j_ = bpat h_ a_ j_) ∧ (∀ D_, 60 ≤ D_ → xrun D_ 204 152 [(2, .int v2), (1, .int v1_), (0, .index 338)] [.int (1 : Int32)] h_ (some (.int (1 : Int32)), h', [])))) := by
  have hA : yas tmR10_A (tmR10_r v1_ v2) (yg tmR10_s) := ⟨fun q_ hq => absurd hq List.not_mem_nil, fun q_ hq => absurd hq List.not_mem_nil, fun q_ hq => absurd hq List.not_mem_nil, fun n_ hn => yg_lo hn, fun q_ hq => absurd hq List.not_mem_nil⟩
  have Hs : ysh tmR10_A.1 (yg tmR10_s) h_ := ysh_of2 hs (fun q_ hq => absurd hq List.not_mem_nil)
  have Ho : ymem (tmR10_r v1_ v2) (yg tmR10_s) tmR10_O h_ := fun q_ hq => absurd hq List.not_mem_nil
  have HC : ∀ q_ ∈ tmR10_C, xhold (tmR10_r v1_ v2) q_ := List.forall_mem_cons.mpr ⟨xh_ltF c0_, fun q_ hq => absurd hq List.not_mem_nil⟩
  rcases yrun (yis_ok tmR10_k) hA Hs Ho HC with ⟨q_, hq, h', K_, G_⟩ | ⟨q_, hq, h', K_, G_⟩
  · cases hq
  · have e_ := List.mem_singleton.mp hq
    subst e_
    exact ⟨h', yfr_sm K_.2.2.2 hs K_.1 (ywa_r tmR10_w List.mem_cons_self), ⟨fun a_ j_ => yfr_bp K_.2.2.2 (fun q_ hq => absurd hq List.not_mem_nil), G_⟩⟩
-- miE: 35 steps, 0 ends, 5 returns
def miE_L : List (Nat × Nat × Nat) := []
def miE_O : yO := [(338, .int 0, .index 339), (339, .int 5, .arg 305)]
def miE_A : yA := (yZ miE_L, [], [], [], [])
def miE_C : List xB := []
def miE_ss : List yS := []
def miE_rs : List yR := [(some (.int 1), [(338, .int 0, .index 339), (339, .int 5, .arg 305)], [(.lt, .arg 1, .int 40, false)], []),
  (some (.int 0), [(338, .int 0, .index 339), (339, .int 5, .arg 305)], [(.eq, .op2 .iand (.op2 .ishr (.arg 305) (.div (.arg 1) (.int 2))) (.int 1), .int 0, false), (.eq, .rem (.arg 1) (.int 2), .int 0, false), (.lt, .arg 1, .int 40, true)], []),
  (some (.int 1), [(338, .int 0, .index 339), (339, .int 5, .arg 305)], [(.eq, .op2 .iand (.op2 .ishr (.arg 305) (.div (.arg 1) (.int 2))) (.int 1), .int 0, true), (.eq, .rem (.arg 1) (.int 2), .int 0, false), (.lt, .arg 1, .int 40, true)], []),
  (some (.int 0), [(338, .int 0, .index 339), (339, .int 5, .arg 305)], [(.eq, .op2 .iand (.op2 .ishr (.arg 305) (.div (.arg 1) (.int 2))) (.int 1), .int 1, false), (.eq, .rem (.arg 1) (.int 2), .int 0, true), (.lt, .arg 1, .int 40, true)], []),
  (some (.int 1), [(338, .int 0, .index 339), (339, .int 5, .arg 305)], [(.eq, .op2 .iand (.op2 .ishr (.arg 305) (.div (.arg 1) (.int 2))) (.int 1), .int 1, true), (.eq, .rem (.arg 1) (.int 2), .int 0, true), (.lt, .arg 1, .int 40, true)], [])]
theorem miE_w : ywa miE_A miE_ss miE_rs = true := by decide +kernel
theorem miE_k : yis (yev miE_A 3000 60 203 [] (0, [(0, .index 338), (1, .arg 1)], [], miE_O, miE_C, [])) miE_ss miE_rs = true := by decide +kernel
def miE_r (v1_ v305 : Int32) (k_ : Nat) : Value := bif Nat.beq k_ 1 then .int v1_ else (bif Nat.beq k_ 305 then .int v305 else (.int 0))
def miE_s (n_ : Nat) : Nat := 0
theorem miE {h_ : xH} {v1_ v305 : Int32} (hs : sHp h_) (o0_ : bpat h_ 339 5 = some (.int v305)) : ∃ h', ysm h_ h' ∧ ((((40 : Int32).toInt ≤ v1_.toInt) ∧ (∀ a_ j_ : Nat, bpat h' a_ j_ = bpat h_ a_ j_) ∧ (∀ D_, 60 ≤ D_ → xrun D_ 203 0 [(0, .index 338), (1, .int v1_)] [] h_ (some (.int (1 : Int32)), h', [])))
  ∨ ((¬ ((v305 >>> ((v1_ / (2 : Int32)) &&& 31)) &&& (1 : Int32)) = (0 : Int32)) ∧ (¬ (v1_ - v1_ / (2 : Int32) * (2 : Int32)) = (0 : Int32)) ∧ (v1_.toInt < (40 : Int32).toInt) ∧ (∀ a_ j_ : Nat, bpat h' a_ j_ = bpat h_ a_ j_) ∧ (∀ D_, 60 ≤ D_ → xrun D_ 203 0 [(0, .index 338), (1, .int v1_)] [] h_ (some (.int (0 : Int32)), h', [])))
  ∨ ((((v305 >>> ((v1_ / (2 : Int32)) &&& 31)) &&& (1 : Int32)) = (0 : Int32)) ∧ (¬ (v1_ - v1_ / (2 : Int32) * (2 : Int32)) = (0 : Int32)) ∧ (v1_.toInt < (40 : Int32).toInt) ∧ (∀ a_ j_ : Nat, bpat h' a_ j_ = bpat h_ a_ j_) ∧ (∀ D_, 60 ≤ D_ → xrun D_ 203 0 [(0, .index 338), (1, .int v1_)] [] h_ (some (.int (1 : Int32)), h', [])))
  ∨ ((¬ ((v305 >>> ((v1_ / (2 : Int32)) &&& 31)) &&& (1 : Int32)) = (1 : Int32)) ∧ ((v1_ - v1_ / (2 : Int32) * (2 : Int32)) = (0 : Int32)) ∧ (v1_.toInt < (40 : Int32).toInt) ∧ (∀ a_ j_ : Nat, bpat h' a_ j_ = bpat h_ a_ j_) ∧ (∀ D_, 60 ≤ D_ → xrun D_ 203 0 [(0, .index 338), (1, .int v1_)] [] h_ (some (.int (0 : Int32)), h', [])))
  ∨ ((((v305 >>> ((v1_ / (2 : Int32)) &&& 31)) &&& (1 : Int32)) = (1 : Int32)) ∧ ((v1_ - v1_ / (2 : Int32) * (2 : Int32)) = (0 : Int32)) ∧ (v1_.toInt < (40 : Int32).toInt) ∧ (∀ a_ j_ : Nat, bpat h' a_ j_ = bpat h_ a_ j_) ∧ (∀ D_, 60 ≤ D_ → xrun D_ 203 0 [(0, .index 338), (1, .int v1_)] [] h_ (some (.int (1 : Int32)), h', [])))) := by
  have hA : yas miE_A (miE_r v1_ v305) (yg miE_s) := ⟨fun q_ hq => absurd hq List.not_mem_nil, fun q_ hq => absurd hq List.not_mem_nil, fun q_ hq => absurd hq List.not_mem_nil, fun n_ hn => yg_lo hn, fun q_ hq => absurd hq List.not_mem_nil⟩
  have Hs : ysh miE_A.1 (yg miE_s) h_ := ysh_of2 hs (fun q_ hq => absurd hq List.not_mem_nil)
  have Ho : ymem (miE_r v1_ v305) (yg miE_s) miE_O h_ := List.forall_mem_cons.mpr ⟨bpat_some (fxr_at hs.2 (show fxk fxl 338 0 = some 339 by decide +kernel)), List.forall_mem_cons.mpr ⟨bpat_some o0_, fun q_ hq => absurd hq List.not_mem_nil⟩⟩
  have HC : ∀ q_ ∈ miE_C, xhold (miE_r v1_ v305) q_ := fun q_ hq => absurd hq List.not_mem_nil
  rcases yrun (yis_ok miE_k) hA Hs Ho HC with ⟨q_, hq, h', K_, G_⟩ | ⟨q_, hq, h', K_, G_⟩
  · cases hq
  · rcases List.mem_cons.mp hq with e_ | hq
    · subst e_
      exact ⟨h', yfr_sm K_.2.2.2 hs K_.1 (ywa_r miE_w List.mem_cons_self), Or.inl (⟨xq_ltF rfl rfl (K_.2.2.1 _ List.mem_cons_self), fun a_ j_ => yfr_bp K_.2.2.2 (fun q_ hq => absurd hq List.not_mem_nil), G_⟩)⟩
    rcases List.mem_cons.mp hq with e_ | hq
    · subst e_
      exact ⟨h', yfr_sm K_.2.2.2 hs K_.1 (ywa_r miE_w (List.mem_cons_of_mem _ List.mem_cons_self)), Or.inr (Or.inl (⟨xq_eqF rfl rfl (K_.2.2.1 _ List.mem_cons_self), xq_eqF rfl rfl (K_.2.2.1 _ (List.mem_cons_of_mem _ List.mem_cons_self)), xq_ltT rfl rfl (K_.2.2.1 _ (List.mem_cons_of_mem _ (List.mem_cons_of_mem _ List.mem_cons_self))), fun a_ j_ => yfr_bp K_.2.2.2 (fun q_ hq => absurd hq List.not_mem_nil), G_⟩))⟩
    rcases List.mem_cons.mp hq with e_ | hq
    · subst e_
      exact ⟨h', yfr_sm K_.2.2.2 hs K_.1 (ywa_r miE_w (List.mem_cons_of_mem _ (List.mem_cons_of_mem _ List.mem_cons_self))), Or.inr (Or.inr (Or.inl (⟨xq_eqT rfl rfl (K_.2.2.1 _ List.mem_cons_self), xq_eqF rfl rfl (K_.2.2.1 _ (List.mem_cons_of_mem _ List.mem_cons_self)), xq_ltT rfl rfl (K_.2.2.1 _ (List.mem_cons_of_mem _ (List.mem_cons_of_mem _ List.mem_cons_self))), fun a_ j_ => yfr_bp K_.2.2.2 (fun q_ hq => absurd hq List.not_mem_nil), G_⟩)))⟩
    rcases List.mem_cons.mp hq with e_ | hq
    · subst e_
      exact ⟨h', yfr_sm K_.2.2.2 hs K_.1 (ywa_r miE_w (List.mem_cons_of_mem _ (List.mem_cons_of_mem _ (List.mem_cons_of_mem _ List.mem_cons_self)))), Or.inr (Or.inr (Or.inr (Or.inl (⟨xq_eqF rfl rfl (K_.2.2.1 _ List.mem_cons_self), xq_eqT rfl rfl (K_.2.2.1 _ (List.mem_cons_of_mem _ List.mem_cons_self)), xq_ltT rfl rfl (K_.2.2.1 _ (List.mem_cons_of_mem _ (List.mem_cons_of_mem _ List.mem_cons_self))), fun a_ j_ => yfr_bp K_.2.2.2 (fun q_ hq => absurd hq List.not_mem_nil), G_⟩))))⟩
    have e_ := List.mem_singleton.mp hq
    subst e_
    exact ⟨h', yfr_sm K_.2.2.2 hs K_.1 (ywa_r miE_w (List.mem_cons_of_mem _ (List.mem_cons_of_mem _ (List.mem_cons_of_mem _ (List.mem_cons_of_mem _ List.mem_cons_self))))), Or.inr (Or.inr (Or.inr (Or.inr (⟨xq_eqT rfl rfl (K_.2.2.1 _ List.mem_cons_self), xq_eqT rfl rfl (K_.2.2.1 _ (List.mem_cons_of_mem _ List.mem_cons_self)), xq_ltT rfl rfl (K_.2.2.1 _ (List.mem_cons_of_mem _ (List.mem_cons_of_mem _ List.mem_cons_self))), fun a_ j_ => yfr_bp K_.2.2.2 (fun q_ hq => absurd hq List.not_mem_nil), G_⟩))))⟩
section
variable {W_ : Nat → List Int32} {V : Nat → Int32} {h_ : xH}
def bitF (s_ v_ : Int32) : Int32 := (s_ >>> ((v_ / (2 : Int32)) &&& 31)) &&& (1 : Int32)
/-- whether a WORD is so -/
def wso (s_ v_ : Int32) : Bool := if 40 ≤ v_.toInt then true else (if (v_ - v_ / (2 : Int32) * (2 : Int32)) = 0 then decide (bitF s_ v_ = 1) else decide (bitF s_ v_ = 0))
theorem miS {v_ s_ : Int32} (S_ : sHp h_) (e5_ : bpat h_ 339 5 = some (.int s_)) : ∃ h', (ysm h_ h' ∧ ∀ c_ j_, bpat h' c_ j_ = bpat h_ c_ j_) ∧ ∀ D_, 60 ≤ D_ → xrun D_ 203 0 [(0, .index 338), (1, .int v_)] [] h_ (some (.int (bI (wso s_ v_))), h', []) := by
  have z40 : (40 : Int32).toInt = 40 := rfl
  obtain ⟨h1, m1_, e_⟩ := miE (v1_ := v_) S_ e5_
  rcases e_ with ⟨g1, f_, r_⟩ | ⟨g1, g2, g3_, f_, r_⟩ | ⟨g1, g2, g3_, f_, r_⟩ | ⟨g1, g2, g3_, f_, r_⟩ | ⟨g1, g2, g3_, f_, r_⟩
  · rw [show wso s_ v_ = true from if_pos (by omega)]
    exact ⟨h1, ⟨m1_, f_⟩, r_⟩
  · rw [show wso s_ v_ = false from (if_neg (by omega)).trans ((if_neg g2).trans (decide_eq_false g1))]
    exact ⟨h1, ⟨m1_, f_⟩, r_⟩
  · rw [show wso s_ v_ = true from (if_neg (by omega)).trans ((if_neg g2).trans (decide_eq_true g1))]
    exact ⟨h1, ⟨m1_, f_⟩, r_⟩
  · rw [show wso s_ v_ = false from (if_neg (by omega)).trans ((if_pos g2).trans (decide_eq_false g1))]
    exact ⟨h1, ⟨m1_, f_⟩, r_⟩
  · rw [show wso s_ v_ = true from (if_neg (by omega)).trans ((if_pos g2).trans (decide_eq_true g1))]
    exact ⟨h1, ⟨m1_, f_⟩, r_⟩
def tmf (h_ h' : xH) : Prop := ysm h_ h' ∧ ∀ c_ j_, ¬ (c_ = 338 ∧ j_ = 16) → ¬ (c_ = 338 ∧ j_ = 17) → bpat h' c_ j_ = bpat h_ c_ j_
theorem tmf_t {a_ b_ c_ : xH} (h1 : tmf a_ b_) (h2 : tmf b_ c_) : tmf a_ c_ := ⟨ysm_tr h1.1 h2.1, fun c_ j_ q1_ q2_ => (h2.2 c_ j_ q1_ q2_).trans (h1.2 c_ j_ q1_ q2_)⟩
theorem tmf_a {h_ h' : xH} (m_ : ysm h_ h') (f_ : ∀ c_ j_, bpat h' c_ j_ = bpat h_ c_ j_) : tmf h_ h' := ⟨m_, fun c_ j_ _ _ => f_ c_ j_⟩
theorem tmf_S {h_ h' : xH} (H_ : SM W_ V h_) (F_ : tmf h_ h') : SM W_ V h' := SM_fr H_ F_.1 (fun c_ j_ hc_ => F_.2 c_ j_ (fun q_ => by rw [q_.1, q_.2] at hc_; exact absurd hc_ (by decide)) (fun q_ => by rw [q_.1, q_.2] at hc_; exact absurd hc_ (by decide)))
theorem tmf_R {h_ h' : xH} {L_ : List Int32} (R_ : rM 342 h_ L_) (F_ : tmf h_ h') : rM 342 h' L_ := ⟨F_.1.1, rwm_keep R_.2.1 F_.1 (fun j_ _ _ => F_.2 342 j_ (by omega) (by omega)), R_.2.2⟩
theorem nru_d {L_ : List Int32} : ∀ (l : List Int32) (i_ : Nat) (s_ : Int32), L_.drop i_ = l → L_.drop (nru i_ s_ l).1 = (nru i_ s_ l).2.2 := by
  intro l
  induction l with
  | nil => intro i_ s_ e_; exact e_
  | cons v_ t_ ih_ =>
    intro i_ s_ e_
    by_cases g_ : 60 ≤ v_.toInt
    · have e1_ : nru i_ s_ (v_ :: t_) = nru (i_ + 1) (s_ + (v_ - 80)) t_ := if_pos g_
      rw [e1_]
      exact ih_ _ _ (by rw [show L_.drop (i_ + 1) = (L_.drop i_).drop 1 by rw [List.drop_drop], e_]; rfl)
    · have e1_ : nru i_ s_ (v_ :: t_) = (i_, s_, v_ :: t_) := if_neg g_
      rw [e1_]
      exact e_
theorem itm {L_ : List Int32} {i_ : Nat} {v_ : Int32} {t_ : List Int32} (R_ : rM 342 h_ L_) (e_ : L_.drop i_ = v_ :: t_) : bpat h_ 342 (i_ + 1) = some (.int v_) := by
  have q_ : (L_.drop i_)[0]? = some v_ := by rw [e_]; rfl
  rw [List.getElem?_drop, Nat.add_zero] at q_
  have o := R_.2.1.2.2 i_ v_ q_
  rw [show 0 + 1 + i_ = i_ + 1 by omega] at o
  exact o
theorem tm_w {L_ : List Int32} {i_ : Nat} (R_ : rM 342 h_ L_) (e16_ : bpat h_ 338 16 = some (.int (Int32.ofNat (i_ + 1)))) (hi_ : i_ ≤ 12) (e17_ : bpat h_ 338 17 = some (.int 1)) : ∃ h', tmf h_ h' ∧ ((bpat h' 338 16 = some (.int (Int32.ofNat (i_ + 1))) ∧ bpat h' 338 17 = some (.int 1)) ∧ ∀ D_, 60 ≤ D_ → xrun D_ 204 0 [(0, .index 338)] [] h_ (some (.int 0), h', [])) := by
  have l12 := R_.2.2
  have ii := i32n (i_ := i_ + 1) (by omega)
  have iL := i32n (i_ := L_.length) (by omega)
  by_cases g_ : i_ + 1 ≤ L_.length
  · have ov : bpat h_ 342 (Int32.ofNat (i_ + 1)).toInt.toNat = some (.int (L_.getD i_ 0)) := by
      rw [i32t (by omega)]
      have o := R_.2.1.2.2 i_ _ (getD_a (l := L_) (j_ := i_) (by omega))
      rw [show 0 + 1 + i_ = i_ + 1 by omega] at o
      exact o
    obtain ⟨h1, m1_, w0_, f1_, r1_⟩ := tmW (v300 := Int32.ofNat L_.length) (v316 := Int32.ofNat (i_ + 1)) (v317 := 1) R_.1 e16_ R_.2.1.2.1 ov e17_ ⟨by omega, by omega⟩ (by decide) (by omega)
    exact ⟨h1, ⟨m1_, fun c_ j_ _ q_ => f1_ c_ j_ q_⟩, ⟨(f1_ _ _ (by omega)).trans e16_, w0_⟩, r1_⟩
  · obtain ⟨h1, m1_, w0_, f1_, r1_⟩ := tmW2 (v300 := Int32.ofNat L_.length) (v316 := Int32.ofNat (i_ + 1)) (v317 := 1) R_.1 e16_ R_.2.1.2.1 e17_ (by decide) (by omega)
    exact ⟨h1, ⟨m1_, fun c_ j_ _ q_ => f1_ c_ j_ q_⟩, ⟨(f1_ _ _ (by omega)).trans e16_, w0_⟩, r1_⟩
theorem nu_m {L_ : List Int32} {x_ : Int32} : ∀ (l : List Int32) (i_ : Nat) (s_ : Int32) (h_ : xH), L_.drop i_ = l → i_ + l.length = L_.length → rM 342 h_ L_ → bpat h_ 338 16 = some (.int (Int32.ofNat (i_ + 1))) → ∃ h', (tmf h_ h' ∧ bpat h' 338 17 = bpat h_ 338 17) ∧ (bpat h' 338 16 = some (.int (Int32.ofNat ((nru i_ s_ l).1 + 1))) ∧ bldD 60 204 107 [(2, .int s_), (1, .int x_), (0, .index 338)] [] h_ 147 [(2, .int (nru i_ s_ l).2.1), (1, .int x_), (0, .index 338)] [] h') := by
  intro l
  have z60_ : (60 : Int32).toInt = 60 := rfl
  induction l with
  | nil =>
    intro i_ s_ h_ ed hi_ R_ e16_
    rw [List.length_nil] at hi_
    have l12 := R_.2.2
    have ii := i32n (i_ := i_ + 1) (by omega)
    have iL := i32n (i_ := L_.length) (by omega)
    obtain ⟨h1, m1_, f1_, ld1⟩ := tmLE (v1_ := x_) (v2 := s_) R_.1 e16_ R_.2.1.2.1 (by omega)
    exact ⟨h1, ⟨tmf_a m1_ f1_, f1_ _ _⟩, (f1_ _ _).trans e16_, ld1⟩
  | cons v_ t_ ih_ =>
    intro i_ s_ h_ ed hi_ R_ e16_
    rw [List.length_cons] at hi_
    have l12 := R_.2.2
    have ii := i32n (i_ := i_ + 1) (by omega)
    have iL := i32n (i_ := L_.length) (by omega)
    have ov : bpat h_ 342 (Int32.ofNat (i_ + 1)).toInt.toNat = some (.int v_) := by rw [i32t (by omega)]; exact itm R_ ed
    by_cases g_ : 60 ≤ v_.toInt
    · have e1_ : nru i_ s_ (v_ :: t_) = nru (i_ + 1) (s_ + (v_ - 80)) t_ := if_pos g_
      rw [e1_]
      obtain ⟨h1, m1_, w0_, f1_, ld1⟩ := tmL (v1_ := x_) (v2 := s_) R_.1 e16_ R_.2.1.2.1 ov ⟨by omega, by omega⟩ (by omega) (by omega)
      rw [i32s] at w0_
      have F1_ : tmf h_ h1 := ⟨m1_, fun c_ j_ q_ _ => f1_ c_ j_ q_⟩
      obtain ⟨h2, ⟨F2, g17⟩, g16, ld2⟩ := ih_ (i_ + 1) (s_ + (v_ - 80)) h1 (by rw [show L_.drop (i_ + 1) = (L_.drop i_).drop 1 by rw [List.drop_drop], ed]; rfl) (by omega) (tmf_R R_ F1_) w0_
      exact ⟨h2, ⟨tmf_t F1_ F2, g17.trans (f1_ _ _ (by omega))⟩, g16, fun D_ hD oo z_ => ld1 D_ hD _ (ld2 D_ hD oo z_)⟩
    · have e1_ : nru i_ s_ (v_ :: t_) = (i_, s_, v_ :: t_) := if_neg g_
      rw [e1_]
      obtain ⟨h1, m1_, f1_, ld1⟩ := tmLx (v1_ := x_) (v2 := s_) R_.1 e16_ R_.2.1.2.1 ov ⟨by omega, by omega⟩ (by omega) (by omega)
      exact ⟨h1, ⟨tmf_a m1_ f1_, f1_ _ _⟩, (f1_ _ _).trans e16_, ld1⟩
end
section
variable {W_ : Nat → List Int32} {V : Nat → Int32} {h_ : xH}
theorem tm_m {L_ : List Int32} (hS_ : snds L_) : ∀ (f_ i_ : Nat) (l : List Int32) (h_ : xH), l.length < f_ → L_.drop i_ = l → i_ + l.length = L_.length → SM W_ V h_ → rM 342 h_ L_ → bpat h_ 338 16 = some (.int (Int32.ofNat (i_ + 1))) → bpat h_ 338 17 = some (.int 0) → ∃ (h' : xH) (vb : Bool), (SM W_ V h' ∧ tmf h_ h') ∧ ((bpat h' 338 16 = some (.int (Int32.ofNat ((tmF (wso (V 3)) f_ i_ l).2.1 + 1))) ∧ (((tmF (wso (V 3)) f_ i_ l).1 = true ∧ (bpat h' 338 17 = some (.int 0) ∧ (vb = (tmF (wso (V 3)) f_ i_ l).2.2.1 ∧ L_.drop (tmF (wso (V 3)) f_ i_ l).2.1 = (tmF (wso (V 3)) f_ i_ l).2.2.2))) ∨ ((tmF (wso (V 3)) f_ i_ l).1 = false ∧ bpat h' 338 17 = some (.int 1)))) ∧ ∀ D_, 61 + f_ ≤ D_ → xrun D_ 204 0 [(0, .index 338)] [] h_ (some (.int (bI vb)), h', [])) := by
  intro f_
  have z60_ : (60 : Int32).toInt = 60 := rfl
  have zm := im1_
  have zz := z0_
  induction f_ with
  | zero => intro i_ l h_ hl; omega
  | succ f_ ih_ =>
    intro i_ l h_ hl ed hi_ H_ R_ e16_ e17_
    have l12 := R_.2.2
    have ii := i32n (i_ := i_ + 1) (by omega)
    have iL := i32n (i_ := L_.length) (by omega)
    cases l with
    | nil =>
      rw [List.length_nil] at hi_
      have e_ : tmF (wso (V 3)) (f_ + 1) i_ [] = (false, i_, false, []) := rfl
      rw [e_]
      · obtain ⟨h1, m1_, w0_, f1_, r1_⟩ := tmE (v300 := Int32.ofNat L_.length) (v316 := Int32.ofNat (i_ + 1)) (v317 := 0) H_.1 e16_ R_.2.1.2.1 e17_ rfl (by omega)
        exact ⟨h1, false, ⟨tmf_S H_ ⟨m1_, fun c_ j_ _ q_ => f1_ c_ j_ q_⟩, ⟨m1_, fun c_ j_ _ q_ => f1_ c_ j_ q_⟩⟩, ⟨(f1_ _ _ (by omega)).trans e16_, Or.inr ⟨rfl, w0_⟩⟩, fun D_ hD => r1_ D_ (by omega)⟩
    | cons v_ t_ =>
      rw [List.length_cons] at hl hi_
      have ed2 : L_.drop (i_ + 1) = t_ := by rw [show L_.drop (i_ + 1) = (L_.drop i_).drop 1 by rw [List.drop_drop], ed]; rfl
      have ov : bpat h_ 342 (Int32.ofNat (i_ + 1)).toInt.toNat = some (.int v_) := by rw [i32t (by omega)]; exact itm R_ ed
      have sv : snd_ v_ := hS_ v_ (List.mem_of_mem_drop (by rw [ed]; exact List.mem_cons_self))
      unfold snd_ at sv
      have nm1 : ¬ v_ = Int32.ofInt (-1) := fun q_ => by rw [q_, zm] at sv; omega
      by_cases g50 : v_.toInt = 50
      · have ev_ : v_ = 50 := Int32.toInt_inj.mp g50
        have e_ : tmF (wso (V 3)) (f_ + 1) i_ (v_ :: t_) = (false, i_, false, v_ :: t_) := if_pos (Or.inr (Or.inl g50))
        rw [e_]
        subst ev_
        obtain ⟨h1, m1_, w0_, f1_, r1_⟩ := tm50 (v300 := Int32.ofNat L_.length) (v316 := Int32.ofNat (i_ + 1)) (v317 := 0) H_.1 e16_ R_.2.1.2.1 ov e17_ ⟨by omega, by omega⟩ rfl (by omega)
        exact ⟨h1, false, ⟨tmf_S H_ ⟨m1_, fun c_ j_ _ q_ => f1_ c_ j_ q_⟩, ⟨m1_, fun c_ j_ _ q_ => f1_ c_ j_ q_⟩⟩, ⟨(f1_ _ _ (by omega)).trans e16_, Or.inr ⟨rfl, w0_⟩⟩, fun D_ hD => r1_ D_ (by omega)⟩
      by_cases g51 : v_.toInt = 51
      · have ev_ : v_ = 51 := Int32.toInt_inj.mp g51
        have e_ : tmF (wso (V 3)) (f_ + 1) i_ (v_ :: t_) = (false, i_, false, v_ :: t_) := if_pos (Or.inr (Or.inr g51))
        rw [e_]
        subst ev_
        obtain ⟨h1, m1_, w0_, f1_, r1_⟩ := tm51 (v300 := Int32.ofNat L_.length) (v316 := Int32.ofNat (i_ + 1)) (v317 := 0) H_.1 e16_ R_.2.1.2.1 ov e17_ ⟨by omega, by omega⟩ rfl (by omega)
        exact ⟨h1, false, ⟨tmf_S H_ ⟨m1_, fun c_ j_ _ q_ => f1_ c_ j_ q_⟩, ⟨m1_, fun c_ j_ _ q_ => f1_ c_ j_ q_⟩⟩, ⟨(f1_ _ _ (by omega)).trans e16_, Or.inr ⟨rfl, w0_⟩⟩, fun D_ hD => r1_ D_ (by omega)⟩
      have n50 : ¬ v_ = 50 := fun q2_ => g50 (by rw [q2_]; rfl)
      have n51 : ¬ v_ = 51 := fun q2_ => g51 (by rw [q2_]; rfl)
      by_cases g6 : 60 ≤ v_.toInt
      · have e_ : tmF (wso (V 3)) (f_ + 1) i_ (v_ :: t_) = (false, i_, false, v_ :: t_) := if_pos (Or.inl g6)
        rw [e_]
        obtain ⟨h1, m1_, w0_, f1_, r1_⟩ := tmG (v300 := Int32.ofNat L_.length) (v316 := Int32.ofNat (i_ + 1)) (v317 := 0) (v301 := v_) H_.1 e16_ R_.2.1.2.1 ov e17_ ⟨by omega, by omega⟩ (by omega) n51 n50 nm1 rfl (by omega)
        exact ⟨h1, false, ⟨tmf_S H_ ⟨m1_, fun c_ j_ _ q_ => f1_ c_ j_ q_⟩, ⟨m1_, fun c_ j_ _ q_ => f1_ c_ j_ q_⟩⟩, ⟨(f1_ _ _ (by omega)).trans e16_, Or.inr ⟨rfl, w0_⟩⟩, fun D_ hD => r1_ D_ (by omega)⟩
      have gq : ¬ (60 ≤ v_.toInt ∨ (v_.toInt = 50 ∨ v_.toInt = 51)) := by omega
      by_cases g53 : v_.toInt = 53
      · have ev_ : v_ = 53 := Int32.toInt_inj.mp g53
        have e_ : tmF (wso (V 3)) (f_ + 1) i_ (v_ :: t_) = ((tmF (wso (V 3)) f_ (i_ + 1) t_).1, (tmF (wso (V 3)) f_ (i_ + 1) t_).2.1, !(tmF (wso (V 3)) f_ (i_ + 1) t_).2.2.1, (tmF (wso (V 3)) f_ (i_ + 1) t_).2.2.2) := (if_neg gq).trans (if_pos g53)
        rw [e_]
        subst ev_
        obtain ⟨h1, m1_, w0_, f1_, ld1⟩ := tm53 (v300 := Int32.ofNat L_.length) (v316 := Int32.ofNat (i_ + 1)) (v317 := 0) H_.1 e16_ R_.2.1.2.1 ov e17_ ⟨by omega, by omega⟩ rfl (by omega)
        rw [i32s] at w0_
        have F1_ : tmf h_ h1 := ⟨m1_, fun c_ j_ q_ _ => f1_ c_ j_ q_⟩
        have H1_ := tmf_S H_ F1_
        obtain ⟨h2, vb, ⟨H2_, F2⟩, ⟨a16, a_⟩, r2⟩ := ih_ (i_ + 1) t_ h1 (by omega) ed2 (by omega) H1_ (tmf_R R_ F1_) w0_ ((f1_ _ _ (by omega)).trans e17_)
        have ld2 := ycv (d_ := 61 + f_) (mi := 204) (pc := 63) (cm := 204) (lo_ := [(1, .int 53), (0, .index 338)]) (st_ := [.index 338]) (as_ := []) (s' := []) rfl rfl (bcq_of (n_ := 338) (z_ := (12, 26)) H1_.1 rfl) rfl (xcc_l (List.forall_mem_cons.mpr ⟨rfl, List.forall_mem_cons.mpr ⟨xidx_i (bcq_lt (bcq_of (n_ := 338) (z_ := (12, 26)) H1_.1 rfl)), fun q_ hq => absurd hq List.not_mem_nil⟩⟩) (fun t_ ht => absurd ht List.not_mem_nil) (Nat.le_of_ble_eq_true rfl)) r2
        have fin_ : ∃ h3, (ysm h2 h3 ∧ ∀ c_ j_, bpat h3 c_ j_ = bpat h2 c_ j_) ∧ ∀ D_, 60 ≤ D_ → xrun D_ 204 66 [(1, .int 53), (0, .index 338)] [.int (bI vb)] h2 (some (.int (bI (!vb))), h3, []) := by
          cases vb with
          | true =>
            obtain ⟨h3, m3_, f3_, r3⟩ := tm53r1 H2_.1
            exact ⟨h3, ⟨m3_, f3_⟩, r3⟩
          | false =>
            obtain ⟨h3, m3_, f3_, r3⟩ := tm53r0 H2_.1
            exact ⟨h3, ⟨m3_, f3_⟩, r3⟩
        obtain ⟨h3, ⟨m3_, f3_⟩, r3⟩ := fin_
        have F3 := tmf_t F1_ (tmf_t F2 (tmf_a m3_ f3_))
        refine ⟨h3, !vb, ⟨tmf_S H_ F3, F3⟩, ⟨(f3_ _ _).trans a16, ?_⟩, fun D_ hD => ld1 D_ (by omega) _ (ld2 D_ (by omega) _ (r3 D_ (by omega)))⟩
        rcases a_ with ⟨a1_, a2, a3, a4⟩ | ⟨a1_, a2⟩
        · exact Or.inl ⟨a1_, (f3_ _ _).trans a2, by rw [a3], a4⟩
        · exact Or.inr ⟨a1_, (f3_ _ _).trans a2⟩
      have n53 : ¬ v_ = 53 := fun q2_ => g53 (by rw [q2_]; rfl)
      by_cases g52 : v_.toInt = 52
      · have ev_ : v_ = 52 := Int32.toInt_inj.mp g52
        have eT : (tmF (wso (V 3)) f_ (i_ + 1) t_).1 = true → tmF (wso (V 3)) (f_ + 1) i_ (v_ :: t_) = ((tmF (wso (V 3)) f_ (tmF (wso (V 3)) f_ (i_ + 1) t_).2.1 (tmF (wso (V 3)) f_ (i_ + 1) t_).2.2.2).1, (tmF (wso (V 3)) f_ (tmF (wso (V 3)) f_ (i_ + 1) t_).2.1 (tmF (wso (V 3)) f_ (i_ + 1) t_).2.2.2).2.1, !(tmF (wso (V 3)) f_ (i_ + 1) t_).2.2.1 || (tmF (wso (V 3)) f_ (tmF (wso (V 3)) f_ (i_ + 1) t_).2.1 (tmF (wso (V 3)) f_ (i_ + 1) t_).2.2.2).2.2.1, (tmF (wso (V 3)) f_ (tmF (wso (V 3)) f_ (i_ + 1) t_).2.1 (tmF (wso (V 3)) f_ (i_ + 1) t_).2.2.2).2.2.2) := fun a1_ => (if_neg gq).trans ((if_neg g53).trans ((if_pos g52).trans (if_pos a1_)))
        have eF : ¬ (tmF (wso (V 3)) f_ (i_ + 1) t_).1 = true → tmF (wso (V 3)) (f_ + 1) i_ (v_ :: t_) = (false, (tmF (wso (V 3)) f_ (i_ + 1) t_).2.1, false, (tmF (wso (V 3)) f_ (i_ + 1) t_).2.2.2) := fun na => (if_neg gq).trans ((if_neg g53).trans ((if_pos g52).trans (if_neg na)))
        subst ev_
        obtain ⟨h1, m1_, w0_, f1_, ld1⟩ := tm52 (v300 := Int32.ofNat L_.length) (v316 := Int32.ofNat (i_ + 1)) (v317 := 0) H_.1 e16_ R_.2.1.2.1 ov e17_ ⟨by omega, by omega⟩ rfl (by omega)
        rw [i32s] at w0_
        have F1_ : tmf h_ h1 := ⟨m1_, fun c_ j_ q_ _ => f1_ c_ j_ q_⟩
        have H1_ := tmf_S H_ F1_
        obtain ⟨h2, vb, ⟨H2_, F2⟩, ⟨a16, a_⟩, r2⟩ := ih_ (i_ + 1) t_ h1 (by omega) ed2 (by omega) H1_ (tmf_R R_ F1_) w0_ ((f1_ _ _ (by omega)).trans e17_)
        have ld2 := ycv (d_ := 61 + f_) (mi := 204) (pc := 82) (cm := 204) (lo_ := [(1, .int 52), (0, .index 338)]) (st_ := [.index 338]) (as_ := []) (s' := []) rfl rfl (bcq_of (n_ := 338) (z_ := (12, 26)) H1_.1 rfl) rfl (xcc_l (List.forall_mem_cons.mpr ⟨rfl, List.forall_mem_cons.mpr ⟨xidx_i (bcq_lt (bcq_of (n_ := 338) (z_ := (12, 26)) H1_.1 rfl)), fun q_ hq => absurd hq List.not_mem_nil⟩⟩) (fun t_ ht => absurd ht List.not_mem_nil) (Nat.le_of_ble_eq_true rfl)) r2
        obtain ⟨h3, m3_, f3_, ld3⟩ := tm52a (v8 := bI vb) H2_.1
        have F13 := tmf_t F1_ (tmf_t F2 (tmf_a m3_ f3_))
        have H3 := tmf_S H_ F13
        have fin_ : ∀ (h4 : xH) (vc : Bool), sHp h4 → ∃ h5, (ysm h4 h5 ∧ ∀ c_ j_, bpat h5 c_ j_ = bpat h4 c_ j_) ∧ ∀ D_, 60 ≤ D_ → xrun D_ 204 90 [(2, .int (bI vb)), (1, .int 52), (0, .index 338)] [.int (bI vc)] h4 (some (.int (bI (!vb || vc))), h5, []) := by
          intro h4 vc S4
          cases vb with
          | true =>
            cases vc with
            | true =>
              obtain ⟨h5, m5_, f5_, r5_⟩ := tm52r11 S4
              exact ⟨h5, ⟨m5_, f5_⟩, r5_⟩
            | false =>
              obtain ⟨h5, m5_, f5_, r5_⟩ := tm52r10 S4
              exact ⟨h5, ⟨m5_, f5_⟩, r5_⟩
          | false =>
            cases vc with
            | true =>
              obtain ⟨h5, m5_, f5_, r5_⟩ := tm52r01 S4
              exact ⟨h5, ⟨m5_, f5_⟩, r5_⟩
            | false =>
              obtain ⟨h5, m5_, f5_, r5_⟩ := tm52r00 S4
              exact ⟨h5, ⟨m5_, f5_⟩, r5_⟩
        obtain ⟨k1_, k2_⟩ := tmF_c (so := wso (V 3)) f_ (i_ + 1) t_ 0 false (by omega) (Or.inl rfl)
        rcases a_ with ⟨a1_, a2, a3, a4⟩ | ⟨a1_, a2⟩
        · obtain ⟨b1, b2, b3, b4⟩ := k1_ a1_
          rw [eT a1_]
          obtain ⟨h4, vc, ⟨H4, F4⟩, ⟨c16, c_⟩, r4⟩ := ih_ (tmF (wso (V 3)) f_ (i_ + 1) t_).2.1 (tmF (wso (V 3)) f_ (i_ + 1) t_).2.2.2 h3 (by omega) a4 (by omega) H3 (tmf_R R_ F13) ((f3_ _ _).trans a16) ((f3_ _ _).trans a2)
          have ld4 := ycv (d_ := 61 + f_) (mi := 204) (pc := 87) (cm := 204) (lo_ := [(2, .int (bI vb)), (1, .int 52), (0, .index 338)]) (st_ := [.index 338]) (as_ := []) (s' := []) rfl rfl (bcq_of (n_ := 338) (z_ := (12, 26)) H3.1 rfl) rfl (xcc_l (List.forall_mem_cons.mpr ⟨rfl, List.forall_mem_cons.mpr ⟨rfl, List.forall_mem_cons.mpr ⟨xidx_i (bcq_lt (bcq_of (n_ := 338) (z_ := (12, 26)) H3.1 rfl)), fun q_ hq => absurd hq List.not_mem_nil⟩⟩⟩) (fun t_ ht => absurd ht List.not_mem_nil) (Nat.le_of_ble_eq_true rfl)) r4
          obtain ⟨h5, ⟨m5_, f5_⟩, r5_⟩ := fin_ h4 vc H4.1
          have F5 := tmf_t F13 (tmf_t F4 (tmf_a m5_ f5_))
          refine ⟨h5, !vb || vc, ⟨tmf_S H_ F5, F5⟩, ⟨(f5_ _ _).trans c16, ?_⟩, fun D_ hD => ld1 D_ (by omega) _ (ld2 D_ (by omega) _ (ld3 D_ (by omega) _ (ld4 D_ (by omega) _ (r5_ D_ (by omega)))))⟩
          rcases c_ with ⟨c1_, c2_, c3_, c4_⟩ | ⟨c1_, c2_⟩
          · exact Or.inl ⟨c1_, (f5_ _ _).trans c2_, by rw [a3, c3_], c4_⟩
          · exact Or.inr ⟨c1_, (f5_ _ _).trans c2_⟩
        · have na : ¬ (tmF (wso (V 3)) f_ (i_ + 1) t_).1 = true := by rw [a1_]; exact Bool.false_ne_true
          rw [eF na]
          have le_ : (tmF (wso (V 3)) f_ (i_ + 1) t_).2.1 ≤ 12 := by
            have q_ : cf 1 false (i_ + 1) t_ = ((tmF (wso (V 3)) f_ (i_ + 1) t_).2.1 : Int) := k2_ a1_
            have q2_ := (cf_b t_ 1 (i_ + 1) false).2
            omega
          obtain ⟨h4, F4, ⟨c16, c17⟩, r4⟩ := tm_w (tmf_R R_ F13) ((f3_ _ _).trans a16) le_ ((f3_ _ _).trans a2)
          have ld4 := ycv (d_ := 60) (mi := 204) (pc := 87) (cm := 204) (lo_ := [(2, .int (bI vb)), (1, .int 52), (0, .index 338)]) (st_ := [.index 338]) (as_ := []) (s' := []) rfl rfl (bcq_of (n_ := 338) (z_ := (12, 26)) H3.1 rfl) rfl (xcc_l (List.forall_mem_cons.mpr ⟨rfl, List.forall_mem_cons.mpr ⟨rfl, List.forall_mem_cons.mpr ⟨xidx_i (bcq_lt (bcq_of (n_ := 338) (z_ := (12, 26)) H3.1 rfl)), fun q_ hq => absurd hq List.not_mem_nil⟩⟩⟩) (fun t_ ht => absurd ht List.not_mem_nil) (Nat.le_of_ble_eq_true rfl)) r4
          obtain ⟨h5, ⟨m5_, f5_⟩, r5_⟩ := fin_ h4 false F4.1.1
          have F5 := tmf_t F13 (tmf_t F4 (tmf_a m5_ f5_))
          exact ⟨h5, !vb || false, ⟨tmf_S H_ F5, F5⟩, ⟨(f5_ _ _).trans c16, Or.inr ⟨rfl, (f5_ _ _).trans c17⟩⟩, fun D_ hD => ld1 D_ (by omega) _ (ld2 D_ (by omega) _ (ld3 D_ (by omega) _ (ld4 D_ (by omega) _ (r5_ D_ (by omega)))))⟩
      have n52 : ¬ v_ = 52 := fun q2_ => g52 (by rw [q2_]; rfl)
      have e_ : tmF (wso (V 3)) (f_ + 1) i_ (v_ :: t_) = (true, (nru (i_ + 1) 0 t_).1, wso (V 3) v_ && decide (0 ≤ (nru (i_ + 1) 0 t_).2.1.toInt), (nru (i_ + 1) 0 t_).2.2) := (if_neg gq).trans ((if_neg g53).trans (if_neg g52))
      rw [e_]
      obtain ⟨h1, m1_, w0_, f1_, ld1⟩ := tmV (v300 := Int32.ofNat L_.length) (v316 := Int32.ofNat (i_ + 1)) (v317 := 0) (v301 := v_) H_.1 e16_ R_.2.1.2.1 ov e17_ ⟨by omega, by omega⟩ n52 n53 (by omega) n51 n50 nm1 rfl (by omega)
      rw [i32s] at w0_
      have F1_ : tmf h_ h1 := ⟨m1_, fun c_ j_ q_ _ => f1_ c_ j_ q_⟩
      obtain ⟨h2, ⟨F2, g17⟩, g16, ld2⟩ := nu_m (x_ := v_) t_ (i_ + 1) 0 h1 ed2 (by omega) (tmf_R R_ F1_) w0_
      have F12 := tmf_t F1_ F2
      have H2_ := tmf_S H_ F12
      obtain ⟨h3, m3_, f3_, ld3⟩ := tmS (v1_ := v_) (v2 := (nru (i_ + 1) 0 t_).2.1) H2_.1
      have F13 := tmf_t F12 (tmf_a m3_ f3_)
      have H3 := tmf_S H_ F13
      obtain ⟨h4, ⟨m4_, f4_⟩, r4⟩ := miS (v_ := v_) H3.1 (SM_v H3 (show (5, 3) ∈ wvM by decide))
      have ld4 := ycv (d_ := 60) (mi := 204) (pc := 149) (cm := 203) (lo_ := [(2, .int (nru (i_ + 1) 0 t_).2.1), (1, .int v_), (0, .index 338)]) (st_ := [.int v_, .index 338]) (as_ := [.int v_]) (s' := []) rfl rfl (bcq_of (n_ := 338) (z_ := (12, 26)) H3.1 rfl) rfl (xcc_l (List.forall_mem_cons.mpr ⟨rfl, List.forall_mem_cons.mpr ⟨rfl, List.forall_mem_cons.mpr ⟨xidx_i (bcq_lt (bcq_of (n_ := 338) (z_ := (12, 26)) H3.1 rfl)), fun q_ hq => absurd hq List.not_mem_nil⟩⟩⟩) (fun t_ ht => absurd ht List.not_mem_nil) (Nat.le_of_ble_eq_true rfl)) r4
      have fin_ : ∃ h5, (ysm h4 h5 ∧ ∀ c_ j_, bpat h5 c_ j_ = bpat h4 c_ j_) ∧ ∀ D_, 60 ≤ D_ → xrun D_ 204 152 [(2, .int (nru (i_ + 1) 0 t_).2.1), (1, .int v_), (0, .index 338)] [.int (bI (wso (V 3) v_))] h4 (some (.int (bI (wso (V 3) v_ && decide (0 ≤ (nru (i_ + 1) 0 t_).2.1.toInt)))), h5, []) := by
        cases wso (V 3) v_ with
        | false =>
          obtain ⟨h5, m5_, f5_, r5_⟩ := tmR0 (v1_ := v_) (v2 := (nru (i_ + 1) 0 t_).2.1) m4_.1
          exact ⟨h5, ⟨m5_, f5_⟩, r5_⟩
        | true =>
          by_cases gs : 0 ≤ (nru (i_ + 1) 0 t_).2.1.toInt
          · rw [decide_eq_true gs]
            obtain ⟨h5, m5_, f5_, r5_⟩ := tmR10 (v1_ := v_) (v2 := (nru (i_ + 1) 0 t_).2.1) m4_.1 (by omega)
            exact ⟨h5, ⟨m5_, f5_⟩, r5_⟩
          · rw [decide_eq_false gs]
            obtain ⟨h5, m5_, f5_, r5_⟩ := tmR11 (v1_ := v_) (v2 := (nru (i_ + 1) 0 t_).2.1) m4_.1 (by omega)
            exact ⟨h5, ⟨m5_, f5_⟩, r5_⟩
      obtain ⟨h5, ⟨m5_, f5_⟩, r5_⟩ := fin_
      have F5 := tmf_t F13 (tmf_t (tmf_a m4_ f4_) (tmf_a m5_ f5_))
      exact ⟨h5, _, ⟨tmf_S H_ F5, F5⟩, ⟨(f5_ _ _).trans ((f4_ _ _).trans ((f3_ _ _).trans g16)), Or.inl ⟨rfl, (f5_ _ _).trans ((f4_ _ _).trans ((f3_ _ _).trans (g17.trans ((f1_ _ _ (by omega)).trans e17_)))), rfl, nru_d t_ (i_ + 1) 0 ed2⟩⟩, fun D_ hD => ld1 D_ (by omega) _ (ld2 D_ (by omega) _ (ld3 D_ (by omega) _ (ld4 D_ (by omega) _ (r5_ D_ (by omega)))))⟩
end
-- saE: 9 steps, 1 ends, 0 returns
def saE_L : List (Nat × Nat × Nat) := []
def saE_O : yO := []
def saE_A : yA := (yZ saE_L, [], [], [], [])
def saE_C : List xB := []
def saE_ss : List yS := [(13, [(1, .int 0), (0, .index 338)], [.index 338], [(338, .int 17, .int 0), (338, .int 16, .int 1)], [], [(338, .int 17), (338, .int 16)])]
def saE_rs : List yR := []
theorem saE_w : ywa saE_A saE_ss saE_rs = true := by decide +kernel
theorem saE_k : yis (yev saE_A 3000 60 205 [13] (0, [(0, .index 338)], [], saE_O, saE_C, [])) saE_ss saE_rs = true := by decide +kernel
def saE_r (k_ : Nat) : Value := .int 0
def saE_s (n_ : Nat) : Nat := 0
theorem saE {h_ : xH} (hs : sHp h_) : ∃ h', ysm h_ h' ∧ (((bpat h' 338 17 = some (.int (0 : Int32))) ∧ (bpat h' 338 16 = some (.int (1 : Int32))) ∧ (∀ a_ j_ : Nat, ¬ (a_ = 338 ∧ j_ = 17) → ¬ (a_ = 338 ∧ j_ = 16) → bpat h' a_ j_ = bpat h_ a_ j_) ∧ (bldD 60 205 0 [(0, .index 338)] [] h_ 13 [(1, .int (0 : Int32)), (0, .index 338)] [.index 338] h'))) := by
  have hA : yas saE_A saE_r (yg saE_s) := ⟨fun q_ hq => absurd hq List.not_mem_nil, fun q_ hq => absurd hq List.not_mem_nil, fun q_ hq => absurd hq List.not_mem_nil, fun n_ hn => yg_lo hn, fun q_ hq => absurd hq List.not_mem_nil⟩
  have Hs : ysh saE_A.1 (yg saE_s) h_ := ysh_of2 hs (fun q_ hq => absurd hq List.not_mem_nil)
  have Ho : ymem saE_r (yg saE_s) saE_O h_ := fun q_ hq => absurd hq List.not_mem_nil
  have HC : ∀ q_ ∈ saE_C, xhold saE_r q_ := fun q_ hq => absurd hq List.not_mem_nil
  rcases yrun (yis_ok saE_k) hA Hs Ho HC with ⟨q_, hq, h', K_, G_⟩ | ⟨q_, hq, h', K_, G_⟩
  · have e_ := List.mem_singleton.mp hq
    subst e_
    exact ⟨h', yfr_sm K_.2.2.2 hs K_.1 (ywa_s saE_w List.mem_cons_self), ⟨bpat_of (K_.2.1 _ List.mem_cons_self), bpat_of (K_.2.1 _ (List.mem_cons_of_mem _ List.mem_cons_self)), fun a_ j_ n0_ n1_ => yfr_bp K_.2.2.2 (List.forall_mem_cons.mpr ⟨fun e_ => n0_ ⟨e_.1.symm, e_.2.symm⟩, List.forall_mem_cons.mpr ⟨fun e_ => n1_ ⟨e_.1.symm, e_.2.symm⟩, fun q_ hq => absurd hq List.not_mem_nil⟩⟩), G_⟩⟩
  · cases hq
-- saA: 1 steps, 1 ends, 0 returns
def saA_L : List (Nat × Nat × Nat) := []
def saA_O : yO := []
def saA_A : yA := (yZ saA_L, [], [], [], [])
def saA_C : List xB := []
def saA_ss : List yS := [(17, [(2, .arg 8), (1, .int 0), (0, .index 338)], [], [], [], [])]
def saA_rs : List yR := []
theorem saA_w : ywa saA_A saA_ss saA_rs = true := by decide +kernel
theorem saA_k : yis (yev saA_A 3000 60 205 [17] (16, [(1, .int 0), (0, .index 338)], [.arg 8], saA_O, saA_C, [])) saA_ss saA_rs = true := by decide +kernel
def saA_r (v8 : Int32) (k_ : Nat) : Value := bif Nat.beq k_ 8 then .int v8 else (.int 0)
def saA_s (n_ : Nat) : Nat := 0
theorem saA {h_ : xH} {v8 : Int32} (hs : sHp h_) : ∃ h', ysm h_ h' ∧ (((∀ a_ j_ : Nat, bpat h' a_ j_ = bpat h_ a_ j_) ∧ (bldD 60 205 16 [(1, .int (0 : Int32)), (0, .index 338)] [.int v8] h_ 17 [(2, .int v8), (1, .int (0 : Int32)), (0, .index 338)] [] h'))) := by
  have hA : yas saA_A (saA_r v8) (yg saA_s) := ⟨fun q_ hq => absurd hq List.not_mem_nil, fun q_ hq => absurd hq List.not_mem_nil, fun q_ hq => absurd hq List.not_mem_nil, fun n_ hn => yg_lo hn, fun q_ hq => absurd hq List.not_mem_nil⟩
  have Hs : ysh saA_A.1 (yg saA_s) h_ := ysh_of2 hs (fun q_ hq => absurd hq List.not_mem_nil)
  have Ho : ymem (saA_r v8) (yg saA_s) saA_O h_ := fun q_ hq => absurd hq List.not_mem_nil
  have HC : ∀ q_ ∈ saA_C, xhold (saA_r v8) q_ := fun q_ hq => absurd hq List.not_mem_nil
  rcases yrun (yis_ok saA_k) hA Hs Ho HC with ⟨q_, hq, h', K_, G_⟩ | ⟨q_, hq, h', K_, G_⟩
  · have e_ := List.mem_singleton.mp hq
    subst e_
    exact ⟨h', yfr_sm K_.2.2.2 hs K_.1 (ywa_s saA_w List.mem_cons_self), ⟨fun a_ j_ => yfr_bp K_.2.2.2 (fun q_ hq => absurd hq List.not_mem_nil), G_⟩⟩
  · cases hq
-- saXA: 3 steps, 1 ends, 0 returns
def saXA_L : List (Nat × Nat × Nat) := []
def saXA_O : yO := [(338, .int 17, .arg 317)]
def saXA_A : yA := (yZ saXA_L, [], [], [], [])
def saXA_C : List xB := [(.eq, .arg 317, .int 0, false)]
def saXA_ss : List yS := [(131, [(2, .arg 2), (1, .arg 1), (0, .index 338)], [], [(338, .int 17, .arg 317)], [(.eq, .arg 317, .int 0, false)], [])]
def saXA_rs : List yR := []
theorem saXA_w : ywa saXA_A saXA_ss saXA_rs = true := by decide +kernel
theorem saXA_k : yis (yev saXA_A 3000 60 205 [131] (17, [(2, .arg 2), (1, .arg 1), (0, .index 338)], [], saXA_O, saXA_C, [])) saXA_ss saXA_rs = true := by decide +kernel
def saXA_r (v1_ v2 v317 : Int32) (k_ : Nat) : Value := bif Nat.beq k_ 1 then .int v1_ else (bif Nat.beq k_ 2 then .int v2 else (bif Nat.beq k_ 317 then .int v317 else (.int 0)))
def saXA_s (n_ : Nat) : Nat := 0
theorem saXA {h_ : xH} {v1_ v2 v317 : Int32} (hs : sHp h_) (o0_ : bpat h_ 338 17 = some (.int v317)) (c0_ : ¬ v317 = (0 : Int32)) : ∃ h', ysm h_ h' ∧ (((∀ a_ j_ : Nat, bpat h' a_ j_ = bpat h_ a_ j_) ∧ (bldD 60 205 17 [(2, .int v2), (1, .int v1_), (0, .index 338)] [] h_ 131 [(2, .int v2), (1, .int v1_), (0, .index 338)] [] h'))) := by
  have hA : yas saXA_A (saXA_r v1_ v2 v317) (yg saXA_s) := ⟨fun q_ hq => absurd hq List.not_mem_nil, fun q_ hq => absurd hq List.not_mem_nil, fun q_ hq => absurd hq List.not_mem_nil, fun n_ hn => yg_lo hn, fun q_ hq => absurd hq List.not_mem_nil⟩
  have Hs : ysh saXA_A.1 (yg saXA_s) h_ := ysh_of2 hs (fun q_ hq => absurd hq List.not_mem_nil)
  have Ho : ymem (saXA_r v1_ v2 v317) (yg saXA_s) saXA_O h_ := List.forall_mem_cons.mpr ⟨bpat_some o0_, fun q_ hq => absurd hq List.not_mem_nil⟩
  have HC : ∀ q_ ∈ saXA_C, xhold (saXA_r v1_ v2 v317) q_ := List.forall_mem_cons.mpr ⟨xh_eqF2 c0_, fun q_ hq => absurd hq List.not_mem_nil⟩
  rcases yrun (yis_ok saXA_k) hA Hs Ho HC with ⟨q_, hq, h', K_, G_⟩ | ⟨q_, hq, h', K_, G_⟩
  · have e_ := List.mem_singleton.mp hq
    subst e_
    exact ⟨h', yfr_sm K_.2.2.2 hs K_.1 (ywa_s saXA_w List.mem_cons_self), ⟨fun a_ j_ => yfr_bp K_.2.2.2 (fun q_ hq => absurd hq List.not_mem_nil), G_⟩⟩
  · cases hq
-- saYA: 10 steps, 1 ends, 0 returns
def saYA_L : List (Nat × Nat × Nat) := []
def saYA_O : yO := [(338, .int 17, .arg 317), (338, .int 16, .arg 316), (338, .int 4, .index 342), (342, .int 0, .arg 300)]
def saYA_A : yA := (yZ saYA_L, [], [], [], [])
def saYA_C : List xB := [(.le, .arg 316, .arg 300, false), (.eq, .arg 317, .int 0, true)]
def saYA_ss : List yS := [(131, [(2, .arg 2), (1, .arg 1), (0, .index 338)], [], [(338, .int 17, .arg 317), (338, .int 16, .arg 316), (338, .int 4, .index 342), (342, .int 0, .arg 300)], [(.le, .arg 316, .arg 300, false), (.eq, .arg 317, .int 0, true)], [])]
def saYA_rs : List yR := []
theorem saYA_w : ywa saYA_A saYA_ss saYA_rs = true := by decide +kernel
theorem saYA_k : yis (yev saYA_A 3000 60 205 [131] (17, [(2, .arg 2), (1, .arg 1), (0, .index 338)], [], saYA_O, saYA_C, [])) saYA_ss saYA_rs = true := by decide +kernel
def saYA_r (v1_ v2 v300 v316 v317 : Int32) (k_ : Nat) : Value := bif Nat.beq k_ 1 then .int v1_ else (bif Nat.beq k_ 2 then .int v2 else (bif Nat.beq k_ 300 then .int v300 else (bif Nat.beq k_ 316 then .int v316 else (bif Nat.beq k_ 317 then .int v317 else (.int 0)))))
def saYA_s (n_ : Nat) : Nat := 0
theorem saYA {h_ : xH} {v1_ v2 v300 v316 v317 : Int32} (hs : sHp h_) (o0_ : bpat h_ 338 17 = some (.int v317)) (o1 : bpat h_ 338 16 = some (.int v316)) (o2 : bpat h_ 342 0 = some (.int v300)) (c0_ : v300.toInt < v316.toInt) (c1_ : v317 = (0 : Int32)) : ∃ h', ysm h_ h' ∧ (((∀ a_ j_ : Nat, bpat h' a_ j_ = bpat h_ a_ j_) ∧ (bldD 60 205 17 [(2, .int v2), (1, .int v1_), (0, .index 338)] [] h_ 131 [(2, .int v2), (1, .int v1_), (0, .index 338)] [] h'))) := by
  have hA : yas saYA_A (saYA_r v1_ v2 v300 v316 v317) (yg saYA_s) := ⟨fun q_ hq => absurd hq List.not_mem_nil, fun q_ hq => absurd hq List.not_mem_nil, fun q_ hq => absurd hq List.not_mem_nil, fun n_ hn => yg_lo hn, fun q_ hq => absurd hq List.not_mem_nil⟩
  have Hs : ysh saYA_A.1 (yg saYA_s) h_ := ysh_of2 hs (fun q_ hq => absurd hq List.not_mem_nil)
  have Ho : ymem (saYA_r v1_ v2 v300 v316 v317) (yg saYA_s) saYA_O h_ := List.forall_mem_cons.mpr ⟨bpat_some o0_, List.forall_mem_cons.mpr ⟨bpat_some o1, List.forall_mem_cons.mpr ⟨bpat_some (fxr_at hs.2 (show fxk fxl 338 4 = some 342 by decide +kernel)), List.forall_mem_cons.mpr ⟨bpat_some o2, fun q_ hq => absurd hq List.not_mem_nil⟩⟩⟩⟩
  have HC : ∀ q_ ∈ saYA_C, xhold (saYA_r v1_ v2 v300 v316 v317) q_ := List.forall_mem_cons.mpr ⟨xh_leF c0_, List.forall_mem_cons.mpr ⟨xh_eqT2 c1_, fun q_ hq => absurd hq List.not_mem_nil⟩⟩
  rcases yrun (yis_ok saYA_k) hA Hs Ho HC with ⟨q_, hq, h', K_, G_⟩ | ⟨q_, hq, h', K_, G_⟩
  · have e_ := List.mem_singleton.mp hq
    subst e_
    exact ⟨h', yfr_sm K_.2.2.2 hs K_.1 (ywa_s saYA_w List.mem_cons_self), ⟨fun a_ j_ => yfr_bp K_.2.2.2 (fun q_ hq => absurd hq List.not_mem_nil), G_⟩⟩
  · cases hq
-- saNA: 41 steps, 1 ends, 0 returns
def saNA_L : List (Nat × Nat × Nat) := []
def saNA_O : yO := [(338, .int 17, .arg 317), (338, .int 16, .arg 316), (338, .int 4, .index 342), (342, .int 0, .arg 300), (342, .arg 316, .arg 301)]
def saNA_A : yA := (yZ saNA_L, [(.arg 316, 13)], [], [], [])
def saNA_C : List xB := [(.eq, .arg 301, .int 51, false), (.eq, .arg 301, .int 50, false), (.le, .arg 316, .arg 300, true), (.eq, .arg 317, .int 0, true)]
def saNA_ss : List yS := [(131, [(3, .arg 301), (2, .arg 2), (1, .arg 1), (0, .index 338)], [], [(338, .int 17, .int 1), (338, .int 16, .arg 316), (338, .int 4, .index 342), (342, .int 0, .arg 300), (342, .arg 316, .arg 301)], [(.eq, .arg 301, .int 51, false), (.eq, .arg 301, .int 50, false), (.le, .arg 316, .arg 300, true), (.eq, .arg 317, .int 0, true)], [(338, .int 17)])]
def saNA_rs : List yR := []
theorem saNA_w : ywa saNA_A saNA_ss saNA_rs = true := by decide +kernel
theorem saNA_k : yis (yev saNA_A 3000 60 205 [131] (17, [(2, .arg 2), (1, .arg 1), (0, .index 338)], [], saNA_O, saNA_C, [])) saNA_ss saNA_rs = true := by decide +kernel
def saNA_r (v1_ v2 v300 v301 v316 v317 : Int32) (k_ : Nat) : Value := bif Nat.beq k_ 1 then .int v1_ else (bif Nat.beq k_ 2 then .int v2 else (bif Nat.beq k_ 300 then .int v300 else (bif Nat.beq k_ 301 then .int v301 else (bif Nat.beq k_ 316 then .int v316 else (bif Nat.beq k_ 317 then .int v317 else (.int 0))))))
def saNA_s (n_ : Nat) : Nat := 0
theorem saNA {h_ : xH} {v1_ v2 v300 v301 v316 v317 : Int32} (hs : sHp h_) (o0_ : bpat h_ 338 17 = some (.int v317)) (o1 : bpat h_ 338 16 = some (.int v316)) (o2 : bpat h_ 342 0 = some (.int v300)) (o3_ : bpat h_ 342 (v316).toInt.toNat = some (.int v301)) (b0 : 0 ≤ (v316).toInt ∧ (v316).toInt < 13) (c0_ : ¬ v301 = (51 : Int32)) (c1_ : ¬ v301 = (50 : Int32)) (c2_ : v316.toInt ≤ v300.toInt) (c3_ : v317 = (0 : Int32)) : ∃ h', ysm h_ h' ∧ (((bpat h' 338 17 = some (.int (1 : Int32))) ∧ (∀ a_ j_ : Nat, ¬ (a_ = 338 ∧ j_ = 17) → bpat h' a_ j_ = bpat h_ a_ j_) ∧ (bldD 60 205 17 [(2, .int v2), (1, .int v1_), (0, .index 338)] [] h_ 131 [(3, .int v301), (2, .int v2), (1, .int v1_), (0, .index 338)] [] h'))) := by
  have hA : yas saNA_A (saNA_r v1_ v2 v300 v301 v316 v317) (yg saNA_s) := ⟨List.forall_mem_cons.mpr ⟨b0, fun q_ hq => absurd hq List.not_mem_nil⟩, fun q_ hq => absurd hq List.not_mem_nil, fun q_ hq => absurd hq List.not_mem_nil, fun n_ hn => yg_lo hn, fun q_ hq => absurd hq List.not_mem_nil⟩
  have Hs : ysh saNA_A.1 (yg saNA_s) h_ := ysh_of2 hs (fun q_ hq => absurd hq List.not_mem_nil)
  have Ho : ymem (saNA_r v1_ v2 v300 v301 v316 v317) (yg saNA_s) saNA_O h_ := List.forall_mem_cons.mpr ⟨bpat_some o0_, List.forall_mem_cons.mpr ⟨bpat_some o1, List.forall_mem_cons.mpr ⟨bpat_some (fxr_at hs.2 (show fxk fxl 338 4 = some 342 by decide +kernel)), List.forall_mem_cons.mpr ⟨bpat_some o2, List.forall_mem_cons.mpr ⟨bpat_some o3_, fun q_ hq => absurd hq List.not_mem_nil⟩⟩⟩⟩⟩
  have HC : ∀ q_ ∈ saNA_C, xhold (saNA_r v1_ v2 v300 v301 v316 v317) q_ := List.forall_mem_cons.mpr ⟨xh_eqF2 c0_, List.forall_mem_cons.mpr ⟨xh_eqF2 c1_, List.forall_mem_cons.mpr ⟨xh_leT c2_, List.forall_mem_cons.mpr ⟨xh_eqT2 c3_, fun q_ hq => absurd hq List.not_mem_nil⟩⟩⟩⟩
  rcases yrun (yis_ok saNA_k) hA Hs Ho HC with ⟨q_, hq, h', K_, G_⟩ | ⟨q_, hq, h', K_, G_⟩
  · have e_ := List.mem_singleton.mp hq
    subst e_
    exact ⟨h', yfr_sm K_.2.2.2 hs K_.1 (ywa_s saNA_w List.mem_cons_self), ⟨bpat_of (K_.2.1 _ List.mem_cons_self), fun a_ j_ n0_ => yfr_bp K_.2.2.2 (List.forall_mem_cons.mpr ⟨fun e_ => n0_ ⟨e_.1.symm, e_.2.symm⟩, fun q_ hq => absurd hq List.not_mem_nil⟩), G_⟩⟩
  · cases hq
-- saJ50A: 37 steps, 1 ends, 0 returns
def saJ50A_L : List (Nat × Nat × Nat) := []
def saJ50A_O : yO := [(338, .int 17, .arg 317), (338, .int 16, .arg 316), (338, .int 4, .index 342), (342, .int 0, .arg 300), (342, .arg 316, .int 50)]
def saJ50A_A : yA := (yZ saJ50A_L, [(.arg 316, 13)], [], [], [])
def saJ50A_C : List xB := [(.le, .arg 316, .arg 300, true), (.eq, .arg 317, .int 0, true)]
def saJ50A_ss : List yS := [(77, [(3, .int 50), (2, .arg 2), (1, .arg 1), (0, .index 338)], [.index 338], [(338, .int 16, .add (.arg 316) (.int 1)), (338, .int 17, .arg 317), (338, .int 4, .index 342), (342, .int 0, .arg 300), (342, .arg 316, .int 50)], [(.le, .arg 316, .arg 300, true), (.eq, .arg 317, .int 0, true)], [(338, .int 16)])]
def saJ50A_rs : List yR := []
theorem saJ50A_w : ywa saJ50A_A saJ50A_ss saJ50A_rs = true := by decide +kernel
theorem saJ50A_k : yis (yev saJ50A_A 3000 60 205 [77] (17, [(2, .arg 2), (1, .arg 1), (0, .index 338)], [], saJ50A_O, saJ50A_C, [])) saJ50A_ss saJ50A_rs = true := by decide +kernel
def saJ50A_r (v1_ v2 v300 v316 v317 : Int32) (k_ : Nat) : Value := bif Nat.beq k_ 1 then .int v1_ else (bif Nat.beq k_ 2 then .int v2 else (bif Nat.beq k_ 300 then .int v300 else (bif Nat.beq k_ 316 then .int v316 else (bif Nat.beq k_ 317 then .int v317 else (.int 0)))))
def saJ50A_s (n_ : Nat) : Nat := 0
theorem saJ50A {h_ : xH} {v1_ v2 v300 v316 v317 : Int32} (hs : sHp h_) (o0_ : bpat h_ 338 17 = some (.int v317)) (o1 : bpat h_ 338 16 = some (.int v316)) (o2 : bpat h_ 342 0 = some (.int v300)) (o3_ : bpat h_ 342 (v316).toInt.toNat = some (.int (50 : Int32))) (b0 : 0 ≤ (v316).toInt ∧ (v316).toInt < 13) (c0_ : v316.toInt ≤ v300.toInt) (c1_ : v317 = (0 : Int32)) : ∃ h', ysm h_ h' ∧ (((bpat h' 338 16 = some (.int (v316 + (1 : Int32)))) ∧ (∀ a_ j_ : Nat, ¬ (a_ = 338 ∧ j_ = 16) → bpat h' a_ j_ = bpat h_ a_ j_) ∧ (bldD 60 205 17 [(2, .int v2), (1, .int v1_), (0, .index 338)] [] h_ 77 [(3, .int (50 : Int32)), (2, .int v2), (1, .int v1_), (0, .index 338)] [.index 338] h'))) := by
  have hA : yas saJ50A_A (saJ50A_r v1_ v2 v300 v316 v317) (yg saJ50A_s) := ⟨List.forall_mem_cons.mpr ⟨b0, fun q_ hq => absurd hq List.not_mem_nil⟩, fun q_ hq => absurd hq List.not_mem_nil, fun q_ hq => absurd hq List.not_mem_nil, fun n_ hn => yg_lo hn, fun q_ hq => absurd hq List.not_mem_nil⟩
  have Hs : ysh saJ50A_A.1 (yg saJ50A_s) h_ := ysh_of2 hs (fun q_ hq => absurd hq List.not_mem_nil)
  have Ho : ymem (saJ50A_r v1_ v2 v300 v316 v317) (yg saJ50A_s) saJ50A_O h_ := List.forall_mem_cons.mpr ⟨bpat_some o0_, List.forall_mem_cons.mpr ⟨bpat_some o1, List.forall_mem_cons.mpr ⟨bpat_some (fxr_at hs.2 (show fxk fxl 338 4 = some 342 by decide +kernel)), List.forall_mem_cons.mpr ⟨bpat_some o2, List.forall_mem_cons.mpr ⟨bpat_some o3_, fun q_ hq => absurd hq List.not_mem_nil⟩⟩⟩⟩⟩
  have HC : ∀ q_ ∈ saJ50A_C, xhold (saJ50A_r v1_ v2 v300 v316 v317) q_ := List.forall_mem_cons.mpr ⟨xh_leT c0_, List.forall_mem_cons.mpr ⟨xh_eqT2 c1_, fun q_ hq => absurd hq List.not_mem_nil⟩⟩
  rcases yrun (yis_ok saJ50A_k) hA Hs Ho HC with ⟨q_, hq, h', K_, G_⟩ | ⟨q_, hq, h', K_, G_⟩
  · have e_ := List.mem_singleton.mp hq
    subst e_
    exact ⟨h', yfr_sm K_.2.2.2 hs K_.1 (ywa_s saJ50A_w List.mem_cons_self), ⟨bpat_of (K_.2.1 _ List.mem_cons_self), fun a_ j_ n0_ => yfr_bp K_.2.2.2 (List.forall_mem_cons.mpr ⟨fun e_ => n0_ ⟨e_.1.symm, e_.2.symm⟩, fun q_ hq => absurd hq List.not_mem_nil⟩), G_⟩⟩
  · cases hq
-- saK50000A: 16 steps, 1 ends, 0 returns
def saK50000A_L : List (Nat × Nat × Nat) := []
def saK50000A_O : yO := []
def saK50000A_A : yA := (yZ saK50000A_L, [], [], [], [])
def saK50000A_C : List xB := []
def saK50000A_ss : List yS := [(17, [(2, .int 0), (1, .int 0), (4, .int 0), (3, .int 50), (0, .index 338)], [], [], [], [])]
def saK50000A_rs : List yR := []
theorem saK50000A_w : ywa saK50000A_A saK50000A_ss saK50000A_rs = true := by decide +kernel
theorem saK50000A_k : yis (yev saK50000A_A 3000 60 205 [17] (80, [(3, .int 50), (2, .int 0), (1, .int 0), (0, .index 338)], [.int 0], saK50000A_O, saK50000A_C, [])) saK50000A_ss saK50000A_rs = true := by decide +kernel
def saK50000A_r (k_ : Nat) : Value := .int 0
def saK50000A_s (n_ : Nat) : Nat := 0
theorem saK50000A {h_ : xH} (hs : sHp h_) : ∃ h', ysm h_ h' ∧ (((∀ a_ j_ : Nat, bpat h' a_ j_ = bpat h_ a_ j_) ∧ (bldD 60 205 80 [(3, .int (50 : Int32)), (2, .int (0 : Int32)), (1, .int (0 : Int32)), (0, .index 338)] [.int (0 : Int32)] h_ 17 [(2, .int (0 : Int32)), (1, .int (0 : Int32)), (4, .int (0 : Int32)), (3, .int (50 : Int32)), (0, .index 338)] [] h'))) := by
  have hA : yas saK50000A_A saK50000A_r (yg saK50000A_s) := ⟨fun q_ hq => absurd hq List.not_mem_nil, fun q_ hq => absurd hq List.not_mem_nil, fun q_ hq => absurd hq List.not_mem_nil, fun n_ hn => yg_lo hn, fun q_ hq => absurd hq List.not_mem_nil⟩
  have Hs : ysh saK50000A_A.1 (yg saK50000A_s) h_ := ysh_of2 hs (fun q_ hq => absurd hq List.not_mem_nil)
  have Ho : ymem saK50000A_r (yg saK50000A_s) saK50000A_O h_ := fun q_ hq => absurd hq List.not_mem_nil
  have HC : ∀ q_ ∈ saK50000A_C, xhold saK50000A_r q_ := fun q_ hq => absurd hq List.not_mem_nil
  rcases yrun (yis_ok saK50000A_k) hA Hs Ho HC with ⟨q_, hq, h', K_, G_⟩ | ⟨q_, hq, h', K_, G_⟩
  · have e_ := List.mem_singleton.mp hq
    subst e_
    exact ⟨h', yfr_sm K_.2.2.2 hs K_.1 (ywa_s saK50000A_w List.mem_cons_self), ⟨fun a_ j_ => yfr_bp K_.2.2.2 (fun q_ hq => absurd hq List.not_mem_nil), G_⟩⟩
  · cases hq
-- saK50001A: 16 steps, 1 ends, 0 returns
def saK50001A_L : List (Nat × Nat × Nat) := []
def saK50001A_O : yO := []
def saK50001A_A : yA := (yZ saK50001A_L, [], [], [], [])
def saK50001A_C : List xB := []
def saK50001A_ss : List yS := [(17, [(2, .int 0), (1, .int 0), (4, .int 1), (3, .int 50), (0, .index 338)], [], [], [], [])]
def saK50001A_rs : List yR := []
theorem saK50001A_w : ywa saK50001A_A saK50001A_ss saK50001A_rs = true := by decide +kernel
theorem saK50001A_k : yis (yev saK50001A_A 3000 60 205 [17] (80, [(3, .int 50), (2, .int 0), (1, .int 0), (0, .index 338)], [.int 1], saK50001A_O, saK50001A_C, [])) saK50001A_ss saK50001A_rs = true := by decide +kernel
def saK50001A_r (k_ : Nat) : Value := .int 0
def saK50001A_s (n_ : Nat) : Nat := 0
theorem saK50001A {h_ : xH} (hs : sHp h_) : ∃ h', ysm h_ h' ∧ (((∀ a_ j_ : Nat, bpat h' a_ j_ = bpat h_ a_ j_) ∧ (bldD 60 205 80 [(3, .int (50 : Int32)), (2, .int (0 : Int32)), (1, .int (0 : Int32)), (0, .index 338)] [.int (1 : Int32)] h_ 17 [(2, .int (0 : Int32)), (1, .int (0 : Int32)), (4, .int (1 : Int32)), (3, .int (50 : Int32)), (0, .index 338)] [] h'))) := by
  have hA : yas saK50001A_A saK50001A_r (yg saK50001A_s) := ⟨fun q_ hq => absurd hq List.not_mem_nil, fun q_ hq => absurd hq List.not_mem_nil, fun q_ hq => absurd hq List.not_mem_nil, fun n_ hn => yg_lo hn, fun q_ hq => absurd hq List.not_mem_nil⟩
  have Hs : ysh saK50001A_A.1 (yg saK50001A_s) h_ := ysh_of2 hs (fun q_ hq => absurd hq List.not_mem_nil)
  have Ho : ymem saK50001A_r (yg saK50001A_s) saK50001A_O h_ := fun q_ hq => absurd hq List.not_mem_nil
  have HC : ∀ q_ ∈ saK50001A_C, xhold saK50001A_r q_ := fun q_ hq => absurd hq List.not_mem_nil
  rcases yrun (yis_ok saK50001A_k) hA Hs Ho HC with ⟨q_, hq, h', K_, G_⟩ | ⟨q_, hq, h', K_, G_⟩
  · have e_ := List.mem_singleton.mp hq
    subst e_
    exact ⟨h', yfr_sm K_.2.2.2 hs K_.1 (ywa_s saK50001A_w List.mem_cons_self), ⟨fun a_ j_ => yfr_bp K_.2.2.2 (fun q_ hq => absurd hq List.not_mem_nil), G_⟩⟩
  · cases hq
-- saK50010A: 18 steps, 1 ends, 0 returns
def saK50010A_L : List (Nat × Nat × Nat) := []
def saK50010A_O : yO := []
def saK50010A_A : yA := (yZ saK50010A_L, [], [], [], [])
def saK50010A_C : List xB := []
def saK50010A_ss : List yS := [(17, [(2, .int 0), (1, .int 0), (4, .int 0), (3, .int 50), (0, .index 338)], [], [], [], [])]
def saK50010A_rs : List yR := []
theorem saK50010A_w : ywa saK50010A_A saK50010A_ss saK50010A_rs = true := by decide +kernel
theorem saK50010A_k : yis (yev saK50010A_A 3000 60 205 [17] (80, [(3, .int 50), (2, .int 1), (1, .int 0), (0, .index 338)], [.int 0], saK50010A_O, saK50010A_C, [])) saK50010A_ss saK50010A_rs = true := by decide +kernel
def saK50010A_r (k_ : Nat) : Value := .int 0
def saK50010A_s (n_ : Nat) : Nat := 0
theorem saK50010A {h_ : xH} (hs : sHp h_) : ∃ h', ysm h_ h' ∧ (((∀ a_ j_ : Nat, bpat h' a_ j_ = bpat h_ a_ j_) ∧ (bldD 60 205 80 [(3, .int (50 : Int32)), (2, .int (1 : Int32)), (1, .int (0 : Int32)), (0, .index 338)] [.int (0 : Int32)] h_ 17 [(2, .int (0 : Int32)), (1, .int (0 : Int32)), (4, .int (0 : Int32)), (3, .int (50 : Int32)), (0, .index 338)] [] h'))) := by
  have hA : yas saK50010A_A saK50010A_r (yg saK50010A_s) := ⟨fun q_ hq => absurd hq List.not_mem_nil, fun q_ hq => absurd hq List.not_mem_nil, fun q_ hq => absurd hq List.not_mem_nil, fun n_ hn => yg_lo hn, fun q_ hq => absurd hq List.not_mem_nil⟩
  have Hs : ysh saK50010A_A.1 (yg saK50010A_s) h_ := ysh_of2 hs (fun q_ hq => absurd hq List.not_mem_nil)
  have Ho : ymem saK50010A_r (yg saK50010A_s) saK50010A_O h_ := fun q_ hq => absurd hq List.not_mem_nil
  have HC : ∀ q_ ∈ saK50010A_C, xhold saK50010A_r q_ := fun q_ hq => absurd hq List.not_mem_nil
  rcases yrun (yis_ok saK50010A_k) hA Hs Ho HC with ⟨q_, hq, h', K_, G_⟩ | ⟨q_, hq, h', K_, G_⟩
  · have e_ := List.mem_singleton.mp hq
    subst e_
    exact ⟨h', yfr_sm K_.2.2.2 hs K_.1 (ywa_s saK50010A_w List.mem_cons_self), ⟨fun a_ j_ => yfr_bp K_.2.2.2 (fun q_ hq => absurd hq List.not_mem_nil), G_⟩⟩
  · cases hq
-- saK50011A: 19 steps, 1 ends, 0 returns
def saK50011A_L : List (Nat × Nat × Nat) := []
def saK50011A_O : yO := []
def saK50011A_A : yA := (yZ saK50011A_L, [], [], [], [])
def saK50011A_C : List xB := []
def saK50011A_ss : List yS := [(17, [(2, .int 1), (1, .int 0), (4, .int 1), (3, .int 50), (0, .index 338)], [], [], [], [])]
def saK50011A_rs : List yR := []
theorem saK50011A_w : ywa saK50011A_A saK50011A_ss saK50011A_rs = true := by decide +kernel
theorem saK50011A_k : yis (yev saK50011A_A 3000 60 205 [17] (80, [(3, .int 50), (2, .int 1), (1, .int 0), (0, .index 338)], [.int 1], saK50011A_O, saK50011A_C, [])) saK50011A_ss saK50011A_rs = true := by decide +kernel
def saK50011A_r (k_ : Nat) : Value := .int 0
def saK50011A_s (n_ : Nat) : Nat := 0
theorem saK50011A {h_ : xH} (hs : sHp h_) : ∃ h', ysm h_ h' ∧ (((∀ a_ j_ : Nat, bpat h' a_ j_ = bpat h_ a_ j_) ∧ (bldD 60 205 80 [(3, .int (50 : Int32)), (2, .int (1 : Int32)), (1, .int (0 : Int32)), (0, .index 338)] [.int (1 : Int32)] h_ 17 [(2, .int (1 : Int32)), (1, .int (0 : Int32)), (4, .int (1 : Int32)), (3, .int (50 : Int32)), (0, .index 338)] [] h'))) := by
  have hA : yas saK50011A_A saK50011A_r (yg saK50011A_s) := ⟨fun q_ hq => absurd hq List.not_mem_nil, fun q_ hq => absurd hq List.not_mem_nil, fun q_ hq => absurd hq List.not_mem_nil, fun n_ hn => yg_lo hn, fun q_ hq => absurd hq List.not_mem_nil⟩
  have Hs : ysh saK50011A_A.1 (yg saK50011A_s) h_ := ysh_of2 hs (fun q_ hq => absurd hq List.not_mem_nil)
  have Ho : ymem saK50011A_r (yg saK50011A_s) saK50011A_O h_ := fun q_ hq => absurd hq List.not_mem_nil
  have HC : ∀ q_ ∈ saK50011A_C, xhold saK50011A_r q_ := fun q_ hq => absurd hq List.not_mem_nil
  rcases yrun (yis_ok saK50011A_k) hA Hs Ho HC with ⟨q_, hq, h', K_, G_⟩ | ⟨q_, hq, h', K_, G_⟩
  · have e_ := List.mem_singleton.mp hq
    subst e_
    exact ⟨h', yfr_sm K_.2.2.2 hs K_.1 (ywa_s saK50011A_w List.mem_cons_self), ⟨fun a_ j_ => yfr_bp K_.2.2.2 (fun q_ hq => absurd hq List.not_mem_nil), G_⟩⟩
  · cases hq
-- saK50100A: 14 steps, 1 ends, 0 returns
def saK50100A_L : List (Nat × Nat × Nat) := []
def saK50100A_O : yO := []
def saK50100A_A : yA := (yZ saK50100A_L, [], [], [], [])
def saK50100A_C : List xB := []
def saK50100A_ss : List yS := [(17, [(2, .int 0), (1, .int 1), (4, .int 0), (3, .int 50), (0, .index 338)], [], [], [], [])]
def saK50100A_rs : List yR := []
theorem saK50100A_w : ywa saK50100A_A saK50100A_ss saK50100A_rs = true := by decide +kernel
theorem saK50100A_k : yis (yev saK50100A_A 3000 60 205 [17] (80, [(3, .int 50), (2, .int 0), (1, .int 1), (0, .index 338)], [.int 0], saK50100A_O, saK50100A_C, [])) saK50100A_ss saK50100A_rs = true := by decide +kernel
def saK50100A_r (k_ : Nat) : Value := .int 0
def saK50100A_s (n_ : Nat) : Nat := 0
theorem saK50100A {h_ : xH} (hs : sHp h_) : ∃ h', ysm h_ h' ∧ (((∀ a_ j_ : Nat, bpat h' a_ j_ = bpat h_ a_ j_) ∧ (bldD 60 205 80 [(3, .int (50 : Int32)), (2, .int (0 : Int32)), (1, .int (1 : Int32)), (0, .index 338)] [.int (0 : Int32)] h_ 17 [(2, .int (0 : Int32)), (1, .int (1 : Int32)), (4, .int (0 : Int32)), (3, .int (50 : Int32)), (0, .index 338)] [] h'))) := by
  have hA : yas saK50100A_A saK50100A_r (yg saK50100A_s) := ⟨fun q_ hq => absurd hq List.not_mem_nil, fun q_ hq => absurd hq List.not_mem_nil, fun q_ hq => absurd hq List.not_mem_nil, fun n_ hn => yg_lo hn, fun q_ hq => absurd hq List.not_mem_nil⟩
  have Hs : ysh saK50100A_A.1 (yg saK50100A_s) h_ := ysh_of2 hs (fun q_ hq => absurd hq List.not_mem_nil)
  have Ho : ymem saK50100A_r (yg saK50100A_s) saK50100A_O h_ := fun q_ hq => absurd hq List.not_mem_nil
  have HC : ∀ q_ ∈ saK50100A_C, xhold saK50100A_r q_ := fun q_ hq => absurd hq List.not_mem_nil
  rcases yrun (yis_ok saK50100A_k) hA Hs Ho HC with ⟨q_, hq, h', K_, G_⟩ | ⟨q_, hq, h', K_, G_⟩
  · have e_ := List.mem_singleton.mp hq
    subst e_
    exact ⟨h', yfr_sm K_.2.2.2 hs K_.1 (ywa_s saK50100A_w List.mem_cons_self), ⟨fun a_ j_ => yfr_bp K_.2.2.2 (fun q_ hq => absurd hq List.not_mem_nil), G_⟩⟩
  · cases hq
-- saK50101A: 14 steps, 1 ends, 0 returns
def saK50101A_L : List (Nat × Nat × Nat) := []
def saK50101A_O : yO := []
def saK50101A_A : yA := (yZ saK50101A_L, [], [], [], [])
def saK50101A_C : List xB := []
def saK50101A_ss : List yS := [(17, [(2, .int 0), (1, .int 1), (4, .int 1), (3, .int 50), (0, .index 338)], [], [], [], [])]
def saK50101A_rs : List yR := []
theorem saK50101A_w : ywa saK50101A_A saK50101A_ss saK50101A_rs = true := by decide +kernel
theorem saK50101A_k : yis (yev saK50101A_A 3000 60 205 [17] (80, [(3, .int 50), (2, .int 0), (1, .int 1), (0, .index 338)], [.int 1], saK50101A_O, saK50101A_C, [])) saK50101A_ss saK50101A_rs = true := by decide +kernel
def saK50101A_r (k_ : Nat) : Value := .int 0
def saK50101A_s (n_ : Nat) : Nat := 0
theorem saK50101A {h_ : xH} (hs : sHp h_) : ∃ h', ysm h_ h' ∧ (((∀ a_ j_ : Nat, bpat h' a_ j_ = bpat h_ a_ j_) ∧ (bldD 60 205 80 [(3, .int (50 : Int32)), (2, .int (0 : Int32)), (1, .int (1 : Int32)), (0, .index 338)] [.int (1 : Int32)] h_ 17 [(2, .int (0 : Int32)), (1, .int (1 : Int32)), (4, .int (1 : Int32)), (3, .int (50 : Int32)), (0, .index 338)] [] h'))) := by
  have hA : yas saK50101A_A saK50101A_r (yg saK50101A_s) := ⟨fun q_ hq => absurd hq List.not_mem_nil, fun q_ hq => absurd hq List.not_mem_nil, fun q_ hq => absurd hq List.not_mem_nil, fun n_ hn => yg_lo hn, fun q_ hq => absurd hq List.not_mem_nil⟩
  have Hs : ysh saK50101A_A.1 (yg saK50101A_s) h_ := ysh_of2 hs (fun q_ hq => absurd hq List.not_mem_nil)
  have Ho : ymem saK50101A_r (yg saK50101A_s) saK50101A_O h_ := fun q_ hq => absurd hq List.not_mem_nil
  have HC : ∀ q_ ∈ saK50101A_C, xhold saK50101A_r q_ := fun q_ hq => absurd hq List.not_mem_nil
  rcases yrun (yis_ok saK50101A_k) hA Hs Ho HC with ⟨q_, hq, h', K_, G_⟩ | ⟨q_, hq, h', K_, G_⟩
  · have e_ := List.mem_singleton.mp hq
    subst e_
    exact ⟨h', yfr_sm K_.2.2.2 hs K_.1 (ywa_s saK50101A_w List.mem_cons_self), ⟨fun a_ j_ => yfr_bp K_.2.2.2 (fun q_ hq => absurd hq List.not_mem_nil), G_⟩⟩
  · cases hq
-- saK50110A: 16 steps, 1 ends, 0 returns
def saK50110A_L : List (Nat × Nat × Nat) := []
def saK50110A_O : yO := []
def saK50110A_A : yA := (yZ saK50110A_L, [], [], [], [])
def saK50110A_C : List xB := []
def saK50110A_ss : List yS := [(17, [(2, .int 0), (1, .int 1), (4, .int 0), (3, .int 50), (0, .index 338)], [], [], [], [])]
def saK50110A_rs : List yR := []
theorem saK50110A_w : ywa saK50110A_A saK50110A_ss saK50110A_rs = true := by decide +kernel
theorem saK50110A_k : yis (yev saK50110A_A 3000 60 205 [17] (80, [(3, .int 50), (2, .int 1), (1, .int 1), (0, .index 338)], [.int 0], saK50110A_O, saK50110A_C, [])) saK50110A_ss saK50110A_rs = true := by decide +kernel
def saK50110A_r (k_ : Nat) : Value := .int 0
def saK50110A_s (n_ : Nat) : Nat := 0
theorem saK50110A {h_ : xH} (hs : sHp h_) : ∃ h', ysm h_ h' ∧ (((∀ a_ j_ : Nat, bpat h' a_ j_ = bpat h_ a_ j_) ∧ (bldD 60 205 80 [(3, .int (50 : Int32)), (2, .int (1 : Int32)), (1, .int (1 : Int32)), (0, .index 338)] [.int (0 : Int32)] h_ 17 [(2, .int (0 : Int32)), (1, .int (1 : Int32)), (4, .int (0 : Int32)), (3, .int (50 : Int32)), (0, .index 338)] [] h'))) := by
  have hA : yas saK50110A_A saK50110A_r (yg saK50110A_s) := ⟨fun q_ hq => absurd hq List.not_mem_nil, fun q_ hq => absurd hq List.not_mem_nil, fun q_ hq => absurd hq List.not_mem_nil, fun n_ hn => yg_lo hn, fun q_ hq => absurd hq List.not_mem_nil⟩
  have Hs : ysh saK50110A_A.1 (yg saK50110A_s) h_ := ysh_of2 hs (fun q_ hq => absurd hq List.not_mem_nil)
  have Ho : ymem saK50110A_r (yg saK50110A_s) saK50110A_O h_ := fun q_ hq => absurd hq List.not_mem_nil
  have HC : ∀ q_ ∈ saK50110A_C, xhold saK50110A_r q_ := fun q_ hq => absurd hq List.not_mem_nil
  rcases yrun (yis_ok saK50110A_k) hA Hs Ho HC with ⟨q_, hq, h', K_, G_⟩ | ⟨q_, hq, h', K_, G_⟩
  · have e_ := List.mem_singleton.mp hq
    subst e_
    exact ⟨h', yfr_sm K_.2.2.2 hs K_.1 (ywa_s saK50110A_w List.mem_cons_self), ⟨fun a_ j_ => yfr_bp K_.2.2.2 (fun q_ hq => absurd hq List.not_mem_nil), G_⟩⟩
  · cases hq
-- saK50111A: 17 steps, 1 ends, 0 returns
def saK50111A_L : List (Nat × Nat × Nat) := []
def saK50111A_O : yO := []
def saK50111A_A : yA := (yZ saK50111A_L, [], [], [], [])
def saK50111A_C : List xB := []
def saK50111A_ss : List yS := [(17, [(2, .int 1), (1, .int 1), (4, .int 1), (3, .int 50), (0, .index 338)], [], [], [], [])]
def saK50111A_rs : List yR := []
theorem saK50111A_w : ywa saK50111A_A saK50111A_ss saK50111A_rs = true := by decide +kernel
theorem saK50111A_k : yis (yev saK50111A_A 3000 60 205 [17] (80, [(3, .int 50), (2, .int 1), (1, .int 1), (0, .index 338)], [.int 1], saK50111A_O, saK50111A_C, [])) saK50111A_ss saK50111A_rs = true := by decide +kernel
def saK50111A_r (k_ : Nat) : Value := .int 0
def saK50111A_s (n_ : Nat) : Nat := 0
theorem saK50111A {h_ : xH} (hs : sHp h_) : ∃ h', ysm h_ h' ∧ (((∀ a_ j_ : Nat, bpat h' a_ j_ = bpat h_ a_ j_) ∧ (bldD 60 205 80 [(3, .int (50 : Int32)), (2, .int (1 : Int32)), (1, .int (1 : Int32)), (0, .index 338)] [.int (1 : Int32)] h_ 17 [(2, .int (1 : Int32)), (1, .int (1 : Int32)), (4, .int (1 : Int32)), (3, .int (50 : Int32)), (0, .index 338)] [] h'))) := by
  have hA : yas saK50111A_A saK50111A_r (yg saK50111A_s) := ⟨fun q_ hq => absurd hq List.not_mem_nil, fun q_ hq => absurd hq List.not_mem_nil, fun q_ hq => absurd hq List.not_mem_nil, fun n_ hn => yg_lo hn, fun q_ hq => absurd hq List.not_mem_nil⟩
  have Hs : ysh saK50111A_A.1 (yg saK50111A_s) h_ := ysh_of2 hs (fun q_ hq => absurd hq List.not_mem_nil)
  have Ho : ymem saK50111A_r (yg saK50111A_s) saK50111A_O h_ := fun q_ hq => absurd hq List.not_mem_nil
  have HC : ∀ q_ ∈ saK50111A_C, xhold saK50111A_r q_ := fun q_ hq => absurd hq List.not_mem_nil
  rcases yrun (yis_ok saK50111A_k) hA Hs Ho HC with ⟨q_, hq, h', K_, G_⟩ | ⟨q_, hq, h', K_, G_⟩
  · have e_ := List.mem_singleton.mp hq
    subst e_
    exact ⟨h', yfr_sm K_.2.2.2 hs K_.1 (ywa_s saK50111A_w List.mem_cons_self), ⟨fun a_ j_ => yfr_bp K_.2.2.2 (fun q_ hq => absurd hq List.not_mem_nil), G_⟩⟩
  · cases hq
-- saJ51A: 40 steps, 1 ends, 0 returns
def saJ51A_L : List (Nat × Nat × Nat) := []
def saJ51A_O : yO := [(338, .int 17, .arg 317), (338, .int 16, .arg 316), (338, .int 4, .index 342), (342, .int 0, .arg 300), (342, .arg 316, .int 51)]
def saJ51A_A : yA := (yZ saJ51A_L, [(.arg 316, 13)], [], [], [])
def saJ51A_C : List xB := [(.le, .arg 316, .arg 300, true), (.eq, .arg 317, .int 0, true)]
def saJ51A_ss : List yS := [(77, [(3, .int 51), (2, .arg 2), (1, .arg 1), (0, .index 338)], [.index 338], [(338, .int 16, .add (.arg 316) (.int 1)), (338, .int 17, .arg 317), (338, .int 4, .index 342), (342, .int 0, .arg 300), (342, .arg 316, .int 51)], [(.le, .arg 316, .arg 300, true), (.eq, .arg 317, .int 0, true)], [(338, .int 16)])]
def saJ51A_rs : List yR := []
theorem saJ51A_w : ywa saJ51A_A saJ51A_ss saJ51A_rs = true := by decide +kernel
theorem saJ51A_k : yis (yev saJ51A_A 3000 60 205 [77] (17, [(2, .arg 2), (1, .arg 1), (0, .index 338)], [], saJ51A_O, saJ51A_C, [])) saJ51A_ss saJ51A_rs = true := by decide +kernel
def saJ51A_r (v1_ v2 v300 v316 v317 : Int32) (k_ : Nat) : Value := bif Nat.beq k_ 1 then .int v1_ else (bif Nat.beq k_ 2 then .int v2 else (bif Nat.beq k_ 300 then .int v300 else (bif Nat.beq k_ 316 then .int v316 else (bif Nat.beq k_ 317 then .int v317 else (.int 0)))))
def saJ51A_s (n_ : Nat) : Nat := 0
theorem saJ51A {h_ : xH} {v1_ v2 v300 v316 v317 : Int32} (hs : sHp h_) (o0_ : bpat h_ 338 17 = some (.int v317)) (o1 : bpat h_ 338 16 = some (.int v316)) (o2 : bpat h_ 342 0 = some (.int v300)) (o3_ : bpat h_ 342 (v316).toInt.toNat = some (.int (51 : Int32))) (b0 : 0 ≤ (v316).toInt ∧ (v316).toInt < 13) (c0_ : v316.toInt ≤ v300.toInt) (c1_ : v317 = (0 : Int32)) : ∃ h', ysm h_ h' ∧ (((bpat h' 338 16 = some (.int (v316 + (1 : Int32)))) ∧ (∀ a_ j_ : Nat, ¬ (a_ = 338 ∧ j_ = 16) → bpat h' a_ j_ = bpat h_ a_ j_) ∧ (bldD 60 205 17 [(2, .int v2), (1, .int v1_), (0, .index 338)] [] h_ 77 [(3, .int (51 : Int32)), (2, .int v2), (1, .int v1_), (0, .index 338)] [.index 338] h'))) := by
  have hA : yas saJ51A_A (saJ51A_r v1_ v2 v300 v316 v317) (yg saJ51A_s) := ⟨List.forall_mem_cons.mpr ⟨b0, fun q_ hq => absurd hq List.not_mem_nil⟩, fun q_ hq => absurd hq List.not_mem_nil, fun q_ hq => absurd hq List.not_mem_nil, fun n_ hn => yg_lo hn, fun q_ hq => absurd hq List.not_mem_nil⟩
  have Hs : ysh saJ51A_A.1 (yg saJ51A_s) h_ := ysh_of2 hs (fun q_ hq => absurd hq List.not_mem_nil)
  have Ho : ymem (saJ51A_r v1_ v2 v300 v316 v317) (yg saJ51A_s) saJ51A_O h_ := List.forall_mem_cons.mpr ⟨bpat_some o0_, List.forall_mem_cons.mpr ⟨bpat_some o1, List.forall_mem_cons.mpr ⟨bpat_some (fxr_at hs.2 (show fxk fxl 338 4 = some 342 by decide +kernel)), List.forall_mem_cons.mpr ⟨bpat_some o2, List.forall_mem_cons.mpr ⟨bpat_some o3_, fun q_ hq => absurd hq List.not_mem_nil⟩⟩⟩⟩⟩
  have HC : ∀ q_ ∈ saJ51A_C, xhold (saJ51A_r v1_ v2 v300 v316 v317) q_ := List.forall_mem_cons.mpr ⟨xh_leT c0_, List.forall_mem_cons.mpr ⟨xh_eqT2 c1_, fun q_ hq => absurd hq List.not_mem_nil⟩⟩
  rcases yrun (yis_ok saJ51A_k) hA Hs Ho HC with ⟨q_, hq, h', K_, G_⟩ | ⟨q_, hq, h', K_, G_⟩
  · have e_ := List.mem_singleton.mp hq
    subst e_
    exact ⟨h', yfr_sm K_.2.2.2 hs K_.1 (ywa_s saJ51A_w List.mem_cons_self), ⟨bpat_of (K_.2.1 _ List.mem_cons_self), fun a_ j_ n0_ => yfr_bp K_.2.2.2 (List.forall_mem_cons.mpr ⟨fun e_ => n0_ ⟨e_.1.symm, e_.2.symm⟩, fun q_ hq => absurd hq List.not_mem_nil⟩), G_⟩⟩
  · cases hq
-- saK51000A: 17 steps, 1 ends, 0 returns
def saK51000A_L : List (Nat × Nat × Nat) := []
def saK51000A_O : yO := []
def saK51000A_A : yA := (yZ saK51000A_L, [], [], [], [])
def saK51000A_C : List xB := []
def saK51000A_ss : List yS := [(17, [(2, .int 0), (1, .int 0), (4, .int 0), (3, .int 51), (0, .index 338)], [], [], [], [])]
def saK51000A_rs : List yR := []
theorem saK51000A_w : ywa saK51000A_A saK51000A_ss saK51000A_rs = true := by decide +kernel
theorem saK51000A_k : yis (yev saK51000A_A 3000 60 205 [17] (80, [(3, .int 51), (2, .int 0), (1, .int 0), (0, .index 338)], [.int 0], saK51000A_O, saK51000A_C, [])) saK51000A_ss saK51000A_rs = true := by decide +kernel
def saK51000A_r (k_ : Nat) : Value := .int 0
def saK51000A_s (n_ : Nat) : Nat := 0
theorem saK51000A {h_ : xH} (hs : sHp h_) : ∃ h', ysm h_ h' ∧ (((∀ a_ j_ : Nat, bpat h' a_ j_ = bpat h_ a_ j_) ∧ (bldD 60 205 80 [(3, .int (51 : Int32)), (2, .int (0 : Int32)), (1, .int (0 : Int32)), (0, .index 338)] [.int (0 : Int32)] h_ 17 [(2, .int (0 : Int32)), (1, .int (0 : Int32)), (4, .int (0 : Int32)), (3, .int (51 : Int32)), (0, .index 338)] [] h'))) := by
  have hA : yas saK51000A_A saK51000A_r (yg saK51000A_s) := ⟨fun q_ hq => absurd hq List.not_mem_nil, fun q_ hq => absurd hq List.not_mem_nil, fun q_ hq => absurd hq List.not_mem_nil, fun n_ hn => yg_lo hn, fun q_ hq => absurd hq List.not_mem_nil⟩
  have Hs : ysh saK51000A_A.1 (yg saK51000A_s) h_ := ysh_of2 hs (fun q_ hq => absurd hq List.not_mem_nil)
  have Ho : ymem saK51000A_r (yg saK51000A_s) saK51000A_O h_ := fun q_ hq => absurd hq List.not_mem_nil
  have HC : ∀ q_ ∈ saK51000A_C, xhold saK51000A_r q_ := fun q_ hq => absurd hq List.not_mem_nil
  rcases yrun (yis_ok saK51000A_k) hA Hs Ho HC with ⟨q_, hq, h', K_, G_⟩ | ⟨q_, hq, h', K_, G_⟩
  · have e_ := List.mem_singleton.mp hq
    subst e_
    exact ⟨h', yfr_sm K_.2.2.2 hs K_.1 (ywa_s saK51000A_w List.mem_cons_self), ⟨fun a_ j_ => yfr_bp K_.2.2.2 (fun q_ hq => absurd hq List.not_mem_nil), G_⟩⟩
  · cases hq
-- saK51001A: 17 steps, 1 ends, 0 returns
def saK51001A_L : List (Nat × Nat × Nat) := []
def saK51001A_O : yO := []
def saK51001A_A : yA := (yZ saK51001A_L, [], [], [], [])
def saK51001A_C : List xB := []
def saK51001A_ss : List yS := [(17, [(2, .int 1), (1, .int 0), (4, .int 1), (3, .int 51), (0, .index 338)], [], [], [], [])]
def saK51001A_rs : List yR := []
theorem saK51001A_w : ywa saK51001A_A saK51001A_ss saK51001A_rs = true := by decide +kernel
theorem saK51001A_k : yis (yev saK51001A_A 3000 60 205 [17] (80, [(3, .int 51), (2, .int 0), (1, .int 0), (0, .index 338)], [.int 1], saK51001A_O, saK51001A_C, [])) saK51001A_ss saK51001A_rs = true := by decide +kernel
def saK51001A_r (k_ : Nat) : Value := .int 0
def saK51001A_s (n_ : Nat) : Nat := 0
theorem saK51001A {h_ : xH} (hs : sHp h_) : ∃ h', ysm h_ h' ∧ (((∀ a_ j_ : Nat, bpat h' a_ j_ = bpat h_ a_ j_) ∧ (bldD 60 205 80 [(3, .int (51 : Int32)), (2, .int (0 : Int32)), (1, .int (0 : Int32)), (0, .index 338)] [.int (1 : Int32)] h_ 17 [(2, .int (1 : Int32)), (1, .int (0 : Int32)), (4, .int (1 : Int32)), (3, .int (51 : Int32)), (0, .index 338)] [] h'))) := by
  have hA : yas saK51001A_A saK51001A_r (yg saK51001A_s) := ⟨fun q_ hq => absurd hq List.not_mem_nil, fun q_ hq => absurd hq List.not_mem_nil, fun q_ hq => absurd hq List.not_mem_nil, fun n_ hn => yg_lo hn, fun q_ hq => absurd hq List.not_mem_nil⟩
  have Hs : ysh saK51001A_A.1 (yg saK51001A_s) h_ := ysh_of2 hs (fun q_ hq => absurd hq List.not_mem_nil)
  have Ho : ymem saK51001A_r (yg saK51001A_s) saK51001A_O h_ := fun q_ hq => absurd hq List.not_mem_nil
  have HC : ∀ q_ ∈ saK51001A_C, xhold saK51001A_r q_ := fun q_ hq => absurd hq List.not_mem_nil
  rcases yrun (yis_ok saK51001A_k) hA Hs Ho HC with ⟨q_, hq, h', K_, G_⟩ | ⟨q_, hq, h', K_, G_⟩
  · have e_ := List.mem_singleton.mp hq
    subst e_
    exact ⟨h', yfr_sm K_.2.2.2 hs K_.1 (ywa_s saK51001A_w List.mem_cons_self), ⟨fun a_ j_ => yfr_bp K_.2.2.2 (fun q_ hq => absurd hq List.not_mem_nil), G_⟩⟩
  · cases hq
-- saK51010A: 18 steps, 1 ends, 0 returns
def saK51010A_L : List (Nat × Nat × Nat) := []
def saK51010A_O : yO := []
def saK51010A_A : yA := (yZ saK51010A_L, [], [], [], [])
def saK51010A_C : List xB := []
def saK51010A_ss : List yS := [(17, [(2, .int 0), (1, .int 1), (4, .int 0), (3, .int 51), (0, .index 338)], [], [], [], [])]
def saK51010A_rs : List yR := []
theorem saK51010A_w : ywa saK51010A_A saK51010A_ss saK51010A_rs = true := by decide +kernel
theorem saK51010A_k : yis (yev saK51010A_A 3000 60 205 [17] (80, [(3, .int 51), (2, .int 1), (1, .int 0), (0, .index 338)], [.int 0], saK51010A_O, saK51010A_C, [])) saK51010A_ss saK51010A_rs = true := by decide +kernel
def saK51010A_r (k_ : Nat) : Value := .int 0
def saK51010A_s (n_ : Nat) : Nat := 0
theorem saK51010A {h_ : xH} (hs : sHp h_) : ∃ h', ysm h_ h' ∧ (((∀ a_ j_ : Nat, bpat h' a_ j_ = bpat h_ a_ j_) ∧ (bldD 60 205 80 [(3, .int (51 : Int32)), (2, .int (1 : Int32)), (1, .int (0 : Int32)), (0, .index 338)] [.int (0 : Int32)] h_ 17 [(2, .int (0 : Int32)), (1, .int (1 : Int32)), (4, .int (0 : Int32)), (3, .int (51 : Int32)), (0, .index 338)] [] h'))) := by
  have hA : yas saK51010A_A saK51010A_r (yg saK51010A_s) := ⟨fun q_ hq => absurd hq List.not_mem_nil, fun q_ hq => absurd hq List.not_mem_nil, fun q_ hq => absurd hq List.not_mem_nil, fun n_ hn => yg_lo hn, fun q_ hq => absurd hq List.not_mem_nil⟩
  have Hs : ysh saK51010A_A.1 (yg saK51010A_s) h_ := ysh_of2 hs (fun q_ hq => absurd hq List.not_mem_nil)
  have Ho : ymem saK51010A_r (yg saK51010A_s) saK51010A_O h_ := fun q_ hq => absurd hq List.not_mem_nil
  have HC : ∀ q_ ∈ saK51010A_C, xhold saK51010A_r q_ := fun q_ hq => absurd hq List.not_mem_nil
  rcases yrun (yis_ok saK51010A_k) hA Hs Ho HC with ⟨q_, hq, h', K_, G_⟩ | ⟨q_, hq, h', K_, G_⟩
  · have e_ := List.mem_singleton.mp hq
    subst e_
    exact ⟨h', yfr_sm K_.2.2.2 hs K_.1 (ywa_s saK51010A_w List.mem_cons_self), ⟨fun a_ j_ => yfr_bp K_.2.2.2 (fun q_ hq => absurd hq List.not_mem_nil), G_⟩⟩
  · cases hq
-- saK51011A: 18 steps, 1 ends, 0 returns
def saK51011A_L : List (Nat × Nat × Nat) := []
def saK51011A_O : yO := []
def saK51011A_A : yA := (yZ saK51011A_L, [], [], [], [])
def saK51011A_C : List xB := []
def saK51011A_ss : List yS := [(17, [(2, .int 1), (1, .int 1), (4, .int 1), (3, .int 51), (0, .index 338)], [], [], [], [])]
def saK51011A_rs : List yR := []
theorem saK51011A_w : ywa saK51011A_A saK51011A_ss saK51011A_rs = true := by decide +kernel
theorem saK51011A_k : yis (yev saK51011A_A 3000 60 205 [17] (80, [(3, .int 51), (2, .int 1), (1, .int 0), (0, .index 338)], [.int 1], saK51011A_O, saK51011A_C, [])) saK51011A_ss saK51011A_rs = true := by decide +kernel
def saK51011A_r (k_ : Nat) : Value := .int 0
def saK51011A_s (n_ : Nat) : Nat := 0
theorem saK51011A {h_ : xH} (hs : sHp h_) : ∃ h', ysm h_ h' ∧ (((∀ a_ j_ : Nat, bpat h' a_ j_ = bpat h_ a_ j_) ∧ (bldD 60 205 80 [(3, .int (51 : Int32)), (2, .int (1 : Int32)), (1, .int (0 : Int32)), (0, .index 338)] [.int (1 : Int32)] h_ 17 [(2, .int (1 : Int32)), (1, .int (1 : Int32)), (4, .int (1 : Int32)), (3, .int (51 : Int32)), (0, .index 338)] [] h'))) := by
  have hA : yas saK51011A_A saK51011A_r (yg saK51011A_s) := ⟨fun q_ hq => absurd hq List.not_mem_nil, fun q_ hq => absurd hq List.not_mem_nil, fun q_ hq => absurd hq List.not_mem_nil, fun n_ hn => yg_lo hn, fun q_ hq => absurd hq List.not_mem_nil⟩
  have Hs : ysh saK51011A_A.1 (yg saK51011A_s) h_ := ysh_of2 hs (fun q_ hq => absurd hq List.not_mem_nil)
  have Ho : ymem saK51011A_r (yg saK51011A_s) saK51011A_O h_ := fun q_ hq => absurd hq List.not_mem_nil
  have HC : ∀ q_ ∈ saK51011A_C, xhold saK51011A_r q_ := fun q_ hq => absurd hq List.not_mem_nil
  rcases yrun (yis_ok saK51011A_k) hA Hs Ho HC with ⟨q_, hq, h', K_, G_⟩ | ⟨q_, hq, h', K_, G_⟩
  · have e_ := List.mem_singleton.mp hq
    subst e_
    exact ⟨h', yfr_sm K_.2.2.2 hs K_.1 (ywa_s saK51011A_w List.mem_cons_self), ⟨fun a_ j_ => yfr_bp K_.2.2.2 (fun q_ hq => absurd hq List.not_mem_nil), G_⟩⟩
  · cases hq
-- saK51100A: 13 steps, 1 ends, 0 returns
def saK51100A_L : List (Nat × Nat × Nat) := []
def saK51100A_O : yO := []
def saK51100A_A : yA := (yZ saK51100A_L, [], [], [], [])
def saK51100A_C : List xB := []
def saK51100A_ss : List yS := [(17, [(2, .int 0), (1, .int 1), (4, .int 0), (3, .int 51), (0, .index 338)], [], [], [], [])]
def saK51100A_rs : List yR := []
theorem saK51100A_w : ywa saK51100A_A saK51100A_ss saK51100A_rs = true := by decide +kernel
theorem saK51100A_k : yis (yev saK51100A_A 3000 60 205 [17] (80, [(3, .int 51), (2, .int 0), (1, .int 1), (0, .index 338)], [.int 0], saK51100A_O, saK51100A_C, [])) saK51100A_ss saK51100A_rs = true := by decide +kernel
def saK51100A_r (k_ : Nat) : Value := .int 0
def saK51100A_s (n_ : Nat) : Nat := 0
theorem saK51100A {h_ : xH} (hs : sHp h_) : ∃ h', ysm h_ h' ∧ (((∀ a_ j_ : Nat, bpat h' a_ j_ = bpat h_ a_ j_) ∧ (bldD 60 205 80 [(3, .int (51 : Int32)), (2, .int (0 : Int32)), (1, .int (1 : Int32)), (0, .index 338)] [.int (0 : Int32)] h_ 17 [(2, .int (0 : Int32)), (1, .int (1 : Int32)), (4, .int (0 : Int32)), (3, .int (51 : Int32)), (0, .index 338)] [] h'))) := by
  have hA : yas saK51100A_A saK51100A_r (yg saK51100A_s) := ⟨fun q_ hq => absurd hq List.not_mem_nil, fun q_ hq => absurd hq List.not_mem_nil, fun q_ hq => absurd hq List.not_mem_nil, fun n_ hn => yg_lo hn, fun q_ hq => absurd hq List.not_mem_nil⟩
  have Hs : ysh saK51100A_A.1 (yg saK51100A_s) h_ := ysh_of2 hs (fun q_ hq => absurd hq List.not_mem_nil)
  have Ho : ymem saK51100A_r (yg saK51100A_s) saK51100A_O h_ := fun q_ hq => absurd hq List.not_mem_nil
  have HC : ∀ q_ ∈ saK51100A_C, xhold saK51100A_r q_ := fun q_ hq => absurd hq List.not_mem_nil
  rcases yrun (yis_ok saK51100A_k) hA Hs Ho HC with ⟨q_, hq, h', K_, G_⟩ | ⟨q_, hq, h', K_, G_⟩
  · have e_ := List.mem_singleton.mp hq
    subst e_
    exact ⟨h', yfr_sm K_.2.2.2 hs K_.1 (ywa_s saK51100A_w List.mem_cons_self), ⟨fun a_ j_ => yfr_bp K_.2.2.2 (fun q_ hq => absurd hq List.not_mem_nil), G_⟩⟩
  · cases hq
-- saK51101A: 13 steps, 1 ends, 0 returns
def saK51101A_L : List (Nat × Nat × Nat) := []
def saK51101A_O : yO := []
def saK51101A_A : yA := (yZ saK51101A_L, [], [], [], [])
def saK51101A_C : List xB := []
def saK51101A_ss : List yS := [(17, [(2, .int 1), (1, .int 1), (4, .int 1), (3, .int 51), (0, .index 338)], [], [], [], [])]
def saK51101A_rs : List yR := []
theorem saK51101A_w : ywa saK51101A_A saK51101A_ss saK51101A_rs = true := by decide +kernel
theorem saK51101A_k : yis (yev saK51101A_A 3000 60 205 [17] (80, [(3, .int 51), (2, .int 0), (1, .int 1), (0, .index 338)], [.int 1], saK51101A_O, saK51101A_C, [])) saK51101A_ss saK51101A_rs = true := by decide +kernel
def saK51101A_r (k_ : Nat) : Value := .int 0
def saK51101A_s (n_ : Nat) : Nat := 0
theorem saK51101A {h_ : xH} (hs : sHp h_) : ∃ h', ysm h_ h' ∧ (((∀ a_ j_ : Nat, bpat h' a_ j_ = bpat h_ a_ j_) ∧ (bldD 60 205 80 [(3, .int (51 : Int32)), (2, .int (0 : Int32)), (1, .int (1 : Int32)), (0, .index 338)] [.int (1 : Int32)] h_ 17 [(2, .int (1 : Int32)), (1, .int (1 : Int32)), (4, .int (1 : Int32)), (3, .int (51 : Int32)), (0, .index 338)] [] h'))) := by
  have hA : yas saK51101A_A saK51101A_r (yg saK51101A_s) := ⟨fun q_ hq => absurd hq List.not_mem_nil, fun q_ hq => absurd hq List.not_mem_nil, fun q_ hq => absurd hq List.not_mem_nil, fun n_ hn => yg_lo hn, fun q_ hq => absurd hq List.not_mem_nil⟩
  have Hs : ysh saK51101A_A.1 (yg saK51101A_s) h_ := ysh_of2 hs (fun q_ hq => absurd hq List.not_mem_nil)
  have Ho : ymem saK51101A_r (yg saK51101A_s) saK51101A_O h_ := fun q_ hq => absurd hq List.not_mem_nil
  have HC : ∀ q_ ∈ saK51101A_C, xhold saK51101A_r q_ := fun q_ hq => absurd hq List.not_mem_nil
  rcases yrun (yis_ok saK51101A_k) hA Hs Ho HC with ⟨q_, hq, h', K_, G_⟩ | ⟨q_, hq, h', K_, G_⟩
  · have e_ := List.mem_singleton.mp hq
    subst e_
    exact ⟨h', yfr_sm K_.2.2.2 hs K_.1 (ywa_s saK51101A_w List.mem_cons_self), ⟨fun a_ j_ => yfr_bp K_.2.2.2 (fun q_ hq => absurd hq List.not_mem_nil), G_⟩⟩
  · cases hq
-- saK51110A: 13 steps, 1 ends, 0 returns
def saK51110A_L : List (Nat × Nat × Nat) := []
def saK51110A_O : yO := []
def saK51110A_A : yA := (yZ saK51110A_L, [], [], [], [])
def saK51110A_C : List xB := []
def saK51110A_ss : List yS := [(17, [(2, .int 0), (1, .int 1), (4, .int 0), (3, .int 51), (0, .index 338)], [], [], [], [])]
def saK51110A_rs : List yR := []
theorem saK51110A_w : ywa saK51110A_A saK51110A_ss saK51110A_rs = true := by decide +kernel
theorem saK51110A_k : yis (yev saK51110A_A 3000 60 205 [17] (80, [(3, .int 51), (2, .int 1), (1, .int 1), (0, .index 338)], [.int 0], saK51110A_O, saK51110A_C, [])) saK51110A_ss saK51110A_rs = true := by decide +kernel
def saK51110A_r (k_ : Nat) : Value := .int 0
def saK51110A_s (n_ : Nat) : Nat := 0
theorem saK51110A {h_ : xH} (hs : sHp h_) : ∃ h', ysm h_ h' ∧ (((∀ a_ j_ : Nat, bpat h' a_ j_ = bpat h_ a_ j_) ∧ (bldD 60 205 80 [(3, .int (51 : Int32)), (2, .int (1 : Int32)), (1, .int (1 : Int32)), (0, .index 338)] [.int (0 : Int32)] h_ 17 [(2, .int (0 : Int32)), (1, .int (1 : Int32)), (4, .int (0 : Int32)), (3, .int (51 : Int32)), (0, .index 338)] [] h'))) := by
  have hA : yas saK51110A_A saK51110A_r (yg saK51110A_s) := ⟨fun q_ hq => absurd hq List.not_mem_nil, fun q_ hq => absurd hq List.not_mem_nil, fun q_ hq => absurd hq List.not_mem_nil, fun n_ hn => yg_lo hn, fun q_ hq => absurd hq List.not_mem_nil⟩
  have Hs : ysh saK51110A_A.1 (yg saK51110A_s) h_ := ysh_of2 hs (fun q_ hq => absurd hq List.not_mem_nil)
  have Ho : ymem saK51110A_r (yg saK51110A_s) saK51110A_O h_ := fun q_ hq => absurd hq List.not_mem_nil
  have HC : ∀ q_ ∈ saK51110A_C, xhold saK51110A_r q_ := fun q_ hq => absurd hq List.not_mem_nil
  rcases yrun (yis_ok saK51110A_k) hA Hs Ho HC with ⟨q_, hq, h', K_, G_⟩ | ⟨q_, hq, h', K_, G_⟩
  · have e_ := List.mem_singleton.mp hq
    subst e_
    exact ⟨h', yfr_sm K_.2.2.2 hs K_.1 (ywa_s saK51110A_w List.mem_cons_self), ⟨fun a_ j_ => yfr_bp K_.2.2.2 (fun q_ hq => absurd hq List.not_mem_nil), G_⟩⟩
  · cases hq
-- saK51111A: 13 steps, 1 ends, 0 returns
def saK51111A_L : List (Nat × Nat × Nat) := []
def saK51111A_O : yO := []
def saK51111A_A : yA := (yZ saK51111A_L, [], [], [], [])
def saK51111A_C : List xB := []
def saK51111A_ss : List yS := [(17, [(2, .int 1), (1, .int 1), (4, .int 1), (3, .int 51), (0, .index 338)], [], [], [], [])]
def saK51111A_rs : List yR := []
theorem saK51111A_w : ywa saK51111A_A saK51111A_ss saK51111A_rs = true := by decide +kernel
theorem saK51111A_k : yis (yev saK51111A_A 3000 60 205 [17] (80, [(3, .int 51), (2, .int 1), (1, .int 1), (0, .index 338)], [.int 1], saK51111A_O, saK51111A_C, [])) saK51111A_ss saK51111A_rs = true := by decide +kernel
def saK51111A_r (k_ : Nat) : Value := .int 0
def saK51111A_s (n_ : Nat) : Nat := 0
theorem saK51111A {h_ : xH} (hs : sHp h_) : ∃ h', ysm h_ h' ∧ (((∀ a_ j_ : Nat, bpat h' a_ j_ = bpat h_ a_ j_) ∧ (bldD 60 205 80 [(3, .int (51 : Int32)), (2, .int (1 : Int32)), (1, .int (1 : Int32)), (0, .index 338)] [.int (1 : Int32)] h_ 17 [(2, .int (1 : Int32)), (1, .int (1 : Int32)), (4, .int (1 : Int32)), (3, .int (51 : Int32)), (0, .index 338)] [] h'))) := by
  have hA : yas saK51111A_A saK51111A_r (yg saK51111A_s) := ⟨fun q_ hq => absurd hq List.not_mem_nil, fun q_ hq => absurd hq List.not_mem_nil, fun q_ hq => absurd hq List.not_mem_nil, fun n_ hn => yg_lo hn, fun q_ hq => absurd hq List.not_mem_nil⟩
  have Hs : ysh saK51111A_A.1 (yg saK51111A_s) h_ := ysh_of2 hs (fun q_ hq => absurd hq List.not_mem_nil)
  have Ho : ymem saK51111A_r (yg saK51111A_s) saK51111A_O h_ := fun q_ hq => absurd hq List.not_mem_nil
  have HC : ∀ q_ ∈ saK51111A_C, xhold saK51111A_r q_ := fun q_ hq => absurd hq List.not_mem_nil
  rcases yrun (yis_ok saK51111A_k) hA Hs Ho HC with ⟨q_, hq, h', K_, G_⟩ | ⟨q_, hq, h', K_, G_⟩
  · have e_ := List.mem_singleton.mp hq
    subst e_
    exact ⟨h', yfr_sm K_.2.2.2 hs K_.1 (ywa_s saK51111A_w List.mem_cons_self), ⟨fun a_ j_ => yfr_bp K_.2.2.2 (fun q_ hq => absurd hq List.not_mem_nil), G_⟩⟩
  · cases hq
-- saXB: 3 steps, 1 ends, 0 returns
def saXB_L : List (Nat × Nat × Nat) := []
def saXB_O : yO := [(338, .int 17, .arg 317)]
def saXB_A : yA := (yZ saXB_L, [], [], [], [])
def saXB_C : List xB := [(.eq, .arg 317, .int 0, false)]
def saXB_ss : List yS := [(131, [(2, .arg 2), (1, .arg 1), (4, .arg 4), (3, .arg 3), (0, .index 338)], [], [(338, .int 17, .arg 317)], [(.eq, .arg 317, .int 0, false)], [])]
def saXB_rs : List yR := []
theorem saXB_w : ywa saXB_A saXB_ss saXB_rs = true := by decide +kernel
theorem saXB_k : yis (yev saXB_A 3000 60 205 [131] (17, [(2, .arg 2), (1, .arg 1), (4, .arg 4), (3, .arg 3), (0, .index 338)], [], saXB_O, saXB_C, [])) saXB_ss saXB_rs = true := by decide +kernel
def saXB_r (v1_ v2 v3 v4_ v317 : Int32) (k_ : Nat) : Value := bif Nat.beq k_ 1 then .int v1_ else (bif Nat.beq k_ 2 then .int v2 else (bif Nat.beq k_ 3 then .int v3 else (bif Nat.beq k_ 4 then .int v4_ else (bif Nat.beq k_ 317 then .int v317 else (.int 0)))))
def saXB_s (n_ : Nat) : Nat := 0
theorem saXB {h_ : xH} {v1_ v2 v3 v4_ v317 : Int32} (hs : sHp h_) (o0_ : bpat h_ 338 17 = some (.int v317)) (c0_ : ¬ v317 = (0 : Int32)) : ∃ h', ysm h_ h' ∧ (((∀ a_ j_ : Nat, bpat h' a_ j_ = bpat h_ a_ j_) ∧ (bldD 60 205 17 [(2, .int v2), (1, .int v1_), (4, .int v4_), (3, .int v3), (0, .index 338)] [] h_ 131 [(2, .int v2), (1, .int v1_), (4, .int v4_), (3, .int v3), (0, .index 338)] [] h'))) := by
  have hA : yas saXB_A (saXB_r v1_ v2 v3 v4_ v317) (yg saXB_s) := ⟨fun q_ hq => absurd hq List.not_mem_nil, fun q_ hq => absurd hq List.not_mem_nil, fun q_ hq => absurd hq List.not_mem_nil, fun n_ hn => yg_lo hn, fun q_ hq => absurd hq List.not_mem_nil⟩
  have Hs : ysh saXB_A.1 (yg saXB_s) h_ := ysh_of2 hs (fun q_ hq => absurd hq List.not_mem_nil)
  have Ho : ymem (saXB_r v1_ v2 v3 v4_ v317) (yg saXB_s) saXB_O h_ := List.forall_mem_cons.mpr ⟨bpat_some o0_, fun q_ hq => absurd hq List.not_mem_nil⟩
  have HC : ∀ q_ ∈ saXB_C, xhold (saXB_r v1_ v2 v3 v4_ v317) q_ := List.forall_mem_cons.mpr ⟨xh_eqF2 c0_, fun q_ hq => absurd hq List.not_mem_nil⟩
  rcases yrun (yis_ok saXB_k) hA Hs Ho HC with ⟨q_, hq, h', K_, G_⟩ | ⟨q_, hq, h', K_, G_⟩
  · have e_ := List.mem_singleton.mp hq
    subst e_
    exact ⟨h', yfr_sm K_.2.2.2 hs K_.1 (ywa_s saXB_w List.mem_cons_self), ⟨fun a_ j_ => yfr_bp K_.2.2.2 (fun q_ hq => absurd hq List.not_mem_nil), G_⟩⟩
  · cases hq
-- saYB: 10 steps, 1 ends, 0 returns
def saYB_L : List (Nat × Nat × Nat) := []
def saYB_O : yO := [(338, .int 17, .arg 317), (338, .int 16, .arg 316), (338, .int 4, .index 342), (342, .int 0, .arg 300)]
def saYB_A : yA := (yZ saYB_L, [], [], [], [])
def saYB_C : List xB := [(.le, .arg 316, .arg 300, false), (.eq, .arg 317, .int 0, true)]
def saYB_ss : List yS := [(131, [(2, .arg 2), (1, .arg 1), (4, .arg 4), (3, .arg 3), (0, .index 338)], [], [(338, .int 17, .arg 317), (338, .int 16, .arg 316), (338, .int 4, .index 342), (342, .int 0, .arg 300)], [(.le, .arg 316, .arg 300, false), (.eq, .arg 317, .int 0, true)], [])]
def saYB_rs : List yR := []
theorem saYB_w : ywa saYB_A saYB_ss saYB_rs = true := by decide +kernel
theorem saYB_k : yis (yev saYB_A 3000 60 205 [131] (17, [(2, .arg 2), (1, .arg 1), (4, .arg 4), (3, .arg 3), (0, .index 338)], [], saYB_O, saYB_C, [])) saYB_ss saYB_rs = true := by decide +kernel
def saYB_r (v1_ v2 v3 v4_ v300 v316 v317 : Int32) (k_ : Nat) : Value := bif Nat.beq k_ 1 then .int v1_ else (bif Nat.beq k_ 2 then .int v2 else (bif Nat.beq k_ 3 then .int v3 else (bif Nat.beq k_ 4 then .int v4_ else (bif Nat.beq k_ 300 then .int v300 else (bif Nat.beq k_ 316 then .int v316 else (bif Nat.beq k_ 317 then .int v317 else (.int 0)))))))
def saYB_s (n_ : Nat) : Nat := 0
theorem saYB {h_ : xH} {v1_ v2 v3 v4_ v300 v316 v317 : Int32} (hs : sHp h_) (o0_ : bpat h_ 338 17 = some (.int v317)) (o1 : bpat h_ 338 16 = some (.int v316)) (o2 : bpat h_ 342 0 = some (.int v300)) (c0_ : v300.toInt < v316.toInt) (c1_ : v317 = (0 : Int32)) : ∃ h', ysm h_ h' ∧ (((∀ a_ j_ : Nat, bpat h' a_ j_ = bpat h_ a_ j_) ∧ (bldD 60 205 17 [(2, .int v2), (1, .int v1_), (4, .int v4_), (3, .int v3), (0, .index 338)] [] h_ 131 [(2, .int v2), (1, .int v1_), (4, .int v4_), (3, .int v3), (0, .index 338)] [] h'))) := by
  have hA : yas saYB_A (saYB_r v1_ v2 v3 v4_ v300 v316 v317) (yg saYB_s) := ⟨fun q_ hq => absurd hq List.not_mem_nil, fun q_ hq => absurd hq List.not_mem_nil, fun q_ hq => absurd hq List.not_mem_nil, fun n_ hn => yg_lo hn, fun q_ hq => absurd hq List.not_mem_nil⟩
  have Hs : ysh saYB_A.1 (yg saYB_s) h_ := ysh_of2 hs (fun q_ hq => absurd hq List.not_mem_nil)
  have Ho : ymem (saYB_r v1_ v2 v3 v4_ v300 v316 v317) (yg saYB_s) saYB_O h_ := List.forall_mem_cons.mpr ⟨bpat_some o0_, List.forall_mem_cons.mpr ⟨bpat_some o1, List.forall_mem_cons.mpr ⟨bpat_some (fxr_at hs.2 (show fxk fxl 338 4 = some 342 by decide +kernel)), List.forall_mem_cons.mpr ⟨bpat_some o2, fun q_ hq => absurd hq List.not_mem_nil⟩⟩⟩⟩
  have HC : ∀ q_ ∈ saYB_C, xhold (saYB_r v1_ v2 v3 v4_ v300 v316 v317) q_ := List.forall_mem_cons.mpr ⟨xh_leF c0_, List.forall_mem_cons.mpr ⟨xh_eqT2 c1_, fun q_ hq => absurd hq List.not_mem_nil⟩⟩
  rcases yrun (yis_ok saYB_k) hA Hs Ho HC with ⟨q_, hq, h', K_, G_⟩ | ⟨q_, hq, h', K_, G_⟩
  · have e_ := List.mem_singleton.mp hq
    subst e_
    exact ⟨h', yfr_sm K_.2.2.2 hs K_.1 (ywa_s saYB_w List.mem_cons_self), ⟨fun a_ j_ => yfr_bp K_.2.2.2 (fun q_ hq => absurd hq List.not_mem_nil), G_⟩⟩
  · cases hq
-- saNB: 41 steps, 1 ends, 0 returns
def saNB_L : List (Nat × Nat × Nat) := []
def saNB_O : yO := [(338, .int 17, .arg 317), (338, .int 16, .arg 316), (338, .int 4, .index 342), (342, .int 0, .arg 300), (342, .arg 316, .arg 301)]
def saNB_A : yA := (yZ saNB_L, [(.arg 316, 13)], [], [], [])
def saNB_C : List xB := [(.eq, .arg 301, .int 51, false), (.eq, .arg 301, .int 50, false), (.le, .arg 316, .arg 300, true), (.eq, .arg 317, .int 0, true)]
def saNB_ss : List yS := [(131, [(3, .arg 301), (2, .arg 2), (1, .arg 1), (4, .arg 4), (0, .index 338)], [], [(338, .int 17, .int 1), (338, .int 16, .arg 316), (338, .int 4, .index 342), (342, .int 0, .arg 300), (342, .arg 316, .arg 301)], [(.eq, .arg 301, .int 51, false), (.eq, .arg 301, .int 50, false), (.le, .arg 316, .arg 300, true), (.eq, .arg 317, .int 0, true)], [(338, .int 17)])]
def saNB_rs : List yR := []
theorem saNB_w : ywa saNB_A saNB_ss saNB_rs = true := by decide +kernel
theorem saNB_k : yis (yev saNB_A 3000 60 205 [131] (17, [(2, .arg 2), (1, .arg 1), (4, .arg 4), (3, .arg 3), (0, .index 338)], [], saNB_O, saNB_C, [])) saNB_ss saNB_rs = true := by decide +kernel
def saNB_r (v1_ v2 v3 v4_ v300 v301 v316 v317 : Int32) (k_ : Nat) : Value := bif Nat.beq k_ 1 then .int v1_ else (bif Nat.beq k_ 2 then .int v2 else (bif Nat.beq k_ 3 then .int v3 else (bif Nat.beq k_ 4 then .int v4_ else (bif Nat.beq k_ 300 then .int v300 else (bif Nat.beq k_ 301 then .int v301 else (bif Nat.beq k_ 316 then .int v316 else (bif Nat.beq k_ 317 then .int v317 else (.int 0))))))))
def saNB_s (n_ : Nat) : Nat := 0
theorem saNB {h_ : xH} {v1_ v2 v3 v4_ v300 v301 v316 v317 : Int32} (hs : sHp h_) (o0_ : bpat h_ 338 17 = some (.int v317)) (o1 : bpat h_ 338 16 = some (.int v316)) (o2 : bpat h_ 342 0 = some (.int v300)) (o3_ : bpat h_ 342 (v316).toInt.toNat = some (.int v301)) (b0 : 0 ≤ (v316).toInt ∧ (v316).toInt < 13) (c0_ : ¬ v301 = (51 : Int32)) (c1_ : ¬ v301 = (50 : Int32)) (c2_ : v316.toInt ≤ v300.toInt) (c3_ : v317 = (0 : Int32)) : ∃ h', ysm h_ h' ∧ (((bpat h' 338 17 = some (.int (1 : Int32))) ∧ (∀ a_ j_ : Nat, ¬ (a_ = 338 ∧ j_ = 17) → bpat h' a_ j_ = bpat h_ a_ j_) ∧ (bldD 60 205 17 [(2, .int v2), (1, .int v1_), (4, .int v4_), (3, .int v3), (0, .index 338)] [] h_ 131 [(3, .int v301), (2, .int v2), (1, .int v1_), (4, .int v4_), (0, .index 338)] [] h'))) := by
  have hA : yas saNB_A (saNB_r v1_ v2 v3 v4_ v300 v301 v316 v317) (yg saNB_s) := ⟨List.forall_mem_cons.mpr ⟨b0, fun q_ hq => absurd hq List.not_mem_nil⟩, fun q_ hq => absurd hq List.not_mem_nil, fun q_ hq => absurd hq List.not_mem_nil, fun n_ hn => yg_lo hn, fun q_ hq => absurd hq List.not_mem_nil⟩
  have Hs : ysh saNB_A.1 (yg saNB_s) h_ := ysh_of2 hs (fun q_ hq => absurd hq List.not_mem_nil)
  have Ho : ymem (saNB_r v1_ v2 v3 v4_ v300 v301 v316 v317) (yg saNB_s) saNB_O h_ := List.forall_mem_cons.mpr ⟨bpat_some o0_, List.forall_mem_cons.mpr ⟨bpat_some o1, List.forall_mem_cons.mpr ⟨bpat_some (fxr_at hs.2 (show fxk fxl 338 4 = some 342 by decide +kernel)), List.forall_mem_cons.mpr ⟨bpat_some o2, List.forall_mem_cons.mpr ⟨bpat_some o3_, fun q_ hq => absurd hq List.not_mem_nil⟩⟩⟩⟩⟩
  have HC : ∀ q_ ∈ saNB_C, xhold (saNB_r v1_ v2 v3 v4_ v300 v301 v316 v317) q_ := List.forall_mem_cons.mpr ⟨xh_eqF2 c0_, List.forall_mem_cons.mpr ⟨xh_eqF2 c1_, List.forall_mem_cons.mpr ⟨xh_leT c2_, List.forall_mem_cons.mpr ⟨xh_eqT2 c3_, fun q_ hq => absurd hq List.not_mem_nil⟩⟩⟩⟩
  rcases yrun (yis_ok saNB_k) hA Hs Ho HC with ⟨q_, hq, h', K_, G_⟩ | ⟨q_, hq, h', K_, G_⟩
  · have e_ := List.mem_singleton.mp hq
    subst e_
    exact ⟨h', yfr_sm K_.2.2.2 hs K_.1 (ywa_s saNB_w List.mem_cons_self), ⟨bpat_of (K_.2.1 _ List.mem_cons_self), fun a_ j_ n0_ => yfr_bp K_.2.2.2 (List.forall_mem_cons.mpr ⟨fun e_ => n0_ ⟨e_.1.symm, e_.2.symm⟩, fun q_ hq => absurd hq List.not_mem_nil⟩), G_⟩⟩
  · cases hq
-- saJ50B: 37 steps, 1 ends, 0 returns
def saJ50B_L : List (Nat × Nat × Nat) := []
def saJ50B_O : yO := [(338, .int 17, .arg 317), (338, .int 16, .arg 316), (338, .int 4, .index 342), (342, .int 0, .arg 300), (342, .arg 316, .int 50)]
def saJ50B_A : yA := (yZ saJ50B_L, [(.arg 316, 13)], [], [], [])
def saJ50B_C : List xB := [(.le, .arg 316, .arg 300, true), (.eq, .arg 317, .int 0, true)]
def saJ50B_ss : List yS := [(77, [(3, .int 50), (2, .arg 2), (1, .arg 1), (4, .arg 4), (0, .index 338)], [.index 338], [(338, .int 16, .add (.arg 316) (.int 1)), (338, .int 17, .arg 317), (338, .int 4, .index 342), (342, .int 0, .arg 300), (342, .arg 316, .int 50)], [(.le, .arg 316, .arg 300, true), (.eq, .arg 317, .int 0, true)], [(338, .int 16)])]
def saJ50B_rs : List yR := []
theorem saJ50B_w : ywa saJ50B_A saJ50B_ss saJ50B_rs = true := by decide +kernel
theorem saJ50B_k : yis (yev saJ50B_A 3000 60 205 [77] (17, [(2, .arg 2), (1, .arg 1), (4, .arg 4), (3, .arg 3), (0, .index 338)], [], saJ50B_O, saJ50B_C, [])) saJ50B_ss saJ50B_rs = true := by decide +kernel
def saJ50B_r (v1_ v2 v3 v4_ v300 v316 v317 : Int32) (k_ : Nat) : Value := bif Nat.beq k_ 1 then .int v1_ else (bif Nat.beq k_ 2 then .int v2 else (bif Nat.beq k_ 3 then .int v3 else (bif Nat.beq k_ 4 then .int v4_ else (bif Nat.beq k_ 300 then .int v300 else (bif Nat.beq k_ 316 then .int v316 else (bif Nat.beq k_ 317 then .int v317 else (.int 0)))))))
def saJ50B_s (n_ : Nat) : Nat := 0
theorem saJ50B {h_ : xH} {v1_ v2 v3 v4_ v300 v316 v317 : Int32} (hs : sHp h_) (o0_ : bpat h_ 338 17 = some (.int v317)) (o1 : bpat h_ 338 16 = some (.int v316)) (o2 : bpat h_ 342 0 = some (.int v300)) (o3_ : bpat h_ 342 (v316).toInt.toNat = some (.int (50 : Int32))) (b0 : 0 ≤ (v316).toInt ∧ (v316).toInt < 13) (c0_ : v316.toInt ≤ v300.toInt) (c1_ : v317 = (0 : Int32)) : ∃ h', ysm h_ h' ∧ (((bpat h' 338 16 = some (.int (v316 + (1 : Int32)))) ∧ (∀ a_ j_ : Nat, ¬ (a_ = 338 ∧ j_ = 16) → bpat h' a_ j_ = bpat h_ a_ j_) ∧ (bldD 60 205 17 [(2, .int v2), (1, .int v1_), (4, .int v4_), (3, .int v3), (0, .index 338)] [] h_ 77 [(3, .int (50 : Int32)), (2, .int v2), (1, .int v1_), (4, .int v4_), (0, .index 338)] [.index 338] h'))) := by
  have hA : yas saJ50B_A (saJ50B_r v1_ v2 v3 v4_ v300 v316 v317) (yg saJ50B_s) := ⟨List.forall_mem_cons.mpr ⟨b0, fun q_ hq => absurd hq List.not_mem_nil⟩, fun q_ hq => absurd hq List.not_mem_nil, fun q_ hq => absurd hq List.not_mem_nil, fun n_ hn => yg_lo hn, fun q_ hq => absurd hq List.not_mem_nil⟩
  have Hs : ysh saJ50B_A.1 (yg saJ50B_s) h_ := ysh_of2 hs (fun q_ hq => absurd hq List.not_mem_nil)
  have Ho : ymem (saJ50B_r v1_ v2 v3 v4_ v300 v316 v317) (yg saJ50B_s) saJ50B_O h_ := List.forall_mem_cons.mpr ⟨bpat_some o0_, List.forall_mem_cons.mpr ⟨bpat_some o1, List.forall_mem_cons.mpr ⟨bpat_some (fxr_at hs.2 (show fxk fxl 338 4 = some 342 by decide +kernel)), List.forall_mem_cons.mpr ⟨bpat_some o2, List.forall_mem_cons.mpr ⟨bpat_some o3_, fun q_ hq => absurd hq List.not_mem_nil⟩⟩⟩⟩⟩
  have HC : ∀ q_ ∈ saJ50B_C, xhold (saJ50B_r v1_ v2 v3 v4_ v300 v316 v317) q_ := List.forall_mem_cons.mpr ⟨xh_leT c0_, List.forall_mem_cons.mpr ⟨xh_eqT2 c1_, fun q_ hq => absurd hq List.not_mem_nil⟩⟩
  rcases yrun (yis_ok saJ50B_k) hA Hs Ho HC with ⟨q_, hq, h', K_, G_⟩ | ⟨q_, hq, h', K_, G_⟩
  · have e_ := List.mem_singleton.mp hq
    subst e_
    exact ⟨h', yfr_sm K_.2.2.2 hs K_.1 (ywa_s saJ50B_w List.mem_cons_self), ⟨bpat_of (K_.2.1 _ List.mem_cons_self), fun a_ j_ n0_ => yfr_bp K_.2.2.2 (List.forall_mem_cons.mpr ⟨fun e_ => n0_ ⟨e_.1.symm, e_.2.symm⟩, fun q_ hq => absurd hq List.not_mem_nil⟩), G_⟩⟩
  · cases hq
-- saK50000B: 16 steps, 1 ends, 0 returns
def saK50000B_L : List (Nat × Nat × Nat) := []
def saK50000B_O : yO := []
def saK50000B_A : yA := (yZ saK50000B_L, [], [], [], [])
def saK50000B_C : List xB := []
def saK50000B_ss : List yS := [(17, [(2, .int 0), (1, .int 0), (4, .int 0), (3, .int 50), (0, .index 338)], [], [], [], [])]
def saK50000B_rs : List yR := []
theorem saK50000B_w : ywa saK50000B_A saK50000B_ss saK50000B_rs = true := by decide +kernel
theorem saK50000B_k : yis (yev saK50000B_A 3000 60 205 [17] (80, [(3, .int 50), (2, .int 0), (1, .int 0), (4, .arg 4), (0, .index 338)], [.int 0], saK50000B_O, saK50000B_C, [])) saK50000B_ss saK50000B_rs = true := by decide +kernel
def saK50000B_r (v4_ : Int32) (k_ : Nat) : Value := bif Nat.beq k_ 4 then .int v4_ else (.int 0)
def saK50000B_s (n_ : Nat) : Nat := 0
theorem saK50000B {h_ : xH} {v4_ : Int32} (hs : sHp h_) : ∃ h', ysm h_ h' ∧ (((∀ a_ j_ : Nat, bpat h' a_ j_ = bpat h_ a_ j_) ∧ (bldD 60 205 80 [(3, .int (50 : Int32)), (2, .int (0 : Int32)), (1, .int (0 : Int32)), (4, .int v4_), (0, .index 338)] [.int (0 : Int32)] h_ 17 [(2, .int (0 : Int32)), (1, .int (0 : Int32)), (4, .int (0 : Int32)), (3, .int (50 : Int32)), (0, .index 338)] [] h'))) := by
  have hA : yas saK50000B_A (saK50000B_r v4_) (yg saK50000B_s) := ⟨fun q_ hq => absurd hq List.not_mem_nil, fun q_ hq => absurd hq List.not_mem_nil, fun q_ hq => absurd hq List.not_mem_nil, fun n_ hn => yg_lo hn, fun q_ hq => absurd hq List.not_mem_nil⟩
  have Hs : ysh saK50000B_A.1 (yg saK50000B_s) h_ := ysh_of2 hs (fun q_ hq => absurd hq List.not_mem_nil)
  have Ho : ymem (saK50000B_r v4_) (yg saK50000B_s) saK50000B_O h_ := fun q_ hq => absurd hq List.not_mem_nil
  have HC : ∀ q_ ∈ saK50000B_C, xhold (saK50000B_r v4_) q_ := fun q_ hq => absurd hq List.not_mem_nil
  rcases yrun (yis_ok saK50000B_k) hA Hs Ho HC with ⟨q_, hq, h', K_, G_⟩ | ⟨q_, hq, h', K_, G_⟩
  · have e_ := List.mem_singleton.mp hq
    subst e_
    exact ⟨h', yfr_sm K_.2.2.2 hs K_.1 (ywa_s saK50000B_w List.mem_cons_self), ⟨fun a_ j_ => yfr_bp K_.2.2.2 (fun q_ hq => absurd hq List.not_mem_nil), G_⟩⟩
  · cases hq
-- saK50001B: 16 steps, 1 ends, 0 returns
def saK50001B_L : List (Nat × Nat × Nat) := []
def saK50001B_O : yO := []
def saK50001B_A : yA := (yZ saK50001B_L, [], [], [], [])
def saK50001B_C : List xB := []
def saK50001B_ss : List yS := [(17, [(2, .int 0), (1, .int 0), (4, .int 1), (3, .int 50), (0, .index 338)], [], [], [], [])]
def saK50001B_rs : List yR := []
theorem saK50001B_w : ywa saK50001B_A saK50001B_ss saK50001B_rs = true := by decide +kernel
theorem saK50001B_k : yis (yev saK50001B_A 3000 60 205 [17] (80, [(3, .int 50), (2, .int 0), (1, .int 0), (4, .arg 4), (0, .index 338)], [.int 1], saK50001B_O, saK50001B_C, [])) saK50001B_ss saK50001B_rs = true := by decide +kernel
def saK50001B_r (v4_ : Int32) (k_ : Nat) : Value := bif Nat.beq k_ 4 then .int v4_ else (.int 0)
def saK50001B_s (n_ : Nat) : Nat := 0
theorem saK50001B {h_ : xH} {v4_ : Int32} (hs : sHp h_) : ∃ h', ysm h_ h' ∧ (((∀ a_ j_ : Nat, bpat h' a_ j_ = bpat h_ a_ j_) ∧ (bldD 60 205 80 [(3, .int (50 : Int32)), (2, .int (0 : Int32)), (1, .int (0 : Int32)), (4, .int v4_), (0, .index 338)] [.int (1 : Int32)] h_ 17 [(2, .int (0 : Int32)), (1, .int (0 : Int32)), (4, .int (1 : Int32)), (3, .int (50 : Int32)), (0, .index 338)] [] h'))) := by
  have hA : yas saK50001B_A (saK50001B_r v4_) (yg saK50001B_s) := ⟨fun q_ hq => absurd hq List.not_mem_nil, fun q_ hq => absurd hq List.not_mem_nil, fun q_ hq => absurd hq List.not_mem_nil, fun n_ hn => yg_lo hn, fun q_ hq => absurd hq List.not_mem_nil⟩
  have Hs : ysh saK50001B_A.1 (yg saK50001B_s) h_ := ysh_of2 hs (fun q_ hq => absurd hq List.not_mem_nil)
  have Ho : ymem (saK50001B_r v4_) (yg saK50001B_s) saK50001B_O h_ := fun q_ hq => absurd hq List.not_mem_nil
  have HC : ∀ q_ ∈ saK50001B_C, xhold (saK50001B_r v4_) q_ := fun q_ hq => absurd hq List.not_mem_nil
  rcases yrun (yis_ok saK50001B_k) hA Hs Ho HC with ⟨q_, hq, h', K_, G_⟩ | ⟨q_, hq, h', K_, G_⟩
  · have e_ := List.mem_singleton.mp hq
    subst e_
    exact ⟨h', yfr_sm K_.2.2.2 hs K_.1 (ywa_s saK50001B_w List.mem_cons_self), ⟨fun a_ j_ => yfr_bp K_.2.2.2 (fun q_ hq => absurd hq List.not_mem_nil), G_⟩⟩
  · cases hq
-- saK50010B: 18 steps, 1 ends, 0 returns
def saK50010B_L : List (Nat × Nat × Nat) := []
def saK50010B_O : yO := []
def saK50010B_A : yA := (yZ saK50010B_L, [], [], [], [])
def saK50010B_C : List xB := []
def saK50010B_ss : List yS := [(17, [(2, .int 0), (1, .int 0), (4, .int 0), (3, .int 50), (0, .index 338)], [], [], [], [])]
def saK50010B_rs : List yR := []
theorem saK50010B_w : ywa saK50010B_A saK50010B_ss saK50010B_rs = true := by decide +kernel
theorem saK50010B_k : yis (yev saK50010B_A 3000 60 205 [17] (80, [(3, .int 50), (2, .int 1), (1, .int 0), (4, .arg 4), (0, .index 338)], [.int 0], saK50010B_O, saK50010B_C, [])) saK50010B_ss saK50010B_rs = true := by decide +kernel
def saK50010B_r (v4_ : Int32) (k_ : Nat) : Value := bif Nat.beq k_ 4 then .int v4_ else (.int 0)
def saK50010B_s (n_ : Nat) : Nat := 0
theorem saK50010B {h_ : xH} {v4_ : Int32} (hs : sHp h_) : ∃ h', ysm h_ h' ∧ (((∀ a_ j_ : Nat, bpat h' a_ j_ = bpat h_ a_ j_) ∧ (bldD 60 205 80 [(3, .int (50 : Int32)), (2, .int (1 : Int32)), (1, .int (0 : Int32)), (4, .int v4_), (0, .index 338)] [.int (0 : Int32)] h_ 17 [(2, .int (0 : Int32)), (1, .int (0 : Int32)), (4, .int (0 : Int32)), (3, .int (50 : Int32)), (0, .index 338)] [] h'))) := by
  have hA : yas saK50010B_A (saK50010B_r v4_) (yg saK50010B_s) := ⟨fun q_ hq => absurd hq List.not_mem_nil, fun q_ hq => absurd hq List.not_mem_nil, fun q_ hq => absurd hq List.not_mem_nil, fun n_ hn => yg_lo hn, fun q_ hq => absurd hq List.not_mem_nil⟩
  have Hs : ysh saK50010B_A.1 (yg saK50010B_s) h_ := ysh_of2 hs (fun q_ hq => absurd hq List.not_mem_nil)
  have Ho : ymem (saK50010B_r v4_) (yg saK50010B_s) saK50010B_O h_ := fun q_ hq => absurd hq List.not_mem_nil
  have HC : ∀ q_ ∈ saK50010B_C, xhold (saK50010B_r v4_) q_ := fun q_ hq => absurd hq List.not_mem_nil
  rcases yrun (yis_ok saK50010B_k) hA Hs Ho HC with ⟨q_, hq, h', K_, G_⟩ | ⟨q_, hq, h', K_, G_⟩
  · have e_ := List.mem_singleton.mp hq
    subst e_
    exact ⟨h', yfr_sm K_.2.2.2 hs K_.1 (ywa_s saK50010B_w List.mem_cons_self), ⟨fun a_ j_ => yfr_bp K_.2.2.2 (fun q_ hq => absurd hq List.not_mem_nil), G_⟩⟩
  · cases hq
-- saK50011B: 19 steps, 1 ends, 0 returns
def saK50011B_L : List (Nat × Nat × Nat) := []
def saK50011B_O : yO := []
def saK50011B_A : yA := (yZ saK50011B_L, [], [], [], [])
def saK50011B_C : List xB := []
def saK50011B_ss : List yS := [(17, [(2, .int 1), (1, .int 0), (4, .int 1), (3, .int 50), (0, .index 338)], [], [], [], [])]
def saK50011B_rs : List yR := []
theorem saK50011B_w : ywa saK50011B_A saK50011B_ss saK50011B_rs = true := by decide +kernel
theorem saK50011B_k : yis (yev saK50011B_A 3000 60 205 [17] (80, [(3, .int 50), (2, .int 1), (1, .int 0), (4, .arg 4), (0, .index 338)], [.int 1], saK50011B_O, saK50011B_C, [])) saK50011B_ss saK50011B_rs = true := by decide +kernel
def saK50011B_r (v4_ : Int32) (k_ : Nat) : Value := bif Nat.beq k_ 4 then .int v4_ else (.int 0)
def saK50011B_s (n_ : Nat) : Nat := 0
theorem saK50011B {h_ : xH} {v4_ : Int32} (hs : sHp h_) : ∃ h', ysm h_ h' ∧ (((∀ a_ j_ : Nat, bpat h' a_ j_ = bpat h_ a_ j_) ∧ (bldD 60 205 80 [(3, .int (50 : Int32)), (2, .int (1 : Int32)), (1, .int (0 : Int32)), (4, .int v4_), (0, .index 338)] [.int (1 : Int32)] h_ 17 [(2, .int (1 : Int32)), (1, .int (0 : Int32)), (4, .int (1 : Int32)), (3, .int (50 : Int32)), (0, .index 338)] [] h'))) := by
  have hA : yas saK50011B_A (saK50011B_r v4_) (yg saK50011B_s) := ⟨fun q_ hq => absurd hq List.not_mem_nil, fun q_ hq => absurd hq List.not_mem_nil, fun q_ hq => absurd hq List.not_mem_nil, fun n_ hn => yg_lo hn, fun q_ hq => absurd hq List.not_mem_nil⟩
  have Hs : ysh saK50011B_A.1 (yg saK50011B_s) h_ := ysh_of2 hs (fun q_ hq => absurd hq List.not_mem_nil)
  have Ho : ymem (saK50011B_r v4_) (yg saK50011B_s) saK50011B_O h_ := fun q_ hq => absurd hq List.not_mem_nil
  have HC : ∀ q_ ∈ saK50011B_C, xhold (saK50011B_r v4_) q_ := fun q_ hq => absurd hq List.not_mem_nil
  rcases yrun (yis_ok saK50011B_k) hA Hs Ho HC with ⟨q_, hq, h', K_, G_⟩ | ⟨q_, hq, h', K_, G_⟩
  · have e_ := List.mem_singleton.mp hq
    subst e_
    exact ⟨h', yfr_sm K_.2.2.2 hs K_.1 (ywa_s saK50011B_w List.mem_cons_self), ⟨fun a_ j_ => yfr_bp K_.2.2.2 (fun q_ hq => absurd hq List.not_mem_nil), G_⟩⟩
  · cases hq
-- saK50100B: 14 steps, 1 ends, 0 returns
def saK50100B_L : List (Nat × Nat × Nat) := []
def saK50100B_O : yO := []
def saK50100B_A : yA := (yZ saK50100B_L, [], [], [], [])
def saK50100B_C : List xB := []
def saK50100B_ss : List yS := [(17, [(2, .int 0), (1, .int 1), (4, .int 0), (3, .int 50), (0, .index 338)], [], [], [], [])]
def saK50100B_rs : List yR := []
theorem saK50100B_w : ywa saK50100B_A saK50100B_ss saK50100B_rs = true := by decide +kernel
theorem saK50100B_k : yis (yev saK50100B_A 3000 60 205 [17] (80, [(3, .int 50), (2, .int 0), (1, .int 1), (4, .arg 4), (0, .index 338)], [.int 0], saK50100B_O, saK50100B_C, [])) saK50100B_ss saK50100B_rs = true := by decide +kernel
def saK50100B_r (v4_ : Int32) (k_ : Nat) : Value := bif Nat.beq k_ 4 then .int v4_ else (.int 0)
def saK50100B_s (n_ : Nat) : Nat := 0
theorem saK50100B {h_ : xH} {v4_ : Int32} (hs : sHp h_) : ∃ h', ysm h_ h' ∧ (((∀ a_ j_ : Nat, bpat h' a_ j_ = bpat h_ a_ j_) ∧ (bldD 60 205 80 [(3, .int (50 : Int32)), (2, .int (0 : Int32)), (1, .int (1 : Int32)), (4, .int v4_), (0, .index 338)] [.int (0 : Int32)] h_ 17 [(2, .int (0 : Int32)), (1, .int (1 : Int32)), (4, .int (0 : Int32)), (3, .int (50 : Int32)), (0, .index 338)] [] h'))) := by
  have hA : yas saK50100B_A (saK50100B_r v4_) (yg saK50100B_s) := ⟨fun q_ hq => absurd hq List.not_mem_nil, fun q_ hq => absurd hq List.not_mem_nil, fun q_ hq => absurd hq List.not_mem_nil, fun n_ hn => yg_lo hn, fun q_ hq => absurd hq List.not_mem_nil⟩
  have Hs : ysh saK50100B_A.1 (yg saK50100B_s) h_ := ysh_of2 hs (fun q_ hq => absurd hq List.not_mem_nil)
  have Ho : ymem (saK50100B_r v4_) (yg saK50100B_s) saK50100B_O h_ := fun q_ hq => absurd hq List.not_mem_nil
  have HC : ∀ q_ ∈ saK50100B_C, xhold (saK50100B_r v4_) q_ := fun q_ hq => absurd hq List.not_mem_nil
  rcases yrun (yis_ok saK50100B_k) hA Hs Ho HC with ⟨q_, hq, h', K_, G_⟩ | ⟨q_, hq, h', K_, G_⟩
  · have e_ := List.mem_singleton.mp hq
    subst e_
    exact ⟨h', yfr_sm K_.2.2.2 hs K_.1 (ywa_s saK50100B_w List.mem_cons_self), ⟨fun a_ j_ => yfr_bp K_.2.2.2 (fun q_ hq => absurd hq List.not_mem_nil), G_⟩⟩
  · cases hq
-- saK50101B: 14 steps, 1 ends, 0 returns
def saK50101B_L : List (Nat × Nat × Nat) := []
def saK50101B_O : yO := []
def saK50101B_A : yA := (yZ saK50101B_L, [], [], [], [])
def saK50101B_C : List xB := []
def saK50101B_ss : List yS := [(17, [(2, .int 0), (1, .int 1), (4, .int 1), (3, .int 50), (0, .index 338)], [], [], [], [])]
def saK50101B_rs : List yR := []
theorem saK50101B_w : ywa saK50101B_A saK50101B_ss saK50101B_rs = true := by decide +kernel
theorem saK50101B_k : yis (yev saK50101B_A 3000 60 205 [17] (80, [(3, .int 50), (2, .int 0), (1, .int 1), (4, .arg 4), (0, .index 338)], [.int 1], saK50101B_O, saK50101B_C, [])) saK50101B_ss saK50101B_rs = true := by decide +kernel
def saK50101B_r (v4_ : Int32) (k_ : Nat) : Value := bif Nat.beq k_ 4 then .int v4_ else (.int 0)
def saK50101B_s (n_ : Nat) : Nat := 0
theorem saK50101B {h_ : xH} {v4_ : Int32} (hs : sHp h_) : ∃ h', ysm h_ h' ∧ (((∀ a_ j_ : Nat, bpat h' a_ j_ = bpat h_ a_ j_) ∧ (bldD 60 205 80 [(3, .int (50 : Int32)), (2, .int (0 : Int32)), (1, .int (1 : Int32)), (4, .int v4_), (0, .index 338)] [.int (1 : Int32)] h_ 17 [(2, .int (0 : Int32)), (1, .int (1 : Int32)), (4, .int (1 : Int32)), (3, .int (50 : Int32)), (0, .index 338)] [] h'))) := by
  have hA : yas saK50101B_A (saK50101B_r v4_) (yg saK50101B_s) := ⟨fun q_ hq => absurd hq List.not_mem_nil, fun q_ hq => absurd hq List.not_mem_nil, fun q_ hq => absurd hq List.not_mem_nil, fun n_ hn => yg_lo hn, fun q_ hq => absurd hq List.not_mem_nil⟩
  have Hs : ysh saK50101B_A.1 (yg saK50101B_s) h_ := ysh_of2 hs (fun q_ hq => absurd hq List.not_mem_nil)
  have Ho : ymem (saK50101B_r v4_) (yg saK50101B_s) saK50101B_O h_ := fun q_ hq => absurd hq List.not_mem_nil
  have HC : ∀ q_ ∈ saK50101B_C, xhold (saK50101B_r v4_) q_ := fun q_ hq => absurd hq List.not_mem_nil
  rcases yrun (yis_ok saK50101B_k) hA Hs Ho HC with ⟨q_, hq, h', K_, G_⟩ | ⟨q_, hq, h', K_, G_⟩
  · have e_ := List.mem_singleton.mp hq
    subst e_
    exact ⟨h', yfr_sm K_.2.2.2 hs K_.1 (ywa_s saK50101B_w List.mem_cons_self), ⟨fun a_ j_ => yfr_bp K_.2.2.2 (fun q_ hq => absurd hq List.not_mem_nil), G_⟩⟩
  · cases hq
-- saK50110B: 16 steps, 1 ends, 0 returns
def saK50110B_L : List (Nat × Nat × Nat) := []
def saK50110B_O : yO := []
def saK50110B_A : yA := (yZ saK50110B_L, [], [], [], [])
def saK50110B_C : List xB := []
def saK50110B_ss : List yS := [(17, [(2, .int 0), (1, .int 1), (4, .int 0), (3, .int 50), (0, .index 338)], [], [], [], [])]
def saK50110B_rs : List yR := []
theorem saK50110B_w : ywa saK50110B_A saK50110B_ss saK50110B_rs = true := by decide +kernel
theorem saK50110B_k : yis (yev saK50110B_A 3000 60 205 [17] (80, [(3, .int 50), (2, .int 1), (1, .int 1), (4, .arg 4), (0, .index 338)], [.int 0], saK50110B_O, saK50110B_C, [])) saK50110B_ss saK50110B_rs = true := by decide +kernel
def saK50110B_r (v4_ : Int32) (k_ : Nat) : Value := bif Nat.beq k_ 4 then .int v4_ else (.int 0)
def saK50110B_s (n_ : Nat) : Nat := 0
theorem saK50110B {h_ : xH} {v4_ : Int32} (hs : sHp h_) : ∃ h', ysm h_ h' ∧ (((∀ a_ j_ : Nat, bpat h' a_ j_ = bpat h_ a_ j_) ∧ (bldD 60 205 80 [(3, .int (50 : Int32)), (2, .int (1 : Int32)), (1, .int (1 : Int32)), (4, .int v4_), (0, .index 338)] [.int (0 : Int32)] h_ 17 [(2, .int (0 : Int32)), (1, .int (1 : Int32)), (4, .int (0 : Int32)), (3, .int (50 : Int32)), (0, .index 338)] [] h'))) := by
  have hA : yas saK50110B_A (saK50110B_r v4_) (yg saK50110B_s) := ⟨fun q_ hq => absurd hq List.not_mem_nil, fun q_ hq => absurd hq List.not_mem_nil, fun q_ hq => absurd hq List.not_mem_nil, fun n_ hn => yg_lo hn, fun q_ hq => absurd hq List.not_mem_nil⟩
  have Hs : ysh saK50110B_A.1 (yg saK50110B_s) h_ := ysh_of2 hs (fun q_ hq => absurd hq List.not_mem_nil)
  have Ho : ymem (saK50110B_r v4_) (yg saK50110B_s) saK50110B_O h_ := fun q_ hq => absurd hq List.not_mem_nil
  have HC : ∀ q_ ∈ saK50110B_C, xhold (saK50110B_r v4_) q_ := fun q_ hq => absurd hq List.not_mem_nil
  rcases yrun (yis_ok saK50110B_k) hA Hs Ho HC with ⟨q_, hq, h', K_, G_⟩ | ⟨q_, hq, h', K_, G_⟩
  · have e_ := List.mem_singleton.mp hq
    subst e_
    exact ⟨h', yfr_sm K_.2.2.2 hs K_.1 (ywa_s saK50110B_w List.mem_cons_self), ⟨fun a_ j_ => yfr_bp K_.2.2.2 (fun q_ hq => absurd hq List.not_mem_nil), G_⟩⟩
  · cases hq
-- saK50111B: 17 steps, 1 ends, 0 returns
def saK50111B_L : List (Nat × Nat × Nat) := []
def saK50111B_O : yO := []
def saK50111B_A : yA := (yZ saK50111B_L, [], [], [], [])
def saK50111B_C : List xB := []
def saK50111B_ss : List yS := [(17, [(2, .int 1), (1, .int 1), (4, .int 1), (3, .int 50), (0, .index 338)], [], [], [], [])]
def saK50111B_rs : List yR := []
theorem saK50111B_w : ywa saK50111B_A saK50111B_ss saK50111B_rs = true := by decide +kernel
theorem saK50111B_k : yis (yev saK50111B_A 3000 60 205 [17] (80, [(3, .int 50), (2, .int 1), (1, .int 1), (4, .arg 4), (0, .index 338)], [.int 1], saK50111B_O, saK50111B_C, [])) saK50111B_ss saK50111B_rs = true := by decide +kernel
def saK50111B_r (v4_ : Int32) (k_ : Nat) : Value := bif Nat.beq k_ 4 then .int v4_ else (.int 0)
def saK50111B_s (n_ : Nat) : Nat := 0
theorem saK50111B {h_ : xH} {v4_ : Int32} (hs : sHp h_) : ∃ h', ysm h_ h' ∧ (((∀ a_ j_ : Nat, bpat h' a_ j_ = bpat h_ a_ j_) ∧ (bldD 60 205 80 [(3, .int (50 : Int32)), (2, .int (1 : Int32)), (1, .int (1 : Int32)), (4, .int v4_), (0, .index 338)] [.int (1 : Int32)] h_ 17 [(2, .int (1 : Int32)), (1, .int (1 : Int32)), (4, .int (1 : Int32)), (3, .int (50 : Int32)), (0, .index 338)] [] h'))) := by
  have hA : yas saK50111B_A (saK50111B_r v4_) (yg saK50111B_s) := ⟨fun q_ hq => absurd hq List.not_mem_nil, fun q_ hq => absurd hq List.not_mem_nil, fun q_ hq => absurd hq List.not_mem_nil, fun n_ hn => yg_lo hn, fun q_ hq => absurd hq List.not_mem_nil⟩
  have Hs : ysh saK50111B_A.1 (yg saK50111B_s) h_ := ysh_of2 hs (fun q_ hq => absurd hq List.not_mem_nil)
  have Ho : ymem (saK50111B_r v4_) (yg saK50111B_s) saK50111B_O h_ := fun q_ hq => absurd hq List.not_mem_nil
  have HC : ∀ q_ ∈ saK50111B_C, xhold (saK50111B_r v4_) q_ := fun q_ hq => absurd hq List.not_mem_nil
  rcases yrun (yis_ok saK50111B_k) hA Hs Ho HC with ⟨q_, hq, h', K_, G_⟩ | ⟨q_, hq, h', K_, G_⟩
  · have e_ := List.mem_singleton.mp hq
    subst e_
    exact ⟨h', yfr_sm K_.2.2.2 hs K_.1 (ywa_s saK50111B_w List.mem_cons_self), ⟨fun a_ j_ => yfr_bp K_.2.2.2 (fun q_ hq => absurd hq List.not_mem_nil), G_⟩⟩
  · cases hq
-- saJ51B: 40 steps, 1 ends, 0 returns
def saJ51B_L : List (Nat × Nat × Nat) := []
def saJ51B_O : yO := [(338, .int 17, .arg 317), (338, .int 16, .arg 316), (338, .int 4, .index 342), (342, .int 0, .arg 300), (342, .arg 316, .int 51)]
def saJ51B_A : yA := (yZ saJ51B_L, [(.arg 316, 13)], [], [], [])
def saJ51B_C : List xB := [(.le, .arg 316, .arg 300, true), (.eq, .arg 317, .int 0, true)]
def saJ51B_ss : List yS := [(77, [(3, .int 51), (2, .arg 2), (1, .arg 1), (4, .arg 4), (0, .index 338)], [.index 338], [(338, .int 16, .add (.arg 316) (.int 1)), (338, .int 17, .arg 317), (338, .int 4, .index 342), (342, .int 0, .arg 300), (342, .arg 316, .int 51)], [(.le, .arg 316, .arg 300, true), (.eq, .arg 317, .int 0, true)], [(338, .int 16)])]
def saJ51B_rs : List yR := []
theorem saJ51B_w : ywa saJ51B_A saJ51B_ss saJ51B_rs = true := by decide +kernel
theorem saJ51B_k : yis (yev saJ51B_A 3000 60 205 [77] (17, [(2, .arg 2), (1, .arg 1), (4, .arg 4), (3, .arg 3), (0, .index 338)], [], saJ51B_O, saJ51B_C, [])) saJ51B_ss saJ51B_rs = true := by decide +kernel
def saJ51B_r (v1_ v2 v3 v4_ v300 v316 v317 : Int32) (k_ : Nat) : Value := bif Nat.beq k_ 1 then .int v1_ else (bif Nat.beq k_ 2 then .int v2 else (bif Nat.beq k_ 3 then .int v3 else (bif Nat.beq k_ 4 then .int v4_ else (bif Nat.beq k_ 300 then .int v300 else (bif Nat.beq k_ 316 then .int v316 else (bif Nat.beq k_ 317 then .int v317 else (.int 0)))))))
def saJ51B_s (n_ : Nat) : Nat := 0
theorem saJ51B {h_ : xH} {v1_ v2 v3 v4_ v300 v316 v317 : Int32} (hs : sHp h_) (o0_ : bpat h_ 338 17 = some (.int v317)) (o1 : bpat h_ 338 16 = some (.int v316)) (o2 : bpat h_ 342 0 = some (.int v300)) (o3_ : bpat h_ 342 (v316).toInt.toNat = some (.int (51 : Int32))) (b0 : 0 ≤ (v316).toInt ∧ (v316).toInt < 13) (c0_ : v316.toInt ≤ v300.toInt) (c1_ : v317 = (0 : Int32)) : ∃ h', ysm h_ h' ∧ (((bpat h' 338 16 = some (.int (v316 + (1 : Int32)))) ∧ (∀ a_ j_ : Nat, ¬ (a_ = 338 ∧ j_ = 16) → bpat h' a_ j_ = bpat h_ a_ j_) ∧ (bldD 60 205 17 [(2, .int v2), (1, .int v1_), (4, .int v4_), (3, .int v3), (0, .index 338)] [] h_ 77 [(3, .int (51 : Int32)), (2, .int v2), (1, .int v1_), (4, .int v4_), (0, .index 338)] [.index 338] h'))) := by
  have hA : yas saJ51B_A (saJ51B_r v1_ v2 v3 v4_ v300 v316 v317) (yg saJ51B_s) := ⟨List.forall_mem_cons.mpr ⟨b0, fun q_ hq => absurd hq List.not_mem_nil⟩, fun q_ hq => absurd hq List.not_mem_nil, fun q_ hq => absurd hq List.not_mem_nil, fun n_ hn => yg_lo hn, fun q_ hq => absurd hq List.not_mem_nil⟩
  have Hs : ysh saJ51B_A.1 (yg saJ51B_s) h_ := ysh_of2 hs (fun q_ hq => absurd hq List.not_mem_nil)
  have Ho : ymem (saJ51B_r v1_ v2 v3 v4_ v300 v316 v317) (yg saJ51B_s) saJ51B_O h_ := List.forall_mem_cons.mpr ⟨bpat_some o0_, List.forall_mem_cons.mpr ⟨bpat_some o1, List.forall_mem_cons.mpr ⟨bpat_some (fxr_at hs.2 (show fxk fxl 338 4 = some 342 by decide +kernel)), List.forall_mem_cons.mpr ⟨bpat_some o2, List.forall_mem_cons.mpr ⟨bpat_some o3_, fun q_ hq => absurd hq List.not_mem_nil⟩⟩⟩⟩⟩
  have HC : ∀ q_ ∈ saJ51B_C, xhold (saJ51B_r v1_ v2 v3 v4_ v300 v316 v317) q_ := List.forall_mem_cons.mpr ⟨xh_leT c0_, List.forall_mem_cons.mpr ⟨xh_eqT2 c1_, fun q_ hq => absurd hq List.not_mem_nil⟩⟩
  rcases yrun (yis_ok saJ51B_k) hA Hs Ho HC with ⟨q_, hq, h', K_, G_⟩ | ⟨q_, hq, h', K_, G_⟩
  · have e_ := List.mem_singleton.mp hq
    subst e_
    exact ⟨h', yfr_sm K_.2.2.2 hs K_.1 (ywa_s saJ51B_w List.mem_cons_self), ⟨bpat_of (K_.2.1 _ List.mem_cons_self), fun a_ j_ n0_ => yfr_bp K_.2.2.2 (List.forall_mem_cons.mpr ⟨fun e_ => n0_ ⟨e_.1.symm, e_.2.symm⟩, fun q_ hq => absurd hq List.not_mem_nil⟩), G_⟩⟩
  · cases hq
-- saK51000B: 17 steps, 1 ends, 0 returns
def saK51000B_L : List (Nat × Nat × Nat) := []
def saK51000B_O : yO := []
def saK51000B_A : yA := (yZ saK51000B_L, [], [], [], [])
def saK51000B_C : List xB := []
def saK51000B_ss : List yS := [(17, [(2, .int 0), (1, .int 0), (4, .int 0), (3, .int 51), (0, .index 338)], [], [], [], [])]
def saK51000B_rs : List yR := []
theorem saK51000B_w : ywa saK51000B_A saK51000B_ss saK51000B_rs = true := by decide +kernel
theorem saK51000B_k : yis (yev saK51000B_A 3000 60 205 [17] (80, [(3, .int 51), (2, .int 0), (1, .int 0), (4, .arg 4), (0, .index 338)], [.int 0], saK51000B_O, saK51000B_C, [])) saK51000B_ss saK51000B_rs = true := by decide +kernel
def saK51000B_r (v4_ : Int32) (k_ : Nat) : Value := bif Nat.beq k_ 4 then .int v4_ else (.int 0)
def saK51000B_s (n_ : Nat) : Nat := 0
theorem saK51000B {h_ : xH} {v4_ : Int32} (hs : sHp h_) : ∃ h', ysm h_ h' ∧ (((∀ a_ j_ : Nat, bpat h' a_ j_ = bpat h_ a_ j_) ∧ (bldD 60 205 80 [(3, .int (51 : Int32)), (2, .int (0 : Int32)), (1, .int (0 : Int32)), (4, .int v4_), (0, .index 338)] [.int (0 : Int32)] h_ 17 [(2, .int (0 : Int32)), (1, .int (0 : Int32)), (4, .int (0 : Int32)), (3, .int (51 : Int32)), (0, .index 338)] [] h'))) := by
  have hA : yas saK51000B_A (saK51000B_r v4_) (yg saK51000B_s) := ⟨fun q_ hq => absurd hq List.not_mem_nil, fun q_ hq => absurd hq List.not_mem_nil, fun q_ hq => absurd hq List.not_mem_nil, fun n_ hn => yg_lo hn, fun q_ hq => absurd hq List.not_mem_nil⟩
  have Hs : ysh saK51000B_A.1 (yg saK51000B_s) h_ := ysh_of2 hs (fun q_ hq => absurd hq List.not_mem_nil)
  have Ho : ymem (saK51000B_r v4_) (yg saK51000B_s) saK51000B_O h_ := fun q_ hq => absurd hq List.not_mem_nil
  have HC : ∀ q_ ∈ saK51000B_C, xhold (saK51000B_r v4_) q_ := fun q_ hq => absurd hq List.not_mem_nil
  rcases yrun (yis_ok saK51000B_k) hA Hs Ho HC with ⟨q_, hq, h', K_, G_⟩ | ⟨q_, hq, h', K_, G_⟩
  · have e_ := List.mem_singleton.mp hq
    subst e_
    exact ⟨h', yfr_sm K_.2.2.2 hs K_.1 (ywa_s saK51000B_w List.mem_cons_self), ⟨fun a_ j_ => yfr_bp K_.2.2.2 (fun q_ hq => absurd hq List.not_mem_nil), G_⟩⟩
  · cases hq
-- saK51001B: 17 steps, 1 ends, 0 returns
def saK51001B_L : List (Nat × Nat × Nat) := []
def saK51001B_O : yO := []
def saK51001B_A : yA := (yZ saK51001B_L, [], [], [], [])
def saK51001B_C : List xB := []
def saK51001B_ss : List yS := [(17, [(2, .int 1), (1, .int 0), (4, .int 1), (3, .int 51), (0, .index 338)], [], [], [], [])]
def saK51001B_rs : List yR := []
theorem saK51001B_w : ywa saK51001B_A saK51001B_ss saK51001B_rs = true := by decide +kernel
theorem saK51001B_k : yis (yev saK51001B_A 3000 60 205 [17] (80, [(3, .int 51), (2, .int 0), (1, .int 0), (4, .arg 4), (0, .index 338)], [.int 1], saK51001B_O, saK51001B_C, [])) saK51001B_ss saK51001B_rs = true := by decide +kernel
def saK51001B_r (v4_ : Int32) (k_ : Nat) : Value := bif Nat.beq k_ 4 then .int v4_ else (.int 0)
def saK51001B_s (n_ : Nat) : Nat := 0
theorem saK51001B {h_ : xH} {v4_ : Int32} (hs : sHp h_) : ∃ h', ysm h_ h' ∧ (((∀ a_ j_ : Nat, bpat h' a_ j_ = bpat h_ a_ j_) ∧ (bldD 60 205 80 [(3, .int (51 : Int32)), (2, .int (0 : Int32)), (1, .int (0 : Int32)), (4, .int v4_), (0, .index 338)] [.int (1 : Int32)] h_ 17 [(2, .int (1 : Int32)), (1, .int (0 : Int32)), (4, .int (1 : Int32)), (3, .int (51 : Int32)), (0, .index 338)] [] h'))) := by
  have hA : yas saK51001B_A (saK51001B_r v4_) (yg saK51001B_s) := ⟨fun q_ hq => absurd hq List.not_mem_nil, fun q_ hq => absurd hq List.not_mem_nil, fun q_ hq => absurd hq List.not_mem_nil, fun n_ hn => yg_lo hn, fun q_ hq => absurd hq List.not_mem_nil⟩
  have Hs : ysh saK51001B_A.1 (yg saK51001B_s) h_ := ysh_of2 hs (fun q_ hq => absurd hq List.not_mem_nil)
  have Ho : ymem (saK51001B_r v4_) (yg saK51001B_s) saK51001B_O h_ := fun q_ hq => absurd hq List.not_mem_nil
  have HC : ∀ q_ ∈ saK51001B_C, xhold (saK51001B_r v4_) q_ := fun q_ hq => absurd hq List.not_mem_nil
  rcases yrun (yis_ok saK51001B_k) hA Hs Ho HC with ⟨q_, hq, h', K_, G_⟩ | ⟨q_, hq, h', K_, G_⟩
  · have e_ := List.mem_singleton.mp hq
    subst e_
    exact ⟨h', yfr_sm K_.2.2.2 hs K_.1 (ywa_s saK51001B_w List.mem_cons_self), ⟨fun a_ j_ => yfr_bp K_.2.2.2 (fun q_ hq => absurd hq List.not_mem_nil), G_⟩⟩
  · cases hq
-- saK51010B: 18 steps, 1 ends, 0 returns
def saK51010B_L : List (Nat × Nat × Nat) := []
def saK51010B_O : yO := []
def saK51010B_A : yA := (yZ saK51010B_L, [], [], [], [])
def saK51010B_C : List xB := []
def saK51010B_ss : List yS := [(17, [(2, .int 0), (1, .int 1), (4, .int 0), (3, .int 51), (0, .index 338)], [], [], [], [])]
def saK51010B_rs : List yR := []
theorem saK51010B_w : ywa saK51010B_A saK51010B_ss saK51010B_rs = true := by decide +kernel
theorem saK51010B_k : yis (yev saK51010B_A 3000 60 205 [17] (80, [(3, .int 51), (2, .int 1), (1, .int 0), (4, .arg 4), (0, .index 338)], [.int 0], saK51010B_O, saK51010B_C, [])) saK51010B_ss saK51010B_rs = true := by decide +kernel
def saK51010B_r (v4_ : Int32) (k_ : Nat) : Value := bif Nat.beq k_ 4 then .int v4_ else (.int 0)
def saK51010B_s (n_ : Nat) : Nat := 0
theorem saK51010B {h_ : xH} {v4_ : Int32} (hs : sHp h_) : ∃ h', ysm h_ h' ∧ (((∀ a_ j_ : Nat, bpat h' a_ j_ = bpat h_ a_ j_) ∧ (bldD 60 205 80 [(3, .int (51 : Int32)), (2, .int (1 : Int32)), (1, .int (0 : Int32)), (4, .int v4_), (0, .index 338)] [.int (0 : Int32)] h_ 17 [(2, .int (0 : Int32)), (1, .int (1 : Int32)), (4, .int (0 : Int32)), (3, .int (51 : Int32)), (0, .index 338)] [] h'))) := by
  have hA : yas saK51010B_A (saK51010B_r v4_) (yg saK51010B_s) := ⟨fun q_ hq => absurd hq List.not_mem_nil, fun q_ hq => absurd hq List.not_mem_nil, fun q_ hq => absurd hq List.not_mem_nil, fun n_ hn => yg_lo hn, fun q_ hq => absurd hq List.not_mem_nil⟩
  have Hs : ysh saK51010B_A.1 (yg saK51010B_s) h_ := ysh_of2 hs (fun q_ hq => absurd hq List.not_mem_nil)
  have Ho : ymem (saK51010B_r v4_) (yg saK51010B_s) saK51010B_O h_ := fun q_ hq => absurd hq List.not_mem_nil
  have HC : ∀ q_ ∈ saK51010B_C, xhold (saK51010B_r v4_) q_ := fun q_ hq => absurd hq List.not_mem_nil
  rcases yrun (yis_ok saK51010B_k) hA Hs Ho HC with ⟨q_, hq, h', K_, G_⟩ | ⟨q_, hq, h', K_, G_⟩
  · have e_ := List.mem_singleton.mp hq
    subst e_
    exact ⟨h', yfr_sm K_.2.2.2 hs K_.1 (ywa_s saK51010B_w List.mem_cons_self), ⟨fun a_ j_ => yfr_bp K_.2.2.2 (fun q_ hq => absurd hq List.not_mem_nil), G_⟩⟩
  · cases hq
-- saK51011B: 18 steps, 1 ends, 0 returns
def saK51011B_L : List (Nat × Nat × Nat) := []
def saK51011B_O : yO := []
def saK51011B_A : yA := (yZ saK51011B_L, [], [], [], [])
def saK51011B_C : List xB := []
def saK51011B_ss : List yS := [(17, [(2, .int 1), (1, .int 1), (4, .int 1), (3, .int 51), (0, .index 338)], [], [], [], [])]
def saK51011B_rs : List yR := []
theorem saK51011B_w : ywa saK51011B_A saK51011B_ss saK51011B_rs = true := by decide +kernel
theorem saK51011B_k : yis (yev saK51011B_A 3000 60 205 [17] (80, [(3, .int 51), (2, .int 1), (1, .int 0), (4, .arg 4), (0, .index 338)], [.int 1], saK51011B_O, saK51011B_C, [])) saK51011B_ss saK51011B_rs = true := by decide +kernel
def saK51011B_r (v4_ : Int32) (k_ : Nat) : Value := bif Nat.beq k_ 4 then .int v4_ else (.int 0)
def saK51011B_s (n_ : Nat) : Nat := 0
theorem saK51011B {h_ : xH} {v4_ : Int32} (hs : sHp h_) : ∃ h', ysm h_ h' ∧ (((∀ a_ j_ : Nat, bpat h' a_ j_ = bpat h_ a_ j_) ∧ (bldD 60 205 80 [(3, .int (51 : Int32)), (2, .int (1 : Int32)), (1, .int (0 : Int32)), (4, .int v4_), (0, .index 338)] [.int (1 : Int32)] h_ 17 [(2, .int (1 : Int32)), (1, .int (1 : Int32)), (4, .int (1 : Int32)), (3, .int (51 : Int32)), (0, .index 338)] [] h'))) := by
  have hA : yas saK51011B_A (saK51011B_r v4_) (yg saK51011B_s) := ⟨fun q_ hq => absurd hq List.not_mem_nil, fun q_ hq => absurd hq List.not_mem_nil, fun q_ hq => absurd hq List.not_mem_nil, fun n_ hn => yg_lo hn, fun q_ hq => absurd hq List.not_mem_nil⟩
  have Hs : ysh saK51011B_A.1 (yg saK51011B_s) h_ := ysh_of2 hs (fun q_ hq => absurd hq List.not_mem_nil)
  have Ho : ymem (saK51011B_r v4_) (yg saK51011B_s) saK51011B_O h_ := fun q_ hq => absurd hq List.not_mem_nil
  have HC : ∀ q_ ∈ saK51011B_C, xhold (saK51011B_r v4_) q_ := fun q_ hq => absurd hq List.not_mem_nil
  rcases yrun (yis_ok saK51011B_k) hA Hs Ho HC with ⟨q_, hq, h', K_, G_⟩ | ⟨q_, hq, h', K_, G_⟩
  · have e_ := List.mem_singleton.mp hq
    subst e_
    exact ⟨h', yfr_sm K_.2.2.2 hs K_.1 (ywa_s saK51011B_w List.mem_cons_self), ⟨fun a_ j_ => yfr_bp K_.2.2.2 (fun q_ hq => absurd hq List.not_mem_nil), G_⟩⟩
  · cases hq
-- saK51100B: 13 steps, 1 ends, 0 returns
def saK51100B_L : List (Nat × Nat × Nat) := []
def saK51100B_O : yO := []
def saK51100B_A : yA := (yZ saK51100B_L, [], [], [], [])
def saK51100B_C : List xB := []
def saK51100B_ss : List yS := [(17, [(2, .int 0), (1, .int 1), (4, .int 0), (3, .int 51), (0, .index 338)], [], [], [], [])]
def saK51100B_rs : List yR := []
theorem saK51100B_w : ywa saK51100B_A saK51100B_ss saK51100B_rs = true := by decide +kernel
theorem saK51100B_k : yis (yev saK51100B_A 3000 60 205 [17] (80, [(3, .int 51), (2, .int 0), (1, .int 1), (4, .arg 4), (0, .index 338)], [.int 0], saK51100B_O, saK51100B_C, [])) saK51100B_ss saK51100B_rs = true := by decide +kernel
def saK51100B_r (v4_ : Int32) (k_ : Nat) : Value := bif Nat.beq k_ 4 then .int v4_ else (.int 0)
def saK51100B_s (n_ : Nat) : Nat := 0
theorem saK51100B {h_ : xH} {v4_ : Int32} (hs : sHp h_) : ∃ h', ysm h_ h' ∧ (((∀ a_ j_ : Nat, bpat h' a_ j_ = bpat h_ a_ j_) ∧ (bldD 60 205 80 [(3, .int (51 : Int32)), (2, .int (0 : Int32)), (1, .int (1 : Int32)), (4, .int v4_), (0, .index 338)] [.int (0 : Int32)] h_ 17 [(2, .int (0 : Int32)), (1, .int (1 : Int32)), (4, .int (0 : Int32)), (3, .int (51 : Int32)), (0, .index 338)] [] h'))) := by
  have hA : yas saK51100B_A (saK51100B_r v4_) (yg saK51100B_s) := ⟨fun q_ hq => absurd hq List.not_mem_nil, fun q_ hq => absurd hq List.not_mem_nil, fun q_ hq => absurd hq List.not_mem_nil, fun n_ hn => yg_lo hn, fun q_ hq => absurd hq List.not_mem_nil⟩
  have Hs : ysh saK51100B_A.1 (yg saK51100B_s) h_ := ysh_of2 hs (fun q_ hq => absurd hq List.not_mem_nil)
  have Ho : ymem (saK51100B_r v4_) (yg saK51100B_s) saK51100B_O h_ := fun q_ hq => absurd hq List.not_mem_nil
  have HC : ∀ q_ ∈ saK51100B_C, xhold (saK51100B_r v4_) q_ := fun q_ hq => absurd hq List.not_mem_nil
  rcases yrun (yis_ok saK51100B_k) hA Hs Ho HC with ⟨q_, hq, h', K_, G_⟩ | ⟨q_, hq, h', K_, G_⟩
  · have e_ := List.mem_singleton.mp hq
    subst e_
    exact ⟨h', yfr_sm K_.2.2.2 hs K_.1 (ywa_s saK51100B_w List.mem_cons_self), ⟨fun a_ j_ => yfr_bp K_.2.2.2 (fun q_ hq => absurd hq List.not_mem_nil), G_⟩⟩
  · cases hq
-- saK51101B: 13 steps, 1 ends, 0 returns
def saK51101B_L : List (Nat × Nat × Nat) := []
def saK51101B_O : yO := []
def saK51101B_A : yA := (yZ saK51101B_L, [], [], [], [])
def saK51101B_C : List xB := []
def saK51101B_ss : List yS := [(17, [(2, .int 1), (1, .int 1), (4, .int 1), (3, .int 51), (0, .index 338)], [], [], [], [])]
def saK51101B_rs : List yR := []
theorem saK51101B_w : ywa saK51101B_A saK51101B_ss saK51101B_rs = true := by decide +kernel
theorem saK51101B_k : yis (yev saK51101B_A 3000 60 205 [17] (80, [(3, .int 51), (2, .int 0), (1, .int 1), (4, .arg 4), (0, .index 338)], [.int 1], saK51101B_O, saK51101B_C, [])) saK51101B_ss saK51101B_rs = true := by decide +kernel
def saK51101B_r (v4_ : Int32) (k_ : Nat) : Value := bif Nat.beq k_ 4 then .int v4_ else (.int 0)
def saK51101B_s (n_ : Nat) : Nat := 0
theorem saK51101B {h_ : xH} {v4_ : Int32} (hs : sHp h_) : ∃ h', ysm h_ h' ∧ (((∀ a_ j_ : Nat, bpat h' a_ j_ = bpat h_ a_ j_) ∧ (bldD 60 205 80 [(3, .int (51 : Int32)), (2, .int (0 : Int32)), (1, .int (1 : Int32)), (4, .int v4_), (0, .index 338)] [.int (1 : Int32)] h_ 17 [(2, .int (1 : Int32)), (1, .int (1 : Int32)), (4, .int (1 : Int32)), (3, .int (51 : Int32)), (0, .index 338)] [] h'))) := by
  have hA : yas saK51101B_A (saK51101B_r v4_) (yg saK51101B_s) := ⟨fun q_ hq => absurd hq List.not_mem_nil, fun q_ hq => absurd hq List.not_mem_nil, fun q_ hq => absurd hq List.not_mem_nil, fun n_ hn => yg_lo hn, fun q_ hq => absurd hq List.not_mem_nil⟩
  have Hs : ysh saK51101B_A.1 (yg saK51101B_s) h_ := ysh_of2 hs (fun q_ hq => absurd hq List.not_mem_nil)
  have Ho : ymem (saK51101B_r v4_) (yg saK51101B_s) saK51101B_O h_ := fun q_ hq => absurd hq List.not_mem_nil
  have HC : ∀ q_ ∈ saK51101B_C, xhold (saK51101B_r v4_) q_ := fun q_ hq => absurd hq List.not_mem_nil
  rcases yrun (yis_ok saK51101B_k) hA Hs Ho HC with ⟨q_, hq, h', K_, G_⟩ | ⟨q_, hq, h', K_, G_⟩
  · have e_ := List.mem_singleton.mp hq
    subst e_
    exact ⟨h', yfr_sm K_.2.2.2 hs K_.1 (ywa_s saK51101B_w List.mem_cons_self), ⟨fun a_ j_ => yfr_bp K_.2.2.2 (fun q_ hq => absurd hq List.not_mem_nil), G_⟩⟩
  · cases hq
-- saK51110B: 13 steps, 1 ends, 0 returns
def saK51110B_L : List (Nat × Nat × Nat) := []
def saK51110B_O : yO := []
def saK51110B_A : yA := (yZ saK51110B_L, [], [], [], [])
def saK51110B_C : List xB := []
def saK51110B_ss : List yS := [(17, [(2, .int 0), (1, .int 1), (4, .int 0), (3, .int 51), (0, .index 338)], [], [], [], [])]
def saK51110B_rs : List yR := []
theorem saK51110B_w : ywa saK51110B_A saK51110B_ss saK51110B_rs = true := by decide +kernel
theorem saK51110B_k : yis (yev saK51110B_A 3000 60 205 [17] (80, [(3, .int 51), (2, .int 1), (1, .int 1), (4, .arg 4), (0, .index 338)], [.int 0], saK51110B_O, saK51110B_C, [])) saK51110B_ss saK51110B_rs = true := by decide +kernel
def saK51110B_r (v4_ : Int32) (k_ : Nat) : Value := bif Nat.beq k_ 4 then .int v4_ else (.int 0)
def saK51110B_s (n_ : Nat) : Nat := 0
theorem saK51110B {h_ : xH} {v4_ : Int32} (hs : sHp h_) : ∃ h', ysm h_ h' ∧ (((∀ a_ j_ : Nat, bpat h' a_ j_ = bpat h_ a_ j_) ∧ (bldD 60 205 80 [(3, .int (51 : Int32)), (2, .int (1 : Int32)), (1, .int (1 : Int32)), (4, .int v4_), (0, .index 338)] [.int (0 : Int32)] h_ 17 [(2, .int (0 : Int32)), (1, .int (1 : Int32)), (4, .int (0 : Int32)), (3, .int (51 : Int32)), (0, .index 338)] [] h'))) := by
  have hA : yas saK51110B_A (saK51110B_r v4_) (yg saK51110B_s) := ⟨fun q_ hq => absurd hq List.not_mem_nil, fun q_ hq => absurd hq List.not_mem_nil, fun q_ hq => absurd hq List.not_mem_nil, fun n_ hn => yg_lo hn, fun q_ hq => absurd hq List.not_mem_nil⟩
  have Hs : ysh saK51110B_A.1 (yg saK51110B_s) h_ := ysh_of2 hs (fun q_ hq => absurd hq List.not_mem_nil)
  have Ho : ymem (saK51110B_r v4_) (yg saK51110B_s) saK51110B_O h_ := fun q_ hq => absurd hq List.not_mem_nil
  have HC : ∀ q_ ∈ saK51110B_C, xhold (saK51110B_r v4_) q_ := fun q_ hq => absurd hq List.not_mem_nil
  rcases yrun (yis_ok saK51110B_k) hA Hs Ho HC with ⟨q_, hq, h', K_, G_⟩ | ⟨q_, hq, h', K_, G_⟩
  · have e_ := List.mem_singleton.mp hq
    subst e_
    exact ⟨h', yfr_sm K_.2.2.2 hs K_.1 (ywa_s saK51110B_w List.mem_cons_self), ⟨fun a_ j_ => yfr_bp K_.2.2.2 (fun q_ hq => absurd hq List.not_mem_nil), G_⟩⟩
  · cases hq
-- saK51111B: 13 steps, 1 ends, 0 returns
def saK51111B_L : List (Nat × Nat × Nat) := []
def saK51111B_O : yO := []
def saK51111B_A : yA := (yZ saK51111B_L, [], [], [], [])
def saK51111B_C : List xB := []
def saK51111B_ss : List yS := [(17, [(2, .int 1), (1, .int 1), (4, .int 1), (3, .int 51), (0, .index 338)], [], [], [], [])]
def saK51111B_rs : List yR := []
theorem saK51111B_w : ywa saK51111B_A saK51111B_ss saK51111B_rs = true := by decide +kernel
theorem saK51111B_k : yis (yev saK51111B_A 3000 60 205 [17] (80, [(3, .int 51), (2, .int 1), (1, .int 1), (4, .arg 4), (0, .index 338)], [.int 1], saK51111B_O, saK51111B_C, [])) saK51111B_ss saK51111B_rs = true := by decide +kernel
def saK51111B_r (v4_ : Int32) (k_ : Nat) : Value := bif Nat.beq k_ 4 then .int v4_ else (.int 0)
def saK51111B_s (n_ : Nat) : Nat := 0
theorem saK51111B {h_ : xH} {v4_ : Int32} (hs : sHp h_) : ∃ h', ysm h_ h' ∧ (((∀ a_ j_ : Nat, bpat h' a_ j_ = bpat h_ a_ j_) ∧ (bldD 60 205 80 [(3, .int (51 : Int32)), (2, .int (1 : Int32)), (1, .int (1 : Int32)), (4, .int v4_), (0, .index 338)] [.int (1 : Int32)] h_ 17 [(2, .int (1 : Int32)), (1, .int (1 : Int32)), (4, .int (1 : Int32)), (3, .int (51 : Int32)), (0, .index 338)] [] h'))) := by
  have hA : yas saK51111B_A (saK51111B_r v4_) (yg saK51111B_s) := ⟨fun q_ hq => absurd hq List.not_mem_nil, fun q_ hq => absurd hq List.not_mem_nil, fun q_ hq => absurd hq List.not_mem_nil, fun n_ hn => yg_lo hn, fun q_ hq => absurd hq List.not_mem_nil⟩
  have Hs : ysh saK51111B_A.1 (yg saK51111B_s) h_ := ysh_of2 hs (fun q_ hq => absurd hq List.not_mem_nil)
  have Ho : ymem (saK51111B_r v4_) (yg saK51111B_s) saK51111B_O h_ := fun q_ hq => absurd hq List.not_mem_nil
  have HC : ∀ q_ ∈ saK51111B_C, xhold (saK51111B_r v4_) q_ := fun q_ hq => absurd hq List.not_mem_nil
  rcases yrun (yis_ok saK51111B_k) hA Hs Ho HC with ⟨q_, hq, h', K_, G_⟩ | ⟨q_, hq, h', K_, G_⟩
  · have e_ := List.mem_singleton.mp hq
    subst e_
    exact ⟨h', yfr_sm K_.2.2.2 hs K_.1 (ywa_s saK51111B_w List.mem_cons_self), ⟨fun a_ j_ => yfr_bp K_.2.2.2 (fun q_ hq => absurd hq List.not_mem_nil), G_⟩⟩
  · cases hq
-- saR00A: 6 steps, 0 ends, 1 returns
def saR00A_L : List (Nat × Nat × Nat) := []
def saR00A_O : yO := []
def saR00A_A : yA := (yZ saR00A_L, [], [], [], [])
def saR00A_C : List xB := []
def saR00A_ss : List yS := []
def saR00A_rs : List yR := [(some (.int 0), [], [], [])]
theorem saR00A_w : ywa saR00A_A saR00A_ss saR00A_rs = true := by decide +kernel
theorem saR00A_k : yis (yev saR00A_A 3000 60 205 [] (131, [(2, .int 0), (1, .int 0), (0, .index 338)], [], saR00A_O, saR00A_C, [])) saR00A_ss saR00A_rs = true := by decide +kernel
def saR00A_r (k_ : Nat) : Value := .int 0
def saR00A_s (n_ : Nat) : Nat := 0
theorem saR00A {h_ : xH} (hs : sHp h_) : ∃ h', ysm h_ h' ∧ (((∀ a_ j_ : Nat, bpat h' a_ j_ = bpat h_ a_ j_) ∧ (∀ D_, 60 ≤ D_ → xrun D_ 205 131 [(2, .int (0 : Int32)), (1, .int (0 : Int32)), (0, .index 338)] [] h_ (some (.int (0 : Int32)), h', [])))) := by
  have hA : yas saR00A_A saR00A_r (yg saR00A_s) := ⟨fun q_ hq => absurd hq List.not_mem_nil, fun q_ hq => absurd hq List.not_mem_nil, fun q_ hq => absurd hq List.not_mem_nil, fun n_ hn => yg_lo hn, fun q_ hq => absurd hq List.not_mem_nil⟩
  have Hs : ysh saR00A_A.1 (yg saR00A_s) h_ := ysh_of2 hs (fun q_ hq => absurd hq List.not_mem_nil)
  have Ho : ymem saR00A_r (yg saR00A_s) saR00A_O h_ := fun q_ hq => absurd hq List.not_mem_nil
  have HC : ∀ q_ ∈ saR00A_C, xhold saR00A_r q_ := fun q_ hq => absurd hq List.not_mem_nil
  rcases yrun (yis_ok saR00A_k) hA Hs Ho HC with ⟨q_, hq, h', K_, G_⟩ | ⟨q_, hq, h', K_, G_⟩
  · cases hq
  · have e_ := List.mem_singleton.mp hq
    subst e_
    exact ⟨h', yfr_sm K_.2.2.2 hs K_.1 (ywa_r saR00A_w List.mem_cons_self), ⟨fun a_ j_ => yfr_bp K_.2.2.2 (fun q_ hq => absurd hq List.not_mem_nil), G_⟩⟩
-- saR00B: 6 steps, 0 ends, 1 returns
def saR00B_L : List (Nat × Nat × Nat) := []
def saR00B_O : yO := []
def saR00B_A : yA := (yZ saR00B_L, [], [], [], [])
def saR00B_C : List xB := []
def saR00B_ss : List yS := []
def saR00B_rs : List yR := [(some (.int 0), [], [], [])]
theorem saR00B_w : ywa saR00B_A saR00B_ss saR00B_rs = true := by decide +kernel
theorem saR00B_k : yis (yev saR00B_A 3000 60 205 [] (131, [(2, .int 0), (1, .int 0), (4, .arg 4), (3, .arg 3), (0, .index 338)], [], saR00B_O, saR00B_C, [])) saR00B_ss saR00B_rs = true := by decide +kernel
def saR00B_r (v3 v4_ : Int32) (k_ : Nat) : Value := bif Nat.beq k_ 3 then .int v3 else (bif Nat.beq k_ 4 then .int v4_ else (.int 0))
def saR00B_s (n_ : Nat) : Nat := 0
theorem saR00B {h_ : xH} {v3 v4_ : Int32} (hs : sHp h_) : ∃ h', ysm h_ h' ∧ (((∀ a_ j_ : Nat, bpat h' a_ j_ = bpat h_ a_ j_) ∧ (∀ D_, 60 ≤ D_ → xrun D_ 205 131 [(2, .int (0 : Int32)), (1, .int (0 : Int32)), (4, .int v4_), (3, .int v3), (0, .index 338)] [] h_ (some (.int (0 : Int32)), h', [])))) := by
  have hA : yas saR00B_A (saR00B_r v3 v4_) (yg saR00B_s) := ⟨fun q_ hq => absurd hq List.not_mem_nil, fun q_ hq => absurd hq List.not_mem_nil, fun q_ hq => absurd hq List.not_mem_nil, fun n_ hn => yg_lo hn, fun q_ hq => absurd hq List.not_mem_nil⟩
  have Hs : ysh saR00B_A.1 (yg saR00B_s) h_ := ysh_of2 hs (fun q_ hq => absurd hq List.not_mem_nil)
  have Ho : ymem (saR00B_r v3 v4_) (yg saR00B_s) saR00B_O h_ := fun q_ hq => absurd hq List.not_mem_nil
  have HC : ∀ q_ ∈ saR00B_C, xhold (saR00B_r v3 v4_) q_ := fun q_ hq => absurd hq List.not_mem_nil
  rcases yrun (yis_ok saR00B_k) hA Hs Ho HC with ⟨q_, hq, h', K_, G_⟩ | ⟨q_, hq, h', K_, G_⟩
  · cases hq
  · have e_ := List.mem_singleton.mp hq
    subst e_
    exact ⟨h', yfr_sm K_.2.2.2 hs K_.1 (ywa_r saR00B_w List.mem_cons_self), ⟨fun a_ j_ => yfr_bp K_.2.2.2 (fun q_ hq => absurd hq List.not_mem_nil), G_⟩⟩
-- saR00NA: 6 steps, 0 ends, 1 returns
def saR00NA_L : List (Nat × Nat × Nat) := []
def saR00NA_O : yO := []
def saR00NA_A : yA := (yZ saR00NA_L, [], [], [], [])
def saR00NA_C : List xB := []
def saR00NA_ss : List yS := []
def saR00NA_rs : List yR := [(some (.int 0), [], [], [])]
theorem saR00NA_w : ywa saR00NA_A saR00NA_ss saR00NA_rs = true := by decide +kernel
theorem saR00NA_k : yis (yev saR00NA_A 3000 60 205 [] (131, [(3, .arg 3), (2, .int 0), (1, .int 0), (0, .index 338)], [], saR00NA_O, saR00NA_C, [])) saR00NA_ss saR00NA_rs = true := by decide +kernel
def saR00NA_r (v3 : Int32) (k_ : Nat) : Value := bif Nat.beq k_ 3 then .int v3 else (.int 0)
def saR00NA_s (n_ : Nat) : Nat := 0
theorem saR00NA {h_ : xH} {v3 : Int32} (hs : sHp h_) : ∃ h', ysm h_ h' ∧ (((∀ a_ j_ : Nat, bpat h' a_ j_ = bpat h_ a_ j_) ∧ (∀ D_, 60 ≤ D_ → xrun D_ 205 131 [(3, .int v3), (2, .int (0 : Int32)), (1, .int (0 : Int32)), (0, .index 338)] [] h_ (some (.int (0 : Int32)), h', [])))) := by
  have hA : yas saR00NA_A (saR00NA_r v3) (yg saR00NA_s) := ⟨fun q_ hq => absurd hq List.not_mem_nil, fun q_ hq => absurd hq List.not_mem_nil, fun q_ hq => absurd hq List.not_mem_nil, fun n_ hn => yg_lo hn, fun q_ hq => absurd hq List.not_mem_nil⟩
  have Hs : ysh saR00NA_A.1 (yg saR00NA_s) h_ := ysh_of2 hs (fun q_ hq => absurd hq List.not_mem_nil)
  have Ho : ymem (saR00NA_r v3) (yg saR00NA_s) saR00NA_O h_ := fun q_ hq => absurd hq List.not_mem_nil
  have HC : ∀ q_ ∈ saR00NA_C, xhold (saR00NA_r v3) q_ := fun q_ hq => absurd hq List.not_mem_nil
  rcases yrun (yis_ok saR00NA_k) hA Hs Ho HC with ⟨q_, hq, h', K_, G_⟩ | ⟨q_, hq, h', K_, G_⟩
  · cases hq
  · have e_ := List.mem_singleton.mp hq
    subst e_
    exact ⟨h', yfr_sm K_.2.2.2 hs K_.1 (ywa_r saR00NA_w List.mem_cons_self), ⟨fun a_ j_ => yfr_bp K_.2.2.2 (fun q_ hq => absurd hq List.not_mem_nil), G_⟩⟩
-- saR00NB: 6 steps, 0 ends, 1 returns
def saR00NB_L : List (Nat × Nat × Nat) := []
def saR00NB_O : yO := []
def saR00NB_A : yA := (yZ saR00NB_L, [], [], [], [])
def saR00NB_C : List xB := []
def saR00NB_ss : List yS := []
def saR00NB_rs : List yR := [(some (.int 0), [], [], [])]
theorem saR00NB_w : ywa saR00NB_A saR00NB_ss saR00NB_rs = true := by decide +kernel
theorem saR00NB_k : yis (yev saR00NB_A 3000 60 205 [] (131, [(3, .arg 3), (2, .int 0), (1, .int 0), (4, .arg 4), (0, .index 338)], [], saR00NB_O, saR00NB_C, [])) saR00NB_ss saR00NB_rs = true := by decide +kernel
def saR00NB_r (v3 v4_ : Int32) (k_ : Nat) : Value := bif Nat.beq k_ 3 then .int v3 else (bif Nat.beq k_ 4 then .int v4_ else (.int 0))
def saR00NB_s (n_ : Nat) : Nat := 0
theorem saR00NB {h_ : xH} {v3 v4_ : Int32} (hs : sHp h_) : ∃ h', ysm h_ h' ∧ (((∀ a_ j_ : Nat, bpat h' a_ j_ = bpat h_ a_ j_) ∧ (∀ D_, 60 ≤ D_ → xrun D_ 205 131 [(3, .int v3), (2, .int (0 : Int32)), (1, .int (0 : Int32)), (4, .int v4_), (0, .index 338)] [] h_ (some (.int (0 : Int32)), h', [])))) := by
  have hA : yas saR00NB_A (saR00NB_r v3 v4_) (yg saR00NB_s) := ⟨fun q_ hq => absurd hq List.not_mem_nil, fun q_ hq => absurd hq List.not_mem_nil, fun q_ hq => absurd hq List.not_mem_nil, fun n_ hn => yg_lo hn, fun q_ hq => absurd hq List.not_mem_nil⟩
  have Hs : ysh saR00NB_A.1 (yg saR00NB_s) h_ := ysh_of2 hs (fun q_ hq => absurd hq List.not_mem_nil)
  have Ho : ymem (saR00NB_r v3 v4_) (yg saR00NB_s) saR00NB_O h_ := fun q_ hq => absurd hq List.not_mem_nil
  have HC : ∀ q_ ∈ saR00NB_C, xhold (saR00NB_r v3 v4_) q_ := fun q_ hq => absurd hq List.not_mem_nil
  rcases yrun (yis_ok saR00NB_k) hA Hs Ho HC with ⟨q_, hq, h', K_, G_⟩ | ⟨q_, hq, h', K_, G_⟩
  · cases hq
  · have e_ := List.mem_singleton.mp hq
    subst e_
    exact ⟨h', yfr_sm K_.2.2.2 hs K_.1 (ywa_r saR00NB_w List.mem_cons_self), ⟨fun a_ j_ => yfr_bp K_.2.2.2 (fun q_ hq => absurd hq List.not_mem_nil), G_⟩⟩
-- saR01A: 7 steps, 0 ends, 1 returns
def saR01A_L : List (Nat × Nat × Nat) := []
def saR01A_O : yO := []
def saR01A_A : yA := (yZ saR01A_L, [], [], [], [])
def saR01A_C : List xB := []
def saR01A_ss : List yS := []
def saR01A_rs : List yR := [(some (.int 1), [], [], [])]
theorem saR01A_w : ywa saR01A_A saR01A_ss saR01A_rs = true := by decide +kernel
theorem saR01A_k : yis (yev saR01A_A 3000 60 205 [] (131, [(2, .int 1), (1, .int 0), (0, .index 338)], [], saR01A_O, saR01A_C, [])) saR01A_ss saR01A_rs = true := by decide +kernel
def saR01A_r (k_ : Nat) : Value := .int 0
def saR01A_s (n_ : Nat) : Nat := 0
theorem saR01A {h_ : xH} (hs : sHp h_) : ∃ h', ysm h_ h' ∧ (((∀ a_ j_ : Nat, bpat h' a_ j_ = bpat h_ a_ j_) ∧ (∀ D_, 60 ≤ D_ → xrun D_ 205 131 [(2, .int (1 : Int32)), (1, .int (0 : Int32)), (0, .index 338)] [] h_ (some (.int (1 : Int32)), h', [])))) := by
  have hA : yas saR01A_A saR01A_r (yg saR01A_s) := ⟨fun q_ hq => absurd hq List.not_mem_nil, fun q_ hq => absurd hq List.not_mem_nil, fun q_ hq => absurd hq List.not_mem_nil, fun n_ hn => yg_lo hn, fun q_ hq => absurd hq List.not_mem_nil⟩
  have Hs : ysh saR01A_A.1 (yg saR01A_s) h_ := ysh_of2 hs (fun q_ hq => absurd hq List.not_mem_nil)
  have Ho : ymem saR01A_r (yg saR01A_s) saR01A_O h_ := fun q_ hq => absurd hq List.not_mem_nil
  have HC : ∀ q_ ∈ saR01A_C, xhold saR01A_r q_ := fun q_ hq => absurd hq List.not_mem_nil
  rcases yrun (yis_ok saR01A_k) hA Hs Ho HC with ⟨q_, hq, h', K_, G_⟩ | ⟨q_, hq, h', K_, G_⟩
  · cases hq
  · have e_ := List.mem_singleton.mp hq
    subst e_
    exact ⟨h', yfr_sm K_.2.2.2 hs K_.1 (ywa_r saR01A_w List.mem_cons_self), ⟨fun a_ j_ => yfr_bp K_.2.2.2 (fun q_ hq => absurd hq List.not_mem_nil), G_⟩⟩
-- saR01B: 7 steps, 0 ends, 1 returns
def saR01B_L : List (Nat × Nat × Nat) := []
def saR01B_O : yO := []
def saR01B_A : yA := (yZ saR01B_L, [], [], [], [])
def saR01B_C : List xB := []
def saR01B_ss : List yS := []
def saR01B_rs : List yR := [(some (.int 1), [], [], [])]
theorem saR01B_w : ywa saR01B_A saR01B_ss saR01B_rs = true := by decide +kernel
theorem saR01B_k : yis (yev saR01B_A 3000 60 205 [] (131, [(2, .int 1), (1, .int 0), (4, .arg 4), (3, .arg 3), (0, .index 338)], [], saR01B_O, saR01B_C, [])) saR01B_ss saR01B_rs = true := by decide +kernel
def saR01B_r (v3 v4_ : Int32) (k_ : Nat) : Value := bif Nat.beq k_ 3 then .int v3 else (bif Nat.beq k_ 4 then .int v4_ else (.int 0))
def saR01B_s (n_ : Nat) : Nat := 0
theorem saR01B {h_ : xH} {v3 v4_ : Int32} (hs : sHp h_) : ∃ h', ysm h_ h' ∧ (((∀ a_ j_ : Nat, bpat h' a_ j_ = bpat h_ a_ j_) ∧ (∀ D_, 60 ≤ D_ → xrun D_ 205 131 [(2, .int (1 : Int32)), (1, .int (0 : Int32)), (4, .int v4_), (3, .int v3), (0, .index 338)] [] h_ (some (.int (1 : Int32)), h', [])))) := by
  have hA : yas saR01B_A (saR01B_r v3 v4_) (yg saR01B_s) := ⟨fun q_ hq => absurd hq List.not_mem_nil, fun q_ hq => absurd hq List.not_mem_nil, fun q_ hq => absurd hq List.not_mem_nil, fun n_ hn => yg_lo hn, fun q_ hq => absurd hq List.not_mem_nil⟩
  have Hs : ysh saR01B_A.1 (yg saR01B_s) h_ := ysh_of2 hs (fun q_ hq => absurd hq List.not_mem_nil)
  have Ho : ymem (saR01B_r v3 v4_) (yg saR01B_s) saR01B_O h_ := fun q_ hq => absurd hq List.not_mem_nil
  have HC : ∀ q_ ∈ saR01B_C, xhold (saR01B_r v3 v4_) q_ := fun q_ hq => absurd hq List.not_mem_nil
  rcases yrun (yis_ok saR01B_k) hA Hs Ho HC with ⟨q_, hq, h', K_, G_⟩ | ⟨q_, hq, h', K_, G_⟩
  · cases hq
  · have e_ := List.mem_singleton.mp hq
    subst e_
    exact ⟨h', yfr_sm K_.2.2.2 hs K_.1 (ywa_r saR01B_w List.mem_cons_self), ⟨fun a_ j_ => yfr_bp K_.2.2.2 (fun q_ hq => absurd hq List.not_mem_nil), G_⟩⟩
-- saR01NA: 7 steps, 0 ends, 1 returns
def saR01NA_L : List (Nat × Nat × Nat) := []
def saR01NA_O : yO := []
def saR01NA_A : yA := (yZ saR01NA_L, [], [], [], [])
def saR01NA_C : List xB := []
def saR01NA_ss : List yS := []
def saR01NA_rs : List yR := [(some (.int 1), [], [], [])]
theorem saR01NA_w : ywa saR01NA_A saR01NA_ss saR01NA_rs = true := by decide +kernel
theorem saR01NA_k : yis (yev saR01NA_A 3000 60 205 [] (131, [(3, .arg 3), (2, .int 1), (1, .int 0), (0, .index 338)], [], saR01NA_O, saR01NA_C, [])) saR01NA_ss saR01NA_rs = true := by decide +kernel
def saR01NA_r (v3 : Int32) (k_ : Nat) : Value := bif Nat.beq k_ 3 then .int v3 else (.int 0)
def saR01NA_s (n_ : Nat) : Nat := 0
theorem saR01NA {h_ : xH} {v3 : Int32} (hs : sHp h_) : ∃ h', ysm h_ h' ∧ (((∀ a_ j_ : Nat, bpat h' a_ j_ = bpat h_ a_ j_) ∧ (∀ D_, 60 ≤ D_ → xrun D_ 205 131 [(3, .int v3), (2, .int (1 : Int32)), (1, .int (0 : Int32)), (0, .index 338)] [] h_ (some (.int (1 : Int32)), h', [])))) := by
  have hA : yas saR01NA_A (saR01NA_r v3) (yg saR01NA_s) := ⟨fun q_ hq => absurd hq List.not_mem_nil, fun q_ hq => absurd hq List.not_mem_nil, fun q_ hq => absurd hq List.not_mem_nil, fun n_ hn => yg_lo hn, fun q_ hq => absurd hq List.not_mem_nil⟩
  have Hs : ysh saR01NA_A.1 (yg saR01NA_s) h_ := ysh_of2 hs (fun q_ hq => absurd hq List.not_mem_nil)
  have Ho : ymem (saR01NA_r v3) (yg saR01NA_s) saR01NA_O h_ := fun q_ hq => absurd hq List.not_mem_nil
  have HC : ∀ q_ ∈ saR01NA_C, xhold (saR01NA_r v3) q_ := fun q_ hq => absurd hq List.not_mem_nil
  rcases yrun (yis_ok saR01NA_k) hA Hs Ho HC with ⟨q_, hq, h', K_, G_⟩ | ⟨q_, hq, h', K_, G_⟩
  · cases hq
  · have e_ := List.mem_singleton.mp hq
    subst e_
    exact ⟨h', yfr_sm K_.2.2.2 hs K_.1 (ywa_r saR01NA_w List.mem_cons_self), ⟨fun a_ j_ => yfr_bp K_.2.2.2 (fun q_ hq => absurd hq List.not_mem_nil), G_⟩⟩
-- saR01NB: 7 steps, 0 ends, 1 returns
def saR01NB_L : List (Nat × Nat × Nat) := []
def saR01NB_O : yO := []
def saR01NB_A : yA := (yZ saR01NB_L, [], [], [], [])
def saR01NB_C : List xB := []
def saR01NB_ss : List yS := []
def saR01NB_rs : List yR := [(some (.int 1), [], [], [])]
theorem saR01NB_w : ywa saR01NB_A saR01NB_ss saR01NB_rs = true := by decide +kernel
theorem saR01NB_k : yis (yev saR01NB_A 3000 60 205 [] (131, [(3, .arg 3), (2, .int 1), (1, .int 0), (4, .arg 4), (0, .index 338)], [], saR01NB_O, saR01NB_C, [])) saR01NB_ss saR01NB_rs = true := by decide +kernel
def saR01NB_r (v3 v4_ : Int32) (k_ : Nat) : Value := bif Nat.beq k_ 3 then .int v3 else (bif Nat.beq k_ 4 then .int v4_ else (.int 0))
def saR01NB_s (n_ : Nat) : Nat := 0
theorem saR01NB {h_ : xH} {v3 v4_ : Int32} (hs : sHp h_) : ∃ h', ysm h_ h' ∧ (((∀ a_ j_ : Nat, bpat h' a_ j_ = bpat h_ a_ j_) ∧ (∀ D_, 60 ≤ D_ → xrun D_ 205 131 [(3, .int v3), (2, .int (1 : Int32)), (1, .int (0 : Int32)), (4, .int v4_), (0, .index 338)] [] h_ (some (.int (1 : Int32)), h', [])))) := by
  have hA : yas saR01NB_A (saR01NB_r v3 v4_) (yg saR01NB_s) := ⟨fun q_ hq => absurd hq List.not_mem_nil, fun q_ hq => absurd hq List.not_mem_nil, fun q_ hq => absurd hq List.not_mem_nil, fun n_ hn => yg_lo hn, fun q_ hq => absurd hq List.not_mem_nil⟩
  have Hs : ysh saR01NB_A.1 (yg saR01NB_s) h_ := ysh_of2 hs (fun q_ hq => absurd hq List.not_mem_nil)
  have Ho : ymem (saR01NB_r v3 v4_) (yg saR01NB_s) saR01NB_O h_ := fun q_ hq => absurd hq List.not_mem_nil
  have HC : ∀ q_ ∈ saR01NB_C, xhold (saR01NB_r v3 v4_) q_ := fun q_ hq => absurd hq List.not_mem_nil
  rcases yrun (yis_ok saR01NB_k) hA Hs Ho HC with ⟨q_, hq, h', K_, G_⟩ | ⟨q_, hq, h', K_, G_⟩
  · cases hq
  · have e_ := List.mem_singleton.mp hq
    subst e_
    exact ⟨h', yfr_sm K_.2.2.2 hs K_.1 (ywa_r saR01NB_w List.mem_cons_self), ⟨fun a_ j_ => yfr_bp K_.2.2.2 (fun q_ hq => absurd hq List.not_mem_nil), G_⟩⟩
-- saR10A: 5 steps, 0 ends, 1 returns
def saR10A_L : List (Nat × Nat × Nat) := []
def saR10A_O : yO := []
def saR10A_A : yA := (yZ saR10A_L, [], [], [], [])
def saR10A_C : List xB := []
def saR10A_ss : List yS := []
def saR10A_rs : List yR := [(some (.int 1), [], [], [])]
theorem saR10A_w : ywa saR10A_A saR10A_ss saR10A_rs = true := by decide +kernel
theorem saR10A_k : yis (yev saR10A_A 3000 60 205 [] (131, [(2, .int 0), (1, .int 1), (0, .index 338)], [], saR10A_O, saR10A_C, [])) saR10A_ss saR10A_rs = true := by decide +kernel
def saR10A_r (k_ : Nat) : Value := .int 0
def saR10A_s (n_ : Nat) : Nat := 0
theorem saR10A {h_ : xH} (hs : sHp h_) : ∃ h', ysm h_ h' ∧ (((∀ a_ j_ : Nat, bpat h' a_ j_ = bpat h_ a_ j_) ∧ (∀ D_, 60 ≤ D_ → xrun D_ 205 131 [(2, .int (0 : Int32)), (1, .int (1 : Int32)), (0, .index 338)] [] h_ (some (.int (1 : Int32)), h', [])))) := by
  have hA : yas saR10A_A saR10A_r (yg saR10A_s) := ⟨fun q_ hq => absurd hq List.not_mem_nil, fun q_ hq => absurd hq List.not_mem_nil, fun q_ hq => absurd hq List.not_mem_nil, fun n_ hn => yg_lo hn, fun q_ hq => absurd hq List.not_mem_nil⟩
  have Hs : ysh saR10A_A.1 (yg saR10A_s) h_ := ysh_of2 hs (fun q_ hq => absurd hq List.not_mem_nil)
  have Ho : ymem saR10A_r (yg saR10A_s) saR10A_O h_ := fun q_ hq => absurd hq List.not_mem_nil
  have HC : ∀ q_ ∈ saR10A_C, xhold saR10A_r q_ := fun q_ hq => absurd hq List.not_mem_nil
  rcases yrun (yis_ok saR10A_k) hA Hs Ho HC with ⟨q_, hq, h', K_, G_⟩ | ⟨q_, hq, h', K_, G_⟩
  · cases hq
  · have e_ := List.mem_singleton.mp hq
    subst e_
    exact ⟨h', yfr_sm K_.2.2.2 hs K_.1 (ywa_r saR10A_w List.mem_cons_self), ⟨fun a_ j_ => yfr_bp K_.2.2.2 (fun q_ hq => absurd hq List.not_mem_nil), G_⟩⟩
-- saR10B: 5 steps, 0 ends, 1 returns
def saR10B_L : List (Nat × Nat × Nat) := []
def saR10B_O : yO := []
def saR10B_A : yA := (yZ saR10B_L, [], [], [], [])
def saR10B_C : List xB := []
def saR10B_ss : List yS := []
def saR10B_rs : List yR := [(some (.int 1), [], [], [])]
theorem saR10B_w : ywa saR10B_A saR10B_ss saR10B_rs = true := by decide +kernel
theorem saR10B_k : yis (yev saR10B_A 3000 60 205 [] (131, [(2, .int 0), (1, .int 1), (4, .arg 4), (3, .arg 3), (0, .index 338)], [], saR10B_O, saR10B_C, [])) saR10B_ss saR10B_rs = true := by decide +kernel
def saR10B_r (v3 v4_ : Int32) (k_ : Nat) : Value := bif Nat.beq k_ 3 then .int v3 else (bif Nat.beq k_ 4 then .int v4_ else (.int 0))
def saR10B_s (n_ : Nat) : Nat := 0
theorem saR10B {h_ : xH} {v3 v4_ : Int32} (hs : sHp h_) : ∃ h', ysm h_ h' ∧ (((∀ a_ j_ : Nat, bpat h' a_ j_ = bpat h_ a_ j_) ∧ (∀ D_, 60 ≤ D_ → xrun D_ 205 131 [(2, .int (0 : Int32)), (1, .int (1 : Int32)), (4, .int v4_), (3, .int v3), (0, .index 338)] [] h_ (some (.int (1 : Int32)), h', [])))) := by
  have hA : yas saR10B_A (saR10B_r v3 v4_) (yg saR10B_s) := ⟨fun q_ hq => absurd hq List.not_mem_nil, fun q_ hq => absurd hq List.not_mem_nil, fun q_ hq => absurd hq List.not_mem_nil, fun n_ hn => yg_lo hn, fun q_ hq => absurd hq List.not_mem_nil⟩
  have Hs : ysh saR10B_A.1 (yg saR10B_s) h_ := ysh_of2 hs (fun q_ hq => absurd hq List.not_mem_nil)
  have Ho : ymem (saR10B_r v3 v4_) (yg saR10B_s) saR10B_O h_ := fun q_ hq => absurd hq List.not_mem_nil
  have HC : ∀ q_ ∈ saR10B_C, xhold (saR10B_r v3 v4_) q_ := fun q_ hq => absurd hq List.not_mem_nil
  rcases yrun (yis_ok saR10B_k) hA Hs Ho HC with ⟨q_, hq, h', K_, G_⟩ | ⟨q_, hq, h', K_, G_⟩
  · cases hq
  · have e_ := List.mem_singleton.mp hq
    subst e_
    exact ⟨h', yfr_sm K_.2.2.2 hs K_.1 (ywa_r saR10B_w List.mem_cons_self), ⟨fun a_ j_ => yfr_bp K_.2.2.2 (fun q_ hq => absurd hq List.not_mem_nil), G_⟩⟩
-- saR10NA: 5 steps, 0 ends, 1 returns
def saR10NA_L : List (Nat × Nat × Nat) := []
def saR10NA_O : yO := []
def saR10NA_A : yA := (yZ saR10NA_L, [], [], [], [])
def saR10NA_C : List xB := []
def saR10NA_ss : List yS := []
def saR10NA_rs : List yR := [(some (.int 1), [], [], [])]
theorem saR10NA_w : ywa saR10NA_A saR10NA_ss saR10NA_rs = true := by decide +kernel
theorem saR10NA_k : yis (yev saR10NA_A 3000 60 205 [] (131, [(3, .arg 3), (2, .int 0), (1, .int 1), (0, .index 338)], [], saR10NA_O, saR10NA_C, [])) saR10NA_ss saR10NA_rs = true := by decide +kernel
def saR10NA_r (v3 : Int32) (k_ : Nat) : Value := bif Nat.beq k_ 3 then .int v3 else (.int 0)
def saR10NA_s (n_ : Nat) : Nat := 0
theorem saR10NA {h_ : xH} {v3 : Int32} (hs : sHp h_) : ∃ h', ysm h_ h' ∧ (((∀ a_ j_ : Nat, bpat h' a_ j_ = bpat h_ a_ j_) ∧ (∀ D_, 60 ≤ D_ → xrun D_ 205 131 [(3, .int v3), (2, .int (0 : Int32)), (1, .int (1 : Int32)), (0, .index 338)] [] h_ (some (.int (1 : Int32)), h', [])))) := by
  have hA : yas saR10NA_A (saR10NA_r v3) (yg saR10NA_s) := ⟨fun q_ hq => absurd hq List.not_mem_nil, fun q_ hq => absurd hq List.not_mem_nil, fun q_ hq => absurd hq List.not_mem_nil, fun n_ hn => yg_lo hn, fun q_ hq => absurd hq List.not_mem_nil⟩
  have Hs : ysh saR10NA_A.1 (yg saR10NA_s) h_ := ysh_of2 hs (fun q_ hq => absurd hq List.not_mem_nil)
  have Ho : ymem (saR10NA_r v3) (yg saR10NA_s) saR10NA_O h_ := fun q_ hq => absurd hq List.not_mem_nil
  have HC : ∀ q_ ∈ saR10NA_C, xhold (saR10NA_r v3) q_ := fun q_ hq => absurd hq List.not_mem_nil
  rcases yrun (yis_ok saR10NA_k) hA Hs Ho HC with ⟨q_, hq, h', K_, G_⟩ | ⟨q_, hq, h', K_, G_⟩
  · cases hq
  · have e_ := List.mem_singleton.mp hq
    subst e_
    exact ⟨h', yfr_sm K_.2.2.2 hs K_.1 (ywa_r saR10NA_w List.mem_cons_self), ⟨fun a_ j_ => yfr_bp K_.2.2.2 (fun q_ hq => absurd hq List.not_mem_nil), G_⟩⟩
-- saR10NB: 5 steps, 0 ends, 1 returns
def saR10NB_L : List (Nat × Nat × Nat) := []
def saR10NB_O : yO := []
def saR10NB_A : yA := (yZ saR10NB_L, [], [], [], [])
def saR10NB_C : List xB := []
def saR10NB_ss : List yS := []
def saR10NB_rs : List yR := [(some (.int 1), [], [], [])]
theorem saR10NB_w : ywa saR10NB_A saR10NB_ss saR10NB_rs = true := by decide +kernel
theorem saR10NB_k : yis (yev saR10NB_A 3000 60 205 [] (131, [(3, .arg 3), (2, .int 0), (1, .int 1), (4, .arg 4), (0, .index 338)], [], saR10NB_O, saR10NB_C, [])) saR10NB_ss saR10NB_rs = true := by decide +kernel
def saR10NB_r (v3 v4_ : Int32) (k_ : Nat) : Value := bif Nat.beq k_ 3 then .int v3 else (bif Nat.beq k_ 4 then .int v4_ else (.int 0))
def saR10NB_s (n_ : Nat) : Nat := 0
theorem saR10NB {h_ : xH} {v3 v4_ : Int32} (hs : sHp h_) : ∃ h', ysm h_ h' ∧ (((∀ a_ j_ : Nat, bpat h' a_ j_ = bpat h_ a_ j_) ∧ (∀ D_, 60 ≤ D_ → xrun D_ 205 131 [(3, .int v3), (2, .int (0 : Int32)), (1, .int (1 : Int32)), (4, .int v4_), (0, .index 338)] [] h_ (some (.int (1 : Int32)), h', [])))) := by
  have hA : yas saR10NB_A (saR10NB_r v3 v4_) (yg saR10NB_s) := ⟨fun q_ hq => absurd hq List.not_mem_nil, fun q_ hq => absurd hq List.not_mem_nil, fun q_ hq => absurd hq List.not_mem_nil, fun n_ hn => yg_lo hn, fun q_ hq => absurd hq List.not_mem_nil⟩
  have Hs : ysh saR10NB_A.1 (yg saR10NB_s) h_ := ysh_of2 hs (fun q_ hq => absurd hq List.not_mem_nil)
  have Ho : ymem (saR10NB_r v3 v4_) (yg saR10NB_s) saR10NB_O h_ := fun q_ hq => absurd hq List.not_mem_nil
  have HC : ∀ q_ ∈ saR10NB_C, xhold (saR10NB_r v3 v4_) q_ := fun q_ hq => absurd hq List.not_mem_nil
  rcases yrun (yis_ok saR10NB_k) hA Hs Ho HC with ⟨q_, hq, h', K_, G_⟩ | ⟨q_, hq, h', K_, G_⟩
  · cases hq
  · have e_ := List.mem_singleton.mp hq
    subst e_
    exact ⟨h', yfr_sm K_.2.2.2 hs K_.1 (ywa_r saR10NB_w List.mem_cons_self), ⟨fun a_ j_ => yfr_bp K_.2.2.2 (fun q_ hq => absurd hq List.not_mem_nil), G_⟩⟩
-- saR11A: 5 steps, 0 ends, 1 returns
def saR11A_L : List (Nat × Nat × Nat) := []
def saR11A_O : yO := []
def saR11A_A : yA := (yZ saR11A_L, [], [], [], [])
def saR11A_C : List xB := []
def saR11A_ss : List yS := []
def saR11A_rs : List yR := [(some (.int 1), [], [], [])]
theorem saR11A_w : ywa saR11A_A saR11A_ss saR11A_rs = true := by decide +kernel
theorem saR11A_k : yis (yev saR11A_A 3000 60 205 [] (131, [(2, .int 1), (1, .int 1), (0, .index 338)], [], saR11A_O, saR11A_C, [])) saR11A_ss saR11A_rs = true := by decide +kernel
def saR11A_r (k_ : Nat) : Value := .int 0
def saR11A_s (n_ : Nat) : Nat := 0
theorem saR11A {h_ : xH} (hs : sHp h_) : ∃ h', ysm h_ h' ∧ (((∀ a_ j_ : Nat, bpat h' a_ j_ = bpat h_ a_ j_) ∧ (∀ D_, 60 ≤ D_ → xrun D_ 205 131 [(2, .int (1 : Int32)), (1, .int (1 : Int32)), (0, .index 338)] [] h_ (some (.int (1 : Int32)), h', [])))) := by
  have hA : yas saR11A_A saR11A_r (yg saR11A_s) := ⟨fun q_ hq => absurd hq List.not_mem_nil, fun q_ hq => absurd hq List.not_mem_nil, fun q_ hq => absurd hq List.not_mem_nil, fun n_ hn => yg_lo hn, fun q_ hq => absurd hq List.not_mem_nil⟩
  have Hs : ysh saR11A_A.1 (yg saR11A_s) h_ := ysh_of2 hs (fun q_ hq => absurd hq List.not_mem_nil)
  have Ho : ymem saR11A_r (yg saR11A_s) saR11A_O h_ := fun q_ hq => absurd hq List.not_mem_nil
  have HC : ∀ q_ ∈ saR11A_C, xhold saR11A_r q_ := fun q_ hq => absurd hq List.not_mem_nil
  rcases yrun (yis_ok saR11A_k) hA Hs Ho HC with ⟨q_, hq, h', K_, G_⟩ | ⟨q_, hq, h', K_, G_⟩
  · cases hq
  · have e_ := List.mem_singleton.mp hq
    subst e_
    exact ⟨h', yfr_sm K_.2.2.2 hs K_.1 (ywa_r saR11A_w List.mem_cons_self), ⟨fun a_ j_ => yfr_bp K_.2.2.2 (fun q_ hq => absurd hq List.not_mem_nil), G_⟩⟩
-- saR11B: 5 steps, 0 ends, 1 returns
def saR11B_L : List (Nat × Nat × Nat) := []
def saR11B_O : yO := []
def saR11B_A : yA := (yZ saR11B_L, [], [], [], [])
def saR11B_C : List xB := []
def saR11B_ss : List yS := []
def saR11B_rs : List yR := [(some (.int 1), [], [], [])]
theorem saR11B_w : ywa saR11B_A saR11B_ss saR11B_rs = true := by decide +kernel
theorem saR11B_k : yis (yev saR11B_A 3000 60 205 [] (131, [(2, .int 1), (1, .int 1), (4, .arg 4), (3, .arg 3), (0, .index 338)], [], saR11B_O, saR11B_C, [])) saR11B_ss saR11B_rs = true := by decide +kernel
def saR11B_r (v3 v4_ : Int32) (k_ : Nat) : Value := bif Nat.beq k_ 3 then .int v3 else (bif Nat.beq k_ 4 then .int v4_ else (.int 0))
def saR11B_s (n_ : Nat) : Nat := 0
theorem saR11B {h_ : xH} {v3 v4_ : Int32} (hs : sHp h_) : ∃ h', ysm h_ h' ∧ (((∀ a_ j_ : Nat, bpat h' a_ j_ = bpat h_ a_ j_) ∧ (∀ D_, 60 ≤ D_ → xrun D_ 205 131 [(2, .int (1 : Int32)), (1, .int (1 : Int32)), (4, .int v4_), (3, .int v3), (0, .index 338)] [] h_ (some (.int (1 : Int32)), h', [])))) := by
  have hA : yas saR11B_A (saR11B_r v3 v4_) (yg saR11B_s) := ⟨fun q_ hq => absurd hq List.not_mem_nil, fun q_ hq => absurd hq List.not_mem_nil, fun q_ hq => absurd hq List.not_mem_nil, fun n_ hn => yg_lo hn, fun q_ hq => absurd hq List.not_mem_nil⟩
  have Hs : ysh saR11B_A.1 (yg saR11B_s) h_ := ysh_of2 hs (fun q_ hq => absurd hq List.not_mem_nil)
  have Ho : ymem (saR11B_r v3 v4_) (yg saR11B_s) saR11B_O h_ := fun q_ hq => absurd hq List.not_mem_nil
  have HC : ∀ q_ ∈ saR11B_C, xhold (saR11B_r v3 v4_) q_ := fun q_ hq => absurd hq List.not_mem_nil
  rcases yrun (yis_ok saR11B_k) hA Hs Ho HC with ⟨q_, hq, h', K_, G_⟩ | ⟨q_, hq, h', K_, G_⟩
  · cases hq
  · have e_ := List.mem_singleton.mp hq
    subst e_
    exact ⟨h', yfr_sm K_.2.2.2 hs K_.1 (ywa_r saR11B_w List.mem_cons_self), ⟨fun a_ j_ => yfr_bp K_.2.2.2 (fun q_ hq => absurd hq List.not_mem_nil), G_⟩⟩
-- saR11NA: 5 steps, 0 ends, 1 returns
def saR11NA_L : List (Nat × Nat × Nat) := []
def saR11NA_O : yO := []
def saR11NA_A : yA := (yZ saR11NA_L, [], [], [], [])
def saR11NA_C : List xB := []
def saR11NA_ss : List yS := []
def saR11NA_rs : List yR := [(some (.int 1), [], [], [])]
theorem saR11NA_w : ywa saR11NA_A saR11NA_ss saR11NA_rs = true := by decide +kernel
theorem saR11NA_k : yis (yev saR11NA_A 3000 60 205 [] (131, [(3, .arg 3), (2, .int 1), (1, .int 1), (0, .index 338)], [], saR11NA_O, saR11NA_C, [])) saR11NA_ss saR11NA_rs = true := by decide +kernel
def saR11NA_r (v3 : Int32) (k_ : Nat) : Value := bif Nat.beq k_ 3 then .int v3 else (.int 0)
def saR11NA_s (n_ : Nat) : Nat := 0
theorem saR11NA {h_ : xH} {v3 : Int32} (hs : sHp h_) : ∃ h', ysm h_ h' ∧ (((∀ a_ j_ : Nat, bpat h' a_ j_ = bpat h_ a_ j_) ∧ (∀ D_, 60 ≤ D_ → xrun D_ 205 131 [(3, .int v3), (2, .int (1 : Int32)), (1, .int (1 : Int32)), (0, .index 338)] [] h_ (some (.int (1 : Int32)), h', [])))) := by
  have hA : yas saR11NA_A (saR11NA_r v3) (yg saR11NA_s) := ⟨fun q_ hq => absurd hq List.not_mem_nil, fun q_ hq => absurd hq List.not_mem_nil, fun q_ hq => absurd hq List.not_mem_nil, fun n_ hn => yg_lo hn, fun q_ hq => absurd hq List.not_mem_nil⟩
  have Hs : ysh saR11NA_A.1 (yg saR11NA_s) h_ := ysh_of2 hs (fun q_ hq => absurd hq List.not_mem_nil)
  have Ho : ymem (saR11NA_r v3) (yg saR11NA_s) saR11NA_O h_ := fun q_ hq => absurd hq List.not_mem_nil
  have HC : ∀ q_ ∈ saR11NA_C, xhold (saR11NA_r v3) q_ := fun q_ hq => absurd hq List.not_mem_nil
  rcases yrun (yis_ok saR11NA_k) hA Hs Ho HC with ⟨q_, hq, h', K_, G_⟩ | ⟨q_, hq, h', K_, G_⟩
  · cases hq
  · have e_ := List.mem_singleton.mp hq
    subst e_
    exact ⟨h', yfr_sm K_.2.2.2 hs K_.1 (ywa_r saR11NA_w List.mem_cons_self), ⟨fun a_ j_ => yfr_bp K_.2.2.2 (fun q_ hq => absurd hq List.not_mem_nil), G_⟩⟩
-- saR11NB: 5 steps, 0 ends, 1 returns
def saR11NB_L : List (Nat × Nat × Nat) := []
def saR11NB_O : yO := []
def saR11NB_A : yA := (yZ saR11NB_L, [], [], [], [])
def saR11NB_C : List xB := []
def saR11NB_ss : List yS := []
def saR11NB_rs : List yR := [(some (.int 1), [], [], [])]
theorem saR11NB_w : ywa saR11NB_A saR11NB_ss saR11NB_rs = true := by decide +kernel
theorem saR11NB_k : yis (yev saR11NB_A 3000 60 205 [] (131, [(3, .arg 3), (2, .int 1), (1, .int 1), (4, .arg 4), (0, .index 338)], [], saR11NB_O, saR11NB_C, [])) saR11NB_ss saR11NB_rs = true := by decide +kernel
def saR11NB_r (v3 v4_ : Int32) (k_ : Nat) : Value := bif Nat.beq k_ 3 then .int v3 else (bif Nat.beq k_ 4 then .int v4_ else (.int 0))
def saR11NB_s (n_ : Nat) : Nat := 0
theorem saR11NB {h_ : xH} {v3 v4_ : Int32} (hs : sHp h_) : ∃ h', ysm h_ h' ∧ (((∀ a_ j_ : Nat, bpat h' a_ j_ = bpat h_ a_ j_) ∧ (∀ D_, 60 ≤ D_ → xrun D_ 205 131 [(3, .int v3), (2, .int (1 : Int32)), (1, .int (1 : Int32)), (4, .int v4_), (0, .index 338)] [] h_ (some (.int (1 : Int32)), h', [])))) := by
  have hA : yas saR11NB_A (saR11NB_r v3 v4_) (yg saR11NB_s) := ⟨fun q_ hq => absurd hq List.not_mem_nil, fun q_ hq => absurd hq List.not_mem_nil, fun q_ hq => absurd hq List.not_mem_nil, fun n_ hn => yg_lo hn, fun q_ hq => absurd hq List.not_mem_nil⟩
  have Hs : ysh saR11NB_A.1 (yg saR11NB_s) h_ := ysh_of2 hs (fun q_ hq => absurd hq List.not_mem_nil)
  have Ho : ymem (saR11NB_r v3 v4_) (yg saR11NB_s) saR11NB_O h_ := fun q_ hq => absurd hq List.not_mem_nil
  have HC : ∀ q_ ∈ saR11NB_C, xhold (saR11NB_r v3 v4_) q_ := fun q_ hq => absurd hq List.not_mem_nil
  rcases yrun (yis_ok saR11NB_k) hA Hs Ho HC with ⟨q_, hq, h', K_, G_⟩ | ⟨q_, hq, h', K_, G_⟩
  · cases hq
  · have e_ := List.mem_singleton.mp hq
    subst e_
    exact ⟨h', yfr_sm K_.2.2.2 hs K_.1 (ywa_r saR11NB_w List.mem_cons_self), ⟨fun a_ j_ => yfr_bp K_.2.2.2 (fun q_ hq => absurd hq List.not_mem_nil), G_⟩⟩
-- mrdE: 63 steps, 1 ends, 2 returns
def mrdE_L : List (Nat × Nat × Nat) := []
def mrdE_O : yO := [(338, .int 0, .index 339), (339, .int 0, .arg 310), (338, .int 3, .index 341), (341, .int 1, .arg 400)]
def mrdE_A : yA := (yZ mrdE_L, [], [], [], [])
def mrdE_C : List xB := []
def mrdE_ss : List yS := [(14, [(0, .index 338), (1, .arg 1)], [], [(338, .int 0, .index 339), (339, .int 0, .arg 310), (338, .int 3, .index 341), (341, .int 1, .arg 400)], [(.le, .arg 1, .sub (.arg 310) (.int 1), true), (.lt, .arg 1, .int 0, false)], [])]
def mrdE_rs : List yR := [(some (.int (Int32.ofInt (-1000001))), [(341, .int 1, .add (.arg 400) (.int 1)), (338, .int 0, .index 339), (339, .int 0, .arg 310), (338, .int 3, .index 341)], [(.lt, .arg 1, .int 0, true)], [(341, .int 1)]),
  (some (.int (Int32.ofInt (-1000001))), [(341, .int 1, .add (.arg 400) (.int 1)), (338, .int 0, .index 339), (339, .int 0, .arg 310), (338, .int 3, .index 341)], [(.le, .arg 1, .sub (.arg 310) (.int 1), false), (.lt, .arg 1, .int 0, false)], [(341, .int 1)])]
theorem mrdE_w : ywa mrdE_A mrdE_ss mrdE_rs = true := by decide +kernel
theorem mrdE_k : yis (yev mrdE_A 3000 60 206 [14] (0, [(0, .index 338), (1, .arg 1)], [], mrdE_O, mrdE_C, [])) mrdE_ss mrdE_rs = true := by decide +kernel
def mrdE_r (v1_ v310 v400 : Int32) (k_ : Nat) : Value := bif Nat.beq k_ 1 then .int v1_ else (bif Nat.beq k_ 310 then .int v310 else (bif Nat.beq k_ 400 then .int v400 else (.int 0)))
def mrdE_s (n_ : Nat) : Nat := 0
theorem mrdE {h_ : xH} {v1_ v310 v400 : Int32} (hs : sHp h_) (o0_ : bpat h_ 339 0 = some (.int v310)) (o1 : bpat h_ 341 1 = some (.int v400)) : ∃ h', ysm h_ h' ∧ (((v1_.toInt ≤ (v310 - (1 : Int32)).toInt) ∧ ((0 : Int32).toInt ≤ v1_.toInt) ∧ (∀ a_ j_ : Nat, bpat h' a_ j_ = bpat h_ a_ j_) ∧ (bldD 60 206 0 [(0, .index 338), (1, .int v1_)] [] h_ 14 [(0, .index 338), (1, .int v1_)] [] h'))
  ∨ ((v1_.toInt < (0 : Int32).toInt) ∧ (bpat h' 341 1 = some (.int (v400 + (1 : Int32)))) ∧ (∀ a_ j_ : Nat, ¬ (a_ = 341 ∧ j_ = 1) → bpat h' a_ j_ = bpat h_ a_ j_) ∧ (∀ D_, 60 ≤ D_ → xrun D_ 206 0 [(0, .index 338), (1, .int v1_)] [] h_ (some (.int (Int32.ofInt (-1000001))), h', [])))
  ∨ (((v310 - (1 : Int32)).toInt < v1_.toInt) ∧ ((0 : Int32).toInt ≤ v1_.toInt) ∧ (bpat h' 341 1 = some (.int (v400 + (1 : Int32)))) ∧ (∀ a_ j_ : Nat, ¬ (a_ = 341 ∧ j_ = 1) → bpat h' a_ j_ = bpat h_ a_ j_) ∧ (∀ D_, 60 ≤ D_ → xrun D_ 206 0 [(0, .index 338), (1, .int v1_)] [] h_ (some (.int (Int32.ofInt (-1000001))), h', [])))) := by
  have hA : yas mrdE_A (mrdE_r v1_ v310 v400) (yg mrdE_s) := ⟨fun q_ hq => absurd hq List.not_mem_nil, fun q_ hq => absurd hq List.not_mem_nil, fun q_ hq => absurd hq List.not_mem_nil, fun n_ hn => yg_lo hn, fun q_ hq => absurd hq List.not_mem_nil⟩
  have Hs : ysh mrdE_A.1 (yg mrdE_s) h_ := ysh_of2 hs (fun q_ hq => absurd hq List.not_mem_nil)
  have Ho : ymem (mrdE_r v1_ v310 v400) (yg mrdE_s) mrdE_O h_ := List.forall_mem_cons.mpr ⟨bpat_some (fxr_at hs.2 (show fxk fxl 338 0 = some 339 by decide +kernel)), List.forall_mem_cons.mpr ⟨bpat_some o0_, List.forall_mem_cons.mpr ⟨bpat_some (fxr_at hs.2 (show fxk fxl 338 3 = some 341 by decide +kernel)), List.forall_mem_cons.mpr ⟨bpat_some o1, fun q_ hq => absurd hq List.not_mem_nil⟩⟩⟩⟩
  have HC : ∀ q_ ∈ mrdE_C, xhold (mrdE_r v1_ v310 v400) q_ := fun q_ hq => absurd hq List.not_mem_nil
  rcases yrun (yis_ok mrdE_k) hA Hs Ho HC with ⟨q_, hq, h', K_, G_⟩ | ⟨q_, hq, h', K_, G_⟩
  · have e_ := List.mem_singleton.mp hq
    subst e_
    exact ⟨h', yfr_sm K_.2.2.2 hs K_.1 (ywa_s mrdE_w List.mem_cons_self), Or.inl (⟨xq_leT rfl (yv_sub2 rfl rfl) (K_.2.2.1 _ List.mem_cons_self), xq_ltF rfl rfl (K_.2.2.1 _ (List.mem_cons_of_mem _ List.mem_cons_self)), fun a_ j_ => yfr_bp K_.2.2.2 (fun q_ hq => absurd hq List.not_mem_nil), G_⟩)⟩
  · rcases List.mem_cons.mp hq with e_ | hq
    · subst e_
      exact ⟨h', yfr_sm K_.2.2.2 hs K_.1 (ywa_r mrdE_w List.mem_cons_self), Or.inr (Or.inl (⟨xq_ltT rfl rfl (K_.2.2.1 _ List.mem_cons_self), bpat_of (K_.2.1 _ List.mem_cons_self), fun a_ j_ n0_ => yfr_bp K_.2.2.2 (List.forall_mem_cons.mpr ⟨fun e_ => n0_ ⟨e_.1.symm, e_.2.symm⟩, fun q_ hq => absurd hq List.not_mem_nil⟩), G_⟩))⟩
    have e_ := List.mem_singleton.mp hq
    subst e_
    exact ⟨h', yfr_sm K_.2.2.2 hs K_.1 (ywa_r mrdE_w (List.mem_cons_of_mem _ List.mem_cons_self)), Or.inr (Or.inr (⟨xq_leF rfl (yv_sub2 rfl rfl) (K_.2.2.1 _ List.mem_cons_self), xq_ltF rfl rfl (K_.2.2.1 _ (List.mem_cons_of_mem _ List.mem_cons_self)), bpat_of (K_.2.1 _ List.mem_cons_self), fun a_ j_ n0_ => yfr_bp K_.2.2.2 (List.forall_mem_cons.mpr ⟨fun e_ => n0_ ⟨e_.1.symm, e_.2.symm⟩, fun q_ hq => absurd hq List.not_mem_nil⟩), G_⟩))⟩
-- mrdG: 8 steps, 1 ends, 0 returns
def mrdG_L : List (Nat × Nat × Nat) := []
def mrdG_O : yO := [(338, .int 4, .index 342)]
def mrdG_A : yA := (yZ mrdG_L, [], [], [], [])
def mrdG_C : List xB := []
def mrdG_ss : List yS := [(26, [(0, .index 338), (1, .arg 1)], [.index 342, .add (.int 34) (.mul (.int 13) (.arg 1)), .index 338], [(338, .int 4, .index 342)], [], [])]
def mrdG_rs : List yR := []
theorem mrdG_w : ywa mrdG_A mrdG_ss mrdG_rs = true := by decide +kernel
theorem mrdG_k : yis (yev mrdG_A 3000 60 206 [26] (14, [(0, .index 338), (1, .arg 1)], [], mrdG_O, mrdG_C, [])) mrdG_ss mrdG_rs = true := by decide +kernel
def mrdG_r (v1_ : Int32) (k_ : Nat) : Value := bif Nat.beq k_ 1 then .int v1_ else (.int 0)
def mrdG_s (n_ : Nat) : Nat := 0
theorem mrdG {h_ : xH} {v1_ : Int32} (hs : sHp h_) : ∃ h', ysm h_ h' ∧ (((∀ a_ j_ : Nat, bpat h' a_ j_ = bpat h_ a_ j_) ∧ (bldD 60 206 14 [(0, .index 338), (1, .int v1_)] [] h_ 26 [(0, .index 338), (1, .int v1_)] [.index 342, .int ((34 : Int32) + ((13 : Int32) * v1_)), .index 338] h'))) := by
  have hA : yas mrdG_A (mrdG_r v1_) (yg mrdG_s) := ⟨fun q_ hq => absurd hq List.not_mem_nil, fun q_ hq => absurd hq List.not_mem_nil, fun q_ hq => absurd hq List.not_mem_nil, fun n_ hn => yg_lo hn, fun q_ hq => absurd hq List.not_mem_nil⟩
  have Hs : ysh mrdG_A.1 (yg mrdG_s) h_ := ysh_of2 hs (fun q_ hq => absurd hq List.not_mem_nil)
  have Ho : ymem (mrdG_r v1_) (yg mrdG_s) mrdG_O h_ := List.forall_mem_cons.mpr ⟨bpat_some (fxr_at hs.2 (show fxk fxl 338 4 = some 342 by decide +kernel)), fun q_ hq => absurd hq List.not_mem_nil⟩
  have HC : ∀ q_ ∈ mrdG_C, xhold (mrdG_r v1_) q_ := fun q_ hq => absurd hq List.not_mem_nil
  rcases yrun (yis_ok mrdG_k) hA Hs Ho HC with ⟨q_, hq, h', K_, G_⟩ | ⟨q_, hq, h', K_, G_⟩
  · have e_ := List.mem_singleton.mp hq
    subst e_
    exact ⟨h', yfr_sm K_.2.2.2 hs K_.1 (ywa_s mrdG_w List.mem_cons_self), ⟨fun a_ j_ => yfr_bp K_.2.2.2 (fun q_ hq => absurd hq List.not_mem_nil), G_⟩⟩
  · cases hq
-- mrdH: 1 steps, 1 ends, 0 returns
def mrdH_L : List (Nat × Nat × Nat) := []
def mrdH_O : yO := []
def mrdH_A : yA := (yZ mrdH_L, [], [], [], [])
def mrdH_C : List xB := []
def mrdH_ss : List yS := [(30, [(0, .index 338), (1, .arg 1)], [.index 338], [], [], [])]
def mrdH_rs : List yR := []
theorem mrdH_w : ywa mrdH_A mrdH_ss mrdH_rs = true := by decide +kernel
theorem mrdH_k : yis (yev mrdH_A 3000 60 206 [30] (29, [(0, .index 338), (1, .arg 1)], [], mrdH_O, mrdH_C, [])) mrdH_ss mrdH_rs = true := by decide +kernel
def mrdH_r (v1_ : Int32) (k_ : Nat) : Value := bif Nat.beq k_ 1 then .int v1_ else (.int 0)
def mrdH_s (n_ : Nat) : Nat := 0
theorem mrdH {h_ : xH} {v1_ : Int32} (hs : sHp h_) : ∃ h', ysm h_ h' ∧ (((∀ a_ j_ : Nat, bpat h' a_ j_ = bpat h_ a_ j_) ∧ (bldD 60 206 29 [(0, .index 338), (1, .int v1_)] [] h_ 30 [(0, .index 338), (1, .int v1_)] [.index 338] h'))) := by
  have hA : yas mrdH_A (mrdH_r v1_) (yg mrdH_s) := ⟨fun q_ hq => absurd hq List.not_mem_nil, fun q_ hq => absurd hq List.not_mem_nil, fun q_ hq => absurd hq List.not_mem_nil, fun n_ hn => yg_lo hn, fun q_ hq => absurd hq List.not_mem_nil⟩
  have Hs : ysh mrdH_A.1 (yg mrdH_s) h_ := ysh_of2 hs (fun q_ hq => absurd hq List.not_mem_nil)
  have Ho : ymem (mrdH_r v1_) (yg mrdH_s) mrdH_O h_ := fun q_ hq => absurd hq List.not_mem_nil
  have HC : ∀ q_ ∈ mrdH_C, xhold (mrdH_r v1_) q_ := fun q_ hq => absurd hq List.not_mem_nil
  rcases yrun (yis_ok mrdH_k) hA Hs Ho HC with ⟨q_, hq, h', K_, G_⟩ | ⟨q_, hq, h', K_, G_⟩
  · have e_ := List.mem_singleton.mp hq
    subst e_
    exact ⟨h', yfr_sm K_.2.2.2 hs K_.1 (ywa_s mrdH_w List.mem_cons_self), ⟨fun a_ j_ => yfr_bp K_.2.2.2 (fun q_ hq => absurd hq List.not_mem_nil), G_⟩⟩
  · cases hq
-- mrdR0: 6 steps, 0 ends, 1 returns
def mrdR0_L : List (Nat × Nat × Nat) := []
def mrdR0_O : yO := [(338, .int 17, .arg 317)]
def mrdR0_A : yA := (yZ mrdR0_L, [], [], [], [])
def mrdR0_C : List xB := [(.eq, .arg 317, .int 0, true)]
def mrdR0_ss : List yS := []
def mrdR0_rs : List yR := [(some (.int 1), [(338, .int 17, .arg 317)], [(.eq, .arg 317, .int 0, true)], [])]
theorem mrdR0_w : ywa mrdR0_A mrdR0_ss mrdR0_rs = true := by decide +kernel
theorem mrdR0_k : yis (yev mrdR0_A 3000 60 206 [] (33, [(0, .index 338), (1, .arg 1)], [.arg 5], mrdR0_O, mrdR0_C, [])) mrdR0_ss mrdR0_rs = true := by decide +kernel
def mrdR0_r (v1_ v5 v317 : Int32) (k_ : Nat) : Value := bif Nat.beq k_ 1 then .int v1_ else (bif Nat.beq k_ 5 then .int v5 else (bif Nat.beq k_ 317 then .int v317 else (.int 0)))
def mrdR0_s (n_ : Nat) : Nat := 0
theorem mrdR0 {h_ : xH} {v1_ v5 v317 : Int32} (hs : sHp h_) (o0_ : bpat h_ 338 17 = some (.int v317)) (c0_ : v317 = (0 : Int32)) : ∃ h', ysm h_ h' ∧ (((∀ a_ j_ : Nat, bpat h' a_ j_ = bpat h_ a_ j_) ∧ (∀ D_, 60 ≤ D_ → xrun D_ 206 33 [(0, .index 338), (1, .int v1_)] [.int v5] h_ (some (.int (1 : Int32)), h', [])))) := by
  have hA : yas mrdR0_A (mrdR0_r v1_ v5 v317) (yg mrdR0_s) := ⟨fun q_ hq => absurd hq List.not_mem_nil, fun q_ hq => absurd hq List.not_mem_nil, fun q_ hq => absurd hq List.not_mem_nil, fun n_ hn => yg_lo hn, fun q_ hq => absurd hq List.not_mem_nil⟩
  have Hs : ysh mrdR0_A.1 (yg mrdR0_s) h_ := ysh_of2 hs (fun q_ hq => absurd hq List.not_mem_nil)
  have Ho : ymem (mrdR0_r v1_ v5 v317) (yg mrdR0_s) mrdR0_O h_ := List.forall_mem_cons.mpr ⟨bpat_some o0_, fun q_ hq => absurd hq List.not_mem_nil⟩
  have HC : ∀ q_ ∈ mrdR0_C, xhold (mrdR0_r v1_ v5 v317) q_ := List.forall_mem_cons.mpr ⟨xh_eqT2 c0_, fun q_ hq => absurd hq List.not_mem_nil⟩
  rcases yrun (yis_ok mrdR0_k) hA Hs Ho HC with ⟨q_, hq, h', K_, G_⟩ | ⟨q_, hq, h', K_, G_⟩
  · cases hq
  · have e_ := List.mem_singleton.mp hq
    subst e_
    exact ⟨h', yfr_sm K_.2.2.2 hs K_.1 (ywa_r mrdR0_w List.mem_cons_self), ⟨fun a_ j_ => yfr_bp K_.2.2.2 (fun q_ hq => absurd hq List.not_mem_nil), G_⟩⟩
-- mrdR1: 12 steps, 0 ends, 1 returns
def mrdR1_L : List (Nat × Nat × Nat) := []
def mrdR1_O : yO := [(338, .int 17, .arg 317), (338, .int 16, .arg 316)]
def mrdR1_A : yA := (yZ mrdR1_L, [], [], [], [])
def mrdR1_C : List xB := [(.eq, .arg 317, .int 0, false)]
def mrdR1_ss : List yS := []
def mrdR1_rs : List yR := [(some (.sub (.int (Int32.ofInt (-10))) (.sub (.arg 316) (.int 1))), [(338, .int 17, .arg 317), (338, .int 16, .arg 316)], [(.eq, .arg 317, .int 0, false)], [])]
theorem mrdR1_w : ywa mrdR1_A mrdR1_ss mrdR1_rs = true := by decide +kernel
theorem mrdR1_k : yis (yev mrdR1_A 3000 60 206 [] (33, [(0, .index 338), (1, .arg 1)], [.arg 5], mrdR1_O, mrdR1_C, [])) mrdR1_ss mrdR1_rs = true := by decide +kernel
def mrdR1_r (v1_ v5 v316 v317 : Int32) (k_ : Nat) : Value := bif Nat.beq k_ 1 then .int v1_ else (bif Nat.beq k_ 5 then .int v5 else (bif Nat.beq k_ 316 then .int v316 else (bif Nat.beq k_ 317 then .int v317 else (.int 0))))
def mrdR1_s (n_ : Nat) : Nat := 0
theorem mrdR1 {h_ : xH} {v1_ v5 v316 v317 : Int32} (hs : sHp h_) (o0_ : bpat h_ 338 17 = some (.int v317)) (o1 : bpat h_ 338 16 = some (.int v316)) (c0_ : ¬ v317 = (0 : Int32)) : ∃ h', ysm h_ h' ∧ (((∀ a_ j_ : Nat, bpat h' a_ j_ = bpat h_ a_ j_) ∧ (∀ D_, 60 ≤ D_ → xrun D_ 206 33 [(0, .index 338), (1, .int v1_)] [.int v5] h_ (some (.int ((Int32.ofInt (-10)) - (v316 - (1 : Int32)))), h', [])))) := by
  have hA : yas mrdR1_A (mrdR1_r v1_ v5 v316 v317) (yg mrdR1_s) := ⟨fun q_ hq => absurd hq List.not_mem_nil, fun q_ hq => absurd hq List.not_mem_nil, fun q_ hq => absurd hq List.not_mem_nil, fun n_ hn => yg_lo hn, fun q_ hq => absurd hq List.not_mem_nil⟩
  have Hs : ysh mrdR1_A.1 (yg mrdR1_s) h_ := ysh_of2 hs (fun q_ hq => absurd hq List.not_mem_nil)
  have Ho : ymem (mrdR1_r v1_ v5 v316 v317) (yg mrdR1_s) mrdR1_O h_ := List.forall_mem_cons.mpr ⟨bpat_some o0_, List.forall_mem_cons.mpr ⟨bpat_some o1, fun q_ hq => absurd hq List.not_mem_nil⟩⟩
  have HC : ∀ q_ ∈ mrdR1_C, xhold (mrdR1_r v1_ v5 v316 v317) q_ := List.forall_mem_cons.mpr ⟨xh_eqF2 c0_, fun q_ hq => absurd hq List.not_mem_nil⟩
  rcases yrun (yis_ok mrdR1_k) hA Hs Ho HC with ⟨q_, hq, h', K_, G_⟩ | ⟨q_, hq, h', K_, G_⟩
  · cases hq
  · have e_ := List.mem_singleton.mp hq
    subst e_
    exact ⟨h', yfr_sm K_.2.2.2 hs K_.1 (ywa_r mrdR1_w List.mem_cons_self), ⟨fun a_ j_ => yfr_bp K_.2.2.2 (fun q_ hq => absurd hq List.not_mem_nil), G_⟩⟩
theorem saQ50A {h_ : xH} (S_ : sHp h_) {y4 : Int32} : ∀ (any all vc : Bool), ∃ h1, (ysm h_ h1 ∧ ∀ c_ j_, bpat h1 c_ j_ = bpat h_ c_ j_) ∧ bldD 60 205 80 [(3, .int 50), (2, .int (bI all)), (1, .int (bI any)), (0, .index 338)] [.int (bI vc)] h_ 17 [(2, .int (bI (if (50 : Int32).toInt = 51 then vc else (all && vc)))), (1, .int (bI (any || (decide ((50 : Int32).toInt = 51) && all)))), (4, .int (bI vc)), (3, .int 50), (0, .index 338)] [] h1
  | false, false, false => by
    obtain ⟨h1, m1_, f1_, ld1⟩ := saK50000A S_
    exact ⟨h1, ⟨m1_, f1_⟩, ld1⟩
  | false, false, true => by
    obtain ⟨h1, m1_, f1_, ld1⟩ := saK50001A S_
    exact ⟨h1, ⟨m1_, f1_⟩, ld1⟩
  | false, true, false => by
    obtain ⟨h1, m1_, f1_, ld1⟩ := saK50010A S_
    exact ⟨h1, ⟨m1_, f1_⟩, ld1⟩
  | false, true, true => by
    obtain ⟨h1, m1_, f1_, ld1⟩ := saK50011A S_
    exact ⟨h1, ⟨m1_, f1_⟩, ld1⟩
  | true, false, false => by
    obtain ⟨h1, m1_, f1_, ld1⟩ := saK50100A S_
    exact ⟨h1, ⟨m1_, f1_⟩, ld1⟩
  | true, false, true => by
    obtain ⟨h1, m1_, f1_, ld1⟩ := saK50101A S_
    exact ⟨h1, ⟨m1_, f1_⟩, ld1⟩
  | true, true, false => by
    obtain ⟨h1, m1_, f1_, ld1⟩ := saK50110A S_
    exact ⟨h1, ⟨m1_, f1_⟩, ld1⟩
  | true, true, true => by
    obtain ⟨h1, m1_, f1_, ld1⟩ := saK50111A S_
    exact ⟨h1, ⟨m1_, f1_⟩, ld1⟩
theorem saQ51A {h_ : xH} (S_ : sHp h_) {y4 : Int32} : ∀ (any all vc : Bool), ∃ h1, (ysm h_ h1 ∧ ∀ c_ j_, bpat h1 c_ j_ = bpat h_ c_ j_) ∧ bldD 60 205 80 [(3, .int 51), (2, .int (bI all)), (1, .int (bI any)), (0, .index 338)] [.int (bI vc)] h_ 17 [(2, .int (bI (if (51 : Int32).toInt = 51 then vc else (all && vc)))), (1, .int (bI (any || (decide ((51 : Int32).toInt = 51) && all)))), (4, .int (bI vc)), (3, .int 51), (0, .index 338)] [] h1
  | false, false, false => by
    obtain ⟨h1, m1_, f1_, ld1⟩ := saK51000A S_
    exact ⟨h1, ⟨m1_, f1_⟩, ld1⟩
  | false, false, true => by
    obtain ⟨h1, m1_, f1_, ld1⟩ := saK51001A S_
    exact ⟨h1, ⟨m1_, f1_⟩, ld1⟩
  | false, true, false => by
    obtain ⟨h1, m1_, f1_, ld1⟩ := saK51010A S_
    exact ⟨h1, ⟨m1_, f1_⟩, ld1⟩
  | false, true, true => by
    obtain ⟨h1, m1_, f1_, ld1⟩ := saK51011A S_
    exact ⟨h1, ⟨m1_, f1_⟩, ld1⟩
  | true, false, false => by
    obtain ⟨h1, m1_, f1_, ld1⟩ := saK51100A S_
    exact ⟨h1, ⟨m1_, f1_⟩, ld1⟩
  | true, false, true => by
    obtain ⟨h1, m1_, f1_, ld1⟩ := saK51101A S_
    exact ⟨h1, ⟨m1_, f1_⟩, ld1⟩
  | true, true, false => by
    obtain ⟨h1, m1_, f1_, ld1⟩ := saK51110A S_
    exact ⟨h1, ⟨m1_, f1_⟩, ld1⟩
  | true, true, true => by
    obtain ⟨h1, m1_, f1_, ld1⟩ := saK51111A S_
    exact ⟨h1, ⟨m1_, f1_⟩, ld1⟩
theorem saZA {h_ : xH} (S_ : sHp h_) {y3 y4 : Int32} : ∀ (any all : Bool), ∃ h1, (ysm h_ h1 ∧ ∀ c_ j_, bpat h1 c_ j_ = bpat h_ c_ j_) ∧ ∀ D_, 60 ≤ D_ → xrun D_ 205 131 [(2, .int (bI all)), (1, .int (bI any)), (0, .index 338)] [] h_ (some (.int (bI (any || all))), h1, [])
  | false, false => by
    obtain ⟨h1, m1_, f1_, r1_⟩ := saR00A S_
    exact ⟨h1, ⟨m1_, f1_⟩, r1_⟩
  | false, true => by
    obtain ⟨h1, m1_, f1_, r1_⟩ := saR01A S_
    exact ⟨h1, ⟨m1_, f1_⟩, r1_⟩
  | true, false => by
    obtain ⟨h1, m1_, f1_, r1_⟩ := saR10A S_
    exact ⟨h1, ⟨m1_, f1_⟩, r1_⟩
  | true, true => by
    obtain ⟨h1, m1_, f1_, r1_⟩ := saR11A S_
    exact ⟨h1, ⟨m1_, f1_⟩, r1_⟩
theorem saZNA {h_ : xH} (S_ : sHp h_) {y3 y4 : Int32} : ∀ (any all : Bool), ∃ h1, (ysm h_ h1 ∧ ∀ c_ j_, bpat h1 c_ j_ = bpat h_ c_ j_) ∧ ∀ D_, 60 ≤ D_ → xrun D_ 205 131 [(3, .int y3), (2, .int (bI all)), (1, .int (bI any)), (0, .index 338)] [] h_ (some (.int (bI (any || all))), h1, [])
  | false, false => by
    obtain ⟨h1, m1_, f1_, r1_⟩ := saR00NA (v3 := y3) S_
    exact ⟨h1, ⟨m1_, f1_⟩, r1_⟩
  | false, true => by
    obtain ⟨h1, m1_, f1_, r1_⟩ := saR01NA (v3 := y3) S_
    exact ⟨h1, ⟨m1_, f1_⟩, r1_⟩
  | true, false => by
    obtain ⟨h1, m1_, f1_, r1_⟩ := saR10NA (v3 := y3) S_
    exact ⟨h1, ⟨m1_, f1_⟩, r1_⟩
  | true, true => by
    obtain ⟨h1, m1_, f1_, r1_⟩ := saR11NA (v3 := y3) S_
    exact ⟨h1, ⟨m1_, f1_⟩, r1_⟩
theorem saQ50B {h_ : xH} (S_ : sHp h_) {y4 : Int32} : ∀ (any all vc : Bool), ∃ h1, (ysm h_ h1 ∧ ∀ c_ j_, bpat h1 c_ j_ = bpat h_ c_ j_) ∧ bldD 60 205 80 [(3, .int 50), (2, .int (bI all)), (1, .int (bI any)), (4, .int y4), (0, .index 338)] [.int (bI vc)] h_ 17 [(2, .int (bI (if (50 : Int32).toInt = 51 then vc else (all && vc)))), (1, .int (bI (any || (decide ((50 : Int32).toInt = 51) && all)))), (4, .int (bI vc)), (3, .int 50), (0, .index 338)] [] h1
  | false, false, false => by
    obtain ⟨h1, m1_, f1_, ld1⟩ := saK50000B (v4_ := y4) S_
    exact ⟨h1, ⟨m1_, f1_⟩, ld1⟩
  | false, false, true => by
    obtain ⟨h1, m1_, f1_, ld1⟩ := saK50001B (v4_ := y4) S_
    exact ⟨h1, ⟨m1_, f1_⟩, ld1⟩
  | false, true, false => by
    obtain ⟨h1, m1_, f1_, ld1⟩ := saK50010B (v4_ := y4) S_
    exact ⟨h1, ⟨m1_, f1_⟩, ld1⟩
  | false, true, true => by
    obtain ⟨h1, m1_, f1_, ld1⟩ := saK50011B (v4_ := y4) S_
    exact ⟨h1, ⟨m1_, f1_⟩, ld1⟩
  | true, false, false => by
    obtain ⟨h1, m1_, f1_, ld1⟩ := saK50100B (v4_ := y4) S_
    exact ⟨h1, ⟨m1_, f1_⟩, ld1⟩
  | true, false, true => by
    obtain ⟨h1, m1_, f1_, ld1⟩ := saK50101B (v4_ := y4) S_
    exact ⟨h1, ⟨m1_, f1_⟩, ld1⟩
  | true, true, false => by
    obtain ⟨h1, m1_, f1_, ld1⟩ := saK50110B (v4_ := y4) S_
    exact ⟨h1, ⟨m1_, f1_⟩, ld1⟩
  | true, true, true => by
    obtain ⟨h1, m1_, f1_, ld1⟩ := saK50111B (v4_ := y4) S_
    exact ⟨h1, ⟨m1_, f1_⟩, ld1⟩
theorem saQ51B {h_ : xH} (S_ : sHp h_) {y4 : Int32} : ∀ (any all vc : Bool), ∃ h1, (ysm h_ h1 ∧ ∀ c_ j_, bpat h1 c_ j_ = bpat h_ c_ j_) ∧ bldD 60 205 80 [(3, .int 51), (2, .int (bI all)), (1, .int (bI any)), (4, .int y4), (0, .index 338)] [.int (bI vc)] h_ 17 [(2, .int (bI (if (51 : Int32).toInt = 51 then vc else (all && vc)))), (1, .int (bI (any || (decide ((51 : Int32).toInt = 51) && all)))), (4, .int (bI vc)), (3, .int 51), (0, .index 338)] [] h1
  | false, false, false => by
    obtain ⟨h1, m1_, f1_, ld1⟩ := saK51000B (v4_ := y4) S_
    exact ⟨h1, ⟨m1_, f1_⟩, ld1⟩
  | false, false, true => by
    obtain ⟨h1, m1_, f1_, ld1⟩ := saK51001B (v4_ := y4) S_
    exact ⟨h1, ⟨m1_, f1_⟩, ld1⟩
  | false, true, false => by
    obtain ⟨h1, m1_, f1_, ld1⟩ := saK51010B (v4_ := y4) S_
    exact ⟨h1, ⟨m1_, f1_⟩, ld1⟩
  | false, true, true => by
    obtain ⟨h1, m1_, f1_, ld1⟩ := saK51011B (v4_ := y4) S_
    exact ⟨h1, ⟨m1_, f1_⟩, ld1⟩
  | true, false, false => by
    obtain ⟨h1, m1_, f1_, ld1⟩ := saK51100B (v4_ := y4) S_
    exact ⟨h1, ⟨m1_, f1_⟩, ld1⟩
  | true, false, true => by
    obtain ⟨h1, m1_, f1_, ld1⟩ := saK51101B (v4_ := y4) S_
    exact ⟨h1, ⟨m1_, f1_⟩, ld1⟩
  | true, true, false => by
    obtain ⟨h1, m1_, f1_, ld1⟩ := saK51110B (v4_ := y4) S_
    exact ⟨h1, ⟨m1_, f1_⟩, ld1⟩
  | true, true, true => by
    obtain ⟨h1, m1_, f1_, ld1⟩ := saK51111B (v4_ := y4) S_
    exact ⟨h1, ⟨m1_, f1_⟩, ld1⟩
theorem saZB {h_ : xH} (S_ : sHp h_) {y3 y4 : Int32} : ∀ (any all : Bool), ∃ h1, (ysm h_ h1 ∧ ∀ c_ j_, bpat h1 c_ j_ = bpat h_ c_ j_) ∧ ∀ D_, 60 ≤ D_ → xrun D_ 205 131 [(2, .int (bI all)), (1, .int (bI any)), (4, .int y4), (3, .int y3), (0, .index 338)] [] h_ (some (.int (bI (any || all))), h1, [])
  | false, false => by
    obtain ⟨h1, m1_, f1_, r1_⟩ := saR00B (v4_ := y4) (v3 := y3) S_
    exact ⟨h1, ⟨m1_, f1_⟩, r1_⟩
  | false, true => by
    obtain ⟨h1, m1_, f1_, r1_⟩ := saR01B (v4_ := y4) (v3 := y3) S_
    exact ⟨h1, ⟨m1_, f1_⟩, r1_⟩
  | true, false => by
    obtain ⟨h1, m1_, f1_, r1_⟩ := saR10B (v4_ := y4) (v3 := y3) S_
    exact ⟨h1, ⟨m1_, f1_⟩, r1_⟩
  | true, true => by
    obtain ⟨h1, m1_, f1_, r1_⟩ := saR11B (v4_ := y4) (v3 := y3) S_
    exact ⟨h1, ⟨m1_, f1_⟩, r1_⟩
theorem saZNB {h_ : xH} (S_ : sHp h_) {y3 y4 : Int32} : ∀ (any all : Bool), ∃ h1, (ysm h_ h1 ∧ ∀ c_ j_, bpat h1 c_ j_ = bpat h_ c_ j_) ∧ ∀ D_, 60 ≤ D_ → xrun D_ 205 131 [(3, .int y3), (2, .int (bI all)), (1, .int (bI any)), (4, .int y4), (0, .index 338)] [] h_ (some (.int (bI (any || all))), h1, [])
  | false, false => by
    obtain ⟨h1, m1_, f1_, r1_⟩ := saR00NB (v3 := y3) (v4_ := y4) S_
    exact ⟨h1, ⟨m1_, f1_⟩, r1_⟩
  | false, true => by
    obtain ⟨h1, m1_, f1_, r1_⟩ := saR01NB (v3 := y3) (v4_ := y4) S_
    exact ⟨h1, ⟨m1_, f1_⟩, r1_⟩
  | true, false => by
    obtain ⟨h1, m1_, f1_, r1_⟩ := saR10NB (v3 := y3) (v4_ := y4) S_
    exact ⟨h1, ⟨m1_, f1_⟩, r1_⟩
  | true, true => by
    obtain ⟨h1, m1_, f1_, r1_⟩ := saR11NB (v3 := y3) (v4_ := y4) S_
    exact ⟨h1, ⟨m1_, f1_⟩, r1_⟩
section
variable {W_ : Nat → List Int32} {V : Nat → Int32} {h_ : xH}
theorem sy_m {L_ : List Int32} (hS_ : snds L_) : ∀ (f_ i_ : Nat) (any all : Bool) (l : List Int32) (h_ : xH) (lo_ : xL), l.length < f_ → L_.drop i_ = l → i_ + l.length = L_.length → SM W_ V h_ → rM 342 h_ L_ → bpat h_ 338 16 = some (.int (Int32.ofNat (i_ + 1))) → bpat h_ 338 17 = some (.int 0) → (lo_ = [(2, .int (bI all)), (1, .int (bI any)), (0, .index 338)] ∨ ∃ y4 y3 : Int32, lo_ = [(2, .int (bI all)), (1, .int (bI any)), (4, .int y4), (3, .int y3), (0, .index 338)]) → ∃ (h' : xH) (vb : Bool), (SM W_ V h' ∧ tmf h_ h') ∧ ((((syF (wso (V 3)) f_ i_ any all l).1 = true ∧ (bpat h' 338 17 = some (.int 0) ∧ vb = (syF (wso (V 3)) f_ i_ any all l).2.2)) ∨ ((syF (wso (V 3)) f_ i_ any all l).1 = false ∧ (bpat h' 338 17 = some (.int 1) ∧ bpat h' 338 16 = some (.int (Int32.ofNat ((syF (wso (V 3)) f_ i_ any all l).2.1 + 1)))))) ∧ ∀ D_, 84 ≤ D_ → xrun D_ 205 17 lo_ [] h_ (some (.int (bI vb)), h', [])) := by
  intro f_
  induction f_ with
  | zero => intro i_ any all l h_ lo_ hl; omega
  | succ f_ ih_ =>
    intro i_ any all l h_ lo_ hl ed hi_ H_ R_ e16_ e17_ hd_
    have l12 := R_.2.2
    have ii := i32n (i_ := i_ + 1) (by omega)
    have iL := i32n (i_ := L_.length) (by omega)
    rcases hd_ with rfl | ⟨y4, y3, rfl⟩
    · cases l with
      | nil =>
        rw [List.length_nil] at hi_
        have e_ : syF (wso (V 3)) (f_ + 1) i_ any all [] = (true, i_, any || all) := rfl
        rw [e_]
        obtain ⟨h1, m1_, f1_, ld1⟩ := saYA (v1_ := bI any) (v2 := bI all) (v300 := Int32.ofNat L_.length) (v316 := Int32.ofNat (i_ + 1)) (v317 := 0) H_.1 e17_ e16_ R_.2.1.2.1 (by omega) rfl
        obtain ⟨h2, ⟨m2_, f2_⟩, r2⟩ := saZA (y3 := 0) (y4 := 0) m1_.1 any all
        have F2 := tmf_t (tmf_a m1_ f1_) (tmf_a m2_ f2_)
        exact ⟨h2, _, ⟨tmf_S H_ F2, F2⟩, Or.inl ⟨rfl, (f2_ _ _).trans ((f1_ _ _).trans e17_), rfl⟩, fun D_ hD => ld1 D_ (by omega) _ (r2 D_ (by omega))⟩
      | cons v_ t_ =>
        rw [List.length_cons] at hl hi_
        have ed2 : L_.drop (i_ + 1) = t_ := by rw [show L_.drop (i_ + 1) = (L_.drop i_).drop 1 by rw [List.drop_drop], ed]; rfl
        have ov : bpat h_ 342 (Int32.ofNat (i_ + 1)).toInt.toNat = some (.int v_) := by rw [i32t (by omega)]; exact itm R_ ed
        have eT : (v_.toInt = 50 ∨ v_.toInt = 51) → (tmF (wso (V 3)) 20 (i_ + 1) t_).1 = true → syF (wso (V 3)) (f_ + 1) i_ any all (v_ :: t_) = syF (wso (V 3)) f_ (tmF (wso (V 3)) 20 (i_ + 1) t_).2.1 (any || (decide (v_.toInt = 51) && all)) (if v_.toInt = 51 then (tmF (wso (V 3)) 20 (i_ + 1) t_).2.2.1 else (all && (tmF (wso (V 3)) 20 (i_ + 1) t_).2.2.1)) (tmF (wso (V 3)) 20 (i_ + 1) t_).2.2.2 := fun gj ga => (if_pos gj).trans (if_pos ga)
        have eF : (v_.toInt = 50 ∨ v_.toInt = 51) → ¬ (tmF (wso (V 3)) 20 (i_ + 1) t_).1 = true → syF (wso (V 3)) (f_ + 1) i_ any all (v_ :: t_) = (false, (tmF (wso (V 3)) 20 (i_ + 1) t_).2.1, false) := fun gj ga => (if_pos gj).trans (if_neg ga)
        have eN_ : ¬ (v_.toInt = 50 ∨ v_.toInt = 51) → syF (wso (V 3)) (f_ + 1) i_ any all (v_ :: t_) = (false, i_, false) := fun gj => if_neg gj
        by_cases g50 : v_.toInt = 50
        · have ev_ : v_ = 50 := Int32.toInt_inj.mp g50
          subst ev_
          obtain ⟨h1, m1_, w0_, f1_, ld1⟩ := saJ50A (v1_ := bI any) (v2 := bI all) (v300 := Int32.ofNat L_.length) (v316 := Int32.ofNat (i_ + 1)) (v317 := 0) H_.1 e17_ e16_ R_.2.1.2.1 ov ⟨by omega, by omega⟩ (by omega) rfl
          rw [i32s] at w0_
          have F1_ : tmf h_ h1 := ⟨m1_, fun c_ j_ q_ _ => f1_ c_ j_ q_⟩
          have H1_ := tmf_S H_ F1_
          obtain ⟨h2, vc, ⟨H2_, F2⟩, ⟨a16, a_⟩, r2⟩ := tm_m hS_ 20 (i_ + 1) t_ h1 (by omega) ed2 (by omega) H1_ (tmf_R R_ F1_) w0_ ((f1_ _ _ (by omega)).trans e17_)
          have ld2 := ycv (d_ := 81) (mi := 205) (pc := 77) (cm := 204) (lo_ := [(3, .int 50), (2, .int (bI all)), (1, .int (bI any)), (0, .index 338)]) (st_ := [.index 338]) (as_ := []) (s' := []) rfl rfl (bcq_of (n_ := 338) (z_ := (12, 26)) H1_.1 rfl) rfl (xcc_l (List.forall_mem_cons.mpr ⟨rfl, List.forall_mem_cons.mpr ⟨rfl, List.forall_mem_cons.mpr ⟨rfl, List.forall_mem_cons.mpr ⟨xidx_i (bcq_lt (bcq_of (n_ := 338) (z_ := (12, 26)) H1_.1 rfl)), fun q_ hq => absurd hq List.not_mem_nil⟩⟩⟩⟩) (fun t_ ht => absurd ht List.not_mem_nil) (Nat.le_of_ble_eq_true rfl)) (fun D_ hD => r2 D_ (by omega))
          obtain ⟨h3, ⟨m3_, f3_⟩, ld3⟩ := saQ50A (y4 := 0) H2_.1 any all vc
          have F13 := tmf_t F1_ (tmf_t F2 (tmf_a m3_ f3_))
          have H3 := tmf_S H_ F13
          obtain ⟨k1_, k2_⟩ := tmF_c (so := wso (V 3)) 20 (i_ + 1) t_ 0 false (by omega) (Or.inl rfl)
          rcases a_ with ⟨a1_, a2, a3, a4⟩ | ⟨a1_, a2⟩
          · obtain ⟨b1, b2, b3, b4⟩ := k1_ a1_
            rw [eT (Or.inl g50) a1_]
            rw [a3] at ld2 ld3
            obtain ⟨h4, vd, ⟨H4, F4⟩, q4_, r4⟩ := ih_ _ _ _ _ h3 _ (by omega) a4 (by omega) H3 (tmf_R R_ F13) ((f3_ _ _).trans a16) ((f3_ _ _).trans a2) (Or.inr ⟨_, _, rfl⟩)
            exact ⟨h4, vd, ⟨H4, tmf_t F13 F4⟩, q4_, fun D_ hD => ld1 D_ (by omega) _ (ld2 D_ (by omega) _ (ld3 D_ (by omega) _ (r4 D_ hD)))⟩
          · have na : ¬ (tmF (wso (V 3)) 20 (i_ + 1) t_).1 = true := by rw [a1_]; exact Bool.false_ne_true
            rw [eF (Or.inl g50) na]
            obtain ⟨h4, m4_, f4_, ld4⟩ := saXB (v317 := 1) (v2 := bI (if (50 : Int32).toInt = 51 then vc else (all && vc))) (v1_ := bI (any || (decide ((50 : Int32).toInt = 51) && all))) (v4_ := bI vc) (v3 := 50) H3.1 ((f3_ _ _).trans a2) (by decide)
            obtain ⟨h5, ⟨m5_, f5_⟩, r5_⟩ := saZB (h_ := h4) (y3 := 50) (y4 := bI vc) m4_.1 (any || (decide ((50 : Int32).toInt = 51) && all)) (if (50 : Int32).toInt = 51 then vc else (all && vc))
            have F5 := tmf_t F13 (tmf_t (tmf_a m4_ f4_) (tmf_a m5_ f5_))
            exact ⟨h5, _, ⟨tmf_S H_ F5, F5⟩, Or.inr ⟨rfl, (f5_ _ _).trans ((f4_ _ _).trans ((f3_ _ _).trans a2)), (f5_ _ _).trans ((f4_ _ _).trans ((f3_ _ _).trans a16))⟩, fun D_ hD => ld1 D_ (by omega) _ (ld2 D_ (by omega) _ (ld3 D_ (by omega) _ (ld4 D_ (by omega) _ (r5_ D_ (by omega)))))⟩
        by_cases g51 : v_.toInt = 51
        · have ev_ : v_ = 51 := Int32.toInt_inj.mp g51
          subst ev_
          obtain ⟨h1, m1_, w0_, f1_, ld1⟩ := saJ51A (v1_ := bI any) (v2 := bI all) (v300 := Int32.ofNat L_.length) (v316 := Int32.ofNat (i_ + 1)) (v317 := 0) H_.1 e17_ e16_ R_.2.1.2.1 ov ⟨by omega, by omega⟩ (by omega) rfl
          rw [i32s] at w0_
          have F1_ : tmf h_ h1 := ⟨m1_, fun c_ j_ q_ _ => f1_ c_ j_ q_⟩
          have H1_ := tmf_S H_ F1_
          obtain ⟨h2, vc, ⟨H2_, F2⟩, ⟨a16, a_⟩, r2⟩ := tm_m hS_ 20 (i_ + 1) t_ h1 (by omega) ed2 (by omega) H1_ (tmf_R R_ F1_) w0_ ((f1_ _ _ (by omega)).trans e17_)
          have ld2 := ycv (d_ := 81) (mi := 205) (pc := 77) (cm := 204) (lo_ := [(3, .int 51), (2, .int (bI all)), (1, .int (bI any)), (0, .index 338)]) (st_ := [.index 338]) (as_ := []) (s' := []) rfl rfl (bcq_of (n_ := 338) (z_ := (12, 26)) H1_.1 rfl) rfl (xcc_l (List.forall_mem_cons.mpr ⟨rfl, List.forall_mem_cons.mpr ⟨rfl, List.forall_mem_cons.mpr ⟨rfl, List.forall_mem_cons.mpr ⟨xidx_i (bcq_lt (bcq_of (n_ := 338) (z_ := (12, 26)) H1_.1 rfl)), fun q_ hq => absurd hq List.not_mem_nil⟩⟩⟩⟩) (fun t_ ht => absurd ht List.not_mem_nil) (Nat.le_of_ble_eq_true rfl)) (fun D_ hD => r2 D_ (by omega))
          obtain ⟨h3, ⟨m3_, f3_⟩, ld3⟩ := saQ51A (y4 := 0) H2_.1 any all vc
          have F13 := tmf_t F1_ (tmf_t F2 (tmf_a m3_ f3_))
          have H3 := tmf_S H_ F13
          obtain ⟨k1_, k2_⟩ := tmF_c (so := wso (V 3)) 20 (i_ + 1) t_ 0 false (by omega) (Or.inl rfl)
          rcases a_ with ⟨a1_, a2, a3, a4⟩ | ⟨a1_, a2⟩
          · obtain ⟨b1, b2, b3, b4⟩ := k1_ a1_
            rw [eT (Or.inr g51) a1_]
            rw [a3] at ld2 ld3
            obtain ⟨h4, vd, ⟨H4, F4⟩, q4_, r4⟩ := ih_ _ _ _ _ h3 _ (by omega) a4 (by omega) H3 (tmf_R R_ F13) ((f3_ _ _).trans a16) ((f3_ _ _).trans a2) (Or.inr ⟨_, _, rfl⟩)
            exact ⟨h4, vd, ⟨H4, tmf_t F13 F4⟩, q4_, fun D_ hD => ld1 D_ (by omega) _ (ld2 D_ (by omega) _ (ld3 D_ (by omega) _ (r4 D_ hD)))⟩
          · have na : ¬ (tmF (wso (V 3)) 20 (i_ + 1) t_).1 = true := by rw [a1_]; exact Bool.false_ne_true
            rw [eF (Or.inr g51) na]
            obtain ⟨h4, m4_, f4_, ld4⟩ := saXB (v317 := 1) (v2 := bI (if (51 : Int32).toInt = 51 then vc else (all && vc))) (v1_ := bI (any || (decide ((51 : Int32).toInt = 51) && all))) (v4_ := bI vc) (v3 := 51) H3.1 ((f3_ _ _).trans a2) (by decide)
            obtain ⟨h5, ⟨m5_, f5_⟩, r5_⟩ := saZB (h_ := h4) (y3 := 51) (y4 := bI vc) m4_.1 (any || (decide ((51 : Int32).toInt = 51) && all)) (if (51 : Int32).toInt = 51 then vc else (all && vc))
            have F5 := tmf_t F13 (tmf_t (tmf_a m4_ f4_) (tmf_a m5_ f5_))
            exact ⟨h5, _, ⟨tmf_S H_ F5, F5⟩, Or.inr ⟨rfl, (f5_ _ _).trans ((f4_ _ _).trans ((f3_ _ _).trans a2)), (f5_ _ _).trans ((f4_ _ _).trans ((f3_ _ _).trans a16))⟩, fun D_ hD => ld1 D_ (by omega) _ (ld2 D_ (by omega) _ (ld3 D_ (by omega) _ (ld4 D_ (by omega) _ (r5_ D_ (by omega)))))⟩
        have n50 : ¬ v_ = 50 := fun q2_ => g50 (by rw [q2_]; rfl)
        have n51 : ¬ v_ = 51 := fun q2_ => g51 (by rw [q2_]; rfl)
        rw [eN_ (by omega)]
        obtain ⟨h1, m1_, w0_, f1_, ld1⟩ := saNA (v1_ := bI any) (v2 := bI all) (v300 := Int32.ofNat L_.length) (v316 := Int32.ofNat (i_ + 1)) (v317 := 0) (v301 := v_) H_.1 e17_ e16_ R_.2.1.2.1 ov ⟨by omega, by omega⟩ n51 n50 (by omega) rfl
        obtain ⟨h2, ⟨m2_, f2_⟩, r2⟩ := saZNA (y3 := v_) (y4 := 0) m1_.1 any all
        have F2 : tmf h_ h2 := tmf_t ⟨m1_, fun c_ j_ _ q_ => f1_ c_ j_ q_⟩ (tmf_a m2_ f2_)
        exact ⟨h2, _, ⟨tmf_S H_ F2, F2⟩, Or.inr ⟨rfl, (f2_ _ _).trans w0_, (f2_ _ _).trans ((f1_ _ _ (by omega)).trans e16_)⟩, fun D_ hD => ld1 D_ (by omega) _ (r2 D_ (by omega))⟩
    · cases l with
      | nil =>
        rw [List.length_nil] at hi_
        have e_ : syF (wso (V 3)) (f_ + 1) i_ any all [] = (true, i_, any || all) := rfl
        rw [e_]
        obtain ⟨h1, m1_, f1_, ld1⟩ := saYB (v1_ := bI any) (v2 := bI all) (v4_ := y4) (v3 := y3) (v300 := Int32.ofNat L_.length) (v316 := Int32.ofNat (i_ + 1)) (v317 := 0) H_.1 e17_ e16_ R_.2.1.2.1 (by omega) rfl
        obtain ⟨h2, ⟨m2_, f2_⟩, r2⟩ := saZB (y3 := y3) (y4 := y4) m1_.1 any all
        have F2 := tmf_t (tmf_a m1_ f1_) (tmf_a m2_ f2_)
        exact ⟨h2, _, ⟨tmf_S H_ F2, F2⟩, Or.inl ⟨rfl, (f2_ _ _).trans ((f1_ _ _).trans e17_), rfl⟩, fun D_ hD => ld1 D_ (by omega) _ (r2 D_ (by omega))⟩
      | cons v_ t_ =>
        rw [List.length_cons] at hl hi_
        have ed2 : L_.drop (i_ + 1) = t_ := by rw [show L_.drop (i_ + 1) = (L_.drop i_).drop 1 by rw [List.drop_drop], ed]; rfl
        have ov : bpat h_ 342 (Int32.ofNat (i_ + 1)).toInt.toNat = some (.int v_) := by rw [i32t (by omega)]; exact itm R_ ed
        have eT : (v_.toInt = 50 ∨ v_.toInt = 51) → (tmF (wso (V 3)) 20 (i_ + 1) t_).1 = true → syF (wso (V 3)) (f_ + 1) i_ any all (v_ :: t_) = syF (wso (V 3)) f_ (tmF (wso (V 3)) 20 (i_ + 1) t_).2.1 (any || (decide (v_.toInt = 51) && all)) (if v_.toInt = 51 then (tmF (wso (V 3)) 20 (i_ + 1) t_).2.2.1 else (all && (tmF (wso (V 3)) 20 (i_ + 1) t_).2.2.1)) (tmF (wso (V 3)) 20 (i_ + 1) t_).2.2.2 := fun gj ga => (if_pos gj).trans (if_pos ga)
        have eF : (v_.toInt = 50 ∨ v_.toInt = 51) → ¬ (tmF (wso (V 3)) 20 (i_ + 1) t_).1 = true → syF (wso (V 3)) (f_ + 1) i_ any all (v_ :: t_) = (false, (tmF (wso (V 3)) 20 (i_ + 1) t_).2.1, false) := fun gj ga => (if_pos gj).trans (if_neg ga)
        have eN_ : ¬ (v_.toInt = 50 ∨ v_.toInt = 51) → syF (wso (V 3)) (f_ + 1) i_ any all (v_ :: t_) = (false, i_, false) := fun gj => if_neg gj
        by_cases g50 : v_.toInt = 50
        · have ev_ : v_ = 50 := Int32.toInt_inj.mp g50
          subst ev_
          obtain ⟨h1, m1_, w0_, f1_, ld1⟩ := saJ50B (v1_ := bI any) (v2 := bI all) (v4_ := y4) (v3 := y3) (v300 := Int32.ofNat L_.length) (v316 := Int32.ofNat (i_ + 1)) (v317 := 0) H_.1 e17_ e16_ R_.2.1.2.1 ov ⟨by omega, by omega⟩ (by omega) rfl
          rw [i32s] at w0_
          have F1_ : tmf h_ h1 := ⟨m1_, fun c_ j_ q_ _ => f1_ c_ j_ q_⟩
          have H1_ := tmf_S H_ F1_
          obtain ⟨h2, vc, ⟨H2_, F2⟩, ⟨a16, a_⟩, r2⟩ := tm_m hS_ 20 (i_ + 1) t_ h1 (by omega) ed2 (by omega) H1_ (tmf_R R_ F1_) w0_ ((f1_ _ _ (by omega)).trans e17_)
          have ld2 := ycv (d_ := 81) (mi := 205) (pc := 77) (cm := 204) (lo_ := [(3, .int 50), (2, .int (bI all)), (1, .int (bI any)), (4, .int y4), (0, .index 338)]) (st_ := [.index 338]) (as_ := []) (s' := []) rfl rfl (bcq_of (n_ := 338) (z_ := (12, 26)) H1_.1 rfl) rfl (xcc_l (List.forall_mem_cons.mpr ⟨rfl, List.forall_mem_cons.mpr ⟨rfl, List.forall_mem_cons.mpr ⟨rfl, List.forall_mem_cons.mpr ⟨rfl, List.forall_mem_cons.mpr ⟨xidx_i (bcq_lt (bcq_of (n_ := 338) (z_ := (12, 26)) H1_.1 rfl)), fun q_ hq => absurd hq List.not_mem_nil⟩⟩⟩⟩⟩) (fun t_ ht => absurd ht List.not_mem_nil) (Nat.le_of_ble_eq_true rfl)) (fun D_ hD => r2 D_ (by omega))
          obtain ⟨h3, ⟨m3_, f3_⟩, ld3⟩ := saQ50B (y4 := y4) H2_.1 any all vc
          have F13 := tmf_t F1_ (tmf_t F2 (tmf_a m3_ f3_))
          have H3 := tmf_S H_ F13
          obtain ⟨k1_, k2_⟩ := tmF_c (so := wso (V 3)) 20 (i_ + 1) t_ 0 false (by omega) (Or.inl rfl)
          rcases a_ with ⟨a1_, a2, a3, a4⟩ | ⟨a1_, a2⟩
          · obtain ⟨b1, b2, b3, b4⟩ := k1_ a1_
            rw [eT (Or.inl g50) a1_]
            rw [a3] at ld2 ld3
            obtain ⟨h4, vd, ⟨H4, F4⟩, q4_, r4⟩ := ih_ _ _ _ _ h3 _ (by omega) a4 (by omega) H3 (tmf_R R_ F13) ((f3_ _ _).trans a16) ((f3_ _ _).trans a2) (Or.inr ⟨_, _, rfl⟩)
            exact ⟨h4, vd, ⟨H4, tmf_t F13 F4⟩, q4_, fun D_ hD => ld1 D_ (by omega) _ (ld2 D_ (by omega) _ (ld3 D_ (by omega) _ (r4 D_ hD)))⟩
          · have na : ¬ (tmF (wso (V 3)) 20 (i_ + 1) t_).1 = true := by rw [a1_]; exact Bool.false_ne_true
            rw [eF (Or.inl g50) na]
            obtain ⟨h4, m4_, f4_, ld4⟩ := saXB (v317 := 1) (v2 := bI (if (50 : Int32).toInt = 51 then vc else (all && vc))) (v1_ := bI (any || (decide ((50 : Int32).toInt = 51) && all))) (v4_ := bI vc) (v3 := 50) H3.1 ((f3_ _ _).trans a2) (by decide)
            obtain ⟨h5, ⟨m5_, f5_⟩, r5_⟩ := saZB (h_ := h4) (y3 := 50) (y4 := bI vc) m4_.1 (any || (decide ((50 : Int32).toInt = 51) && all)) (if (50 : Int32).toInt = 51 then vc else (all && vc))
            have F5 := tmf_t F13 (tmf_t (tmf_a m4_ f4_) (tmf_a m5_ f5_))
            exact ⟨h5, _, ⟨tmf_S H_ F5, F5⟩, Or.inr ⟨rfl, (f5_ _ _).trans ((f4_ _ _).trans ((f3_ _ _).trans a2)), (f5_ _ _).trans ((f4_ _ _).trans ((f3_ _ _).trans a16))⟩, fun D_ hD => ld1 D_ (by omega) _ (ld2 D_ (by omega) _ (ld3 D_ (by omega) _ (ld4 D_ (by omega) _ (r5_ D_ (by omega)))))⟩
        by_cases g51 : v_.toInt = 51
        · have ev_ : v_ = 51 := Int32.toInt_inj.mp g51
          subst ev_
          obtain ⟨h1, m1_, w0_, f1_, ld1⟩ := saJ51B (v1_ := bI any) (v2 := bI all) (v4_ := y4) (v3 := y3) (v300 := Int32.ofNat L_.length) (v316 := Int32.ofNat (i_ + 1)) (v317 := 0) H_.1 e17_ e16_ R_.2.1.2.1 ov ⟨by omega, by omega⟩ (by omega) rfl
          rw [i32s] at w0_
          have F1_ : tmf h_ h1 := ⟨m1_, fun c_ j_ q_ _ => f1_ c_ j_ q_⟩
          have H1_ := tmf_S H_ F1_
          obtain ⟨h2, vc, ⟨H2_, F2⟩, ⟨a16, a_⟩, r2⟩ := tm_m hS_ 20 (i_ + 1) t_ h1 (by omega) ed2 (by omega) H1_ (tmf_R R_ F1_) w0_ ((f1_ _ _ (by omega)).trans e17_)
          have ld2 := ycv (d_ := 81) (mi := 205) (pc := 77) (cm := 204) (lo_ := [(3, .int 51), (2, .int (bI all)), (1, .int (bI any)), (4, .int y4), (0, .index 338)]) (st_ := [.index 338]) (as_ := []) (s' := []) rfl rfl (bcq_of (n_ := 338) (z_ := (12, 26)) H1_.1 rfl) rfl (xcc_l (List.forall_mem_cons.mpr ⟨rfl, List.forall_mem_cons.mpr ⟨rfl, List.forall_mem_cons.mpr ⟨rfl, List.forall_mem_cons.mpr ⟨rfl, List.forall_mem_cons.mpr ⟨xidx_i (bcq_lt (bcq_of (n_ := 338) (z_ := (12, 26)) H1_.1 rfl)), fun q_ hq => absurd hq List.not_mem_nil⟩⟩⟩⟩⟩) (fun t_ ht => absurd ht List.not_mem_nil) (Nat.le_of_ble_eq_true rfl)) (fun D_ hD => r2 D_ (by omega))
          obtain ⟨h3, ⟨m3_, f3_⟩, ld3⟩ := saQ51B (y4 := y4) H2_.1 any all vc
          have F13 := tmf_t F1_ (tmf_t F2 (tmf_a m3_ f3_))
          have H3 := tmf_S H_ F13
          obtain ⟨k1_, k2_⟩ := tmF_c (so := wso (V 3)) 20 (i_ + 1) t_ 0 false (by omega) (Or.inl rfl)
          rcases a_ with ⟨a1_, a2, a3, a4⟩ | ⟨a1_, a2⟩
          · obtain ⟨b1, b2, b3, b4⟩ := k1_ a1_
            rw [eT (Or.inr g51) a1_]
            rw [a3] at ld2 ld3
            obtain ⟨h4, vd, ⟨H4, F4⟩, q4_, r4⟩ := ih_ _ _ _ _ h3 _ (by omega) a4 (by omega) H3 (tmf_R R_ F13) ((f3_ _ _).trans a16) ((f3_ _ _).trans a2) (Or.inr ⟨_, _, rfl⟩)
            exact ⟨h4, vd, ⟨H4, tmf_t F13 F4⟩, q4_, fun D_ hD => ld1 D_ (by omega) _ (ld2 D_ (by omega) _ (ld3 D_ (by omega) _ (r4 D_ hD)))⟩
          · have na : ¬ (tmF (wso (V 3)) 20 (i_ + 1) t_).1 = true := by rw [a1_]; exact Bool.false_ne_true
            rw [eF (Or.inr g51) na]
            obtain ⟨h4, m4_, f4_, ld4⟩ := saXB (v317 := 1) (v2 := bI (if (51 : Int32).toInt = 51 then vc else (all && vc))) (v1_ := bI (any || (decide ((51 : Int32).toInt = 51) && all))) (v4_ := bI vc) (v3 := 51) H3.1 ((f3_ _ _).trans a2) (by decide)
            obtain ⟨h5, ⟨m5_, f5_⟩, r5_⟩ := saZB (h_ := h4) (y3 := 51) (y4 := bI vc) m4_.1 (any || (decide ((51 : Int32).toInt = 51) && all)) (if (51 : Int32).toInt = 51 then vc else (all && vc))
            have F5 := tmf_t F13 (tmf_t (tmf_a m4_ f4_) (tmf_a m5_ f5_))
            exact ⟨h5, _, ⟨tmf_S H_ F5, F5⟩, Or.inr ⟨rfl, (f5_ _ _).trans ((f4_ _ _).trans ((f3_ _ _).trans a2)), (f5_ _ _).trans ((f4_ _ _).trans ((f3_ _ _).trans a16))⟩, fun D_ hD => ld1 D_ (by omega) _ (ld2 D_ (by omega) _ (ld3 D_ (by omega) _ (ld4 D_ (by omega) _ (r5_ D_ (by omega)))))⟩
        have n50 : ¬ v_ = 50 := fun q2_ => g50 (by rw [q2_]; rfl)
        have n51 : ¬ v_ = 51 := fun q2_ => g51 (by rw [q2_]; rfl)
        rw [eN_ (by omega)]
        obtain ⟨h1, m1_, w0_, f1_, ld1⟩ := saNB (v1_ := bI any) (v2 := bI all) (v4_ := y4) (v3 := y3) (v300 := Int32.ofNat L_.length) (v316 := Int32.ofNat (i_ + 1)) (v317 := 0) (v301 := v_) H_.1 e17_ e16_ R_.2.1.2.1 ov ⟨by omega, by omega⟩ n51 n50 (by omega) rfl
        obtain ⟨h2, ⟨m2_, f2_⟩, r2⟩ := saZNB (y3 := v_) (y4 := y4) m1_.1 any all
        have F2 : tmf h_ h2 := tmf_t ⟨m1_, fun c_ j_ _ q_ => f1_ c_ j_ q_⟩ (tmf_a m2_ f2_)
        exact ⟨h2, _, ⟨tmf_S H_ F2, F2⟩, Or.inr ⟨rfl, (f2_ _ _).trans w0_, (f2_ _ _).trans ((f1_ _ _ (by omega)).trans e16_)⟩, fun D_ hD => ld1 D_ (by omega) _ (r2 D_ (by omega))⟩
end
section
variable {W_ : Nat → List Int32} {V : Nat → Int32} {h_ : xH}
/-- saying -/
theorem saM {L_ : List Int32} (hS_ : snds L_) (H_ : SM W_ V h_) (R_ : rM 342 h_ L_) : ∃ (h' : xH) (vb : Bool), (SM W_ V h' ∧ tmf h_ h') ∧ ((((sayF (wso (V 3)) L_).1 = true ∧ (bpat h' 338 17 = some (.int 0) ∧ vb = (sayF (wso (V 3)) L_).2.2)) ∨ ((sayF (wso (V 3)) L_).1 = false ∧ (bpat h' 338 17 = some (.int 1) ∧ bpat h' 338 16 = some (.int (Int32.ofNat ((sayF (wso (V 3)) L_).2.1 + 1)))))) ∧ ∀ D_, 86 ≤ D_ → xrun D_ 205 0 [(0, .index 338)] [] h_ (some (.int (bI vb)), h', [])) := by
  have l12 := R_.2.2
  obtain ⟨h1, m1_, w17, w16, f1_, ld1⟩ := saE H_.1
  have F1_ : tmf h_ h1 := ⟨m1_, fun c_ j_ q1_ q2_ => f1_ c_ j_ q2_ q1_⟩
  have H1_ := tmf_S H_ F1_
  obtain ⟨h2, vb, ⟨H2_, F2⟩, ⟨a16, a_⟩, r2⟩ := tm_m hS_ 20 0 L_ h1 (by omega) rfl (Nat.zero_add _) H1_ (tmf_R R_ F1_) (by rw [w16]; rfl) w17
  have ld2 := ycv (d_ := 81) (mi := 205) (pc := 13) (cm := 204) (lo_ := [(1, .int 0), (0, .index 338)]) (st_ := [.index 338]) (as_ := []) (s' := []) rfl rfl (bcq_of (n_ := 338) (z_ := (12, 26)) H1_.1 rfl) rfl (xcc_l (List.forall_mem_cons.mpr ⟨rfl, List.forall_mem_cons.mpr ⟨xidx_i (bcq_lt (bcq_of (n_ := 338) (z_ := (12, 26)) H1_.1 rfl)), fun q_ hq => absurd hq List.not_mem_nil⟩⟩) (fun t_ ht => absurd ht List.not_mem_nil) (Nat.le_of_ble_eq_true rfl)) (fun D_ hD => r2 D_ (by omega))
  obtain ⟨h3, m3_, f3_, ld3⟩ := saA (v8 := bI vb) H2_.1
  have F13 := tmf_t F1_ (tmf_t F2 (tmf_a m3_ f3_))
  have H3 := tmf_S H_ F13
  obtain ⟨k1_, k2_⟩ := tmF_c (so := wso (V 3)) 20 0 L_ 0 false (by omega) (Or.inl rfl)
  rcases a_ with ⟨a1_, a2, a3, a4⟩ | ⟨a1_, a2⟩
  · obtain ⟨b1, b2, b3, b4⟩ := k1_ a1_
    have e_ : sayF (wso (V 3)) L_ = syF (wso (V 3)) 20 (tmF (wso (V 3)) 20 0 L_).2.1 false (tmF (wso (V 3)) 20 0 L_).2.2.1 (tmF (wso (V 3)) 20 0 L_).2.2.2 := if_pos a1_
    rw [e_]
    rw [a3] at ld2 ld3
    obtain ⟨h4, vd, ⟨H4, F4⟩, q4_, r4⟩ := sy_m hS_ 20 _ false _ _ h3 _ (by omega) a4 (by omega) H3 (tmf_R R_ F13) ((f3_ _ _).trans a16) ((f3_ _ _).trans a2) (Or.inl rfl)
    exact ⟨h4, vd, ⟨H4, tmf_t F13 F4⟩, q4_, fun D_ hD => ld1 D_ (by omega) _ (ld2 D_ (by omega) _ (ld3 D_ (by omega) _ (r4 D_ (by omega))))⟩
  · have na : ¬ (tmF (wso (V 3)) 20 0 L_).1 = true := by rw [a1_]; exact Bool.false_ne_true
    have e_ : sayF (wso (V 3)) L_ = (false, (tmF (wso (V 3)) 20 0 L_).2.1, false) := if_neg na
    rw [e_]
    obtain ⟨h4, m4_, f4_, ld4⟩ := saXA (v317 := 1) (v2 := bI vb) (v1_ := bI false) H3.1 ((f3_ _ _).trans a2) (by decide)
    obtain ⟨h5, ⟨m5_, f5_⟩, r5_⟩ := saZA (h_ := h4) (y3 := 0) (y4 := 0) m4_.1 false vb
    have F5 := tmf_t F13 (tmf_t (tmf_a m4_ f4_) (tmf_a m5_ f5_))
    exact ⟨h5, _, ⟨tmf_S H_ F5, F5⟩, Or.inr ⟨rfl, (f5_ _ _).trans ((f4_ _ _).trans ((f3_ _ _).trans a2)), (f5_ _ _).trans ((f4_ _ _).trans ((f3_ _ _).trans a16))⟩, fun D_ hD => ld1 D_ (by omega) _ (ld2 D_ (by omega) _ (ld3 D_ (by omega) _ (ld4 D_ (by omega) _ (r5_ D_ (by omega)))))⟩
end
theorem m_reads {W_ : Nat → List Int32} {V : Nat → Int32} {h_ : xH} {z_ : Int32} (B_ : bInv bZ bIj h_) (K_ : okS W_ V) (H_ : SM W_ V h_) : ∃ h', ysm h_ h' ∧ (SM (readsF W_ V z_).1 (readsF W_ V z_).2.1 h' ∧ ∀ D_, 90 ≤ D_ → xrun D_ 206 0 [(0, .index 338), (1, .int z_)] [] h_ (some (.int (readsF W_ V z_).2.2), h', [])) := by
  obtain ⟨y_, oy⟩ := merr (k_ := 1) B_ (by omega)
  have zz := z0_
  have kN_ := okN K_
  have n1_ := i32j (V 0) kN_.1 (by omega)
  have hz := m339 B_
  unfold readsF
  obtain ⟨h0, m0_, e_⟩ := mrdE (v1_ := z_) H_.1 (mNc H_) oy
  rcases e_ with ⟨g1, g2, f_, r_⟩ | ⟨g1, w0_, f_, r_⟩ | ⟨g1, g2, w0_, f_, r_⟩
  rotate_left
  · rw [if_neg (fun q_ => by omega)]; exact ⟨h0, m0_, SM_e H_ m0_ f_, fun D_ hD => r_ D_ (by omega)⟩
  · rw [if_neg (fun q_ => by omega)]; exact ⟨h0, m0_, SM_e H_ m0_ f_, fun D_ hD => r_ D_ (by omega)⟩
  have H0 := SM_fr H_ m0_ (fun c_ j_ _ => f_ c_ j_)
  obtain ⟨c_, hc_, hN_, rfl, ec⟩ := isC_n (z_ := z_) K_ ⟨by omega, by omega⟩
  rw [if_pos ⟨by omega, by omega⟩, ec]
  obtain ⟨h1, m1_, f1_, ld1⟩ := mrdG (v1_ := Int32.ofNat c_) H0.1
  rw [i34e hc_] at ld1
  have H1_ := SM_fr H0 m1_ (fun c_ j_ _ => f1_ c_ j_)
  obtain ⟨h2, ⟨H2_, F2⟩, R2, ld2⟩ := c_take (mi := 206) (pc := 26) (lo_ := [(0, .index 338), (1, .int (Int32.ofNat c_))]) (b_ := 342) (s' := []) rfl (xcc_l (List.forall_mem_cons.mpr ⟨xidx_i (bcq_lt (bcq_of (n_ := 338) (z_ := (12, 26)) H1_.1 rfl)), List.forall_mem_cons.mpr ⟨rfl, fun q_ hq => absurd hq List.not_mem_nil⟩⟩) (fun t_ ht => absurd ht List.not_mem_nil) (Nat.le_of_ble_eq_true rfl)) K_ H1_ (Or.inl rfl) hc_ (fun j_ hj => by rw [f1_, f_]; exact hz j_ hj)
  obtain ⟨h3, m3_, f3_, ld3⟩ := mrdH (v1_ := Int32.ofNat c_) H2_.1
  have H3 := SM_fr H2_ m3_ (fun c_ j_ _ => f3_ c_ j_)
  have kc_ := K_.1.2.2.1 c_ hc_
  rw [Nat.zero_add] at kc_
  have R3 := rM_all R2 m3_ f3_
  obtain ⟨h4, vb, ⟨H4, F4⟩, a_, r4⟩ := saM kc_.2 H3 R3
  have ld4 := ycv (d_ := 86) (mi := 206) (pc := 30) (cm := 205) (lo_ := [(0, .index 338), (1, .int (Int32.ofNat c_))]) (st_ := [.index 338]) (as_ := []) (s' := []) rfl rfl (bcq_of (n_ := 338) (z_ := (12, 26)) H3.1 rfl) rfl (xcc_l (List.forall_mem_cons.mpr ⟨xidx_i (bcq_lt (bcq_of (n_ := 338) (z_ := (12, 26)) H3.1 rfl)), List.forall_mem_cons.mpr ⟨rfl, fun q_ hq => absurd hq List.not_mem_nil⟩⟩) (fun t_ ht => absurd ht List.not_mem_nil) (Nat.le_of_ble_eq_true rfl)) r4
  have M4_ := ysm_tr m0_ (ysm_tr m1_ (ysm_tr F2.1 (ysm_tr m3_ F4.1)))
  obtain ⟨k1_, k2_⟩ := sayF_c (so := wso (V 3)) (l := W_ c_) (by have := R3.2.2; omega)
  rcases a_ with ⟨a1_, a2, a3⟩ | ⟨a1_, a2, a3⟩
  · rw [k1_ a1_, if_pos (by omega)]
    obtain ⟨h5, m5_, f5_, r5_⟩ := mrdR0 (v1_ := Int32.ofNat c_) (v5 := bI vb) (v317 := 0) H4.1 a2 rfl
    exact ⟨h5, ysm_tr M4_ m5_, SM_fr H4 m5_ (fun c_ j_ _ => f5_ c_ j_), fun D_ hD => r_ D_ (by omega) _ (ld1 D_ (by omega) _ (ld2 D_ (by omega) _ (ld3 D_ (by omega) _ (ld4 D_ (by omega) _ (r5_ D_ (by omega))))))⟩
  · rw [k2_ a1_, if_neg (by omega)]
    obtain ⟨h5, m5_, f5_, r5_⟩ := mrdR1 (v1_ := Int32.ofNat c_) (v5 := bI vb) (v317 := 1) H4.1 a2 a3 (by decide)
    have en : Int32.ofNat ((sayF (wso (V 3)) (W_ c_)).2.1 + 1) - 1 = Int32.ofInt (((sayF (wso (V 3)) (W_ c_)).2.1 : Nat) : Int) := by
      rw [← i32s, Int32.add_sub_cancel]
      rfl
    rw [en] at r5_
    exact ⟨h5, ysm_tr M4_ m5_, SM_fr H4 m5_ (fun c_ j_ _ => f5_ c_ j_), fun D_ hD => r_ D_ (by omega) _ (ld1 D_ (by omega) _ (ld2 D_ (by omega) _ (ld3 D_ (by omega) _ (ld4 D_ (by omega) _ (r5_ D_ (by omega))))))⟩
