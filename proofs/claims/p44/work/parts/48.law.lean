-- ===== THE LAW: its turns
def lwe (pc : Nat) (e : Instr × Nat × List Nat) : Bool := decide (xcd xlaw pc = some e)
/-- its locals at the head: the place in the script, the two objects, the script -/
def lwS (i_ : Nat) : xL := [(3, .int (nI i_)), (2, .index 338), (1, .index 0), (0, .arg 100)]
/-- an int of the script, named -/
def lwV (r_ : Nat → Value) (k_ : Nat) : Jvm.Term := .int (xti (r_ (200 + k_)))
def lwArg (pc j_ : Nat) : Bool := lwe pc (.aload_n 0, 1, []) && (lwe (pc + 1) (.iload_n 3, 1, []) && (lwe (pc + 2) (.iconst (Int.ofNat j_), 1, []) && (lwe (pc + 3) (.iadd, 1, []) && lwe (pc + 4) (.iaload, 1, []))))
def lwArgs (pc : Nat) (js : List Nat) : Bool := match js with
  | [] => true
  | j_ :: t_ => (lwArg pc j_ && Nat.ble j_ 5) && lwArgs (pc + 5) t_
def lwVs (r_ : Nat → Value) (i_ : Nat) (js : List Nat) : List Jvm.Term := js.map (fun j_ => lwV r_ (i_ + j_))
theorem lw_ij : ∀ j_ : Nat, j_ < 6 → Int32.ofInt (Int.ofNat j_) = nI j_ := by decide +kernel
theorem nI_6 : (Int8.ofInt 6).toInt32 = nI 6 := by decide +kernel
theorem nI_63 : (Int8.ofInt 63).toInt32 = nI 63 := by decide +kernel
section
variable {r_ : Nat → Value} {d_ pc i_ L_ : Nat} {st : List Jvm.Term} {h : xH}
theorem lw_arg (hT_ : xTok) (hL : r_ 49 = .int (nI L_)) (hL31 : L_ < 2 ^ 31) {j_ : Nat} (hj : j_ ≤ 5) (hi_ : i_ + 6 ≤ L_) (hc_ : lwArg pc j_ = true) : xTr r_ d_ xlaw pc (lwS i_) st h (pc + 5) (lwS i_) (lwV r_ (i_ + j_) :: st) h := by
  unfold lwArg at hc_
  simp only [Bool.and_eq_true] at hc_
  obtain ⟨c1_, c2_, c3_, c4_, c5_⟩ := hc_
  have T1 : xTr r_ d_ xlaw pc (lwS i_) st h (pc + 1) (lwS i_) (.arg 100 :: st) h := xTr_al hT_ (of_decide_eq_true c1_) rfl rfl
  have T2 : xTr r_ d_ xlaw (pc + 1) (lwS i_) (.arg 100 :: st) h (pc + 2) (lwS i_) (.int (nI i_) :: .arg 100 :: st) h := xTr_il hT_ (of_decide_eq_true c2_) rfl rfl
  have T3 : xTr r_ d_ xlaw (pc + 2) (lwS i_) (.int (nI i_) :: .arg 100 :: st) h (pc + 3) (lwS i_) (.int (nI j_) :: .int (nI i_) :: .arg 100 :: st) h := by
    have t3_ : xTr r_ d_ xlaw (pc + 2) (lwS i_) (.int (nI i_) :: .arg 100 :: st) h (pc + 3) (lwS i_) (.int (Int32.ofInt (Int.ofNat j_)) :: .int (nI i_) :: .arg 100 :: st) h := xTr_ic hT_ (of_decide_eq_true c3_)
    rw [lw_ij j_ (by omega)] at t3_
    exact t3_
  have T4 : xTr r_ d_ xlaw (pc + 3) (lwS i_) (.int (nI j_) :: .int (nI i_) :: .arg 100 :: st) h (pc + 4) (lwS i_) (.int (nI (i_ + j_)) :: .arg 100 :: st) h := by
    have t4_ : xTr r_ d_ xlaw (pc + 3) (lwS i_) (.int (nI j_) :: .int (nI i_) :: .arg 100 :: st) h (pc + 4) (lwS i_) (.int (nI i_ + nI j_) :: .arg 100 :: st) h := xTr_add hT_ (of_decide_eq_true c4_)
    rw [nI_add] at t4_
    exact t4_
  have T5 : xTr r_ d_ xlaw (pc + 4) (lwS i_) (.int (nI (i_ + j_)) :: .arg 100 :: st) h (pc + 5) (lwS i_) (lwV r_ (i_ + j_) :: st) h := xTr_rd hT_ (of_decide_eq_true c5_) hL hL31 (by omega)
  exact xTr_tt T1 (xTr_tt T2 (xTr_tt T3 (xTr_tt T4 T5)))
theorem lw_args (hT_ : xTok) (hL : r_ 49 = .int (nI L_)) (hL31 : L_ < 2 ^ 31) (hi_ : i_ + 6 ≤ L_) : ∀ (js : List Nat) (pc : Nat) (st : List Jvm.Term), lwArgs pc js = true → xTr r_ d_ xlaw pc (lwS i_) st h (pc + 5 * js.length) (lwS i_) ((lwVs r_ i_ js).reverse ++ st) h := by
  intro js
  induction js with
  | nil => intro pc st _; exact xTr_rf
  | cons j_ t_ ih_ =>
    intro pc st hc_
    simp only [lwArgs, Bool.and_eq_true] at hc_
    have T1 : xTr r_ d_ xlaw pc (lwS i_) st h (pc + 5) (lwS i_) (lwV r_ (i_ + j_) :: st) h := lw_arg hT_ hL hL31 (Nat.le_of_ble_eq_true hc_.1.2) hi_ hc_.1.1
    have T2 := ih_ (pc + 5) (lwV r_ (i_ + j_) :: st) hc_.2
    have e1_ : pc + 5 * (j_ :: t_).length = pc + 5 + 5 * t_.length := by simp only [List.length_cons]; omega
    have e2_ : (lwVs r_ i_ (j_ :: t_)).reverse ++ st = (lwVs r_ i_ t_).reverse ++ (lwV r_ (i_ + j_) :: st) := by
      simp only [lwVs, List.map_cons, List.reverse_cons, List.append_assoc, List.singleton_append]
    rw [e1_, e2_]
    exact xTr_tt T1 T2
end
def lwInv (pc cm : Nat) : Bool := match xcd xlaw pc with
  | some (.invokevirtual _, _, [_, cm', _, _, _]) => Nat.beq cm' cm
  | _ => false
theorem lwInv_ok {pc cm : Nat} (h : lwInv pc cm = true) : ∃ idx_ ln p0_ a1_ b1 d1_, xcd xlaw pc = some (.invokevirtual idx_, ln, [p0_, cm, a1_, b1, d1_]) := by
  unfold lwInv at h
  split at h
  · rename_i e
    rw [← Nat.eq_of_beq_eq_true h]
    exact ⟨_, _, _, _, _, _, e⟩
  · cases h
/-- a method of the object at a, so many words of arguments -/
def lwM (cm a_ n w_ : Nat) : Bool := Nat.beq (xn cm) n && (Nat.beq (xo cm) (bif Nat.beq a_ 0 then 11 else 12) && (Nat.ble (w_ + 1) (xm cm) && (Nat.beq a_ 0 || Nat.beq a_ 338)))
theorem bZ_0 : bZ[0]? = some (11, 15) := by decide +kernel
theorem xtk_go : ∀ (b_ st acc : List Jvm.Term), xtk b_.length (b_ ++ st) acc = some (b_.reverse ++ acc, st) := by
  intro b_
  induction b_ with
  | nil => intro st acc; rfl
  | cons t_ b_ ih_ =>
    intro st acc
    show xtk b_.length (b_ ++ st) (t_ :: acc) = _
    rw [ih_ st (t_ :: acc), List.reverse_cons, List.append_assoc]
    rfl
theorem xtk_rv (as_ st : List Jvm.Term) : xtk as_.length (as_.reverse ++ st) [] = some (as_, st) := by
  have h := xtk_go as_.reverse st []
  rw [List.length_reverse, List.reverse_reverse, List.append_nil] at h
  exact h
/-- a call of a method of one of the two, by its run on numbers -/
theorem lw_call (hT_ : xTok) {r_ : Nat → Value} (hr : xRr r_) {I : Nat → Nat → Option bN} {pc cm a_ i_ w_ : Nat} {as_ s' : List Jvm.Term} {h h' : xH} {v_ : Int32} (hc_ : lwInv pc cm = true) (hm_ : lwM cm a_ as_.length w_ = true) (hw : xasz as_ = w_) (hh : bInv bZ I h) (hs : s' = [] ∨ ∃ u_, s' = [.int u_]) (S_ : xrun 999 cm 0 (xal 0 (.index a_ :: as_)) [] h (some (.int v_), h', [])) (hw1 : xhw h') : xTr r_ 1000 xlaw pc (lwS i_) (as_.reverse ++ .index a_ :: s') h (pc + 3) (lwS i_) (.int v_ :: s') h' := by
  obtain ⟨idx_, ln, p0_, a1_, b1, d1_, hcd⟩ := lwInv_ok hc_
  unfold lwM at hm_
  simp only [Bool.and_eq_true, Bool.or_eq_true] at hm_
  obtain ⟨m1_, m2_, m3_, m4_⟩ := hm_
  have m1_ := Nat.eq_of_beq_eq_true m1_
  have m2_ := Nat.eq_of_beq_eq_true m2_
  have hlen : h.length = 354 := hh.1.1.trans bZ_len
  have key_ : ∃ c_, h[a_]? = some c_ ∧ c_.1 = xo cm ∧ c_.1 ≤ 12 ∧ a_ < 354 := by
    rcases m4_ with q_ | q_
    · have e := Nat.eq_of_beq_eq_true q_
      subst e
      obtain ⟨c_, c1_, c2_, -⟩ := hh.1.2 0 _ bZ_0
      have c2_ : c_.1 = 11 := c2_
      have m2_ : xo cm = 11 := m2_
      exact ⟨c_, c1_, by omega, by omega, by omega⟩
    · have e := Nat.eq_of_beq_eq_true q_
      subst e
      obtain ⟨c_, c1_, c2_, -⟩ := hh.1.2 338 _ bZ_338
      have c2_ : c_.1 = 12 := c2_
      have m2_ : xo cm = 12 := m2_
      exact ⟨c_, c1_, by omega, by omega, by omega⟩
  obtain ⟨c_, c1_, c2_, c3_, ha_⟩ := key_
  have hz : xasz (.index a_ :: as_) = w_ + 1 := by
    rw [← hw]
    show (bif xG (.index a_) then 2 else 1) + xasz as_ = xasz as_ + 1
    show 1 + xasz as_ = xasz as_ + 1
    omega
  refine xTr_call (o1 := (some (.int v_), h', [])) hT_ hr hcd (by rw [m1_]; exact xtk_rv as_ _) c1_ ?_ (xS1_run hT_ hr S_) hw1
  simp only [Bool.and_eq_true]
  refine ⟨by rw [c2_]; exact Nat.beq_refl _, Nat.ble_eq_true_of_le c3_, by rw [hz]; exact m3_, ?_⟩
  unfold xcc
  rw [hlen]
  rcases hs with rfl | ⟨u_, rfl⟩ <;> rfl
