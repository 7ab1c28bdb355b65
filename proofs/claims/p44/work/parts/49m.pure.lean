-- ===== methods of one int that look at no cell
def yA0 : yA := (fun _ => none, [], [], [], [])
theorem yA0_ok {r_ : Nat → Value} : yas yA0 r_ id := ⟨fun q_ hq => absurd hq List.not_mem_nil, fun q_ hq => absurd hq List.not_mem_nil, fun q_ hq => absurd hq List.not_mem_nil, fun _ _ => rfl, fun q_ hq => absurd hq List.not_mem_nil⟩
theorem yfr_nil {r_ : Nat → Value} {g_ : Nat → Nat} {h0 h_ : xH} (hf : yfr r_ g_ [] h0 h_) : h_ = h0 := by
  refine List.ext_getElem? (fun a_ => ?_)
  cases e_ : h0[a_]? with
  | none =>
    have l : h0.length ≤ a_ := List.getElem?_eq_none_iff.mp e_
    exact List.getElem?_eq_none_iff.mpr (by rw [hf.1]; exact l)
  | some c_ =>
    obtain ⟨c', c1_, c2_, c3_, c4_⟩ := hf.2 a_ c_ e_
    rw [c1_]
    obtain ⟨k_, l⟩ := c_
    obtain ⟨k', l'⟩ := c'
    have e1_ : k' = k_ := c2_
    have e2_ : l' = l := List.ext_getElem? (fun j_ => c4_ j_ (fun q_ hq => absurd hq List.not_mem_nil))
    rw [e1_, e2_]
/-- CONTRARY, as the class has it -/
def puC_F (v0_ : Int32) : Int32 := (bif xcmb .lt v0_ (40 : Int32) then (v0_ ^^^ (1 : Int32)) else (bif xcmb .eq v0_ (50 : Int32) then (51 : Int32) else (bif xcmb .eq v0_ (51 : Int32) then (50 : Int32) else (bif xcmb .le v0_ (60 : Int32) then v0_ else ((160 : Int32) - v0_)))))
def puC_rs : List yR := [(some (.arg 0), [], [(.le, .arg 0, .int 60, true), (.eq, .arg 0, .int 51, false), (.eq, .arg 0, .int 50, false), (.lt, .arg 0, .int 40, false)], []), (some (.sub (.int 160) (.arg 0)), [], [(.le, .arg 0, .int 60, false), (.eq, .arg 0, .int 51, false), (.eq, .arg 0, .int 50, false), (.lt, .arg 0, .int 40, false)], []), (some (.int 50), [], [(.eq, .arg 0, .int 51, true), (.eq, .arg 0, .int 50, false), (.lt, .arg 0, .int 40, false)], []), (some (.int 51), [], [(.eq, .arg 0, .int 50, true), (.lt, .arg 0, .int 40, false)], []), (some (.op2 .ixor (.arg 0) (.int 1)), [], [(.lt, .arg 0, .int 40, true)], [])]
theorem puC_k : yis (yev yA0 3000 5 133 [] (0, [(0, .arg 0)], [], [], [], [])) [] puC_rs = true := by decide +kernel
theorem puC (v0_ : Int32) (h_ : xH) (D_ : Nat) (hD : 5 ≤ D_) : xrun D_ 133 0 [(0, .int v0_)] [] h_ (some (.int (puC_F v0_)), h_, []) := by
  rcases yrun (h_ := h_) (r_ := fun _ => .int v0_) (g_ := id) (yis_ok puC_k) yA0_ok (fun n_ z_ e_ => (by cases e_)) (fun q_ hq => absurd hq List.not_mem_nil) (fun q_ hq => absurd hq List.not_mem_nil) with ⟨q_, hq, h', K_, G_⟩ | ⟨q_, hq, h', K_, G_⟩
  · cases hq
  · rcases List.mem_cons.mp hq with e_ | hq
    · subst e_
      have z_ := G_ D_ hD
      rw [yfr_nil K_.2.2.2] at z_
      have e_ : puC_F v0_ = v0_ := by
        unfold puC_F
        rw [show xcmb .lt v0_ (40 : Int32) = false from xhold_b (K_.2.2.1 _ (List.mem_cons_of_mem _ (List.mem_cons_of_mem _ (List.mem_cons_of_mem _ List.mem_cons_self)))), show xcmb .eq v0_ (50 : Int32) = false from xhold_b (K_.2.2.1 _ (List.mem_cons_of_mem _ (List.mem_cons_of_mem _ List.mem_cons_self))), show xcmb .eq v0_ (51 : Int32) = false from xhold_b (K_.2.2.1 _ (List.mem_cons_of_mem _ List.mem_cons_self)), show xcmb .le v0_ (60 : Int32) = true from xhold_b (K_.2.2.1 _ List.mem_cons_self)]
        rfl
      rw [e_]
      exact z_
    rcases List.mem_cons.mp hq with e_ | hq
    · subst e_
      have z_ := G_ D_ hD
      rw [yfr_nil K_.2.2.2] at z_
      have e_ : puC_F v0_ = ((160 : Int32) - v0_) := by
        unfold puC_F
        rw [show xcmb .lt v0_ (40 : Int32) = false from xhold_b (K_.2.2.1 _ (List.mem_cons_of_mem _ (List.mem_cons_of_mem _ (List.mem_cons_of_mem _ List.mem_cons_self)))), show xcmb .eq v0_ (50 : Int32) = false from xhold_b (K_.2.2.1 _ (List.mem_cons_of_mem _ (List.mem_cons_of_mem _ List.mem_cons_self))), show xcmb .eq v0_ (51 : Int32) = false from xhold_b (K_.2.2.1 _ (List.mem_cons_of_mem _ List.mem_cons_self)), show xcmb .le v0_ (60 : Int32) = false from xhold_b (K_.2.2.1 _ List.mem_cons_self)]
        rfl
      rw [e_]
      exact z_
    rcases List.mem_cons.mp hq with e_ | hq
    · subst e_
      have z_ := G_ D_ hD
      rw [yfr_nil K_.2.2.2] at z_
      have e_ : puC_F v0_ = (50 : Int32) := by
        unfold puC_F
        rw [show xcmb .lt v0_ (40 : Int32) = false from xhold_b (K_.2.2.1 _ (List.mem_cons_of_mem _ (List.mem_cons_of_mem _ List.mem_cons_self))), show xcmb .eq v0_ (50 : Int32) = false from xhold_b (K_.2.2.1 _ (List.mem_cons_of_mem _ List.mem_cons_self)), show xcmb .eq v0_ (51 : Int32) = true from xhold_b (K_.2.2.1 _ List.mem_cons_self)]
        rfl
      rw [e_]
      exact z_
    rcases List.mem_cons.mp hq with e_ | hq
    · subst e_
      have z_ := G_ D_ hD
      rw [yfr_nil K_.2.2.2] at z_
      have e_ : puC_F v0_ = (51 : Int32) := by
        unfold puC_F
        rw [show xcmb .lt v0_ (40 : Int32) = false from xhold_b (K_.2.2.1 _ (List.mem_cons_of_mem _ List.mem_cons_self)), show xcmb .eq v0_ (50 : Int32) = true from xhold_b (K_.2.2.1 _ List.mem_cons_self)]
        rfl
      rw [e_]
      exact z_
    have e_ := List.mem_singleton.mp hq
    subst e_
    have z_ := G_ D_ hD
    rw [yfr_nil K_.2.2.2] at z_
    have e_ : puC_F v0_ = (v0_ ^^^ (1 : Int32)) := by
      unfold puC_F
      rw [show xcmb .lt v0_ (40 : Int32) = true from xhold_b (K_.2.2.1 _ List.mem_cons_self)]
      rfl
    rw [e_]
    exact z_
/-- is it a NUMBER, as the class has it -/
def puN_F (v0_ : Int32) : Int32 := (bif xcmb .lt v0_ (60 : Int32) then (0 : Int32) else (bif xcmb .le v0_ (99 : Int32) then (1 : Int32) else (0 : Int32)))
def puN_rs : List yR := [(some (.int 0), [], [(.lt, .arg 0, .int 60, true)], []), (some (.int 0), [], [(.le, .arg 0, .int 99, false), (.lt, .arg 0, .int 60, false)], []), (some (.int 1), [], [(.le, .arg 0, .int 99, true), (.lt, .arg 0, .int 60, false)], [])]
theorem puN_k : yis (yev yA0 3000 5 131 [] (0, [(0, .arg 0)], [], [], [], [])) [] puN_rs = true := by decide +kernel
theorem puN (v0_ : Int32) (h_ : xH) (D_ : Nat) (hD : 5 ≤ D_) : xrun D_ 131 0 [(0, .int v0_)] [] h_ (some (.int (puN_F v0_)), h_, []) := by
  rcases yrun (h_ := h_) (r_ := fun _ => .int v0_) (g_ := id) (yis_ok puN_k) yA0_ok (fun n_ z_ e_ => (by cases e_)) (fun q_ hq => absurd hq List.not_mem_nil) (fun q_ hq => absurd hq List.not_mem_nil) with ⟨q_, hq, h', K_, G_⟩ | ⟨q_, hq, h', K_, G_⟩
  · cases hq
  · rcases List.mem_cons.mp hq with e_ | hq
    · subst e_
      have z_ := G_ D_ hD
      rw [yfr_nil K_.2.2.2] at z_
      have e_ : puN_F v0_ = (0 : Int32) := by
        unfold puN_F
        rw [show xcmb .lt v0_ (60 : Int32) = true from xhold_b (K_.2.2.1 _ List.mem_cons_self)]
        rfl
      rw [e_]
      exact z_
    rcases List.mem_cons.mp hq with e_ | hq
    · subst e_
      have z_ := G_ D_ hD
      rw [yfr_nil K_.2.2.2] at z_
      have e_ : puN_F v0_ = (0 : Int32) := by
        unfold puN_F
        rw [show xcmb .lt v0_ (60 : Int32) = false from xhold_b (K_.2.2.1 _ (List.mem_cons_of_mem _ List.mem_cons_self)), show xcmb .le v0_ (99 : Int32) = false from xhold_b (K_.2.2.1 _ List.mem_cons_self)]
        rfl
      rw [e_]
      exact z_
    have e_ := List.mem_singleton.mp hq
    subst e_
    have z_ := G_ D_ hD
    rw [yfr_nil K_.2.2.2] at z_
    have e_ : puN_F v0_ = (1 : Int32) := by
      unfold puN_F
      rw [show xcmb .lt v0_ (60 : Int32) = false from xhold_b (K_.2.2.1 _ (List.mem_cons_of_mem _ List.mem_cons_self)), show xcmb .le v0_ (99 : Int32) = true from xhold_b (K_.2.2.1 _ List.mem_cons_self)]
      rfl
    rw [e_]
    exact z_
/-- is it a SOUND, as the class has it -/
def puS_F (v0_ : Int32) : Int32 := (bif xcmb .lt v0_ (0 : Int32) then (0 : Int32) else (bif xcmb .le v0_ (53 : Int32) then (1 : Int32) else (bif xcmb .lt v0_ (60 : Int32) then (0 : Int32) else (bif xcmb .le v0_ (99 : Int32) then (1 : Int32) else (0 : Int32)))))
def puS_rs : List yR := [(some (.int 0), [], [(.lt, .arg 0, .int 0, true)], []), (some (.int 1), [], [(.le, .arg 0, .int 53, true), (.lt, .arg 0, .int 0, false)], []), (some (.int 0), [], [(.lt, .arg 0, .int 60, true), (.le, .arg 0, .int 53, false), (.lt, .arg 0, .int 0, false)], []), (some (.int 0), [], [(.le, .arg 0, .int 99, false), (.lt, .arg 0, .int 60, false), (.le, .arg 0, .int 53, false), (.lt, .arg 0, .int 0, false)], []), (some (.int 1), [], [(.le, .arg 0, .int 99, true), (.lt, .arg 0, .int 60, false), (.le, .arg 0, .int 53, false), (.lt, .arg 0, .int 0, false)], [])]
theorem puS_k : yis (yev yA0 3000 5 130 [] (0, [(0, .arg 0)], [], [], [], [])) [] puS_rs = true := by decide +kernel
theorem puS (v0_ : Int32) (h_ : xH) (D_ : Nat) (hD : 5 ≤ D_) : xrun D_ 130 0 [(0, .int v0_)] [] h_ (some (.int (puS_F v0_)), h_, []) := by
  rcases yrun (h_ := h_) (r_ := fun _ => .int v0_) (g_ := id) (yis_ok puS_k) yA0_ok (fun n_ z_ e_ => (by cases e_)) (fun q_ hq => absurd hq List.not_mem_nil) (fun q_ hq => absurd hq List.not_mem_nil) with ⟨q_, hq, h', K_, G_⟩ | ⟨q_, hq, h', K_, G_⟩
  · cases hq
  · rcases List.mem_cons.mp hq with e_ | hq
    · subst e_
      have z_ := G_ D_ hD
      rw [yfr_nil K_.2.2.2] at z_
      have e_ : puS_F v0_ = (0 : Int32) := by
        unfold puS_F
        rw [show xcmb .lt v0_ (0 : Int32) = true from xhold_b (K_.2.2.1 _ List.mem_cons_self)]
        rfl
      rw [e_]
      exact z_
    rcases List.mem_cons.mp hq with e_ | hq
    · subst e_
      have z_ := G_ D_ hD
      rw [yfr_nil K_.2.2.2] at z_
      have e_ : puS_F v0_ = (1 : Int32) := by
        unfold puS_F
        rw [show xcmb .lt v0_ (0 : Int32) = false from xhold_b (K_.2.2.1 _ (List.mem_cons_of_mem _ List.mem_cons_self)), show xcmb .le v0_ (53 : Int32) = true from xhold_b (K_.2.2.1 _ List.mem_cons_self)]
        rfl
      rw [e_]
      exact z_
    rcases List.mem_cons.mp hq with e_ | hq
    · subst e_
      have z_ := G_ D_ hD
      rw [yfr_nil K_.2.2.2] at z_
      have e_ : puS_F v0_ = (0 : Int32) := by
        unfold puS_F
        rw [show xcmb .lt v0_ (0 : Int32) = false from xhold_b (K_.2.2.1 _ (List.mem_cons_of_mem _ (List.mem_cons_of_mem _ List.mem_cons_self))), show xcmb .le v0_ (53 : Int32) = false from xhold_b (K_.2.2.1 _ (List.mem_cons_of_mem _ List.mem_cons_self)), show xcmb .lt v0_ (60 : Int32) = true from xhold_b (K_.2.2.1 _ List.mem_cons_self)]
        rfl
      rw [e_]
      exact z_
    rcases List.mem_cons.mp hq with e_ | hq
    · subst e_
      have z_ := G_ D_ hD
      rw [yfr_nil K_.2.2.2] at z_
      have e_ : puS_F v0_ = (0 : Int32) := by
        unfold puS_F
        rw [show xcmb .lt v0_ (0 : Int32) = false from xhold_b (K_.2.2.1 _ (List.mem_cons_of_mem _ (List.mem_cons_of_mem _ (List.mem_cons_of_mem _ List.mem_cons_self)))), show xcmb .le v0_ (53 : Int32) = false from xhold_b (K_.2.2.1 _ (List.mem_cons_of_mem _ (List.mem_cons_of_mem _ List.mem_cons_self))), show xcmb .lt v0_ (60 : Int32) = false from xhold_b (K_.2.2.1 _ (List.mem_cons_of_mem _ List.mem_cons_self)), show xcmb .le v0_ (99 : Int32) = false from xhold_b (K_.2.2.1 _ List.mem_cons_self)]
        rfl
      rw [e_]
      exact z_
    have e_ := List.mem_singleton.mp hq
    subst e_
    have z_ := G_ D_ hD
    rw [yfr_nil K_.2.2.2] at z_
    have e_ : puS_F v0_ = (1 : Int32) := by
      unfold puS_F
      rw [show xcmb .lt v0_ (0 : Int32) = false from xhold_b (K_.2.2.1 _ (List.mem_cons_of_mem _ (List.mem_cons_of_mem _ (List.mem_cons_of_mem _ List.mem_cons_self)))), show xcmb .le v0_ (53 : Int32) = false from xhold_b (K_.2.2.1 _ (List.mem_cons_of_mem _ (List.mem_cons_of_mem _ List.mem_cons_self))), show xcmb .lt v0_ (60 : Int32) = false from xhold_b (K_.2.2.1 _ (List.mem_cons_of_mem _ List.mem_cons_self)), show xcmb .le v0_ (99 : Int32) = true from xhold_b (K_.2.2.1 _ List.mem_cons_self)]
      rfl
    rw [e_]
    exact z_
/-- a SOUND, or 60, as the class has it -/
def puZ_F (v0_ : Int32) : Int32 := (bif xcmb .lt v0_ (0 : Int32) then (60 : Int32) else (bif xcmb .le v0_ (53 : Int32) then v0_ else (bif xcmb .lt v0_ (60 : Int32) then (60 : Int32) else (bif xcmb .le v0_ (99 : Int32) then v0_ else (60 : Int32)))))
def puZ_rs : List yR := [(some (.int 60), [], [(.lt, .arg 0, .int 0, true)], []), (some (.arg 0), [], [(.le, .arg 0, .int 53, true), (.lt, .arg 0, .int 0, false)], []), (some (.int 60), [], [(.lt, .arg 0, .int 60, true), (.le, .arg 0, .int 53, false), (.lt, .arg 0, .int 0, false)], []), (some (.int 60), [], [(.le, .arg 0, .int 99, false), (.lt, .arg 0, .int 60, false), (.le, .arg 0, .int 53, false), (.lt, .arg 0, .int 0, false)], []), (some (.arg 0), [], [(.le, .arg 0, .int 99, true), (.lt, .arg 0, .int 60, false), (.le, .arg 0, .int 53, false), (.lt, .arg 0, .int 0, false)], [])]
theorem puZ_k : yis (yev yA0 3000 5 132 [] (0, [(0, .arg 0)], [], [], [], [])) [] puZ_rs = true := by decide +kernel
theorem puZ (v0_ : Int32) (h_ : xH) (D_ : Nat) (hD : 5 ≤ D_) : xrun D_ 132 0 [(0, .int v0_)] [] h_ (some (.int (puZ_F v0_)), h_, []) := by
  rcases yrun (h_ := h_) (r_ := fun _ => .int v0_) (g_ := id) (yis_ok puZ_k) yA0_ok (fun n_ z_ e_ => (by cases e_)) (fun q_ hq => absurd hq List.not_mem_nil) (fun q_ hq => absurd hq List.not_mem_nil) with ⟨q_, hq, h', K_, G_⟩ | ⟨q_, hq, h', K_, G_⟩
  · cases hq
  · rcases List.mem_cons.mp hq with e_ | hq
    · subst e_
      have z_ := G_ D_ hD
      rw [yfr_nil K_.2.2.2] at z_
      have e_ : puZ_F v0_ = (60 : Int32) := by
        unfold puZ_F
        rw [show xcmb .lt v0_ (0 : Int32) = true from xhold_b (K_.2.2.1 _ List.mem_cons_self)]
        rfl
      rw [e_]
      exact z_
    rcases List.mem_cons.mp hq with e_ | hq
    · subst e_
      have z_ := G_ D_ hD
      rw [yfr_nil K_.2.2.2] at z_
      have e_ : puZ_F v0_ = v0_ := by
        unfold puZ_F
        rw [show xcmb .lt v0_ (0 : Int32) = false from xhold_b (K_.2.2.1 _ (List.mem_cons_of_mem _ List.mem_cons_self)), show xcmb .le v0_ (53 : Int32) = true from xhold_b (K_.2.2.1 _ List.mem_cons_self)]
        rfl
      rw [e_]
      exact z_
    rcases List.mem_cons.mp hq with e_ | hq
    · subst e_
      have z_ := G_ D_ hD
      rw [yfr_nil K_.2.2.2] at z_
      have e_ : puZ_F v0_ = (60 : Int32) := by
        unfold puZ_F
        rw [show xcmb .lt v0_ (0 : Int32) = false from xhold_b (K_.2.2.1 _ (List.mem_cons_of_mem _ (List.mem_cons_of_mem _ List.mem_cons_self))), show xcmb .le v0_ (53 : Int32) = false from xhold_b (K_.2.2.1 _ (List.mem_cons_of_mem _ List.mem_cons_self)), show xcmb .lt v0_ (60 : Int32) = true from xhold_b (K_.2.2.1 _ List.mem_cons_self)]
        rfl
      rw [e_]
      exact z_
    rcases List.mem_cons.mp hq with e_ | hq
    · subst e_
      have z_ := G_ D_ hD
      rw [yfr_nil K_.2.2.2] at z_
      have e_ : puZ_F v0_ = (60 : Int32) := by
        unfold puZ_F
        rw [show xcmb .lt v0_ (0 : Int32) = false from xhold_b (K_.2.2.1 _ (List.mem_cons_of_mem _ (List.mem_cons_of_mem _ (List.mem_cons_of_mem _ List.mem_cons_self)))), show xcmb .le v0_ (53 : Int32) = false from xhold_b (K_.2.2.1 _ (List.mem_cons_of_mem _ (List.mem_cons_of_mem _ List.mem_cons_self))), show xcmb .lt v0_ (60 : Int32) = false from xhold_b (K_.2.2.1 _ (List.mem_cons_of_mem _ List.mem_cons_self)), show xcmb .le v0_ (99 : Int32) = false from xhold_b (K_.2.2.1 _ List.mem_cons_self)]
        rfl
      rw [e_]
      exact z_
    have e_ := List.mem_singleton.mp hq
    subst e_
    have z_ := G_ D_ hD
    rw [yfr_nil K_.2.2.2] at z_
    have e_ : puZ_F v0_ = v0_ := by
      unfold puZ_F
      rw [show xcmb .lt v0_ (0 : Int32) = false from xhold_b (K_.2.2.1 _ (List.mem_cons_of_mem _ (List.mem_cons_of_mem _ (List.mem_cons_of_mem _ List.mem_cons_self)))), show xcmb .le v0_ (53 : Int32) = false from xhold_b (K_.2.2.1 _ (List.mem_cons_of_mem _ (List.mem_cons_of_mem _ List.mem_cons_self))), show xcmb .lt v0_ (60 : Int32) = false from xhold_b (K_.2.2.1 _ (List.mem_cons_of_mem _ List.mem_cons_self)), show xcmb .le v0_ (99 : Int32) = true from xhold_b (K_.2.2.1 _ List.mem_cons_self)]
      rfl
    rw [e_]
    exact z_
/-- CONTRARY, as the reference has it -/
def pmC_F (v0_ : Int32) : Int32 := (bif xcmb .lt v0_ (40 : Int32) then (bif xcmb .eq (v0_ - v0_ / (2 : Int32) * (2 : Int32)) (0 : Int32) then (v0_ + (1 : Int32)) else (v0_ - (1 : Int32))) else (bif xcmb .eq v0_ (50 : Int32) then (51 : Int32) else (bif xcmb .eq v0_ (51 : Int32) then (50 : Int32) else (bif xcmb .le v0_ (60 : Int32) then v0_ else ((160 : Int32) - v0_)))))
def pmC_rs : List yR := [(some (.arg 0), [], [(.le, .arg 0, .int 60, true), (.eq, .arg 0, .int 51, false), (.eq, .arg 0, .int 50, false), (.lt, .arg 0, .int 40, false)], []), (some (.sub (.int 160) (.arg 0)), [], [(.le, .arg 0, .int 60, false), (.eq, .arg 0, .int 51, false), (.eq, .arg 0, .int 50, false), (.lt, .arg 0, .int 40, false)], []), (some (.int 50), [], [(.eq, .arg 0, .int 51, true), (.eq, .arg 0, .int 50, false), (.lt, .arg 0, .int 40, false)], []), (some (.int 51), [], [(.eq, .arg 0, .int 50, true), (.lt, .arg 0, .int 40, false)], []), (some (.sub (.arg 0) (.int 1)), [], [(.eq, .rem (.arg 0) (.int 2), .int 0, false), (.lt, .arg 0, .int 40, true)], []), (some (.add (.arg 0) (.int 1)), [], [(.eq, .rem (.arg 0) (.int 2), .int 0, true), (.lt, .arg 0, .int 40, true)], [])]
theorem pmC_k : yis (yev yA0 3000 5 143 [] (0, [(0, .arg 0)], [], [], [], [])) [] pmC_rs = true := by decide +kernel
theorem pmC (v0_ : Int32) (h_ : xH) (D_ : Nat) (hD : 5 ≤ D_) : xrun D_ 143 0 [(0, .int v0_)] [] h_ (some (.int (pmC_F v0_)), h_, []) := by
  rcases yrun (h_ := h_) (r_ := fun _ => .int v0_) (g_ := id) (yis_ok pmC_k) yA0_ok (fun n_ z_ e_ => (by cases e_)) (fun q_ hq => absurd hq List.not_mem_nil) (fun q_ hq => absurd hq List.not_mem_nil) with ⟨q_, hq, h', K_, G_⟩ | ⟨q_, hq, h', K_, G_⟩
  · cases hq
  · rcases List.mem_cons.mp hq with e_ | hq
    · subst e_
      have z_ := G_ D_ hD
      rw [yfr_nil K_.2.2.2] at z_
      have e_ : pmC_F v0_ = v0_ := by
        unfold pmC_F
        rw [show xcmb .lt v0_ (40 : Int32) = false from xhold_b (K_.2.2.1 _ (List.mem_cons_of_mem _ (List.mem_cons_of_mem _ (List.mem_cons_of_mem _ List.mem_cons_self)))), show xcmb .eq v0_ (50 : Int32) = false from xhold_b (K_.2.2.1 _ (List.mem_cons_of_mem _ (List.mem_cons_of_mem _ List.mem_cons_self))), show xcmb .eq v0_ (51 : Int32) = false from xhold_b (K_.2.2.1 _ (List.mem_cons_of_mem _ List.mem_cons_self)), show xcmb .le v0_ (60 : Int32) = true from xhold_b (K_.2.2.1 _ List.mem_cons_self)]
        rfl
      rw [e_]
      exact z_
    rcases List.mem_cons.mp hq with e_ | hq
    · subst e_
      have z_ := G_ D_ hD
      rw [yfr_nil K_.2.2.2] at z_
      have e_ : pmC_F v0_ = ((160 : Int32) - v0_) := by
        unfold pmC_F
        rw [show xcmb .lt v0_ (40 : Int32) = false from xhold_b (K_.2.2.1 _ (List.mem_cons_of_mem _ (List.mem_cons_of_mem _ (List.mem_cons_of_mem _ List.mem_cons_self)))), show xcmb .eq v0_ (50 : Int32) = false from xhold_b (K_.2.2.1 _ (List.mem_cons_of_mem _ (List.mem_cons_of_mem _ List.mem_cons_self))), show xcmb .eq v0_ (51 : Int32) = false from xhold_b (K_.2.2.1 _ (List.mem_cons_of_mem _ List.mem_cons_self)), show xcmb .le v0_ (60 : Int32) = false from xhold_b (K_.2.2.1 _ List.mem_cons_self)]
        rfl
      rw [e_]
      exact z_
    rcases List.mem_cons.mp hq with e_ | hq
    · subst e_
      have z_ := G_ D_ hD
      rw [yfr_nil K_.2.2.2] at z_
      have e_ : pmC_F v0_ = (50 : Int32) := by
        unfold pmC_F
        rw [show xcmb .lt v0_ (40 : Int32) = false from xhold_b (K_.2.2.1 _ (List.mem_cons_of_mem _ (List.mem_cons_of_mem _ List.mem_cons_self))), show xcmb .eq v0_ (50 : Int32) = false from xhold_b (K_.2.2.1 _ (List.mem_cons_of_mem _ List.mem_cons_self)), show xcmb .eq v0_ (51 : Int32) = true from xhold_b (K_.2.2.1 _ List.mem_cons_self)]
        rfl
      rw [e_]
      exact z_
    rcases List.mem_cons.mp hq with e_ | hq
    · subst e_
      have z_ := G_ D_ hD
      rw [yfr_nil K_.2.2.2] at z_
      have e_ : pmC_F v0_ = (51 : Int32) := by
        unfold pmC_F
        rw [show xcmb .lt v0_ (40 : Int32) = false from xhold_b (K_.2.2.1 _ (List.mem_cons_of_mem _ List.mem_cons_self)), show xcmb .eq v0_ (50 : Int32) = true from xhold_b (K_.2.2.1 _ List.mem_cons_self)]
        rfl
      rw [e_]
      exact z_
    rcases List.mem_cons.mp hq with e_ | hq
    · subst e_
      have z_ := G_ D_ hD
      rw [yfr_nil K_.2.2.2] at z_
      have e_ : pmC_F v0_ = (v0_ - (1 : Int32)) := by
        unfold pmC_F
        rw [show xcmb .lt v0_ (40 : Int32) = true from xhold_b (K_.2.2.1 _ (List.mem_cons_of_mem _ List.mem_cons_self)), show xcmb .eq (v0_ - v0_ / (2 : Int32) * (2 : Int32)) (0 : Int32) = false from xhold_b (K_.2.2.1 _ List.mem_cons_self)]
        rfl
      rw [e_]
      exact z_
    have e_ := List.mem_singleton.mp hq
    subst e_
    have z_ := G_ D_ hD
    rw [yfr_nil K_.2.2.2] at z_
    have e_ : pmC_F v0_ = (v0_ + (1 : Int32)) := by
      unfold pmC_F
      rw [show xcmb .lt v0_ (40 : Int32) = true from xhold_b (K_.2.2.1 _ (List.mem_cons_of_mem _ List.mem_cons_self)), show xcmb .eq (v0_ - v0_ / (2 : Int32) * (2 : Int32)) (0 : Int32) = true from xhold_b (K_.2.2.1 _ List.mem_cons_self)]
      rfl
    rw [e_]
    exact z_
/-- is it a SOUND, as the reference has it -/
def pmS_F (v0_ : Int32) : Int32 := (bif xcmb .lt v0_ (0 : Int32) then (0 : Int32) else (bif xcmb .le v0_ (53 : Int32) then (1 : Int32) else (bif xcmb .lt v0_ (60 : Int32) then (0 : Int32) else (bif xcmb .le v0_ (99 : Int32) then (1 : Int32) else (0 : Int32)))))
def pmS_rs : List yR := [(some (.int 0), [], [(.lt, .arg 0, .int 0, true)], []), (some (.int 0), [], [(.lt, .arg 0, .int 60, true), (.le, .arg 0, .int 53, false), (.lt, .arg 0, .int 0, false)], []), (some (.int 0), [], [(.le, .arg 0, .int 99, false), (.lt, .arg 0, .int 60, false), (.le, .arg 0, .int 53, false), (.lt, .arg 0, .int 0, false)], []), (some (.int 1), [], [(.le, .arg 0, .int 99, true), (.lt, .arg 0, .int 60, false), (.le, .arg 0, .int 53, false), (.lt, .arg 0, .int 0, false)], []), (some (.int 1), [], [(.le, .arg 0, .int 53, true), (.lt, .arg 0, .int 0, false)], [])]
theorem pmS_k : yis (yev yA0 3000 5 142 [] (0, [(0, .arg 0)], [], [], [], [])) [] pmS_rs = true := by decide +kernel
theorem pmS (v0_ : Int32) (h_ : xH) (D_ : Nat) (hD : 5 ≤ D_) : xrun D_ 142 0 [(0, .int v0_)] [] h_ (some (.int (pmS_F v0_)), h_, []) := by
  rcases yrun (h_ := h_) (r_ := fun _ => .int v0_) (g_ := id) (yis_ok pmS_k) yA0_ok (fun n_ z_ e_ => (by cases e_)) (fun q_ hq => absurd hq List.not_mem_nil) (fun q_ hq => absurd hq List.not_mem_nil) with ⟨q_, hq, h', K_, G_⟩ | ⟨q_, hq, h', K_, G_⟩
  · cases hq
  · rcases List.mem_cons.mp hq with e_ | hq
    · subst e_
      have z_ := G_ D_ hD
      rw [yfr_nil K_.2.2.2] at z_
      have e_ : pmS_F v0_ = (0 : Int32) := by
        unfold pmS_F
        rw [show xcmb .lt v0_ (0 : Int32) = true from xhold_b (K_.2.2.1 _ List.mem_cons_self)]
        rfl
      rw [e_]
      exact z_
    rcases List.mem_cons.mp hq with e_ | hq
    · subst e_
      have z_ := G_ D_ hD
      rw [yfr_nil K_.2.2.2] at z_
      have e_ : pmS_F v0_ = (0 : Int32) := by
        unfold pmS_F
        rw [show xcmb .lt v0_ (0 : Int32) = false from xhold_b (K_.2.2.1 _ (List.mem_cons_of_mem _ (List.mem_cons_of_mem _ List.mem_cons_self))), show xcmb .le v0_ (53 : Int32) = false from xhold_b (K_.2.2.1 _ (List.mem_cons_of_mem _ List.mem_cons_self)), show xcmb .lt v0_ (60 : Int32) = true from xhold_b (K_.2.2.1 _ List.mem_cons_self)]
        rfl
      rw [e_]
      exact z_
    rcases List.mem_cons.mp hq with e_ | hq
    · subst e_
      have z_ := G_ D_ hD
      rw [yfr_nil K_.2.2.2] at z_
      have e_ : pmS_F v0_ = (0 : Int32) := by
        unfold pmS_F
        rw [show xcmb .lt v0_ (0 : Int32) = false from xhold_b (K_.2.2.1 _ (List.mem_cons_of_mem _ (List.mem_cons_of_mem _ (List.mem_cons_of_mem _ List.mem_cons_self)))), show xcmb .le v0_ (53 : Int32) = false from xhold_b (K_.2.2.1 _ (List.mem_cons_of_mem _ (List.mem_cons_of_mem _ List.mem_cons_self))), show xcmb .lt v0_ (60 : Int32) = false from xhold_b (K_.2.2.1 _ (List.mem_cons_of_mem _ List.mem_cons_self)), show xcmb .le v0_ (99 : Int32) = false from xhold_b (K_.2.2.1 _ List.mem_cons_self)]
        rfl
      rw [e_]
      exact z_
    rcases List.mem_cons.mp hq with e_ | hq
    · subst e_
      have z_ := G_ D_ hD
      rw [yfr_nil K_.2.2.2] at z_
      have e_ : pmS_F v0_ = (1 : Int32) := by
        unfold pmS_F
        rw [show xcmb .lt v0_ (0 : Int32) = false from xhold_b (K_.2.2.1 _ (List.mem_cons_of_mem _ (List.mem_cons_of_mem _ (List.mem_cons_of_mem _ List.mem_cons_self)))), show xcmb .le v0_ (53 : Int32) = false from xhold_b (K_.2.2.1 _ (List.mem_cons_of_mem _ (List.mem_cons_of_mem _ List.mem_cons_self))), show xcmb .lt v0_ (60 : Int32) = false from xhold_b (K_.2.2.1 _ (List.mem_cons_of_mem _ List.mem_cons_self)), show xcmb .le v0_ (99 : Int32) = true from xhold_b (K_.2.2.1 _ List.mem_cons_self)]
        rfl
      rw [e_]
      exact z_
    have e_ := List.mem_singleton.mp hq
    subst e_
    have z_ := G_ D_ hD
    rw [yfr_nil K_.2.2.2] at z_
    have e_ : pmS_F v0_ = (1 : Int32) := by
      unfold pmS_F
      rw [show xcmb .lt v0_ (0 : Int32) = false from xhold_b (K_.2.2.1 _ (List.mem_cons_of_mem _ List.mem_cons_self)), show xcmb .le v0_ (53 : Int32) = true from xhold_b (K_.2.2.1 _ List.mem_cons_self)]
      rfl
    rw [e_]
    exact z_
/-- both have one CONTRARY of each SOUND -/
theorem pu_C {x_ : Int32} (h1 : 0 ≤ x_.toInt) (h2 : x_.toInt < 100) : pmC_F x_ = puC_F x_ := by
  have k_ : (List.range 100).all (fun n_ => decide (pmC_F (Int32.ofNat n_) = puC_F (Int32.ofNat n_))) = true := by decide +kernel
  have e_ : x_ = Int32.ofNat x_.toInt.toNat := by
    refine Int32.toInt_inj.mp ?_
    rw [Int32.toInt_ofNat_of_lt (by omega)]
    omega
  rw [e_]
  exact of_decide_eq_true (List.all_eq_true.mp k_ _ (List.mem_range.mpr (by omega)))
