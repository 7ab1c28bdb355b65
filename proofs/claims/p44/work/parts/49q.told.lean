-- ===== texts worked out: the steps of both sides
def jx124_F (v1_ v2 : Int32) : Int32 := (bif xcmb .eq v1_ (0 : Int32) then (bif xcmb .eq v2 (0 : Int32) then (0 : Int32) else (1 : Int32)) else (1 : Int32))
def jx124_rs : List yR := [(some (.int 1), [], [(.eq, .arg 1, .int 0, false)], []), (some (.int 0), [], [(.eq, .arg 2, .int 0, true), (.eq, .arg 1, .int 0, true)], []), (some (.int 1), [], [(.eq, .arg 2, .int 0, false), (.eq, .arg 1, .int 0, true)], [])]
theorem jx124_k : yis (yev yA0 3000 5 61 [] (0, [(0, .int 124), (1, .arg 1), (2, .arg 2)], [], [], [], [])) [] jx124_rs = true := by decide +kernel
theorem jx124 (v1_ v2 : Int32) (h_ : xH) (D_ : Nat) (hD : 5 ≤ D_) : xrun D_ 61 0 [(0, .int 124), (1, .int v1_), (2, .int v2)] [] h_ (some (.int (jx124_F v1_ v2)), h_, []) := by
  rcases yrun (h_ := h_) (r_ := fun k_ => bif Nat.beq k_ 1 then .int v1_ else .int v2) (g_ := id) (yis_ok jx124_k) yA0_ok (fun n_ z_ e_ => (by cases e_)) (fun q_ hq => absurd hq List.not_mem_nil) (fun q_ hq => absurd hq List.not_mem_nil) with ⟨q_, hq, h', K_, G_⟩ | ⟨q_, hq, h', K_, G_⟩
  · cases hq
  · rcases List.mem_cons.mp hq with e_ | hq
    · subst e_
      have z_ := G_ D_ hD
      rw [yfr_nil K_.2.2.2] at z_
      have e_ : jx124_F v1_ v2 = (1 : Int32) := by
        unfold jx124_F
        rw [show xcmb .eq v1_ (0 : Int32) = false from xhold_b (K_.2.2.1 _ List.mem_cons_self)]
        rfl
      rw [e_]
      exact z_
    rcases List.mem_cons.mp hq with e_ | hq
    · subst e_
      have z_ := G_ D_ hD
      rw [yfr_nil K_.2.2.2] at z_
      have e_ : jx124_F v1_ v2 = (0 : Int32) := by
        unfold jx124_F
        rw [show xcmb .eq v1_ (0 : Int32) = true from xhold_b (K_.2.2.1 _ (List.mem_cons_of_mem _ List.mem_cons_self)), show xcmb .eq v2 (0 : Int32) = true from xhold_b (K_.2.2.1 _ List.mem_cons_self)]
        rfl
      rw [e_]
      exact z_
    have e_ := List.mem_singleton.mp hq
    subst e_
    have z_ := G_ D_ hD
    rw [yfr_nil K_.2.2.2] at z_
    have e_ : jx124_F v1_ v2 = (1 : Int32) := by
      unfold jx124_F
      rw [show xcmb .eq v1_ (0 : Int32) = true from xhold_b (K_.2.2.1 _ (List.mem_cons_of_mem _ List.mem_cons_self)), show xcmb .eq v2 (0 : Int32) = false from xhold_b (K_.2.2.1 _ List.mem_cons_self)]
      rfl
    rw [e_]
    exact z_
def jm124_F (v1_ v2 : Int32) : Int32 := (bif xcmb .eq v1_ (0 : Int32) then (bif xcmb .eq v2 (0 : Int32) then (0 : Int32) else (1 : Int32)) else (1 : Int32))
def jm124_rs : List yR := [(some (.int 1), [], [(.eq, .arg 1, .int 0, false)], []), (some (.int 0), [], [(.eq, .arg 2, .int 0, true), (.eq, .arg 1, .int 0, true)], []), (some (.int 1), [], [(.eq, .arg 2, .int 0, false), (.eq, .arg 1, .int 0, true)], [])]
theorem jm124_k : yis (yev yA0 3000 5 186 [] (0, [(0, .int 124), (1, .arg 1), (2, .arg 2)], [], [], [], [])) [] jm124_rs = true := by decide +kernel
theorem jm124 (v1_ v2 : Int32) (h_ : xH) (D_ : Nat) (hD : 5 ≤ D_) : xrun D_ 186 0 [(0, .int 124), (1, .int v1_), (2, .int v2)] [] h_ (some (.int (jm124_F v1_ v2)), h_, []) := by
  rcases yrun (h_ := h_) (r_ := fun k_ => bif Nat.beq k_ 1 then .int v1_ else .int v2) (g_ := id) (yis_ok jm124_k) yA0_ok (fun n_ z_ e_ => (by cases e_)) (fun q_ hq => absurd hq List.not_mem_nil) (fun q_ hq => absurd hq List.not_mem_nil) with ⟨q_, hq, h', K_, G_⟩ | ⟨q_, hq, h', K_, G_⟩
  · cases hq
  · rcases List.mem_cons.mp hq with e_ | hq
    · subst e_
      have z_ := G_ D_ hD
      rw [yfr_nil K_.2.2.2] at z_
      have e_ : jm124_F v1_ v2 = (1 : Int32) := by
        unfold jm124_F
        rw [show xcmb .eq v1_ (0 : Int32) = false from xhold_b (K_.2.2.1 _ List.mem_cons_self)]
        rfl
      rw [e_]
      exact z_
    rcases List.mem_cons.mp hq with e_ | hq
    · subst e_
      have z_ := G_ D_ hD
      rw [yfr_nil K_.2.2.2] at z_
      have e_ : jm124_F v1_ v2 = (0 : Int32) := by
        unfold jm124_F
        rw [show xcmb .eq v1_ (0 : Int32) = true from xhold_b (K_.2.2.1 _ (List.mem_cons_of_mem _ List.mem_cons_self)), show xcmb .eq v2 (0 : Int32) = true from xhold_b (K_.2.2.1 _ List.mem_cons_self)]
        rfl
      rw [e_]
      exact z_
    have e_ := List.mem_singleton.mp hq
    subst e_
    have z_ := G_ D_ hD
    rw [yfr_nil K_.2.2.2] at z_
    have e_ : jm124_F v1_ v2 = (1 : Int32) := by
      unfold jm124_F
      rw [show xcmb .eq v1_ (0 : Int32) = true from xhold_b (K_.2.2.1 _ (List.mem_cons_of_mem _ List.mem_cons_self)), show xcmb .eq v2 (0 : Int32) = false from xhold_b (K_.2.2.1 _ List.mem_cons_self)]
      rfl
    rw [e_]
    exact z_
def jx38_F (v1_ v2 : Int32) : Int32 := (bif xcmb .eq v1_ (0 : Int32) then (0 : Int32) else (bif xcmb .eq v2 (0 : Int32) then (0 : Int32) else (1 : Int32)))
def jx38_rs : List yR := [(some (.int 0), [], [(.eq, .arg 1, .int 0, true)], []), (some (.int 0), [], [(.eq, .arg 2, .int 0, true), (.eq, .arg 1, .int 0, false)], []), (some (.int 1), [], [(.eq, .arg 2, .int 0, false), (.eq, .arg 1, .int 0, false)], [])]
theorem jx38_k : yis (yev yA0 3000 5 61 [] (0, [(0, .int 38), (1, .arg 1), (2, .arg 2)], [], [], [], [])) [] jx38_rs = true := by decide +kernel
theorem jx38 (v1_ v2 : Int32) (h_ : xH) (D_ : Nat) (hD : 5 ≤ D_) : xrun D_ 61 0 [(0, .int 38), (1, .int v1_), (2, .int v2)] [] h_ (some (.int (jx38_F v1_ v2)), h_, []) := by
  rcases yrun (h_ := h_) (r_ := fun k_ => bif Nat.beq k_ 1 then .int v1_ else .int v2) (g_ := id) (yis_ok jx38_k) yA0_ok (fun n_ z_ e_ => (by cases e_)) (fun q_ hq => absurd hq List.not_mem_nil) (fun q_ hq => absurd hq List.not_mem_nil) with ⟨q_, hq, h', K_, G_⟩ | ⟨q_, hq, h', K_, G_⟩
  · cases hq
  · rcases List.mem_cons.mp hq with e_ | hq
    · subst e_
      have z_ := G_ D_ hD
      rw [yfr_nil K_.2.2.2] at z_
      have e_ : jx38_F v1_ v2 = (0 : Int32) := by
        unfold jx38_F
        rw [show xcmb .eq v1_ (0 : Int32) = true from xhold_b (K_.2.2.1 _ List.mem_cons_self)]
        rfl
      rw [e_]
      exact z_
    rcases List.mem_cons.mp hq with e_ | hq
    · subst e_
      have z_ := G_ D_ hD
      rw [yfr_nil K_.2.2.2] at z_
      have e_ : jx38_F v1_ v2 = (0 : Int32) := by
        unfold jx38_F
        rw [show xcmb .eq v1_ (0 : Int32) = false from xhold_b (K_.2.2.1 _ (List.mem_cons_of_mem _ List.mem_cons_self)), show xcmb .eq v2 (0 : Int32) = true from xhold_b (K_.2.2.1 _ List.mem_cons_self)]
        rfl
      rw [e_]
      exact z_
    have e_ := List.mem_singleton.mp hq
    subst e_
    have z_ := G_ D_ hD
    rw [yfr_nil K_.2.2.2] at z_
    have e_ : jx38_F v1_ v2 = (1 : Int32) := by
      unfold jx38_F
      rw [show xcmb .eq v1_ (0 : Int32) = false from xhold_b (K_.2.2.1 _ (List.mem_cons_of_mem _ List.mem_cons_self)), show xcmb .eq v2 (0 : Int32) = false from xhold_b (K_.2.2.1 _ List.mem_cons_self)]
      rfl
    rw [e_]
    exact z_
def jm38_F (v1_ v2 : Int32) : Int32 := (bif xcmb .eq v1_ (0 : Int32) then (0 : Int32) else (bif xcmb .eq v2 (0 : Int32) then (0 : Int32) else (1 : Int32)))
def jm38_rs : List yR := [(some (.int 0), [], [(.eq, .arg 1, .int 0, true)], []), (some (.int 0), [], [(.eq, .arg 2, .int 0, true), (.eq, .arg 1, .int 0, false)], []), (some (.int 1), [], [(.eq, .arg 2, .int 0, false), (.eq, .arg 1, .int 0, false)], [])]
theorem jm38_k : yis (yev yA0 3000 5 186 [] (0, [(0, .int 38), (1, .arg 1), (2, .arg 2)], [], [], [], [])) [] jm38_rs = true := by decide +kernel
theorem jm38 (v1_ v2 : Int32) (h_ : xH) (D_ : Nat) (hD : 5 ≤ D_) : xrun D_ 186 0 [(0, .int 38), (1, .int v1_), (2, .int v2)] [] h_ (some (.int (jm38_F v1_ v2)), h_, []) := by
  rcases yrun (h_ := h_) (r_ := fun k_ => bif Nat.beq k_ 1 then .int v1_ else .int v2) (g_ := id) (yis_ok jm38_k) yA0_ok (fun n_ z_ e_ => (by cases e_)) (fun q_ hq => absurd hq List.not_mem_nil) (fun q_ hq => absurd hq List.not_mem_nil) with ⟨q_, hq, h', K_, G_⟩ | ⟨q_, hq, h', K_, G_⟩
  · cases hq
  · rcases List.mem_cons.mp hq with e_ | hq
    · subst e_
      have z_ := G_ D_ hD
      rw [yfr_nil K_.2.2.2] at z_
      have e_ : jm38_F v1_ v2 = (0 : Int32) := by
        unfold jm38_F
        rw [show xcmb .eq v1_ (0 : Int32) = true from xhold_b (K_.2.2.1 _ List.mem_cons_self)]
        rfl
      rw [e_]
      exact z_
    rcases List.mem_cons.mp hq with e_ | hq
    · subst e_
      have z_ := G_ D_ hD
      rw [yfr_nil K_.2.2.2] at z_
      have e_ : jm38_F v1_ v2 = (0 : Int32) := by
        unfold jm38_F
        rw [show xcmb .eq v1_ (0 : Int32) = false from xhold_b (K_.2.2.1 _ (List.mem_cons_of_mem _ List.mem_cons_self)), show xcmb .eq v2 (0 : Int32) = true from xhold_b (K_.2.2.1 _ List.mem_cons_self)]
        rfl
      rw [e_]
      exact z_
    have e_ := List.mem_singleton.mp hq
    subst e_
    have z_ := G_ D_ hD
    rw [yfr_nil K_.2.2.2] at z_
    have e_ : jm38_F v1_ v2 = (1 : Int32) := by
      unfold jm38_F
      rw [show xcmb .eq v1_ (0 : Int32) = false from xhold_b (K_.2.2.1 _ (List.mem_cons_of_mem _ List.mem_cons_self)), show xcmb .eq v2 (0 : Int32) = false from xhold_b (K_.2.2.1 _ List.mem_cons_self)]
      rfl
    rw [e_]
    exact z_
def jx60_F (v1_ v2 : Int32) : Int32 := (bif xcmb .lt v1_ v2 then (1 : Int32) else (0 : Int32))
def jx60_rs : List yR := [(some (.int 0), [], [(.lt, .arg 1, .arg 2, false)], []), (some (.int 1), [], [(.lt, .arg 1, .arg 2, true)], [])]
theorem jx60_k : yis (yev yA0 3000 5 61 [] (0, [(0, .int 60), (1, .arg 1), (2, .arg 2)], [], [], [], [])) [] jx60_rs = true := by decide +kernel
theorem jx60 (v1_ v2 : Int32) (h_ : xH) (D_ : Nat) (hD : 5 ≤ D_) : xrun D_ 61 0 [(0, .int 60), (1, .int v1_), (2, .int v2)] [] h_ (some (.int (jx60_F v1_ v2)), h_, []) := by
  rcases yrun (h_ := h_) (r_ := fun k_ => bif Nat.beq k_ 1 then .int v1_ else .int v2) (g_ := id) (yis_ok jx60_k) yA0_ok (fun n_ z_ e_ => (by cases e_)) (fun q_ hq => absurd hq List.not_mem_nil) (fun q_ hq => absurd hq List.not_mem_nil) with ⟨q_, hq, h', K_, G_⟩ | ⟨q_, hq, h', K_, G_⟩
  · cases hq
  · rcases List.mem_cons.mp hq with e_ | hq
    · subst e_
      have z_ := G_ D_ hD
      rw [yfr_nil K_.2.2.2] at z_
      have e_ : jx60_F v1_ v2 = (0 : Int32) := by
        unfold jx60_F
        rw [show xcmb .lt v1_ v2 = false from xhold_b (K_.2.2.1 _ List.mem_cons_self)]
        rfl
      rw [e_]
      exact z_
    have e_ := List.mem_singleton.mp hq
    subst e_
    have z_ := G_ D_ hD
    rw [yfr_nil K_.2.2.2] at z_
    have e_ : jx60_F v1_ v2 = (1 : Int32) := by
      unfold jx60_F
      rw [show xcmb .lt v1_ v2 = true from xhold_b (K_.2.2.1 _ List.mem_cons_self)]
      rfl
    rw [e_]
    exact z_
def jm60_F (v1_ v2 : Int32) : Int32 := (bif xcmb .lt v1_ v2 then (1 : Int32) else (0 : Int32))
def jm60_rs : List yR := [(some (.int 0), [], [(.lt, .arg 1, .arg 2, false)], []), (some (.int 1), [], [(.lt, .arg 1, .arg 2, true)], [])]
theorem jm60_k : yis (yev yA0 3000 5 186 [] (0, [(0, .int 60), (1, .arg 1), (2, .arg 2)], [], [], [], [])) [] jm60_rs = true := by decide +kernel
theorem jm60 (v1_ v2 : Int32) (h_ : xH) (D_ : Nat) (hD : 5 ≤ D_) : xrun D_ 186 0 [(0, .int 60), (1, .int v1_), (2, .int v2)] [] h_ (some (.int (jm60_F v1_ v2)), h_, []) := by
  rcases yrun (h_ := h_) (r_ := fun k_ => bif Nat.beq k_ 1 then .int v1_ else .int v2) (g_ := id) (yis_ok jm60_k) yA0_ok (fun n_ z_ e_ => (by cases e_)) (fun q_ hq => absurd hq List.not_mem_nil) (fun q_ hq => absurd hq List.not_mem_nil) with ⟨q_, hq, h', K_, G_⟩ | ⟨q_, hq, h', K_, G_⟩
  · cases hq
  · rcases List.mem_cons.mp hq with e_ | hq
    · subst e_
      have z_ := G_ D_ hD
      rw [yfr_nil K_.2.2.2] at z_
      have e_ : jm60_F v1_ v2 = (0 : Int32) := by
        unfold jm60_F
        rw [show xcmb .lt v1_ v2 = false from xhold_b (K_.2.2.1 _ List.mem_cons_self)]
        rfl
      rw [e_]
      exact z_
    have e_ := List.mem_singleton.mp hq
    subst e_
    have z_ := G_ D_ hD
    rw [yfr_nil K_.2.2.2] at z_
    have e_ : jm60_F v1_ v2 = (1 : Int32) := by
      unfold jm60_F
      rw [show xcmb .lt v1_ v2 = true from xhold_b (K_.2.2.1 _ List.mem_cons_self)]
      rfl
    rw [e_]
    exact z_
def jx61_F (v1_ v2 : Int32) : Int32 := (bif xcmb .eq v1_ v2 then (1 : Int32) else (0 : Int32))
def jx61_rs : List yR := [(some (.int 0), [], [(.eq, .arg 1, .arg 2, false)], []), (some (.int 1), [], [(.eq, .arg 1, .arg 2, true)], [])]
theorem jx61_k : yis (yev yA0 3000 5 61 [] (0, [(0, .int 61), (1, .arg 1), (2, .arg 2)], [], [], [], [])) [] jx61_rs = true := by decide +kernel
theorem jx61 (v1_ v2 : Int32) (h_ : xH) (D_ : Nat) (hD : 5 ≤ D_) : xrun D_ 61 0 [(0, .int 61), (1, .int v1_), (2, .int v2)] [] h_ (some (.int (jx61_F v1_ v2)), h_, []) := by
  rcases yrun (h_ := h_) (r_ := fun k_ => bif Nat.beq k_ 1 then .int v1_ else .int v2) (g_ := id) (yis_ok jx61_k) yA0_ok (fun n_ z_ e_ => (by cases e_)) (fun q_ hq => absurd hq List.not_mem_nil) (fun q_ hq => absurd hq List.not_mem_nil) with ⟨q_, hq, h', K_, G_⟩ | ⟨q_, hq, h', K_, G_⟩
  · cases hq
  · rcases List.mem_cons.mp hq with e_ | hq
    · subst e_
      have z_ := G_ D_ hD
      rw [yfr_nil K_.2.2.2] at z_
      have e_ : jx61_F v1_ v2 = (0 : Int32) := by
        unfold jx61_F
        rw [show xcmb .eq v1_ v2 = false from xhold_b (K_.2.2.1 _ List.mem_cons_self)]
        rfl
      rw [e_]
      exact z_
    have e_ := List.mem_singleton.mp hq
    subst e_
    have z_ := G_ D_ hD
    rw [yfr_nil K_.2.2.2] at z_
    have e_ : jx61_F v1_ v2 = (1 : Int32) := by
      unfold jx61_F
      rw [show xcmb .eq v1_ v2 = true from xhold_b (K_.2.2.1 _ List.mem_cons_self)]
      rfl
    rw [e_]
    exact z_
def jm61_F (v1_ v2 : Int32) : Int32 := (bif xcmb .eq v1_ v2 then (1 : Int32) else (0 : Int32))
def jm61_rs : List yR := [(some (.int 0), [], [(.eq, .arg 1, .arg 2, false)], []), (some (.int 1), [], [(.eq, .arg 1, .arg 2, true)], [])]
theorem jm61_k : yis (yev yA0 3000 5 186 [] (0, [(0, .int 61), (1, .arg 1), (2, .arg 2)], [], [], [], [])) [] jm61_rs = true := by decide +kernel
theorem jm61 (v1_ v2 : Int32) (h_ : xH) (D_ : Nat) (hD : 5 ≤ D_) : xrun D_ 186 0 [(0, .int 61), (1, .int v1_), (2, .int v2)] [] h_ (some (.int (jm61_F v1_ v2)), h_, []) := by
  rcases yrun (h_ := h_) (r_ := fun k_ => bif Nat.beq k_ 1 then .int v1_ else .int v2) (g_ := id) (yis_ok jm61_k) yA0_ok (fun n_ z_ e_ => (by cases e_)) (fun q_ hq => absurd hq List.not_mem_nil) (fun q_ hq => absurd hq List.not_mem_nil) with ⟨q_, hq, h', K_, G_⟩ | ⟨q_, hq, h', K_, G_⟩
  · cases hq
  · rcases List.mem_cons.mp hq with e_ | hq
    · subst e_
      have z_ := G_ D_ hD
      rw [yfr_nil K_.2.2.2] at z_
      have e_ : jm61_F v1_ v2 = (0 : Int32) := by
        unfold jm61_F
        rw [show xcmb .eq v1_ v2 = false from xhold_b (K_.2.2.1 _ List.mem_cons_self)]
        rfl
      rw [e_]
      exact z_
    have e_ := List.mem_singleton.mp hq
    subst e_
    have z_ := G_ D_ hD
    rw [yfr_nil K_.2.2.2] at z_
    have e_ : jm61_F v1_ v2 = (1 : Int32) := by
      unfold jm61_F
      rw [show xcmb .eq v1_ v2 = true from xhold_b (K_.2.2.1 _ List.mem_cons_self)]
      rfl
    rw [e_]
    exact z_
def jx62_F (v1_ v2 : Int32) : Int32 := (bif xcmb .le v1_ v2 then (0 : Int32) else (1 : Int32))
def jx62_rs : List yR := [(some (.int 0), [], [(.le, .arg 1, .arg 2, true)], []), (some (.int 1), [], [(.le, .arg 1, .arg 2, false)], [])]
theorem jx62_k : yis (yev yA0 3000 5 61 [] (0, [(0, .int 62), (1, .arg 1), (2, .arg 2)], [], [], [], [])) [] jx62_rs = true := by decide +kernel
theorem jx62 (v1_ v2 : Int32) (h_ : xH) (D_ : Nat) (hD : 5 ≤ D_) : xrun D_ 61 0 [(0, .int 62), (1, .int v1_), (2, .int v2)] [] h_ (some (.int (jx62_F v1_ v2)), h_, []) := by
  rcases yrun (h_ := h_) (r_ := fun k_ => bif Nat.beq k_ 1 then .int v1_ else .int v2) (g_ := id) (yis_ok jx62_k) yA0_ok (fun n_ z_ e_ => (by cases e_)) (fun q_ hq => absurd hq List.not_mem_nil) (fun q_ hq => absurd hq List.not_mem_nil) with ⟨q_, hq, h', K_, G_⟩ | ⟨q_, hq, h', K_, G_⟩
  · cases hq
  · rcases List.mem_cons.mp hq with e_ | hq
    · subst e_
      have z_ := G_ D_ hD
      rw [yfr_nil K_.2.2.2] at z_
      have e_ : jx62_F v1_ v2 = (0 : Int32) := by
        unfold jx62_F
        rw [show xcmb .le v1_ v2 = true from xhold_b (K_.2.2.1 _ List.mem_cons_self)]
        rfl
      rw [e_]
      exact z_
    have e_ := List.mem_singleton.mp hq
    subst e_
    have z_ := G_ D_ hD
    rw [yfr_nil K_.2.2.2] at z_
    have e_ : jx62_F v1_ v2 = (1 : Int32) := by
      unfold jx62_F
      rw [show xcmb .le v1_ v2 = false from xhold_b (K_.2.2.1 _ List.mem_cons_self)]
      rfl
    rw [e_]
    exact z_
def jm62_F (v1_ v2 : Int32) : Int32 := (bif xcmb .le v1_ v2 then (0 : Int32) else (1 : Int32))
def jm62_rs : List yR := [(some (.int 0), [], [(.le, .arg 1, .arg 2, true)], []), (some (.int 1), [], [(.le, .arg 1, .arg 2, false)], [])]
theorem jm62_k : yis (yev yA0 3000 5 186 [] (0, [(0, .int 62), (1, .arg 1), (2, .arg 2)], [], [], [], [])) [] jm62_rs = true := by decide +kernel
theorem jm62 (v1_ v2 : Int32) (h_ : xH) (D_ : Nat) (hD : 5 ≤ D_) : xrun D_ 186 0 [(0, .int 62), (1, .int v1_), (2, .int v2)] [] h_ (some (.int (jm62_F v1_ v2)), h_, []) := by
  rcases yrun (h_ := h_) (r_ := fun k_ => bif Nat.beq k_ 1 then .int v1_ else .int v2) (g_ := id) (yis_ok jm62_k) yA0_ok (fun n_ z_ e_ => (by cases e_)) (fun q_ hq => absurd hq List.not_mem_nil) (fun q_ hq => absurd hq List.not_mem_nil) with ⟨q_, hq, h', K_, G_⟩ | ⟨q_, hq, h', K_, G_⟩
  · cases hq
  · rcases List.mem_cons.mp hq with e_ | hq
    · subst e_
      have z_ := G_ D_ hD
      rw [yfr_nil K_.2.2.2] at z_
      have e_ : jm62_F v1_ v2 = (0 : Int32) := by
        unfold jm62_F
        rw [show xcmb .le v1_ v2 = true from xhold_b (K_.2.2.1 _ List.mem_cons_self)]
        rfl
      rw [e_]
      exact z_
    have e_ := List.mem_singleton.mp hq
    subst e_
    have z_ := G_ D_ hD
    rw [yfr_nil K_.2.2.2] at z_
    have e_ : jm62_F v1_ v2 = (1 : Int32) := by
      unfold jm62_F
      rw [show xcmb .le v1_ v2 = false from xhold_b (K_.2.2.1 _ List.mem_cons_self)]
      rfl
    rw [e_]
    exact z_
def jx43_F (v1_ v2 : Int32) : Int32 := (v1_ + v2)
def jx43_rs : List yR := [(some (.add (.arg 1) (.arg 2)), [], [], [])]
theorem jx43_k : yis (yev yA0 3000 5 61 [] (0, [(0, .int 43), (1, .arg 1), (2, .arg 2)], [], [], [], [])) [] jx43_rs = true := by decide +kernel
theorem jx43 (v1_ v2 : Int32) (h_ : xH) (D_ : Nat) (hD : 5 ≤ D_) : xrun D_ 61 0 [(0, .int 43), (1, .int v1_), (2, .int v2)] [] h_ (some (.int (jx43_F v1_ v2)), h_, []) := by
  rcases yrun (h_ := h_) (r_ := fun k_ => bif Nat.beq k_ 1 then .int v1_ else .int v2) (g_ := id) (yis_ok jx43_k) yA0_ok (fun n_ z_ e_ => (by cases e_)) (fun q_ hq => absurd hq List.not_mem_nil) (fun q_ hq => absurd hq List.not_mem_nil) with ⟨q_, hq, h', K_, G_⟩ | ⟨q_, hq, h', K_, G_⟩
  · cases hq
  · have e_ := List.mem_singleton.mp hq
    subst e_
    have z_ := G_ D_ hD
    rw [yfr_nil K_.2.2.2] at z_
    have e_ : jx43_F v1_ v2 = (v1_ + v2) := by
      unfold jx43_F
      rfl
    rw [e_]
    exact z_
def jm43_F (v1_ v2 : Int32) : Int32 := (v1_ + v2)
def jm43_rs : List yR := [(some (.add (.arg 1) (.arg 2)), [], [], [])]
theorem jm43_k : yis (yev yA0 3000 5 186 [] (0, [(0, .int 43), (1, .arg 1), (2, .arg 2)], [], [], [], [])) [] jm43_rs = true := by decide +kernel
theorem jm43 (v1_ v2 : Int32) (h_ : xH) (D_ : Nat) (hD : 5 ≤ D_) : xrun D_ 186 0 [(0, .int 43), (1, .int v1_), (2, .int v2)] [] h_ (some (.int (jm43_F v1_ v2)), h_, []) := by
  rcases yrun (h_ := h_) (r_ := fun k_ => bif Nat.beq k_ 1 then .int v1_ else .int v2) (g_ := id) (yis_ok jm43_k) yA0_ok (fun n_ z_ e_ => (by cases e_)) (fun q_ hq => absurd hq List.not_mem_nil) (fun q_ hq => absurd hq List.not_mem_nil) with ⟨q_, hq, h', K_, G_⟩ | ⟨q_, hq, h', K_, G_⟩
  · cases hq
  · have e_ := List.mem_singleton.mp hq
    subst e_
    have z_ := G_ D_ hD
    rw [yfr_nil K_.2.2.2] at z_
    have e_ : jm43_F v1_ v2 = (v1_ + v2) := by
      unfold jm43_F
      rfl
    rw [e_]
    exact z_
def jx45_F (v1_ v2 : Int32) : Int32 := (v1_ - v2)
def jx45_rs : List yR := [(some (.sub (.arg 1) (.arg 2)), [], [], [])]
theorem jx45_k : yis (yev yA0 3000 5 61 [] (0, [(0, .int 45), (1, .arg 1), (2, .arg 2)], [], [], [], [])) [] jx45_rs = true := by decide +kernel
theorem jx45 (v1_ v2 : Int32) (h_ : xH) (D_ : Nat) (hD : 5 ≤ D_) : xrun D_ 61 0 [(0, .int 45), (1, .int v1_), (2, .int v2)] [] h_ (some (.int (jx45_F v1_ v2)), h_, []) := by
  rcases yrun (h_ := h_) (r_ := fun k_ => bif Nat.beq k_ 1 then .int v1_ else .int v2) (g_ := id) (yis_ok jx45_k) yA0_ok (fun n_ z_ e_ => (by cases e_)) (fun q_ hq => absurd hq List.not_mem_nil) (fun q_ hq => absurd hq List.not_mem_nil) with ⟨q_, hq, h', K_, G_⟩ | ⟨q_, hq, h', K_, G_⟩
  · cases hq
  · have e_ := List.mem_singleton.mp hq
    subst e_
    have z_ := G_ D_ hD
    rw [yfr_nil K_.2.2.2] at z_
    have e_ : jx45_F v1_ v2 = (v1_ - v2) := by
      unfold jx45_F
      rfl
    rw [e_]
    exact z_
def jm45_F (v1_ v2 : Int32) : Int32 := (v1_ - v2)
def jm45_rs : List yR := [(some (.sub (.arg 1) (.arg 2)), [], [], [])]
theorem jm45_k : yis (yev yA0 3000 5 186 [] (0, [(0, .int 45), (1, .arg 1), (2, .arg 2)], [], [], [], [])) [] jm45_rs = true := by decide +kernel
theorem jm45 (v1_ v2 : Int32) (h_ : xH) (D_ : Nat) (hD : 5 ≤ D_) : xrun D_ 186 0 [(0, .int 45), (1, .int v1_), (2, .int v2)] [] h_ (some (.int (jm45_F v1_ v2)), h_, []) := by
  rcases yrun (h_ := h_) (r_ := fun k_ => bif Nat.beq k_ 1 then .int v1_ else .int v2) (g_ := id) (yis_ok jm45_k) yA0_ok (fun n_ z_ e_ => (by cases e_)) (fun q_ hq => absurd hq List.not_mem_nil) (fun q_ hq => absurd hq List.not_mem_nil) with ⟨q_, hq, h', K_, G_⟩ | ⟨q_, hq, h', K_, G_⟩
  · cases hq
  · have e_ := List.mem_singleton.mp hq
    subst e_
    have z_ := G_ D_ hD
    rw [yfr_nil K_.2.2.2] at z_
    have e_ : jm45_F v1_ v2 = (v1_ - v2) := by
      unfold jm45_F
      rfl
    rw [e_]
    exact z_
def jx42_F (v1_ v2 : Int32) : Int32 := (v1_ * v2)
def jx42_rs : List yR := [(some (.mul (.arg 1) (.arg 2)), [], [], [])]
theorem jx42_k : yis (yev yA0 3000 5 61 [] (0, [(0, .int 42), (1, .arg 1), (2, .arg 2)], [], [], [], [])) [] jx42_rs = true := by decide +kernel
theorem jx42 (v1_ v2 : Int32) (h_ : xH) (D_ : Nat) (hD : 5 ≤ D_) : xrun D_ 61 0 [(0, .int 42), (1, .int v1_), (2, .int v2)] [] h_ (some (.int (jx42_F v1_ v2)), h_, []) := by
  rcases yrun (h_ := h_) (r_ := fun k_ => bif Nat.beq k_ 1 then .int v1_ else .int v2) (g_ := id) (yis_ok jx42_k) yA0_ok (fun n_ z_ e_ => (by cases e_)) (fun q_ hq => absurd hq List.not_mem_nil) (fun q_ hq => absurd hq List.not_mem_nil) with ⟨q_, hq, h', K_, G_⟩ | ⟨q_, hq, h', K_, G_⟩
  · cases hq
  · have e_ := List.mem_singleton.mp hq
    subst e_
    have z_ := G_ D_ hD
    rw [yfr_nil K_.2.2.2] at z_
    have e_ : jx42_F v1_ v2 = (v1_ * v2) := by
      unfold jx42_F
      rfl
    rw [e_]
    exact z_
def jm42_F (v1_ v2 : Int32) : Int32 := (v1_ * v2)
def jm42_rs : List yR := [(some (.mul (.arg 1) (.arg 2)), [], [], [])]
theorem jm42_k : yis (yev yA0 3000 5 186 [] (0, [(0, .int 42), (1, .arg 1), (2, .arg 2)], [], [], [], [])) [] jm42_rs = true := by decide +kernel
theorem jm42 (v1_ v2 : Int32) (h_ : xH) (D_ : Nat) (hD : 5 ≤ D_) : xrun D_ 186 0 [(0, .int 42), (1, .int v1_), (2, .int v2)] [] h_ (some (.int (jm42_F v1_ v2)), h_, []) := by
  rcases yrun (h_ := h_) (r_ := fun k_ => bif Nat.beq k_ 1 then .int v1_ else .int v2) (g_ := id) (yis_ok jm42_k) yA0_ok (fun n_ z_ e_ => (by cases e_)) (fun q_ hq => absurd hq List.not_mem_nil) (fun q_ hq => absurd hq List.not_mem_nil) with ⟨q_, hq, h', K_, G_⟩ | ⟨q_, hq, h', K_, G_⟩
  · cases hq
  · have e_ := List.mem_singleton.mp hq
    subst e_
    have z_ := G_ D_ hD
    rw [yfr_nil K_.2.2.2] at z_
    have e_ : jm42_F v1_ v2 = (v1_ * v2) := by
      unfold jm42_F
      rfl
    rw [e_]
    exact z_
def jx47_F (v1_ v2 : Int32) : Int32 := (bif xcmb .eq v2 (0 : Int32) then (0 : Int32) else (v1_ / v2))
def jx47_rs : List yR := [(some (.div (.arg 1) (.arg 2)), [], [(.eq, .arg 2, .int 0, false)], []), (some (.int 0), [], [(.eq, .arg 2, .int 0, true)], [])]
theorem jx47_k : yis (yev yA0 3000 5 61 [] (0, [(0, .int 47), (1, .arg 1), (2, .arg 2)], [], [], [], [])) [] jx47_rs = true := by decide +kernel
theorem jx47 (v1_ v2 : Int32) (h_ : xH) (D_ : Nat) (hD : 5 ≤ D_) : xrun D_ 61 0 [(0, .int 47), (1, .int v1_), (2, .int v2)] [] h_ (some (.int (jx47_F v1_ v2)), h_, []) := by
  rcases yrun (h_ := h_) (r_ := fun k_ => bif Nat.beq k_ 1 then .int v1_ else .int v2) (g_ := id) (yis_ok jx47_k) yA0_ok (fun n_ z_ e_ => (by cases e_)) (fun q_ hq => absurd hq List.not_mem_nil) (fun q_ hq => absurd hq List.not_mem_nil) with ⟨q_, hq, h', K_, G_⟩ | ⟨q_, hq, h', K_, G_⟩
  · cases hq
  · rcases List.mem_cons.mp hq with e_ | hq
    · subst e_
      have z_ := G_ D_ hD
      rw [yfr_nil K_.2.2.2] at z_
      have e_ : jx47_F v1_ v2 = (v1_ / v2) := by
        unfold jx47_F
        rw [show xcmb .eq v2 (0 : Int32) = false from xhold_b (K_.2.2.1 _ List.mem_cons_self)]
        rfl
      rw [e_]
      exact z_
    have e_ := List.mem_singleton.mp hq
    subst e_
    have z_ := G_ D_ hD
    rw [yfr_nil K_.2.2.2] at z_
    have e_ : jx47_F v1_ v2 = (0 : Int32) := by
      unfold jx47_F
      rw [show xcmb .eq v2 (0 : Int32) = true from xhold_b (K_.2.2.1 _ List.mem_cons_self)]
      rfl
    rw [e_]
    exact z_
def jm47_F (v1_ v2 : Int32) : Int32 := (bif xcmb .eq v2 (0 : Int32) then (0 : Int32) else (bif xcmb .eq v2 (Int32.ofInt (-1)) then (-v1_) else (v1_ / v2)))
def jm47_rs : List yR := [(some (.div (.arg 1) (.arg 2)), [], [(.eq, .arg 2, .int (Int32.ofInt (-1)), false), (.eq, .arg 2, .int 0, false)], []), (some (.op1 .ineg (.arg 1)), [], [(.eq, .arg 2, .int (Int32.ofInt (-1)), true), (.eq, .arg 2, .int 0, false)], []), (some (.int 0), [], [(.eq, .arg 2, .int 0, true)], [])]
theorem jm47_k : yis (yev yA0 3000 5 186 [] (0, [(0, .int 47), (1, .arg 1), (2, .arg 2)], [], [], [], [])) [] jm47_rs = true := by decide +kernel
theorem jm47 (v1_ v2 : Int32) (h_ : xH) (D_ : Nat) (hD : 5 ≤ D_) : xrun D_ 186 0 [(0, .int 47), (1, .int v1_), (2, .int v2)] [] h_ (some (.int (jm47_F v1_ v2)), h_, []) := by
  rcases yrun (h_ := h_) (r_ := fun k_ => bif Nat.beq k_ 1 then .int v1_ else .int v2) (g_ := id) (yis_ok jm47_k) yA0_ok (fun n_ z_ e_ => (by cases e_)) (fun q_ hq => absurd hq List.not_mem_nil) (fun q_ hq => absurd hq List.not_mem_nil) with ⟨q_, hq, h', K_, G_⟩ | ⟨q_, hq, h', K_, G_⟩
  · cases hq
  · rcases List.mem_cons.mp hq with e_ | hq
    · subst e_
      have z_ := G_ D_ hD
      rw [yfr_nil K_.2.2.2] at z_
      have e_ : jm47_F v1_ v2 = (v1_ / v2) := by
        unfold jm47_F
        rw [show xcmb .eq v2 (0 : Int32) = false from xhold_b (K_.2.2.1 _ (List.mem_cons_of_mem _ List.mem_cons_self)), show xcmb .eq v2 (Int32.ofInt (-1)) = false from xhold_b (K_.2.2.1 _ List.mem_cons_self)]
        rfl
      rw [e_]
      exact z_
    rcases List.mem_cons.mp hq with e_ | hq
    · subst e_
      have z_ := G_ D_ hD
      rw [yfr_nil K_.2.2.2] at z_
      have e_ : jm47_F v1_ v2 = (-v1_) := by
        unfold jm47_F
        rw [show xcmb .eq v2 (0 : Int32) = false from xhold_b (K_.2.2.1 _ (List.mem_cons_of_mem _ List.mem_cons_self)), show xcmb .eq v2 (Int32.ofInt (-1)) = true from xhold_b (K_.2.2.1 _ List.mem_cons_self)]
        rfl
      rw [e_]
      exact z_
    have e_ := List.mem_singleton.mp hq
    subst e_
    have z_ := G_ D_ hD
    rw [yfr_nil K_.2.2.2] at z_
    have e_ : jm47_F v1_ v2 = (0 : Int32) := by
      unfold jm47_F
      rw [show xcmb .eq v2 (0 : Int32) = true from xhold_b (K_.2.2.1 _ List.mem_cons_self)]
      rfl
    rw [e_]
    exact z_
def jx37_F (v1_ v2 : Int32) : Int32 := (bif xcmb .eq v2 (0 : Int32) then (0 : Int32) else (v1_ - v1_ / v2 * v2))
def jx37_rs : List yR := [(some (.rem (.arg 1) (.arg 2)), [], [(.eq, .arg 2, .int 0, false)], []), (some (.int 0), [], [(.eq, .arg 2, .int 0, true)], [])]
theorem jx37_k : yis (yev yA0 3000 5 61 [] (0, [(0, .int 37), (1, .arg 1), (2, .arg 2)], [], [], [], [])) [] jx37_rs = true := by decide +kernel
theorem jx37 (v1_ v2 : Int32) (h_ : xH) (D_ : Nat) (hD : 5 ≤ D_) : xrun D_ 61 0 [(0, .int 37), (1, .int v1_), (2, .int v2)] [] h_ (some (.int (jx37_F v1_ v2)), h_, []) := by
  rcases yrun (h_ := h_) (r_ := fun k_ => bif Nat.beq k_ 1 then .int v1_ else .int v2) (g_ := id) (yis_ok jx37_k) yA0_ok (fun n_ z_ e_ => (by cases e_)) (fun q_ hq => absurd hq List.not_mem_nil) (fun q_ hq => absurd hq List.not_mem_nil) with ⟨q_, hq, h', K_, G_⟩ | ⟨q_, hq, h', K_, G_⟩
  · cases hq
  · rcases List.mem_cons.mp hq with e_ | hq
    · subst e_
      have z_ := G_ D_ hD
      rw [yfr_nil K_.2.2.2] at z_
      have e_ : jx37_F v1_ v2 = (v1_ - v1_ / v2 * v2) := by
        unfold jx37_F
        rw [show xcmb .eq v2 (0 : Int32) = false from xhold_b (K_.2.2.1 _ List.mem_cons_self)]
        rfl
      rw [e_]
      exact z_
    have e_ := List.mem_singleton.mp hq
    subst e_
    have z_ := G_ D_ hD
    rw [yfr_nil K_.2.2.2] at z_
    have e_ : jx37_F v1_ v2 = (0 : Int32) := by
      unfold jx37_F
      rw [show xcmb .eq v2 (0 : Int32) = true from xhold_b (K_.2.2.1 _ List.mem_cons_self)]
      rfl
    rw [e_]
    exact z_
def jm37_F (v1_ v2 : Int32) : Int32 := (bif xcmb .eq v2 (0 : Int32) then (0 : Int32) else (bif xcmb .eq v2 (Int32.ofInt (-1)) then (0 : Int32) else (v1_ - v1_ / v2 * v2)))
def jm37_rs : List yR := [(some (.int 0), [], [(.eq, .arg 2, .int 0, true)], []), (some (.rem (.arg 1) (.arg 2)), [], [(.eq, .arg 2, .int (Int32.ofInt (-1)), false), (.eq, .arg 2, .int 0, false)], []), (some (.int 0), [], [(.eq, .arg 2, .int (Int32.ofInt (-1)), true), (.eq, .arg 2, .int 0, false)], [])]
theorem jm37_k : yis (yev yA0 3000 5 186 [] (0, [(0, .int 37), (1, .arg 1), (2, .arg 2)], [], [], [], [])) [] jm37_rs = true := by decide +kernel
theorem jm37 (v1_ v2 : Int32) (h_ : xH) (D_ : Nat) (hD : 5 ≤ D_) : xrun D_ 186 0 [(0, .int 37), (1, .int v1_), (2, .int v2)] [] h_ (some (.int (jm37_F v1_ v2)), h_, []) := by
  rcases yrun (h_ := h_) (r_ := fun k_ => bif Nat.beq k_ 1 then .int v1_ else .int v2) (g_ := id) (yis_ok jm37_k) yA0_ok (fun n_ z_ e_ => (by cases e_)) (fun q_ hq => absurd hq List.not_mem_nil) (fun q_ hq => absurd hq List.not_mem_nil) with ⟨q_, hq, h', K_, G_⟩ | ⟨q_, hq, h', K_, G_⟩
  · cases hq
  · rcases List.mem_cons.mp hq with e_ | hq
    · subst e_
      have z_ := G_ D_ hD
      rw [yfr_nil K_.2.2.2] at z_
      have e_ : jm37_F v1_ v2 = (0 : Int32) := by
        unfold jm37_F
        rw [show xcmb .eq v2 (0 : Int32) = true from xhold_b (K_.2.2.1 _ List.mem_cons_self)]
        rfl
      rw [e_]
      exact z_
    rcases List.mem_cons.mp hq with e_ | hq
    · subst e_
      have z_ := G_ D_ hD
      rw [yfr_nil K_.2.2.2] at z_
      have e_ : jm37_F v1_ v2 = (v1_ - v1_ / v2 * v2) := by
        unfold jm37_F
        rw [show xcmb .eq v2 (0 : Int32) = false from xhold_b (K_.2.2.1 _ (List.mem_cons_of_mem _ List.mem_cons_self)), show xcmb .eq v2 (Int32.ofInt (-1)) = false from xhold_b (K_.2.2.1 _ List.mem_cons_self)]
        rfl
      rw [e_]
      exact z_
    have e_ := List.mem_singleton.mp hq
    subst e_
    have z_ := G_ D_ hD
    rw [yfr_nil K_.2.2.2] at z_
    have e_ : jm37_F v1_ v2 = (0 : Int32) := by
      unfold jm37_F
      rw [show xcmb .eq v2 (0 : Int32) = false from xhold_b (K_.2.2.1 _ (List.mem_cons_of_mem _ List.mem_cons_self)), show xcmb .eq v2 (Int32.ofInt (-1)) = true from xhold_b (K_.2.2.1 _ List.mem_cons_self)]
      rfl
    rw [e_]
    exact z_
theorem i32_dq (x_ : Int32) : x_ / -1 = -x_ := by
  refine Int32.toInt_inj.mp ?_
  have e_ : (-1 : Int32).toInt = -1 := rfl
  rw [Int32.toInt_div, e_, Int.tdiv_neg, Int.tdiv_one, Int32.toInt_neg]
theorem i32_m1 : Int32.ofInt (-1) = -1 := by decide
theorem j_eq124 (a_ b_ : Int32) : jm124_F a_ b_ = jx124_F a_ b_ := rfl
theorem j_eq38 (a_ b_ : Int32) : jm38_F a_ b_ = jx38_F a_ b_ := rfl
theorem j_eq60 (a_ b_ : Int32) : jm60_F a_ b_ = jx60_F a_ b_ := rfl
theorem j_eq61 (a_ b_ : Int32) : jm61_F a_ b_ = jx61_F a_ b_ := rfl
theorem j_eq62 (a_ b_ : Int32) : jm62_F a_ b_ = jx62_F a_ b_ := rfl
theorem j_eq43 (a_ b_ : Int32) : jm43_F a_ b_ = jx43_F a_ b_ := rfl
theorem j_eq45 (a_ b_ : Int32) : jm45_F a_ b_ = jx45_F a_ b_ := rfl
theorem j_eq42 (a_ b_ : Int32) : jm42_F a_ b_ = jx42_F a_ b_ := rfl
theorem j_eq47 (a_ b_ : Int32) : jm47_F a_ b_ = jx47_F a_ b_ := by
  unfold jm47_F jx47_F
  rw [i32_m1]
  simp only [xcmb]
  by_cases h_ : b_ = -1
  · rw [h_, i32_dq]
    rfl
  · rw [decide_eq_false h_]
    rfl
theorem j_eq37 (a_ b_ : Int32) : jm37_F a_ b_ = jx37_F a_ b_ := by
  unfold jm37_F jx37_F
  rw [i32_m1]
  simp only [xcmb]
  by_cases h_ : b_ = -1
  · rw [h_, i32_dq]
    have e_ : a_ - -a_ * -1 = 0 := by
      rw [Int32.mul_comm, ← Int32.neg_eq_neg_one_mul, Int32.neg_neg, Int32.sub_self]
    rw [e_]
    rfl
  · rw [decide_eq_false h_]
    rfl
def jsg : List Nat := [124, 38, 60, 61, 62, 43, 45, 42, 47, 37]
/-- what a sign makes of two numbers -/
def jxf (c_ : Nat) (a_ b_ : Int32) : Int32 := if c_ = 124 then jx124_F a_ b_ else if c_ = 38 then jx38_F a_ b_ else if c_ = 60 then jx60_F a_ b_ else if c_ = 61 then jx61_F a_ b_ else if c_ = 62 then jx62_F a_ b_ else if c_ = 43 then jx43_F a_ b_ else if c_ = 45 then jx45_F a_ b_ else if c_ = 42 then jx42_F a_ b_ else if c_ = 47 then jx47_F a_ b_ else if c_ = 37 then jx37_F a_ b_ else 0
theorem jxf_x {c_ : Nat} (hc_ : c_ ∈ jsg) (a_ b_ : Int32) (h_ : xH) (D_ : Nat) (hD : 5 ≤ D_) : xrun D_ 61 0 [(0, .int (Int32.ofNat c_)), (1, .int a_), (2, .int b_)] [] h_ (some (.int (jxf c_ a_ b_)), h_, []) := by
  simp only [jsg, List.mem_cons, List.not_mem_nil, or_false] at hc_
  rcases hc_ with rfl | rfl | rfl | rfl | rfl | rfl | rfl | rfl | rfl | rfl
  · exact jx124 a_ b_ h_ D_ hD
  · exact jx38 a_ b_ h_ D_ hD
  · exact jx60 a_ b_ h_ D_ hD
  · exact jx61 a_ b_ h_ D_ hD
  · exact jx62 a_ b_ h_ D_ hD
  · exact jx43 a_ b_ h_ D_ hD
  · exact jx45 a_ b_ h_ D_ hD
  · exact jx42 a_ b_ h_ D_ hD
  · exact jx47 a_ b_ h_ D_ hD
  · exact jx37 a_ b_ h_ D_ hD
theorem jxf_m {c_ : Nat} (hc_ : c_ ∈ jsg) (a_ b_ : Int32) (h_ : xH) (D_ : Nat) (hD : 5 ≤ D_) : xrun D_ 186 0 [(0, .int (Int32.ofNat c_)), (1, .int a_), (2, .int b_)] [] h_ (some (.int (jxf c_ a_ b_)), h_, []) := by
  simp only [jsg, List.mem_cons, List.not_mem_nil, or_false] at hc_
  rcases hc_ with rfl | rfl | rfl | rfl | rfl | rfl | rfl | rfl | rfl | rfl
  · have k_ := jm124 a_ b_ h_ D_ hD
    rw [j_eq124] at k_
    exact k_
  · have k_ := jm38 a_ b_ h_ D_ hD
    rw [j_eq38] at k_
    exact k_
  · have k_ := jm60 a_ b_ h_ D_ hD
    rw [j_eq60] at k_
    exact k_
  · have k_ := jm61 a_ b_ h_ D_ hD
    rw [j_eq61] at k_
    exact k_
  · have k_ := jm62 a_ b_ h_ D_ hD
    rw [j_eq62] at k_
    exact k_
  · have k_ := jm43 a_ b_ h_ D_ hD
    rw [j_eq43] at k_
    exact k_
  · have k_ := jm45 a_ b_ h_ D_ hD
    rw [j_eq45] at k_
    exact k_
  · have k_ := jm42 a_ b_ h_ D_ hD
    rw [j_eq42] at k_
    exact k_
  · have k_ := jm47 a_ b_ h_ D_ hD
    rw [j_eq47] at k_
    exact k_
  · have k_ := jm37 a_ b_ h_ D_ hD
    rw [j_eq37] at k_
    exact k_
-- wxN_v0: 30 steps, 1 ends, 0 returns
def wxN_v0_L : List (Nat × Nat × Nat) := [(1000, 9, 2), (1001, 6, 2), (1002, 20, 60), (1003, 20, 60), (1004, 20, 4)]
def wxN_v0_O : yO := [(1000, .int 0, .index 1001), (1001, .int 1, .arg 300), (1001, .int 0, .index 1002), (1002, .arg 3, .arg 301), (1000, .int 1, .index 1003)]
def wxN_v0_A : yA := (yZ wxN_v0_L, [(.arg 3, 60), (.arg 2, 60)], [], [], [])
def wxN_v0_C : List xB := [(.lt, .arg 3, .arg 300, true), (.lt, .arg 301, .int 0, false), (.lt, .arg 301, .int 10000, true), (.lt, .arg 2, .int 60, true)]
def wxN_v0_ss : List yS := [(4, [(3, .add (.arg 3) (.int 1)), (2, .add (.arg 2) (.int 1)), (4, .arg 301), (0, .index 1000), (1, .index 1004)], [], [(1003, .arg 2, .arg 301), (1000, .int 0, .index 1001), (1001, .int 1, .arg 300), (1001, .int 0, .index 1002), (1000, .int 1, .index 1003)], [(.lt, .arg 3, .arg 300, true), (.lt, .arg 301, .int 0, false), (.lt, .arg 301, .int 10000, true), (.lt, .arg 2, .int 60, true)], [(1003, .arg 2)])]
def wxN_v0_rs : List yR := []
theorem wxN_v0_w : ywa wxN_v0_A wxN_v0_ss wxN_v0_rs = true := by decide +kernel
theorem wxN_v0_k : yis (yev wxN_v0_A 3000 60 59 [4] (4, [(3, .arg 3), (2, .arg 2), (0, .index 1000), (1, .index 1004)], [], wxN_v0_O, wxN_v0_C, [])) wxN_v0_ss wxN_v0_rs = true := by decide +kernel
def wxN_v0_r (v2 v3 v300 v301 : Int32) (k_ : Nat) : Value := bif Nat.beq k_ 2 then .int v2 else (bif Nat.beq k_ 3 then .int v3 else (bif Nat.beq k_ 300 then .int v300 else (bif Nat.beq k_ 301 then .int v301 else (.int 0))))
def wxN_v0_s (a1000 a1001 a1002 a1003 a1004 : Nat) (n_ : Nat) : Nat := bif Nat.beq n_ 1000 then a1000 else (bif Nat.beq n_ 1001 then a1001 else (bif Nat.beq n_ 1002 then a1002 else (bif Nat.beq n_ 1003 then a1003 else (bif Nat.beq n_ 1004 then a1004 else (0)))))
theorem wxN_v0 {h_ : xH} {a1000 a1001 a1002 a1003 a1004 : Nat} {v2 v3 v300 v301 : Int32} (hs : sHp h_) (k1000 : bcq h_ a1000 9 2) (k1001 : bcq h_ a1001 6 2) (k1002 : bcq h_ a1002 20 60) (k1003 : bcq h_ a1003 20 60) (k1004 : bcq h_ a1004 20 4) (o0_ : bpat h_ a1000 0 = some (.index a1001)) (o1 : bpat h_ a1001 1 = some (.int v300)) (o2 : bpat h_ a1001 0 = some (.index a1002)) (o3_ : bpat h_ a1002 (v3).toInt.toNat = some (.int v301)) (o4_ : bpat h_ a1000 1 = some (.index a1003)) (b0 : 0 ≤ (v3).toInt ∧ (v3).toInt < 60) (b1 : 0 ≤ (v2).toInt ∧ (v2).toInt < 60) (c0_ : v3.toInt < v300.toInt) (c1_ : (0 : Int32).toInt ≤ v301.toInt) (c2_ : v301.toInt < (10000 : Int32).toInt) (c3_ : v2.toInt < (60 : Int32).toInt) : ∃ h', ysm h_ h' ∧ (((bpat h' a1003 (v2).toInt.toNat = some (.int v301)) ∧ (∀ a_ j_ : Nat, ¬ (a_ = a1003 ∧ j_ = (v2).toInt.toNat) → bpat h' a_ j_ = bpat h_ a_ j_) ∧ (bldD 60 59 4 [(3, .int v3), (2, .int v2), (0, .index a1000), (1, .index a1004)] [] h_ 4 [(3, .int (v3 + (1 : Int32))), (2, .int (v2 + (1 : Int32))), (4, .int v301), (0, .index a1000), (1, .index a1004)] [] h'))) := by
  have hA : yas wxN_v0_A (wxN_v0_r v2 v3 v300 v301) (yg (wxN_v0_s a1000 a1001 a1002 a1003 a1004)) := ⟨List.forall_mem_cons.mpr ⟨b0, List.forall_mem_cons.mpr ⟨b1, fun q_ hq => absurd hq List.not_mem_nil⟩⟩, fun q_ hq => absurd hq List.not_mem_nil, fun q_ hq => absurd hq List.not_mem_nil, fun n_ hn => yg_lo hn, fun q_ hq => absurd hq List.not_mem_nil⟩
  have Hs : ysh wxN_v0_A.1 (yg (wxN_v0_s a1000 a1001 a1002 a1003 a1004)) h_ := ysh_of2 hs (List.forall_mem_cons.mpr ⟨⟨by decide, k1000⟩, List.forall_mem_cons.mpr ⟨⟨by decide, k1001⟩, List.forall_mem_cons.mpr ⟨⟨by decide, k1002⟩, List.forall_mem_cons.mpr ⟨⟨by decide, k1003⟩, List.forall_mem_cons.mpr ⟨⟨by decide, k1004⟩, fun q_ hq => absurd hq List.not_mem_nil⟩⟩⟩⟩⟩)
  have Ho : ymem (wxN_v0_r v2 v3 v300 v301) (yg (wxN_v0_s a1000 a1001 a1002 a1003 a1004)) wxN_v0_O h_ := List.forall_mem_cons.mpr ⟨bpat_some o0_, List.forall_mem_cons.mpr ⟨bpat_some o1, List.forall_mem_cons.mpr ⟨bpat_some o2, List.forall_mem_cons.mpr ⟨bpat_some o3_, List.forall_mem_cons.mpr ⟨bpat_some o4_, fun q_ hq => absurd hq List.not_mem_nil⟩⟩⟩⟩⟩
  have HC : ∀ q_ ∈ wxN_v0_C, xhold (wxN_v0_r v2 v3 v300 v301) q_ := List.forall_mem_cons.mpr ⟨xh_ltT c0_, List.forall_mem_cons.mpr ⟨xh_ltF c1_, List.forall_mem_cons.mpr ⟨xh_ltT c2_, List.forall_mem_cons.mpr ⟨xh_ltT c3_, fun q_ hq => absurd hq List.not_mem_nil⟩⟩⟩⟩
  rcases yrun (yis_ok wxN_v0_k) hA Hs Ho HC with ⟨q_, hq, h', K_, G_⟩ | ⟨q_, hq, h', K_, G_⟩
  · have e_ := List.mem_singleton.mp hq
    subst e_
    exact ⟨h', yfr_sm K_.2.2.2 hs K_.1 (ywa_s wxN_v0_w List.mem_cons_self), ⟨bpat_of (K_.2.1 _ List.mem_cons_self), fun a_ j_ n0_ => yfr_bp K_.2.2.2 (List.forall_mem_cons.mpr ⟨fun e_ => n0_ ⟨e_.1.symm, e_.2.symm⟩, fun q_ hq => absurd hq List.not_mem_nil⟩), G_⟩⟩
  · cases hq
-- wxN_v1: 30 steps, 1 ends, 0 returns
def wxN_v1_L : List (Nat × Nat × Nat) := [(1000, 9, 2), (1001, 6, 2), (1002, 20, 60), (1003, 20, 60), (1004, 20, 4)]
def wxN_v1_O : yO := [(1000, .int 0, .index 1001), (1001, .int 1, .arg 300), (1001, .int 0, .index 1002), (1002, .arg 3, .arg 301), (1000, .int 1, .index 1003)]
def wxN_v1_A : yA := (yZ wxN_v1_L, [(.arg 3, 60), (.arg 2, 60)], [], [], [])
def wxN_v1_C : List xB := [(.lt, .arg 3, .arg 300, true), (.lt, .arg 301, .int 0, false), (.lt, .arg 301, .int 10000, true), (.lt, .arg 2, .int 60, true)]
def wxN_v1_ss : List yS := [(4, [(3, .add (.arg 3) (.int 1)), (2, .add (.arg 2) (.int 1)), (4, .arg 301), (0, .index 1000), (1, .index 1004)], [], [(1003, .arg 2, .arg 301), (1000, .int 0, .index 1001), (1001, .int 1, .arg 300), (1001, .int 0, .index 1002), (1000, .int 1, .index 1003)], [(.lt, .arg 3, .arg 300, true), (.lt, .arg 301, .int 0, false), (.lt, .arg 301, .int 10000, true), (.lt, .arg 2, .int 60, true)], [(1003, .arg 2)])]
def wxN_v1_rs : List yR := []
theorem wxN_v1_w : ywa wxN_v1_A wxN_v1_ss wxN_v1_rs = true := by decide +kernel
theorem wxN_v1_k : yis (yev wxN_v1_A 3000 60 59 [4] (4, [(3, .arg 3), (2, .arg 2), (4, .arg 904), (0, .index 1000), (1, .index 1004)], [], wxN_v1_O, wxN_v1_C, [])) wxN_v1_ss wxN_v1_rs = true := by decide +kernel
def wxN_v1_r (v2 v3 v300 v301 v904 : Int32) (k_ : Nat) : Value := bif Nat.beq k_ 2 then .int v2 else (bif Nat.beq k_ 3 then .int v3 else (bif Nat.beq k_ 300 then .int v300 else (bif Nat.beq k_ 301 then .int v301 else (bif Nat.beq k_ 904 then .int v904 else (.int 0)))))
def wxN_v1_s (a1000 a1001 a1002 a1003 a1004 : Nat) (n_ : Nat) : Nat := bif Nat.beq n_ 1000 then a1000 else (bif Nat.beq n_ 1001 then a1001 else (bif Nat.beq n_ 1002 then a1002 else (bif Nat.beq n_ 1003 then a1003 else (bif Nat.beq n_ 1004 then a1004 else (0)))))
theorem wxN_v1 {h_ : xH} {a1000 a1001 a1002 a1003 a1004 : Nat} {v2 v3 v300 v301 v904 : Int32} (hs : sHp h_) (k1000 : bcq h_ a1000 9 2) (k1001 : bcq h_ a1001 6 2) (k1002 : bcq h_ a1002 20 60) (k1003 : bcq h_ a1003 20 60) (k1004 : bcq h_ a1004 20 4) (o0_ : bpat h_ a1000 0 = some (.index a1001)) (o1 : bpat h_ a1001 1 = some (.int v300)) (o2 : bpat h_ a1001 0 = some (.index a1002)) (o3_ : bpat h_ a1002 (v3).toInt.toNat = some (.int v301)) (o4_ : bpat h_ a1000 1 = some (.index a1003)) (b0 : 0 ≤ (v3).toInt ∧ (v3).toInt < 60) (b1 : 0 ≤ (v2).toInt ∧ (v2).toInt < 60) (c0_ : v3.toInt < v300.toInt) (c1_ : (0 : Int32).toInt ≤ v301.toInt) (c2_ : v301.toInt < (10000 : Int32).toInt) (c3_ : v2.toInt < (60 : Int32).toInt) : ∃ h', ysm h_ h' ∧ (((bpat h' a1003 (v2).toInt.toNat = some (.int v301)) ∧ (∀ a_ j_ : Nat, ¬ (a_ = a1003 ∧ j_ = (v2).toInt.toNat) → bpat h' a_ j_ = bpat h_ a_ j_) ∧ (bldD 60 59 4 [(3, .int v3), (2, .int v2), (4, .int v904), (0, .index a1000), (1, .index a1004)] [] h_ 4 [(3, .int (v3 + (1 : Int32))), (2, .int (v2 + (1 : Int32))), (4, .int v301), (0, .index a1000), (1, .index a1004)] [] h'))) := by
  have hA : yas wxN_v1_A (wxN_v1_r v2 v3 v300 v301 v904) (yg (wxN_v1_s a1000 a1001 a1002 a1003 a1004)) := ⟨List.forall_mem_cons.mpr ⟨b0, List.forall_mem_cons.mpr ⟨b1, fun q_ hq => absurd hq List.not_mem_nil⟩⟩, fun q_ hq => absurd hq List.not_mem_nil, fun q_ hq => absurd hq List.not_mem_nil, fun n_ hn => yg_lo hn, fun q_ hq => absurd hq List.not_mem_nil⟩
  have Hs : ysh wxN_v1_A.1 (yg (wxN_v1_s a1000 a1001 a1002 a1003 a1004)) h_ := ysh_of2 hs (List.forall_mem_cons.mpr ⟨⟨by decide, k1000⟩, List.forall_mem_cons.mpr ⟨⟨by decide, k1001⟩, List.forall_mem_cons.mpr ⟨⟨by decide, k1002⟩, List.forall_mem_cons.mpr ⟨⟨by decide, k1003⟩, List.forall_mem_cons.mpr ⟨⟨by decide, k1004⟩, fun q_ hq => absurd hq List.not_mem_nil⟩⟩⟩⟩⟩)
  have Ho : ymem (wxN_v1_r v2 v3 v300 v301 v904) (yg (wxN_v1_s a1000 a1001 a1002 a1003 a1004)) wxN_v1_O h_ := List.forall_mem_cons.mpr ⟨bpat_some o0_, List.forall_mem_cons.mpr ⟨bpat_some o1, List.forall_mem_cons.mpr ⟨bpat_some o2, List.forall_mem_cons.mpr ⟨bpat_some o3_, List.forall_mem_cons.mpr ⟨bpat_some o4_, fun q_ hq => absurd hq List.not_mem_nil⟩⟩⟩⟩⟩
  have HC : ∀ q_ ∈ wxN_v1_C, xhold (wxN_v1_r v2 v3 v300 v301 v904) q_ := List.forall_mem_cons.mpr ⟨xh_ltT c0_, List.forall_mem_cons.mpr ⟨xh_ltF c1_, List.forall_mem_cons.mpr ⟨xh_ltT c2_, List.forall_mem_cons.mpr ⟨xh_ltT c3_, fun q_ hq => absurd hq List.not_mem_nil⟩⟩⟩⟩
  rcases yrun (yis_ok wxN_v1_k) hA Hs Ho HC with ⟨q_, hq, h', K_, G_⟩ | ⟨q_, hq, h', K_, G_⟩
  · have e_ := List.mem_singleton.mp hq
    subst e_
    exact ⟨h', yfr_sm K_.2.2.2 hs K_.1 (ywa_s wxN_v1_w List.mem_cons_self), ⟨bpat_of (K_.2.1 _ List.mem_cons_self), fun a_ j_ n0_ => yfr_bp K_.2.2.2 (List.forall_mem_cons.mpr ⟨fun e_ => n0_ ⟨e_.1.symm, e_.2.symm⟩, fun q_ hq => absurd hq List.not_mem_nil⟩), G_⟩⟩
  · cases hq
-- wxN_v2: 30 steps, 1 ends, 0 returns
def wxN_v2_L : List (Nat × Nat × Nat) := [(1000, 9, 2), (1001, 6, 2), (1002, 20, 60), (1003, 20, 60), (1004, 20, 4)]
def wxN_v2_O : yO := [(1000, .int 0, .index 1001), (1001, .int 1, .arg 300), (1001, .int 0, .index 1002), (1002, .arg 3, .arg 301), (1000, .int 1, .index 1003)]
def wxN_v2_A : yA := (yZ wxN_v2_L, [(.arg 3, 60), (.arg 2, 60)], [], [], [])
def wxN_v2_C : List xB := [(.lt, .arg 3, .arg 300, true), (.lt, .arg 301, .int 0, false), (.lt, .arg 301, .int 10000, true), (.lt, .arg 2, .int 60, true)]
def wxN_v2_ss : List yS := [(4, [(3, .add (.arg 3) (.int 1)), (2, .add (.arg 2) (.int 1)), (4, .arg 301), (0, .index 1000), (1, .index 1004)], [], [(1003, .arg 2, .arg 301), (1000, .int 0, .index 1001), (1001, .int 1, .arg 300), (1001, .int 0, .index 1002), (1000, .int 1, .index 1003)], [(.lt, .arg 3, .arg 300, true), (.lt, .arg 301, .int 0, false), (.lt, .arg 301, .int 10000, true), (.lt, .arg 2, .int 60, true)], [(1003, .arg 2)])]
def wxN_v2_rs : List yR := []
theorem wxN_v2_w : ywa wxN_v2_A wxN_v2_ss wxN_v2_rs = true := by decide +kernel
theorem wxN_v2_k : yis (yev wxN_v2_A 3000 60 59 [4] (4, [(3, .arg 3), (4, .arg 904), (2, .arg 2), (0, .index 1000), (1, .index 1004)], [], wxN_v2_O, wxN_v2_C, [])) wxN_v2_ss wxN_v2_rs = true := by decide +kernel
def wxN_v2_r (v2 v3 v300 v301 v904 : Int32) (k_ : Nat) : Value := bif Nat.beq k_ 2 then .int v2 else (bif Nat.beq k_ 3 then .int v3 else (bif Nat.beq k_ 300 then .int v300 else (bif Nat.beq k_ 301 then .int v301 else (bif Nat.beq k_ 904 then .int v904 else (.int 0)))))
def wxN_v2_s (a1000 a1001 a1002 a1003 a1004 : Nat) (n_ : Nat) : Nat := bif Nat.beq n_ 1000 then a1000 else (bif Nat.beq n_ 1001 then a1001 else (bif Nat.beq n_ 1002 then a1002 else (bif Nat.beq n_ 1003 then a1003 else (bif Nat.beq n_ 1004 then a1004 else (0)))))
theorem wxN_v2 {h_ : xH} {a1000 a1001 a1002 a1003 a1004 : Nat} {v2 v3 v300 v301 v904 : Int32} (hs : sHp h_) (k1000 : bcq h_ a1000 9 2) (k1001 : bcq h_ a1001 6 2) (k1002 : bcq h_ a1002 20 60) (k1003 : bcq h_ a1003 20 60) (k1004 : bcq h_ a1004 20 4) (o0_ : bpat h_ a1000 0 = some (.index a1001)) (o1 : bpat h_ a1001 1 = some (.int v300)) (o2 : bpat h_ a1001 0 = some (.index a1002)) (o3_ : bpat h_ a1002 (v3).toInt.toNat = some (.int v301)) (o4_ : bpat h_ a1000 1 = some (.index a1003)) (b0 : 0 ≤ (v3).toInt ∧ (v3).toInt < 60) (b1 : 0 ≤ (v2).toInt ∧ (v2).toInt < 60) (c0_ : v3.toInt < v300.toInt) (c1_ : (0 : Int32).toInt ≤ v301.toInt) (c2_ : v301.toInt < (10000 : Int32).toInt) (c3_ : v2.toInt < (60 : Int32).toInt) : ∃ h', ysm h_ h' ∧ (((bpat h' a1003 (v2).toInt.toNat = some (.int v301)) ∧ (∀ a_ j_ : Nat, ¬ (a_ = a1003 ∧ j_ = (v2).toInt.toNat) → bpat h' a_ j_ = bpat h_ a_ j_) ∧ (bldD 60 59 4 [(3, .int v3), (4, .int v904), (2, .int v2), (0, .index a1000), (1, .index a1004)] [] h_ 4 [(3, .int (v3 + (1 : Int32))), (2, .int (v2 + (1 : Int32))), (4, .int v301), (0, .index a1000), (1, .index a1004)] [] h'))) := by
  have hA : yas wxN_v2_A (wxN_v2_r v2 v3 v300 v301 v904) (yg (wxN_v2_s a1000 a1001 a1002 a1003 a1004)) := ⟨List.forall_mem_cons.mpr ⟨b0, List.forall_mem_cons.mpr ⟨b1, fun q_ hq => absurd hq List.not_mem_nil⟩⟩, fun q_ hq => absurd hq List.not_mem_nil, fun q_ hq => absurd hq List.not_mem_nil, fun n_ hn => yg_lo hn, fun q_ hq => absurd hq List.not_mem_nil⟩
  have Hs : ysh wxN_v2_A.1 (yg (wxN_v2_s a1000 a1001 a1002 a1003 a1004)) h_ := ysh_of2 hs (List.forall_mem_cons.mpr ⟨⟨by decide, k1000⟩, List.forall_mem_cons.mpr ⟨⟨by decide, k1001⟩, List.forall_mem_cons.mpr ⟨⟨by decide, k1002⟩, List.forall_mem_cons.mpr ⟨⟨by decide, k1003⟩, List.forall_mem_cons.mpr ⟨⟨by decide, k1004⟩, fun q_ hq => absurd hq List.not_mem_nil⟩⟩⟩⟩⟩)
  have Ho : ymem (wxN_v2_r v2 v3 v300 v301 v904) (yg (wxN_v2_s a1000 a1001 a1002 a1003 a1004)) wxN_v2_O h_ := List.forall_mem_cons.mpr ⟨bpat_some o0_, List.forall_mem_cons.mpr ⟨bpat_some o1, List.forall_mem_cons.mpr ⟨bpat_some o2, List.forall_mem_cons.mpr ⟨bpat_some o3_, List.forall_mem_cons.mpr ⟨bpat_some o4_, fun q_ hq => absurd hq List.not_mem_nil⟩⟩⟩⟩⟩
  have HC : ∀ q_ ∈ wxN_v2_C, xhold (wxN_v2_r v2 v3 v300 v301 v904) q_ := List.forall_mem_cons.mpr ⟨xh_ltT c0_, List.forall_mem_cons.mpr ⟨xh_ltF c1_, List.forall_mem_cons.mpr ⟨xh_ltT c2_, List.forall_mem_cons.mpr ⟨xh_ltT c3_, fun q_ hq => absurd hq List.not_mem_nil⟩⟩⟩⟩
  rcases yrun (yis_ok wxN_v2_k) hA Hs Ho HC with ⟨q_, hq, h', K_, G_⟩ | ⟨q_, hq, h', K_, G_⟩
  · have e_ := List.mem_singleton.mp hq
    subst e_
    exact ⟨h', yfr_sm K_.2.2.2 hs K_.1 (ywa_s wxN_v2_w List.mem_cons_self), ⟨bpat_of (K_.2.1 _ List.mem_cons_self), fun a_ j_ n0_ => yfr_bp K_.2.2.2 (List.forall_mem_cons.mpr ⟨fun e_ => n0_ ⟨e_.1.symm, e_.2.symm⟩, fun q_ hq => absurd hq List.not_mem_nil⟩), G_⟩⟩
  · cases hq
def wxN_hd (a1000 a1004 : Nat) (p2_ p3_ : Int32) (lo_ : xL) : Prop := (lo_ = [(3, .int p3_), (2, .int p2_), (0, .index a1000), (1, .index a1004)]) ∨ (∃ y4 : Int32, lo_ = [(3, .int p3_), (2, .int p2_), (4, .int y4), (0, .index a1000), (1, .index a1004)]) ∨ (∃ y4 : Int32, lo_ = [(3, .int p3_), (4, .int y4), (2, .int p2_), (0, .index a1000), (1, .index a1004)])
theorem wxN {h_ : xH} {a1000 a1001 a1002 a1003 a1004 : Nat} {v2 v3 v300 v301 : Int32} {lo_ : xL} (hs : sHp h_) (k1000 : bcq h_ a1000 9 2) (k1001 : bcq h_ a1001 6 2) (k1002 : bcq h_ a1002 20 60) (k1003 : bcq h_ a1003 20 60) (k1004 : bcq h_ a1004 20 4) (o0_ : bpat h_ a1000 0 = some (.index a1001)) (o1 : bpat h_ a1001 1 = some (.int v300)) (o2 : bpat h_ a1001 0 = some (.index a1002)) (o3_ : bpat h_ a1002 (v3).toInt.toNat = some (.int v301)) (o4_ : bpat h_ a1000 1 = some (.index a1003)) (b0 : 0 ≤ (v3).toInt ∧ (v3).toInt < 60) (b1 : 0 ≤ (v2).toInt ∧ (v2).toInt < 60) (c0_ : v3.toInt < v300.toInt) (c1_ : (0 : Int32).toInt ≤ v301.toInt) (c2_ : v301.toInt < (10000 : Int32).toInt) (c3_ : v2.toInt < (60 : Int32).toInt) (H_ : wxN_hd a1000 a1004 v2 v3 lo_) : ∃ h', ysm h_ h' ∧ (((bpat h' a1003 (v2).toInt.toNat = some (.int v301)) ∧ (∀ a_ j_ : Nat, ¬ (a_ = a1003 ∧ j_ = (v2).toInt.toNat) → bpat h' a_ j_ = bpat h_ a_ j_) ∧ (∃ lo', wxN_hd a1000 a1004 (v2 + (1 : Int32)) (v3 + (1 : Int32)) lo' ∧ bldD 60 59 4 lo_ [] h_ 4 lo' [] h'))) := by
  rcases H_ with rfl | ⟨y4, rfl⟩ | ⟨y4, rfl⟩
  · obtain ⟨h', m_, e_⟩ := wxN_v0 hs k1000 k1001 k1002 k1003 k1004 o0_ o1 o2 o3_ o4_ b0 b1 c0_ c1_ c2_ c3_
    refine ⟨h', m_, ?_⟩
    obtain ⟨g0, g1, g2⟩ := e_
    exact ⟨g0, g1, ⟨_, Or.inr (Or.inl (⟨_, rfl⟩)), g2⟩⟩
  · obtain ⟨h', m_, e_⟩ := wxN_v1 hs k1000 k1001 k1002 k1003 k1004 o0_ o1 o2 o3_ o4_ b0 b1 c0_ c1_ c2_ c3_
    refine ⟨h', m_, ?_⟩
    obtain ⟨g0, g1, g2⟩ := e_
    exact ⟨g0, g1, ⟨_, Or.inr (Or.inl (⟨_, rfl⟩)), g2⟩⟩
  · obtain ⟨h', m_, e_⟩ := wxN_v2 hs k1000 k1001 k1002 k1003 k1004 o0_ o1 o2 o3_ o4_ b0 b1 c0_ c1_ c2_ c3_
    refine ⟨h', m_, ?_⟩
    obtain ⟨g0, g1, g2⟩ := e_
    exact ⟨g0, g1, ⟨_, Or.inr (Or.inl (⟨_, rfl⟩)), g2⟩⟩
-- wxV0_v0: 44 steps, 1 ends, 0 returns
def wxV0_v0_L : List (Nat × Nat × Nat) := [(1000, 9, 2), (1001, 6, 2), (1002, 20, 60), (1003, 20, 60), (1004, 20, 4)]
def wxV0_v0_O : yO := [(1000, .int 0, .index 1001), (1001, .int 1, .arg 300), (1001, .int 0, .index 1002), (1002, .arg 3, .int 10000), (1000, .int 1, .index 1003), (1004, .int 0, .arg 320)]
def wxV0_v0_A : yA := (yZ wxV0_v0_L, [(.arg 3, 60), (.arg 2, 60)], [], [], [])
def wxV0_v0_C : List xB := [(.lt, .arg 3, .arg 300, true), (.lt, .arg 2, .int 60, true)]
def wxV0_v0_ss : List yS := [(4, [(3, .add (.arg 3) (.int 1)), (2, .add (.arg 2) (.int 1)), (4, .int 10000), (0, .index 1000), (1, .index 1004)], [], [(1003, .arg 2, .arg 320), (1000, .int 0, .index 1001), (1001, .int 1, .arg 300), (1001, .int 0, .index 1002), (1000, .int 1, .index 1003)], [(.lt, .arg 3, .arg 300, true), (.lt, .arg 2, .int 60, true)], [(1003, .arg 2)])]
def wxV0_v0_rs : List yR := []
theorem wxV0_v0_w : ywa wxV0_v0_A wxV0_v0_ss wxV0_v0_rs = true := by decide +kernel
theorem wxV0_v0_k : yis (yev wxV0_v0_A 3000 60 59 [4] (4, [(3, .arg 3), (2, .arg 2), (0, .index 1000), (1, .index 1004)], [], wxV0_v0_O, wxV0_v0_C, [])) wxV0_v0_ss wxV0_v0_rs = true := by decide +kernel
def wxV0_v0_r (v2 v3 v300 v320 : Int32) (k_ : Nat) : Value := bif Nat.beq k_ 2 then .int v2 else (bif Nat.beq k_ 3 then .int v3 else (bif Nat.beq k_ 300 then .int v300 else (bif Nat.beq k_ 320 then .int v320 else (.int 0))))
def wxV0_v0_s (a1000 a1001 a1002 a1003 a1004 : Nat) (n_ : Nat) : Nat := bif Nat.beq n_ 1000 then a1000 else (bif Nat.beq n_ 1001 then a1001 else (bif Nat.beq n_ 1002 then a1002 else (bif Nat.beq n_ 1003 then a1003 else (bif Nat.beq n_ 1004 then a1004 else (0)))))
theorem wxV0_v0 {h_ : xH} {a1000 a1001 a1002 a1003 a1004 : Nat} {v2 v3 v300 v320 : Int32} (hs : sHp h_) (k1000 : bcq h_ a1000 9 2) (k1001 : bcq h_ a1001 6 2) (k1002 : bcq h_ a1002 20 60) (k1003 : bcq h_ a1003 20 60) (k1004 : bcq h_ a1004 20 4) (o0_ : bpat h_ a1000 0 = some (.index a1001)) (o1 : bpat h_ a1001 1 = some (.int v300)) (o2 : bpat h_ a1001 0 = some (.index a1002)) (o3_ : bpat h_ a1002 (v3).toInt.toNat = some (.int (10000 : Int32))) (o4_ : bpat h_ a1000 1 = some (.index a1003)) (o5_ : bpat h_ a1004 0 = some (.int v320)) (b0 : 0 ≤ (v3).toInt ∧ (v3).toInt < 60) (b1 : 0 ≤ (v2).toInt ∧ (v2).toInt < 60) (c0_ : v3.toInt < v300.toInt) (c1_ : v2.toInt < (60 : Int32).toInt) : ∃ h', ysm h_ h' ∧ (((bpat h' a1003 (v2).toInt.toNat = some (.int v320)) ∧ (∀ a_ j_ : Nat, ¬ (a_ = a1003 ∧ j_ = (v2).toInt.toNat) → bpat h' a_ j_ = bpat h_ a_ j_) ∧ (bldD 60 59 4 [(3, .int v3), (2, .int v2), (0, .index a1000), (1, .index a1004)] [] h_ 4 [(3, .int (v3 + (1 : Int32))), (2, .int (v2 + (1 : Int32))), (4, .int (10000 : Int32)), (0, .index a1000), (1, .index a1004)] [] h'))) := by
  have hA : yas wxV0_v0_A (wxV0_v0_r v2 v3 v300 v320) (yg (wxV0_v0_s a1000 a1001 a1002 a1003 a1004)) := ⟨List.forall_mem_cons.mpr ⟨b0, List.forall_mem_cons.mpr ⟨b1, fun q_ hq => absurd hq List.not_mem_nil⟩⟩, fun q_ hq => absurd hq List.not_mem_nil, fun q_ hq => absurd hq List.not_mem_nil, fun n_ hn => yg_lo hn, fun q_ hq => absurd hq List.not_mem_nil⟩
  have Hs : ysh wxV0_v0_A.1 (yg (wxV0_v0_s a1000 a1001 a1002 a1003 a1004)) h_ := ysh_of2 hs (List.forall_mem_cons.mpr ⟨⟨by decide, k1000⟩, List.forall_mem_cons.mpr ⟨⟨by decide, k1001⟩, List.forall_mem_cons.mpr ⟨⟨by decide, k1002⟩, List.forall_mem_cons.mpr ⟨⟨by decide, k1003⟩, List.forall_mem_cons.mpr ⟨⟨by decide, k1004⟩, fun q_ hq => absurd hq List.not_mem_nil⟩⟩⟩⟩⟩)
  have Ho : ymem (wxV0_v0_r v2 v3 v300 v320) (yg (wxV0_v0_s a1000 a1001 a1002 a1003 a1004)) wxV0_v0_O h_ := List.forall_mem_cons.mpr ⟨bpat_some o0_, List.forall_mem_cons.mpr ⟨bpat_some o1, List.forall_mem_cons.mpr ⟨bpat_some o2, List.forall_mem_cons.mpr ⟨bpat_some o3_, List.forall_mem_cons.mpr ⟨bpat_some o4_, List.forall_mem_cons.mpr ⟨bpat_some o5_, fun q_ hq => absurd hq List.not_mem_nil⟩⟩⟩⟩⟩⟩
  have HC : ∀ q_ ∈ wxV0_v0_C, xhold (wxV0_v0_r v2 v3 v300 v320) q_ := List.forall_mem_cons.mpr ⟨xh_ltT c0_, List.forall_mem_cons.mpr ⟨xh_ltT c1_, fun q_ hq => absurd hq List.not_mem_nil⟩⟩
  rcases yrun (yis_ok wxV0_v0_k) hA Hs Ho HC with ⟨q_, hq, h', K_, G_⟩ | ⟨q_, hq, h', K_, G_⟩
  · have e_ := List.mem_singleton.mp hq
    subst e_
    exact ⟨h', yfr_sm K_.2.2.2 hs K_.1 (ywa_s wxV0_v0_w List.mem_cons_self), ⟨bpat_of (K_.2.1 _ List.mem_cons_self), fun a_ j_ n0_ => yfr_bp K_.2.2.2 (List.forall_mem_cons.mpr ⟨fun e_ => n0_ ⟨e_.1.symm, e_.2.symm⟩, fun q_ hq => absurd hq List.not_mem_nil⟩), G_⟩⟩
  · cases hq
-- wxV0_v1: 44 steps, 1 ends, 0 returns
def wxV0_v1_L : List (Nat × Nat × Nat) := [(1000, 9, 2), (1001, 6, 2), (1002, 20, 60), (1003, 20, 60), (1004, 20, 4)]
def wxV0_v1_O : yO := [(1000, .int 0, .index 1001), (1001, .int 1, .arg 300), (1001, .int 0, .index 1002), (1002, .arg 3, .int 10000), (1000, .int 1, .index 1003), (1004, .int 0, .arg 320)]
def wxV0_v1_A : yA := (yZ wxV0_v1_L, [(.arg 3, 60), (.arg 2, 60)], [], [], [])
def wxV0_v1_C : List xB := [(.lt, .arg 3, .arg 300, true), (.lt, .arg 2, .int 60, true)]
def wxV0_v1_ss : List yS := [(4, [(3, .add (.arg 3) (.int 1)), (2, .add (.arg 2) (.int 1)), (4, .int 10000), (0, .index 1000), (1, .index 1004)], [], [(1003, .arg 2, .arg 320), (1000, .int 0, .index 1001), (1001, .int 1, .arg 300), (1001, .int 0, .index 1002), (1000, .int 1, .index 1003)], [(.lt, .arg 3, .arg 300, true), (.lt, .arg 2, .int 60, true)], [(1003, .arg 2)])]
def wxV0_v1_rs : List yR := []
theorem wxV0_v1_w : ywa wxV0_v1_A wxV0_v1_ss wxV0_v1_rs = true := by decide +kernel
theorem wxV0_v1_k : yis (yev wxV0_v1_A 3000 60 59 [4] (4, [(3, .arg 3), (2, .arg 2), (4, .arg 904), (0, .index 1000), (1, .index 1004)], [], wxV0_v1_O, wxV0_v1_C, [])) wxV0_v1_ss wxV0_v1_rs = true := by decide +kernel
def wxV0_v1_r (v2 v3 v300 v320 v904 : Int32) (k_ : Nat) : Value := bif Nat.beq k_ 2 then .int v2 else (bif Nat.beq k_ 3 then .int v3 else (bif Nat.beq k_ 300 then .int v300 else (bif Nat.beq k_ 320 then .int v320 else (bif Nat.beq k_ 904 then .int v904 else (.int 0)))))
def wxV0_v1_s (a1000 a1001 a1002 a1003 a1004 : Nat) (n_ : Nat) : Nat := bif Nat.beq n_ 1000 then a1000 else (bif Nat.beq n_ 1001 then a1001 else (bif Nat.beq n_ 1002 then a1002 else (bif Nat.beq n_ 1003 then a1003 else (bif Nat.beq n_ 1004 then a1004 else (0)))))
theorem wxV0_v1 {h_ : xH} {a1000 a1001 a1002 a1003 a1004 : Nat} {v2 v3 v300 v320 v904 : Int32} (hs : sHp h_) (k1000 : bcq h_ a1000 9 2) (k1001 : bcq h_ a1001 6 2) (k1002 : bcq h_ a1002 20 60) (k1003 : bcq h_ a1003 20 60) (k1004 : bcq h_ a1004 20 4) (o0_ : bpat h_ a1000 0 = some (.index a1001)) (o1 : bpat h_ a1001 1 = some (.int v300)) (o2 : bpat h_ a1001 0 = some (.index a1002)) (o3_ : bpat h_ a1002 (v3).toInt.toNat = some (.int (10000 : Int32))) (o4_ : bpat h_ a1000 1 = some (.index a1003)) (o5_ : bpat h_ a1004 0 = some (.int v320)) (b0 : 0 ≤ (v3).toInt ∧ (v3).toInt < 60) (b1 : 0 ≤ (v2).toInt ∧ (v2).toInt < 60) (c0_ : v3.toInt < v300.toInt) (c1_ : v2.toInt < (60 : Int32).toInt) : ∃ h', ysm h_ h' ∧ (((bpat h' a1003 (v2).toInt.toNat = some (.int v320)) ∧ (∀ a_ j_ : Nat, ¬ (a_ = a1003 ∧ j_ = (v2).toInt.toNat) → bpat h' a_ j_ = bpat h_ a_ j_) ∧ (bldD 60 59 4 [(3, .int v3), (2, .int v2), (4, .int v904), (0, .index a1000), (1, .index a1004)] [] h_ 4 [(3, .int (v3 + (1 : Int32))), (2, .int (v2 + (1 : Int32))), (4, .int (10000 : Int32)), (0, .index a1000), (1, .index a1004)] [] h'))) := by
  have hA : yas wxV0_v1_A (wxV0_v1_r v2 v3 v300 v320 v904) (yg (wxV0_v1_s a1000 a1001 a1002 a1003 a1004)) := ⟨List.forall_mem_cons.mpr ⟨b0, List.forall_mem_cons.mpr ⟨b1, fun q_ hq => absurd hq List.not_mem_nil⟩⟩, fun q_ hq => absurd hq List.not_mem_nil, fun q_ hq => absurd hq List.not_mem_nil, fun n_ hn => yg_lo hn, fun q_ hq => absurd hq List.not_mem_nil⟩
  have Hs : ysh wxV0_v1_A.1 (yg (wxV0_v1_s a1000 a1001 a1002 a1003 a1004)) h_ := ysh_of2 hs (List.forall_mem_cons.mpr ⟨⟨by decide, k1000⟩, List.forall_mem_cons.mpr ⟨⟨by decide, k1001⟩, List.forall_mem_cons.mpr ⟨⟨by decide, k1002⟩, List.forall_mem_cons.mpr ⟨⟨by decide, k1003⟩, List.forall_mem_cons.mpr ⟨⟨by decide, k1004⟩, fun q_ hq => absurd hq List.not_mem_nil⟩⟩⟩⟩⟩)
  have Ho : ymem (wxV0_v1_r v2 v3 v300 v320 v904) (yg (wxV0_v1_s a1000 a1001 a1002 a1003 a1004)) wxV0_v1_O h_ := List.forall_mem_cons.mpr ⟨bpat_some o0_, List.forall_mem_cons.mpr ⟨bpat_some o1, List.forall_mem_cons.mpr ⟨bpat_some o2, List.forall_mem_cons.mpr ⟨bpat_some o3_, List.forall_mem_cons.mpr ⟨bpat_some o4_, List.forall_mem_cons.mpr ⟨bpat_some o5_, fun q_ hq => absurd hq List.not_mem_nil⟩⟩⟩⟩⟩⟩
  have HC : ∀ q_ ∈ wxV0_v1_C, xhold (wxV0_v1_r v2 v3 v300 v320 v904) q_ := List.forall_mem_cons.mpr ⟨xh_ltT c0_, List.forall_mem_cons.mpr ⟨xh_ltT c1_, fun q_ hq => absurd hq List.not_mem_nil⟩⟩
  rcases yrun (yis_ok wxV0_v1_k) hA Hs Ho HC with ⟨q_, hq, h', K_, G_⟩ | ⟨q_, hq, h', K_, G_⟩
  · have e_ := List.mem_singleton.mp hq
    subst e_
    exact ⟨h', yfr_sm K_.2.2.2 hs K_.1 (ywa_s wxV0_v1_w List.mem_cons_self), ⟨bpat_of (K_.2.1 _ List.mem_cons_self), fun a_ j_ n0_ => yfr_bp K_.2.2.2 (List.forall_mem_cons.mpr ⟨fun e_ => n0_ ⟨e_.1.symm, e_.2.symm⟩, fun q_ hq => absurd hq List.not_mem_nil⟩), G_⟩⟩
  · cases hq
-- wxV0_v2: 44 steps, 1 ends, 0 returns
def wxV0_v2_L : List (Nat × Nat × Nat) := [(1000, 9, 2), (1001, 6, 2), (1002, 20, 60), (1003, 20, 60), (1004, 20, 4)]
def wxV0_v2_O : yO := [(1000, .int 0, .index 1001), (1001, .int 1, .arg 300), (1001, .int 0, .index 1002), (1002, .arg 3, .int 10000), (1000, .int 1, .index 1003), (1004, .int 0, .arg 320)]
def wxV0_v2_A : yA := (yZ wxV0_v2_L, [(.arg 3, 60), (.arg 2, 60)], [], [], [])
def wxV0_v2_C : List xB := [(.lt, .arg 3, .arg 300, true), (.lt, .arg 2, .int 60, true)]
def wxV0_v2_ss : List yS := [(4, [(3, .add (.arg 3) (.int 1)), (2, .add (.arg 2) (.int 1)), (4, .int 10000), (0, .index 1000), (1, .index 1004)], [], [(1003, .arg 2, .arg 320), (1000, .int 0, .index 1001), (1001, .int 1, .arg 300), (1001, .int 0, .index 1002), (1000, .int 1, .index 1003)], [(.lt, .arg 3, .arg 300, true), (.lt, .arg 2, .int 60, true)], [(1003, .arg 2)])]
def wxV0_v2_rs : List yR := []
theorem wxV0_v2_w : ywa wxV0_v2_A wxV0_v2_ss wxV0_v2_rs = true := by decide +kernel
theorem wxV0_v2_k : yis (yev wxV0_v2_A 3000 60 59 [4] (4, [(3, .arg 3), (4, .arg 904), (2, .arg 2), (0, .index 1000), (1, .index 1004)], [], wxV0_v2_O, wxV0_v2_C, [])) wxV0_v2_ss wxV0_v2_rs = true := by decide +kernel
def wxV0_v2_r (v2 v3 v300 v320 v904 : Int32) (k_ : Nat) : Value := bif Nat.beq k_ 2 then .int v2 else (bif Nat.beq k_ 3 then .int v3 else (bif Nat.beq k_ 300 then .int v300 else (bif Nat.beq k_ 320 then .int v320 else (bif Nat.beq k_ 904 then .int v904 else (.int 0)))))
def wxV0_v2_s (a1000 a1001 a1002 a1003 a1004 : Nat) (n_ : Nat) : Nat := bif Nat.beq n_ 1000 then a1000 else (bif Nat.beq n_ 1001 then a1001 else (bif Nat.beq n_ 1002 then a1002 else (bif Nat.beq n_ 1003 then a1003 else (bif Nat.beq n_ 1004 then a1004 else (0)))))
theorem wxV0_v2 {h_ : xH} {a1000 a1001 a1002 a1003 a1004 : Nat} {v2 v3 v300 v320 v904 : Int32} (hs : sHp h_) (k1000 : bcq h_ a1000 9 2) (k1001 : bcq h_ a1001 6 2) (k1002 : bcq h_ a1002 20 60) (k1003 : bcq h_ a1003 20 60) (k1004 : bcq h_ a1004 20 4) (o0_ : bpat h_ a1000 0 = some (.index a1001)) (o1 : bpat h_ a1001 1 = some (.int v300)) (o2 : bpat h_ a1001 0 = some (.index a1002)) (o3_ : bpat h_ a1002 (v3).toInt.toNat = some (.int (10000 : Int32))) (o4_ : bpat h_ a1000 1 = some (.index a1003)) (o5_ : bpat h_ a1004 0 = some (.int v320)) (b0 : 0 ≤ (v3).toInt ∧ (v3).toInt < 60) (b1 : 0 ≤ (v2).toInt ∧ (v2).toInt < 60) (c0_ : v3.toInt < v300.toInt) (c1_ : v2.toInt < (60 : Int32).toInt) : ∃ h', ysm h_ h' ∧ (((bpat h' a1003 (v2).toInt.toNat = some (.int v320)) ∧ (∀ a_ j_ : Nat, ¬ (a_ = a1003 ∧ j_ = (v2).toInt.toNat) → bpat h' a_ j_ = bpat h_ a_ j_) ∧ (bldD 60 59 4 [(3, .int v3), (4, .int v904), (2, .int v2), (0, .index a1000), (1, .index a1004)] [] h_ 4 [(3, .int (v3 + (1 : Int32))), (2, .int (v2 + (1 : Int32))), (4, .int (10000 : Int32)), (0, .index a1000), (1, .index a1004)] [] h'))) := by
  have hA : yas wxV0_v2_A (wxV0_v2_r v2 v3 v300 v320 v904) (yg (wxV0_v2_s a1000 a1001 a1002 a1003 a1004)) := ⟨List.forall_mem_cons.mpr ⟨b0, List.forall_mem_cons.mpr ⟨b1, fun q_ hq => absurd hq List.not_mem_nil⟩⟩, fun q_ hq => absurd hq List.not_mem_nil, fun q_ hq => absurd hq List.not_mem_nil, fun n_ hn => yg_lo hn, fun q_ hq => absurd hq List.not_mem_nil⟩
  have Hs : ysh wxV0_v2_A.1 (yg (wxV0_v2_s a1000 a1001 a1002 a1003 a1004)) h_ := ysh_of2 hs (List.forall_mem_cons.mpr ⟨⟨by decide, k1000⟩, List.forall_mem_cons.mpr ⟨⟨by decide, k1001⟩, List.forall_mem_cons.mpr ⟨⟨by decide, k1002⟩, List.forall_mem_cons.mpr ⟨⟨by decide, k1003⟩, List.forall_mem_cons.mpr ⟨⟨by decide, k1004⟩, fun q_ hq => absurd hq List.not_mem_nil⟩⟩⟩⟩⟩)
  have Ho : ymem (wxV0_v2_r v2 v3 v300 v320 v904) (yg (wxV0_v2_s a1000 a1001 a1002 a1003 a1004)) wxV0_v2_O h_ := List.forall_mem_cons.mpr ⟨bpat_some o0_, List.forall_mem_cons.mpr ⟨bpat_some o1, List.forall_mem_cons.mpr ⟨bpat_some o2, List.forall_mem_cons.mpr ⟨bpat_some o3_, List.forall_mem_cons.mpr ⟨bpat_some o4_, List.forall_mem_cons.mpr ⟨bpat_some o5_, fun q_ hq => absurd hq List.not_mem_nil⟩⟩⟩⟩⟩⟩
  have HC : ∀ q_ ∈ wxV0_v2_C, xhold (wxV0_v2_r v2 v3 v300 v320 v904) q_ := List.forall_mem_cons.mpr ⟨xh_ltT c0_, List.forall_mem_cons.mpr ⟨xh_ltT c1_, fun q_ hq => absurd hq List.not_mem_nil⟩⟩
  rcases yrun (yis_ok wxV0_v2_k) hA Hs Ho HC with ⟨q_, hq, h', K_, G_⟩ | ⟨q_, hq, h', K_, G_⟩
  · have e_ := List.mem_singleton.mp hq
    subst e_
    exact ⟨h', yfr_sm K_.2.2.2 hs K_.1 (ywa_s wxV0_v2_w List.mem_cons_self), ⟨bpat_of (K_.2.1 _ List.mem_cons_self), fun a_ j_ n0_ => yfr_bp K_.2.2.2 (List.forall_mem_cons.mpr ⟨fun e_ => n0_ ⟨e_.1.symm, e_.2.symm⟩, fun q_ hq => absurd hq List.not_mem_nil⟩), G_⟩⟩
  · cases hq
theorem wxV0 {h_ : xH} {a1000 a1001 a1002 a1003 a1004 : Nat} {v2 v3 v300 v320 : Int32} {lo_ : xL} (hs : sHp h_) (k1000 : bcq h_ a1000 9 2) (k1001 : bcq h_ a1001 6 2) (k1002 : bcq h_ a1002 20 60) (k1003 : bcq h_ a1003 20 60) (k1004 : bcq h_ a1004 20 4) (o0_ : bpat h_ a1000 0 = some (.index a1001)) (o1 : bpat h_ a1001 1 = some (.int v300)) (o2 : bpat h_ a1001 0 = some (.index a1002)) (o3_ : bpat h_ a1002 (v3).toInt.toNat = some (.int (10000 : Int32))) (o4_ : bpat h_ a1000 1 = some (.index a1003)) (o5_ : bpat h_ a1004 0 = some (.int v320)) (b0 : 0 ≤ (v3).toInt ∧ (v3).toInt < 60) (b1 : 0 ≤ (v2).toInt ∧ (v2).toInt < 60) (c0_ : v3.toInt < v300.toInt) (c1_ : v2.toInt < (60 : Int32).toInt) (H_ : wxN_hd a1000 a1004 v2 v3 lo_) : ∃ h', ysm h_ h' ∧ (((bpat h' a1003 (v2).toInt.toNat = some (.int v320)) ∧ (∀ a_ j_ : Nat, ¬ (a_ = a1003 ∧ j_ = (v2).toInt.toNat) → bpat h' a_ j_ = bpat h_ a_ j_) ∧ (∃ lo', wxN_hd a1000 a1004 (v2 + (1 : Int32)) (v3 + (1 : Int32)) lo' ∧ bldD 60 59 4 lo_ [] h_ 4 lo' [] h'))) := by
  rcases H_ with rfl | ⟨y4, rfl⟩ | ⟨y4, rfl⟩
  · obtain ⟨h', m_, e_⟩ := wxV0_v0 hs k1000 k1001 k1002 k1003 k1004 o0_ o1 o2 o3_ o4_ o5_ b0 b1 c0_ c1_
    refine ⟨h', m_, ?_⟩
    obtain ⟨g0, g1, g2⟩ := e_
    exact ⟨g0, g1, ⟨_, Or.inr (Or.inl (⟨_, rfl⟩)), g2⟩⟩
  · obtain ⟨h', m_, e_⟩ := wxV0_v1 hs k1000 k1001 k1002 k1003 k1004 o0_ o1 o2 o3_ o4_ o5_ b0 b1 c0_ c1_
    refine ⟨h', m_, ?_⟩
    obtain ⟨g0, g1, g2⟩ := e_
    exact ⟨g0, g1, ⟨_, Or.inr (Or.inl (⟨_, rfl⟩)), g2⟩⟩
  · obtain ⟨h', m_, e_⟩ := wxV0_v2 hs k1000 k1001 k1002 k1003 k1004 o0_ o1 o2 o3_ o4_ o5_ b0 b1 c0_ c1_
    refine ⟨h', m_, ?_⟩
    obtain ⟨g0, g1, g2⟩ := e_
    exact ⟨g0, g1, ⟨_, Or.inr (Or.inl (⟨_, rfl⟩)), g2⟩⟩
-- wxV1_v0: 44 steps, 1 ends, 0 returns
def wxV1_v0_L : List (Nat × Nat × Nat) := [(1000, 9, 2), (1001, 6, 2), (1002, 20, 60), (1003, 20, 60), (1004, 20, 4)]
def wxV1_v0_O : yO := [(1000, .int 0, .index 1001), (1001, .int 1, .arg 300), (1001, .int 0, .index 1002), (1002, .arg 3, .int 10001), (1000, .int 1, .index 1003), (1004, .int 1, .arg 321)]
def wxV1_v0_A : yA := (yZ wxV1_v0_L, [(.arg 3, 60), (.arg 2, 60)], [], [], [])
def wxV1_v0_C : List xB := [(.lt, .arg 3, .arg 300, true), (.lt, .arg 2, .int 60, true)]
def wxV1_v0_ss : List yS := [(4, [(3, .add (.arg 3) (.int 1)), (2, .add (.arg 2) (.int 1)), (4, .int 10001), (0, .index 1000), (1, .index 1004)], [], [(1003, .arg 2, .arg 321), (1000, .int 0, .index 1001), (1001, .int 1, .arg 300), (1001, .int 0, .index 1002), (1000, .int 1, .index 1003)], [(.lt, .arg 3, .arg 300, true), (.lt, .arg 2, .int 60, true)], [(1003, .arg 2)])]
def wxV1_v0_rs : List yR := []
theorem wxV1_v0_w : ywa wxV1_v0_A wxV1_v0_ss wxV1_v0_rs = true := by decide +kernel
theorem wxV1_v0_k : yis (yev wxV1_v0_A 3000 60 59 [4] (4, [(3, .arg 3), (2, .arg 2), (0, .index 1000), (1, .index 1004)], [], wxV1_v0_O, wxV1_v0_C, [])) wxV1_v0_ss wxV1_v0_rs = true := by decide +kernel
def wxV1_v0_r (v2 v3 v300 v321 : Int32) (k_ : Nat) : Value := bif Nat.beq k_ 2 then .int v2 else (bif Nat.beq k_ 3 then .int v3 else (bif Nat.beq k_ 300 then .int v300 else (bif Nat.beq k_ 321 then .int v321 else (.int 0))))
def wxV1_v0_s (a1000 a1001 a1002 a1003 a1004 : Nat) (n_ : Nat) : Nat := bif Nat.beq n_ 1000 then a1000 else (bif Nat.beq n_ 1001 then a1001 else (bif Nat.beq n_ 1002 then a1002 else (bif Nat.beq n_ 1003 then a1003 else (bif Nat.beq n_ 1004 then a1004 else (0)))))
theorem wxV1_v0 {h_ : xH} {a1000 a1001 a1002 a1003 a1004 : Nat} {v2 v3 v300 v321 : Int32} (hs : sHp h_) (k1000 : bcq h_ a1000 9 2) (k1001 : bcq h_ a1001 6 2) (k1002 : bcq h_ a1002 20 60) (k1003 : bcq h_ a1003 20 60) (k1004 : bcq h_ a1004 20 4) (o0_ : bpat h_ a1000 0 = some (.index a1001)) (o1 : bpat h_ a1001 1 = some (.int v300)) (o2 : bpat h_ a1001 0 = some (.index a1002)) (o3_ : bpat h_ a1002 (v3).toInt.toNat = some (.int (10001 : Int32))) (o4_ : bpat h_ a1000 1 = some (.index a1003)) (o5_ : bpat h_ a1004 1 = some (.int v321)) (b0 : 0 ≤ (v3).toInt ∧ (v3).toInt < 60) (b1 : 0 ≤ (v2).toInt ∧ (v2).toInt < 60) (c0_ : v3.toInt < v300.toInt) (c1_ : v2.toInt < (60 : Int32).toInt) : ∃ h', ysm h_ h' ∧ (((bpat h' a1003 (v2).toInt.toNat = some (.int v321)) ∧ (∀ a_ j_ : Nat, ¬ (a_ = a1003 ∧ j_ = (v2).toInt.toNat) → bpat h' a_ j_ = bpat h_ a_ j_) ∧ (bldD 60 59 4 [(3, .int v3), (2, .int v2), (0, .index a1000), (1, .index a1004)] [] h_ 4 [(3, .int (v3 + (1 : Int32))), (2, .int (v2 + (1 : Int32))), (4, .int (10001 : Int32)), (0, .index a1000), (1, .index a1004)] [] h'))) := by
  have hA : yas wxV1_v0_A (wxV1_v0_r v2 v3 v300 v321) (yg (wxV1_v0_s a1000 a1001 a1002 a1003 a1004)) := ⟨List.forall_mem_cons.mpr ⟨b0, List.forall_mem_cons.mpr ⟨b1, fun q_ hq => absurd hq List.not_mem_nil⟩⟩, fun q_ hq => absurd hq List.not_mem_nil, fun q_ hq => absurd hq List.not_mem_nil, fun n_ hn => yg_lo hn, fun q_ hq => absurd hq List.not_mem_nil⟩
  have Hs : ysh wxV1_v0_A.1 (yg (wxV1_v0_s a1000 a1001 a1002 a1003 a1004)) h_ := ysh_of2 hs (List.forall_mem_cons.mpr ⟨⟨by decide, k1000⟩, List.forall_mem_cons.mpr ⟨⟨by decide, k1001⟩, List.forall_mem_cons.mpr ⟨⟨by decide, k1002⟩, List.forall_mem_cons.mpr ⟨⟨by decide, k1003⟩, List.forall_mem_cons.mpr ⟨⟨by decide, k1004⟩, fun q_ hq => absurd hq List.not_mem_nil⟩⟩⟩⟩⟩)
  have Ho : ymem (wxV1_v0_r v2 v3 v300 v321) (yg (wxV1_v0_s a1000 a1001 a1002 a1003 a1004)) wxV1_v0_O h_ := List.forall_mem_cons.mpr ⟨bpat_some o0_, List.forall_mem_cons.mpr ⟨bpat_some o1, List.forall_mem_cons.mpr ⟨bpat_some o2, List.forall_mem_cons.mpr ⟨bpat_some o3_, List.forall_mem_cons.mpr ⟨bpat_some o4_, List.forall_mem_cons.mpr ⟨bpat_some o5_, fun q_ hq => absurd hq List.not_mem_nil⟩⟩⟩⟩⟩⟩
  have HC : ∀ q_ ∈ wxV1_v0_C, xhold (wxV1_v0_r v2 v3 v300 v321) q_ := List.forall_mem_cons.mpr ⟨xh_ltT c0_, List.forall_mem_cons.mpr ⟨xh_ltT c1_, fun q_ hq => absurd hq List.not_mem_nil⟩⟩
  rcases yrun (yis_ok wxV1_v0_k) hA Hs Ho HC with ⟨q_, hq, h', K_, G_⟩ | ⟨q_, hq, h', K_, G_⟩
  · have e_ := List.mem_singleton.mp hq
    subst e_
    exact ⟨h', yfr_sm K_.2.2.2 hs K_.1 (ywa_s wxV1_v0_w List.mem_cons_self), ⟨bpat_of (K_.2.1 _ List.mem_cons_self), fun a_ j_ n0_ => yfr_bp K_.2.2.2 (List.forall_mem_cons.mpr ⟨fun e_ => n0_ ⟨e_.1.symm, e_.2.symm⟩, fun q_ hq => absurd hq List.not_mem_nil⟩), G_⟩⟩
  · cases hq
-- wxV1_v1: 44 steps, 1 ends, 0 returns
def wxV1_v1_L : List (Nat × Nat × Nat) := [(1000, 9, 2), (1001, 6, 2), (1002, 20, 60), (1003, 20, 60), (1004, 20, 4)]
def wxV1_v1_O : yO := [(1000, .int 0, .index 1001), (1001, .int 1, .arg 300), (1001, .int 0, .index 1002), (1002, .arg 3, .int 10001), (1000, .int 1, .index 1003), (1004, .int 1, .arg 321)]
def wxV1_v1_A : yA := (yZ wxV1_v1_L, [(.arg 3, 60), (.arg 2, 60)], [], [], [])
def wxV1_v1_C : List xB := [(.lt, .arg 3, .arg 300, true), (.lt, .arg 2, .int 60, true)]
def wxV1_v1_ss : List yS := [(4, [(3, .add (.arg 3) (.int 1)), (2, .add (.arg 2) (.int 1)), (4, .int 10001), (0, .index 1000), (1, .index 1004)], [], [(1003, .arg 2, .arg 321), (1000, .int 0, .index 1001), (1001, .int 1, .arg 300), (1001, .int 0, .index 1002), (1000, .int 1, .index 1003)], [(.lt, .arg 3, .arg 300, true), (.lt, .arg 2, .int 60, true)], [(1003, .arg 2)])]
def wxV1_v1_rs : List yR := []
theorem wxV1_v1_w : ywa wxV1_v1_A wxV1_v1_ss wxV1_v1_rs = true := by decide +kernel
theorem wxV1_v1_k : yis (yev wxV1_v1_A 3000 60 59 [4] (4, [(3, .arg 3), (2, .arg 2), (4, .arg 904), (0, .index 1000), (1, .index 1004)], [], wxV1_v1_O, wxV1_v1_C, [])) wxV1_v1_ss wxV1_v1_rs = true := by decide +kernel
def wxV1_v1_r (v2 v3 v300 v321 v904 : Int32) (k_ : Nat) : Value := bif Nat.beq k_ 2 then .int v2 else (bif Nat.beq k_ 3 then .int v3 else (bif Nat.beq k_ 300 then .int v300 else (bif Nat.beq k_ 321 then .int v321 else (bif Nat.beq k_ 904 then .int v904 else (.int 0)))))
def wxV1_v1_s (a1000 a1001 a1002 a1003 a1004 : Nat) (n_ : Nat) : Nat := bif Nat.beq n_ 1000 then a1000 else (bif Nat.beq n_ 1001 then a1001 else (bif Nat.beq n_ 1002 then a1002 else (bif Nat.beq n_ 1003 then a1003 else (bif Nat.beq n_ 1004 then a1004 else (0)))))
theorem wxV1_v1 {h_ : xH} {a1000 a1001 a1002 a1003 a1004 : Nat} {v2 v3 v300 v321 v904 : Int32} (hs : sHp h_) (k1000 : bcq h_ a1000 9 2) (k1001 : bcq h_ a1001 6 2) (k1002 : bcq h_ a1002 20 60) (k1003 : bcq h_ a1003 20 60) (k1004 : bcq h_ a1004 20 4) (o0_ : bpat h_ a1000 0 = some (.index a1001)) (o1 : bpat h_ a1001 1 = some (.int v300)) (o2 : bpat h_ a1001 0 = some (.index a1002)) (o3_ : bpat h_ a1002 (v3).toInt.toNat = some (.int (10001 : Int32))) (o4_ : bpat h_ a1000 1 = some (.index a1003)) (o5_ : bpat h_ a1004 1 = some (.int v321)) (b0 : 0 ≤ (v3).toInt ∧ (v3).toInt < 60) (b1 : 0 ≤ (v2).toInt ∧ (v2).toInt < 60) (c0_ : v3.toInt < v300.toInt) (c1_ : v2.toInt < (60 : Int32).toInt) : ∃ h', ysm h_ h' ∧ (((bpat h' a1003 (v2).toInt.toNat = some (.int v321)) ∧ (∀ a_ j_ : Nat, ¬ (a_ = a1003 ∧ j_ = (v2).toInt.toNat) → bpat h' a_ j_ = bpat h_ a_ j_) ∧ (bldD 60 59 4 [(3, .int v3), (2, .int v2), (4, .int v904), (0, .index a1000), (1, .index a1004)] [] h_ 4 [(3, .int (v3 + (1 : Int32))), (2, .int (v2 + (1 : Int32))), (4, .int (10001 : Int32)), (0, .index a1000), (1, .index a1004)] [] h'))) := by
  have hA : yas wxV1_v1_A (wxV1_v1_r v2 v3 v300 v321 v904) (yg (wxV1_v1_s a1000 a1001 a1002 a1003 a1004)) := ⟨List.forall_mem_cons.mpr ⟨b0, List.forall_mem_cons.mpr ⟨b1, fun q_ hq => absurd hq List.not_mem_nil⟩⟩, fun q_ hq => absurd hq List.not_mem_nil, fun q_ hq => absurd hq List.not_mem_nil, fun n_ hn => yg_lo hn, fun q_ hq => absurd hq List.not_mem_nil⟩
  have Hs : ysh wxV1_v1_A.1 (yg (wxV1_v1_s a1000 a1001 a1002 a1003 a1004)) h_ := ysh_of2 hs (List.forall_mem_cons.mpr ⟨⟨by decide, k1000⟩, List.forall_mem_cons.mpr ⟨⟨by decide, k1001⟩, List.forall_mem_cons.mpr ⟨⟨by decide, k1002⟩, List.forall_mem_cons.mpr ⟨⟨by decide, k1003⟩, List.forall_mem_cons.mpr ⟨⟨by decide, k1004⟩, fun q_ hq => absurd hq List.not_mem_nil⟩⟩⟩⟩⟩)
  have Ho : ymem (wxV1_v1_r v2 v3 v300 v321 v904) (yg (wxV1_v1_s a1000 a1001 a1002 a1003 a1004)) wxV1_v1_O h_ := List.forall_mem_cons.mpr ⟨bpat_some o0_, List.forall_mem_cons.mpr ⟨bpat_some o1, List.forall_mem_cons.mpr ⟨bpat_some o2, List.forall_mem_cons.mpr ⟨bpat_some o3_, List.forall_mem_cons.mpr ⟨bpat_some o4_, List.forall_mem_cons.mpr ⟨bpat_some o5_, fun q_ hq => absurd hq List.not_mem_nil⟩⟩⟩⟩⟩⟩
  have HC : ∀ q_ ∈ wxV1_v1_C, xhold (wxV1_v1_r v2 v3 v300 v321 v904) q_ := List.forall_mem_cons.mpr ⟨xh_ltT c0_, List.forall_mem_cons.mpr ⟨xh_ltT c1_, fun q_ hq => absurd hq List.not_mem_nil⟩⟩
  rcases yrun (yis_ok wxV1_v1_k) hA Hs Ho HC with ⟨q_, hq, h', K_, G_⟩ | ⟨q_, hq, h', K_, G_⟩
  · have e_ := List.mem_singleton.mp hq
    subst e_
    exact ⟨h', yfr_sm K_.2.2.2 hs K_.1 (ywa_s wxV1_v1_w List.mem_cons_self), ⟨bpat_of (K_.2.1 _ List.mem_cons_self), fun a_ j_ n0_ => yfr_bp K_.2.2.2 (List.forall_mem_cons.mpr ⟨fun e_ => n0_ ⟨e_.1.symm, e_.2.symm⟩, fun q_ hq => absurd hq List.not_mem_nil⟩), G_⟩⟩
  · cases hq
-- wxV1_v2: 44 steps, 1 ends, 0 returns
def wxV1_v2_L : List (Nat × Nat × Nat) := [(1000, 9, 2), (1001, 6, 2), (1002, 20, 60), (1003, 20, 60), (1004, 20, 4)]
def wxV1_v2_O : yO := [(1000, .int 0, .index 1001), (1001, .int 1, .arg 300), (1001, .int 0, .index 1002), (1002, .arg 3, .int 10001), (1000, .int 1, .index 1003), (1004, .int 1, .arg 321)]
def wxV1_v2_A : yA := (yZ wxV1_v2_L, [(.arg 3, 60), (.arg 2, 60)], [], [], [])
def wxV1_v2_C : List xB := [(.lt, .arg 3, .arg 300, true), (.lt, .arg 2, .int 60, true)]
def wxV1_v2_ss : List yS := [(4, [(3, .add (.arg 3) (.int 1)), (2, .add (.arg 2) (.int 1)), (4, .int 10001), (0, .index 1000), (1, .index 1004)], [], [(1003, .arg 2, .arg 321), (1000, .int 0, .index 1001), (1001, .int 1, .arg 300), (1001, .int 0, .index 1002), (1000, .int 1, .index 1003)], [(.lt, .arg 3, .arg 300, true), (.lt, .arg 2, .int 60, true)], [(1003, .arg 2)])]
def wxV1_v2_rs : List yR := []
theorem wxV1_v2_w : ywa wxV1_v2_A wxV1_v2_ss wxV1_v2_rs = true := by decide +kernel
theorem wxV1_v2_k : yis (yev wxV1_v2_A 3000 60 59 [4] (4, [(3, .arg 3), (4, .arg 904), (2, .arg 2), (0, .index 1000), (1, .index 1004)], [], wxV1_v2_O, wxV1_v2_C, [])) wxV1_v2_ss wxV1_v2_rs = true := by decide +kernel
def wxV1_v2_r (v2 v3 v300 v321 v904 : Int32) (k_ : Nat) : Value := bif Nat.beq k_ 2 then .int v2 else (bif Nat.beq k_ 3 then .int v3 else (bif Nat.beq k_ 300 then .int v300 else (bif Nat.beq k_ 321 then .int v321 else (bif Nat.beq k_ 904 then .int v904 else (.int 0)))))
def wxV1_v2_s (a1000 a1001 a1002 a1003 a1004 : Nat) (n_ : Nat) : Nat := bif Nat.beq n_ 1000 then a1000 else (bif Nat.beq n_ 1001 then a1001 else (bif Nat.beq n_ 1002 then a1002 else (bif Nat.beq n_ 1003 then a1003 else (bif Nat.beq n_ 1004 then a1004 else (0)))))
theorem wxV1_v2 {h_ : xH} {a1000 a1001 a1002 a1003 a1004 : Nat} {v2 v3 v300 v321 v904 : Int32} (hs : sHp h_) (k1000 : bcq h_ a1000 9 2) (k1001 : bcq h_ a1001 6 2) (k1002 : bcq h_ a1002 20 60) (k1003 : bcq h_ a1003 20 60) (k1004 : bcq h_ a1004 20 4) (o0_ : bpat h_ a1000 0 = some (.index a1001)) (o1 : bpat h_ a1001 1 = some (.int v300)) (o2 : bpat h_ a1001 0 = some (.index a1002)) (o3_ : bpat h_ a1002 (v3).toInt.toNat = some (.int (10001 : Int32))) (o4_ : bpat h_ a1000 1 = some (.index a1003)) (o5_ : bpat h_ a1004 1 = some (.int v321)) (b0 : 0 ≤ (v3).toInt ∧ (v3).toInt < 60) (b1 : 0 ≤ (v2).toInt ∧ (v2).toInt < 60) (c0_ : v3.toInt < v300.toInt) (c1_ : v2.toInt < (60 : Int32).toInt) : ∃ h', ysm h_ h' ∧ (((bpat h' a1003 (v2).toInt.toNat = some (.int v321)) ∧ (∀ a_ j_ : Nat, ¬ (a_ = a1003 ∧ j_ = (v2).toInt.toNat) → bpat h' a_ j_ = bpat h_ a_ j_) ∧ (bldD 60 59 4 [(3, .int v3), (4, .int v904), (2, .int v2), (0, .index a1000), (1, .index a1004)] [] h_ 4 [(3, .int (v3 + (1 : Int32))), (2, .int (v2 + (1 : Int32))), (4, .int (10001 : Int32)), (0, .index a1000), (1, .index a1004)] [] h'))) := by
  have hA : yas wxV1_v2_A (wxV1_v2_r v2 v3 v300 v321 v904) (yg (wxV1_v2_s a1000 a1001 a1002 a1003 a1004)) := ⟨List.forall_mem_cons.mpr ⟨b0, List.forall_mem_cons.mpr ⟨b1, fun q_ hq => absurd hq List.not_mem_nil⟩⟩, fun q_ hq => absurd hq List.not_mem_nil, fun q_ hq => absurd hq List.not_mem_nil, fun n_ hn => yg_lo hn, fun q_ hq => absurd hq List.not_mem_nil⟩
  have Hs : ysh wxV1_v2_A.1 (yg (wxV1_v2_s a1000 a1001 a1002 a1003 a1004)) h_ := ysh_of2 hs (List.forall_mem_cons.mpr ⟨⟨by decide, k1000⟩, List.forall_mem_cons.mpr ⟨⟨by decide, k1001⟩, List.forall_mem_cons.mpr ⟨⟨by decide, k1002⟩, List.forall_mem_cons.mpr ⟨⟨by decide, k1003⟩, List.forall_mem_cons.mpr ⟨⟨by decide, k1004⟩, fun q_ hq => absurd hq List.not_mem_nil⟩⟩⟩⟩⟩)
  have Ho : ymem (wxV1_v2_r v2 v3 v300 v321 v904) (yg (wxV1_v2_s a1000 a1001 a1002 a1003 a1004)) wxV1_v2_O h_ := List.forall_mem_cons.mpr ⟨bpat_some o0_, List.forall_mem_cons.mpr ⟨bpat_some o1, List.forall_mem_cons.mpr ⟨bpat_some o2, List.forall_mem_cons.mpr ⟨bpat_some o3_, List.forall_mem_cons.mpr ⟨bpat_some o4_, List.forall_mem_cons.mpr ⟨bpat_some o5_, fun q_ hq => absurd hq List.not_mem_nil⟩⟩⟩⟩⟩⟩
  have HC : ∀ q_ ∈ wxV1_v2_C, xhold (wxV1_v2_r v2 v3 v300 v321 v904) q_ := List.forall_mem_cons.mpr ⟨xh_ltT c0_, List.forall_mem_cons.mpr ⟨xh_ltT c1_, fun q_ hq => absurd hq List.not_mem_nil⟩⟩
  rcases yrun (yis_ok wxV1_v2_k) hA Hs Ho HC with ⟨q_, hq, h', K_, G_⟩ | ⟨q_, hq, h', K_, G_⟩
  · have e_ := List.mem_singleton.mp hq
    subst e_
    exact ⟨h', yfr_sm K_.2.2.2 hs K_.1 (ywa_s wxV1_v2_w List.mem_cons_self), ⟨bpat_of (K_.2.1 _ List.mem_cons_self), fun a_ j_ n0_ => yfr_bp K_.2.2.2 (List.forall_mem_cons.mpr ⟨fun e_ => n0_ ⟨e_.1.symm, e_.2.symm⟩, fun q_ hq => absurd hq List.not_mem_nil⟩), G_⟩⟩
  · cases hq
theorem wxV1 {h_ : xH} {a1000 a1001 a1002 a1003 a1004 : Nat} {v2 v3 v300 v321 : Int32} {lo_ : xL} (hs : sHp h_) (k1000 : bcq h_ a1000 9 2) (k1001 : bcq h_ a1001 6 2) (k1002 : bcq h_ a1002 20 60) (k1003 : bcq h_ a1003 20 60) (k1004 : bcq h_ a1004 20 4) (o0_ : bpat h_ a1000 0 = some (.index a1001)) (o1 : bpat h_ a1001 1 = some (.int v300)) (o2 : bpat h_ a1001 0 = some (.index a1002)) (o3_ : bpat h_ a1002 (v3).toInt.toNat = some (.int (10001 : Int32))) (o4_ : bpat h_ a1000 1 = some (.index a1003)) (o5_ : bpat h_ a1004 1 = some (.int v321)) (b0 : 0 ≤ (v3).toInt ∧ (v3).toInt < 60) (b1 : 0 ≤ (v2).toInt ∧ (v2).toInt < 60) (c0_ : v3.toInt < v300.toInt) (c1_ : v2.toInt < (60 : Int32).toInt) (H_ : wxN_hd a1000 a1004 v2 v3 lo_) : ∃ h', ysm h_ h' ∧ (((bpat h' a1003 (v2).toInt.toNat = some (.int v321)) ∧ (∀ a_ j_ : Nat, ¬ (a_ = a1003 ∧ j_ = (v2).toInt.toNat) → bpat h' a_ j_ = bpat h_ a_ j_) ∧ (∃ lo', wxN_hd a1000 a1004 (v2 + (1 : Int32)) (v3 + (1 : Int32)) lo' ∧ bldD 60 59 4 lo_ [] h_ 4 lo' [] h'))) := by
  rcases H_ with rfl | ⟨y4, rfl⟩ | ⟨y4, rfl⟩
  · obtain ⟨h', m_, e_⟩ := wxV1_v0 hs k1000 k1001 k1002 k1003 k1004 o0_ o1 o2 o3_ o4_ o5_ b0 b1 c0_ c1_
    refine ⟨h', m_, ?_⟩
    obtain ⟨g0, g1, g2⟩ := e_
    exact ⟨g0, g1, ⟨_, Or.inr (Or.inl (⟨_, rfl⟩)), g2⟩⟩
  · obtain ⟨h', m_, e_⟩ := wxV1_v1 hs k1000 k1001 k1002 k1003 k1004 o0_ o1 o2 o3_ o4_ o5_ b0 b1 c0_ c1_
    refine ⟨h', m_, ?_⟩
    obtain ⟨g0, g1, g2⟩ := e_
    exact ⟨g0, g1, ⟨_, Or.inr (Or.inl (⟨_, rfl⟩)), g2⟩⟩
  · obtain ⟨h', m_, e_⟩ := wxV1_v2 hs k1000 k1001 k1002 k1003 k1004 o0_ o1 o2 o3_ o4_ o5_ b0 b1 c0_ c1_
    refine ⟨h', m_, ?_⟩
    obtain ⟨g0, g1, g2⟩ := e_
    exact ⟨g0, g1, ⟨_, Or.inr (Or.inl (⟨_, rfl⟩)), g2⟩⟩
-- wxV2_v0: 44 steps, 1 ends, 0 returns
def wxV2_v0_L : List (Nat × Nat × Nat) := [(1000, 9, 2), (1001, 6, 2), (1002, 20, 60), (1003, 20, 60), (1004, 20, 4)]
def wxV2_v0_O : yO := [(1000, .int 0, .index 1001), (1001, .int 1, .arg 300), (1001, .int 0, .index 1002), (1002, .arg 3, .int 10002), (1000, .int 1, .index 1003), (1004, .int 2, .arg 322)]
def wxV2_v0_A : yA := (yZ wxV2_v0_L, [(.arg 3, 60), (.arg 2, 60)], [], [], [])
def wxV2_v0_C : List xB := [(.lt, .arg 3, .arg 300, true), (.lt, .arg 2, .int 60, true)]
def wxV2_v0_ss : List yS := [(4, [(3, .add (.arg 3) (.int 1)), (2, .add (.arg 2) (.int 1)), (4, .int 10002), (0, .index 1000), (1, .index 1004)], [], [(1003, .arg 2, .arg 322), (1000, .int 0, .index 1001), (1001, .int 1, .arg 300), (1001, .int 0, .index 1002), (1000, .int 1, .index 1003)], [(.lt, .arg 3, .arg 300, true), (.lt, .arg 2, .int 60, true)], [(1003, .arg 2)])]
def wxV2_v0_rs : List yR := []
theorem wxV2_v0_w : ywa wxV2_v0_A wxV2_v0_ss wxV2_v0_rs = true := by decide +kernel
theorem wxV2_v0_k : yis (yev wxV2_v0_A 3000 60 59 [4] (4, [(3, .arg 3), (2, .arg 2), (0, .index 1000), (1, .index 1004)], [], wxV2_v0_O, wxV2_v0_C, [])) wxV2_v0_ss wxV2_v0_rs = true := by decide +kernel
def wxV2_v0_r (v2 v3 v300 v322 : Int32) (k_ : Nat) : Value := bif Nat.beq k_ 2 then .int v2 else (bif Nat.beq k_ 3 then .int v3 else (bif Nat.beq k_ 300 then .int v300 else (bif Nat.beq k_ 322 then .int v322 else (.int 0))))
def wxV2_v0_s (a1000 a1001 a1002 a1003 a1004 : Nat) (n_ : Nat) : Nat := bif Nat.beq n_ 1000 then a1000 else (bif Nat.beq n_ 1001 then a1001 else (bif Nat.beq n_ 1002 then a1002 else (bif Nat.beq n_ 1003 then a1003 else (bif Nat.beq n_ 1004 then a1004 else (0)))))
theorem wxV2_v0 {h_ : xH} {a1000 a1001 a1002 a1003 a1004 : Nat} {v2 v3 v300 v322 : Int32} (hs : sHp h_) (k1000 : bcq h_ a1000 9 2) (k1001 : bcq h_ a1001 6 2) (k1002 : bcq h_ a1002 20 60) (k1003 : bcq h_ a1003 20 60) (k1004 : bcq h_ a1004 20 4) (o0_ : bpat h_ a1000 0 = some (.index a1001)) (o1 : bpat h_ a1001 1 = some (.int v300)) (o2 : bpat h_ a1001 0 = some (.index a1002)) (o3_ : bpat h_ a1002 (v3).toInt.toNat = some (.int (10002 : Int32))) (o4_ : bpat h_ a1000 1 = some (.index a1003)) (o5_ : bpat h_ a1004 2 = some (.int v322)) (b0 : 0 ≤ (v3).toInt ∧ (v3).toInt < 60) (b1 : 0 ≤ (v2).toInt ∧ (v2).toInt < 60) (c0_ : v3.toInt < v300.toInt) (c1_ : v2.toInt < (60 : Int32).toInt) : ∃ h', ysm h_ h' ∧ (((bpat h' a1003 (v2).toInt.toNat = some (.int v322)) ∧ (∀ a_ j_ : Nat, ¬ (a_ = a1003 ∧ j_ = (v2).toInt.toNat) → bpat h' a_ j_ = bpat h_ a_ j_) ∧ (bldD 60 59 4 [(3, .int v3), (2, .int v2), (0, .index a1000), (1, .index a1004)] [] h_ 4 [(3, .int (v3 + (1 : Int32))), (2, .int (v2 + (1 : Int32))), (4, .int (10002 : Int32)), (0, .index a1000), (1, .index a1004)] [] h'))) := by
  have hA : yas wxV2_v0_A (wxV2_v0_r v2 v3 v300 v322) (yg (wxV2_v0_s a1000 a1001 a1002 a1003 a1004)) := ⟨List.forall_mem_cons.mpr ⟨b0, List.forall_mem_cons.mpr ⟨b1, fun q_ hq => absurd hq List.not_mem_nil⟩⟩, fun q_ hq => absurd hq List.not_mem_nil, fun q_ hq => absurd hq List.not_mem_nil, fun n_ hn => yg_lo hn, fun q_ hq => absurd hq List.not_mem_nil⟩
  have Hs : ysh wxV2_v0_A.1 (yg (wxV2_v0_s a1000 a1001 a1002 a1003 a1004)) h_ := ysh_of2 hs (List.forall_mem_cons.mpr ⟨⟨by decide, k1000⟩, List.forall_mem_cons.mpr ⟨⟨by decide, k1001⟩, List.forall_mem_cons.mpr ⟨⟨by decide, k1002⟩, List.forall_mem_cons.mpr ⟨⟨by decide, k1003⟩, List.forall_mem_cons.mpr ⟨⟨by decide, k1004⟩, fun q_ hq => absurd hq List.not_mem_nil⟩⟩⟩⟩⟩)
  have Ho : ymem (wxV2_v0_r v2 v3 v300 v322) (yg (wxV2_v0_s a1000 a1001 a1002 a1003 a1004)) wxV2_v0_O h_ := List.forall_mem_cons.mpr ⟨bpat_some o0_, List.forall_mem_cons.mpr ⟨bpat_some o1, List.forall_mem_cons.mpr ⟨bpat_some o2, List.forall_mem_cons.mpr ⟨bpat_some o3_, List.forall_mem_cons.mpr ⟨bpat_some o4_, List.forall_mem_cons.mpr ⟨bpat_some o5_, fun q_ hq => absurd hq List.not_mem_nil⟩⟩⟩⟩⟩⟩
  have HC : ∀ q_ ∈ wxV2_v0_C, xhold (wxV2_v0_r v2 v3 v300 v322) q_ := List.forall_mem_cons.mpr ⟨xh_ltT c0_, List.forall_mem_cons.mpr ⟨xh_ltT c1_, fun q_ hq => absurd hq List.not_mem_nil⟩⟩
  rcases yrun (yis_ok wxV2_v0_k) hA Hs Ho HC with ⟨q_, hq, h', K_, G_⟩ | ⟨q_, hq, h', K_, G_⟩
  · have e_ := List.mem_singleton.mp hq
    subst e_
    exact ⟨h', yfr_sm K_.2.2.2 hs K_.1 (ywa_s wxV2_v0_w List.mem_cons_self), ⟨bpat_of (K_.2.1 _ List.mem_cons_self), fun a_ j_ n0_ => yfr_bp K_.2.2.2 (List.forall_mem_cons.mpr ⟨fun e_ => n0_ ⟨e_.1.symm, e_.2.symm⟩, fun q_ hq => absurd hq List.not_mem_nil⟩), G_⟩⟩
  · cases hq
-- wxV2_v1: 44 steps, 1 ends, 0 returns
def wxV2_v1_L : List (Nat × Nat × Nat) := [(1000, 9, 2), (1001, 6, 2), (1002, 20, 60), (1003, 20, 60), (1004, 20, 4)]
def wxV2_v1_O : yO := [(1000, .int 0, .index 1001), (1001, .int 1, .arg 300), (1001, .int 0, .index 1002), (1002, .arg 3, .int 10002), (1000, .int 1, .index 1003), (1004, .int 2, .arg 322)]
def wxV2_v1_A : yA := (yZ wxV2_v1_L, [(.arg 3, 60), (.arg 2, 60)], [], [], [])
def wxV2_v1_C : List xB := [(.lt, .arg 3, .arg 300, true), (.lt, .arg 2, .int 60, true)]
def wxV2_v1_ss : List yS := [(4, [(3, .add (.arg 3) (.int 1)), (2, .add (.arg 2) (.int 1)), (4, .int 10002), (0, .index 1000), (1, .index 1004)], [], [(1003, .arg 2, .arg 322), (1000, .int 0, .index 1001), (1001, .int 1, .arg 300), (1001, .int 0, .index 1002), (1000, .int 1, .index 1003)], [(.lt, .arg 3, .arg 300, true), (.lt, .arg 2, .int 60, true)], [(1003, .arg 2)])]
def wxV2_v1_rs : List yR := []
theorem wxV2_v1_w : ywa wxV2_v1_A wxV2_v1_ss wxV2_v1_rs = true := by decide +kernel
theorem wxV2_v1_k : yis (yev wxV2_v1_A 3000 60 59 [4] (4, [(3, .arg 3), (2, .arg 2), (4, .arg 904), (0, .index 1000), (1, .index 1004)], [], wxV2_v1_O, wxV2_v1_C, [])) wxV2_v1_ss wxV2_v1_rs = true := by decide +kernel
def wxV2_v1_r (v2 v3 v300 v322 v904 : Int32) (k_ : Nat) : Value := bif Nat.beq k_ 2 then .int v2 else (bif Nat.beq k_ 3 then .int v3 else (bif Nat.beq k_ 300 then .int v300 else (bif Nat.beq k_ 322 then .int v322 else (bif Nat.beq k_ 904 then .int v904 else (.int 0)))))
def wxV2_v1_s (a1000 a1001 a1002 a1003 a1004 : Nat) (n_ : Nat) : Nat := bif Nat.beq n_ 1000 then a1000 else (bif Nat.beq n_ 1001 then a1001 else (bif Nat.beq n_ 1002 then a1002 else (bif Nat.beq n_ 1003 then a1003 else (bif Nat.beq n_ 1004 then a1004 else (0)))))
theorem wxV2_v1 {h_ : xH} {a1000 a1001 a1002 a1003 a1004 : Nat} {v2 v3 v300 v322 v904 : Int32} (hs : sHp h_) (k1000 : bcq h_ a1000 9 2) (k1001 : bcq h_ a1001 6 2) (k1002 : bcq h_ a1002 20 60) (k1003 : bcq h_ a1003 20 60) (k1004 : bcq h_ a1004 20 4) (o0_ : bpat h_ a1000 0 = some (.index a1001)) (o1 : bpat h_ a1001 1 = some (.int v300)) (o2 : bpat h_ a1001 0 = some (.index a1002)) (o3_ : bpat h_ a1002 (v3).toInt.toNat = some (.int (10002 : Int32))) (o4_ : bpat h_ a1000 1 = some (.index a1003)) (o5_ : bpat h_ a1004 2 = some (.int v322)) (b0 : 0 ≤ (v3).toInt ∧ (v3).toInt < 60) (b1 : 0 ≤ (v2).toInt ∧ (v2).toInt < 60) (c0_ : v3.toInt < v300.toInt) (c1_ : v2.toInt < (60 : Int32).toInt) : ∃ h', ysm h_ h' ∧ (((bpat h' a1003 (v2).toInt.toNat = some (.int v322)) ∧ (∀ a_ j_ : Nat, ¬ (a_ = a1003 ∧ j_ = (v2).toInt.toNat) → bpat h' a_ j_ = bpat h_ a_ j_) ∧ (bldD 60 59 4 [(3, .int v3), (2, .int v2), (4, .int v904), (0, .index a1000), (1, .index a1004)] [] h_ 4 [(3, .int (v3 + (1 : Int32))), (2, .int (v2 + (1 : Int32))), (4, .int (10002 : Int32)), (0, .index a1000), (1, .index a1004)] [] h'))) := by
  have hA : yas wxV2_v1_A (wxV2_v1_r v2 v3 v300 v322 v904) (yg (wxV2_v1_s a1000 a1001 a1002 a1003 a1004)) := ⟨List.forall_mem_cons.mpr ⟨b0, List.forall_mem_cons.mpr ⟨b1, fun q_ hq => absurd hq List.not_mem_nil⟩⟩, fun q_ hq => absurd hq List.not_mem_nil, fun q_ hq => absurd hq List.not_mem_nil, fun n_ hn => yg_lo hn, fun q_ hq => absurd hq List.not_mem_nil⟩
  have Hs : ysh wxV2_v1_A.1 (yg (wxV2_v1_s a1000 a1001 a1002 a1003 a1004)) h_ := ysh_of2 hs (List.forall_mem_cons.mpr ⟨⟨by decide, k1000⟩, List.forall_mem_cons.mpr ⟨⟨by decide, k1001⟩, List.forall_mem_cons.mpr ⟨⟨by decide, k1002⟩, List.forall_mem_cons.mpr ⟨⟨by decide, k1003⟩, List.forall_mem_cons.mpr ⟨⟨by decide, k1004⟩, fun q_ hq => absurd hq List.not_mem_nil⟩⟩⟩⟩⟩)
  have Ho : ymem (wxV2_v1_r v2 v3 v300 v322 v904) (yg (wxV2_v1_s a1000 a1001 a1002 a1003 a1004)) wxV2_v1_O h_ := List.forall_mem_cons.mpr ⟨bpat_some o0_, List.forall_mem_cons.mpr ⟨bpat_some o1, List.forall_mem_cons.mpr ⟨bpat_some o2, List.forall_mem_cons.mpr ⟨bpat_some o3_, List.forall_mem_cons.mpr ⟨bpat_some o4_, List.forall_mem_cons.mpr ⟨bpat_some o5_, fun q_ hq => absurd hq List.not_mem_nil⟩⟩⟩⟩⟩⟩
  have HC : ∀ q_ ∈ wxV2_v1_C, xhold (wxV2_v1_r v2 v3 v300 v322 v904) q_ := List.forall_mem_cons.mpr ⟨xh_ltT c0_, List.forall_mem_cons.mpr ⟨xh_ltT c1_, fun q_ hq => absurd hq List.not_mem_nil⟩⟩
  rcases yrun (yis_ok wxV2_v1_k) hA Hs Ho HC with ⟨q_, hq, h', K_, G_⟩ | ⟨q_, hq, h', K_, G_⟩
  · have e_ := List.mem_singleton.mp hq
    subst e_
    exact ⟨h', yfr_sm K_.2.2.2 hs K_.1 (ywa_s wxV2_v1_w List.mem_cons_self), ⟨bpat_of (K_.2.1 _ List.mem_cons_self), fun a_ j_ n0_ => yfr_bp K_.2.2.2 (List.forall_mem_cons.mpr ⟨fun e_ => n0_ ⟨e_.1.symm, e_.2.symm⟩, fun q_ hq => absurd hq List.not_mem_nil⟩), G_⟩⟩
  · cases hq
-- wxV2_v2: 44 steps, 1 ends, 0 returns
def wxV2_v2_L : List (Nat × Nat × Nat) := [(1000, 9, 2), (1001, 6, 2), (1002, 20, 60), (1003, 20, 60), (1004, 20, 4)]
def wxV2_v2_O : yO := [(1000, .int 0, .index 1001), (1001, .int 1, .arg 300), (1001, .int 0, .index 1002), (1002, .arg 3, .int 10002), (1000, .int 1, .index 1003), (1004, .int 2, .arg 322)]
def wxV2_v2_A : yA := (yZ wxV2_v2_L, [(.arg 3, 60), (.arg 2, 60)], [], [], [])
def wxV2_v2_C : List xB := [(.lt, .arg 3, .arg 300, true), (.lt, .arg 2, .int 60, true)]
def wxV2_v2_ss : List yS := [(4, [(3, .add (.arg 3) (.int 1)), (2, .add (.arg 2) (.int 1)), (4, .int 10002), (0, .index 1000), (1, .index 1004)], [], [(1003, .arg 2, .arg 322), (1000, .int 0, .index 1001), (1001, .int 1, .arg 300), (1001, .int 0, .index 1002), (1000, .int 1, .index 1003)], [(.lt, .arg 3, .arg 300, true), (.lt, .arg 2, .int 60, true)], [(1003, .arg 2)])]
def wxV2_v2_rs : List yR := []
theorem wxV2_v2_w : ywa wxV2_v2_A wxV2_v2_ss wxV2_v2_rs = true := by decide +kernel
theorem wxV2_v2_k : yis (yev wxV2_v2_A 3000 60 59 [4] (4, [(3, .arg 3), (4, .arg 904), (2, .arg 2), (0, .index 1000), (1, .index 1004)], [], wxV2_v2_O, wxV2_v2_C, [])) wxV2_v2_ss wxV2_v2_rs = true := by decide +kernel
def wxV2_v2_r (v2 v3 v300 v322 v904 : Int32) (k_ : Nat) : Value := bif Nat.beq k_ 2 then .int v2 else (bif Nat.beq k_ 3 then .int v3 else (bif Nat.beq k_ 300 then .int v300 else (bif Nat.beq k_ 322 then .int v322 else (bif Nat.beq k_ 904 then .int v904 else (.int 0)))))
def wxV2_v2_s (a1000 a1001 a1002 a1003 a1004 : Nat) (n_ : Nat) : Nat := bif Nat.beq n_ 1000 then a1000 else (bif Nat.beq n_ 1001 then a1001 else (bif Nat.beq n_ 1002 then a1002 else (bif Nat.beq n_ 1003 then a1003 else (bif Nat.beq n_ 1004 then a1004 else (0)))))
theorem wxV2_v2 {h_ : xH} {a1000 a1001 a1002 a1003 a1004 : Nat} {v2 v3 v300 v322 v904 : Int32} (hs : sHp h_) (k1000 : bcq h_ a1000 9 2) (k1001 : bcq h_ a1001 6 2) (k1002 : bcq h_ a1002 20 60) (k1003 : bcq h_ a1003 20 60) (k1004 : bcq h_ a1004 20 4) (o0_ : bpat h_ a1000 0 = some (.index a1001)) (o1 : bpat h_ a1001 1 = some (.int v300)) (o2 : bpat h_ a1001 0 = some (.index a1002)) (o3_ : bpat h_ a1002 (v3).toInt.toNat = some (.int (10002 : Int32))) (o4_ : bpat h_ a1000 1 = some (.index a1003)) (o5_ : bpat h_ a1004 2 = some (.int v322)) (b0 : 0 ≤ (v3).toInt ∧ (v3).toInt < 60) (b1 : 0 ≤ (v2).toInt ∧ (v2).toInt < 60) (c0_ : v3.toInt < v300.toInt) (c1_ : v2.toInt < (60 : Int32).toInt) : ∃ h', ysm h_ h' ∧ (((bpat h' a1003 (v2).toInt.toNat = some (.int v322)) ∧ (∀ a_ j_ : Nat, ¬ (a_ = a1003 ∧ j_ = (v2).toInt.toNat) → bpat h' a_ j_ = bpat h_ a_ j_) ∧ (bldD 60 59 4 [(3, .int v3), (4, .int v904), (2, .int v2), (0, .index a1000), (1, .index a1004)] [] h_ 4 [(3, .int (v3 + (1 : Int32))), (2, .int (v2 + (1 : Int32))), (4, .int (10002 : Int32)), (0, .index a1000), (1, .index a1004)] [] h'))) := by
  have hA : yas wxV2_v2_A (wxV2_v2_r v2 v3 v300 v322 v904) (yg (wxV2_v2_s a1000 a1001 a1002 a1003 a1004)) := ⟨List.forall_mem_cons.mpr ⟨b0, List.forall_mem_cons.mpr ⟨b1, fun q_ hq => absurd hq List.not_mem_nil⟩⟩, fun q_ hq => absurd hq List.not_mem_nil, fun q_ hq => absurd hq List.not_mem_nil, fun n_ hn => yg_lo hn, fun q_ hq => absurd hq List.not_mem_nil⟩
  have Hs : ysh wxV2_v2_A.1 (yg (wxV2_v2_s a1000 a1001 a1002 a1003 a1004)) h_ := ysh_of2 hs (List.forall_mem_cons.mpr ⟨⟨by decide, k1000⟩, List.forall_mem_cons.mpr ⟨⟨by decide, k1001⟩, List.forall_mem_cons.mpr ⟨⟨by decide, k1002⟩, List.forall_mem_cons.mpr ⟨⟨by decide, k1003⟩, List.forall_mem_cons.mpr ⟨⟨by decide, k1004⟩, fun q_ hq => absurd hq List.not_mem_nil⟩⟩⟩⟩⟩)
  have Ho : ymem (wxV2_v2_r v2 v3 v300 v322 v904) (yg (wxV2_v2_s a1000 a1001 a1002 a1003 a1004)) wxV2_v2_O h_ := List.forall_mem_cons.mpr ⟨bpat_some o0_, List.forall_mem_cons.mpr ⟨bpat_some o1, List.forall_mem_cons.mpr ⟨bpat_some o2, List.forall_mem_cons.mpr ⟨bpat_some o3_, List.forall_mem_cons.mpr ⟨bpat_some o4_, List.forall_mem_cons.mpr ⟨bpat_some o5_, fun q_ hq => absurd hq List.not_mem_nil⟩⟩⟩⟩⟩⟩
  have HC : ∀ q_ ∈ wxV2_v2_C, xhold (wxV2_v2_r v2 v3 v300 v322 v904) q_ := List.forall_mem_cons.mpr ⟨xh_ltT c0_, List.forall_mem_cons.mpr ⟨xh_ltT c1_, fun q_ hq => absurd hq List.not_mem_nil⟩⟩
  rcases yrun (yis_ok wxV2_v2_k) hA Hs Ho HC with ⟨q_, hq, h', K_, G_⟩ | ⟨q_, hq, h', K_, G_⟩
  · have e_ := List.mem_singleton.mp hq
    subst e_
    exact ⟨h', yfr_sm K_.2.2.2 hs K_.1 (ywa_s wxV2_v2_w List.mem_cons_self), ⟨bpat_of (K_.2.1 _ List.mem_cons_self), fun a_ j_ n0_ => yfr_bp K_.2.2.2 (List.forall_mem_cons.mpr ⟨fun e_ => n0_ ⟨e_.1.symm, e_.2.symm⟩, fun q_ hq => absurd hq List.not_mem_nil⟩), G_⟩⟩
  · cases hq
theorem wxV2 {h_ : xH} {a1000 a1001 a1002 a1003 a1004 : Nat} {v2 v3 v300 v322 : Int32} {lo_ : xL} (hs : sHp h_) (k1000 : bcq h_ a1000 9 2) (k1001 : bcq h_ a1001 6 2) (k1002 : bcq h_ a1002 20 60) (k1003 : bcq h_ a1003 20 60) (k1004 : bcq h_ a1004 20 4) (o0_ : bpat h_ a1000 0 = some (.index a1001)) (o1 : bpat h_ a1001 1 = some (.int v300)) (o2 : bpat h_ a1001 0 = some (.index a1002)) (o3_ : bpat h_ a1002 (v3).toInt.toNat = some (.int (10002 : Int32))) (o4_ : bpat h_ a1000 1 = some (.index a1003)) (o5_ : bpat h_ a1004 2 = some (.int v322)) (b0 : 0 ≤ (v3).toInt ∧ (v3).toInt < 60) (b1 : 0 ≤ (v2).toInt ∧ (v2).toInt < 60) (c0_ : v3.toInt < v300.toInt) (c1_ : v2.toInt < (60 : Int32).toInt) (H_ : wxN_hd a1000 a1004 v2 v3 lo_) : ∃ h', ysm h_ h' ∧ (((bpat h' a1003 (v2).toInt.toNat = some (.int v322)) ∧ (∀ a_ j_ : Nat, ¬ (a_ = a1003 ∧ j_ = (v2).toInt.toNat) → bpat h' a_ j_ = bpat h_ a_ j_) ∧ (∃ lo', wxN_hd a1000 a1004 (v2 + (1 : Int32)) (v3 + (1 : Int32)) lo' ∧ bldD 60 59 4 lo_ [] h_ 4 lo' [] h'))) := by
  rcases H_ with rfl | ⟨y4, rfl⟩ | ⟨y4, rfl⟩
  · obtain ⟨h', m_, e_⟩ := wxV2_v0 hs k1000 k1001 k1002 k1003 k1004 o0_ o1 o2 o3_ o4_ o5_ b0 b1 c0_ c1_
    refine ⟨h', m_, ?_⟩
    obtain ⟨g0, g1, g2⟩ := e_
    exact ⟨g0, g1, ⟨_, Or.inr (Or.inl (⟨_, rfl⟩)), g2⟩⟩
  · obtain ⟨h', m_, e_⟩ := wxV2_v1 hs k1000 k1001 k1002 k1003 k1004 o0_ o1 o2 o3_ o4_ o5_ b0 b1 c0_ c1_
    refine ⟨h', m_, ?_⟩
    obtain ⟨g0, g1, g2⟩ := e_
    exact ⟨g0, g1, ⟨_, Or.inr (Or.inl (⟨_, rfl⟩)), g2⟩⟩
  · obtain ⟨h', m_, e_⟩ := wxV2_v2 hs k1000 k1001 k1002 k1003 k1004 o0_ o1 o2 o3_ o4_ o5_ b0 b1 c0_ c1_
    refine ⟨h', m_, ?_⟩
    obtain ⟨g0, g1, g2⟩ := e_
    exact ⟨g0, g1, ⟨_, Or.inr (Or.inl (⟨_, rfl⟩)), g2⟩⟩
-- wxV3_v0: 44 steps, 1 ends, 0 returns
def wxV3_v0_L : List (Nat × Nat × Nat) := [(1000, 9, 2), (1001, 6, 2), (1002, 20, 60), (1003, 20, 60), (1004, 20, 4)]
def wxV3_v0_O : yO := [(1000, .int 0, .index 1001), (1001, .int 1, .arg 300), (1001, .int 0, .index 1002), (1002, .arg 3, .int 10003), (1000, .int 1, .index 1003), (1004, .int 3, .arg 323)]
def wxV3_v0_A : yA := (yZ wxV3_v0_L, [(.arg 3, 60), (.arg 2, 60)], [], [], [])
def wxV3_v0_C : List xB := [(.lt, .arg 3, .arg 300, true), (.lt, .arg 2, .int 60, true)]
def wxV3_v0_ss : List yS := [(4, [(3, .add (.arg 3) (.int 1)), (2, .add (.arg 2) (.int 1)), (4, .int 10003), (0, .index 1000), (1, .index 1004)], [], [(1003, .arg 2, .arg 323), (1000, .int 0, .index 1001), (1001, .int 1, .arg 300), (1001, .int 0, .index 1002), (1000, .int 1, .index 1003)], [(.lt, .arg 3, .arg 300, true), (.lt, .arg 2, .int 60, true)], [(1003, .arg 2)])]
def wxV3_v0_rs : List yR := []
theorem wxV3_v0_w : ywa wxV3_v0_A wxV3_v0_ss wxV3_v0_rs = true := by decide +kernel
theorem wxV3_v0_k : yis (yev wxV3_v0_A 3000 60 59 [4] (4, [(3, .arg 3), (2, .arg 2), (0, .index 1000), (1, .index 1004)], [], wxV3_v0_O, wxV3_v0_C, [])) wxV3_v0_ss wxV3_v0_rs = true := by decide +kernel
def wxV3_v0_r (v2 v3 v300 v323 : Int32) (k_ : Nat) : Value := bif Nat.beq k_ 2 then .int v2 else (bif Nat.beq k_ 3 then .int v3 else (bif Nat.beq k_ 300 then .int v300 else (bif Nat.beq k_ 323 then .int v323 else (.int 0))))
def wxV3_v0_s (a1000 a1001 a1002 a1003 a1004 : Nat) (n_ : Nat) : Nat := bif Nat.beq n_ 1000 then a1000 else (bif Nat.beq n_ 1001 then a1001 else (bif Nat.beq n_ 1002 then a1002 else (bif Nat.beq n_ 1003 then a1003 else (bif Nat.beq n_ 1004 then a1004 else (0)))))
theorem wxV3_v0 {h_ : xH} {a1000 a1001 a1002 a1003 a1004 : Nat} {v2 v3 v300 v323 : Int32} (hs : sHp h_) (k1000 : bcq h_ a1000 9 2) (k1001 : bcq h_ a1001 6 2) (k1002 : bcq h_ a1002 20 60) (k1003 : bcq h_ a1003 20 60) (k1004 : bcq h_ a1004 20 4) (o0_ : bpat h_ a1000 0 = some (.index a1001)) (o1 : bpat h_ a1001 1 = some (.int v300)) (o2 : bpat h_ a1001 0 = some (.index a1002)) (o3_ : bpat h_ a1002 (v3).toInt.toNat = some (.int (10003 : Int32))) (o4_ : bpat h_ a1000 1 = some (.index a1003)) (o5_ : bpat h_ a1004 3 = some (.int v323)) (b0 : 0 ≤ (v3).toInt ∧ (v3).toInt < 60) (b1 : 0 ≤ (v2).toInt ∧ (v2).toInt < 60) (c0_ : v3.toInt < v300.toInt) (c1_ : v2.toInt < (60 : Int32).toInt) : ∃ h', ysm h_ h' ∧ (((bpat h' a1003 (v2).toInt.toNat = some (.int v323)) ∧ (∀ a_ j_ : Nat, ¬ (a_ = a1003 ∧ j_ = (v2).toInt.toNat) → bpat h' a_ j_ = bpat h_ a_ j_) ∧ (bldD 60 59 4 [(3, .int v3), (2, .int v2), (0, .index a1000), (1, .index a1004)] [] h_ 4 [(3, .int (v3 + (1 : Int32))), (2, .int (v2 + (1 : Int32))), (4, .int (10003 : Int32)), (0, .index a1000), (1, .index a1004)] [] h'))) := by
  have hA : yas wxV3_v0_A (wxV3_v0_r v2 v3 v300 v323) (yg (wxV3_v0_s a1000 a1001 a1002 a1003 a1004)) := ⟨List.forall_mem_cons.mpr ⟨b0, List.forall_mem_cons.mpr ⟨b1, fun q_ hq => absurd hq List.not_mem_nil⟩⟩, fun q_ hq => absurd hq List.not_mem_nil, fun q_ hq => absurd hq List.not_mem_nil, fun n_ hn => yg_lo hn, fun q_ hq => absurd hq List.not_mem_nil⟩
  have Hs : ysh wxV3_v0_A.1 (yg (wxV3_v0_s a1000 a1001 a1002 a1003 a1004)) h_ := ysh_of2 hs (List.forall_mem_cons.mpr ⟨⟨by decide, k1000⟩, List.forall_mem_cons.mpr ⟨⟨by decide, k1001⟩, List.forall_mem_cons.mpr ⟨⟨by decide, k1002⟩, List.forall_mem_cons.mpr ⟨⟨by decide, k1003⟩, List.forall_mem_cons.mpr ⟨⟨by decide, k1004⟩, fun q_ hq => absurd hq List.not_mem_nil⟩⟩⟩⟩⟩)
  have Ho : ymem (wxV3_v0_r v2 v3 v300 v323) (yg (wxV3_v0_s a1000 a1001 a1002 a1003 a1004)) wxV3_v0_O h_ := List.forall_mem_cons.mpr ⟨bpat_some o0_, List.forall_mem_cons.mpr ⟨bpat_some o1, List.forall_mem_cons.mpr ⟨bpat_some o2, List.forall_mem_cons.mpr ⟨bpat_some o3_, List.forall_mem_cons.mpr ⟨bpat_some o4_, List.forall_mem_cons.mpr ⟨bpat_some o5_, fun q_ hq => absurd hq List.not_mem_nil⟩⟩⟩⟩⟩⟩
  have HC : ∀ q_ ∈ wxV3_v0_C, xhold (wxV3_v0_r v2 v3 v300 v323) q_ := List.forall_mem_cons.mpr ⟨xh_ltT c0_, List.forall_mem_cons.mpr ⟨xh_ltT c1_, fun q_ hq => absurd hq List.not_mem_nil⟩⟩
  rcases yrun (yis_ok wxV3_v0_k) hA Hs Ho HC with ⟨q_, hq, h', K_, G_⟩ | ⟨q_, hq, h', K_, G_⟩
  · have e_ := List.mem_singleton.mp hq
    subst e_
    exact ⟨h', yfr_sm K_.2.2.2 hs K_.1 (ywa_s wxV3_v0_w List.mem_cons_self), ⟨bpat_of (K_.2.1 _ List.mem_cons_self), fun a_ j_ n0_ => yfr_bp K_.2.2.2 (List.forall_mem_cons.mpr ⟨fun e_ => n0_ ⟨e_.1.symm, e_.2.symm⟩, fun q_ hq => absurd hq List.not_mem_nil⟩), G_⟩⟩
  · cases hq
-- wxV3_v1: 44 steps, 1 ends, 0 returns
def wxV3_v1_L : List (Nat × Nat × Nat) := [(1000, 9, 2), (1001, 6, 2), (1002, 20, 60), (1003, 20, 60), (1004, 20, 4)]
def wxV3_v1_O : yO := [(1000, .int 0, .index 1001), (1001, .int 1, .arg 300), (1001, .int 0, .index 1002), (1002, .arg 3, .int 10003), (1000, .int 1, .index 1003), (1004, .int 3, .arg 323)]
def wxV3_v1_A : yA := (yZ wxV3_v1_L, [(.arg 3, 60), (.arg 2, 60)], [], [], [])
def wxV3_v1_C : List xB := [(.lt, .arg 3, .arg 300, true), (.lt, .arg 2, .int 60, true)]
def wxV3_v1_ss : List yS := [(4, [(3, .add (.arg 3) (.int 1)), (2, .add (.arg 2) (.int 1)), (4, .int 10003), (0, .index 1000), (1, .index 1004)], [], [(1003, .arg 2, .arg 323), (1000, .int 0, .index 1001), (1001, .int 1, .arg 300), (1001, .int 0, .index 1002), (1000, .int 1, .index 1003)], [(.lt, .arg 3, .arg 300, true), (.lt, .arg 2, .int 60, true)], [(1003, .arg 2)])]
def wxV3_v1_rs : List yR := []
theorem wxV3_v1_w : ywa wxV3_v1_A wxV3_v1_ss wxV3_v1_rs = true := by decide +kernel
theorem wxV3_v1_k : yis (yev wxV3_v1_A 3000 60 59 [4] (4, [(3, .arg 3), (2, .arg 2), (4, .arg 904), (0, .index 1000), (1, .index 1004)], [], wxV3_v1_O, wxV3_v1_C, [])) wxV3_v1_ss wxV3_v1_rs = true := by decide +kernel
def wxV3_v1_r (v2 v3 v300 v323 v904 : Int32) (k_ : Nat) : Value := bif Nat.beq k_ 2 then .int v2 else (bif Nat.beq k_ 3 then .int v3 else (bif Nat.beq k_ 300 then .int v300 else (bif Nat.beq k_ 323 then .int v323 else (bif Nat.beq k_ 904 then .int v904 else (.int 0)))))
def wxV3_v1_s (a1000 a1001 a1002 a1003 a1004 : Nat) (n_ : Nat) : Nat := bif Nat.beq n_ 1000 then a1000 else (bif Nat.beq n_ 1001 then a1001 else (bif Nat.beq n_ 1002 then a1002 else (bif Nat.beq n_ 1003 then a1003 else (bif Nat.beq n_ 1004 then a1004 else (0)))))
theorem wxV3_v1 {h_ : xH} {a1000 a1001 a1002 a1003 a1004 : Nat} {v2 v3 v300 v323 v904 : Int32} (hs : sHp h_) (k1000 : bcq h_ a1000 9 2) (k1001 : bcq h_ a1001 6 2) (k1002 : bcq h_ a1002 20 60) (k1003 : bcq h_ a1003 20 60) (k1004 : bcq h_ a1004 20 4) (o0_ : bpat h_ a1000 0 = some (.index a1001)) (o1 : bpat h_ a1001 1 = some (.int v300)) (o2 : bpat h_ a1001 0 = some (.index a1002)) (o3_ : bpat h_ a1002 (v3).toInt.toNat = some (.int (10003 : Int32))) (o4_ : bpat h_ a1000 1 = some (.index a1003)) (o5_ : bpat h_ a1004 3 = some (.int v323)) (b0 : 0 ≤ (v3).toInt ∧ (v3).toInt < 60) (b1 : 0 ≤ (v2).toInt ∧ (v2).toInt < 60) (c0_ : v3.toInt < v300.toInt) (c1_ : v2.toInt < (60 : Int32).toInt) : ∃ h', ysm h_ h' ∧ (((bpat h' a1003 (v2).toInt.toNat = some (.int v323)) ∧ (∀ a_ j_ : Nat, ¬ (a_ = a1003 ∧ j_ = (v2).toInt.toNat) → bpat h' a_ j_ = bpat h_ a_ j_) ∧ (bldD 60 59 4 [(3, .int v3), (2, .int v2), (4, .int v904), (0, .index a1000), (1, .index a1004)] [] h_ 4 [(3, .int (v3 + (1 : Int32))), (2, .int (v2 + (1 : Int32))), (4, .int (10003 : Int32)), (0, .index a1000), (1, .index a1004)] [] h'))) := by
  have hA : yas wxV3_v1_A (wxV3_v1_r v2 v3 v300 v323 v904) (yg (wxV3_v1_s a1000 a1001 a1002 a1003 a1004)) := ⟨List.forall_mem_cons.mpr ⟨b0, List.forall_mem_cons.mpr ⟨b1, fun q_ hq => absurd hq List.not_mem_nil⟩⟩, fun q_ hq => absurd hq List.not_mem_nil, fun q_ hq => absurd hq List.not_mem_nil, fun n_ hn => yg_lo hn, fun q_ hq => absurd hq List.not_mem_nil⟩
  have Hs : ysh wxV3_v1_A.1 (yg (wxV3_v1_s a1000 a1001 a1002 a1003 a1004)) h_ := ysh_of2 hs (List.forall_mem_cons.mpr ⟨⟨by decide, k1000⟩, List.forall_mem_cons.mpr ⟨⟨by decide, k1001⟩, List.forall_mem_cons.mpr ⟨⟨by decide, k1002⟩, List.forall_mem_cons.mpr ⟨⟨by decide, k1003⟩, List.forall_mem_cons.mpr ⟨⟨by decide, k1004⟩, fun q_ hq => absurd hq List.not_mem_nil⟩⟩⟩⟩⟩)
  have Ho : ymem (wxV3_v1_r v2 v3 v300 v323 v904) (yg (wxV3_v1_s a1000 a1001 a1002 a1003 a1004)) wxV3_v1_O h_ := List.forall_mem_cons.mpr ⟨bpat_some o0_, List.forall_mem_cons.mpr ⟨bpat_some o1, List.forall_mem_cons.mpr ⟨bpat_some o2, List.forall_mem_cons.mpr ⟨bpat_some o3_, List.forall_mem_cons.mpr ⟨bpat_some o4_, List.forall_mem_cons.mpr ⟨bpat_some o5_, fun q_ hq => absurd hq List.not_mem_nil⟩⟩⟩⟩⟩⟩
  have HC : ∀ q_ ∈ wxV3_v1_C, xhold (wxV3_v1_r v2 v3 v300 v323 v904) q_ := List.forall_mem_cons.mpr ⟨xh_ltT c0_, List.forall_mem_cons.mpr ⟨xh_ltT c1_, fun q_ hq => absurd hq List.not_mem_nil⟩⟩
  rcases yrun (yis_ok wxV3_v1_k) hA Hs Ho HC with ⟨q_, hq, h', K_, G_⟩ | ⟨q_, hq, h', K_, G_⟩
  · have e_ := List.mem_singleton.mp hq
    subst e_
    exact ⟨h', yfr_sm K_.2.2.2 hs K_.1 (ywa_s wxV3_v1_w List.mem_cons_self), ⟨bpat_of (K_.2.1 _ List.mem_cons_self), fun a_ j_ n0_ => yfr_bp K_.2.2.2 (List.forall_mem_cons.mpr ⟨fun e_ => n0_ ⟨e_.1.symm, e_.2.symm⟩, fun q_ hq => absurd hq List.not_mem_nil⟩), G_⟩⟩
  · cases hq
-- wxV3_v2: 44 steps, 1 ends, 0 returns
def wxV3_v2_L : List (Nat × Nat × Nat) := [(1000, 9, 2), (1001, 6, 2), (1002, 20, 60), (1003, 20, 60), (1004, 20, 4)]
def wxV3_v2_O : yO := [(1000, .int 0, .index 1001), (1001, .int 1, .arg 300), (1001, .int 0, .index 1002), (1002, .arg 3, .int 10003), (1000, .int 1, .index 1003), (1004, .int 3, .arg 323)]
def wxV3_v2_A : yA := (yZ wxV3_v2_L, [(.arg 3, 60), (.arg 2, 60)], [], [], [])
def wxV3_v2_C : List xB := [(.lt, .arg 3, .arg 300, true), (.lt, .arg 2, .int 60, true)]
def wxV3_v2_ss : List yS := [(4, [(3, .add (.arg 3) (.int 1)), (2, .add (.arg 2) (.int 1)), (4, .int 10003), (0, .index 1000), (1, .index 1004)], [], [(1003, .arg 2, .arg 323), (1000, .int 0, .index 1001), (1001, .int 1, .arg 300), (1001, .int 0, .index 1002), (1000, .int 1, .index 1003)], [(.lt, .arg 3, .arg 300, true), (.lt, .arg 2, .int 60, true)], [(1003, .arg 2)])]
def wxV3_v2_rs : List yR := []
theorem wxV3_v2_w : ywa wxV3_v2_A wxV3_v2_ss wxV3_v2_rs = true := by decide +kernel
theorem wxV3_v2_k : yis (yev wxV3_v2_A 3000 60 59 [4] (4, [(3, .arg 3), (4, .arg 904), (2, .arg 2), (0, .index 1000), (1, .index 1004)], [], wxV3_v2_O, wxV3_v2_C, [])) wxV3_v2_ss wxV3_v2_rs = true := by decide +kernel
def wxV3_v2_r (v2 v3 v300 v323 v904 : Int32) (k_ : Nat) : Value := bif Nat.beq k_ 2 then .int v2 else (bif Nat.beq k_ 3 then .int v3 else (bif Nat.beq k_ 300 then .int v300 else (bif Nat.beq k_ 323 then .int v323 else (bif Nat.beq k_ 904 then .int v904 else (.int 0)))))
def wxV3_v2_s (a1000 a1001 a1002 a1003 a1004 : Nat) (n_ : Nat) : Nat := bif Nat.beq n_ 1000 then a1000 else (bif Nat.beq n_ 1001 then a1001 else (bif Nat.beq n_ 1002 then a1002 else (bif Nat.beq n_ 1003 then a1003 else (bif Nat.beq n_ 1004 then a1004 else (0)))))
theorem wxV3_v2 {h_ : xH} {a1000 a1001 a1002 a1003 a1004 : Nat} {v2 v3 v300 v323 v904 : Int32} (hs : sHp h_) (k1000 : bcq h_ a1000 9 2) (k1001 : bcq h_ a1001 6 2) (k1002 : bcq h_ a1002 20 60) (k1003 : bcq h_ a1003 20 60) (k1004 : bcq h_ a1004 20 4) (o0_ : bpat h_ a1000 0 = some (.index a1001)) (o1 : bpat h_ a1001 1 = some (.int v300)) (o2 : bpat h_ a1001 0 = some (.index a1002)) (o3_ : bpat h_ a1002 (v3).toInt.toNat = some (.int (10003 : Int32))) (o4_ : bpat h_ a1000 1 = some (.index a1003)) (o5_ : bpat h_ a1004 3 = some (.int v323)) (b0 : 0 ≤ (v3).toInt ∧ (v3).toInt < 60) (b1 : 0 ≤ (v2).toInt ∧ (v2).toInt < 60) (c0_ : v3.toInt < v300.toInt) (c1_ : v2.toInt < (60 : Int32).toInt) : ∃ h', ysm h_ h' ∧ (((bpat h' a1003 (v2).toInt.toNat = some (.int v323)) ∧ (∀ a_ j_ : Nat, ¬ (a_ = a1003 ∧ j_ = (v2).toInt.toNat) → bpat h' a_ j_ = bpat h_ a_ j_) ∧ (bldD 60 59 4 [(3, .int v3), (4, .int v904), (2, .int v2), (0, .index a1000), (1, .index a1004)] [] h_ 4 [(3, .int (v3 + (1 : Int32))), (2, .int (v2 + (1 : Int32))), (4, .int (10003 : Int32)), (0, .index a1000), (1, .index a1004)] [] h'))) := by
  have hA : yas wxV3_v2_A (wxV3_v2_r v2 v3 v300 v323 v904) (yg (wxV3_v2_s a1000 a1001 a1002 a1003 a1004)) := ⟨List.forall_mem_cons.mpr ⟨b0, List.forall_mem_cons.mpr ⟨b1, fun q_ hq => absurd hq List.not_mem_nil⟩⟩, fun q_ hq => absurd hq List.not_mem_nil, fun q_ hq => absurd hq List.not_mem_nil, fun n_ hn => yg_lo hn, fun q_ hq => absurd hq List.not_mem_nil⟩
  have Hs : ysh wxV3_v2_A.1 (yg (wxV3_v2_s a1000 a1001 a1002 a1003 a1004)) h_ := ysh_of2 hs (List.forall_mem_cons.mpr ⟨⟨by decide, k1000⟩, List.forall_mem_cons.mpr ⟨⟨by decide, k1001⟩, List.forall_mem_cons.mpr ⟨⟨by decide, k1002⟩, List.forall_mem_cons.mpr ⟨⟨by decide, k1003⟩, List.forall_mem_cons.mpr ⟨⟨by decide, k1004⟩, fun q_ hq => absurd hq List.not_mem_nil⟩⟩⟩⟩⟩)
  have Ho : ymem (wxV3_v2_r v2 v3 v300 v323 v904) (yg (wxV3_v2_s a1000 a1001 a1002 a1003 a1004)) wxV3_v2_O h_ := List.forall_mem_cons.mpr ⟨bpat_some o0_, List.forall_mem_cons.mpr ⟨bpat_some o1, List.forall_mem_cons.mpr ⟨bpat_some o2, List.forall_mem_cons.mpr ⟨bpat_some o3_, List.forall_mem_cons.mpr ⟨bpat_some o4_, List.forall_mem_cons.mpr ⟨bpat_some o5_, fun q_ hq => absurd hq List.not_mem_nil⟩⟩⟩⟩⟩⟩
  have HC : ∀ q_ ∈ wxV3_v2_C, xhold (wxV3_v2_r v2 v3 v300 v323 v904) q_ := List.forall_mem_cons.mpr ⟨xh_ltT c0_, List.forall_mem_cons.mpr ⟨xh_ltT c1_, fun q_ hq => absurd hq List.not_mem_nil⟩⟩
  rcases yrun (yis_ok wxV3_v2_k) hA Hs Ho HC with ⟨q_, hq, h', K_, G_⟩ | ⟨q_, hq, h', K_, G_⟩
  · have e_ := List.mem_singleton.mp hq
    subst e_
    exact ⟨h', yfr_sm K_.2.2.2 hs K_.1 (ywa_s wxV3_v2_w List.mem_cons_self), ⟨bpat_of (K_.2.1 _ List.mem_cons_self), fun a_ j_ n0_ => yfr_bp K_.2.2.2 (List.forall_mem_cons.mpr ⟨fun e_ => n0_ ⟨e_.1.symm, e_.2.symm⟩, fun q_ hq => absurd hq List.not_mem_nil⟩), G_⟩⟩
  · cases hq
theorem wxV3 {h_ : xH} {a1000 a1001 a1002 a1003 a1004 : Nat} {v2 v3 v300 v323 : Int32} {lo_ : xL} (hs : sHp h_) (k1000 : bcq h_ a1000 9 2) (k1001 : bcq h_ a1001 6 2) (k1002 : bcq h_ a1002 20 60) (k1003 : bcq h_ a1003 20 60) (k1004 : bcq h_ a1004 20 4) (o0_ : bpat h_ a1000 0 = some (.index a1001)) (o1 : bpat h_ a1001 1 = some (.int v300)) (o2 : bpat h_ a1001 0 = some (.index a1002)) (o3_ : bpat h_ a1002 (v3).toInt.toNat = some (.int (10003 : Int32))) (o4_ : bpat h_ a1000 1 = some (.index a1003)) (o5_ : bpat h_ a1004 3 = some (.int v323)) (b0 : 0 ≤ (v3).toInt ∧ (v3).toInt < 60) (b1 : 0 ≤ (v2).toInt ∧ (v2).toInt < 60) (c0_ : v3.toInt < v300.toInt) (c1_ : v2.toInt < (60 : Int32).toInt) (H_ : wxN_hd a1000 a1004 v2 v3 lo_) : ∃ h', ysm h_ h' ∧ (((bpat h' a1003 (v2).toInt.toNat = some (.int v323)) ∧ (∀ a_ j_ : Nat, ¬ (a_ = a1003 ∧ j_ = (v2).toInt.toNat) → bpat h' a_ j_ = bpat h_ a_ j_) ∧ (∃ lo', wxN_hd a1000 a1004 (v2 + (1 : Int32)) (v3 + (1 : Int32)) lo' ∧ bldD 60 59 4 lo_ [] h_ 4 lo' [] h'))) := by
  rcases H_ with rfl | ⟨y4, rfl⟩ | ⟨y4, rfl⟩
  · obtain ⟨h', m_, e_⟩ := wxV3_v0 hs k1000 k1001 k1002 k1003 k1004 o0_ o1 o2 o3_ o4_ o5_ b0 b1 c0_ c1_
    refine ⟨h', m_, ?_⟩
    obtain ⟨g0, g1, g2⟩ := e_
    exact ⟨g0, g1, ⟨_, Or.inr (Or.inl (⟨_, rfl⟩)), g2⟩⟩
  · obtain ⟨h', m_, e_⟩ := wxV3_v1 hs k1000 k1001 k1002 k1003 k1004 o0_ o1 o2 o3_ o4_ o5_ b0 b1 c0_ c1_
    refine ⟨h', m_, ?_⟩
    obtain ⟨g0, g1, g2⟩ := e_
    exact ⟨g0, g1, ⟨_, Or.inr (Or.inl (⟨_, rfl⟩)), g2⟩⟩
  · obtain ⟨h', m_, e_⟩ := wxV3_v2 hs k1000 k1001 k1002 k1003 k1004 o0_ o1 o2 o3_ o4_ o5_ b0 b1 c0_ c1_
    refine ⟨h', m_, ?_⟩
    obtain ⟨g0, g1, g2⟩ := e_
    exact ⟨g0, g1, ⟨_, Or.inr (Or.inl (⟨_, rfl⟩)), g2⟩⟩
-- wxD_v0: 43 steps, 2 ends, 0 returns
def wxD_v0_L : List (Nat × Nat × Nat) := [(1000, 9, 2), (1001, 6, 2), (1002, 20, 60), (1003, 20, 60), (1004, 20, 4)]
def wxD_v0_O : yO := [(1000, .int 0, .index 1001), (1001, .int 1, .arg 300), (1001, .int 0, .index 1002), (1002, .arg 3, .int 20033), (1000, .int 1, .index 1003), (1003, .sub (.arg 2) (.int 1), .arg 310)]
def wxD_v0_A : yA := (yZ wxD_v0_L, [(.arg 3, 60), (.arg 2, 60), (.sub (.arg 2) (.int 1), 60)], [], [], [])
def wxD_v0_C : List xB := [(.lt, .arg 3, .arg 300, true), (.lt, .arg 2, .int 1, false)]
def wxD_v0_ss : List yS := [(4, [(3, .add (.arg 3) (.int 1)), (4, .int 20033), (2, .arg 2), (0, .index 1000), (1, .index 1004)], [], [(1003, .sub (.arg 2) (.int 1), .int 0), (1000, .int 0, .index 1001), (1001, .int 1, .arg 300), (1001, .int 0, .index 1002), (1000, .int 1, .index 1003)], [(.eq, .arg 310, .int 0, false), (.lt, .arg 3, .arg 300, true), (.lt, .arg 2, .int 1, false)], [(1003, .sub (.arg 2) (.int 1))]),
  (4, [(3, .add (.arg 3) (.int 1)), (4, .int 20033), (2, .arg 2), (0, .index 1000), (1, .index 1004)], [], [(1003, .sub (.arg 2) (.int 1), .int 1), (1000, .int 0, .index 1001), (1001, .int 1, .arg 300), (1001, .int 0, .index 1002), (1000, .int 1, .index 1003)], [(.eq, .arg 310, .int 0, true), (.lt, .arg 3, .arg 300, true), (.lt, .arg 2, .int 1, false)], [(1003, .sub (.arg 2) (.int 1))])]
def wxD_v0_rs : List yR := []
theorem wxD_v0_w : ywa wxD_v0_A wxD_v0_ss wxD_v0_rs = true := by decide +kernel
theorem wxD_v0_k : yis (yev wxD_v0_A 3000 60 59 [4] (4, [(3, .arg 3), (2, .arg 2), (0, .index 1000), (1, .index 1004)], [], wxD_v0_O, wxD_v0_C, [])) wxD_v0_ss wxD_v0_rs = true := by decide +kernel
def wxD_v0_r (v2 v3 v300 v310 : Int32) (k_ : Nat) : Value := bif Nat.beq k_ 2 then .int v2 else (bif Nat.beq k_ 3 then .int v3 else (bif Nat.beq k_ 300 then .int v300 else (bif Nat.beq k_ 310 then .int v310 else (.int 0))))
def wxD_v0_s (a1000 a1001 a1002 a1003 a1004 : Nat) (n_ : Nat) : Nat := bif Nat.beq n_ 1000 then a1000 else (bif Nat.beq n_ 1001 then a1001 else (bif Nat.beq n_ 1002 then a1002 else (bif Nat.beq n_ 1003 then a1003 else (bif Nat.beq n_ 1004 then a1004 else (0)))))
theorem wxD_v0 {h_ : xH} {a1000 a1001 a1002 a1003 a1004 : Nat} {v2 v3 v300 v310 : Int32} (hs : sHp h_) (k1000 : bcq h_ a1000 9 2) (k1001 : bcq h_ a1001 6 2) (k1002 : bcq h_ a1002 20 60) (k1003 : bcq h_ a1003 20 60) (k1004 : bcq h_ a1004 20 4) (o0_ : bpat h_ a1000 0 = some (.index a1001)) (o1 : bpat h_ a1001 1 = some (.int v300)) (o2 : bpat h_ a1001 0 = some (.index a1002)) (o3_ : bpat h_ a1002 (v3).toInt.toNat = some (.int (20033 : Int32))) (o4_ : bpat h_ a1000 1 = some (.index a1003)) (o5_ : bpat h_ a1003 ((v2 - (1 : Int32))).toInt.toNat = some (.int v310)) (b0 : 0 ≤ (v3).toInt ∧ (v3).toInt < 60) (b1 : 0 ≤ (v2).toInt ∧ (v2).toInt < 60) (b2 : 0 ≤ ((v2 - (1 : Int32))).toInt ∧ ((v2 - (1 : Int32))).toInt < 60) (c0_ : v3.toInt < v300.toInt) (c1_ : (1 : Int32).toInt ≤ v2.toInt) : ∃ h', ysm h_ h' ∧ (((¬ v310 = (0 : Int32)) ∧ (bpat h' a1003 ((v2 - (1 : Int32))).toInt.toNat = some (.int (0 : Int32))) ∧ (∀ a_ j_ : Nat, ¬ (a_ = a1003 ∧ j_ = ((v2 - (1 : Int32))).toInt.toNat) → bpat h' a_ j_ = bpat h_ a_ j_) ∧ (bldD 60 59 4 [(3, .int v3), (2, .int v2), (0, .index a1000), (1, .index a1004)] [] h_ 4 [(3, .int (v3 + (1 : Int32))), (4, .int (20033 : Int32)), (2, .int v2), (0, .index a1000), (1, .index a1004)] [] h'))
  ∨ ((v310 = (0 : Int32)) ∧ (bpat h' a1003 ((v2 - (1 : Int32))).toInt.toNat = some (.int (1 : Int32))) ∧ (∀ a_ j_ : Nat, ¬ (a_ = a1003 ∧ j_ = ((v2 - (1 : Int32))).toInt.toNat) → bpat h' a_ j_ = bpat h_ a_ j_) ∧ (bldD 60 59 4 [(3, .int v3), (2, .int v2), (0, .index a1000), (1, .index a1004)] [] h_ 4 [(3, .int (v3 + (1 : Int32))), (4, .int (20033 : Int32)), (2, .int v2), (0, .index a1000), (1, .index a1004)] [] h'))) := by
  have hA : yas wxD_v0_A (wxD_v0_r v2 v3 v300 v310) (yg (wxD_v0_s a1000 a1001 a1002 a1003 a1004)) := ⟨List.forall_mem_cons.mpr ⟨b0, List.forall_mem_cons.mpr ⟨b1, List.forall_mem_cons.mpr ⟨b2, fun q_ hq => absurd hq List.not_mem_nil⟩⟩⟩, fun q_ hq => absurd hq List.not_mem_nil, fun q_ hq => absurd hq List.not_mem_nil, fun n_ hn => yg_lo hn, fun q_ hq => absurd hq List.not_mem_nil⟩
  have Hs : ysh wxD_v0_A.1 (yg (wxD_v0_s a1000 a1001 a1002 a1003 a1004)) h_ := ysh_of2 hs (List.forall_mem_cons.mpr ⟨⟨by decide, k1000⟩, List.forall_mem_cons.mpr ⟨⟨by decide, k1001⟩, List.forall_mem_cons.mpr ⟨⟨by decide, k1002⟩, List.forall_mem_cons.mpr ⟨⟨by decide, k1003⟩, List.forall_mem_cons.mpr ⟨⟨by decide, k1004⟩, fun q_ hq => absurd hq List.not_mem_nil⟩⟩⟩⟩⟩)
  have Ho : ymem (wxD_v0_r v2 v3 v300 v310) (yg (wxD_v0_s a1000 a1001 a1002 a1003 a1004)) wxD_v0_O h_ := List.forall_mem_cons.mpr ⟨bpat_some o0_, List.forall_mem_cons.mpr ⟨bpat_some o1, List.forall_mem_cons.mpr ⟨bpat_some o2, List.forall_mem_cons.mpr ⟨bpat_some o3_, List.forall_mem_cons.mpr ⟨bpat_some o4_, List.forall_mem_cons.mpr ⟨bpat_some o5_, fun q_ hq => absurd hq List.not_mem_nil⟩⟩⟩⟩⟩⟩
  have HC : ∀ q_ ∈ wxD_v0_C, xhold (wxD_v0_r v2 v3 v300 v310) q_ := List.forall_mem_cons.mpr ⟨xh_ltT c0_, List.forall_mem_cons.mpr ⟨xh_ltF c1_, fun q_ hq => absurd hq List.not_mem_nil⟩⟩
  rcases yrun (yis_ok wxD_v0_k) hA Hs Ho HC with ⟨q_, hq, h', K_, G_⟩ | ⟨q_, hq, h', K_, G_⟩
  · rcases List.mem_cons.mp hq with e_ | hq
    · subst e_
      exact ⟨h', yfr_sm K_.2.2.2 hs K_.1 (ywa_s wxD_v0_w List.mem_cons_self), Or.inl (⟨xq_eqF rfl rfl (K_.2.2.1 _ List.mem_cons_self), bpat_of (K_.2.1 _ List.mem_cons_self), fun a_ j_ n0_ => yfr_bp K_.2.2.2 (List.forall_mem_cons.mpr ⟨fun e_ => n0_ ⟨e_.1.symm, e_.2.symm⟩, fun q_ hq => absurd hq List.not_mem_nil⟩), G_⟩)⟩
    have e_ := List.mem_singleton.mp hq
    subst e_
    exact ⟨h', yfr_sm K_.2.2.2 hs K_.1 (ywa_s wxD_v0_w (List.mem_cons_of_mem _ List.mem_cons_self)), Or.inr (⟨xq_eqT rfl rfl (K_.2.2.1 _ List.mem_cons_self), bpat_of (K_.2.1 _ List.mem_cons_self), fun a_ j_ n0_ => yfr_bp K_.2.2.2 (List.forall_mem_cons.mpr ⟨fun e_ => n0_ ⟨e_.1.symm, e_.2.symm⟩, fun q_ hq => absurd hq List.not_mem_nil⟩), G_⟩)⟩
  · cases hq
-- wxD_v1: 43 steps, 2 ends, 0 returns
def wxD_v1_L : List (Nat × Nat × Nat) := [(1000, 9, 2), (1001, 6, 2), (1002, 20, 60), (1003, 20, 60), (1004, 20, 4)]
def wxD_v1_O : yO := [(1000, .int 0, .index 1001), (1001, .int 1, .arg 300), (1001, .int 0, .index 1002), (1002, .arg 3, .int 20033), (1000, .int 1, .index 1003), (1003, .sub (.arg 2) (.int 1), .arg 310)]
def wxD_v1_A : yA := (yZ wxD_v1_L, [(.arg 3, 60), (.arg 2, 60), (.sub (.arg 2) (.int 1), 60)], [], [], [])
def wxD_v1_C : List xB := [(.lt, .arg 3, .arg 300, true), (.lt, .arg 2, .int 1, false)]
def wxD_v1_ss : List yS := [(4, [(3, .add (.arg 3) (.int 1)), (4, .int 20033), (2, .arg 2), (0, .index 1000), (1, .index 1004)], [], [(1003, .sub (.arg 2) (.int 1), .int 0), (1000, .int 0, .index 1001), (1001, .int 1, .arg 300), (1001, .int 0, .index 1002), (1000, .int 1, .index 1003)], [(.eq, .arg 310, .int 0, false), (.lt, .arg 3, .arg 300, true), (.lt, .arg 2, .int 1, false)], [(1003, .sub (.arg 2) (.int 1))]),
  (4, [(3, .add (.arg 3) (.int 1)), (4, .int 20033), (2, .arg 2), (0, .index 1000), (1, .index 1004)], [], [(1003, .sub (.arg 2) (.int 1), .int 1), (1000, .int 0, .index 1001), (1001, .int 1, .arg 300), (1001, .int 0, .index 1002), (1000, .int 1, .index 1003)], [(.eq, .arg 310, .int 0, true), (.lt, .arg 3, .arg 300, true), (.lt, .arg 2, .int 1, false)], [(1003, .sub (.arg 2) (.int 1))])]
def wxD_v1_rs : List yR := []
theorem wxD_v1_w : ywa wxD_v1_A wxD_v1_ss wxD_v1_rs = true := by decide +kernel
theorem wxD_v1_k : yis (yev wxD_v1_A 3000 60 59 [4] (4, [(3, .arg 3), (2, .arg 2), (4, .arg 904), (0, .index 1000), (1, .index 1004)], [], wxD_v1_O, wxD_v1_C, [])) wxD_v1_ss wxD_v1_rs = true := by decide +kernel
def wxD_v1_r (v2 v3 v300 v310 v904 : Int32) (k_ : Nat) : Value := bif Nat.beq k_ 2 then .int v2 else (bif Nat.beq k_ 3 then .int v3 else (bif Nat.beq k_ 300 then .int v300 else (bif Nat.beq k_ 310 then .int v310 else (bif Nat.beq k_ 904 then .int v904 else (.int 0)))))
def wxD_v1_s (a1000 a1001 a1002 a1003 a1004 : Nat) (n_ : Nat) : Nat := bif Nat.beq n_ 1000 then a1000 else (bif Nat.beq n_ 1001 then a1001 else (bif Nat.beq n_ 1002 then a1002 else (bif Nat.beq n_ 1003 then a1003 else (bif Nat.beq n_ 1004 then a1004 else (0)))))
theorem wxD_v1 {h_ : xH} {a1000 a1001 a1002 a1003 a1004 : Nat} {v2 v3 v300 v310 v904 : Int32} (hs : sHp h_) (k1000 : bcq h_ a1000 9 2) (k1001 : bcq h_ a1001 6 2) (k1002 : bcq h_ a1002 20 60) (k1003 : bcq h_ a1003 20 60) (k1004 : bcq h_ a1004 20 4) (o0_ : bpat h_ a1000 0 = some (.index a1001)) (o1 : bpat h_ a1001 1 = some (.int v300)) (o2 : bpat h_ a1001 0 = some (.index a1002)) (o3_ : bpat h_ a1002 (v3).toInt.toNat = some (.int (20033 : Int32))) (o4_ : bpat h_ a1000 1 = some (.index a1003)) (o5_ : bpat h_ a1003 ((v2 - (1 : Int32))).toInt.toNat = some (.int v310)) (b0 : 0 ≤ (v3).toInt ∧ (v3).toInt < 60) (b1 : 0 ≤ (v2).toInt ∧ (v2).toInt < 60) (b2 : 0 ≤ ((v2 - (1 : Int32))).toInt ∧ ((v2 - (1 : Int32))).toInt < 60) (c0_ : v3.toInt < v300.toInt) (c1_ : (1 : Int32).toInt ≤ v2.toInt) : ∃ h', ysm h_ h' ∧ (((¬ v310 = (0 : Int32)) ∧ (bpat h' a1003 ((v2 - (1 : Int32))).toInt.toNat = some (.int (0 : Int32))) ∧ (∀ a_ j_ : Nat, ¬ (a_ = a1003 ∧ j_ = ((v2 - (1 : Int32))).toInt.toNat) → bpat h' a_ j_ = bpat h_ a_ j_) ∧ (bldD 60 59 4 [(3, .int v3), (2, .int v2), (4, .int v904), (0, .index a1000), (1, .index a1004)] [] h_ 4 [(3, .int (v3 + (1 : Int32))), (4, .int (20033 : Int32)), (2, .int v2), (0, .index a1000), (1, .index a1004)] [] h'))
  ∨ ((v310 = (0 : Int32)) ∧ (bpat h' a1003 ((v2 - (1 : Int32))).toInt.toNat = some (.int (1 : Int32))) ∧ (∀ a_ j_ : Nat, ¬ (a_ = a1003 ∧ j_ = ((v2 - (1 : Int32))).toInt.toNat) → bpat h' a_ j_ = bpat h_ a_ j_) ∧ (bldD 60 59 4 [(3, .int v3), (2, .int v2), (4, .int v904), (0, .index a1000), (1, .index a1004)] [] h_ 4 [(3, .int (v3 + (1 : Int32))), (4, .int (20033 : Int32)), (2, .int v2), (0, .index a1000), (1, .index a1004)] [] h'))) := by
  have hA : yas wxD_v1_A (wxD_v1_r v2 v3 v300 v310 v904) (yg (wxD_v1_s a1000 a1001 a1002 a1003 a1004)) := ⟨List.forall_mem_cons.mpr ⟨b0, List.forall_mem_cons.mpr ⟨b1, List.forall_mem_cons.mpr ⟨b2, fun q_ hq => absurd hq List.not_mem_nil⟩⟩⟩, fun q_ hq => absurd hq List.not_mem_nil, fun q_ hq => absurd hq List.not_mem_nil, fun n_ hn => yg_lo hn, fun q_ hq => absurd hq List.not_mem_nil⟩
  have Hs : ysh wxD_v1_A.1 (yg (wxD_v1_s a1000 a1001 a1002 a1003 a1004)) h_ := ysh_of2 hs (List.forall_mem_cons.mpr ⟨⟨by decide, k1000⟩, List.forall_mem_cons.mpr ⟨⟨by decide, k1001⟩, List.forall_mem_cons.mpr ⟨⟨by decide, k1002⟩, List.forall_mem_cons.mpr ⟨⟨by decide, k1003⟩, List.forall_mem_cons.mpr ⟨⟨by decide, k1004⟩, fun q_ hq => absurd hq List.not_mem_nil⟩⟩⟩⟩⟩)
  have Ho : ymem (wxD_v1_r v2 v3 v300 v310 v904) (yg (wxD_v1_s a1000 a1001 a1002 a1003 a1004)) wxD_v1_O h_ := List.forall_mem_cons.mpr ⟨bpat_some o0_, List.forall_mem_cons.mpr ⟨bpat_some o1, List.forall_mem_cons.mpr ⟨bpat_some o2, List.forall_mem_cons.mpr ⟨bpat_some o3_, List.forall_mem_cons.mpr ⟨bpat_some o4_, List.forall_mem_cons.mpr ⟨bpat_some o5_, fun q_ hq => absurd hq List.not_mem_nil⟩⟩⟩⟩⟩⟩
  have HC : ∀ q_ ∈ wxD_v1_C, xhold (wxD_v1_r v2 v3 v300 v310 v904) q_ := List.forall_mem_cons.mpr ⟨xh_ltT c0_, List.forall_mem_cons.mpr ⟨xh_ltF c1_, fun q_ hq => absurd hq List.not_mem_nil⟩⟩
  rcases yrun (yis_ok wxD_v1_k) hA Hs Ho HC with ⟨q_, hq, h', K_, G_⟩ | ⟨q_, hq, h', K_, G_⟩
  · rcases List.mem_cons.mp hq with e_ | hq
    · subst e_
      exact ⟨h', yfr_sm K_.2.2.2 hs K_.1 (ywa_s wxD_v1_w List.mem_cons_self), Or.inl (⟨xq_eqF rfl rfl (K_.2.2.1 _ List.mem_cons_self), bpat_of (K_.2.1 _ List.mem_cons_self), fun a_ j_ n0_ => yfr_bp K_.2.2.2 (List.forall_mem_cons.mpr ⟨fun e_ => n0_ ⟨e_.1.symm, e_.2.symm⟩, fun q_ hq => absurd hq List.not_mem_nil⟩), G_⟩)⟩
    have e_ := List.mem_singleton.mp hq
    subst e_
    exact ⟨h', yfr_sm K_.2.2.2 hs K_.1 (ywa_s wxD_v1_w (List.mem_cons_of_mem _ List.mem_cons_self)), Or.inr (⟨xq_eqT rfl rfl (K_.2.2.1 _ List.mem_cons_self), bpat_of (K_.2.1 _ List.mem_cons_self), fun a_ j_ n0_ => yfr_bp K_.2.2.2 (List.forall_mem_cons.mpr ⟨fun e_ => n0_ ⟨e_.1.symm, e_.2.symm⟩, fun q_ hq => absurd hq List.not_mem_nil⟩), G_⟩)⟩
  · cases hq
-- wxD_v2: 43 steps, 2 ends, 0 returns
def wxD_v2_L : List (Nat × Nat × Nat) := [(1000, 9, 2), (1001, 6, 2), (1002, 20, 60), (1003, 20, 60), (1004, 20, 4)]
def wxD_v2_O : yO := [(1000, .int 0, .index 1001), (1001, .int 1, .arg 300), (1001, .int 0, .index 1002), (1002, .arg 3, .int 20033), (1000, .int 1, .index 1003), (1003, .sub (.arg 2) (.int 1), .arg 310)]
def wxD_v2_A : yA := (yZ wxD_v2_L, [(.arg 3, 60), (.arg 2, 60), (.sub (.arg 2) (.int 1), 60)], [], [], [])
def wxD_v2_C : List xB := [(.lt, .arg 3, .arg 300, true), (.lt, .arg 2, .int 1, false)]
def wxD_v2_ss : List yS := [(4, [(3, .add (.arg 3) (.int 1)), (4, .int 20033), (2, .arg 2), (0, .index 1000), (1, .index 1004)], [], [(1003, .sub (.arg 2) (.int 1), .int 0), (1000, .int 0, .index 1001), (1001, .int 1, .arg 300), (1001, .int 0, .index 1002), (1000, .int 1, .index 1003)], [(.eq, .arg 310, .int 0, false), (.lt, .arg 3, .arg 300, true), (.lt, .arg 2, .int 1, false)], [(1003, .sub (.arg 2) (.int 1))]),
  (4, [(3, .add (.arg 3) (.int 1)), (4, .int 20033), (2, .arg 2), (0, .index 1000), (1, .index 1004)], [], [(1003, .sub (.arg 2) (.int 1), .int 1), (1000, .int 0, .index 1001), (1001, .int 1, .arg 300), (1001, .int 0, .index 1002), (1000, .int 1, .index 1003)], [(.eq, .arg 310, .int 0, true), (.lt, .arg 3, .arg 300, true), (.lt, .arg 2, .int 1, false)], [(1003, .sub (.arg 2) (.int 1))])]
def wxD_v2_rs : List yR := []
theorem wxD_v2_w : ywa wxD_v2_A wxD_v2_ss wxD_v2_rs = true := by decide +kernel
theorem wxD_v2_k : yis (yev wxD_v2_A 3000 60 59 [4] (4, [(3, .arg 3), (4, .arg 904), (2, .arg 2), (0, .index 1000), (1, .index 1004)], [], wxD_v2_O, wxD_v2_C, [])) wxD_v2_ss wxD_v2_rs = true := by decide +kernel
def wxD_v2_r (v2 v3 v300 v310 v904 : Int32) (k_ : Nat) : Value := bif Nat.beq k_ 2 then .int v2 else (bif Nat.beq k_ 3 then .int v3 else (bif Nat.beq k_ 300 then .int v300 else (bif Nat.beq k_ 310 then .int v310 else (bif Nat.beq k_ 904 then .int v904 else (.int 0)))))
def wxD_v2_s (a1000 a1001 a1002 a1003 a1004 : Nat) (n_ : Nat) : Nat := bif Nat.beq n_ 1000 then a1000 else (bif Nat.beq n_ 1001 then a1001 else (bif Nat.beq n_ 1002 then a1002 else (bif Nat.beq n_ 1003 then a1003 else (bif Nat.beq n_ 1004 then a1004 else (0)))))
theorem wxD_v2 {h_ : xH} {a1000 a1001 a1002 a1003 a1004 : Nat} {v2 v3 v300 v310 v904 : Int32} (hs : sHp h_) (k1000 : bcq h_ a1000 9 2) (k1001 : bcq h_ a1001 6 2) (k1002 : bcq h_ a1002 20 60) (k1003 : bcq h_ a1003 20 60) (k1004 : bcq h_ a1004 20 4) (o0_ : bpat h_ a1000 0 = some (.index a1001)) (o1 : bpat h_ a1001 1 = some (.int v300)) (o2 : bpat h_ a1001 0 = some (.index a1002)) (o3_ : bpat h_ a1002 (v3).toInt.toNat = some (.int (20033 : Int32))) (o4_ : bpat h_ a1000 1 = some (.index a1003)) (o5_ : bpat h_ a1003 ((v2 - (1 : Int32))).toInt.toNat = some (.int v310)) (b0 : 0 ≤ (v3).toInt ∧ (v3).toInt < 60) (b1 : 0 ≤ (v2).toInt ∧ (v2).toInt < 60) (b2 : 0 ≤ ((v2 - (1 : Int32))).toInt ∧ ((v2 - (1 : Int32))).toInt < 60) (c0_ : v3.toInt < v300.toInt) (c1_ : (1 : Int32).toInt ≤ v2.toInt) : ∃ h', ysm h_ h' ∧ (((¬ v310 = (0 : Int32)) ∧ (bpat h' a1003 ((v2 - (1 : Int32))).toInt.toNat = some (.int (0 : Int32))) ∧ (∀ a_ j_ : Nat, ¬ (a_ = a1003 ∧ j_ = ((v2 - (1 : Int32))).toInt.toNat) → bpat h' a_ j_ = bpat h_ a_ j_) ∧ (bldD 60 59 4 [(3, .int v3), (4, .int v904), (2, .int v2), (0, .index a1000), (1, .index a1004)] [] h_ 4 [(3, .int (v3 + (1 : Int32))), (4, .int (20033 : Int32)), (2, .int v2), (0, .index a1000), (1, .index a1004)] [] h'))
  ∨ ((v310 = (0 : Int32)) ∧ (bpat h' a1003 ((v2 - (1 : Int32))).toInt.toNat = some (.int (1 : Int32))) ∧ (∀ a_ j_ : Nat, ¬ (a_ = a1003 ∧ j_ = ((v2 - (1 : Int32))).toInt.toNat) → bpat h' a_ j_ = bpat h_ a_ j_) ∧ (bldD 60 59 4 [(3, .int v3), (4, .int v904), (2, .int v2), (0, .index a1000), (1, .index a1004)] [] h_ 4 [(3, .int (v3 + (1 : Int32))), (4, .int (20033 : Int32)), (2, .int v2), (0, .index a1000), (1, .index a1004)] [] h'))) := by
  have hA : yas wxD_v2_A (wxD_v2_r v2 v3 v300 v310 v904) (yg (wxD_v2_s a1000 a1001 a1002 a1003 a1004)) := ⟨List.forall_mem_cons.mpr ⟨b0, List.forall_mem_cons.mpr ⟨b1, List.forall_mem_cons.mpr ⟨b2, fun q_ hq => absurd hq List.not_mem_nil⟩⟩⟩, fun q_ hq => absurd hq List.not_mem_nil, fun q_ hq => absurd hq List.not_mem_nil, fun n_ hn => yg_lo hn, fun q_ hq => absurd hq List.not_mem_nil⟩
  have Hs : ysh wxD_v2_A.1 (yg (wxD_v2_s a1000 a1001 a1002 a1003 a1004)) h_ := ysh_of2 hs (List.forall_mem_cons.mpr ⟨⟨by decide, k1000⟩, List.forall_mem_cons.mpr ⟨⟨by decide, k1001⟩, List.forall_mem_cons.mpr ⟨⟨by decide, k1002⟩, List.forall_mem_cons.mpr ⟨⟨by decide, k1003⟩, List.forall_mem_cons.mpr ⟨⟨by decide, k1004⟩, fun q_ hq => absurd hq List.not_mem_nil⟩⟩⟩⟩⟩)
  have Ho : ymem (wxD_v2_r v2 v3 v300 v310 v904) (yg (wxD_v2_s a1000 a1001 a1002 a1003 a1004)) wxD_v2_O h_ := List.forall_mem_cons.mpr ⟨bpat_some o0_, List.forall_mem_cons.mpr ⟨bpat_some o1, List.forall_mem_cons.mpr ⟨bpat_some o2, List.forall_mem_cons.mpr ⟨bpat_some o3_, List.forall_mem_cons.mpr ⟨bpat_some o4_, List.forall_mem_cons.mpr ⟨bpat_some o5_, fun q_ hq => absurd hq List.not_mem_nil⟩⟩⟩⟩⟩⟩
  have HC : ∀ q_ ∈ wxD_v2_C, xhold (wxD_v2_r v2 v3 v300 v310 v904) q_ := List.forall_mem_cons.mpr ⟨xh_ltT c0_, List.forall_mem_cons.mpr ⟨xh_ltF c1_, fun q_ hq => absurd hq List.not_mem_nil⟩⟩
  rcases yrun (yis_ok wxD_v2_k) hA Hs Ho HC with ⟨q_, hq, h', K_, G_⟩ | ⟨q_, hq, h', K_, G_⟩
  · rcases List.mem_cons.mp hq with e_ | hq
    · subst e_
      exact ⟨h', yfr_sm K_.2.2.2 hs K_.1 (ywa_s wxD_v2_w List.mem_cons_self), Or.inl (⟨xq_eqF rfl rfl (K_.2.2.1 _ List.mem_cons_self), bpat_of (K_.2.1 _ List.mem_cons_self), fun a_ j_ n0_ => yfr_bp K_.2.2.2 (List.forall_mem_cons.mpr ⟨fun e_ => n0_ ⟨e_.1.symm, e_.2.symm⟩, fun q_ hq => absurd hq List.not_mem_nil⟩), G_⟩)⟩
    have e_ := List.mem_singleton.mp hq
    subst e_
    exact ⟨h', yfr_sm K_.2.2.2 hs K_.1 (ywa_s wxD_v2_w (List.mem_cons_of_mem _ List.mem_cons_self)), Or.inr (⟨xq_eqT rfl rfl (K_.2.2.1 _ List.mem_cons_self), bpat_of (K_.2.1 _ List.mem_cons_self), fun a_ j_ n0_ => yfr_bp K_.2.2.2 (List.forall_mem_cons.mpr ⟨fun e_ => n0_ ⟨e_.1.symm, e_.2.symm⟩, fun q_ hq => absurd hq List.not_mem_nil⟩), G_⟩)⟩
  · cases hq
theorem wxD {h_ : xH} {a1000 a1001 a1002 a1003 a1004 : Nat} {v2 v3 v300 v310 : Int32} {lo_ : xL} (hs : sHp h_) (k1000 : bcq h_ a1000 9 2) (k1001 : bcq h_ a1001 6 2) (k1002 : bcq h_ a1002 20 60) (k1003 : bcq h_ a1003 20 60) (k1004 : bcq h_ a1004 20 4) (o0_ : bpat h_ a1000 0 = some (.index a1001)) (o1 : bpat h_ a1001 1 = some (.int v300)) (o2 : bpat h_ a1001 0 = some (.index a1002)) (o3_ : bpat h_ a1002 (v3).toInt.toNat = some (.int (20033 : Int32))) (o4_ : bpat h_ a1000 1 = some (.index a1003)) (o5_ : bpat h_ a1003 ((v2 - (1 : Int32))).toInt.toNat = some (.int v310)) (b0 : 0 ≤ (v3).toInt ∧ (v3).toInt < 60) (b1 : 0 ≤ (v2).toInt ∧ (v2).toInt < 60) (b2 : 0 ≤ ((v2 - (1 : Int32))).toInt ∧ ((v2 - (1 : Int32))).toInt < 60) (c0_ : v3.toInt < v300.toInt) (c1_ : (1 : Int32).toInt ≤ v2.toInt) (H_ : wxN_hd a1000 a1004 v2 v3 lo_) : ∃ h', ysm h_ h' ∧ (((¬ v310 = (0 : Int32)) ∧ (bpat h' a1003 ((v2 - (1 : Int32))).toInt.toNat = some (.int (0 : Int32))) ∧ (∀ a_ j_ : Nat, ¬ (a_ = a1003 ∧ j_ = ((v2 - (1 : Int32))).toInt.toNat) → bpat h' a_ j_ = bpat h_ a_ j_) ∧ (∃ lo', wxN_hd a1000 a1004 v2 (v3 + (1 : Int32)) lo' ∧ bldD 60 59 4 lo_ [] h_ 4 lo' [] h'))
  ∨ ((v310 = (0 : Int32)) ∧ (bpat h' a1003 ((v2 - (1 : Int32))).toInt.toNat = some (.int (1 : Int32))) ∧ (∀ a_ j_ : Nat, ¬ (a_ = a1003 ∧ j_ = ((v2 - (1 : Int32))).toInt.toNat) → bpat h' a_ j_ = bpat h_ a_ j_) ∧ (∃ lo', wxN_hd a1000 a1004 v2 (v3 + (1 : Int32)) lo' ∧ bldD 60 59 4 lo_ [] h_ 4 lo' [] h'))) := by
  rcases H_ with rfl | ⟨y4, rfl⟩ | ⟨y4, rfl⟩
  · obtain ⟨h', m_, e_⟩ := wxD_v0 hs k1000 k1001 k1002 k1003 k1004 o0_ o1 o2 o3_ o4_ o5_ b0 b1 b2 c0_ c1_
    refine ⟨h', m_, ?_⟩
    rcases e_ with e_ | e_
    · obtain ⟨g0, g1, g2, g3_⟩ := e_
      exact Or.inl ⟨g0, g1, g2, ⟨_, Or.inr (Or.inr (⟨_, rfl⟩)), g3_⟩⟩
    · obtain ⟨g0, g1, g2, g3_⟩ := e_
      exact Or.inr (⟨g0, g1, g2, ⟨_, Or.inr (Or.inr (⟨_, rfl⟩)), g3_⟩⟩)
  · obtain ⟨h', m_, e_⟩ := wxD_v1 hs k1000 k1001 k1002 k1003 k1004 o0_ o1 o2 o3_ o4_ o5_ b0 b1 b2 c0_ c1_
    refine ⟨h', m_, ?_⟩
    rcases e_ with e_ | e_
    · obtain ⟨g0, g1, g2, g3_⟩ := e_
      exact Or.inl ⟨g0, g1, g2, ⟨_, Or.inr (Or.inr (⟨_, rfl⟩)), g3_⟩⟩
    · obtain ⟨g0, g1, g2, g3_⟩ := e_
      exact Or.inr (⟨g0, g1, g2, ⟨_, Or.inr (Or.inr (⟨_, rfl⟩)), g3_⟩⟩)
  · obtain ⟨h', m_, e_⟩ := wxD_v2 hs k1000 k1001 k1002 k1003 k1004 o0_ o1 o2 o3_ o4_ o5_ b0 b1 b2 c0_ c1_
    refine ⟨h', m_, ?_⟩
    rcases e_ with e_ | e_
    · obtain ⟨g0, g1, g2, g3_⟩ := e_
      exact Or.inl ⟨g0, g1, g2, ⟨_, Or.inr (Or.inr (⟨_, rfl⟩)), g3_⟩⟩
    · obtain ⟨g0, g1, g2, g3_⟩ := e_
      exact Or.inr (⟨g0, g1, g2, ⟨_, Or.inr (Or.inr (⟨_, rfl⟩)), g3_⟩⟩)
-- wxJ_v0: 43 steps, 1 ends, 0 returns
def wxJ_v0_L : List (Nat × Nat × Nat) := [(1000, 9, 2), (1001, 6, 2), (1002, 20, 60), (1003, 20, 60), (1004, 20, 4)]
def wxJ_v0_O : yO := [(1000, .int 0, .index 1001), (1001, .int 1, .arg 300), (1001, .int 0, .index 1002), (1002, .arg 3, .arg 301), (1000, .int 1, .index 1003), (1003, .sub (.add (.arg 2) (.int (Int32.ofInt (-1)))) (.int 1), .arg 312), (1003, .add (.arg 2) (.int (Int32.ofInt (-1))), .arg 311)]
def wxJ_v0_A : yA := (yZ wxJ_v0_L, [(.arg 3, 60), (.arg 2, 60), (.add (.arg 2) (.int (Int32.ofInt (-1))), 60), (.sub (.add (.arg 2) (.int (Int32.ofInt (-1)))) (.int 1), 60)], [], [], [(61, [.sub (.arg 301) (.int 20000), .arg 312, .arg 311], .arg 500)])
def wxJ_v0_C : List xB := [(.lt, .arg 3, .arg 300, true), (.lt, .arg 301, .int 20000, false), (.eq, .arg 301, .int 20033, false), (.lt, .arg 2, .int 2, false)]
def wxJ_v0_ss : List yS := [(4, [(3, .add (.arg 3) (.int 1)), (2, .add (.arg 2) (.int (Int32.ofInt (-1)))), (4, .arg 301), (0, .index 1000), (1, .index 1004)], [], [(1003, .sub (.add (.arg 2) (.int (Int32.ofInt (-1)))) (.int 1), .arg 500), (1000, .int 0, .index 1001), (1001, .int 1, .arg 300), (1001, .int 0, .index 1002), (1000, .int 1, .index 1003)], [(.lt, .arg 3, .arg 300, true), (.lt, .arg 301, .int 20000, false), (.eq, .arg 301, .int 20033, false), (.lt, .arg 2, .int 2, false)], [(1003, .sub (.add (.arg 2) (.int (Int32.ofInt (-1)))) (.int 1))])]
def wxJ_v0_rs : List yR := []
theorem wxJ_v0_w : ywa wxJ_v0_A wxJ_v0_ss wxJ_v0_rs = true := by decide +kernel
theorem wxJ_v0_k : yis (yev wxJ_v0_A 3000 60 59 [4] (4, [(3, .arg 3), (2, .arg 2), (0, .index 1000), (1, .index 1004)], [], wxJ_v0_O, wxJ_v0_C, [])) wxJ_v0_ss wxJ_v0_rs = true := by decide +kernel
def wxJ_v0_r (v2 v3 v300 v301 v311 v312 v500 : Int32) (k_ : Nat) : Value := bif Nat.beq k_ 2 then .int v2 else (bif Nat.beq k_ 3 then .int v3 else (bif Nat.beq k_ 300 then .int v300 else (bif Nat.beq k_ 301 then .int v301 else (bif Nat.beq k_ 311 then .int v311 else (bif Nat.beq k_ 312 then .int v312 else (bif Nat.beq k_ 500 then .int v500 else (.int 0)))))))
def wxJ_v0_s (a1000 a1001 a1002 a1003 a1004 : Nat) (n_ : Nat) : Nat := bif Nat.beq n_ 1000 then a1000 else (bif Nat.beq n_ 1001 then a1001 else (bif Nat.beq n_ 1002 then a1002 else (bif Nat.beq n_ 1003 then a1003 else (bif Nat.beq n_ 1004 then a1004 else (0)))))
theorem wxJ_v0 {h_ : xH} {a1000 a1001 a1002 a1003 a1004 : Nat} {v2 v3 v300 v301 v311 v312 v500 : Int32} (hs : sHp h_) (k1000 : bcq h_ a1000 9 2) (k1001 : bcq h_ a1001 6 2) (k1002 : bcq h_ a1002 20 60) (k1003 : bcq h_ a1003 20 60) (k1004 : bcq h_ a1004 20 4) (o0_ : bpat h_ a1000 0 = some (.index a1001)) (o1 : bpat h_ a1001 1 = some (.int v300)) (o2 : bpat h_ a1001 0 = some (.index a1002)) (o3_ : bpat h_ a1002 (v3).toInt.toNat = some (.int v301)) (o4_ : bpat h_ a1000 1 = some (.index a1003)) (o5_ : bpat h_ a1003 (((v2 + (Int32.ofInt (-1))) - (1 : Int32))).toInt.toNat = some (.int v312)) (o6 : bpat h_ a1003 ((v2 + (Int32.ofInt (-1)))).toInt.toNat = some (.int v311)) (b0 : 0 ≤ (v3).toInt ∧ (v3).toInt < 60) (b1 : 0 ≤ (v2).toInt ∧ (v2).toInt < 60) (b2 : 0 ≤ ((v2 + (Int32.ofInt (-1)))).toInt ∧ ((v2 + (Int32.ofInt (-1)))).toInt < 60) (b3 : 0 ≤ (((v2 + (Int32.ofInt (-1))) - (1 : Int32))).toInt ∧ (((v2 + (Int32.ofInt (-1))) - (1 : Int32))).toInt < 60) (p0_ : ∀ (h_ : xH) (D_ : Nat), 5 ≤ D_ → xrun D_ 61 0 [(0, .int (v301 - (20000 : Int32))), (1, .int v312), (2, .int v311)] [] h_ (some (.int v500), h_, [])) (c0_ : v3.toInt < v300.toInt) (c1_ : (20000 : Int32).toInt ≤ v301.toInt) (c2_ : ¬ v301 = (20033 : Int32)) (c3_ : (2 : Int32).toInt ≤ v2.toInt) : ∃ h', ysm h_ h' ∧ (((bpat h' a1003 (((v2 + (Int32.ofInt (-1))) - (1 : Int32))).toInt.toNat = some (.int v500)) ∧ (∀ a_ j_ : Nat, ¬ (a_ = a1003 ∧ j_ = (((v2 + (Int32.ofInt (-1))) - (1 : Int32))).toInt.toNat) → bpat h' a_ j_ = bpat h_ a_ j_) ∧ (bldD 60 59 4 [(3, .int v3), (2, .int v2), (0, .index a1000), (1, .index a1004)] [] h_ 4 [(3, .int (v3 + (1 : Int32))), (2, .int (v2 + (Int32.ofInt (-1)))), (4, .int v301), (0, .index a1000), (1, .index a1004)] [] h'))) := by
  have hA : yas wxJ_v0_A (wxJ_v0_r v2 v3 v300 v301 v311 v312 v500) (yg (wxJ_v0_s a1000 a1001 a1002 a1003 a1004)) := ⟨List.forall_mem_cons.mpr ⟨b0, List.forall_mem_cons.mpr ⟨b1, List.forall_mem_cons.mpr ⟨b2, List.forall_mem_cons.mpr ⟨b3, fun q_ hq => absurd hq List.not_mem_nil⟩⟩⟩⟩, fun q_ hq => absurd hq List.not_mem_nil, fun q_ hq => absurd hq List.not_mem_nil, fun n_ hn => yg_lo hn, List.forall_mem_cons.mpr ⟨p0_, fun q_ hq => absurd hq List.not_mem_nil⟩⟩
  have Hs : ysh wxJ_v0_A.1 (yg (wxJ_v0_s a1000 a1001 a1002 a1003 a1004)) h_ := ysh_of2 hs (List.forall_mem_cons.mpr ⟨⟨by decide, k1000⟩, List.forall_mem_cons.mpr ⟨⟨by decide, k1001⟩, List.forall_mem_cons.mpr ⟨⟨by decide, k1002⟩, List.forall_mem_cons.mpr ⟨⟨by decide, k1003⟩, List.forall_mem_cons.mpr ⟨⟨by decide, k1004⟩, fun q_ hq => absurd hq List.not_mem_nil⟩⟩⟩⟩⟩)
  have Ho : ymem (wxJ_v0_r v2 v3 v300 v301 v311 v312 v500) (yg (wxJ_v0_s a1000 a1001 a1002 a1003 a1004)) wxJ_v0_O h_ := List.forall_mem_cons.mpr ⟨bpat_some o0_, List.forall_mem_cons.mpr ⟨bpat_some o1, List.forall_mem_cons.mpr ⟨bpat_some o2, List.forall_mem_cons.mpr ⟨bpat_some o3_, List.forall_mem_cons.mpr ⟨bpat_some o4_, List.forall_mem_cons.mpr ⟨bpat_some o5_, List.forall_mem_cons.mpr ⟨bpat_some o6, fun q_ hq => absurd hq List.not_mem_nil⟩⟩⟩⟩⟩⟩⟩
  have HC : ∀ q_ ∈ wxJ_v0_C, xhold (wxJ_v0_r v2 v3 v300 v301 v311 v312 v500) q_ := List.forall_mem_cons.mpr ⟨xh_ltT c0_, List.forall_mem_cons.mpr ⟨xh_ltF c1_, List.forall_mem_cons.mpr ⟨xh_eqF2 c2_, List.forall_mem_cons.mpr ⟨xh_ltF c3_, fun q_ hq => absurd hq List.not_mem_nil⟩⟩⟩⟩
  rcases yrun (yis_ok wxJ_v0_k) hA Hs Ho HC with ⟨q_, hq, h', K_, G_⟩ | ⟨q_, hq, h', K_, G_⟩
  · have e_ := List.mem_singleton.mp hq
    subst e_
    exact ⟨h', yfr_sm K_.2.2.2 hs K_.1 (ywa_s wxJ_v0_w List.mem_cons_self), ⟨bpat_of (K_.2.1 _ List.mem_cons_self), fun a_ j_ n0_ => yfr_bp K_.2.2.2 (List.forall_mem_cons.mpr ⟨fun e_ => n0_ ⟨e_.1.symm, e_.2.symm⟩, fun q_ hq => absurd hq List.not_mem_nil⟩), G_⟩⟩
  · cases hq
-- wxJ_v1: 43 steps, 1 ends, 0 returns
def wxJ_v1_L : List (Nat × Nat × Nat) := [(1000, 9, 2), (1001, 6, 2), (1002, 20, 60), (1003, 20, 60), (1004, 20, 4)]
def wxJ_v1_O : yO := [(1000, .int 0, .index 1001), (1001, .int 1, .arg 300), (1001, .int 0, .index 1002), (1002, .arg 3, .arg 301), (1000, .int 1, .index 1003), (1003, .sub (.add (.arg 2) (.int (Int32.ofInt (-1)))) (.int 1), .arg 312), (1003, .add (.arg 2) (.int (Int32.ofInt (-1))), .arg 311)]
def wxJ_v1_A : yA := (yZ wxJ_v1_L, [(.arg 3, 60), (.arg 2, 60), (.add (.arg 2) (.int (Int32.ofInt (-1))), 60), (.sub (.add (.arg 2) (.int (Int32.ofInt (-1)))) (.int 1), 60)], [], [], [(61, [.sub (.arg 301) (.int 20000), .arg 312, .arg 311], .arg 500)])
def wxJ_v1_C : List xB := [(.lt, .arg 3, .arg 300, true), (.lt, .arg 301, .int 20000, false), (.eq, .arg 301, .int 20033, false), (.lt, .arg 2, .int 2, false)]
def wxJ_v1_ss : List yS := [(4, [(3, .add (.arg 3) (.int 1)), (2, .add (.arg 2) (.int (Int32.ofInt (-1)))), (4, .arg 301), (0, .index 1000), (1, .index 1004)], [], [(1003, .sub (.add (.arg 2) (.int (Int32.ofInt (-1)))) (.int 1), .arg 500), (1000, .int 0, .index 1001), (1001, .int 1, .arg 300), (1001, .int 0, .index 1002), (1000, .int 1, .index 1003)], [(.lt, .arg 3, .arg 300, true), (.lt, .arg 301, .int 20000, false), (.eq, .arg 301, .int 20033, false), (.lt, .arg 2, .int 2, false)], [(1003, .sub (.add (.arg 2) (.int (Int32.ofInt (-1)))) (.int 1))])]
def wxJ_v1_rs : List yR := []
theorem wxJ_v1_w : ywa wxJ_v1_A wxJ_v1_ss wxJ_v1_rs = true := by decide +kernel
theorem wxJ_v1_k : yis (yev wxJ_v1_A 3000 60 59 [4] (4, [(3, .arg 3), (2, .arg 2), (4, .arg 904), (0, .index 1000), (1, .index 1004)], [], wxJ_v1_O, wxJ_v1_C, [])) wxJ_v1_ss wxJ_v1_rs = true := by decide +kernel
def wxJ_v1_r (v2 v3 v300 v301 v311 v312 v500 v904 : Int32) (k_ : Nat) : Value := bif Nat.beq k_ 2 then .int v2 else (bif Nat.beq k_ 3 then .int v3 else (bif Nat.beq k_ 300 then .int v300 else (bif Nat.beq k_ 301 then .int v301 else (bif Nat.beq k_ 311 then .int v311 else (bif Nat.beq k_ 312 then .int v312 else (bif Nat.beq k_ 500 then .int v500 else (bif Nat.beq k_ 904 then .int v904 else (.int 0))))))))
def wxJ_v1_s (a1000 a1001 a1002 a1003 a1004 : Nat) (n_ : Nat) : Nat := bif Nat.beq n_ 1000 then a1000 else (bif Nat.beq n_ 1001 then a1001 else (bif Nat.beq n_ 1002 then a1002 else (bif Nat.beq n_ 1003 then a1003 else (bif Nat.beq n_ 1004 then a1004 else (0)))))
theorem wxJ_v1 {h_ : xH} {a1000 a1001 a1002 a1003 a1004 : Nat} {v2 v3 v300 v301 v311 v312 v500 v904 : Int32} (hs : sHp h_) (k1000 : bcq h_ a1000 9 2) (k1001 : bcq h_ a1001 6 2) (k1002 : bcq h_ a1002 20 60) (k1003 : bcq h_ a1003 20 60) (k1004 : bcq h_ a1004 20 4) (o0_ : bpat h_ a1000 0 = some (.index a1001)) (o1 : bpat h_ a1001 1 = some (.int v300)) (o2 : bpat h_ a1001 0 = some (.index a1002)) (o3_ : bpat h_ a1002 (v3).toInt.toNat = some (.int v301)) (o4_ : bpat h_ a1000 1 = some (.index a1003)) (o5_ : bpat h_ a1003 (((v2 + (Int32.ofInt (-1))) - (1 : Int32))).toInt.toNat = some (.int v312)) (o6 : bpat h_ a1003 ((v2 + (Int32.ofInt (-1)))).toInt.toNat = some (.int v311)) (b0 : 0 ≤ (v3).toInt ∧ (v3).toInt < 60) (b1 : 0 ≤ (v2).toInt ∧ (v2).toInt < 60) (b2 : 0 ≤ ((v2 + (Int32.ofInt (-1)))).toInt ∧ ((v2 + (Int32.ofInt (-1)))).toInt < 60) (b3 : 0 ≤ (((v2 + (Int32.ofInt (-1))) - (1 : Int32))).toInt ∧ (((v2 + (Int32.ofInt (-1))) - (1 : Int32))).toInt < 60) (p0_ : ∀ (h_ : xH) (D_ : Nat), 5 ≤ D_ → xrun D_ 61 0 [(0, .int (v301 - (20000 : Int32))), (1, .int v312), (2, .int v311)] [] h_ (some (.int v500), h_, [])) (c0_ : v3.toInt < v300.toInt) (c1_ : (20000 : Int32).toInt ≤ v301.toInt) (c2_ : ¬ v301 = (20033 : Int32)) (c3_ : (2 : Int32).toInt ≤ v2.toInt) : ∃ h', ysm h_ h' ∧ (((bpat h' a1003 (((v2 + (Int32.ofInt (-1))) - (1 : Int32))).toInt.toNat = some (.int v500)) ∧ (∀ a_ j_ : Nat, ¬ (a_ = a1003 ∧ j_ = (((v2 + (Int32.ofInt (-1))) - (1 : Int32))).toInt.toNat) → bpat h' a_ j_ = bpat h_ a_ j_) ∧ (bldD 60 59 4 [(3, .int v3), (2, .int v2), (4, .int v904), (0, .index a1000), (1, .index a1004)] [] h_ 4 [(3, .int (v3 + (1 : Int32))), (2, .int (v2 + (Int32.ofInt (-1)))), (4, .int v301), (0, .index a1000), (1, .index a1004)] [] h'))) := by
  have hA : yas wxJ_v1_A (wxJ_v1_r v2 v3 v300 v301 v311 v312 v500 v904) (yg (wxJ_v1_s a1000 a1001 a1002 a1003 a1004)) := ⟨List.forall_mem_cons.mpr ⟨b0, List.forall_mem_cons.mpr ⟨b1, List.forall_mem_cons.mpr ⟨b2, List.forall_mem_cons.mpr ⟨b3, fun q_ hq => absurd hq List.not_mem_nil⟩⟩⟩⟩, fun q_ hq => absurd hq List.not_mem_nil, fun q_ hq => absurd hq List.not_mem_nil, fun n_ hn => yg_lo hn, List.forall_mem_cons.mpr ⟨p0_, fun q_ hq => absurd hq List.not_mem_nil⟩⟩
  have Hs : ysh wxJ_v1_A.1 (yg (wxJ_v1_s a1000 a1001 a1002 a1003 a1004)) h_ := ysh_of2 hs (List.forall_mem_cons.mpr ⟨⟨by decide, k1000⟩, List.forall_mem_cons.mpr ⟨⟨by decide, k1001⟩, List.forall_mem_cons.mpr ⟨⟨by decide, k1002⟩, List.forall_mem_cons.mpr ⟨⟨by decide, k1003⟩, List.forall_mem_cons.mpr ⟨⟨by decide, k1004⟩, fun q_ hq => absurd hq List.not_mem_nil⟩⟩⟩⟩⟩)
  have Ho : ymem (wxJ_v1_r v2 v3 v300 v301 v311 v312 v500 v904) (yg (wxJ_v1_s a1000 a1001 a1002 a1003 a1004)) wxJ_v1_O h_ := List.forall_mem_cons.mpr ⟨bpat_some o0_, List.forall_mem_cons.mpr ⟨bpat_some o1, List.forall_mem_cons.mpr ⟨bpat_some o2, List.forall_mem_cons.mpr ⟨bpat_some o3_, List.forall_mem_cons.mpr ⟨bpat_some o4_, List.forall_mem_cons.mpr ⟨bpat_some o5_, List.forall_mem_cons.mpr ⟨bpat_some o6, fun q_ hq => absurd hq List.not_mem_nil⟩⟩⟩⟩⟩⟩⟩
  have HC : ∀ q_ ∈ wxJ_v1_C, xhold (wxJ_v1_r v2 v3 v300 v301 v311 v312 v500 v904) q_ := List.forall_mem_cons.mpr ⟨xh_ltT c0_, List.forall_mem_cons.mpr ⟨xh_ltF c1_, List.forall_mem_cons.mpr ⟨xh_eqF2 c2_, List.forall_mem_cons.mpr ⟨xh_ltF c3_, fun q_ hq => absurd hq List.not_mem_nil⟩⟩⟩⟩
  rcases yrun (yis_ok wxJ_v1_k) hA Hs Ho HC with ⟨q_, hq, h', K_, G_⟩ | ⟨q_, hq, h', K_, G_⟩
  · have e_ := List.mem_singleton.mp hq
    subst e_
    exact ⟨h', yfr_sm K_.2.2.2 hs K_.1 (ywa_s wxJ_v1_w List.mem_cons_self), ⟨bpat_of (K_.2.1 _ List.mem_cons_self), fun a_ j_ n0_ => yfr_bp K_.2.2.2 (List.forall_mem_cons.mpr ⟨fun e_ => n0_ ⟨e_.1.symm, e_.2.symm⟩, fun q_ hq => absurd hq List.not_mem_nil⟩), G_⟩⟩
  · cases hq
-- wxJ_v2: 43 steps, 1 ends, 0 returns
def wxJ_v2_L : List (Nat × Nat × Nat) := [(1000, 9, 2), (1001, 6, 2), (1002, 20, 60), (1003, 20, 60), (1004, 20, 4)]
def wxJ_v2_O : yO := [(1000, .int 0, .index 1001), (1001, .int 1, .arg 300), (1001, .int 0, .index 1002), (1002, .arg 3, .arg 301), (1000, .int 1, .index 1003), (1003, .sub (.add (.arg 2) (.int (Int32.ofInt (-1)))) (.int 1), .arg 312), (1003, .add (.arg 2) (.int (Int32.ofInt (-1))), .arg 311)]
def wxJ_v2_A : yA := (yZ wxJ_v2_L, [(.arg 3, 60), (.arg 2, 60), (.add (.arg 2) (.int (Int32.ofInt (-1))), 60), (.sub (.add (.arg 2) (.int (Int32.ofInt (-1)))) (.int 1), 60)], [], [], [(61, [.sub (.arg 301) (.int 20000), .arg 312, .arg 311], .arg 500)])
def wxJ_v2_C : List xB := [(.lt, .arg 3, .arg 300, true), (.lt, .arg 301, .int 20000, false), (.eq, .arg 301, .int 20033, false), (.lt, .arg 2, .int 2, false)]
def wxJ_v2_ss : List yS := [(4, [(3, .add (.arg 3) (.int 1)), (2, .add (.arg 2) (.int (Int32.ofInt (-1)))), (4, .arg 301), (0, .index 1000), (1, .index 1004)], [], [(1003, .sub (.add (.arg 2) (.int (Int32.ofInt (-1)))) (.int 1), .arg 500), (1000, .int 0, .index 1001), (1001, .int 1, .arg 300), (1001, .int 0, .index 1002), (1000, .int 1, .index 1003)], [(.lt, .arg 3, .arg 300, true), (.lt, .arg 301, .int 20000, false), (.eq, .arg 301, .int 20033, false), (.lt, .arg 2, .int 2, false)], [(1003, .sub (.add (.arg 2) (.int (Int32.ofInt (-1)))) (.int 1))])]
def wxJ_v2_rs : List yR := []
theorem wxJ_v2_w : ywa wxJ_v2_A wxJ_v2_ss wxJ_v2_rs = true := by decide +kernel
theorem wxJ_v2_k : yis (yev wxJ_v2_A 3000 60 59 [4] (4, [(3, .arg 3), (4, .arg 904), (2, .arg 2), (0, .index 1000), (1, .index 1004)], [], wxJ_v2_O, wxJ_v2_C, [])) wxJ_v2_ss wxJ_v2_rs = true := by decide +kernel
def wxJ_v2_r (v2 v3 v300 v301 v311 v312 v500 v904 : Int32) (k_ : Nat) : Value := bif Nat.beq k_ 2 then .int v2 else (bif Nat.beq k_ 3 then .int v3 else (bif Nat.beq k_ 300 then .int v300 else (bif Nat.beq k_ 301 then .int v301 else (bif Nat.beq k_ 311 then .int v311 else (bif Nat.beq k_ 312 then .int v312 else (bif Nat.beq k_ 500 then .int v500 else (bif Nat.beq k_ 904 then .int v904 else (.int 0))))))))
def wxJ_v2_s (a1000 a1001 a1002 a1003 a1004 : Nat) (n_ : Nat) : Nat := bif Nat.beq n_ 1000 then a1000 else (bif Nat.beq n_ 1001 then a1001 else (bif Nat.beq n_ 1002 then a1002 else (bif Nat.beq n_ 1003 then a1003 else (bif Nat.beq n_ 1004 then a1004 else (0)))))
theorem wxJ_v2 {h_ : xH} {a1000 a1001 a1002 a1003 a1004 : Nat} {v2 v3 v300 v301 v311 v312 v500 v904 : Int32} (hs : sHp h_) (k1000 : bcq h_ a1000 9 2) (k1001 : bcq h_ a1001 6 2) (k1002 : bcq h_ a1002 20 60) (k1003 : bcq h_ a1003 20 60) (k1004 : bcq h_ a1004 20 4) (o0_ : bpat h_ a1000 0 = some (.index a1001)) (o1 : bpat h_ a1001 1 = some (.int v300)) (o2 : bpat h_ a1001 0 = some (.index a1002)) (o3_ : bpat h_ a1002 (v3).toInt.toNat = some (.int v301)) (o4_ : bpat h_ a1000 1 = some (.index a1003)) (o5_ : bpat h_ a1003 (((v2 + (Int32.ofInt (-1))) - (1 : Int32))).toInt.toNat = some (.int v312)) (o6 : bpat h_ a1003 ((v2 + (Int32.ofInt (-1)))).toInt.toNat = some (.int v311)) (b0 : 0 ≤ (v3).toInt ∧ (v3).toInt < 60) (b1 : 0 ≤ (v2).toInt ∧ (v2).toInt < 60) (b2 : 0 ≤ ((v2 + (Int32.ofInt (-1)))).toInt ∧ ((v2 + (Int32.ofInt (-1)))).toInt < 60) (b3 : 0 ≤ (((v2 + (Int32.ofInt (-1))) - (1 : Int32))).toInt ∧ (((v2 + (Int32.ofInt (-1))) - (1 : Int32))).toInt < 60) (p0_ : ∀ (h_ : xH) (D_ : Nat), 5 ≤ D_ → xrun D_ 61 0 [(0, .int (v301 - (20000 : Int32))), (1, .int v312), (2, .int v311)] [] h_ (some (.int v500), h_, [])) (c0_ : v3.toInt < v300.toInt) (c1_ : (20000 : Int32).toInt ≤ v301.toInt) (c2_ : ¬ v301 = (20033 : Int32)) (c3_ : (2 : Int32).toInt ≤ v2.toInt) : ∃ h', ysm h_ h' ∧ (((bpat h' a1003 (((v2 + (Int32.ofInt (-1))) - (1 : Int32))).toInt.toNat = some (.int v500)) ∧ (∀ a_ j_ : Nat, ¬ (a_ = a1003 ∧ j_ = (((v2 + (Int32.ofInt (-1))) - (1 : Int32))).toInt.toNat) → bpat h' a_ j_ = bpat h_ a_ j_) ∧ (bldD 60 59 4 [(3, .int v3), (4, .int v904), (2, .int v2), (0, .index a1000), (1, .index a1004)] [] h_ 4 [(3, .int (v3 + (1 : Int32))), (2, .int (v2 + (Int32.ofInt (-1)))), (4, .int v301), (0, .index a1000), (1, .index a1004)] [] h'))) := by
  have hA : yas wxJ_v2_A (wxJ_v2_r v2 v3 v300 v301 v311 v312 v500 v904) (yg (wxJ_v2_s a1000 a1001 a1002 a1003 a1004)) := ⟨List.forall_mem_cons.mpr ⟨b0, List.forall_mem_cons.mpr ⟨b1, List.forall_mem_cons.mpr ⟨b2, List.forall_mem_cons.mpr ⟨b3, fun q_ hq => absurd hq List.not_mem_nil⟩⟩⟩⟩, fun q_ hq => absurd hq List.not_mem_nil, fun q_ hq => absurd hq List.not_mem_nil, fun n_ hn => yg_lo hn, List.forall_mem_cons.mpr ⟨p0_, fun q_ hq => absurd hq List.not_mem_nil⟩⟩
  have Hs : ysh wxJ_v2_A.1 (yg (wxJ_v2_s a1000 a1001 a1002 a1003 a1004)) h_ := ysh_of2 hs (List.forall_mem_cons.mpr ⟨⟨by decide, k1000⟩, List.forall_mem_cons.mpr ⟨⟨by decide, k1001⟩, List.forall_mem_cons.mpr ⟨⟨by decide, k1002⟩, List.forall_mem_cons.mpr ⟨⟨by decide, k1003⟩, List.forall_mem_cons.mpr ⟨⟨by decide, k1004⟩, fun q_ hq => absurd hq List.not_mem_nil⟩⟩⟩⟩⟩)
  have Ho : ymem (wxJ_v2_r v2 v3 v300 v301 v311 v312 v500 v904) (yg (wxJ_v2_s a1000 a1001 a1002 a1003 a1004)) wxJ_v2_O h_ := List.forall_mem_cons.mpr ⟨bpat_some o0_, List.forall_mem_cons.mpr ⟨bpat_some o1, List.forall_mem_cons.mpr ⟨bpat_some o2, List.forall_mem_cons.mpr ⟨bpat_some o3_, List.forall_mem_cons.mpr ⟨bpat_some o4_, List.forall_mem_cons.mpr ⟨bpat_some o5_, List.forall_mem_cons.mpr ⟨bpat_some o6, fun q_ hq => absurd hq List.not_mem_nil⟩⟩⟩⟩⟩⟩⟩
  have HC : ∀ q_ ∈ wxJ_v2_C, xhold (wxJ_v2_r v2 v3 v300 v301 v311 v312 v500 v904) q_ := List.forall_mem_cons.mpr ⟨xh_ltT c0_, List.forall_mem_cons.mpr ⟨xh_ltF c1_, List.forall_mem_cons.mpr ⟨xh_eqF2 c2_, List.forall_mem_cons.mpr ⟨xh_ltF c3_, fun q_ hq => absurd hq List.not_mem_nil⟩⟩⟩⟩
  rcases yrun (yis_ok wxJ_v2_k) hA Hs Ho HC with ⟨q_, hq, h', K_, G_⟩ | ⟨q_, hq, h', K_, G_⟩
  · have e_ := List.mem_singleton.mp hq
    subst e_
    exact ⟨h', yfr_sm K_.2.2.2 hs K_.1 (ywa_s wxJ_v2_w List.mem_cons_self), ⟨bpat_of (K_.2.1 _ List.mem_cons_self), fun a_ j_ n0_ => yfr_bp K_.2.2.2 (List.forall_mem_cons.mpr ⟨fun e_ => n0_ ⟨e_.1.symm, e_.2.symm⟩, fun q_ hq => absurd hq List.not_mem_nil⟩), G_⟩⟩
  · cases hq
theorem wxJ {h_ : xH} {a1000 a1001 a1002 a1003 a1004 : Nat} {v2 v3 v300 v301 v311 v312 v500 : Int32} {lo_ : xL} (hs : sHp h_) (k1000 : bcq h_ a1000 9 2) (k1001 : bcq h_ a1001 6 2) (k1002 : bcq h_ a1002 20 60) (k1003 : bcq h_ a1003 20 60) (k1004 : bcq h_ a1004 20 4) (o0_ : bpat h_ a1000 0 = some (.index a1001)) (o1 : bpat h_ a1001 1 = some (.int v300)) (o2 : bpat h_ a1001 0 = some (.index a1002)) (o3_ : bpat h_ a1002 (v3).toInt.toNat = some (.int v301)) (o4_ : bpat h_ a1000 1 = some (.index a1003)) (o5_ : bpat h_ a1003 (((v2 + (Int32.ofInt (-1))) - (1 : Int32))).toInt.toNat = some (.int v312)) (o6 : bpat h_ a1003 ((v2 + (Int32.ofInt (-1)))).toInt.toNat = some (.int v311)) (b0 : 0 ≤ (v3).toInt ∧ (v3).toInt < 60) (b1 : 0 ≤ (v2).toInt ∧ (v2).toInt < 60) (b2 : 0 ≤ ((v2 + (Int32.ofInt (-1)))).toInt ∧ ((v2 + (Int32.ofInt (-1)))).toInt < 60) (b3 : 0 ≤ (((v2 + (Int32.ofInt (-1))) - (1 : Int32))).toInt ∧ (((v2 + (Int32.ofInt (-1))) - (1 : Int32))).toInt < 60) (p0_ : ∀ (h_ : xH) (D_ : Nat), 5 ≤ D_ → xrun D_ 61 0 [(0, .int (v301 - (20000 : Int32))), (1, .int v312), (2, .int v311)] [] h_ (some (.int v500), h_, [])) (c0_ : v3.toInt < v300.toInt) (c1_ : (20000 : Int32).toInt ≤ v301.toInt) (c2_ : ¬ v301 = (20033 : Int32)) (c3_ : (2 : Int32).toInt ≤ v2.toInt) (H_ : wxN_hd a1000 a1004 v2 v3 lo_) : ∃ h', ysm h_ h' ∧ (((bpat h' a1003 (((v2 + (Int32.ofInt (-1))) - (1 : Int32))).toInt.toNat = some (.int v500)) ∧ (∀ a_ j_ : Nat, ¬ (a_ = a1003 ∧ j_ = (((v2 + (Int32.ofInt (-1))) - (1 : Int32))).toInt.toNat) → bpat h' a_ j_ = bpat h_ a_ j_) ∧ (∃ lo', wxN_hd a1000 a1004 (v2 + (Int32.ofInt (-1))) (v3 + (1 : Int32)) lo' ∧ bldD 60 59 4 lo_ [] h_ 4 lo' [] h'))) := by
  rcases H_ with rfl | ⟨y4, rfl⟩ | ⟨y4, rfl⟩
  · obtain ⟨h', m_, e_⟩ := wxJ_v0 hs k1000 k1001 k1002 k1003 k1004 o0_ o1 o2 o3_ o4_ o5_ o6 b0 b1 b2 b3 p0_ c0_ c1_ c2_ c3_
    refine ⟨h', m_, ?_⟩
    obtain ⟨g0, g1, g2⟩ := e_
    exact ⟨g0, g1, ⟨_, Or.inr (Or.inl (⟨_, rfl⟩)), g2⟩⟩
  · obtain ⟨h', m_, e_⟩ := wxJ_v1 hs k1000 k1001 k1002 k1003 k1004 o0_ o1 o2 o3_ o4_ o5_ o6 b0 b1 b2 b3 p0_ c0_ c1_ c2_ c3_
    refine ⟨h', m_, ?_⟩
    obtain ⟨g0, g1, g2⟩ := e_
    exact ⟨g0, g1, ⟨_, Or.inr (Or.inl (⟨_, rfl⟩)), g2⟩⟩
  · obtain ⟨h', m_, e_⟩ := wxJ_v2 hs k1000 k1001 k1002 k1003 k1004 o0_ o1 o2 o3_ o4_ o5_ o6 b0 b1 b2 b3 p0_ c0_ c1_ c2_ c3_
    refine ⟨h', m_, ?_⟩
    obtain ⟨g0, g1, g2⟩ := e_
    exact ⟨g0, g1, ⟨_, Or.inr (Or.inl (⟨_, rfl⟩)), g2⟩⟩
-- wxE_v0: 10 steps, 0 ends, 1 returns
def wxE_v0_L : List (Nat × Nat × Nat) := [(1000, 9, 2), (1001, 6, 2), (1002, 20, 60), (1003, 20, 60), (1004, 20, 4)]
def wxE_v0_O : yO := [(1000, .int 0, .index 1001), (1001, .int 1, .arg 300), (1000, .int 1, .index 1003), (1003, .int 0, .arg 330)]
def wxE_v0_A : yA := (yZ wxE_v0_L, [], [], [], [])
def wxE_v0_C : List xB := [(.lt, .arg 3, .arg 300, false)]
def wxE_v0_ss : List yS := []
def wxE_v0_rs : List yR := [(some (.arg 330), [(1000, .int 0, .index 1001), (1001, .int 1, .arg 300), (1000, .int 1, .index 1003), (1003, .int 0, .arg 330)], [(.lt, .arg 3, .arg 300, false)], [])]
theorem wxE_v0_w : ywa wxE_v0_A wxE_v0_ss wxE_v0_rs = true := by decide +kernel
theorem wxE_v0_k : yis (yev wxE_v0_A 3000 60 59 [4] (4, [(3, .arg 3), (2, .arg 2), (0, .index 1000), (1, .index 1004)], [], wxE_v0_O, wxE_v0_C, [])) wxE_v0_ss wxE_v0_rs = true := by decide +kernel
def wxE_v0_r (v2 v3 v300 v330 : Int32) (k_ : Nat) : Value := bif Nat.beq k_ 2 then .int v2 else (bif Nat.beq k_ 3 then .int v3 else (bif Nat.beq k_ 300 then .int v300 else (bif Nat.beq k_ 330 then .int v330 else (.int 0))))
def wxE_v0_s (a1000 a1001 a1002 a1003 a1004 : Nat) (n_ : Nat) : Nat := bif Nat.beq n_ 1000 then a1000 else (bif Nat.beq n_ 1001 then a1001 else (bif Nat.beq n_ 1002 then a1002 else (bif Nat.beq n_ 1003 then a1003 else (bif Nat.beq n_ 1004 then a1004 else (0)))))
theorem wxE_v0 {h_ : xH} {a1000 a1001 a1002 a1003 a1004 : Nat} {v2 v3 v300 v330 : Int32} (hs : sHp h_) (k1000 : bcq h_ a1000 9 2) (k1001 : bcq h_ a1001 6 2) (k1002 : bcq h_ a1002 20 60) (k1003 : bcq h_ a1003 20 60) (k1004 : bcq h_ a1004 20 4) (o0_ : bpat h_ a1000 0 = some (.index a1001)) (o1 : bpat h_ a1001 1 = some (.int v300)) (o2 : bpat h_ a1000 1 = some (.index a1003)) (o3_ : bpat h_ a1003 0 = some (.int v330)) (c0_ : v300.toInt ≤ v3.toInt) : ∃ h', ysm h_ h' ∧ (((∀ a_ j_ : Nat, bpat h' a_ j_ = bpat h_ a_ j_) ∧ (∀ D_, 60 ≤ D_ → xrun D_ 59 4 [(3, .int v3), (2, .int v2), (0, .index a1000), (1, .index a1004)] [] h_ (some (.int v330), h', [])))) := by
  have hA : yas wxE_v0_A (wxE_v0_r v2 v3 v300 v330) (yg (wxE_v0_s a1000 a1001 a1002 a1003 a1004)) := ⟨fun q_ hq => absurd hq List.not_mem_nil, fun q_ hq => absurd hq List.not_mem_nil, fun q_ hq => absurd hq List.not_mem_nil, fun n_ hn => yg_lo hn, fun q_ hq => absurd hq List.not_mem_nil⟩
  have Hs : ysh wxE_v0_A.1 (yg (wxE_v0_s a1000 a1001 a1002 a1003 a1004)) h_ := ysh_of2 hs (List.forall_mem_cons.mpr ⟨⟨by decide, k1000⟩, List.forall_mem_cons.mpr ⟨⟨by decide, k1001⟩, List.forall_mem_cons.mpr ⟨⟨by decide, k1002⟩, List.forall_mem_cons.mpr ⟨⟨by decide, k1003⟩, List.forall_mem_cons.mpr ⟨⟨by decide, k1004⟩, fun q_ hq => absurd hq List.not_mem_nil⟩⟩⟩⟩⟩)
  have Ho : ymem (wxE_v0_r v2 v3 v300 v330) (yg (wxE_v0_s a1000 a1001 a1002 a1003 a1004)) wxE_v0_O h_ := List.forall_mem_cons.mpr ⟨bpat_some o0_, List.forall_mem_cons.mpr ⟨bpat_some o1, List.forall_mem_cons.mpr ⟨bpat_some o2, List.forall_mem_cons.mpr ⟨bpat_some o3_, fun q_ hq => absurd hq List.not_mem_nil⟩⟩⟩⟩
  have HC : ∀ q_ ∈ wxE_v0_C, xhold (wxE_v0_r v2 v3 v300 v330) q_ := List.forall_mem_cons.mpr ⟨xh_ltF c0_, fun q_ hq => absurd hq List.not_mem_nil⟩
  rcases yrun (yis_ok wxE_v0_k) hA Hs Ho HC with ⟨q_, hq, h', K_, G_⟩ | ⟨q_, hq, h', K_, G_⟩
  · cases hq
  · have e_ := List.mem_singleton.mp hq
    subst e_
    exact ⟨h', yfr_sm K_.2.2.2 hs K_.1 (ywa_r wxE_v0_w List.mem_cons_self), ⟨fun a_ j_ => yfr_bp K_.2.2.2 (fun q_ hq => absurd hq List.not_mem_nil), G_⟩⟩
-- wxE_v1: 10 steps, 0 ends, 1 returns
def wxE_v1_L : List (Nat × Nat × Nat) := [(1000, 9, 2), (1001, 6, 2), (1002, 20, 60), (1003, 20, 60), (1004, 20, 4)]
def wxE_v1_O : yO := [(1000, .int 0, .index 1001), (1001, .int 1, .arg 300), (1000, .int 1, .index 1003), (1003, .int 0, .arg 330)]
def wxE_v1_A : yA := (yZ wxE_v1_L, [], [], [], [])
def wxE_v1_C : List xB := [(.lt, .arg 3, .arg 300, false)]
def wxE_v1_ss : List yS := []
def wxE_v1_rs : List yR := [(some (.arg 330), [(1000, .int 0, .index 1001), (1001, .int 1, .arg 300), (1000, .int 1, .index 1003), (1003, .int 0, .arg 330)], [(.lt, .arg 3, .arg 300, false)], [])]
theorem wxE_v1_w : ywa wxE_v1_A wxE_v1_ss wxE_v1_rs = true := by decide +kernel
theorem wxE_v1_k : yis (yev wxE_v1_A 3000 60 59 [4] (4, [(3, .arg 3), (2, .arg 2), (4, .arg 904), (0, .index 1000), (1, .index 1004)], [], wxE_v1_O, wxE_v1_C, [])) wxE_v1_ss wxE_v1_rs = true := by decide +kernel
def wxE_v1_r (v2 v3 v300 v330 v904 : Int32) (k_ : Nat) : Value := bif Nat.beq k_ 2 then .int v2 else (bif Nat.beq k_ 3 then .int v3 else (bif Nat.beq k_ 300 then .int v300 else (bif Nat.beq k_ 330 then .int v330 else (bif Nat.beq k_ 904 then .int v904 else (.int 0)))))
def wxE_v1_s (a1000 a1001 a1002 a1003 a1004 : Nat) (n_ : Nat) : Nat := bif Nat.beq n_ 1000 then a1000 else (bif Nat.beq n_ 1001 then a1001 else (bif Nat.beq n_ 1002 then a1002 else (bif Nat.beq n_ 1003 then a1003 else (bif Nat.beq n_ 1004 then a1004 else (0)))))
theorem wxE_v1 {h_ : xH} {a1000 a1001 a1002 a1003 a1004 : Nat} {v2 v3 v300 v330 v904 : Int32} (hs : sHp h_) (k1000 : bcq h_ a1000 9 2) (k1001 : bcq h_ a1001 6 2) (k1002 : bcq h_ a1002 20 60) (k1003 : bcq h_ a1003 20 60) (k1004 : bcq h_ a1004 20 4) (o0_ : bpat h_ a1000 0 = some (.index a1001)) (o1 : bpat h_ a1001 1 = some (.int v300)) (o2 : bpat h_ a1000 1 = some (.index a1003)) (o3_ : bpat h_ a1003 0 = some (.int v330)) (c0_ : v300.toInt ≤ v3.toInt) : ∃ h', ysm h_ h' ∧ (((∀ a_ j_ : Nat, bpat h' a_ j_ = bpat h_ a_ j_) ∧ (∀ D_, 60 ≤ D_ → xrun D_ 59 4 [(3, .int v3), (2, .int v2), (4, .int v904), (0, .index a1000), (1, .index a1004)] [] h_ (some (.int v330), h', [])))) := by
  have hA : yas wxE_v1_A (wxE_v1_r v2 v3 v300 v330 v904) (yg (wxE_v1_s a1000 a1001 a1002 a1003 a1004)) := ⟨fun q_ hq => absurd hq List.not_mem_nil, fun q_ hq => absurd hq List.not_mem_nil, fun q_ hq => absurd hq List.not_mem_nil, fun n_ hn => yg_lo hn, fun q_ hq => absurd hq List.not_mem_nil⟩
  have Hs : ysh wxE_v1_A.1 (yg (wxE_v1_s a1000 a1001 a1002 a1003 a1004)) h_ := ysh_of2 hs (List.forall_mem_cons.mpr ⟨⟨by decide, k1000⟩, List.forall_mem_cons.mpr ⟨⟨by decide, k1001⟩, List.forall_mem_cons.mpr ⟨⟨by decide, k1002⟩, List.forall_mem_cons.mpr ⟨⟨by decide, k1003⟩, List.forall_mem_cons.mpr ⟨⟨by decide, k1004⟩, fun q_ hq => absurd hq List.not_mem_nil⟩⟩⟩⟩⟩)
  have Ho : ymem (wxE_v1_r v2 v3 v300 v330 v904) (yg (wxE_v1_s a1000 a1001 a1002 a1003 a1004)) wxE_v1_O h_ := List.forall_mem_cons.mpr ⟨bpat_some o0_, List.forall_mem_cons.mpr ⟨bpat_some o1, List.forall_mem_cons.mpr ⟨bpat_some o2, List.forall_mem_cons.mpr ⟨bpat_some o3_, fun q_ hq => absurd hq List.not_mem_nil⟩⟩⟩⟩
  have HC : ∀ q_ ∈ wxE_v1_C, xhold (wxE_v1_r v2 v3 v300 v330 v904) q_ := List.forall_mem_cons.mpr ⟨xh_ltF c0_, fun q_ hq => absurd hq List.not_mem_nil⟩
  rcases yrun (yis_ok wxE_v1_k) hA Hs Ho HC with ⟨q_, hq, h', K_, G_⟩ | ⟨q_, hq, h', K_, G_⟩
  · cases hq
  · have e_ := List.mem_singleton.mp hq
    subst e_
    exact ⟨h', yfr_sm K_.2.2.2 hs K_.1 (ywa_r wxE_v1_w List.mem_cons_self), ⟨fun a_ j_ => yfr_bp K_.2.2.2 (fun q_ hq => absurd hq List.not_mem_nil), G_⟩⟩
-- wxE_v2: 10 steps, 0 ends, 1 returns
def wxE_v2_L : List (Nat × Nat × Nat) := [(1000, 9, 2), (1001, 6, 2), (1002, 20, 60), (1003, 20, 60), (1004, 20, 4)]
def wxE_v2_O : yO := [(1000, .int 0, .index 1001), (1001, .int 1, .arg 300), (1000, .int 1, .index 1003), (1003, .int 0, .arg 330)]
def wxE_v2_A : yA := (yZ wxE_v2_L, [], [], [], [])
def wxE_v2_C : List xB := [(.lt, .arg 3, .arg 300, false)]
def wxE_v2_ss : List yS := []
def wxE_v2_rs : List yR := [(some (.arg 330), [(1000, .int 0, .index 1001), (1001, .int 1, .arg 300), (1000, .int 1, .index 1003), (1003, .int 0, .arg 330)], [(.lt, .arg 3, .arg 300, false)], [])]
theorem wxE_v2_w : ywa wxE_v2_A wxE_v2_ss wxE_v2_rs = true := by decide +kernel
theorem wxE_v2_k : yis (yev wxE_v2_A 3000 60 59 [4] (4, [(3, .arg 3), (4, .arg 904), (2, .arg 2), (0, .index 1000), (1, .index 1004)], [], wxE_v2_O, wxE_v2_C, [])) wxE_v2_ss wxE_v2_rs = true := by decide +kernel
def wxE_v2_r (v2 v3 v300 v330 v904 : Int32) (k_ : Nat) : Value := bif Nat.beq k_ 2 then .int v2 else (bif Nat.beq k_ 3 then .int v3 else (bif Nat.beq k_ 300 then .int v300 else (bif Nat.beq k_ 330 then .int v330 else (bif Nat.beq k_ 904 then .int v904 else (.int 0)))))
def wxE_v2_s (a1000 a1001 a1002 a1003 a1004 : Nat) (n_ : Nat) : Nat := bif Nat.beq n_ 1000 then a1000 else (bif Nat.beq n_ 1001 then a1001 else (bif Nat.beq n_ 1002 then a1002 else (bif Nat.beq n_ 1003 then a1003 else (bif Nat.beq n_ 1004 then a1004 else (0)))))
theorem wxE_v2 {h_ : xH} {a1000 a1001 a1002 a1003 a1004 : Nat} {v2 v3 v300 v330 v904 : Int32} (hs : sHp h_) (k1000 : bcq h_ a1000 9 2) (k1001 : bcq h_ a1001 6 2) (k1002 : bcq h_ a1002 20 60) (k1003 : bcq h_ a1003 20 60) (k1004 : bcq h_ a1004 20 4) (o0_ : bpat h_ a1000 0 = some (.index a1001)) (o1 : bpat h_ a1001 1 = some (.int v300)) (o2 : bpat h_ a1000 1 = some (.index a1003)) (o3_ : bpat h_ a1003 0 = some (.int v330)) (c0_ : v300.toInt ≤ v3.toInt) : ∃ h', ysm h_ h' ∧ (((∀ a_ j_ : Nat, bpat h' a_ j_ = bpat h_ a_ j_) ∧ (∀ D_, 60 ≤ D_ → xrun D_ 59 4 [(3, .int v3), (4, .int v904), (2, .int v2), (0, .index a1000), (1, .index a1004)] [] h_ (some (.int v330), h', [])))) := by
  have hA : yas wxE_v2_A (wxE_v2_r v2 v3 v300 v330 v904) (yg (wxE_v2_s a1000 a1001 a1002 a1003 a1004)) := ⟨fun q_ hq => absurd hq List.not_mem_nil, fun q_ hq => absurd hq List.not_mem_nil, fun q_ hq => absurd hq List.not_mem_nil, fun n_ hn => yg_lo hn, fun q_ hq => absurd hq List.not_mem_nil⟩
  have Hs : ysh wxE_v2_A.1 (yg (wxE_v2_s a1000 a1001 a1002 a1003 a1004)) h_ := ysh_of2 hs (List.forall_mem_cons.mpr ⟨⟨by decide, k1000⟩, List.forall_mem_cons.mpr ⟨⟨by decide, k1001⟩, List.forall_mem_cons.mpr ⟨⟨by decide, k1002⟩, List.forall_mem_cons.mpr ⟨⟨by decide, k1003⟩, List.forall_mem_cons.mpr ⟨⟨by decide, k1004⟩, fun q_ hq => absurd hq List.not_mem_nil⟩⟩⟩⟩⟩)
  have Ho : ymem (wxE_v2_r v2 v3 v300 v330 v904) (yg (wxE_v2_s a1000 a1001 a1002 a1003 a1004)) wxE_v2_O h_ := List.forall_mem_cons.mpr ⟨bpat_some o0_, List.forall_mem_cons.mpr ⟨bpat_some o1, List.forall_mem_cons.mpr ⟨bpat_some o2, List.forall_mem_cons.mpr ⟨bpat_some o3_, fun q_ hq => absurd hq List.not_mem_nil⟩⟩⟩⟩
  have HC : ∀ q_ ∈ wxE_v2_C, xhold (wxE_v2_r v2 v3 v300 v330 v904) q_ := List.forall_mem_cons.mpr ⟨xh_ltF c0_, fun q_ hq => absurd hq List.not_mem_nil⟩
  rcases yrun (yis_ok wxE_v2_k) hA Hs Ho HC with ⟨q_, hq, h', K_, G_⟩ | ⟨q_, hq, h', K_, G_⟩
  · cases hq
  · have e_ := List.mem_singleton.mp hq
    subst e_
    exact ⟨h', yfr_sm K_.2.2.2 hs K_.1 (ywa_r wxE_v2_w List.mem_cons_self), ⟨fun a_ j_ => yfr_bp K_.2.2.2 (fun q_ hq => absurd hq List.not_mem_nil), G_⟩⟩
theorem wxE {h_ : xH} {a1000 a1001 a1002 a1003 a1004 : Nat} {v2 v3 v300 v330 : Int32} {lo_ : xL} (hs : sHp h_) (k1000 : bcq h_ a1000 9 2) (k1001 : bcq h_ a1001 6 2) (k1002 : bcq h_ a1002 20 60) (k1003 : bcq h_ a1003 20 60) (k1004 : bcq h_ a1004 20 4) (o0_ : bpat h_ a1000 0 = some (.index a1001)) (o1 : bpat h_ a1001 1 = some (.int v300)) (o2 : bpat h_ a1000 1 = some (.index a1003)) (o3_ : bpat h_ a1003 0 = some (.int v330)) (c0_ : v300.toInt ≤ v3.toInt) (H_ : wxN_hd a1000 a1004 v2 v3 lo_) : ∃ h', ysm h_ h' ∧ (((∀ a_ j_ : Nat, bpat h' a_ j_ = bpat h_ a_ j_) ∧ (∀ D_, 60 ≤ D_ → xrun D_ 59 4 lo_ [] h_ (some (.int v330), h', [])))) := by
  rcases H_ with rfl | ⟨y4, rfl⟩ | ⟨y4, rfl⟩
  · obtain ⟨h', m_, e_⟩ := wxE_v0 hs k1000 k1001 k1002 k1003 k1004 o0_ o1 o2 o3_ c0_
    refine ⟨h', m_, ?_⟩
    obtain ⟨g0, g1⟩ := e_
    exact ⟨g0, g1⟩
  · obtain ⟨h', m_, e_⟩ := wxE_v1 hs k1000 k1001 k1002 k1003 k1004 o0_ o1 o2 o3_ c0_
    refine ⟨h', m_, ?_⟩
    obtain ⟨g0, g1⟩ := e_
    exact ⟨g0, g1⟩
  · obtain ⟨h', m_, e_⟩ := wxE_v2 hs k1000 k1001 k1002 k1003 k1004 o0_ o1 o2 o3_ c0_
    refine ⟨h', m_, ?_⟩
    obtain ⟨g0, g1⟩ := e_
    exact ⟨g0, g1⟩
-- wx0: 4 steps, 1 ends, 0 returns
def wx0_L : List (Nat × Nat × Nat) := [(1000, 9, 2), (1004, 20, 4)]
def wx0_O : yO := []
def wx0_A : yA := (yZ wx0_L, [], [], [], [])
def wx0_C : List xB := []
def wx0_ss : List yS := [(4, [(3, .int 0), (2, .int 0), (0, .index 1000), (1, .index 1004)], [], [], [], [])]
def wx0_rs : List yR := []
theorem wx0_w : ywa wx0_A wx0_ss wx0_rs = true := by decide +kernel
theorem wx0_k : yis (yev wx0_A 3000 60 59 [4] (0, [(0, .index 1000), (1, .index 1004)], [], wx0_O, wx0_C, [])) wx0_ss wx0_rs = true := by decide +kernel
def wx0_r (k_ : Nat) : Value := .int 0
def wx0_s (a1000 a1004 : Nat) (n_ : Nat) : Nat := bif Nat.beq n_ 1000 then a1000 else (bif Nat.beq n_ 1004 then a1004 else (0))
theorem wx0 {h_ : xH} {a1000 a1004 : Nat} (hs : sHp h_) (k1000 : bcq h_ a1000 9 2) (k1004 : bcq h_ a1004 20 4) : ∃ h', ysm h_ h' ∧ (((∀ a_ j_ : Nat, bpat h' a_ j_ = bpat h_ a_ j_) ∧ (bldD 60 59 0 [(0, .index a1000), (1, .index a1004)] [] h_ 4 [(3, .int (0 : Int32)), (2, .int (0 : Int32)), (0, .index a1000), (1, .index a1004)] [] h'))) := by
  have hA : yas wx0_A wx0_r (yg (wx0_s a1000 a1004)) := ⟨fun q_ hq => absurd hq List.not_mem_nil, fun q_ hq => absurd hq List.not_mem_nil, fun q_ hq => absurd hq List.not_mem_nil, fun n_ hn => yg_lo hn, fun q_ hq => absurd hq List.not_mem_nil⟩
  have Hs : ysh wx0_A.1 (yg (wx0_s a1000 a1004)) h_ := ysh_of2 hs (List.forall_mem_cons.mpr ⟨⟨by decide, k1000⟩, List.forall_mem_cons.mpr ⟨⟨by decide, k1004⟩, fun q_ hq => absurd hq List.not_mem_nil⟩⟩)
  have Ho : ymem wx0_r (yg (wx0_s a1000 a1004)) wx0_O h_ := fun q_ hq => absurd hq List.not_mem_nil
  have HC : ∀ q_ ∈ wx0_C, xhold wx0_r q_ := fun q_ hq => absurd hq List.not_mem_nil
  rcases yrun (yis_ok wx0_k) hA Hs Ho HC with ⟨q_, hq, h', K_, G_⟩ | ⟨q_, hq, h', K_, G_⟩
  · have e_ := List.mem_singleton.mp hq
    subst e_
    exact ⟨h', yfr_sm K_.2.2.2 hs K_.1 (ywa_s wx0_w List.mem_cons_self), ⟨fun a_ j_ => yfr_bp K_.2.2.2 (fun q_ hq => absurd hq List.not_mem_nil), G_⟩⟩
  · cases hq
-- ===== the class: a text worked out
def okx (x_ : Int32) : Prop := (0 ≤ x_.toInt ∧ x_.toInt < 10000) ∨ ((∃ j_, j_ < 4 ∧ x_ = Int32.ofNat (10000 + j_)) ∨ (x_ = 20033 ∨ ∃ c_, c_ ∈ jsg ∧ x_ = Int32.ofNat (20000 + c_)))
def evs (nm : Nat → Int32) (x_ : Int32) (s_ : List Int32) : Option (List Int32) := if x_.toInt < 10000 then some (x_ :: s_) else (if x_.toInt < 10004 then some (nm (x_.toInt.toNat - 10000) :: s_) else (if x_ = 20033 then (match s_ with
  | [] => none
  | a_ :: t_ => some ((if a_ = 0 then 1 else 0) :: t_)) else (match s_ with
  | b_ :: a_ :: t_ => some (jxf (x_.toInt.toNat - 20000) a_ b_ :: t_)
  | _ => none)))
def evl (nm : Nat → Int32) (xs s_ : List Int32) : Option (List Int32) := match xs with
  | [] => some s_
  | x_ :: t_ => match evs nm x_ s_ with
    | none => none
    | some s' => evl nm t_ s'
/-- the pile: its top first -/
def stk (h_ : xH) (c_ : Nat) (s_ : List Int32) : Prop := ∀ k_ x_, s_[k_]? = some x_ → bpat h_ c_ (s_.length - 1 - k_) = some (.int x_)
theorem stk_push {h_ h' : xH} {c_ : Nat} {s_ : List Int32} {y_ : Int32} (S_ : stk h_ c_ s_) (e_ : bpat h' c_ s_.length = some (.int y_)) (f_ : ∀ j_, ¬ j_ = s_.length → bpat h' c_ j_ = bpat h_ c_ j_) : stk h' c_ (y_ :: s_) := by
  intro k_ x_ hx
  cases k_ with
  | zero =>
    have e1_ : y_ = x_ := Option.some.inj hx
    rw [← e1_]
    exact e_
  | succ k_ =>
    have hx : s_[k_]? = some x_ := hx
    have hk := (List.getElem?_eq_some_iff.mp hx).1
    rw [show (y_ :: s_).length - 1 - (k_ + 1) = s_.length - 1 - k_ by show s_.length + 1 - 1 - (k_ + 1) = _; omega]
    exact (f_ _ (by omega)).trans (S_ k_ x_ hx)
theorem stk_top {h_ : xH} {c_ : Nat} {s_ : List Int32} {a_ : Int32} (S_ : stk h_ c_ (a_ :: s_)) : bpat h_ c_ s_.length = some (.int a_) := S_ 0 a_ rfl
theorem stk_sec {h_ : xH} {c_ : Nat} {s_ : List Int32} {a_ b_ : Int32} (S_ : stk h_ c_ (b_ :: a_ :: s_)) : bpat h_ c_ s_.length = some (.int a_) := S_ 1 a_ rfl
theorem stk_tail {h_ : xH} {c_ : Nat} {s_ : List Int32} {a_ : Int32} (S_ : stk h_ c_ (a_ :: s_)) : stk h_ c_ s_ := by
  intro k_ x_ hx
  have hk := (List.getElem?_eq_some_iff.mp hx).1
  have z_ := S_ (k_ + 1) x_ hx
  rw [show (a_ :: s_).length - 1 - (k_ + 1) = s_.length - 1 - k_ by show s_.length + 1 - 1 - (k_ + 1) = _; omega] at z_
  exact z_
theorem stk_last {h_ : xH} {c_ : Nat} {s_ : List Int32} (S_ : stk h_ c_ s_) (n_ : ¬ s_ = []) : bpat h_ c_ 0 = some (.int (s_.getLastD 0)) := by
  cases s_ with
  | nil => exact absurd rfl n_
  | cons a_ t_ =>
    have e_ : (a_ :: t_)[t_.length]? = some ((a_ :: t_).getLastD 0) := by
      rw [List.getLastD_eq_getLast?, List.getLast?_eq_getElem?]
      show (a_ :: t_)[t_.length]? = some (((a_ :: t_)[(a_ :: t_).length - 1]?).getD 0)
      rw [show (a_ :: t_).length - 1 = t_.length from rfl, List.getElem?_eq_getElem (show t_.length < (a_ :: t_).length by show t_.length < t_.length + 1; omega)]
      rfl
    have z_ := S_ _ _ e_
    rw [show (a_ :: t_).length - 1 - t_.length = 0 by show t_.length + 1 - 1 - t_.length = 0; omega] at z_
    exact z_
def txw (h_ : xH) (a_ cr ci st_ na : Nat) (nm : Nat → Int32) (xs : List Int32) : Prop := (sHp h_ ∧ (bcq h_ a_ 9 2 ∧ bcq h_ cr 6 2) ∧ (bcq h_ ci 20 60 ∧ bcq h_ st_ 20 60 ∧ bcq h_ na 20 4)) ∧ ((bpat h_ a_ 0 = some (.index cr) ∧ bpat h_ a_ 1 = some (.index st_)) ∧ (bpat h_ cr 0 = some (.index ci) ∧ bpat h_ cr 1 = some (.int (Int32.ofNat xs.length)))) ∧ ((∀ j_ x_, xs[j_]? = some x_ → bpat h_ ci j_ = some (.int x_)) ∧ ∀ j_, j_ < 4 → bpat h_ na j_ = some (.int (nm j_)))
theorem txw_keep {h_ h' : xH} {a_ cr ci st_ na : Nat} {nm : Nat → Int32} {xs : List Int32} (T : txw h_ a_ cr ci st_ na nm xs) (m_ : ysm h_ h') (n1_ : ¬ ci = st_) (n2_ : ¬ na = st_) (f_ : ∀ c_ j_, ¬ c_ = st_ → bpat h' c_ j_ = bpat h_ c_ j_) : txw h' a_ cr ci st_ na nm xs := by
  obtain ⟨⟨T1, ⟨T2, T3⟩, T4, T5, T6⟩, ⟨⟨T7, T8⟩, T9, T10⟩, T11, T12⟩ := T
  have na_ : ¬ a_ = st_ := bcq_ne T2 T5 (by decide)
  have nr_ : ¬ cr = st_ := bcq_ne T3 T5 (by decide)
  exact ⟨⟨m_.1, ⟨m_.2 _ _ _ T2, m_.2 _ _ _ T3⟩, m_.2 _ _ _ T4, m_.2 _ _ _ T5, m_.2 _ _ _ T6⟩, ⟨⟨(f_ a_ 0 na_).trans T7, (f_ a_ 1 na_).trans T8⟩, (f_ cr 0 nr_).trans T9, (f_ cr 1 nr_).trans T10⟩, fun j_ x_ hx => (f_ ci j_ n1_).trans (T11 j_ x_ hx), fun j_ hj => (f_ na j_ n2_).trans (T12 j_ hj)⟩
theorem i32w {n_ k_ : Nat} (h_ : k_ ≤ n_) (hn : n_ < 2147483648) : Int32.ofNat n_ - Int32.ofNat k_ = Int32.ofNat (n_ - k_) := (Int32.ofNat_sub n_ k_ h_).symm
theorem i32m1 {n_ : Nat} (h_ : 1 ≤ n_) (hn : n_ < 2147483648) : Int32.ofNat n_ + Int32.ofInt (-1) = Int32.ofNat (n_ - 1) := by
  rw [i32m n_ hn, show (n_ : Int) - 1 = ((n_ - 1 : Nat) : Int) by omega]
  rfl
/-- a text worked out, the class: from the loop's head on -/
theorem wx_lp {a_ cr ci st_ na : Nat} {nm : Nat → Int32} {xs : List Int32} (n1_ : ¬ ci = st_) (n2_ : ¬ na = st_) (hx : ∀ x_ ∈ xs, okx x_) (hl : xs.length ≤ 60) : ∀ (k_ i_ : Nat) (s_ s' : List Int32) (h_ : xH) (lo_ : xL), xs.length = i_ + k_ → s_.length ≤ i_ → txw h_ a_ cr ci st_ na nm xs → stk h_ st_ s_ → evl nm (xs.drop i_) s_ = some s' → ¬ s' = [] → wxN_hd a_ na (Int32.ofNat s_.length) (Int32.ofNat i_) lo_ → ∃ h', frb st_ h_ h' ∧ ∀ D_, 60 ≤ D_ → xrun D_ 59 4 lo_ [] h_ (some (.int (s'.getLastD 0)), h', []) := by
  intro k_
  induction k_ with
  | zero =>
    intro i_ s_ s' h_ lo_ hk hs T S_ e_ ne_ H_
    rw [List.drop_eq_nil_of_le (by omega)] at e_
    have e1_ : s_ = s' := Option.some.inj e_
    subst e1_
    obtain ⟨⟨T1, ⟨T2, T3⟩, T4, T5, T6⟩, ⟨⟨T7, T8⟩, T9, T10⟩, T11, T12⟩ := T
    obtain ⟨h', m_, f_, r_⟩ := wxE T1 T2 T3 T4 T5 T6 T7 T10 T8 (stk_last S_ ne_) (by rw [i32n (by omega), i32n (by omega)]; omega) H_
    exact ⟨h', ⟨m_, fun c_ j_ _ => f_ c_ j_⟩, r_⟩
  | succ k_ ih_ =>
    intro i_ s_ s' h_ lo_ hk hs T S_ e_ ne_ H_
    have hi_ : i_ < xs.length := by omega
    have ex_ := List.getElem?_eq_getElem hi_
    rw [List.drop_eq_getElem_cons hi_] at e_
    have ok_ := hx _ (List.getElem_mem hi_)
    have T0_ := T
    obtain ⟨⟨T1, ⟨T2, T3⟩, T4, T5, T6⟩, ⟨⟨T7, T8⟩, T9, T10⟩, T11, T12⟩ := T
    have e6_ : bpat h_ ci (Int32.ofNat i_).toInt.toNat = some (.int xs[i_]) := by
      rw [i32t (by omega)]
      exact T11 i_ _ ex_
    have bi : 0 ≤ (Int32.ofNat i_).toInt ∧ (Int32.ofNat i_).toInt < 60 := by
      rw [i32n (by omega)]
      omega
    have bs : 0 ≤ (Int32.ofNat s_.length).toInt ∧ (Int32.ofNat s_.length).toInt < 60 := by
      rw [i32n (by omega)]
      omega
    have ci_ : (Int32.ofNat i_).toInt < (Int32.ofNat xs.length).toInt := by
      rw [i32n (by omega), i32n (by omega)]
      omega
    -- one step: the pile behind it, the heap, the state
    have go_ : ∀ (t_ : List Int32) (h1 : xH) (lo' : xL), evs nm xs[i_] s_ = some t_ → t_.length ≤ i_ + 1 → ysm h_ h1 → (∀ c_ j_, ¬ c_ = st_ → bpat h1 c_ j_ = bpat h_ c_ j_) → stk h1 st_ t_ → wxN_hd a_ na (Int32.ofNat t_.length) (Int32.ofNat (i_ + 1)) lo' → bldD 60 59 4 lo_ [] h_ 4 lo' [] h1 → ∃ h', frb st_ h_ h' ∧ ∀ D_, 60 ≤ D_ → xrun D_ 59 4 lo_ [] h_ (some (.int (s'.getLastD 0)), h', []) := by
      intro t_ h1 lo' et lt_ m_ f_ St_ H' ld
      have e2_ : evl nm (xs.drop (i_ + 1)) t_ = some s' := by
        unfold evl at e_
        rw [et] at e_
        exact e_
      obtain ⟨h', F_, r_⟩ := ih_ (i_ + 1) t_ s' h1 lo' (by omega) lt_ (txw_keep T0_ m_ n1_ n2_ f_) St_ e2_ ne_ H'
      exact ⟨h', frb_tr _ _ _ ⟨m_, f_⟩ F_, fun D_ hD => ld D_ hD _ (r_ D_ hD)⟩
    have z1 : (1 : Int32).toInt = 1 := rfl
    have z2 : (2 : Int32).toInt = 2 := rfl
    have z0 : (0 : Int32).toInt = 0 := rfl
    have zt : (10000 : Int32).toInt = 10000 := by decide
    have zu : (20000 : Int32).toInt = 20000 := by decide
    rcases ok_ with ⟨q1_, q2_⟩ | ⟨j_, hj, q1_⟩ | q1_ | ⟨c_, hc_, q1_⟩
    · obtain ⟨h1, m1_, e1_, f1_, lo', H', ld⟩ := wxN T1 T2 T3 T4 T5 T6 T7 T10 T9 e6_ T8 bi bs ci_ (by rw [z0]; exact q1_) (by rw [zt]; exact q2_) (by have := bs.2; rw [show (60 : Int32).toInt = 60 from by decide]; exact this) H_
      rw [i32t (by omega)] at e1_ f1_
      rw [i32s, i32s] at H'
      exact go_ (xs[i_] :: s_) h1 lo' (if_pos q2_) (by show s_.length + 1 ≤ i_ + 1; omega) m1_ (fun c_ j_ nc => f1_ c_ j_ (fun q_ => nc q_.1)) (stk_push S_ e1_ (fun j_ nj => f1_ st_ j_ (fun q_ => nj q_.2))) H' ld
    -- NAMES
    · rcases (show j_ = 0 ∨ j_ = 1 ∨ j_ = 2 ∨ j_ = 3 by omega) with rfl | rfl | rfl | rfl
      · have hv : xs[i_].toInt = 10000 := by
          rw [q1_]
          decide
        have e9_ : bpat h_ ci (Int32.ofNat i_).toInt.toNat = some (.int 10000) := by
          rw [e6_, q1_]
          rfl
        obtain ⟨h1, m1_, e1_, f1_, lo', H', ld⟩ := wxV0 T1 T2 T3 T4 T5 T6 T7 T10 T9 e9_ T8 (T12 0 (by omega)) bi bs ci_ (by have := bs.2; rw [show (60 : Int32).toInt = 60 from by decide]; exact this) H_
        rw [i32t (by omega)] at e1_ f1_
        rw [i32s, i32s] at H'
        have et : evs nm xs[i_] s_ = some (nm 0 :: s_) := by
          unfold evs
          rw [if_neg (by omega), if_pos (by omega), hv]
          rfl
        exact go_ (nm 0 :: s_) h1 lo' et (by show s_.length + 1 ≤ i_ + 1; omega) m1_ (fun c_ j_ nc => f1_ c_ j_ (fun q_ => nc q_.1)) (stk_push S_ e1_ (fun j_ nj => f1_ st_ j_ (fun q_ => nj q_.2))) H' ld
      · have hv : xs[i_].toInt = 10001 := by
          rw [q1_]
          decide
        have e9_ : bpat h_ ci (Int32.ofNat i_).toInt.toNat = some (.int 10001) := by
          rw [e6_, q1_]
          rfl
        obtain ⟨h1, m1_, e1_, f1_, lo', H', ld⟩ := wxV1 T1 T2 T3 T4 T5 T6 T7 T10 T9 e9_ T8 (T12 1 (by omega)) bi bs ci_ (by have := bs.2; rw [show (60 : Int32).toInt = 60 from by decide]; exact this) H_
        rw [i32t (by omega)] at e1_ f1_
        rw [i32s, i32s] at H'
        have et : evs nm xs[i_] s_ = some (nm 1 :: s_) := by
          unfold evs
          rw [if_neg (by omega), if_pos (by omega), hv]
          rfl
        exact go_ (nm 1 :: s_) h1 lo' et (by show s_.length + 1 ≤ i_ + 1; omega) m1_ (fun c_ j_ nc => f1_ c_ j_ (fun q_ => nc q_.1)) (stk_push S_ e1_ (fun j_ nj => f1_ st_ j_ (fun q_ => nj q_.2))) H' ld
      · have hv : xs[i_].toInt = 10002 := by
          rw [q1_]
          decide
        have e9_ : bpat h_ ci (Int32.ofNat i_).toInt.toNat = some (.int 10002) := by
          rw [e6_, q1_]
          rfl
        obtain ⟨h1, m1_, e1_, f1_, lo', H', ld⟩ := wxV2 T1 T2 T3 T4 T5 T6 T7 T10 T9 e9_ T8 (T12 2 (by omega)) bi bs ci_ (by have := bs.2; rw [show (60 : Int32).toInt = 60 from by decide]; exact this) H_
        rw [i32t (by omega)] at e1_ f1_
        rw [i32s, i32s] at H'
        have et : evs nm xs[i_] s_ = some (nm 2 :: s_) := by
          unfold evs
          rw [if_neg (by omega), if_pos (by omega), hv]
          rfl
        exact go_ (nm 2 :: s_) h1 lo' et (by show s_.length + 1 ≤ i_ + 1; omega) m1_ (fun c_ j_ nc => f1_ c_ j_ (fun q_ => nc q_.1)) (stk_push S_ e1_ (fun j_ nj => f1_ st_ j_ (fun q_ => nj q_.2))) H' ld
      · have hv : xs[i_].toInt = 10003 := by
          rw [q1_]
          decide
        have e9_ : bpat h_ ci (Int32.ofNat i_).toInt.toNat = some (.int 10003) := by
          rw [e6_, q1_]
          rfl
        obtain ⟨h1, m1_, e1_, f1_, lo', H', ld⟩ := wxV3 T1 T2 T3 T4 T5 T6 T7 T10 T9 e9_ T8 (T12 3 (by omega)) bi bs ci_ (by have := bs.2; rw [show (60 : Int32).toInt = 60 from by decide]; exact this) H_
        rw [i32t (by omega)] at e1_ f1_
        rw [i32s, i32s] at H'
        have et : evs nm xs[i_] s_ = some (nm 3 :: s_) := by
          unfold evs
          rw [if_neg (by omega), if_pos (by omega), hv]
          rfl
        exact go_ (nm 3 :: s_) h1 lo' et (by show s_.length + 1 ≤ i_ + 1; omega) m1_ (fun c_ j_ nc => f1_ c_ j_ (fun q_ => nc q_.1)) (stk_push S_ e1_ (fun j_ nj => f1_ st_ j_ (fun q_ => nj q_.2))) H' ld
    -- NOT
    · have hv : xs[i_].toInt = 20033 := by
        rw [q1_]
        decide
      cases s_ with
      | nil =>
        unfold evl at e_
        have et : evs nm xs[i_] [] = none := by
          unfold evs
          rw [if_neg (by omega), if_neg (by omega), if_pos q1_]
        rw [et] at e_
        cases e_
      | cons a0_ t_ =>
        have et : evs nm xs[i_] (a0_ :: t_) = some ((if a0_ = 0 then 1 else 0) :: t_) := by
          unfold evs
          rw [if_neg (by omega), if_neg (by omega), if_pos q1_]
        have el : Int32.ofNat (a0_ :: t_).length - 1 = Int32.ofNat t_.length := i32w (n_ := t_.length + 1) (k_ := 1) (by omega) (by have : (a0_ :: t_).length = t_.length + 1 := rfl; omega)
        have hls : (a0_ :: t_).length = t_.length + 1 := rfl
        have e8 : bpat h_ st_ (Int32.ofNat (a0_ :: t_).length - 1).toInt.toNat = some (.int a0_) := by
          rw [el, i32t (by omega)]
          exact stk_top S_
        have e9_ : bpat h_ ci (Int32.ofNat i_).toInt.toNat = some (.int 20033) := by
          rw [e6_, q1_]
        obtain ⟨h1, m1_, E_⟩ := wxD T1 T2 T3 T4 T5 T6 T7 T10 T9 e9_ T8 e8 bi bs ⟨by rw [el, i32n (by omega)]; omega, by rw [el, i32n (by omega)]; omega⟩ ci_ (by rw [z1, i32n (by omega)]; omega) H_
        rw [el, i32t (by omega), i32s] at E_
        rcases E_ with ⟨g0, e1_, f1_, lo', H', ld⟩ | ⟨g0, e1_, f1_, lo', H', ld⟩
        · rw [if_neg g0] at et
          exact go_ (0 :: t_) h1 lo' et (by show t_.length + 1 ≤ i_ + 1; omega) m1_ (fun c_ j_ nc => f1_ c_ j_ (fun q_ => nc q_.1)) (stk_push (stk_tail S_) e1_ (fun j_ nj => f1_ st_ j_ (fun q_ => nj q_.2))) H' ld
        · rw [if_pos g0] at et
          exact go_ (1 :: t_) h1 lo' et (by show t_.length + 1 ≤ i_ + 1; omega) m1_ (fun c_ j_ nc => f1_ c_ j_ (fun q_ => nc q_.1)) (stk_push (stk_tail S_) e1_ (fun j_ nj => f1_ st_ j_ (fun q_ => nj q_.2))) H' ld
    -- signs
    · have hcb : 37 ≤ c_ ∧ c_ ≤ 124 := by
        simp only [jsg, List.mem_cons, List.not_mem_nil, or_false] at hc_
        omega
      have hv : xs[i_].toInt = ((20000 + c_ : Nat) : Int) := by
        rw [q1_, i32n (by omega)]
      have nq : ¬ xs[i_] = 20033 := by
        intro q_
        rw [q_] at hv
        have e1_ : (20033 : Int32).toInt = 20033 := by decide
        omega
      have ev_ : ∀ s_ : List Int32, evs nm xs[i_] s_ = (match s_ with
          | b_ :: a_ :: t_ => some (jxf c_ a_ b_ :: t_)
          | _ => none) := by
        intro s_
        unfold evs
        rw [if_neg (by omega), if_neg (by omega), if_neg nq, hv, show ((20000 + c_ : Nat) : Int).toNat - 20000 = c_ by omega]
      rcases s_ with _ | ⟨b0, _ | ⟨a0_, t_⟩⟩
      · unfold evl at e_
        rw [ev_] at e_
        cases e_
      · unfold evl at e_
        rw [ev_] at e_
        cases e_
      · have hls : (b0 :: a0_ :: t_).length = t_.length + 2 := rfl
        have el : Int32.ofNat (b0 :: a0_ :: t_).length + Int32.ofInt (-1) = Int32.ofNat (t_.length + 1) := i32m1 (n_ := t_.length + 2) (by omega) (by omega)
        have el2 : Int32.ofNat (t_.length + 1) - 1 = Int32.ofNat t_.length := i32w (n_ := t_.length + 1) (k_ := 1) (by omega) (by omega)
        have e8 : bpat h_ st_ (Int32.ofNat (b0 :: a0_ :: t_).length + Int32.ofInt (-1) - 1).toInt.toNat = some (.int a0_) := by
          rw [el, el2, i32t (by omega)]
          exact stk_sec S_
        have e9_ : bpat h_ st_ (Int32.ofNat (b0 :: a0_ :: t_).length + Int32.ofInt (-1)).toInt.toNat = some (.int b0) := by
          rw [el, i32t (by omega)]
          exact stk_top S_
        have es : xs[i_] - 20000 = Int32.ofNat c_ := by
          rw [q1_]
          exact (i32w (n_ := 20000 + c_) (k_ := 20000) (by omega) (by omega)).trans (by rw [show 20000 + c_ - 20000 = c_ by omega])
        obtain ⟨h1, m1_, e1_, f1_, lo', H', ld⟩ := wxJ (v500 := jxf c_ a0_ b0) T1 T2 T3 T4 T5 T6 T7 T10 T9 e6_ T8 e8 e9_ bi bs ⟨by rw [el, i32n (by omega)]; omega, by rw [el, i32n (by omega)]; omega⟩ ⟨by rw [el, el2, i32n (by omega)]; omega, by rw [el, el2, i32n (by omega)]; omega⟩ (by rw [es]; exact jxf_x hc_ a0_ b0) ci_ (by rw [zu, hv]; omega) nq (by rw [z2, i32n (by omega)]; omega) H_
        rw [el] at e1_ f1_ H'
        rw [el2, i32t (by omega)] at e1_ f1_
        rw [i32s] at H'
        exact go_ (jxf c_ a0_ b0 :: t_) h1 lo' (ev_ _) (by show t_.length + 1 ≤ i_ + 1; omega) m1_ (fun c_ j_ nc => f1_ c_ j_ (fun q_ => nc q_.1)) (stk_push (stk_tail (stk_tail S_)) e1_ (fun j_ nj => f1_ st_ j_ (fun q_ => nj q_.2))) H' ld
/-- a text worked out, the class -/
theorem workOut {a_ cr ci st_ na : Nat} {nm : Nat → Int32} {xs s' : List Int32} {h_ : xH} (n1_ : ¬ ci = st_) (n2_ : ¬ na = st_) (hx : ∀ x_ ∈ xs, okx x_) (hl : xs.length ≤ 60) (T : txw h_ a_ cr ci st_ na nm xs) (e_ : evl nm xs [] = some s') (ne_ : ¬ s' = []) : ∃ h', frb st_ h_ h' ∧ ∀ D_, 60 ≤ D_ → xrun D_ 59 0 [(0, .index a_), (1, .index na)] [] h_ (some (.int (s'.getLastD 0)), h', []) := by
  obtain ⟨h0, m0_, f0_, ld0⟩ := wx0 T.1.1 T.1.2.1.1 T.1.2.2.2.2
  obtain ⟨h', F_, r_⟩ := wx_lp n1_ n2_ hx hl xs.length 0 [] s' h0 _ (by omega) (Nat.le_refl _) (txw_keep T m0_ n1_ n2_ (fun c_ j_ _ => f0_ c_ j_)) (fun k_ x_ hk => (by cases hk)) e_ ne_ (Or.inl rfl)
  exact ⟨h', frb_tr _ _ _ ⟨m0_, fun c_ j_ _ => f0_ c_ j_⟩ F_, fun D_ hD => ld0 D_ hD _ (r_ D_ hD)⟩
