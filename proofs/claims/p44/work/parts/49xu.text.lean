-- ===== the class reads a TEXT
/-- is it a digit, as the class has it -/
def puD_F (v0_ : Int32) : Int32 := (bif xcmb .lt v0_ (48 : Int32) then (0 : Int32) else (bif xcmb .le v0_ (57 : Int32) then (1 : Int32) else (0 : Int32)))
def puD_rs : List yR := [(some (.int 0), [], [(.lt, .arg 0, .int 48, true)], []), (some (.int 0), [], [(.le, .arg 0, .int 57, false), (.lt, .arg 0, .int 48, false)], []), (some (.int 1), [], [(.le, .arg 0, .int 57, true), (.lt, .arg 0, .int 48, false)], [])]
theorem puD_k : yis (yev yA0 3000 5 30 [] (0, [(0, .arg 0)], [], [], [], [])) [] puD_rs = true := by decide +kernel
theorem puD (v0_ : Int32) (h_ : xH) (D_ : Nat) (hD : 5 ≤ D_) : xrun D_ 30 0 [(0, .int v0_)] [] h_ (some (.int (puD_F v0_)), h_, []) := by
  rcases yrun (h_ := h_) (r_ := fun _ => .int v0_) (g_ := id) (yis_ok puD_k) yA0_ok (fun n_ z_ e_ => (by cases e_)) (fun q_ hq => absurd hq List.not_mem_nil) (fun q_ hq => absurd hq List.not_mem_nil) with ⟨q_, hq, h', K_, G_⟩ | ⟨q_, hq, h', K_, G_⟩
  · cases hq
  · rcases List.mem_cons.mp hq with e_ | hq
    · subst e_
      have z_ := G_ D_ hD
      rw [yfr_nil K_.2.2.2] at z_
      have e_ : puD_F v0_ = (0 : Int32) := by
        unfold puD_F
        rw [show xcmb .lt v0_ (48 : Int32) = true from xhold_b (K_.2.2.1 _ List.mem_cons_self)]
        rfl
      rw [e_]
      exact z_
    rcases List.mem_cons.mp hq with e_ | hq
    · subst e_
      have z_ := G_ D_ hD
      rw [yfr_nil K_.2.2.2] at z_
      have e_ : puD_F v0_ = (0 : Int32) := by
        unfold puD_F
        rw [show xcmb .lt v0_ (48 : Int32) = false from xhold_b (K_.2.2.1 _ (List.mem_cons_of_mem _ List.mem_cons_self)), show xcmb .le v0_ (57 : Int32) = false from xhold_b (K_.2.2.1 _ List.mem_cons_self)]
        rfl
      rw [e_]
      exact z_
    have e_ := List.mem_singleton.mp hq
    subst e_
    have z_ := G_ D_ hD
    rw [yfr_nil K_.2.2.2] at z_
    have e_ : puD_F v0_ = (1 : Int32) := by
      unfold puD_F
      rw [show xcmb .lt v0_ (48 : Int32) = false from xhold_b (K_.2.2.1 _ (List.mem_cons_of_mem _ List.mem_cons_self)), show xcmb .le v0_ (57 : Int32) = true from xhold_b (K_.2.2.1 _ List.mem_cons_self)]
      rfl
    rw [e_]
    exact z_
theorem puD_1 {x_ : Int32} (h_ : 48 ≤ x_.toInt ∧ x_.toInt ≤ 57) : puD_F x_ = 1 := by
  have z1 : (48 : Int32).toInt = 48 := rfl
  have z2 : (57 : Int32).toInt = 57 := rfl
  unfold puD_F
  rw [show xcmb .lt x_ (48 : Int32) = false from decide_eq_false (fun q_ => by have q_ := Int32.lt_iff_toInt_lt.mp q_; omega), show xcmb .le x_ (57 : Int32) = true from decide_eq_true (Int32.le_iff_toInt_le.mpr (by omega))]
  rfl
theorem puD_0 {x_ : Int32} (h_ : ¬ (48 ≤ x_.toInt ∧ x_.toInt ≤ 57)) : puD_F x_ = 0 := by
  have z1 : (48 : Int32).toInt = 48 := rfl
  have z2 : (57 : Int32).toInt = 57 := rfl
  unfold puD_F
  by_cases g_ : x_.toInt < 48
  · rw [show xcmb .lt x_ (48 : Int32) = true from decide_eq_true (Int32.lt_iff_toInt_lt.mpr (by omega))]
    rfl
  · rw [show xcmb .lt x_ (48 : Int32) = false from decide_eq_false (fun q_ => by have q_ := Int32.lt_iff_toInt_lt.mp q_; omega), show xcmb .le x_ (57 : Int32) = false from decide_eq_false (fun q_ => by have q_ := Int32.le_iff_toInt_le.mp q_; omega)]
    rfl
theorem ylk {mi pc ln t_ : Nat} {ax : List Nat} {df off_ : Int} {ps_ : Array (Int × Int)} {lo_ : xL} {st_ : List Jvm.Term} {h_ : xH} {v_ : Int32} (hcd : xcd mi pc = some (.lookupswitch df ps_, ln, ax)) (hs : (ps_.toList.zip (ps_.toList.drop 1)).all (fun (a_, next_) => a_.1 < next_.1) = true) (hv : Op.lookupswitch.offset ps_.toList df v_.toInt = off_) (ht : (pc : Int) + off_ = .ofNat t_) : bldD 0 mi pc lo_ (.int v_ :: st_) h_ t_ lo_ st_ h_ := by
  refine fun D_ _ => bld_step hcd rfl ?_
  intro k_
  simp only [xsp, hs, hv, xjp, ht, xfN_eq, xst_eq]
-- lvr0: 2 steps, 0 ends, 1 returns
def lvr0_A : yA := (fun _ => none, [], [], [], [])
def lvr0_C : List xB := []
def lvr0_ss : List yS := []
def lvr0_rs : List yR := [(some (.int 0), [], [], [])]
theorem lvr0_k : yis (yev lvr0_A 3000 5 24 [] (92, [(0, .arg 0)], [], [], lvr0_C, [])) lvr0_ss lvr0_rs = true := by decide +kernel
def lvr0_r (v0_ : Int32) (k_ : Nat) : Value := bif Nat.beq k_ 0 then .int v0_ else (.int 0)
theorem lvr0 {v0_ : Int32} (h_ : xH)  : ((∀ D_, 5 ≤ D_ → xrun D_ 24 92 [(0, .int v0_)] [] h_ (some (.int (0 : Int32)), h_, []))) := by
  have hA : yas lvr0_A (lvr0_r v0_) id := ⟨fun q_ hq => absurd hq List.not_mem_nil, fun q_ hq => absurd hq List.not_mem_nil, fun q_ hq => absurd hq List.not_mem_nil, fun _ _ => rfl, fun q_ hq => absurd hq List.not_mem_nil⟩
  have HC : ∀ q_ ∈ lvr0_C, xhold (lvr0_r v0_) q_ := fun q_ hq => absurd hq List.not_mem_nil
  rcases yrun (h_ := h_) (yis_ok lvr0_k) hA (fun n_ z_ e_ => (by cases e_)) (fun q_ hq => absurd hq List.not_mem_nil) HC with ⟨q_, hq, h', K_, G_⟩ | ⟨q_, hq, h', K_, G_⟩
  · cases hq
  · have e_ := List.mem_singleton.mp hq
    subst e_
    rw [yfr_nil K_.2.2.2] at G_
    exact G_
-- lvr1: 2 steps, 0 ends, 1 returns
def lvr1_A : yA := (fun _ => none, [], [], [], [])
def lvr1_C : List xB := []
def lvr1_ss : List yS := []
def lvr1_rs : List yR := [(some (.int 1), [], [], [])]
theorem lvr1_k : yis (yev lvr1_A 3000 5 24 [] (94, [(0, .arg 0)], [], [], lvr1_C, [])) lvr1_ss lvr1_rs = true := by decide +kernel
def lvr1_r (v0_ : Int32) (k_ : Nat) : Value := bif Nat.beq k_ 0 then .int v0_ else (.int 0)
theorem lvr1 {v0_ : Int32} (h_ : xH)  : ((∀ D_, 5 ≤ D_ → xrun D_ 24 94 [(0, .int v0_)] [] h_ (some (.int (1 : Int32)), h_, []))) := by
  have hA : yas lvr1_A (lvr1_r v0_) id := ⟨fun q_ hq => absurd hq List.not_mem_nil, fun q_ hq => absurd hq List.not_mem_nil, fun q_ hq => absurd hq List.not_mem_nil, fun _ _ => rfl, fun q_ hq => absurd hq List.not_mem_nil⟩
  have HC : ∀ q_ ∈ lvr1_C, xhold (lvr1_r v0_) q_ := fun q_ hq => absurd hq List.not_mem_nil
  rcases yrun (h_ := h_) (yis_ok lvr1_k) hA (fun n_ z_ e_ => (by cases e_)) (fun q_ hq => absurd hq List.not_mem_nil) HC with ⟨q_, hq, h', K_, G_⟩ | ⟨q_, hq, h', K_, G_⟩
  · cases hq
  · have e_ := List.mem_singleton.mp hq
    subst e_
    rw [yfr_nil K_.2.2.2] at G_
    exact G_
-- lvr2: 2 steps, 0 ends, 1 returns
def lvr2_A : yA := (fun _ => none, [], [], [], [])
def lvr2_C : List xB := []
def lvr2_ss : List yS := []
def lvr2_rs : List yR := [(some (.int 2), [], [], [])]
theorem lvr2_k : yis (yev lvr2_A 3000 5 24 [] (96, [(0, .arg 0)], [], [], lvr2_C, [])) lvr2_ss lvr2_rs = true := by decide +kernel
def lvr2_r (v0_ : Int32) (k_ : Nat) : Value := bif Nat.beq k_ 0 then .int v0_ else (.int 0)
theorem lvr2 {v0_ : Int32} (h_ : xH)  : ((∀ D_, 5 ≤ D_ → xrun D_ 24 96 [(0, .int v0_)] [] h_ (some (.int (2 : Int32)), h_, []))) := by
  have hA : yas lvr2_A (lvr2_r v0_) id := ⟨fun q_ hq => absurd hq List.not_mem_nil, fun q_ hq => absurd hq List.not_mem_nil, fun q_ hq => absurd hq List.not_mem_nil, fun _ _ => rfl, fun q_ hq => absurd hq List.not_mem_nil⟩
  have HC : ∀ q_ ∈ lvr2_C, xhold (lvr2_r v0_) q_ := fun q_ hq => absurd hq List.not_mem_nil
  rcases yrun (h_ := h_) (yis_ok lvr2_k) hA (fun n_ z_ e_ => (by cases e_)) (fun q_ hq => absurd hq List.not_mem_nil) HC with ⟨q_, hq, h', K_, G_⟩ | ⟨q_, hq, h', K_, G_⟩
  · cases hq
  · have e_ := List.mem_singleton.mp hq
    subst e_
    rw [yfr_nil K_.2.2.2] at G_
    exact G_
-- lvr3: 2 steps, 0 ends, 1 returns
def lvr3_A : yA := (fun _ => none, [], [], [], [])
def lvr3_C : List xB := []
def lvr3_ss : List yS := []
def lvr3_rs : List yR := [(some (.int 3), [], [], [])]
theorem lvr3_k : yis (yev lvr3_A 3000 5 24 [] (98, [(0, .arg 0)], [], [], lvr3_C, [])) lvr3_ss lvr3_rs = true := by decide +kernel
def lvr3_r (v0_ : Int32) (k_ : Nat) : Value := bif Nat.beq k_ 0 then .int v0_ else (.int 0)
theorem lvr3 {v0_ : Int32} (h_ : xH)  : ((∀ D_, 5 ≤ D_ → xrun D_ 24 98 [(0, .int v0_)] [] h_ (some (.int (3 : Int32)), h_, []))) := by
  have hA : yas lvr3_A (lvr3_r v0_) id := ⟨fun q_ hq => absurd hq List.not_mem_nil, fun q_ hq => absurd hq List.not_mem_nil, fun q_ hq => absurd hq List.not_mem_nil, fun _ _ => rfl, fun q_ hq => absurd hq List.not_mem_nil⟩
  have HC : ∀ q_ ∈ lvr3_C, xhold (lvr3_r v0_) q_ := fun q_ hq => absurd hq List.not_mem_nil
  rcases yrun (h_ := h_) (yis_ok lvr3_k) hA (fun n_ z_ e_ => (by cases e_)) (fun q_ hq => absurd hq List.not_mem_nil) HC with ⟨q_, hq, h', K_, G_⟩ | ⟨q_, hq, h', K_, G_⟩
  · cases hq
  · have e_ := List.mem_singleton.mp hq
    subst e_
    rw [yfr_nil K_.2.2.2] at G_
    exact G_
-- lvr4: 2 steps, 0 ends, 1 returns
def lvr4_A : yA := (fun _ => none, [], [], [], [])
def lvr4_C : List xB := []
def lvr4_ss : List yS := []
def lvr4_rs : List yR := [(some (.int 4), [], [], [])]
theorem lvr4_k : yis (yev lvr4_A 3000 5 24 [] (100, [(0, .arg 0)], [], [], lvr4_C, [])) lvr4_ss lvr4_rs = true := by decide +kernel
def lvr4_r (v0_ : Int32) (k_ : Nat) : Value := bif Nat.beq k_ 0 then .int v0_ else (.int 0)
theorem lvr4 {v0_ : Int32} (h_ : xH)  : ((∀ D_, 5 ≤ D_ → xrun D_ 24 100 [(0, .int v0_)] [] h_ (some (.int (4 : Int32)), h_, []))) := by
  have hA : yas lvr4_A (lvr4_r v0_) id := ⟨fun q_ hq => absurd hq List.not_mem_nil, fun q_ hq => absurd hq List.not_mem_nil, fun q_ hq => absurd hq List.not_mem_nil, fun _ _ => rfl, fun q_ hq => absurd hq List.not_mem_nil⟩
  have HC : ∀ q_ ∈ lvr4_C, xhold (lvr4_r v0_) q_ := fun q_ hq => absurd hq List.not_mem_nil
  rcases yrun (h_ := h_) (yis_ok lvr4_k) hA (fun n_ z_ e_ => (by cases e_)) (fun q_ hq => absurd hq List.not_mem_nil) HC with ⟨q_, hq, h', K_, G_⟩ | ⟨q_, hq, h', K_, G_⟩
  · cases hq
  · have e_ := List.mem_singleton.mp hq
    subst e_
    rw [yfr_nil K_.2.2.2] at G_
    exact G_
-- lvi: 1 steps, 1 ends, 0 returns
def lvi_A : yA := (fun _ => none, [], [], [], [])
def lvi_C : List xB := []
def lvi_ss : List yS := [(1, [(0, .arg 0)], [.arg 0], [], [], [])]
def lvi_rs : List yR := []
theorem lvi_k : yis (yev lvi_A 3000 5 24 [1] (0, [(0, .arg 0)], [], [], lvi_C, [])) lvi_ss lvi_rs = true := by decide +kernel
def lvi_r (v0_ : Int32) (k_ : Nat) : Value := bif Nat.beq k_ 0 then .int v0_ else (.int 0)
theorem lvi {v0_ : Int32} (h_ : xH)  : ((bldD 5 24 0 [(0, .int v0_)] [] h_ 1 [(0, .int v0_)] [.int v0_] h_)) := by
  have hA : yas lvi_A (lvi_r v0_) id := ⟨fun q_ hq => absurd hq List.not_mem_nil, fun q_ hq => absurd hq List.not_mem_nil, fun q_ hq => absurd hq List.not_mem_nil, fun _ _ => rfl, fun q_ hq => absurd hq List.not_mem_nil⟩
  have HC : ∀ q_ ∈ lvi_C, xhold (lvi_r v0_) q_ := fun q_ hq => absurd hq List.not_mem_nil
  rcases yrun (h_ := h_) (yis_ok lvi_k) hA (fun n_ z_ e_ => (by cases e_)) (fun q_ hq => absurd hq List.not_mem_nil) HC with ⟨q_, hq, h', K_, G_⟩ | ⟨q_, hq, h', K_, G_⟩
  · have e_ := List.mem_singleton.mp hq
    subst e_
    rw [yfr_nil K_.2.2.2] at G_
    exact G_
  · cases hq
-- lvd: 2 steps, 0 ends, 1 returns
def lvd_A : yA := (fun _ => none, [], [], [], [])
def lvd_C : List xB := []
def lvd_ss : List yS := []
def lvd_rs : List yR := [(some (.int (Int32.ofInt (-1))), [], [], [])]
theorem lvd_k : yis (yev lvd_A 3000 5 24 [] (102, [(0, .arg 0)], [], [], lvd_C, [])) lvd_ss lvd_rs = true := by decide +kernel
def lvd_r (v0_ : Int32) (k_ : Nat) : Value := bif Nat.beq k_ 0 then .int v0_ else (.int 0)
theorem lvd {v0_ : Int32} (h_ : xH)  : ((∀ D_, 5 ≤ D_ → xrun D_ 24 102 [(0, .int v0_)] [] h_ (some (.int (Int32.ofInt (-1))), h_, []))) := by
  have hA : yas lvd_A (lvd_r v0_) id := ⟨fun q_ hq => absurd hq List.not_mem_nil, fun q_ hq => absurd hq List.not_mem_nil, fun q_ hq => absurd hq List.not_mem_nil, fun _ _ => rfl, fun q_ hq => absurd hq List.not_mem_nil⟩
  have HC : ∀ q_ ∈ lvd_C, xhold (lvd_r v0_) q_ := fun q_ hq => absurd hq List.not_mem_nil
  rcases yrun (h_ := h_) (yis_ok lvd_k) hA (fun n_ z_ e_ => (by cases e_)) (fun q_ hq => absurd hq List.not_mem_nil) HC with ⟨q_, hq, h', K_, G_⟩ | ⟨q_, hq, h', K_, G_⟩
  · cases hq
  · have e_ := List.mem_singleton.mp hq
    subst e_
    rw [yfr_nil K_.2.2.2] at G_
    exact G_
theorem lv_of {x_ : Int32} (h0 : ¬ x_ = 124) (h1 : ¬ x_ = 38) (h2 : ¬ (x_ = 60 ∨ (x_ = 61 ∨ x_ = 62))) (h3 : ¬ (x_ = 43 ∨ x_ = 45)) (h4 : ¬ (x_ = 42 ∨ (x_ = 47 ∨ x_ = 37))) : Op.lookupswitch.offset [(37, 99), (38, 93), (42, 99), (43, 97), (45, 97), (47, 99), (60, 95), (61, 95), (62, 95), (124, 91)] 101 x_.toInt = 101 := by
  have n_ : ∀ c_ : Int32, ¬ x_ = c_ → ¬ c_.toInt = x_.toInt := fun c_ q_ e_ => q_ (Int32.toInt_inj.mp e_.symm)
  rw [Op.lookupswitch.offset_cons, if_neg (show ¬ (37 : Int) = x_.toInt from n_ 37 (fun e_ => h4 (Or.inr (Or.inr e_)))), Op.lookupswitch.offset_cons, if_neg (show ¬ (38 : Int) = x_.toInt from n_ 38 (h1)), Op.lookupswitch.offset_cons, if_neg (show ¬ (42 : Int) = x_.toInt from n_ 42 (fun e_ => h4 (Or.inl e_))), Op.lookupswitch.offset_cons, if_neg (show ¬ (43 : Int) = x_.toInt from n_ 43 (fun e_ => h3 (Or.inl e_))), Op.lookupswitch.offset_cons, if_neg (show ¬ (45 : Int) = x_.toInt from n_ 45 (fun e_ => h3 (Or.inr e_))), Op.lookupswitch.offset_cons, if_neg (show ¬ (47 : Int) = x_.toInt from n_ 47 (fun e_ => h4 (Or.inr (Or.inl e_)))), Op.lookupswitch.offset_cons, if_neg (show ¬ (60 : Int) = x_.toInt from n_ 60 (fun e_ => h2 (Or.inl e_))), Op.lookupswitch.offset_cons, if_neg (show ¬ (61 : Int) = x_.toInt from n_ 61 (fun e_ => h2 (Or.inr (Or.inl e_)))), Op.lookupswitch.offset_cons, if_neg (show ¬ (62 : Int) = x_.toInt from n_ 62 (fun e_ => h2 (Or.inr (Or.inr e_)))), Op.lookupswitch.offset_cons, if_neg (show ¬ (124 : Int) = x_.toInt from n_ 124 (h0)), Op.lookupswitch.offset_nil]
theorem lvX (x_ : Int32) (h_ : xH) (D_ : Nat) (hD : 5 ≤ D_) : xrun D_ 24 0 [(0, .int x_)] [] h_ (some (.int (lvF x_)), h_, []) := by
  rcases lv_cs x_ with ⟨rfl, e_⟩ | ⟨rfl, e_⟩ | ⟨rfl | rfl | rfl, e_⟩ | ⟨rfl | rfl, e_⟩ | ⟨rfl | rfl | rfl, e_⟩ | ⟨e_, h0, h1, h2, h3, h4⟩
  · rw [e_]; exact lvi h_ D_ hD _ (ylk (mi := 24) (pc := 1) (off_ := 91) (t_ := 92) rfl rfl rfl rfl D_ (Nat.zero_le _) _ (lvr0 h_ D_ hD))
  · rw [e_]; exact lvi h_ D_ hD _ (ylk (mi := 24) (pc := 1) (off_ := 93) (t_ := 94) rfl rfl rfl rfl D_ (Nat.zero_le _) _ (lvr1 h_ D_ hD))
  · rw [e_]; exact lvi h_ D_ hD _ (ylk (mi := 24) (pc := 1) (off_ := 95) (t_ := 96) rfl rfl rfl rfl D_ (Nat.zero_le _) _ (lvr2 h_ D_ hD))
  · rw [e_]; exact lvi h_ D_ hD _ (ylk (mi := 24) (pc := 1) (off_ := 95) (t_ := 96) rfl rfl rfl rfl D_ (Nat.zero_le _) _ (lvr2 h_ D_ hD))
  · rw [e_]; exact lvi h_ D_ hD _ (ylk (mi := 24) (pc := 1) (off_ := 95) (t_ := 96) rfl rfl rfl rfl D_ (Nat.zero_le _) _ (lvr2 h_ D_ hD))
  · rw [e_]; exact lvi h_ D_ hD _ (ylk (mi := 24) (pc := 1) (off_ := 97) (t_ := 98) rfl rfl rfl rfl D_ (Nat.zero_le _) _ (lvr3 h_ D_ hD))
  · rw [e_]; exact lvi h_ D_ hD _ (ylk (mi := 24) (pc := 1) (off_ := 97) (t_ := 98) rfl rfl rfl rfl D_ (Nat.zero_le _) _ (lvr3 h_ D_ hD))
  · rw [e_]; exact lvi h_ D_ hD _ (ylk (mi := 24) (pc := 1) (off_ := 99) (t_ := 100) rfl rfl rfl rfl D_ (Nat.zero_le _) _ (lvr4 h_ D_ hD))
  · rw [e_]; exact lvi h_ D_ hD _ (ylk (mi := 24) (pc := 1) (off_ := 99) (t_ := 100) rfl rfl rfl rfl D_ (Nat.zero_le _) _ (lvr4 h_ D_ hD))
  · rw [e_]; exact lvi h_ D_ hD _ (ylk (mi := 24) (pc := 1) (off_ := 99) (t_ := 100) rfl rfl rfl rfl D_ (Nat.zero_le _) _ (lvr4 h_ D_ hD))
  · rw [e_]; exact lvi h_ D_ hD _ (ylk (mi := 24) (pc := 1) (off_ := 101) (t_ := 102) (df := 101) rfl rfl (lv_of h0 h1 h2 h3 h4) rfl D_ (Nat.zero_le _) _ (lvd h_ D_ hD))
def RX (u_ : Nat) (T : List Int32) (h_ : xH) (a_ : Nat) (c_ : List Int32) : Prop := sHp h_ ∧ (rwx h_ 148 149 60 c_ ∧ (bpat h_ 147 3 = some (.int (Int32.ofNat a_)) ∧ (bpat h_ 147 1 = some (.index 5) ∧ (bpat h_ 147 2 = some (.arg (102 + u_)) ∧ rwx h_ 5 6 60 T))))
def frD (h_ h' : xH) : Prop := ysm h_ h' ∧ ∀ c_ j_, ¬ c_ = 147 → ¬ c_ = 148 → ¬ c_ = 149 → bpat h' c_ j_ = bpat h_ c_ j_
theorem frD_tr {x_ y_ z_ : xH} (h1 : frD x_ y_) (h2 : frD y_ z_) : frD x_ z_ := ⟨ysm_tr h1.1 h2.1, fun c_ j_ a_ b_ d_ => (h2.2 c_ j_ a_ b_ d_).trans (h1.2 c_ j_ a_ b_ d_)⟩
theorem frD_all {h_ h' : xH} (m_ : ysm h_ h') (f_ : ∀ c_ j_, bpat h' c_ j_ = bpat h_ c_ j_) : frD h_ h' := ⟨m_, fun c_ j_ _ _ _ => f_ c_ j_⟩
section
variable {u_ : Nat} {T : List Int32} {h_ h' : xH} {a_ : Nat} {c_ : List Int32}
theorem RX_all (R_ : RX u_ T h_ a_ c_) (m_ : ysm h_ h') (f_ : ∀ c_ j_, bpat h' c_ j_ = bpat h_ c_ j_) : RX u_ T h' a_ c_ := ⟨m_.1, rwx_keep R_.2.1 m_ (fun c_ j_ _ => f_ c_ j_), (f_ _ _).trans R_.2.2.1, (f_ _ _).trans R_.2.2.2.1, (f_ _ _).trans R_.2.2.2.2.1, rwx_keep R_.2.2.2.2.2 m_ (fun c_ j_ _ => f_ c_ j_)⟩
theorem RX_at {a' : Nat} (R_ : RX u_ T h_ a_ c_) (m_ : ysm h_ h') (e_ : bpat h' 147 3 = some (.int (Int32.ofNat a'))) (f_ : ∀ c_ j_, ¬ (c_ = 147 ∧ j_ = 3) → bpat h' c_ j_ = bpat h_ c_ j_) : RX u_ T h' a' c_ ∧ frD h_ h' := ⟨⟨m_.1, rwx_keep R_.2.1 m_ (fun c_ j_ hc_ => f_ c_ j_ (fun q_ => by omega)), e_, (f_ _ _ (by omega)).trans R_.2.2.2.1, (f_ _ _ (by omega)).trans R_.2.2.2.2.1, rwx_keep R_.2.2.2.2.2 m_ (fun c_ j_ hc_ => f_ c_ j_ (fun q_ => by omega))⟩, m_, fun c_ j_ n1_ _ _ => f_ c_ j_ (fun q_ => n1_ q_.1)⟩
theorem R147 (R_ : RX u_ T h_ a_ c_) : bcq h_ 147 4 4 := bcq_of (n_ := 147) (z_ := (4, 4)) R_.1 rfl
theorem R148 (R_ : RX u_ T h_ a_ c_) : bcq h_ 148 6 2 := bcq_of (n_ := 148) (z_ := (6, 2)) R_.1 rfl
end
-- xnxI: 14 steps, 0 ends, 1 returns
def xnxI_L : List (Nat × Nat × Nat) := []
def xnxI_O : yO := [(147, .int 3, .arg 300), (147, .int 1, .index 5), (5, .int 1, .arg 301), (5, .int 0, .index 6), (6, .arg 300, .arg 302)]
def xnxI_A : yA := (yZ xnxI_L, [(.arg 300, 60)], [], [], [])
def xnxI_C : List xB := [(.lt, .arg 300, .arg 301, true)]
def xnxI_ss : List yS := []
def xnxI_rs : List yR := [(some (.arg 302), [(147, .int 3, .arg 300), (147, .int 1, .index 5), (5, .int 1, .arg 301), (5, .int 0, .index 6), (6, .arg 300, .arg 302)], [(.lt, .arg 300, .arg 301, true)], [])]
theorem xnxI_w : ywa xnxI_A xnxI_ss xnxI_rs = true := by decide +kernel
theorem xnxI_k : yis (yev xnxI_A 3000 60 23 [] (0, [(0, .index 147)], [], xnxI_O, xnxI_C, [])) xnxI_ss xnxI_rs = true := by decide +kernel
def xnxI_r (v300 v301 v302 : Int32) (k_ : Nat) : Value := bif Nat.beq k_ 300 then .int v300 else (bif Nat.beq k_ 301 then .int v301 else (bif Nat.beq k_ 302 then .int v302 else (.int 0)))
def xnxI_s (n_ : Nat) : Nat := 0
theorem xnxI {h_ : xH} {v300 v301 v302 : Int32} (hs : sHp h_) (o0_ : bpat h_ 147 3 = some (.int v300)) (o1 : bpat h_ 147 1 = some (.index 5)) (o2 : bpat h_ 5 1 = some (.int v301)) (o3_ : bpat h_ 6 (v300).toInt.toNat = some (.int v302)) (b0 : 0 ≤ (v300).toInt ∧ (v300).toInt < 60) (c0_ : v300.toInt < v301.toInt) : ∃ h', ysm h_ h' ∧ (((∀ a_ j_ : Nat, bpat h' a_ j_ = bpat h_ a_ j_) ∧ (∀ D_, 60 ≤ D_ → xrun D_ 23 0 [(0, .index 147)] [] h_ (some (.int v302), h', [])))) := by
  have hA : yas xnxI_A (xnxI_r v300 v301 v302) (yg xnxI_s) := ⟨List.forall_mem_cons.mpr ⟨b0, fun q_ hq => absurd hq List.not_mem_nil⟩, fun q_ hq => absurd hq List.not_mem_nil, fun q_ hq => absurd hq List.not_mem_nil, fun n_ hn => yg_lo hn, fun q_ hq => absurd hq List.not_mem_nil⟩
  have Hs : ysh xnxI_A.1 (yg xnxI_s) h_ := ysh_of2 hs (fun q_ hq => absurd hq List.not_mem_nil)
  have Ho : ymem (xnxI_r v300 v301 v302) (yg xnxI_s) xnxI_O h_ := List.forall_mem_cons.mpr ⟨bpat_some o0_, List.forall_mem_cons.mpr ⟨bpat_some o1, List.forall_mem_cons.mpr ⟨bpat_some o2, List.forall_mem_cons.mpr ⟨bpat_some (fxr_at hs.2 (show fxk fxl 5 0 = some 6 by decide +kernel)), List.forall_mem_cons.mpr ⟨bpat_some o3_, fun q_ hq => absurd hq List.not_mem_nil⟩⟩⟩⟩⟩
  have HC : ∀ q_ ∈ xnxI_C, xhold (xnxI_r v300 v301 v302) q_ := List.forall_mem_cons.mpr ⟨xh_ltT c0_, fun q_ hq => absurd hq List.not_mem_nil⟩
  rcases yrun (yis_ok xnxI_k) hA Hs Ho HC with ⟨q_, hq, h', K_, G_⟩ | ⟨q_, hq, h', K_, G_⟩
  · cases hq
  · have e_ := List.mem_singleton.mp hq
    subst e_
    exact ⟨h', yfr_sm K_.2.2.2 hs K_.1 (ywa_r xnxI_w List.mem_cons_self), ⟨fun a_ j_ => yfr_bp K_.2.2.2 (fun q_ hq => absurd hq List.not_mem_nil), G_⟩⟩
-- xnxO: 8 steps, 0 ends, 1 returns
def xnxO_L : List (Nat × Nat × Nat) := []
def xnxO_O : yO := [(147, .int 3, .arg 300), (147, .int 1, .index 5), (5, .int 1, .arg 301)]
def xnxO_A : yA := (yZ xnxO_L, [], [], [], [])
def xnxO_C : List xB := [(.lt, .arg 300, .arg 301, false)]
def xnxO_ss : List yS := []
def xnxO_rs : List yR := [(some (.int (Int32.ofInt (-1))), [(147, .int 3, .arg 300), (147, .int 1, .index 5), (5, .int 1, .arg 301)], [(.lt, .arg 300, .arg 301, false)], [])]
theorem xnxO_w : ywa xnxO_A xnxO_ss xnxO_rs = true := by decide +kernel
theorem xnxO_k : yis (yev xnxO_A 3000 60 23 [] (0, [(0, .index 147)], [], xnxO_O, xnxO_C, [])) xnxO_ss xnxO_rs = true := by decide +kernel
def xnxO_r (v300 v301 : Int32) (k_ : Nat) : Value := bif Nat.beq k_ 300 then .int v300 else (bif Nat.beq k_ 301 then .int v301 else (.int 0))
def xnxO_s (n_ : Nat) : Nat := 0
theorem xnxO {h_ : xH} {v300 v301 : Int32} (hs : sHp h_) (o0_ : bpat h_ 147 3 = some (.int v300)) (o1 : bpat h_ 147 1 = some (.index 5)) (o2 : bpat h_ 5 1 = some (.int v301)) (c0_ : v301.toInt ≤ v300.toInt) : ∃ h', ysm h_ h' ∧ (((∀ a_ j_ : Nat, bpat h' a_ j_ = bpat h_ a_ j_) ∧ (∀ D_, 60 ≤ D_ → xrun D_ 23 0 [(0, .index 147)] [] h_ (some (.int (Int32.ofInt (-1))), h', [])))) := by
  have hA : yas xnxO_A (xnxO_r v300 v301) (yg xnxO_s) := ⟨fun q_ hq => absurd hq List.not_mem_nil, fun q_ hq => absurd hq List.not_mem_nil, fun q_ hq => absurd hq List.not_mem_nil, fun n_ hn => yg_lo hn, fun q_ hq => absurd hq List.not_mem_nil⟩
  have Hs : ysh xnxO_A.1 (yg xnxO_s) h_ := ysh_of2 hs (fun q_ hq => absurd hq List.not_mem_nil)
  have Ho : ymem (xnxO_r v300 v301) (yg xnxO_s) xnxO_O h_ := List.forall_mem_cons.mpr ⟨bpat_some o0_, List.forall_mem_cons.mpr ⟨bpat_some o1, List.forall_mem_cons.mpr ⟨bpat_some o2, fun q_ hq => absurd hq List.not_mem_nil⟩⟩⟩
  have HC : ∀ q_ ∈ xnxO_C, xhold (xnxO_r v300 v301) q_ := List.forall_mem_cons.mpr ⟨xh_ltF c0_, fun q_ hq => absurd hq List.not_mem_nil⟩
  rcases yrun (yis_ok xnxO_k) hA Hs Ho HC with ⟨q_, hq, h', K_, G_⟩ | ⟨q_, hq, h', K_, G_⟩
  · cases hq
  · have e_ := List.mem_singleton.mp hq
    subst e_
    exact ⟨h', yfr_sm K_.2.2.2 hs K_.1 (ywa_r xnxO_w List.mem_cons_self), ⟨fun a_ j_ => yfr_bp K_.2.2.2 (fun q_ hq => absurd hq List.not_mem_nil), G_⟩⟩
theorem nxX {u_ : Nat} {T : List Int32} {h_ : xH} {a_ : Nat} {c_ : List Int32} (R_ : RX u_ T h_ a_ c_) (ha_ : a_ ≤ T.length) : ∃ h', (RX u_ T h' a_ c_ ∧ frD h_ h') ∧ ∀ D_, 60 ≤ D_ → xrun D_ 23 0 [(0, .index 147)] [] h_ (some (.int (nxt T a_)), h', []) := by
  obtain ⟨R1, R2, R3, R4, R5, R6⟩ := R_
  have R_ := (show RX u_ T h_ a_ c_ from ⟨R1, R2, R3, R4, R5, R6⟩)
  have l60 : T.length ≤ 60 := R6.2.2.1
  have ia := i32n (i_ := a_) (by omega)
  have il := i32n (i_ := T.length) (by omega)
  by_cases g_ : a_ < T.length
  · obtain ⟨h1, m_, f_, r_⟩ := xnxI (v300 := Int32.ofNat a_) (v301 := Int32.ofNat T.length) (v302 := nxt T a_) R1 R3 R4 R6.2.1.2 (by rw [i32t (by omega)]; exact R6.2.2.2 a_ _ (nxt_in g_)) ⟨by omega, by omega⟩ (by omega)
    exact ⟨h1, ⟨RX_all R_ m_ f_, frD_all m_ f_⟩, r_⟩
  · obtain ⟨h1, m_, f_, r_⟩ := xnxO (v300 := Int32.ofNat a_) (v301 := Int32.ofNat T.length) R1 R3 R4 R6.2.1.2 (by omega)
    rw [nxt_out g_, ← i32_m1]
    exact ⟨h1, ⟨RX_all R_ m_ f_, frD_all m_ f_⟩, r_⟩
theorem c_nx {u_ : Nat} {T : List Int32} {h_ : xH} {a_ : Nat} {c_ : List Int32} {mi pc idx ln p0_ a1_ b1 d1_ : Nat} {lo_ : xL} {s' : List Jvm.Term} (hcd : xcd mi pc = some (.invokevirtual idx, ln, [p0_, 23, a1_, b1, d1_])) (hcc : xcc h_.length lo_ s' = true) (R_ : RX u_ T h_ a_ c_) (ha_ : a_ ≤ T.length) : ∃ h', (RX u_ T h' a_ c_ ∧ frD h_ h') ∧ bldD 61 mi pc lo_ (.index 147 :: s') h_ (pc + 3) lo_ (.int (nxt T a_) :: s') h' := by
  obtain ⟨h', K_, r_⟩ := nxX R_ ha_
  exact ⟨h', K_, ycv (as_ := []) hcd rfl (R147 R_) rfl hcc r_⟩
-- xadI: 20 steps, 0 ends, 1 returns
def xadI_L : List (Nat × Nat × Nat) := []
def xadI_O : yO := [(148, .int 1, .arg 300), (148, .int 0, .index 149)]
def xadI_A : yA := (yZ xadI_L, [(.arg 300, 60)], [], [], [])
def xadI_C : List xB := [(.lt, .arg 300, .int 60, true)]
def xadI_ss : List yS := []
def xadI_rs : List yR := [(some (.int 1), [(148, .int 1, .add (.arg 300) (.int 1)), (149, .arg 300, .arg 1), (148, .int 0, .index 149)], [(.lt, .arg 300, .int 60, true)], [(148, .int 1), (149, .arg 300)])]
theorem xadI_w : ywa xadI_A xadI_ss xadI_rs = true := by decide +kernel
theorem xadI_k : yis (yev xadI_A 3000 60 38 [] (0, [(0, .index 148), (1, .arg 1)], [], xadI_O, xadI_C, [])) xadI_ss xadI_rs = true := by decide +kernel
def xadI_r (v1_ v300 : Int32) (k_ : Nat) : Value := bif Nat.beq k_ 1 then .int v1_ else (bif Nat.beq k_ 300 then .int v300 else (.int 0))
def xadI_s (n_ : Nat) : Nat := 0
theorem xadI {h_ : xH} {v1_ v300 : Int32} (hs : sHp h_) (o0_ : bpat h_ 148 1 = some (.int v300)) (b0 : 0 ≤ (v300).toInt ∧ (v300).toInt < 60) (c0_ : v300.toInt < (60 : Int32).toInt) : ∃ h', ysm h_ h' ∧ (((bpat h' 148 1 = some (.int (v300 + (1 : Int32)))) ∧ (bpat h' 149 (v300).toInt.toNat = some (.int v1_)) ∧ (∀ a_ j_ : Nat, ¬ (a_ = 148 ∧ j_ = 1) → ¬ (a_ = 149 ∧ j_ = (v300).toInt.toNat) → bpat h' a_ j_ = bpat h_ a_ j_) ∧ (∀ D_, 60 ≤ D_ → xrun D_ 38 0 [(0, .index 148), (1, .int v1_)] [] h_ (some (.int (1 : Int32)), h', [])))) := by
  have hA : yas xadI_A (xadI_r v1_ v300) (yg xadI_s) := ⟨List.forall_mem_cons.mpr ⟨b0, fun q_ hq => absurd hq List.not_mem_nil⟩, fun q_ hq => absurd hq List.not_mem_nil, fun q_ hq => absurd hq List.not_mem_nil, fun n_ hn => yg_lo hn, fun q_ hq => absurd hq List.not_mem_nil⟩
  have Hs : ysh xadI_A.1 (yg xadI_s) h_ := ysh_of2 hs (fun q_ hq => absurd hq List.not_mem_nil)
  have Ho : ymem (xadI_r v1_ v300) (yg xadI_s) xadI_O h_ := List.forall_mem_cons.mpr ⟨bpat_some o0_, List.forall_mem_cons.mpr ⟨bpat_some (fxr_at hs.2 (show fxk fxl 148 0 = some 149 by decide +kernel)), fun q_ hq => absurd hq List.not_mem_nil⟩⟩
  have HC : ∀ q_ ∈ xadI_C, xhold (xadI_r v1_ v300) q_ := List.forall_mem_cons.mpr ⟨xh_ltT c0_, fun q_ hq => absurd hq List.not_mem_nil⟩
  rcases yrun (yis_ok xadI_k) hA Hs Ho HC with ⟨q_, hq, h', K_, G_⟩ | ⟨q_, hq, h', K_, G_⟩
  · cases hq
  · have e_ := List.mem_singleton.mp hq
    subst e_
    exact ⟨h', yfr_sm K_.2.2.2 hs K_.1 (ywa_r xadI_w List.mem_cons_self), ⟨bpat_of (K_.2.1 _ List.mem_cons_self), bpat_of (K_.2.1 _ (List.mem_cons_of_mem _ List.mem_cons_self)), fun a_ j_ n0_ n1_ => yfr_bp K_.2.2.2 (List.forall_mem_cons.mpr ⟨fun e_ => n0_ ⟨e_.1.symm, e_.2.symm⟩, List.forall_mem_cons.mpr ⟨fun e_ => n1_ ⟨e_.1.symm, e_.2.symm⟩, fun q_ hq => absurd hq List.not_mem_nil⟩⟩), G_⟩⟩
-- xadO: 8 steps, 0 ends, 1 returns
def xadO_L : List (Nat × Nat × Nat) := []
def xadO_O : yO := [(148, .int 1, .arg 300), (148, .int 0, .index 149)]
def xadO_A : yA := (yZ xadO_L, [], [], [], [])
def xadO_C : List xB := [(.lt, .arg 300, .int 60, false)]
def xadO_ss : List yS := []
def xadO_rs : List yR := [(some (.int 0), [(148, .int 1, .arg 300), (148, .int 0, .index 149)], [(.lt, .arg 300, .int 60, false)], [])]
theorem xadO_w : ywa xadO_A xadO_ss xadO_rs = true := by decide +kernel
theorem xadO_k : yis (yev xadO_A 3000 60 38 [] (0, [(0, .index 148), (1, .arg 1)], [], xadO_O, xadO_C, [])) xadO_ss xadO_rs = true := by decide +kernel
def xadO_r (v1_ v300 : Int32) (k_ : Nat) : Value := bif Nat.beq k_ 1 then .int v1_ else (bif Nat.beq k_ 300 then .int v300 else (.int 0))
def xadO_s (n_ : Nat) : Nat := 0
theorem xadO {h_ : xH} {v1_ v300 : Int32} (hs : sHp h_) (o0_ : bpat h_ 148 1 = some (.int v300)) (c0_ : (60 : Int32).toInt ≤ v300.toInt) : ∃ h', ysm h_ h' ∧ (((∀ a_ j_ : Nat, bpat h' a_ j_ = bpat h_ a_ j_) ∧ (∀ D_, 60 ≤ D_ → xrun D_ 38 0 [(0, .index 148), (1, .int v1_)] [] h_ (some (.int (0 : Int32)), h', [])))) := by
  have hA : yas xadO_A (xadO_r v1_ v300) (yg xadO_s) := ⟨fun q_ hq => absurd hq List.not_mem_nil, fun q_ hq => absurd hq List.not_mem_nil, fun q_ hq => absurd hq List.not_mem_nil, fun n_ hn => yg_lo hn, fun q_ hq => absurd hq List.not_mem_nil⟩
  have Hs : ysh xadO_A.1 (yg xadO_s) h_ := ysh_of2 hs (fun q_ hq => absurd hq List.not_mem_nil)
  have Ho : ymem (xadO_r v1_ v300) (yg xadO_s) xadO_O h_ := List.forall_mem_cons.mpr ⟨bpat_some o0_, List.forall_mem_cons.mpr ⟨bpat_some (fxr_at hs.2 (show fxk fxl 148 0 = some 149 by decide +kernel)), fun q_ hq => absurd hq List.not_mem_nil⟩⟩
  have HC : ∀ q_ ∈ xadO_C, xhold (xadO_r v1_ v300) q_ := List.forall_mem_cons.mpr ⟨xh_ltF c0_, fun q_ hq => absurd hq List.not_mem_nil⟩
  rcases yrun (yis_ok xadO_k) hA Hs Ho HC with ⟨q_, hq, h', K_, G_⟩ | ⟨q_, hq, h', K_, G_⟩
  · cases hq
  · have e_ := List.mem_singleton.mp hq
    subst e_
    exact ⟨h', yfr_sm K_.2.2.2 hs K_.1 (ywa_r xadO_w List.mem_cons_self), ⟨fun a_ j_ => yfr_bp K_.2.2.2 (fun q_ hq => absurd hq List.not_mem_nil), G_⟩⟩
theorem i60_ : (60 : Int32).toInt = 60 := rfl
theorem adX {u_ : Nat} {T : List Int32} {h_ : xH} {a_ : Nat} {c_ : List Int32} (y_ : Int32) (R_ : RX u_ T h_ a_ c_) : ∃ h' c2_ r_, ((RX u_ T h' a_ c2_ ∧ frD h_ h') ∧ (c_.length < 60 → c2_ = c_ ++ [y_])) ∧ ∀ D_, 60 ≤ D_ → xrun D_ 38 0 [(0, .index 148), (1, .int y_)] [] h_ (some (.int r_), h', []) := by
  obtain ⟨R1, R2, R3, R4, R5, R6⟩ := R_
  have R_ := (show RX u_ T h_ a_ c_ from ⟨R1, R2, R3, R4, R5, R6⟩)
  have l60 : c_.length ≤ 60 := R2.2.2.1
  have il := i32n (i_ := c_.length) (by omega)
  have z60_ := i60_
  by_cases g_ : c_.length < 60
  · obtain ⟨h1, m_, e1_, e2_, f_, r_⟩ := xadI (v1_ := y_) (v300 := Int32.ofNat c_.length) R1 R2.2.1.2 ⟨by omega, by omega⟩ (by omega)
    rw [i32s] at e1_
    rw [i32t (by omega)] at e2_ f_
    have f' : ∀ c2_ j_, ¬ (c2_ = 148 ∧ j_ = 1) → ¬ (c2_ = 149 ∧ j_ = c_.length) → bpat h1 c2_ j_ = bpat h_ c2_ j_ := fun c2_ j_ n1_ n2_ => f_ c2_ j_ n1_ n2_
    refine ⟨h1, c_ ++ [y_], 1, ⟨⟨⟨m_.1, rwx_add R2 g_ m_ e1_ e2_ f', (f' _ _ (by omega) (by omega)).trans R3, (f' _ _ (by omega) (by omega)).trans R4, (f' _ _ (by omega) (by omega)).trans R5, rwx_keep R6 m_ (fun c2_ j_ hc_ => f' c2_ j_ (by omega) (by omega))⟩, m_, fun c2_ j_ n1_ n2_ n3_ => f' c2_ j_ (fun q_ => n2_ q_.1) (fun q_ => n3_ q_.1)⟩, fun _ => rfl⟩, r_⟩
  · obtain ⟨h1, m_, f_, r_⟩ := xadO (v1_ := y_) (v300 := Int32.ofNat c_.length) R1 R2.2.1.2 (by omega)
    exact ⟨h1, c_, 0, ⟨⟨RX_all R_ m_ f_, frD_all m_ f_⟩, fun q_ => absurd q_ g_⟩, r_⟩
theorem c_ad {u_ : Nat} {T : List Int32} {h_ : xH} {a_ : Nat} {c_ : List Int32} {y_ : Int32} {mi pc idx ln p0_ a1_ b1 d1_ : Nat} {lo_ : xL} {s' : List Jvm.Term} (hcd : xcd mi pc = some (.invokevirtual idx, ln, [p0_, 38, a1_, b1, d1_])) (hcc : xcc h_.length lo_ s' = true) (R_ : RX u_ T h_ a_ c_) : ∃ h' c2_ r_, ((RX u_ T h' a_ c2_ ∧ frD h_ h') ∧ (c_.length < 60 → c2_ = c_ ++ [y_])) ∧ bldD 61 mi pc lo_ (.int y_ :: .index 148 :: s') h_ (pc + 3) lo_ (.int r_ :: s') h' := by
  obtain ⟨h', c2_, r_, K_, q_⟩ := adX y_ R_
  exact ⟨h', c2_, r_, K_, ycv (as_ := [.int y_]) hcd rfl (R148 R_) rfl hcc q_⟩
