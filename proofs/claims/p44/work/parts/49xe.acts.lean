-- ===== set
theorem yts {mi pc ln t_ : Nat} {ax : List Nat} {df low_ high_ : Int} {offs : Array Int} {lo_ : xL} {st_ : List Jvm.Term} {h_ : xH} {v_ : Int32} (hcd : xcd mi pc = some (.tableswitch df low_ high_ offs, ln, ax)) (hv : v_.toInt < low_ ∨ high_ < v_.toInt) (ht : (pc : Int) + df = .ofNat t_) : bldD 0 mi pc lo_ (.int v_ :: st_) h_ t_ lo_ st_ h_ := by
  refine fun D_ _ => bld_step hcd rfl ?_
  intro k_
  have e_ : (decide (v_.toInt < low_) || decide (high_ < v_.toInt)) = true := by
    rw [Bool.or_eq_true]
    rcases hv with q_ | q_
    · exact Or.inl (decide_eq_true q_)
    · exact Or.inr (decide_eq_true q_)
  simp only [xsp, xlit, e_, xjp, ht, xfN_eq, xst_eq]
-- mbe0: 19 steps, 0 ends, 3 returns
def mbe0_A : yA := (fun _ => none, [], [], [], [])
def mbe0_C : List xB := []
def mbe0_ss : List yS := []
def mbe0_rs : List yR := [(some (.int 0), [], [(.lt, .arg 1, .int 0, true)], []),
  (some (.int 0), [], [(.lt, .arg 1, .int 7, false), (.lt, .arg 1, .int 0, false)], []),
  (some (.int 1), [], [(.lt, .arg 1, .int 7, true), (.lt, .arg 1, .int 0, false)], [])]
theorem mbe0_k : yis (yev mbe0_A 3000 5 126 [] (0, [(0, .int 0), (1, .arg 1)], [], [], mbe0_C, [])) mbe0_ss mbe0_rs = true := by decide +kernel
def mbe0_r (v1_ : Int32) (k_ : Nat) : Value := bif Nat.beq k_ 1 then .int v1_ else (.int 0)
theorem mbe0 {v1_ : Int32} (h_ : xH)  : ((v1_.toInt < (0 : Int32).toInt) ∧ (∀ D_, 5 ≤ D_ → xrun D_ 126 0 [(0, .int (0 : Int32)), (1, .int v1_)] [] h_ (some (.int (0 : Int32)), h_, [])))
  ∨ (((7 : Int32).toInt ≤ v1_.toInt) ∧ ((0 : Int32).toInt ≤ v1_.toInt) ∧ (∀ D_, 5 ≤ D_ → xrun D_ 126 0 [(0, .int (0 : Int32)), (1, .int v1_)] [] h_ (some (.int (0 : Int32)), h_, [])))
  ∨ ((v1_.toInt < (7 : Int32).toInt) ∧ ((0 : Int32).toInt ≤ v1_.toInt) ∧ (∀ D_, 5 ≤ D_ → xrun D_ 126 0 [(0, .int (0 : Int32)), (1, .int v1_)] [] h_ (some (.int (1 : Int32)), h_, []))) := by
  have hA : yas mbe0_A (mbe0_r v1_) id := ⟨fun q_ hq => absurd hq List.not_mem_nil, fun q_ hq => absurd hq List.not_mem_nil, fun q_ hq => absurd hq List.not_mem_nil, fun _ _ => rfl, fun q_ hq => absurd hq List.not_mem_nil⟩
  have HC : ∀ q_ ∈ mbe0_C, xhold (mbe0_r v1_) q_ := fun q_ hq => absurd hq List.not_mem_nil
  rcases yrun (h_ := h_) (yis_ok mbe0_k) hA (fun n_ z_ e_ => (by cases e_)) (fun q_ hq => absurd hq List.not_mem_nil) HC with ⟨q_, hq, h', K_, G_⟩ | ⟨q_, hq, h', K_, G_⟩
  · cases hq
  · rcases List.mem_cons.mp hq with e_ | hq
    · subst e_
      rw [yfr_nil K_.2.2.2] at G_
      exact Or.inl (⟨xq_ltT rfl rfl (K_.2.2.1 _ List.mem_cons_self), G_⟩)
    rcases List.mem_cons.mp hq with e_ | hq
    · subst e_
      rw [yfr_nil K_.2.2.2] at G_
      exact Or.inr (Or.inl (⟨xq_ltF rfl rfl (K_.2.2.1 _ List.mem_cons_self), xq_ltF rfl rfl (K_.2.2.1 _ (List.mem_cons_of_mem _ List.mem_cons_self)), G_⟩))
    have e_ := List.mem_singleton.mp hq
    subst e_
    rw [yfr_nil K_.2.2.2] at G_
    exact Or.inr (Or.inr (⟨xq_ltT rfl rfl (K_.2.2.1 _ List.mem_cons_self), xq_ltF rfl rfl (K_.2.2.1 _ (List.mem_cons_of_mem _ List.mem_cons_self)), G_⟩))
-- mbe1: 14 steps, 0 ends, 3 returns
def mbe1_A : yA := (fun _ => none, [], [], [], [])
def mbe1_C : List xB := []
def mbe1_ss : List yS := []
def mbe1_rs : List yR := [(some (.int 0), [], [(.lt, .arg 1, .int 0, true)], []),
  (some (.int 0), [], [(.le, .arg 1, .int 9, false), (.lt, .arg 1, .int 0, false)], []),
  (some (.int 1), [], [(.le, .arg 1, .int 9, true), (.lt, .arg 1, .int 0, false)], [])]
theorem mbe1_k : yis (yev mbe1_A 3000 5 126 [] (0, [(0, .int 1), (1, .arg 1)], [], [], mbe1_C, [])) mbe1_ss mbe1_rs = true := by decide +kernel
def mbe1_r (v1_ : Int32) (k_ : Nat) : Value := bif Nat.beq k_ 1 then .int v1_ else (.int 0)
theorem mbe1 {v1_ : Int32} (h_ : xH)  : ((v1_.toInt < (0 : Int32).toInt) ∧ (∀ D_, 5 ≤ D_ → xrun D_ 126 0 [(0, .int (1 : Int32)), (1, .int v1_)] [] h_ (some (.int (0 : Int32)), h_, [])))
  ∨ (((9 : Int32).toInt < v1_.toInt) ∧ ((0 : Int32).toInt ≤ v1_.toInt) ∧ (∀ D_, 5 ≤ D_ → xrun D_ 126 0 [(0, .int (1 : Int32)), (1, .int v1_)] [] h_ (some (.int (0 : Int32)), h_, [])))
  ∨ ((v1_.toInt ≤ (9 : Int32).toInt) ∧ ((0 : Int32).toInt ≤ v1_.toInt) ∧ (∀ D_, 5 ≤ D_ → xrun D_ 126 0 [(0, .int (1 : Int32)), (1, .int v1_)] [] h_ (some (.int (1 : Int32)), h_, []))) := by
  have hA : yas mbe1_A (mbe1_r v1_) id := ⟨fun q_ hq => absurd hq List.not_mem_nil, fun q_ hq => absurd hq List.not_mem_nil, fun q_ hq => absurd hq List.not_mem_nil, fun _ _ => rfl, fun q_ hq => absurd hq List.not_mem_nil⟩
  have HC : ∀ q_ ∈ mbe1_C, xhold (mbe1_r v1_) q_ := fun q_ hq => absurd hq List.not_mem_nil
  rcases yrun (h_ := h_) (yis_ok mbe1_k) hA (fun n_ z_ e_ => (by cases e_)) (fun q_ hq => absurd hq List.not_mem_nil) HC with ⟨q_, hq, h', K_, G_⟩ | ⟨q_, hq, h', K_, G_⟩
  · cases hq
  · rcases List.mem_cons.mp hq with e_ | hq
    · subst e_
      rw [yfr_nil K_.2.2.2] at G_
      exact Or.inl (⟨xq_ltT rfl rfl (K_.2.2.1 _ List.mem_cons_self), G_⟩)
    rcases List.mem_cons.mp hq with e_ | hq
    · subst e_
      rw [yfr_nil K_.2.2.2] at G_
      exact Or.inr (Or.inl (⟨xq_leF rfl rfl (K_.2.2.1 _ List.mem_cons_self), xq_ltF rfl rfl (K_.2.2.1 _ (List.mem_cons_of_mem _ List.mem_cons_self)), G_⟩))
    have e_ := List.mem_singleton.mp hq
    subst e_
    rw [yfr_nil K_.2.2.2] at G_
    exact Or.inr (Or.inr (⟨xq_leT rfl rfl (K_.2.2.1 _ List.mem_cons_self), xq_ltF rfl rfl (K_.2.2.1 _ (List.mem_cons_of_mem _ List.mem_cons_self)), G_⟩))
-- mbe2: 19 steps, 0 ends, 3 returns
def mbe2_A : yA := (fun _ => none, [], [], [], [])
def mbe2_C : List xB := []
def mbe2_ss : List yS := []
def mbe2_rs : List yR := [(some (.int 0), [], [(.lt, .arg 1, .int 0, true)], []),
  (some (.int 0), [], [(.le, .arg 1, .int 20, false), (.lt, .arg 1, .int 0, false)], []),
  (some (.int 1), [], [(.le, .arg 1, .int 20, true), (.lt, .arg 1, .int 0, false)], [])]
theorem mbe2_k : yis (yev mbe2_A 3000 5 126 [] (0, [(0, .int 2), (1, .arg 1)], [], [], mbe2_C, [])) mbe2_ss mbe2_rs = true := by decide +kernel
def mbe2_r (v1_ : Int32) (k_ : Nat) : Value := bif Nat.beq k_ 1 then .int v1_ else (.int 0)
theorem mbe2 {v1_ : Int32} (h_ : xH)  : ((v1_.toInt < (0 : Int32).toInt) ∧ (∀ D_, 5 ≤ D_ → xrun D_ 126 0 [(0, .int (2 : Int32)), (1, .int v1_)] [] h_ (some (.int (0 : Int32)), h_, [])))
  ∨ (((20 : Int32).toInt < v1_.toInt) ∧ ((0 : Int32).toInt ≤ v1_.toInt) ∧ (∀ D_, 5 ≤ D_ → xrun D_ 126 0 [(0, .int (2 : Int32)), (1, .int v1_)] [] h_ (some (.int (0 : Int32)), h_, [])))
  ∨ ((v1_.toInt ≤ (20 : Int32).toInt) ∧ ((0 : Int32).toInt ≤ v1_.toInt) ∧ (∀ D_, 5 ≤ D_ → xrun D_ 126 0 [(0, .int (2 : Int32)), (1, .int v1_)] [] h_ (some (.int (1 : Int32)), h_, []))) := by
  have hA : yas mbe2_A (mbe2_r v1_) id := ⟨fun q_ hq => absurd hq List.not_mem_nil, fun q_ hq => absurd hq List.not_mem_nil, fun q_ hq => absurd hq List.not_mem_nil, fun _ _ => rfl, fun q_ hq => absurd hq List.not_mem_nil⟩
  have HC : ∀ q_ ∈ mbe2_C, xhold (mbe2_r v1_) q_ := fun q_ hq => absurd hq List.not_mem_nil
  rcases yrun (h_ := h_) (yis_ok mbe2_k) hA (fun n_ z_ e_ => (by cases e_)) (fun q_ hq => absurd hq List.not_mem_nil) HC with ⟨q_, hq, h', K_, G_⟩ | ⟨q_, hq, h', K_, G_⟩
  · cases hq
  · rcases List.mem_cons.mp hq with e_ | hq
    · subst e_
      rw [yfr_nil K_.2.2.2] at G_
      exact Or.inl (⟨xq_ltT rfl rfl (K_.2.2.1 _ List.mem_cons_self), G_⟩)
    rcases List.mem_cons.mp hq with e_ | hq
    · subst e_
      rw [yfr_nil K_.2.2.2] at G_
      exact Or.inr (Or.inl (⟨xq_leF rfl rfl (K_.2.2.1 _ List.mem_cons_self), xq_ltF rfl rfl (K_.2.2.1 _ (List.mem_cons_of_mem _ List.mem_cons_self)), G_⟩))
    have e_ := List.mem_singleton.mp hq
    subst e_
    rw [yfr_nil K_.2.2.2] at G_
    exact Or.inr (Or.inr (⟨xq_leT rfl rfl (K_.2.2.1 _ List.mem_cons_self), xq_ltF rfl rfl (K_.2.2.1 _ (List.mem_cons_of_mem _ List.mem_cons_self)), G_⟩))
-- mbi: 1 steps, 1 ends, 0 returns
def mbi_A : yA := (fun _ => none, [], [], [], [])
def mbi_C : List xB := []
def mbi_ss : List yS := [(1, [(0, .arg 0), (1, .arg 1)], [.arg 0], [], [], [])]
def mbi_rs : List yR := []
theorem mbi_k : yis (yev mbi_A 3000 5 126 [1] (0, [(0, .arg 0), (1, .arg 1)], [], [], mbi_C, [])) mbi_ss mbi_rs = true := by decide +kernel
def mbi_r (v0_ v1_ : Int32) (k_ : Nat) : Value := bif Nat.beq k_ 0 then .int v0_ else (bif Nat.beq k_ 1 then .int v1_ else (.int 0))
theorem mbi {v0_ v1_ : Int32} (h_ : xH)  : ((bldD 5 126 0 [(0, .int v0_), (1, .int v1_)] [] h_ 1 [(0, .int v0_), (1, .int v1_)] [.int v0_] h_)) := by
  have hA : yas mbi_A (mbi_r v0_ v1_) id := ⟨fun q_ hq => absurd hq List.not_mem_nil, fun q_ hq => absurd hq List.not_mem_nil, fun q_ hq => absurd hq List.not_mem_nil, fun _ _ => rfl, fun q_ hq => absurd hq List.not_mem_nil⟩
  have HC : ∀ q_ ∈ mbi_C, xhold (mbi_r v0_ v1_) q_ := fun q_ hq => absurd hq List.not_mem_nil
  rcases yrun (h_ := h_) (yis_ok mbi_k) hA (fun n_ z_ e_ => (by cases e_)) (fun q_ hq => absurd hq List.not_mem_nil) HC with ⟨q_, hq, h', K_, G_⟩ | ⟨q_, hq, h', K_, G_⟩
  · have e_ := List.mem_singleton.mp hq
    subst e_
    rw [yfr_nil K_.2.2.2] at G_
    exact G_
  · cases hq
-- mbd: 2 steps, 0 ends, 1 returns
def mbd_A : yA := (fun _ => none, [], [], [], [])
def mbd_C : List xB := []
def mbd_ss : List yS := []
def mbd_rs : List yR := [(some (.int 0), [], [], [])]
theorem mbd_k : yis (yev mbd_A 3000 5 126 [] (54, [(0, .arg 0), (1, .arg 1)], [], [], mbd_C, [])) mbd_ss mbd_rs = true := by decide +kernel
def mbd_r (v0_ v1_ : Int32) (k_ : Nat) : Value := bif Nat.beq k_ 0 then .int v0_ else (bif Nat.beq k_ 1 then .int v1_ else (.int 0))
theorem mbd {v0_ v1_ : Int32} (h_ : xH)  : ((∀ D_, 5 ≤ D_ → xrun D_ 126 54 [(0, .int v0_), (1, .int v1_)] [] h_ (some (.int (0 : Int32)), h_, []))) := by
  have hA : yas mbd_A (mbd_r v0_ v1_) id := ⟨fun q_ hq => absurd hq List.not_mem_nil, fun q_ hq => absurd hq List.not_mem_nil, fun q_ hq => absurd hq List.not_mem_nil, fun _ _ => rfl, fun q_ hq => absurd hq List.not_mem_nil⟩
  have HC : ∀ q_ ∈ mbd_C, xhold (mbd_r v0_ v1_) q_ := fun q_ hq => absurd hq List.not_mem_nil
  rcases yrun (h_ := h_) (yis_ok mbd_k) hA (fun n_ z_ e_ => (by cases e_)) (fun q_ hq => absurd hq List.not_mem_nil) HC with ⟨q_, hq, h', K_, G_⟩ | ⟨q_, hq, h', K_, G_⟩
  · cases hq
  · have e_ := List.mem_singleton.mp hq
    subst e_
    rw [yfr_nil K_.2.2.2] at G_
    exact G_
theorem i6_ : (6 : Int32).toInt = 6 := rfl
theorem i9_ : (9 : Int32).toInt = 9 := rfl
/-- may it become so -/
def mbP (a_ b_ : Int32) : Prop := (a_.toInt = 0 ∧ (0 ≤ b_.toInt ∧ b_.toInt ≤ 6)) ∨ ((a_.toInt = 1 ∧ (0 ≤ b_.toInt ∧ b_.toInt ≤ 9)) ∨ (a_.toInt = 2 ∧ (0 ≤ b_.toInt ∧ b_.toInt ≤ 20)))
def mbF (a_ b_ : Int32) : Int32 := if (a_.toInt = 0 ∧ (0 ≤ b_.toInt ∧ b_.toInt ≤ 6)) ∨ ((a_.toInt = 1 ∧ (0 ≤ b_.toInt ∧ b_.toInt ≤ 9)) ∨ (a_.toInt = 2 ∧ (0 ≤ b_.toInt ∧ b_.toInt ≤ 20))) then 1 else 0
theorem mbF_1 {a_ b_ : Int32} (h_ : mbP a_ b_) : mbF a_ b_ = 1 := if_pos h_
theorem mbF_0 {a_ b_ : Int32} (h_ : ¬ mbP a_ b_) : mbF a_ b_ = 0 := if_neg h_
theorem mbF_P {a_ b_ : Int32} (h_ : ¬ mbF a_ b_ = 0) : mbP a_ b_ := by
  by_cases g_ : mbP a_ b_
  · exact g_
  · exact absurd (mbF_0 g_) h_
theorem mbX (a_ b_ : Int32) : ∀ (h_ : xH) (D_ : Nat), 5 ≤ D_ → xrun D_ 126 0 [(0, .int a_), (1, .int b_)] [] h_ (some (.int (mbF a_ b_)), h_, []) := by
  intro h_ D_ hD
  have z0 := z0_
  have z1 := i1_
  have z2 := i2_
  have z6 := i6_
  have z9 := i9_
  have z20 := i20_
  have z7 : (7 : Int32).toInt = 7 := rfl
  by_cases g0 : a_.toInt = 0
  · have ea : a_ = 0 := Int32.toInt_inj.mp g0
    subst ea
    rcases mbe0 (v1_ := b_) h_ with ⟨g1, r_⟩ | ⟨g1, g2, r_⟩ | ⟨g1, g2, r_⟩
    · rw [mbF_0 (by unfold mbP; omega)]; exact r_ D_ hD
    · rw [mbF_0 (by unfold mbP; omega)]; exact r_ D_ hD
    · rw [mbF_1 (by unfold mbP; omega)]; exact r_ D_ hD
  · by_cases g1 : a_.toInt = 1
    · have ea : a_ = 1 := Int32.toInt_inj.mp g1
      subst ea
      rcases mbe1 (v1_ := b_) h_ with ⟨g1, r_⟩ | ⟨g1, g2, r_⟩ | ⟨g1, g2, r_⟩
      · rw [mbF_0 (by unfold mbP; omega)]; exact r_ D_ hD
      · rw [mbF_0 (by unfold mbP; omega)]; exact r_ D_ hD
      · rw [mbF_1 (by unfold mbP; omega)]; exact r_ D_ hD
    · by_cases g2 : a_.toInt = 2
      · have ea : a_ = 2 := Int32.toInt_inj.mp g2
        subst ea
        rcases mbe2 (v1_ := b_) h_ with ⟨g1, r_⟩ | ⟨g1, g2, r_⟩ | ⟨g1, g2, r_⟩
        · rw [mbF_0 (by unfold mbP; omega)]; exact r_ D_ hD
        · rw [mbF_0 (by unfold mbP; omega)]; exact r_ D_ hD
        · rw [mbF_1 (by unfold mbP; omega)]; exact r_ D_ hD
      · rw [mbF_0 (by unfold mbP; omega)]
        have l1 := mbi (v0_ := a_) (v1_ := b_) h_
        have l2 : bldD 0 126 1 [(0, .int a_), (1, .int b_)] [.int a_] h_ 54 [(0, .int a_), (1, .int b_)] [] h_ := yts (df := 53) (low_ := 0) (high_ := 2) (offs := #[27, 32, 48]) (ln := 27) (ax := []) rfl (by omega) rfl
        exact l1 D_ hD _ (l2 D_ (by omega) _ (mbd (v0_ := a_) (v1_ := b_) h_ D_ hD))
-- xstE: 72 steps, 1 ends, 3 returns
def xstE_L : List (Nat × Nat × Nat) := []
def xstE_O : yO := [(0, .int 0, .index 1), (1, .int 10, .arg 310), (0, .int 13, .index 323), (323, .int 1, .arg 400)]
def xstE_A : yA := (yZ xstE_L, [], [], [], [(126, [.arg 2, .arg 3], .arg 500)])
def xstE_C : List xB := []
def xstE_ss : List yS := [(22, [(0, .index 0), (1, .arg 1), (2, .arg 2), (3, .arg 3)], [], [(0, .int 0, .index 1), (1, .int 10, .arg 310), (0, .int 13, .index 323), (323, .int 1, .arg 400)], [(.eq, .arg 500, .int 0, false), (.lt, .arg 1, .arg 310, true), (.lt, .arg 1, .int 0, false)], [])]
def xstE_rs : List yR := [(some (.int (Int32.ofInt (-1000001))), [(323, .int 1, .add (.arg 400) (.int 1)), (0, .int 0, .index 1), (1, .int 10, .arg 310), (0, .int 13, .index 323)], [(.lt, .arg 1, .int 0, true)], [(323, .int 1)]),
  (some (.int (Int32.ofInt (-1000001))), [(323, .int 1, .add (.arg 400) (.int 1)), (0, .int 0, .index 1), (1, .int 10, .arg 310), (0, .int 13, .index 323)], [(.lt, .arg 1, .arg 310, false), (.lt, .arg 1, .int 0, false)], [(323, .int 1)]),
  (some (.int (Int32.ofInt (-1000001))), [(323, .int 1, .add (.arg 400) (.int 1)), (0, .int 0, .index 1), (1, .int 10, .arg 310), (0, .int 13, .index 323)], [(.eq, .arg 500, .int 0, true), (.lt, .arg 1, .arg 310, true), (.lt, .arg 1, .int 0, false)], [(323, .int 1)])]
theorem xstE_w : ywa xstE_A xstE_ss xstE_rs = true := by decide +kernel
theorem xstE_k : yis (yev xstE_A 3000 60 83 [22] (0, [(0, .index 0), (1, .arg 1), (2, .arg 2), (3, .arg 3)], [], xstE_O, xstE_C, [])) xstE_ss xstE_rs = true := by decide +kernel
def xstE_r (v1_ v2 v3 v310 v400 v500 : Int32) (k_ : Nat) : Value := bif Nat.beq k_ 1 then .int v1_ else (bif Nat.beq k_ 2 then .int v2 else (bif Nat.beq k_ 3 then .int v3 else (bif Nat.beq k_ 310 then .int v310 else (bif Nat.beq k_ 400 then .int v400 else (bif Nat.beq k_ 500 then .int v500 else (.int 0))))))
def xstE_s (n_ : Nat) : Nat := 0
theorem xstE {h_ : xH} {v1_ v2 v3 v310 v400 v500 : Int32} (hs : sHp h_) (o0_ : bpat h_ 1 10 = some (.int v310)) (o1 : bpat h_ 323 1 = some (.int v400)) (p0_ : ∀ (h_ : xH) (D_ : Nat), 5 ≤ D_ → xrun D_ 126 0 [(0, .int v2), (1, .int v3)] [] h_ (some (.int v500), h_, [])) : ∃ h', ysm h_ h' ∧ (((¬ v500 = (0 : Int32)) ∧ (v1_.toInt < v310.toInt) ∧ ((0 : Int32).toInt ≤ v1_.toInt) ∧ (∀ a_ j_ : Nat, bpat h' a_ j_ = bpat h_ a_ j_) ∧ (bldD 60 83 0 [(0, .index 0), (1, .int v1_), (2, .int v2), (3, .int v3)] [] h_ 22 [(0, .index 0), (1, .int v1_), (2, .int v2), (3, .int v3)] [] h'))
  ∨ ((v1_.toInt < (0 : Int32).toInt) ∧ (bpat h' 323 1 = some (.int (v400 + (1 : Int32)))) ∧ (∀ a_ j_ : Nat, ¬ (a_ = 323 ∧ j_ = 1) → bpat h' a_ j_ = bpat h_ a_ j_) ∧ (∀ D_, 60 ≤ D_ → xrun D_ 83 0 [(0, .index 0), (1, .int v1_), (2, .int v2), (3, .int v3)] [] h_ (some (.int (Int32.ofInt (-1000001))), h', [])))
  ∨ ((v310.toInt ≤ v1_.toInt) ∧ ((0 : Int32).toInt ≤ v1_.toInt) ∧ (bpat h' 323 1 = some (.int (v400 + (1 : Int32)))) ∧ (∀ a_ j_ : Nat, ¬ (a_ = 323 ∧ j_ = 1) → bpat h' a_ j_ = bpat h_ a_ j_) ∧ (∀ D_, 60 ≤ D_ → xrun D_ 83 0 [(0, .index 0), (1, .int v1_), (2, .int v2), (3, .int v3)] [] h_ (some (.int (Int32.ofInt (-1000001))), h', [])))
  ∨ ((v500 = (0 : Int32)) ∧ (v1_.toInt < v310.toInt) ∧ ((0 : Int32).toInt ≤ v1_.toInt) ∧ (bpat h' 323 1 = some (.int (v400 + (1 : Int32)))) ∧ (∀ a_ j_ : Nat, ¬ (a_ = 323 ∧ j_ = 1) → bpat h' a_ j_ = bpat h_ a_ j_) ∧ (∀ D_, 60 ≤ D_ → xrun D_ 83 0 [(0, .index 0), (1, .int v1_), (2, .int v2), (3, .int v3)] [] h_ (some (.int (Int32.ofInt (-1000001))), h', [])))) := by
  have hA : yas xstE_A (xstE_r v1_ v2 v3 v310 v400 v500) (yg xstE_s) := ⟨fun q_ hq => absurd hq List.not_mem_nil, fun q_ hq => absurd hq List.not_mem_nil, fun q_ hq => absurd hq List.not_mem_nil, fun n_ hn => yg_lo hn, List.forall_mem_cons.mpr ⟨p0_, fun q_ hq => absurd hq List.not_mem_nil⟩⟩
  have Hs : ysh xstE_A.1 (yg xstE_s) h_ := ysh_of2 hs (fun q_ hq => absurd hq List.not_mem_nil)
  have Ho : ymem (xstE_r v1_ v2 v3 v310 v400 v500) (yg xstE_s) xstE_O h_ := List.forall_mem_cons.mpr ⟨bpat_some (fxr_at hs.2 (show fxk fxl 0 0 = some 1 by decide +kernel)), List.forall_mem_cons.mpr ⟨bpat_some o0_, List.forall_mem_cons.mpr ⟨bpat_some (fxr_at hs.2 (show fxk fxl 0 13 = some 323 by decide +kernel)), List.forall_mem_cons.mpr ⟨bpat_some o1, fun q_ hq => absurd hq List.not_mem_nil⟩⟩⟩⟩
  have HC : ∀ q_ ∈ xstE_C, xhold (xstE_r v1_ v2 v3 v310 v400 v500) q_ := fun q_ hq => absurd hq List.not_mem_nil
  rcases yrun (yis_ok xstE_k) hA Hs Ho HC with ⟨q_, hq, h', K_, G_⟩ | ⟨q_, hq, h', K_, G_⟩
  · have e_ := List.mem_singleton.mp hq
    subst e_
    exact ⟨h', yfr_sm K_.2.2.2 hs K_.1 (ywa_s xstE_w List.mem_cons_self), Or.inl (⟨xq_eqF rfl rfl (K_.2.2.1 _ List.mem_cons_self), xq_ltT rfl rfl (K_.2.2.1 _ (List.mem_cons_of_mem _ List.mem_cons_self)), xq_ltF rfl rfl (K_.2.2.1 _ (List.mem_cons_of_mem _ (List.mem_cons_of_mem _ List.mem_cons_self))), fun a_ j_ => yfr_bp K_.2.2.2 (fun q_ hq => absurd hq List.not_mem_nil), G_⟩)⟩
  · rcases List.mem_cons.mp hq with e_ | hq
    · subst e_
      exact ⟨h', yfr_sm K_.2.2.2 hs K_.1 (ywa_r xstE_w List.mem_cons_self), Or.inr (Or.inl (⟨xq_ltT rfl rfl (K_.2.2.1 _ List.mem_cons_self), bpat_of (K_.2.1 _ List.mem_cons_self), fun a_ j_ n0_ => yfr_bp K_.2.2.2 (List.forall_mem_cons.mpr ⟨fun e_ => n0_ ⟨e_.1.symm, e_.2.symm⟩, fun q_ hq => absurd hq List.not_mem_nil⟩), G_⟩))⟩
    rcases List.mem_cons.mp hq with e_ | hq
    · subst e_
      exact ⟨h', yfr_sm K_.2.2.2 hs K_.1 (ywa_r xstE_w (List.mem_cons_of_mem _ List.mem_cons_self)), Or.inr (Or.inr (Or.inl (⟨xq_ltF rfl rfl (K_.2.2.1 _ List.mem_cons_self), xq_ltF rfl rfl (K_.2.2.1 _ (List.mem_cons_of_mem _ List.mem_cons_self)), bpat_of (K_.2.1 _ List.mem_cons_self), fun a_ j_ n0_ => yfr_bp K_.2.2.2 (List.forall_mem_cons.mpr ⟨fun e_ => n0_ ⟨e_.1.symm, e_.2.symm⟩, fun q_ hq => absurd hq List.not_mem_nil⟩), G_⟩)))⟩
    have e_ := List.mem_singleton.mp hq
    subst e_
    exact ⟨h', yfr_sm K_.2.2.2 hs K_.1 (ywa_r xstE_w (List.mem_cons_of_mem _ (List.mem_cons_of_mem _ List.mem_cons_self))), Or.inr (Or.inr (Or.inr (⟨xq_eqT rfl rfl (K_.2.2.1 _ List.mem_cons_self), xq_ltT rfl rfl (K_.2.2.1 _ (List.mem_cons_of_mem _ List.mem_cons_self)), xq_ltF rfl rfl (K_.2.2.1 _ (List.mem_cons_of_mem _ (List.mem_cons_of_mem _ List.mem_cons_self))), bpat_of (K_.2.1 _ List.mem_cons_self), fun a_ j_ n0_ => yfr_bp K_.2.2.2 (List.forall_mem_cons.mpr ⟨fun e_ => n0_ ⟨e_.1.symm, e_.2.symm⟩, fun q_ hq => absurd hq List.not_mem_nil⟩), G_⟩)))⟩
-- mstE: 274 steps, 3 ends, 10 returns
def mstE_L : List (Nat × Nat × Nat) := []
def mstE_O : yO := [(338, .int 0, .index 339), (339, .int 1, .arg 310), (338, .int 3, .index 341), (341, .int 1, .arg 400)]
def mstE_A : yA := (yZ mstE_L, [], [], [], [])
def mstE_C : List xB := []
def mstE_ss : List yS := [(52, [(0, .index 338), (1, .arg 1), (2, .arg 2), (3, .arg 3)], [], [(338, .int 0, .index 339), (339, .int 1, .arg 310), (338, .int 3, .index 341), (341, .int 1, .arg 400)], [(.le, .arg 3, .int 20, true), (.lt, .arg 3, .int 0, false), (.eq, .arg 2, .int 1, false), (.eq, .arg 2, .int 0, false), (.le, .arg 2, .int 2, true), (.lt, .arg 2, .int 0, false), (.le, .arg 1, .sub (.arg 310) (.int 1), true), (.lt, .arg 1, .int 0, false)], []),
  (52, [(0, .index 338), (1, .arg 1), (2, .arg 2), (3, .arg 3)], [], [(338, .int 0, .index 339), (339, .int 1, .arg 310), (338, .int 3, .index 341), (341, .int 1, .arg 400)], [(.le, .arg 3, .int 9, true), (.lt, .arg 3, .int 0, false), (.eq, .arg 2, .int 1, true), (.eq, .arg 2, .int 0, false), (.le, .arg 2, .int 2, true), (.lt, .arg 2, .int 0, false), (.le, .arg 1, .sub (.arg 310) (.int 1), true), (.lt, .arg 1, .int 0, false)], []),
  (52, [(0, .index 338), (1, .arg 1), (2, .arg 2), (3, .arg 3)], [], [(338, .int 0, .index 339), (339, .int 1, .arg 310), (338, .int 3, .index 341), (341, .int 1, .arg 400)], [(.le, .arg 3, .int 6, true), (.lt, .arg 3, .int 0, false), (.eq, .arg 2, .int 0, true), (.le, .arg 2, .int 2, true), (.lt, .arg 2, .int 0, false), (.le, .arg 1, .sub (.arg 310) (.int 1), true), (.lt, .arg 1, .int 0, false)], [])]
def mstE_rs : List yR := [(some (.int (Int32.ofInt (-1000001))), [(341, .int 1, .add (.arg 400) (.int 1)), (338, .int 0, .index 339), (339, .int 1, .arg 310), (338, .int 3, .index 341)], [(.lt, .arg 1, .int 0, true)], [(341, .int 1)]),
  (some (.int (Int32.ofInt (-1000001))), [(341, .int 1, .add (.arg 400) (.int 1)), (338, .int 0, .index 339), (339, .int 1, .arg 310), (338, .int 3, .index 341)], [(.le, .arg 1, .sub (.arg 310) (.int 1), false), (.lt, .arg 1, .int 0, false)], [(341, .int 1)]),
  (some (.int (Int32.ofInt (-1000001))), [(341, .int 1, .add (.arg 400) (.int 1)), (338, .int 0, .index 339), (339, .int 1, .arg 310), (338, .int 3, .index 341)], [(.lt, .arg 2, .int 0, true), (.le, .arg 1, .sub (.arg 310) (.int 1), true), (.lt, .arg 1, .int 0, false)], [(341, .int 1)]),
  (some (.int (Int32.ofInt (-1000001))), [(341, .int 1, .add (.arg 400) (.int 1)), (338, .int 0, .index 339), (339, .int 1, .arg 310), (338, .int 3, .index 341)], [(.le, .arg 2, .int 2, false), (.lt, .arg 2, .int 0, false), (.le, .arg 1, .sub (.arg 310) (.int 1), true), (.lt, .arg 1, .int 0, false)], [(341, .int 1)]),
  (some (.int (Int32.ofInt (-1000001))), [(341, .int 1, .add (.arg 400) (.int 1)), (338, .int 0, .index 339), (339, .int 1, .arg 310), (338, .int 3, .index 341)], [(.lt, .arg 3, .int 0, true), (.eq, .arg 2, .int 1, false), (.eq, .arg 2, .int 0, false), (.le, .arg 2, .int 2, true), (.lt, .arg 2, .int 0, false), (.le, .arg 1, .sub (.arg 310) (.int 1), true), (.lt, .arg 1, .int 0, false)], [(341, .int 1)]),
  (some (.int (Int32.ofInt (-1000001))), [(341, .int 1, .add (.arg 400) (.int 1)), (338, .int 0, .index 339), (339, .int 1, .arg 310), (338, .int 3, .index 341)], [(.le, .arg 3, .int 20, false), (.lt, .arg 3, .int 0, false), (.eq, .arg 2, .int 1, false), (.eq, .arg 2, .int 0, false), (.le, .arg 2, .int 2, true), (.lt, .arg 2, .int 0, false), (.le, .arg 1, .sub (.arg 310) (.int 1), true), (.lt, .arg 1, .int 0, false)], [(341, .int 1)]),
  (some (.int (Int32.ofInt (-1000001))), [(341, .int 1, .add (.arg 400) (.int 1)), (338, .int 0, .index 339), (339, .int 1, .arg 310), (338, .int 3, .index 341)], [(.lt, .arg 3, .int 0, true), (.eq, .arg 2, .int 1, true), (.eq, .arg 2, .int 0, false), (.le, .arg 2, .int 2, true), (.lt, .arg 2, .int 0, false), (.le, .arg 1, .sub (.arg 310) (.int 1), true), (.lt, .arg 1, .int 0, false)], [(341, .int 1)]),
  (some (.int (Int32.ofInt (-1000001))), [(341, .int 1, .add (.arg 400) (.int 1)), (338, .int 0, .index 339), (339, .int 1, .arg 310), (338, .int 3, .index 341)], [(.le, .arg 3, .int 9, false), (.lt, .arg 3, .int 0, false), (.eq, .arg 2, .int 1, true), (.eq, .arg 2, .int 0, false), (.le, .arg 2, .int 2, true), (.lt, .arg 2, .int 0, false), (.le, .arg 1, .sub (.arg 310) (.int 1), true), (.lt, .arg 1, .int 0, false)], [(341, .int 1)]),
  (some (.int (Int32.ofInt (-1000001))), [(341, .int 1, .add (.arg 400) (.int 1)), (338, .int 0, .index 339), (339, .int 1, .arg 310), (338, .int 3, .index 341)], [(.lt, .arg 3, .int 0, true), (.eq, .arg 2, .int 0, true), (.le, .arg 2, .int 2, true), (.lt, .arg 2, .int 0, false), (.le, .arg 1, .sub (.arg 310) (.int 1), true), (.lt, .arg 1, .int 0, false)], [(341, .int 1)]),
  (some (.int (Int32.ofInt (-1000001))), [(341, .int 1, .add (.arg 400) (.int 1)), (338, .int 0, .index 339), (339, .int 1, .arg 310), (338, .int 3, .index 341)], [(.le, .arg 3, .int 6, false), (.lt, .arg 3, .int 0, false), (.eq, .arg 2, .int 0, true), (.le, .arg 2, .int 2, true), (.lt, .arg 2, .int 0, false), (.le, .arg 1, .sub (.arg 310) (.int 1), true), (.lt, .arg 1, .int 0, false)], [(341, .int 1)])]
theorem mstE_w : ywa mstE_A mstE_ss mstE_rs = true := by decide +kernel
theorem mstE_k : yis (yev mstE_A 3000 60 171 [52] (0, [(0, .index 338), (1, .arg 1), (2, .arg 2), (3, .arg 3)], [], mstE_O, mstE_C, [])) mstE_ss mstE_rs = true := by decide +kernel
def mstE_r (v1_ v2 v3 v310 v400 : Int32) (k_ : Nat) : Value := bif Nat.beq k_ 1 then .int v1_ else (bif Nat.beq k_ 2 then .int v2 else (bif Nat.beq k_ 3 then .int v3 else (bif Nat.beq k_ 310 then .int v310 else (bif Nat.beq k_ 400 then .int v400 else (.int 0)))))
def mstE_s (n_ : Nat) : Nat := 0
theorem mstE {h_ : xH} {v1_ v2 v3 v310 v400 : Int32} (hs : sHp h_) (o0_ : bpat h_ 339 1 = some (.int v310)) (o1 : bpat h_ 341 1 = some (.int v400)) : ∃ h', ysm h_ h' ∧ (((v3.toInt ≤ (20 : Int32).toInt) ∧ ((0 : Int32).toInt ≤ v3.toInt) ∧ (¬ v2 = (1 : Int32)) ∧ (¬ v2 = (0 : Int32)) ∧ (v2.toInt ≤ (2 : Int32).toInt) ∧ ((0 : Int32).toInt ≤ v2.toInt) ∧ (v1_.toInt ≤ (v310 - (1 : Int32)).toInt) ∧ ((0 : Int32).toInt ≤ v1_.toInt) ∧ (∀ a_ j_ : Nat, bpat h' a_ j_ = bpat h_ a_ j_) ∧ (bldD 60 171 0 [(0, .index 338), (1, .int v1_), (2, .int v2), (3, .int v3)] [] h_ 52 [(0, .index 338), (1, .int v1_), (2, .int v2), (3, .int v3)] [] h'))
  ∨ ((v3.toInt ≤ (9 : Int32).toInt) ∧ ((0 : Int32).toInt ≤ v3.toInt) ∧ (v2 = (1 : Int32)) ∧ (¬ v2 = (0 : Int32)) ∧ (v2.toInt ≤ (2 : Int32).toInt) ∧ ((0 : Int32).toInt ≤ v2.toInt) ∧ (v1_.toInt ≤ (v310 - (1 : Int32)).toInt) ∧ ((0 : Int32).toInt ≤ v1_.toInt) ∧ (∀ a_ j_ : Nat, bpat h' a_ j_ = bpat h_ a_ j_) ∧ (bldD 60 171 0 [(0, .index 338), (1, .int v1_), (2, .int v2), (3, .int v3)] [] h_ 52 [(0, .index 338), (1, .int v1_), (2, .int v2), (3, .int v3)] [] h'))
  ∨ ((v3.toInt ≤ (6 : Int32).toInt) ∧ ((0 : Int32).toInt ≤ v3.toInt) ∧ (v2 = (0 : Int32)) ∧ (v2.toInt ≤ (2 : Int32).toInt) ∧ ((0 : Int32).toInt ≤ v2.toInt) ∧ (v1_.toInt ≤ (v310 - (1 : Int32)).toInt) ∧ ((0 : Int32).toInt ≤ v1_.toInt) ∧ (∀ a_ j_ : Nat, bpat h' a_ j_ = bpat h_ a_ j_) ∧ (bldD 60 171 0 [(0, .index 338), (1, .int v1_), (2, .int v2), (3, .int v3)] [] h_ 52 [(0, .index 338), (1, .int v1_), (2, .int v2), (3, .int v3)] [] h'))
  ∨ ((v1_.toInt < (0 : Int32).toInt) ∧ (bpat h' 341 1 = some (.int (v400 + (1 : Int32)))) ∧ (∀ a_ j_ : Nat, ¬ (a_ = 341 ∧ j_ = 1) → bpat h' a_ j_ = bpat h_ a_ j_) ∧ (∀ D_, 60 ≤ D_ → xrun D_ 171 0 [(0, .index 338), (1, .int v1_), (2, .int v2), (3, .int v3)] [] h_ (some (.int (Int32.ofInt (-1000001))), h', [])))
  ∨ (((v310 - (1 : Int32)).toInt < v1_.toInt) ∧ ((0 : Int32).toInt ≤ v1_.toInt) ∧ (bpat h' 341 1 = some (.int (v400 + (1 : Int32)))) ∧ (∀ a_ j_ : Nat, ¬ (a_ = 341 ∧ j_ = 1) → bpat h' a_ j_ = bpat h_ a_ j_) ∧ (∀ D_, 60 ≤ D_ → xrun D_ 171 0 [(0, .index 338), (1, .int v1_), (2, .int v2), (3, .int v3)] [] h_ (some (.int (Int32.ofInt (-1000001))), h', [])))
  ∨ ((v2.toInt < (0 : Int32).toInt) ∧ (v1_.toInt ≤ (v310 - (1 : Int32)).toInt) ∧ ((0 : Int32).toInt ≤ v1_.toInt) ∧ (bpat h' 341 1 = some (.int (v400 + (1 : Int32)))) ∧ (∀ a_ j_ : Nat, ¬ (a_ = 341 ∧ j_ = 1) → bpat h' a_ j_ = bpat h_ a_ j_) ∧ (∀ D_, 60 ≤ D_ → xrun D_ 171 0 [(0, .index 338), (1, .int v1_), (2, .int v2), (3, .int v3)] [] h_ (some (.int (Int32.ofInt (-1000001))), h', [])))
  ∨ (((2 : Int32).toInt < v2.toInt) ∧ ((0 : Int32).toInt ≤ v2.toInt) ∧ (v1_.toInt ≤ (v310 - (1 : Int32)).toInt) ∧ ((0 : Int32).toInt ≤ v1_.toInt) ∧ (bpat h' 341 1 = some (.int (v400 + (1 : Int32)))) ∧ (∀ a_ j_ : Nat, ¬ (a_ = 341 ∧ j_ = 1) → bpat h' a_ j_ = bpat h_ a_ j_) ∧ (∀ D_, 60 ≤ D_ → xrun D_ 171 0 [(0, .index 338), (1, .int v1_), (2, .int v2), (3, .int v3)] [] h_ (some (.int (Int32.ofInt (-1000001))), h', [])))
  ∨ ((v3.toInt < (0 : Int32).toInt) ∧ (¬ v2 = (1 : Int32)) ∧ (¬ v2 = (0 : Int32)) ∧ (v2.toInt ≤ (2 : Int32).toInt) ∧ ((0 : Int32).toInt ≤ v2.toInt) ∧ (v1_.toInt ≤ (v310 - (1 : Int32)).toInt) ∧ ((0 : Int32).toInt ≤ v1_.toInt) ∧ (bpat h' 341 1 = some (.int (v400 + (1 : Int32)))) ∧ (∀ a_ j_ : Nat, ¬ (a_ = 341 ∧ j_ = 1) → bpat h' a_ j_ = bpat h_ a_ j_) ∧ (∀ D_, 60 ≤ D_ → xrun D_ 171 0 [(0, .index 338), (1, .int v1_), (2, .int v2), (3, .int v3)] [] h_ (some (.int (Int32.ofInt (-1000001))), h', [])))
  ∨ (((20 : Int32).toInt < v3.toInt) ∧ ((0 : Int32).toInt ≤ v3.toInt) ∧ (¬ v2 = (1 : Int32)) ∧ (¬ v2 = (0 : Int32)) ∧ (v2.toInt ≤ (2 : Int32).toInt) ∧ ((0 : Int32).toInt ≤ v2.toInt) ∧ (v1_.toInt ≤ (v310 - (1 : Int32)).toInt) ∧ ((0 : Int32).toInt ≤ v1_.toInt) ∧ (bpat h' 341 1 = some (.int (v400 + (1 : Int32)))) ∧ (∀ a_ j_ : Nat, ¬ (a_ = 341 ∧ j_ = 1) → bpat h' a_ j_ = bpat h_ a_ j_) ∧ (∀ D_, 60 ≤ D_ → xrun D_ 171 0 [(0, .index 338), (1, .int v1_), (2, .int v2), (3, .int v3)] [] h_ (some (.int (Int32.ofInt (-1000001))), h', [])))
  ∨ ((v3.toInt < (0 : Int32).toInt) ∧ (v2 = (1 : Int32)) ∧ (¬ v2 = (0 : Int32)) ∧ (v2.toInt ≤ (2 : Int32).toInt) ∧ ((0 : Int32).toInt ≤ v2.toInt) ∧ (v1_.toInt ≤ (v310 - (1 : Int32)).toInt) ∧ ((0 : Int32).toInt ≤ v1_.toInt) ∧ (bpat h' 341 1 = some (.int (v400 + (1 : Int32)))) ∧ (∀ a_ j_ : Nat, ¬ (a_ = 341 ∧ j_ = 1) → bpat h' a_ j_ = bpat h_ a_ j_) ∧ (∀ D_, 60 ≤ D_ → xrun D_ 171 0 [(0, .index 338), (1, .int v1_), (2, .int v2), (3, .int v3)] [] h_ (some (.int (Int32.ofInt (-1000001))), h', [])))
  ∨ (((9 : Int32).toInt < v3.toInt) ∧ ((0 : Int32).toInt ≤ v3.toInt) ∧ (v2 = (1 : Int32)) ∧ (¬ v2 = (0 : Int32)) ∧ (v2.toInt ≤ (2 : Int32).toInt) ∧ ((0 : Int32).toInt ≤ v2.toInt) ∧ (v1_.toInt ≤ (v310 - (1 : Int32)).toInt) ∧ ((0 : Int32).toInt ≤ v1_.toInt) ∧ (bpat h' 341 1 = some (.int (v400 + (1 : Int32)))) ∧ (∀ a_ j_ : Nat, ¬ (a_ = 341 ∧ j_ = 1) → bpat h' a_ j_ = bpat h_ a_ j_) ∧ (∀ D_, 60 ≤ D_ → xrun D_ 171 0 [(0, .index 338), (1, .int v1_), (2, .int v2), (3, .int v3)] [] h_ (some (.int (Int32.ofInt (-1000001))), h', [])))
  ∨ ((v3.toInt < (0 : Int32).toInt) ∧ (v2 = (0 : Int32)) ∧ (v2.toInt ≤ (2 : Int32).toInt) ∧ ((0 : Int32).toInt ≤ v2.toInt) ∧ (v1_.toInt ≤ (v310 - (1 : Int32)).toInt) ∧ ((0 : Int32).toInt ≤ v1_.toInt) ∧ (bpat h' 341 1 = some (.int (v400 + (1 : Int32)))) ∧ (∀ a_ j_ : Nat, ¬ (a_ = 341 ∧ j_ = 1) → bpat h' a_ j_ = bpat h_ a_ j_) ∧ (∀ D_, 60 ≤ D_ → xrun D_ 171 0 [(0, .index 338), (1, .int v1_), (2, .int v2), (3, .int v3)] [] h_ (some (.int (Int32.ofInt (-1000001))), h', [])))
  ∨ (((6 : Int32).toInt < v3.toInt) ∧ ((0 : Int32).toInt ≤ v3.toInt) ∧ (v2 = (0 : Int32)) ∧ (v2.toInt ≤ (2 : Int32).toInt) ∧ ((0 : Int32).toInt ≤ v2.toInt) ∧ (v1_.toInt ≤ (v310 - (1 : Int32)).toInt) ∧ ((0 : Int32).toInt ≤ v1_.toInt) ∧ (bpat h' 341 1 = some (.int (v400 + (1 : Int32)))) ∧ (∀ a_ j_ : Nat, ¬ (a_ = 341 ∧ j_ = 1) → bpat h' a_ j_ = bpat h_ a_ j_) ∧ (∀ D_, 60 ≤ D_ → xrun D_ 171 0 [(0, .index 338), (1, .int v1_), (2, .int v2), (3, .int v3)] [] h_ (some (.int (Int32.ofInt (-1000001))), h', [])))) := by
  have hA : yas mstE_A (mstE_r v1_ v2 v3 v310 v400) (yg mstE_s) := ⟨fun q_ hq => absurd hq List.not_mem_nil, fun q_ hq => absurd hq List.not_mem_nil, fun q_ hq => absurd hq List.not_mem_nil, fun n_ hn => yg_lo hn, fun q_ hq => absurd hq List.not_mem_nil⟩
  have Hs : ysh mstE_A.1 (yg mstE_s) h_ := ysh_of2 hs (fun q_ hq => absurd hq List.not_mem_nil)
  have Ho : ymem (mstE_r v1_ v2 v3 v310 v400) (yg mstE_s) mstE_O h_ := List.forall_mem_cons.mpr ⟨bpat_some (fxr_at hs.2 (show fxk fxl 338 0 = some 339 by decide +kernel)), List.forall_mem_cons.mpr ⟨bpat_some o0_, List.forall_mem_cons.mpr ⟨bpat_some (fxr_at hs.2 (show fxk fxl 338 3 = some 341 by decide +kernel)), List.forall_mem_cons.mpr ⟨bpat_some o1, fun q_ hq => absurd hq List.not_mem_nil⟩⟩⟩⟩
  have HC : ∀ q_ ∈ mstE_C, xhold (mstE_r v1_ v2 v3 v310 v400) q_ := fun q_ hq => absurd hq List.not_mem_nil
  rcases yrun (yis_ok mstE_k) hA Hs Ho HC with ⟨q_, hq, h', K_, G_⟩ | ⟨q_, hq, h', K_, G_⟩
  · rcases List.mem_cons.mp hq with e_ | hq
    · subst e_
      exact ⟨h', yfr_sm K_.2.2.2 hs K_.1 (ywa_s mstE_w List.mem_cons_self), Or.inl (⟨xq_leT rfl rfl (K_.2.2.1 _ List.mem_cons_self), xq_ltF rfl rfl (K_.2.2.1 _ (List.mem_cons_of_mem _ List.mem_cons_self)), xq_eqF rfl rfl (K_.2.2.1 _ (List.mem_cons_of_mem _ (List.mem_cons_of_mem _ List.mem_cons_self))), xq_eqF rfl rfl (K_.2.2.1 _ (List.mem_cons_of_mem _ (List.mem_cons_of_mem _ (List.mem_cons_of_mem _ List.mem_cons_self)))), xq_leT rfl rfl (K_.2.2.1 _ (List.mem_cons_of_mem _ (List.mem_cons_of_mem _ (List.mem_cons_of_mem _ (List.mem_cons_of_mem _ List.mem_cons_self))))), xq_ltF rfl rfl (K_.2.2.1 _ (List.mem_cons_of_mem _ (List.mem_cons_of_mem _ (List.mem_cons_of_mem _ (List.mem_cons_of_mem _ (List.mem_cons_of_mem _ List.mem_cons_self)))))), xq_leT rfl (yv_sub2 rfl rfl) (K_.2.2.1 _ (List.mem_cons_of_mem _ (List.mem_cons_of_mem _ (List.mem_cons_of_mem _ (List.mem_cons_of_mem _ (List.mem_cons_of_mem _ (List.mem_cons_of_mem _ List.mem_cons_self))))))), xq_ltF rfl rfl (K_.2.2.1 _ (List.mem_cons_of_mem _ (List.mem_cons_of_mem _ (List.mem_cons_of_mem _ (List.mem_cons_of_mem _ (List.mem_cons_of_mem _ (List.mem_cons_of_mem _ (List.mem_cons_of_mem _ List.mem_cons_self)))))))), fun a_ j_ => yfr_bp K_.2.2.2 (fun q_ hq => absurd hq List.not_mem_nil), G_⟩)⟩
    rcases List.mem_cons.mp hq with e_ | hq
    · subst e_
      exact ⟨h', yfr_sm K_.2.2.2 hs K_.1 (ywa_s mstE_w (List.mem_cons_of_mem _ List.mem_cons_self)), Or.inr (Or.inl (⟨xq_leT rfl rfl (K_.2.2.1 _ List.mem_cons_self), xq_ltF rfl rfl (K_.2.2.1 _ (List.mem_cons_of_mem _ List.mem_cons_self)), xq_eqT rfl rfl (K_.2.2.1 _ (List.mem_cons_of_mem _ (List.mem_cons_of_mem _ List.mem_cons_self))), xq_eqF rfl rfl (K_.2.2.1 _ (List.mem_cons_of_mem _ (List.mem_cons_of_mem _ (List.mem_cons_of_mem _ List.mem_cons_self)))), xq_leT rfl rfl (K_.2.2.1 _ (List.mem_cons_of_mem _ (List.mem_cons_of_mem _ (List.mem_cons_of_mem _ (List.mem_cons_of_mem _ List.mem_cons_self))))), xq_ltF rfl rfl (K_.2.2.1 _ (List.mem_cons_of_mem _ (List.mem_cons_of_mem _ (List.mem_cons_of_mem _ (List.mem_cons_of_mem _ (List.mem_cons_of_mem _ List.mem_cons_self)))))), xq_leT rfl (yv_sub2 rfl rfl) (K_.2.2.1 _ (List.mem_cons_of_mem _ (List.mem_cons_of_mem _ (List.mem_cons_of_mem _ (List.mem_cons_of_mem _ (List.mem_cons_of_mem _ (List.mem_cons_of_mem _ List.mem_cons_self))))))), xq_ltF rfl rfl (K_.2.2.1 _ (List.mem_cons_of_mem _ (List.mem_cons_of_mem _ (List.mem_cons_of_mem _ (List.mem_cons_of_mem _ (List.mem_cons_of_mem _ (List.mem_cons_of_mem _ (List.mem_cons_of_mem _ List.mem_cons_self)))))))), fun a_ j_ => yfr_bp K_.2.2.2 (fun q_ hq => absurd hq List.not_mem_nil), G_⟩))⟩
    have e_ := List.mem_singleton.mp hq
    subst e_
    exact ⟨h', yfr_sm K_.2.2.2 hs K_.1 (ywa_s mstE_w (List.mem_cons_of_mem _ (List.mem_cons_of_mem _ List.mem_cons_self))), Or.inr (Or.inr (Or.inl (⟨xq_leT rfl rfl (K_.2.2.1 _ List.mem_cons_self), xq_ltF rfl rfl (K_.2.2.1 _ (List.mem_cons_of_mem _ List.mem_cons_self)), xq_eqT rfl rfl (K_.2.2.1 _ (List.mem_cons_of_mem _ (List.mem_cons_of_mem _ List.mem_cons_self))), xq_leT rfl rfl (K_.2.2.1 _ (List.mem_cons_of_mem _ (List.mem_cons_of_mem _ (List.mem_cons_of_mem _ List.mem_cons_self)))), xq_ltF rfl rfl (K_.2.2.1 _ (List.mem_cons_of_mem _ (List.mem_cons_of_mem _ (List.mem_cons_of_mem _ (List.mem_cons_of_mem _ List.mem_cons_self))))), xq_leT rfl (yv_sub2 rfl rfl) (K_.2.2.1 _ (List.mem_cons_of_mem _ (List.mem_cons_of_mem _ (List.mem_cons_of_mem _ (List.mem_cons_of_mem _ (List.mem_cons_of_mem _ List.mem_cons_self)))))), xq_ltF rfl rfl (K_.2.2.1 _ (List.mem_cons_of_mem _ (List.mem_cons_of_mem _ (List.mem_cons_of_mem _ (List.mem_cons_of_mem _ (List.mem_cons_of_mem _ (List.mem_cons_of_mem _ List.mem_cons_self))))))), fun a_ j_ => yfr_bp K_.2.2.2 (fun q_ hq => absurd hq List.not_mem_nil), G_⟩)))⟩
  · rcases List.mem_cons.mp hq with e_ | hq
    · subst e_
      exact ⟨h', yfr_sm K_.2.2.2 hs K_.1 (ywa_r mstE_w List.mem_cons_self), Or.inr (Or.inr (Or.inr (Or.inl (⟨xq_ltT rfl rfl (K_.2.2.1 _ List.mem_cons_self), bpat_of (K_.2.1 _ List.mem_cons_self), fun a_ j_ n0_ => yfr_bp K_.2.2.2 (List.forall_mem_cons.mpr ⟨fun e_ => n0_ ⟨e_.1.symm, e_.2.symm⟩, fun q_ hq => absurd hq List.not_mem_nil⟩), G_⟩))))⟩
    rcases List.mem_cons.mp hq with e_ | hq
    · subst e_
      exact ⟨h', yfr_sm K_.2.2.2 hs K_.1 (ywa_r mstE_w (List.mem_cons_of_mem _ List.mem_cons_self)), Or.inr (Or.inr (Or.inr (Or.inr (Or.inl (⟨xq_leF rfl (yv_sub2 rfl rfl) (K_.2.2.1 _ List.mem_cons_self), xq_ltF rfl rfl (K_.2.2.1 _ (List.mem_cons_of_mem _ List.mem_cons_self)), bpat_of (K_.2.1 _ List.mem_cons_self), fun a_ j_ n0_ => yfr_bp K_.2.2.2 (List.forall_mem_cons.mpr ⟨fun e_ => n0_ ⟨e_.1.symm, e_.2.symm⟩, fun q_ hq => absurd hq List.not_mem_nil⟩), G_⟩)))))⟩
    rcases List.mem_cons.mp hq with e_ | hq
    · subst e_
      exact ⟨h', yfr_sm K_.2.2.2 hs K_.1 (ywa_r mstE_w (List.mem_cons_of_mem _ (List.mem_cons_of_mem _ List.mem_cons_self))), Or.inr (Or.inr (Or.inr (Or.inr (Or.inr (Or.inl (⟨xq_ltT rfl rfl (K_.2.2.1 _ List.mem_cons_self), xq_leT rfl (yv_sub2 rfl rfl) (K_.2.2.1 _ (List.mem_cons_of_mem _ List.mem_cons_self)), xq_ltF rfl rfl (K_.2.2.1 _ (List.mem_cons_of_mem _ (List.mem_cons_of_mem _ List.mem_cons_self))), bpat_of (K_.2.1 _ List.mem_cons_self), fun a_ j_ n0_ => yfr_bp K_.2.2.2 (List.forall_mem_cons.mpr ⟨fun e_ => n0_ ⟨e_.1.symm, e_.2.symm⟩, fun q_ hq => absurd hq List.not_mem_nil⟩), G_⟩))))))⟩
    rcases List.mem_cons.mp hq with e_ | hq
    · subst e_
      exact ⟨h', yfr_sm K_.2.2.2 hs K_.1 (ywa_r mstE_w (List.mem_cons_of_mem _ (List.mem_cons_of_mem _ (List.mem_cons_of_mem _ List.mem_cons_self)))), Or.inr (Or.inr (Or.inr (Or.inr (Or.inr (Or.inr (Or.inl (⟨xq_leF rfl rfl (K_.2.2.1 _ List.mem_cons_self), xq_ltF rfl rfl (K_.2.2.1 _ (List.mem_cons_of_mem _ List.mem_cons_self)), xq_leT rfl (yv_sub2 rfl rfl) (K_.2.2.1 _ (List.mem_cons_of_mem _ (List.mem_cons_of_mem _ List.mem_cons_self))), xq_ltF rfl rfl (K_.2.2.1 _ (List.mem_cons_of_mem _ (List.mem_cons_of_mem _ (List.mem_cons_of_mem _ List.mem_cons_self)))), bpat_of (K_.2.1 _ List.mem_cons_self), fun a_ j_ n0_ => yfr_bp K_.2.2.2 (List.forall_mem_cons.mpr ⟨fun e_ => n0_ ⟨e_.1.symm, e_.2.symm⟩, fun q_ hq => absurd hq List.not_mem_nil⟩), G_⟩)))))))⟩
    rcases List.mem_cons.mp hq with e_ | hq
    · subst e_
      exact ⟨h', yfr_sm K_.2.2.2 hs K_.1 (ywa_r mstE_w (List.mem_cons_of_mem _ (List.mem_cons_of_mem _ (List.mem_cons_of_mem _ (List.mem_cons_of_mem _ List.mem_cons_self))))), Or.inr (Or.inr (Or.inr (Or.inr (Or.inr (Or.inr (Or.inr (Or.inl (⟨xq_ltT rfl rfl (K_.2.2.1 _ List.mem_cons_self), xq_eqF rfl rfl (K_.2.2.1 _ (List.mem_cons_of_mem _ List.mem_cons_self)), xq_eqF rfl rfl (K_.2.2.1 _ (List.mem_cons_of_mem _ (List.mem_cons_of_mem _ List.mem_cons_self))), xq_leT rfl rfl (K_.2.2.1 _ (List.mem_cons_of_mem _ (List.mem_cons_of_mem _ (List.mem_cons_of_mem _ List.mem_cons_self)))), xq_ltF rfl rfl (K_.2.2.1 _ (List.mem_cons_of_mem _ (List.mem_cons_of_mem _ (List.mem_cons_of_mem _ (List.mem_cons_of_mem _ List.mem_cons_self))))), xq_leT rfl (yv_sub2 rfl rfl) (K_.2.2.1 _ (List.mem_cons_of_mem _ (List.mem_cons_of_mem _ (List.mem_cons_of_mem _ (List.mem_cons_of_mem _ (List.mem_cons_of_mem _ List.mem_cons_self)))))), xq_ltF rfl rfl (K_.2.2.1 _ (List.mem_cons_of_mem _ (List.mem_cons_of_mem _ (List.mem_cons_of_mem _ (List.mem_cons_of_mem _ (List.mem_cons_of_mem _ (List.mem_cons_of_mem _ List.mem_cons_self))))))), bpat_of (K_.2.1 _ List.mem_cons_self), fun a_ j_ n0_ => yfr_bp K_.2.2.2 (List.forall_mem_cons.mpr ⟨fun e_ => n0_ ⟨e_.1.symm, e_.2.symm⟩, fun q_ hq => absurd hq List.not_mem_nil⟩), G_⟩))))))))⟩
    rcases List.mem_cons.mp hq with e_ | hq
    · subst e_
      exact ⟨h', yfr_sm K_.2.2.2 hs K_.1 (ywa_r mstE_w (List.mem_cons_of_mem _ (List.mem_cons_of_mem _ (List.mem_cons_of_mem _ (List.mem_cons_of_mem _ (List.mem_cons_of_mem _ List.mem_cons_self)))))), Or.inr (Or.inr (Or.inr (Or.inr (Or.inr (Or.inr (Or.inr (Or.inr (Or.inl (⟨xq_leF rfl rfl (K_.2.2.1 _ List.mem_cons_self), xq_ltF rfl rfl (K_.2.2.1 _ (List.mem_cons_of_mem _ List.mem_cons_self)), xq_eqF rfl rfl (K_.2.2.1 _ (List.mem_cons_of_mem _ (List.mem_cons_of_mem _ List.mem_cons_self))), xq_eqF rfl rfl (K_.2.2.1 _ (List.mem_cons_of_mem _ (List.mem_cons_of_mem _ (List.mem_cons_of_mem _ List.mem_cons_self)))), xq_leT rfl rfl (K_.2.2.1 _ (List.mem_cons_of_mem _ (List.mem_cons_of_mem _ (List.mem_cons_of_mem _ (List.mem_cons_of_mem _ List.mem_cons_self))))), xq_ltF rfl rfl (K_.2.2.1 _ (List.mem_cons_of_mem _ (List.mem_cons_of_mem _ (List.mem_cons_of_mem _ (List.mem_cons_of_mem _ (List.mem_cons_of_mem _ List.mem_cons_self)))))), xq_leT rfl (yv_sub2 rfl rfl) (K_.2.2.1 _ (List.mem_cons_of_mem _ (List.mem_cons_of_mem _ (List.mem_cons_of_mem _ (List.mem_cons_of_mem _ (List.mem_cons_of_mem _ (List.mem_cons_of_mem _ List.mem_cons_self))))))), xq_ltF rfl rfl (K_.2.2.1 _ (List.mem_cons_of_mem _ (List.mem_cons_of_mem _ (List.mem_cons_of_mem _ (List.mem_cons_of_mem _ (List.mem_cons_of_mem _ (List.mem_cons_of_mem _ (List.mem_cons_of_mem _ List.mem_cons_self)))))))), bpat_of (K_.2.1 _ List.mem_cons_self), fun a_ j_ n0_ => yfr_bp K_.2.2.2 (List.forall_mem_cons.mpr ⟨fun e_ => n0_ ⟨e_.1.symm, e_.2.symm⟩, fun q_ hq => absurd hq List.not_mem_nil⟩), G_⟩)))))))))⟩
    rcases List.mem_cons.mp hq with e_ | hq
    · subst e_
      exact ⟨h', yfr_sm K_.2.2.2 hs K_.1 (ywa_r mstE_w (List.mem_cons_of_mem _ (List.mem_cons_of_mem _ (List.mem_cons_of_mem _ (List.mem_cons_of_mem _ (List.mem_cons_of_mem _ (List.mem_cons_of_mem _ List.mem_cons_self))))))), Or.inr (Or.inr (Or.inr (Or.inr (Or.inr (Or.inr (Or.inr (Or.inr (Or.inr (Or.inl (⟨xq_ltT rfl rfl (K_.2.2.1 _ List.mem_cons_self), xq_eqT rfl rfl (K_.2.2.1 _ (List.mem_cons_of_mem _ List.mem_cons_self)), xq_eqF rfl rfl (K_.2.2.1 _ (List.mem_cons_of_mem _ (List.mem_cons_of_mem _ List.mem_cons_self))), xq_leT rfl rfl (K_.2.2.1 _ (List.mem_cons_of_mem _ (List.mem_cons_of_mem _ (List.mem_cons_of_mem _ List.mem_cons_self)))), xq_ltF rfl rfl (K_.2.2.1 _ (List.mem_cons_of_mem _ (List.mem_cons_of_mem _ (List.mem_cons_of_mem _ (List.mem_cons_of_mem _ List.mem_cons_self))))), xq_leT rfl (yv_sub2 rfl rfl) (K_.2.2.1 _ (List.mem_cons_of_mem _ (List.mem_cons_of_mem _ (List.mem_cons_of_mem _ (List.mem_cons_of_mem _ (List.mem_cons_of_mem _ List.mem_cons_self)))))), xq_ltF rfl rfl (K_.2.2.1 _ (List.mem_cons_of_mem _ (List.mem_cons_of_mem _ (List.mem_cons_of_mem _ (List.mem_cons_of_mem _ (List.mem_cons_of_mem _ (List.mem_cons_of_mem _ List.mem_cons_self))))))), bpat_of (K_.2.1 _ List.mem_cons_self), fun a_ j_ n0_ => yfr_bp K_.2.2.2 (List.forall_mem_cons.mpr ⟨fun e_ => n0_ ⟨e_.1.symm, e_.2.symm⟩, fun q_ hq => absurd hq List.not_mem_nil⟩), G_⟩))))))))))⟩
    rcases List.mem_cons.mp hq with e_ | hq
    · subst e_
      exact ⟨h', yfr_sm K_.2.2.2 hs K_.1 (ywa_r mstE_w (List.mem_cons_of_mem _ (List.mem_cons_of_mem _ (List.mem_cons_of_mem _ (List.mem_cons_of_mem _ (List.mem_cons_of_mem _ (List.mem_cons_of_mem _ (List.mem_cons_of_mem _ List.mem_cons_self)))))))), Or.inr (Or.inr (Or.inr (Or.inr (Or.inr (Or.inr (Or.inr (Or.inr (Or.inr (Or.inr (Or.inl (⟨xq_leF rfl rfl (K_.2.2.1 _ List.mem_cons_self), xq_ltF rfl rfl (K_.2.2.1 _ (List.mem_cons_of_mem _ List.mem_cons_self)), xq_eqT rfl rfl (K_.2.2.1 _ (List.mem_cons_of_mem _ (List.mem_cons_of_mem _ List.mem_cons_self))), xq_eqF rfl rfl (K_.2.2.1 _ (List.mem_cons_of_mem _ (List.mem_cons_of_mem _ (List.mem_cons_of_mem _ List.mem_cons_self)))), xq_leT rfl rfl (K_.2.2.1 _ (List.mem_cons_of_mem _ (List.mem_cons_of_mem _ (List.mem_cons_of_mem _ (List.mem_cons_of_mem _ List.mem_cons_self))))), xq_ltF rfl rfl (K_.2.2.1 _ (List.mem_cons_of_mem _ (List.mem_cons_of_mem _ (List.mem_cons_of_mem _ (List.mem_cons_of_mem _ (List.mem_cons_of_mem _ List.mem_cons_self)))))), xq_leT rfl (yv_sub2 rfl rfl) (K_.2.2.1 _ (List.mem_cons_of_mem _ (List.mem_cons_of_mem _ (List.mem_cons_of_mem _ (List.mem_cons_of_mem _ (List.mem_cons_of_mem _ (List.mem_cons_of_mem _ List.mem_cons_self))))))), xq_ltF rfl rfl (K_.2.2.1 _ (List.mem_cons_of_mem _ (List.mem_cons_of_mem _ (List.mem_cons_of_mem _ (List.mem_cons_of_mem _ (List.mem_cons_of_mem _ (List.mem_cons_of_mem _ (List.mem_cons_of_mem _ List.mem_cons_self)))))))), bpat_of (K_.2.1 _ List.mem_cons_self), fun a_ j_ n0_ => yfr_bp K_.2.2.2 (List.forall_mem_cons.mpr ⟨fun e_ => n0_ ⟨e_.1.symm, e_.2.symm⟩, fun q_ hq => absurd hq List.not_mem_nil⟩), G_⟩)))))))))))⟩
    rcases List.mem_cons.mp hq with e_ | hq
    · subst e_
      exact ⟨h', yfr_sm K_.2.2.2 hs K_.1 (ywa_r mstE_w (List.mem_cons_of_mem _ (List.mem_cons_of_mem _ (List.mem_cons_of_mem _ (List.mem_cons_of_mem _ (List.mem_cons_of_mem _ (List.mem_cons_of_mem _ (List.mem_cons_of_mem _ (List.mem_cons_of_mem _ List.mem_cons_self))))))))), Or.inr (Or.inr (Or.inr (Or.inr (Or.inr (Or.inr (Or.inr (Or.inr (Or.inr (Or.inr (Or.inr (Or.inl (⟨xq_ltT rfl rfl (K_.2.2.1 _ List.mem_cons_self), xq_eqT rfl rfl (K_.2.2.1 _ (List.mem_cons_of_mem _ List.mem_cons_self)), xq_leT rfl rfl (K_.2.2.1 _ (List.mem_cons_of_mem _ (List.mem_cons_of_mem _ List.mem_cons_self))), xq_ltF rfl rfl (K_.2.2.1 _ (List.mem_cons_of_mem _ (List.mem_cons_of_mem _ (List.mem_cons_of_mem _ List.mem_cons_self)))), xq_leT rfl (yv_sub2 rfl rfl) (K_.2.2.1 _ (List.mem_cons_of_mem _ (List.mem_cons_of_mem _ (List.mem_cons_of_mem _ (List.mem_cons_of_mem _ List.mem_cons_self))))), xq_ltF rfl rfl (K_.2.2.1 _ (List.mem_cons_of_mem _ (List.mem_cons_of_mem _ (List.mem_cons_of_mem _ (List.mem_cons_of_mem _ (List.mem_cons_of_mem _ List.mem_cons_self)))))), bpat_of (K_.2.1 _ List.mem_cons_self), fun a_ j_ n0_ => yfr_bp K_.2.2.2 (List.forall_mem_cons.mpr ⟨fun e_ => n0_ ⟨e_.1.symm, e_.2.symm⟩, fun q_ hq => absurd hq List.not_mem_nil⟩), G_⟩))))))))))))⟩
    have e_ := List.mem_singleton.mp hq
    subst e_
    exact ⟨h', yfr_sm K_.2.2.2 hs K_.1 (ywa_r mstE_w (List.mem_cons_of_mem _ (List.mem_cons_of_mem _ (List.mem_cons_of_mem _ (List.mem_cons_of_mem _ (List.mem_cons_of_mem _ (List.mem_cons_of_mem _ (List.mem_cons_of_mem _ (List.mem_cons_of_mem _ (List.mem_cons_of_mem _ List.mem_cons_self)))))))))), Or.inr (Or.inr (Or.inr (Or.inr (Or.inr (Or.inr (Or.inr (Or.inr (Or.inr (Or.inr (Or.inr (Or.inr (⟨xq_leF rfl rfl (K_.2.2.1 _ List.mem_cons_self), xq_ltF rfl rfl (K_.2.2.1 _ (List.mem_cons_of_mem _ List.mem_cons_self)), xq_eqT rfl rfl (K_.2.2.1 _ (List.mem_cons_of_mem _ (List.mem_cons_of_mem _ List.mem_cons_self))), xq_leT rfl rfl (K_.2.2.1 _ (List.mem_cons_of_mem _ (List.mem_cons_of_mem _ (List.mem_cons_of_mem _ List.mem_cons_self)))), xq_ltF rfl rfl (K_.2.2.1 _ (List.mem_cons_of_mem _ (List.mem_cons_of_mem _ (List.mem_cons_of_mem _ (List.mem_cons_of_mem _ List.mem_cons_self))))), xq_leT rfl (yv_sub2 rfl rfl) (K_.2.2.1 _ (List.mem_cons_of_mem _ (List.mem_cons_of_mem _ (List.mem_cons_of_mem _ (List.mem_cons_of_mem _ (List.mem_cons_of_mem _ List.mem_cons_self)))))), xq_ltF rfl rfl (K_.2.2.1 _ (List.mem_cons_of_mem _ (List.mem_cons_of_mem _ (List.mem_cons_of_mem _ (List.mem_cons_of_mem _ (List.mem_cons_of_mem _ (List.mem_cons_of_mem _ List.mem_cons_self))))))), bpat_of (K_.2.1 _ List.mem_cons_self), fun a_ j_ n0_ => yfr_bp K_.2.2.2 (List.forall_mem_cons.mpr ⟨fun e_ => n0_ ⟨e_.1.symm, e_.2.symm⟩, fun q_ hq => absurd hq List.not_mem_nil⟩), G_⟩))))))))))))⟩
-- xstO0: 47 steps, 0 ends, 1 returns
def xstO0_L : List (Nat × Nat × Nat) := [(1000, 5, 3)]
def xstO0_O : yO := [(0, .int 0, .index 1), (1, .int 10, .arg 310), (1, .int 1, .index 3), (3, .arg 1, .index 1000), (1000, .int 0, .arg 311)]
def xstO0_A : yA := (yZ xstO0_L, [(.arg 1, 8)], [], [], [(126, [.int 0, .arg 3], .arg 500)])
def xstO0_C : List xB := [(.eq, .arg 500, .int 0, false), (.lt, .arg 1, .arg 310, true), (.lt, .arg 1, .int 0, false)]
def xstO0_ss : List yS := []
def xstO0_rs : List yR := [(some (.arg 311), [(1000, .int 0, .arg 3), (0, .int 0, .index 1), (1, .int 10, .arg 310), (1, .int 1, .index 3), (3, .arg 1, .index 1000)], [(.eq, .arg 500, .int 0, false), (.lt, .arg 1, .arg 310, true), (.lt, .arg 1, .int 0, false)], [(1000, .int 0)])]
theorem xstO0_w : ywa xstO0_A xstO0_ss xstO0_rs = true := by decide +kernel
theorem xstO0_k : yis (yev xstO0_A 3000 60 83 [] (0, [(0, .index 0), (1, .arg 1), (2, .int 0), (3, .arg 3)], [], xstO0_O, xstO0_C, [])) xstO0_ss xstO0_rs = true := by decide +kernel
def xstO0_r (v1_ v3 v310 v311 v500 : Int32) (k_ : Nat) : Value := bif Nat.beq k_ 1 then .int v1_ else (bif Nat.beq k_ 3 then .int v3 else (bif Nat.beq k_ 310 then .int v310 else (bif Nat.beq k_ 311 then .int v311 else (bif Nat.beq k_ 500 then .int v500 else (.int 0)))))
def xstO0_s (a1000 : Nat) (n_ : Nat) : Nat := bif Nat.beq n_ 1000 then a1000 else (0)
theorem xstO0 {h_ : xH} {a1000 : Nat} {v1_ v3 v310 v311 v500 : Int32} (hs : sHp h_) (k1000 : bcq h_ a1000 5 3) (o0_ : bpat h_ 1 10 = some (.int v310)) (o1 : bpat h_ 3 (v1_).toInt.toNat = some (.index a1000)) (o2 : bpat h_ a1000 0 = some (.int v311)) (b0 : 0 ≤ (v1_).toInt ∧ (v1_).toInt < 8) (p0_ : ∀ (h_ : xH) (D_ : Nat), 5 ≤ D_ → xrun D_ 126 0 [(0, .int (0 : Int32)), (1, .int v3)] [] h_ (some (.int v500), h_, [])) (c0_ : ¬ v500 = (0 : Int32)) (c1_ : v1_.toInt < v310.toInt) (c2_ : (0 : Int32).toInt ≤ v1_.toInt) : ∃ h', ysm h_ h' ∧ (((bpat h' a1000 0 = some (.int v3)) ∧ (∀ a_ j_ : Nat, ¬ (a_ = a1000 ∧ j_ = 0) → bpat h' a_ j_ = bpat h_ a_ j_) ∧ (∀ D_, 60 ≤ D_ → xrun D_ 83 0 [(0, .index 0), (1, .int v1_), (2, .int (0 : Int32)), (3, .int v3)] [] h_ (some (.int v311), h', [])))) := by
  have hA : yas xstO0_A (xstO0_r v1_ v3 v310 v311 v500) (yg (xstO0_s a1000)) := ⟨List.forall_mem_cons.mpr ⟨b0, fun q_ hq => absurd hq List.not_mem_nil⟩, fun q_ hq => absurd hq List.not_mem_nil, fun q_ hq => absurd hq List.not_mem_nil, fun n_ hn => yg_lo hn, List.forall_mem_cons.mpr ⟨p0_, fun q_ hq => absurd hq List.not_mem_nil⟩⟩
  have Hs : ysh xstO0_A.1 (yg (xstO0_s a1000)) h_ := ysh_of2 hs (List.forall_mem_cons.mpr ⟨⟨by decide, k1000⟩, fun q_ hq => absurd hq List.not_mem_nil⟩)
  have Ho : ymem (xstO0_r v1_ v3 v310 v311 v500) (yg (xstO0_s a1000)) xstO0_O h_ := List.forall_mem_cons.mpr ⟨bpat_some (fxr_at hs.2 (show fxk fxl 0 0 = some 1 by decide +kernel)), List.forall_mem_cons.mpr ⟨bpat_some o0_, List.forall_mem_cons.mpr ⟨bpat_some (fxr_at hs.2 (show fxk fxl 1 1 = some 3 by decide +kernel)), List.forall_mem_cons.mpr ⟨bpat_some o1, List.forall_mem_cons.mpr ⟨bpat_some o2, fun q_ hq => absurd hq List.not_mem_nil⟩⟩⟩⟩⟩
  have HC : ∀ q_ ∈ xstO0_C, xhold (xstO0_r v1_ v3 v310 v311 v500) q_ := List.forall_mem_cons.mpr ⟨xh_eqF2 c0_, List.forall_mem_cons.mpr ⟨xh_ltT c1_, List.forall_mem_cons.mpr ⟨xh_ltF c2_, fun q_ hq => absurd hq List.not_mem_nil⟩⟩⟩
  rcases yrun (yis_ok xstO0_k) hA Hs Ho HC with ⟨q_, hq, h', K_, G_⟩ | ⟨q_, hq, h', K_, G_⟩
  · cases hq
  · have e_ := List.mem_singleton.mp hq
    subst e_
    exact ⟨h', yfr_sm K_.2.2.2 hs K_.1 (ywa_r xstO0_w List.mem_cons_self), ⟨bpat_of (K_.2.1 _ List.mem_cons_self), fun a_ j_ n0_ => yfr_bp K_.2.2.2 (List.forall_mem_cons.mpr ⟨fun e_ => n0_ ⟨e_.1.symm, e_.2.symm⟩, fun q_ hq => absurd hq List.not_mem_nil⟩), G_⟩⟩
-- mstO0: 83 steps, 0 ends, 1 returns
def mstO0_L : List (Nat × Nat × Nat) := []
def mstO0_O : yO := [(338, .int 0, .index 339), (339, .int 1, .arg 310), (339, .add (.add (.int 10) (.mul (.int 3) (.arg 1))) (.int 0), .arg 311)]
def mstO0_A : yA := (yZ mstO0_L, [(.add (.add (.int 10) (.mul (.int 3) (.arg 1))) (.int 0), 768)], [], [], [])
def mstO0_C : List xB := [(.le, .arg 3, .int 6, true), (.lt, .arg 3, .int 0, false), (.le, .arg 1, .sub (.arg 310) (.int 1), true), (.lt, .arg 1, .int 0, false)]
def mstO0_ss : List yS := []
def mstO0_rs : List yR := [(some (.arg 311), [(339, .add (.add (.int 10) (.mul (.int 3) (.arg 1))) (.int 0), .arg 3), (338, .int 0, .index 339)], [(.le, .arg 3, .int 6, true), (.lt, .arg 3, .int 0, false), (.le, .arg 1, .sub (.arg 310) (.int 1), true), (.lt, .arg 1, .int 0, false)], [(339, .add (.add (.int 10) (.mul (.int 3) (.arg 1))) (.int 0))])]
theorem mstO0_w : ywa mstO0_A mstO0_ss mstO0_rs = true := by decide +kernel
theorem mstO0_k : yis (yev mstO0_A 3000 60 171 [] (0, [(0, .index 338), (1, .arg 1), (2, .int 0), (3, .arg 3)], [], mstO0_O, mstO0_C, [])) mstO0_ss mstO0_rs = true := by decide +kernel
def mstO0_r (v1_ v3 v310 v311 : Int32) (k_ : Nat) : Value := bif Nat.beq k_ 1 then .int v1_ else (bif Nat.beq k_ 3 then .int v3 else (bif Nat.beq k_ 310 then .int v310 else (bif Nat.beq k_ 311 then .int v311 else (.int 0))))
def mstO0_s (n_ : Nat) : Nat := 0
theorem mstO0 {h_ : xH} {v1_ v3 v310 v311 : Int32} (hs : sHp h_) (o0_ : bpat h_ 339 1 = some (.int v310)) (o1 : bpat h_ 339 ((((10 : Int32) + ((3 : Int32) * v1_)) + (0 : Int32))).toInt.toNat = some (.int v311)) (b0 : 0 ≤ ((((10 : Int32) + ((3 : Int32) * v1_)) + (0 : Int32))).toInt ∧ ((((10 : Int32) + ((3 : Int32) * v1_)) + (0 : Int32))).toInt < 768) (c0_ : v3.toInt ≤ (6 : Int32).toInt) (c1_ : (0 : Int32).toInt ≤ v3.toInt) (c2_ : v1_.toInt ≤ (v310 - (1 : Int32)).toInt) (c3_ : (0 : Int32).toInt ≤ v1_.toInt) : ∃ h', ysm h_ h' ∧ (((bpat h' 339 ((((10 : Int32) + ((3 : Int32) * v1_)) + (0 : Int32))).toInt.toNat = some (.int v3)) ∧ (∀ a_ j_ : Nat, ¬ (a_ = 339 ∧ j_ = ((((10 : Int32) + ((3 : Int32) * v1_)) + (0 : Int32))).toInt.toNat) → bpat h' a_ j_ = bpat h_ a_ j_) ∧ (∀ D_, 60 ≤ D_ → xrun D_ 171 0 [(0, .index 338), (1, .int v1_), (2, .int (0 : Int32)), (3, .int v3)] [] h_ (some (.int v311), h', [])))) := by
  have hA : yas mstO0_A (mstO0_r v1_ v3 v310 v311) (yg mstO0_s) := ⟨List.forall_mem_cons.mpr ⟨b0, fun q_ hq => absurd hq List.not_mem_nil⟩, fun q_ hq => absurd hq List.not_mem_nil, fun q_ hq => absurd hq List.not_mem_nil, fun n_ hn => yg_lo hn, fun q_ hq => absurd hq List.not_mem_nil⟩
  have Hs : ysh mstO0_A.1 (yg mstO0_s) h_ := ysh_of2 hs (fun q_ hq => absurd hq List.not_mem_nil)
  have Ho : ymem (mstO0_r v1_ v3 v310 v311) (yg mstO0_s) mstO0_O h_ := List.forall_mem_cons.mpr ⟨bpat_some (fxr_at hs.2 (show fxk fxl 338 0 = some 339 by decide +kernel)), List.forall_mem_cons.mpr ⟨bpat_some o0_, List.forall_mem_cons.mpr ⟨bpat_some o1, fun q_ hq => absurd hq List.not_mem_nil⟩⟩⟩
  have HC : ∀ q_ ∈ mstO0_C, xhold (mstO0_r v1_ v3 v310 v311) q_ := List.forall_mem_cons.mpr ⟨xh_leT c0_, List.forall_mem_cons.mpr ⟨xh_ltF c1_, List.forall_mem_cons.mpr ⟨xh_leT c2_, List.forall_mem_cons.mpr ⟨xh_ltF c3_, fun q_ hq => absurd hq List.not_mem_nil⟩⟩⟩⟩
  rcases yrun (yis_ok mstO0_k) hA Hs Ho HC with ⟨q_, hq, h', K_, G_⟩ | ⟨q_, hq, h', K_, G_⟩
  · cases hq
  · have e_ := List.mem_singleton.mp hq
    subst e_
    exact ⟨h', yfr_sm K_.2.2.2 hs K_.1 (ywa_r mstO0_w List.mem_cons_self), ⟨bpat_of (K_.2.1 _ List.mem_cons_self), fun a_ j_ n0_ => yfr_bp K_.2.2.2 (List.forall_mem_cons.mpr ⟨fun e_ => n0_ ⟨e_.1.symm, e_.2.symm⟩, fun q_ hq => absurd hq List.not_mem_nil⟩), G_⟩⟩
-- xstO1: 53 steps, 0 ends, 1 returns
def xstO1_L : List (Nat × Nat × Nat) := [(1000, 5, 3)]
def xstO1_O : yO := [(0, .int 0, .index 1), (1, .int 10, .arg 310), (1, .int 1, .index 3), (3, .arg 1, .index 1000), (1000, .int 1, .arg 311)]
def xstO1_A : yA := (yZ xstO1_L, [(.arg 1, 8)], [], [], [(126, [.int 1, .arg 3], .arg 500)])
def xstO1_C : List xB := [(.eq, .arg 500, .int 0, false), (.lt, .arg 1, .arg 310, true), (.lt, .arg 1, .int 0, false)]
def xstO1_ss : List yS := []
def xstO1_rs : List yR := [(some (.arg 311), [(1000, .int 1, .arg 3), (0, .int 0, .index 1), (1, .int 10, .arg 310), (1, .int 1, .index 3), (3, .arg 1, .index 1000)], [(.eq, .arg 500, .int 0, false), (.lt, .arg 1, .arg 310, true), (.lt, .arg 1, .int 0, false)], [(1000, .int 1)])]
theorem xstO1_w : ywa xstO1_A xstO1_ss xstO1_rs = true := by decide +kernel
theorem xstO1_k : yis (yev xstO1_A 3000 60 83 [] (0, [(0, .index 0), (1, .arg 1), (2, .int 1), (3, .arg 3)], [], xstO1_O, xstO1_C, [])) xstO1_ss xstO1_rs = true := by decide +kernel
def xstO1_r (v1_ v3 v310 v311 v500 : Int32) (k_ : Nat) : Value := bif Nat.beq k_ 1 then .int v1_ else (bif Nat.beq k_ 3 then .int v3 else (bif Nat.beq k_ 310 then .int v310 else (bif Nat.beq k_ 311 then .int v311 else (bif Nat.beq k_ 500 then .int v500 else (.int 0)))))
def xstO1_s (a1000 : Nat) (n_ : Nat) : Nat := bif Nat.beq n_ 1000 then a1000 else (0)
theorem xstO1 {h_ : xH} {a1000 : Nat} {v1_ v3 v310 v311 v500 : Int32} (hs : sHp h_) (k1000 : bcq h_ a1000 5 3) (o0_ : bpat h_ 1 10 = some (.int v310)) (o1 : bpat h_ 3 (v1_).toInt.toNat = some (.index a1000)) (o2 : bpat h_ a1000 1 = some (.int v311)) (b0 : 0 ≤ (v1_).toInt ∧ (v1_).toInt < 8) (p0_ : ∀ (h_ : xH) (D_ : Nat), 5 ≤ D_ → xrun D_ 126 0 [(0, .int (1 : Int32)), (1, .int v3)] [] h_ (some (.int v500), h_, [])) (c0_ : ¬ v500 = (0 : Int32)) (c1_ : v1_.toInt < v310.toInt) (c2_ : (0 : Int32).toInt ≤ v1_.toInt) : ∃ h', ysm h_ h' ∧ (((bpat h' a1000 1 = some (.int v3)) ∧ (∀ a_ j_ : Nat, ¬ (a_ = a1000 ∧ j_ = 1) → bpat h' a_ j_ = bpat h_ a_ j_) ∧ (∀ D_, 60 ≤ D_ → xrun D_ 83 0 [(0, .index 0), (1, .int v1_), (2, .int (1 : Int32)), (3, .int v3)] [] h_ (some (.int v311), h', [])))) := by
  have hA : yas xstO1_A (xstO1_r v1_ v3 v310 v311 v500) (yg (xstO1_s a1000)) := ⟨List.forall_mem_cons.mpr ⟨b0, fun q_ hq => absurd hq List.not_mem_nil⟩, fun q_ hq => absurd hq List.not_mem_nil, fun q_ hq => absurd hq List.not_mem_nil, fun n_ hn => yg_lo hn, List.forall_mem_cons.mpr ⟨p0_, fun q_ hq => absurd hq List.not_mem_nil⟩⟩
  have Hs : ysh xstO1_A.1 (yg (xstO1_s a1000)) h_ := ysh_of2 hs (List.forall_mem_cons.mpr ⟨⟨by decide, k1000⟩, fun q_ hq => absurd hq List.not_mem_nil⟩)
  have Ho : ymem (xstO1_r v1_ v3 v310 v311 v500) (yg (xstO1_s a1000)) xstO1_O h_ := List.forall_mem_cons.mpr ⟨bpat_some (fxr_at hs.2 (show fxk fxl 0 0 = some 1 by decide +kernel)), List.forall_mem_cons.mpr ⟨bpat_some o0_, List.forall_mem_cons.mpr ⟨bpat_some (fxr_at hs.2 (show fxk fxl 1 1 = some 3 by decide +kernel)), List.forall_mem_cons.mpr ⟨bpat_some o1, List.forall_mem_cons.mpr ⟨bpat_some o2, fun q_ hq => absurd hq List.not_mem_nil⟩⟩⟩⟩⟩
  have HC : ∀ q_ ∈ xstO1_C, xhold (xstO1_r v1_ v3 v310 v311 v500) q_ := List.forall_mem_cons.mpr ⟨xh_eqF2 c0_, List.forall_mem_cons.mpr ⟨xh_ltT c1_, List.forall_mem_cons.mpr ⟨xh_ltF c2_, fun q_ hq => absurd hq List.not_mem_nil⟩⟩⟩
  rcases yrun (yis_ok xstO1_k) hA Hs Ho HC with ⟨q_, hq, h', K_, G_⟩ | ⟨q_, hq, h', K_, G_⟩
  · cases hq
  · have e_ := List.mem_singleton.mp hq
    subst e_
    exact ⟨h', yfr_sm K_.2.2.2 hs K_.1 (ywa_r xstO1_w List.mem_cons_self), ⟨bpat_of (K_.2.1 _ List.mem_cons_self), fun a_ j_ n0_ => yfr_bp K_.2.2.2 (List.forall_mem_cons.mpr ⟨fun e_ => n0_ ⟨e_.1.symm, e_.2.symm⟩, fun q_ hq => absurd hq List.not_mem_nil⟩), G_⟩⟩
-- mstO1: 86 steps, 0 ends, 1 returns
def mstO1_L : List (Nat × Nat × Nat) := []
def mstO1_O : yO := [(338, .int 0, .index 339), (339, .int 1, .arg 310), (339, .add (.add (.int 10) (.mul (.int 3) (.arg 1))) (.int 1), .arg 311)]
def mstO1_A : yA := (yZ mstO1_L, [(.add (.add (.int 10) (.mul (.int 3) (.arg 1))) (.int 1), 768)], [], [], [])
def mstO1_C : List xB := [(.le, .arg 3, .int 9, true), (.lt, .arg 3, .int 0, false), (.le, .arg 1, .sub (.arg 310) (.int 1), true), (.lt, .arg 1, .int 0, false)]
def mstO1_ss : List yS := []
def mstO1_rs : List yR := [(some (.arg 311), [(339, .add (.add (.int 10) (.mul (.int 3) (.arg 1))) (.int 1), .arg 3), (338, .int 0, .index 339)], [(.le, .arg 3, .int 9, true), (.lt, .arg 3, .int 0, false), (.le, .arg 1, .sub (.arg 310) (.int 1), true), (.lt, .arg 1, .int 0, false)], [(339, .add (.add (.int 10) (.mul (.int 3) (.arg 1))) (.int 1))])]
theorem mstO1_w : ywa mstO1_A mstO1_ss mstO1_rs = true := by decide +kernel
theorem mstO1_k : yis (yev mstO1_A 3000 60 171 [] (0, [(0, .index 338), (1, .arg 1), (2, .int 1), (3, .arg 3)], [], mstO1_O, mstO1_C, [])) mstO1_ss mstO1_rs = true := by decide +kernel
def mstO1_r (v1_ v3 v310 v311 : Int32) (k_ : Nat) : Value := bif Nat.beq k_ 1 then .int v1_ else (bif Nat.beq k_ 3 then .int v3 else (bif Nat.beq k_ 310 then .int v310 else (bif Nat.beq k_ 311 then .int v311 else (.int 0))))
def mstO1_s (n_ : Nat) : Nat := 0
theorem mstO1 {h_ : xH} {v1_ v3 v310 v311 : Int32} (hs : sHp h_) (o0_ : bpat h_ 339 1 = some (.int v310)) (o1 : bpat h_ 339 ((((10 : Int32) + ((3 : Int32) * v1_)) + (1 : Int32))).toInt.toNat = some (.int v311)) (b0 : 0 ≤ ((((10 : Int32) + ((3 : Int32) * v1_)) + (1 : Int32))).toInt ∧ ((((10 : Int32) + ((3 : Int32) * v1_)) + (1 : Int32))).toInt < 768) (c0_ : v3.toInt ≤ (9 : Int32).toInt) (c1_ : (0 : Int32).toInt ≤ v3.toInt) (c2_ : v1_.toInt ≤ (v310 - (1 : Int32)).toInt) (c3_ : (0 : Int32).toInt ≤ v1_.toInt) : ∃ h', ysm h_ h' ∧ (((bpat h' 339 ((((10 : Int32) + ((3 : Int32) * v1_)) + (1 : Int32))).toInt.toNat = some (.int v3)) ∧ (∀ a_ j_ : Nat, ¬ (a_ = 339 ∧ j_ = ((((10 : Int32) + ((3 : Int32) * v1_)) + (1 : Int32))).toInt.toNat) → bpat h' a_ j_ = bpat h_ a_ j_) ∧ (∀ D_, 60 ≤ D_ → xrun D_ 171 0 [(0, .index 338), (1, .int v1_), (2, .int (1 : Int32)), (3, .int v3)] [] h_ (some (.int v311), h', [])))) := by
  have hA : yas mstO1_A (mstO1_r v1_ v3 v310 v311) (yg mstO1_s) := ⟨List.forall_mem_cons.mpr ⟨b0, fun q_ hq => absurd hq List.not_mem_nil⟩, fun q_ hq => absurd hq List.not_mem_nil, fun q_ hq => absurd hq List.not_mem_nil, fun n_ hn => yg_lo hn, fun q_ hq => absurd hq List.not_mem_nil⟩
  have Hs : ysh mstO1_A.1 (yg mstO1_s) h_ := ysh_of2 hs (fun q_ hq => absurd hq List.not_mem_nil)
  have Ho : ymem (mstO1_r v1_ v3 v310 v311) (yg mstO1_s) mstO1_O h_ := List.forall_mem_cons.mpr ⟨bpat_some (fxr_at hs.2 (show fxk fxl 338 0 = some 339 by decide +kernel)), List.forall_mem_cons.mpr ⟨bpat_some o0_, List.forall_mem_cons.mpr ⟨bpat_some o1, fun q_ hq => absurd hq List.not_mem_nil⟩⟩⟩
  have HC : ∀ q_ ∈ mstO1_C, xhold (mstO1_r v1_ v3 v310 v311) q_ := List.forall_mem_cons.mpr ⟨xh_leT c0_, List.forall_mem_cons.mpr ⟨xh_ltF c1_, List.forall_mem_cons.mpr ⟨xh_leT c2_, List.forall_mem_cons.mpr ⟨xh_ltF c3_, fun q_ hq => absurd hq List.not_mem_nil⟩⟩⟩⟩
  rcases yrun (yis_ok mstO1_k) hA Hs Ho HC with ⟨q_, hq, h', K_, G_⟩ | ⟨q_, hq, h', K_, G_⟩
  · cases hq
  · have e_ := List.mem_singleton.mp hq
    subst e_
    exact ⟨h', yfr_sm K_.2.2.2 hs K_.1 (ywa_r mstO1_w List.mem_cons_self), ⟨bpat_of (K_.2.1 _ List.mem_cons_self), fun a_ j_ n0_ => yfr_bp K_.2.2.2 (List.forall_mem_cons.mpr ⟨fun e_ => n0_ ⟨e_.1.symm, e_.2.symm⟩, fun q_ hq => absurd hq List.not_mem_nil⟩), G_⟩⟩
-- xstO2: 51 steps, 0 ends, 1 returns
def xstO2_L : List (Nat × Nat × Nat) := [(1000, 5, 3)]
def xstO2_O : yO := [(0, .int 0, .index 1), (1, .int 10, .arg 310), (1, .int 1, .index 3), (3, .arg 1, .index 1000), (1000, .int 2, .arg 311)]
def xstO2_A : yA := (yZ xstO2_L, [(.arg 1, 8)], [], [], [(126, [.int 2, .arg 3], .arg 500)])
def xstO2_C : List xB := [(.eq, .arg 500, .int 0, false), (.lt, .arg 1, .arg 310, true), (.lt, .arg 1, .int 0, false)]
def xstO2_ss : List yS := []
def xstO2_rs : List yR := [(some (.arg 311), [(1000, .int 2, .arg 3), (0, .int 0, .index 1), (1, .int 10, .arg 310), (1, .int 1, .index 3), (3, .arg 1, .index 1000)], [(.eq, .arg 500, .int 0, false), (.lt, .arg 1, .arg 310, true), (.lt, .arg 1, .int 0, false)], [(1000, .int 2)])]
theorem xstO2_w : ywa xstO2_A xstO2_ss xstO2_rs = true := by decide +kernel
theorem xstO2_k : yis (yev xstO2_A 3000 60 83 [] (0, [(0, .index 0), (1, .arg 1), (2, .int 2), (3, .arg 3)], [], xstO2_O, xstO2_C, [])) xstO2_ss xstO2_rs = true := by decide +kernel
def xstO2_r (v1_ v3 v310 v311 v500 : Int32) (k_ : Nat) : Value := bif Nat.beq k_ 1 then .int v1_ else (bif Nat.beq k_ 3 then .int v3 else (bif Nat.beq k_ 310 then .int v310 else (bif Nat.beq k_ 311 then .int v311 else (bif Nat.beq k_ 500 then .int v500 else (.int 0)))))
def xstO2_s (a1000 : Nat) (n_ : Nat) : Nat := bif Nat.beq n_ 1000 then a1000 else (0)
theorem xstO2 {h_ : xH} {a1000 : Nat} {v1_ v3 v310 v311 v500 : Int32} (hs : sHp h_) (k1000 : bcq h_ a1000 5 3) (o0_ : bpat h_ 1 10 = some (.int v310)) (o1 : bpat h_ 3 (v1_).toInt.toNat = some (.index a1000)) (o2 : bpat h_ a1000 2 = some (.int v311)) (b0 : 0 ≤ (v1_).toInt ∧ (v1_).toInt < 8) (p0_ : ∀ (h_ : xH) (D_ : Nat), 5 ≤ D_ → xrun D_ 126 0 [(0, .int (2 : Int32)), (1, .int v3)] [] h_ (some (.int v500), h_, [])) (c0_ : ¬ v500 = (0 : Int32)) (c1_ : v1_.toInt < v310.toInt) (c2_ : (0 : Int32).toInt ≤ v1_.toInt) : ∃ h', ysm h_ h' ∧ (((bpat h' a1000 2 = some (.int v3)) ∧ (∀ a_ j_ : Nat, ¬ (a_ = a1000 ∧ j_ = 2) → bpat h' a_ j_ = bpat h_ a_ j_) ∧ (∀ D_, 60 ≤ D_ → xrun D_ 83 0 [(0, .index 0), (1, .int v1_), (2, .int (2 : Int32)), (3, .int v3)] [] h_ (some (.int v311), h', [])))) := by
  have hA : yas xstO2_A (xstO2_r v1_ v3 v310 v311 v500) (yg (xstO2_s a1000)) := ⟨List.forall_mem_cons.mpr ⟨b0, fun q_ hq => absurd hq List.not_mem_nil⟩, fun q_ hq => absurd hq List.not_mem_nil, fun q_ hq => absurd hq List.not_mem_nil, fun n_ hn => yg_lo hn, List.forall_mem_cons.mpr ⟨p0_, fun q_ hq => absurd hq List.not_mem_nil⟩⟩
  have Hs : ysh xstO2_A.1 (yg (xstO2_s a1000)) h_ := ysh_of2 hs (List.forall_mem_cons.mpr ⟨⟨by decide, k1000⟩, fun q_ hq => absurd hq List.not_mem_nil⟩)
  have Ho : ymem (xstO2_r v1_ v3 v310 v311 v500) (yg (xstO2_s a1000)) xstO2_O h_ := List.forall_mem_cons.mpr ⟨bpat_some (fxr_at hs.2 (show fxk fxl 0 0 = some 1 by decide +kernel)), List.forall_mem_cons.mpr ⟨bpat_some o0_, List.forall_mem_cons.mpr ⟨bpat_some (fxr_at hs.2 (show fxk fxl 1 1 = some 3 by decide +kernel)), List.forall_mem_cons.mpr ⟨bpat_some o1, List.forall_mem_cons.mpr ⟨bpat_some o2, fun q_ hq => absurd hq List.not_mem_nil⟩⟩⟩⟩⟩
  have HC : ∀ q_ ∈ xstO2_C, xhold (xstO2_r v1_ v3 v310 v311 v500) q_ := List.forall_mem_cons.mpr ⟨xh_eqF2 c0_, List.forall_mem_cons.mpr ⟨xh_ltT c1_, List.forall_mem_cons.mpr ⟨xh_ltF c2_, fun q_ hq => absurd hq List.not_mem_nil⟩⟩⟩
  rcases yrun (yis_ok xstO2_k) hA Hs Ho HC with ⟨q_, hq, h', K_, G_⟩ | ⟨q_, hq, h', K_, G_⟩
  · cases hq
  · have e_ := List.mem_singleton.mp hq
    subst e_
    exact ⟨h', yfr_sm K_.2.2.2 hs K_.1 (ywa_r xstO2_w List.mem_cons_self), ⟨bpat_of (K_.2.1 _ List.mem_cons_self), fun a_ j_ n0_ => yfr_bp K_.2.2.2 (List.forall_mem_cons.mpr ⟨fun e_ => n0_ ⟨e_.1.symm, e_.2.symm⟩, fun q_ hq => absurd hq List.not_mem_nil⟩), G_⟩⟩
-- mstO2: 85 steps, 0 ends, 1 returns
def mstO2_L : List (Nat × Nat × Nat) := []
def mstO2_O : yO := [(338, .int 0, .index 339), (339, .int 1, .arg 310), (339, .add (.add (.int 10) (.mul (.int 3) (.arg 1))) (.int 2), .arg 311)]
def mstO2_A : yA := (yZ mstO2_L, [(.add (.add (.int 10) (.mul (.int 3) (.arg 1))) (.int 2), 768)], [], [], [])
def mstO2_C : List xB := [(.le, .arg 3, .int 20, true), (.lt, .arg 3, .int 0, false), (.le, .arg 1, .sub (.arg 310) (.int 1), true), (.lt, .arg 1, .int 0, false)]
def mstO2_ss : List yS := []
def mstO2_rs : List yR := [(some (.arg 311), [(339, .add (.add (.int 10) (.mul (.int 3) (.arg 1))) (.int 2), .arg 3), (338, .int 0, .index 339)], [(.le, .arg 3, .int 20, true), (.lt, .arg 3, .int 0, false), (.le, .arg 1, .sub (.arg 310) (.int 1), true), (.lt, .arg 1, .int 0, false)], [(339, .add (.add (.int 10) (.mul (.int 3) (.arg 1))) (.int 2))])]
theorem mstO2_w : ywa mstO2_A mstO2_ss mstO2_rs = true := by decide +kernel
theorem mstO2_k : yis (yev mstO2_A 3000 60 171 [] (0, [(0, .index 338), (1, .arg 1), (2, .int 2), (3, .arg 3)], [], mstO2_O, mstO2_C, [])) mstO2_ss mstO2_rs = true := by decide +kernel
def mstO2_r (v1_ v3 v310 v311 : Int32) (k_ : Nat) : Value := bif Nat.beq k_ 1 then .int v1_ else (bif Nat.beq k_ 3 then .int v3 else (bif Nat.beq k_ 310 then .int v310 else (bif Nat.beq k_ 311 then .int v311 else (.int 0))))
def mstO2_s (n_ : Nat) : Nat := 0
theorem mstO2 {h_ : xH} {v1_ v3 v310 v311 : Int32} (hs : sHp h_) (o0_ : bpat h_ 339 1 = some (.int v310)) (o1 : bpat h_ 339 ((((10 : Int32) + ((3 : Int32) * v1_)) + (2 : Int32))).toInt.toNat = some (.int v311)) (b0 : 0 ≤ ((((10 : Int32) + ((3 : Int32) * v1_)) + (2 : Int32))).toInt ∧ ((((10 : Int32) + ((3 : Int32) * v1_)) + (2 : Int32))).toInt < 768) (c0_ : v3.toInt ≤ (20 : Int32).toInt) (c1_ : (0 : Int32).toInt ≤ v3.toInt) (c2_ : v1_.toInt ≤ (v310 - (1 : Int32)).toInt) (c3_ : (0 : Int32).toInt ≤ v1_.toInt) : ∃ h', ysm h_ h' ∧ (((bpat h' 339 ((((10 : Int32) + ((3 : Int32) * v1_)) + (2 : Int32))).toInt.toNat = some (.int v3)) ∧ (∀ a_ j_ : Nat, ¬ (a_ = 339 ∧ j_ = ((((10 : Int32) + ((3 : Int32) * v1_)) + (2 : Int32))).toInt.toNat) → bpat h' a_ j_ = bpat h_ a_ j_) ∧ (∀ D_, 60 ≤ D_ → xrun D_ 171 0 [(0, .index 338), (1, .int v1_), (2, .int (2 : Int32)), (3, .int v3)] [] h_ (some (.int v311), h', [])))) := by
  have hA : yas mstO2_A (mstO2_r v1_ v3 v310 v311) (yg mstO2_s) := ⟨List.forall_mem_cons.mpr ⟨b0, fun q_ hq => absurd hq List.not_mem_nil⟩, fun q_ hq => absurd hq List.not_mem_nil, fun q_ hq => absurd hq List.not_mem_nil, fun n_ hn => yg_lo hn, fun q_ hq => absurd hq List.not_mem_nil⟩
  have Hs : ysh mstO2_A.1 (yg mstO2_s) h_ := ysh_of2 hs (fun q_ hq => absurd hq List.not_mem_nil)
  have Ho : ymem (mstO2_r v1_ v3 v310 v311) (yg mstO2_s) mstO2_O h_ := List.forall_mem_cons.mpr ⟨bpat_some (fxr_at hs.2 (show fxk fxl 338 0 = some 339 by decide +kernel)), List.forall_mem_cons.mpr ⟨bpat_some o0_, List.forall_mem_cons.mpr ⟨bpat_some o1, fun q_ hq => absurd hq List.not_mem_nil⟩⟩⟩
  have HC : ∀ q_ ∈ mstO2_C, xhold (mstO2_r v1_ v3 v310 v311) q_ := List.forall_mem_cons.mpr ⟨xh_leT c0_, List.forall_mem_cons.mpr ⟨xh_ltF c1_, List.forall_mem_cons.mpr ⟨xh_leT c2_, List.forall_mem_cons.mpr ⟨xh_ltF c3_, fun q_ hq => absurd hq List.not_mem_nil⟩⟩⟩⟩
  rcases yrun (yis_ok mstO2_k) hA Hs Ho HC with ⟨q_, hq, h', K_, G_⟩ | ⟨q_, hq, h', K_, G_⟩
  · cases hq
  · have e_ := List.mem_singleton.mp hq
    subst e_
    exact ⟨h', yfr_sm K_.2.2.2 hs K_.1 (ywa_r mstO2_w List.mem_cons_self), ⟨bpat_of (K_.2.1 _ List.mem_cons_self), fun a_ j_ n0_ => yfr_bp K_.2.2.2 (List.forall_mem_cons.mpr ⟨fun e_ => n0_ ⟨e_.1.symm, e_.2.symm⟩, fun q_ hq => absurd hq List.not_mem_nil⟩), G_⟩⟩
def setF (W_ : Nat → List Int32) (V : Nat → Int32) (r_ a_ b_ : Int32) : (Nat → List Int32) × (Nat → Int32) × Int32 := if (0 ≤ r_.toInt ∧ r_.toInt < (V 1).toInt) ∧ ((a_.toInt = 0 ∧ (0 ≤ b_.toInt ∧ b_.toInt ≤ 6)) ∨ ((a_.toInt = 1 ∧ (0 ≤ b_.toInt ∧ b_.toInt ≤ 9)) ∨ (a_.toInt = 2 ∧ (0 ≤ b_.toInt ∧ b_.toInt ≤ 20)))) then (W_, upI V (10 + 3 * r_.toInt.toNat + a_.toInt.toNat) b_, V (10 + 3 * r_.toInt.toNat + a_.toInt.toNat)) else (W_, V, Int32.ofInt (-1000001))
theorem isR_n {W_ : Nat → List Int32} {V : Nat → Int32} (K_ : okS W_ V) {z_ : Int32} (g_ : 0 ≤ z_.toInt ∧ z_.toInt < (V 1).toInt) : ∃ k_ : Nat, k_ < 8 ∧ ((k_ : Int) < (V 1).toInt ∧ (z_ = Int32.ofNat k_ ∧ (Int32.ofNat k_).toInt.toNat = k_)) := by
  have b_ := okM K_
  obtain ⟨g1, g2⟩ := g_
  refine ⟨z_.toInt.toNat, by omega, by omega, ?_, i32t (by omega)⟩
  refine Int32.toInt_inj.mp ?_
  rw [i32n (by omega)]
  omega
theorem x_set {W_ : Nat → List Int32} {V : Nat → Int32} {h_ : xH} {r_ a_ b_ : Int32} (B_ : bInv bZ bIj h_) (K_ : okS W_ V) (H_ : SX W_ V h_) : ∃ h', ysm h_ h' ∧ (SX (setF W_ V r_ a_ b_).1 (setF W_ V r_ a_ b_).2.1 h' ∧ ∀ D_, 60 ≤ D_ → xrun D_ 83 0 [(0, .index 0), (1, .int r_), (2, .int a_), (3, .int b_)] [] h_ (some (.int (setF W_ V r_ a_ b_).2.2), h', [])) := by
  obtain ⟨y_, oy⟩ := xerr (k_ := 1) B_ (by omega)
  have zz := z0_
  have z1 := i1_
  have z2 := i2_
  unfold setF
  have pb : ∀ (h_ : xH) (D_ : Nat), 5 ≤ D_ → xrun D_ 126 0 [(0, .int a_), (1, .int b_)] [] h_ (some (.int (mbF a_ b_)), h_, []) := mbX a_ b_
  by_cases g_ : (0 ≤ r_.toInt ∧ r_.toInt < (V 1).toInt) ∧ ((a_.toInt = 0 ∧ (0 ≤ b_.toInt ∧ b_.toInt ≤ 6)) ∨ ((a_.toInt = 1 ∧ (0 ≤ b_.toInt ∧ b_.toInt ≤ 9)) ∨ (a_.toInt = 2 ∧ (0 ≤ b_.toInt ∧ b_.toInt ≤ 20))))
  · rw [if_pos g_]
    have hb_ : ¬ mbF a_ b_ = 0 := by rw [mbF_1 g_.2]; decide
    obtain ⟨k_, hk, hN_, rfl, ek⟩ := isR_n K_ g_.1
    obtain ⟨s1_, s2_⟩ := rck_ok (k_ := k_) H_.1 hk
    rw [ek]
    rcases g_.2 with ⟨ea, -⟩ | ⟨ea, -⟩ | ⟨ea, -⟩
    · have ea2 : a_ = Int32.ofNat 0 := Int32.toInt_inj.mp (by rw [ea]; rfl)
      subst ea2
      have ie := rk_in (k_ := k_) (j_ := 0) hk (by omega)
      obtain ⟨h1, m_, e1_, f_, q_⟩ := xstO0 (v1_ := Int32.ofNat k_) (v3 := b_) H_.1 s2_ (SX_v H_ (show ((1, 10), 1) ∈ wvX by decide)) (by rw [ek]; exact s1_) (SX_v H_ ie.1) ⟨by omega, by omega⟩ pb hb_ (by omega) (by omega)
      exact ⟨h1, m_, SX_i H_ m_ ie.1 e1_ (fun c_ j_ _ n_ => f_ c_ j_ n_), q_⟩
    · have ea2 : a_ = Int32.ofNat 1 := Int32.toInt_inj.mp (by rw [ea]; rfl)
      subst ea2
      have ie := rk_in (k_ := k_) (j_ := 1) hk (by omega)
      obtain ⟨h1, m_, e1_, f_, q_⟩ := xstO1 (v1_ := Int32.ofNat k_) (v3 := b_) H_.1 s2_ (SX_v H_ (show ((1, 10), 1) ∈ wvX by decide)) (by rw [ek]; exact s1_) (SX_v H_ ie.1) ⟨by omega, by omega⟩ pb hb_ (by omega) (by omega)
      exact ⟨h1, m_, SX_i H_ m_ ie.1 e1_ (fun c_ j_ _ n_ => f_ c_ j_ n_), q_⟩
    · have ea2 : a_ = Int32.ofNat 2 := Int32.toInt_inj.mp (by rw [ea]; rfl)
      subst ea2
      have ie := rk_in (k_ := k_) (j_ := 2) hk (by omega)
      obtain ⟨h1, m_, e1_, f_, q_⟩ := xstO2 (v1_ := Int32.ofNat k_) (v3 := b_) H_.1 s2_ (SX_v H_ (show ((1, 10), 1) ∈ wvX by decide)) (by rw [ek]; exact s1_) (SX_v H_ ie.1) ⟨by omega, by omega⟩ pb hb_ (by omega) (by omega)
      exact ⟨h1, m_, SX_i H_ m_ ie.1 e1_ (fun c_ j_ _ n_ => f_ c_ j_ n_), q_⟩
  · rw [if_neg g_]
    obtain ⟨h1, m_, e_⟩ := xstE (v1_ := r_) (v2 := a_) (v3 := b_) H_.1 (SX_v H_ (show ((1, 10), 1) ∈ wvX by decide)) oy pb
    rcases e_ with ⟨g1, g2, g3_, f_, q_⟩ | ⟨g1, w0_, f_, q_⟩ | ⟨g1, g2, w0_, f_, q_⟩ | ⟨g1, g2, g3_, w0_, f_, q_⟩
    · have q1_ := i32e g1
      exact absurd ⟨⟨by omega, by omega⟩, mbF_P g1⟩ g_
    · exact ⟨h1, m_, SX_e H_ m_ f_, q_⟩
    · exact ⟨h1, m_, SX_e H_ m_ f_, q_⟩
    · have q1_ := congrArg Int32.toInt g1
      exact ⟨h1, m_, SX_e H_ m_ f_, q_⟩
theorem m_set {W_ : Nat → List Int32} {V : Nat → Int32} {h_ : xH} {r_ a_ b_ : Int32} (B_ : bInv bZ bIj h_) (K_ : okS W_ V) (H_ : SM W_ V h_) : ∃ h', ysm h_ h' ∧ (SM (setF W_ V r_ a_ b_).1 (setF W_ V r_ a_ b_).2.1 h' ∧ ∀ D_, 60 ≤ D_ → xrun D_ 171 0 [(0, .index 338), (1, .int r_), (2, .int a_), (3, .int b_)] [] h_ (some (.int (setF W_ V r_ a_ b_).2.2), h', [])) := by
  obtain ⟨y_, oy⟩ := merr (k_ := 1) B_ (by omega)
  have zz := z0_
  have z1 := i1_
  have z2 := i2_
  have z6 := i6_
  have z9 := i9_
  have z20 := i20_
  have kM := okM K_
  have n1_ := i32j (V 1) kM.1 (by omega)
  unfold setF
  by_cases g_ : (0 ≤ r_.toInt ∧ r_.toInt < (V 1).toInt) ∧ ((a_.toInt = 0 ∧ (0 ≤ b_.toInt ∧ b_.toInt ≤ 6)) ∨ ((a_.toInt = 1 ∧ (0 ≤ b_.toInt ∧ b_.toInt ≤ 9)) ∨ (a_.toInt = 2 ∧ (0 ≤ b_.toInt ∧ b_.toInt ≤ 20))))
  · rw [if_pos g_]
    obtain ⟨k_, hk, hN_, rfl, ek⟩ := isR_n K_ g_.1
    rw [ek]
    rcases g_.2 with ⟨ea, eb⟩ | ⟨ea, eb⟩ | ⟨ea, eb⟩
    · have ea2 : a_ = Int32.ofNat 0 := Int32.toInt_inj.mp (by rw [ea]; rfl)
      subst ea2
      have ie := rk_in (k_ := k_) (j_ := 0) hk (by omega)
      obtain ⟨i0_, b0⟩ := ik2_ (k_ := k_) (j_ := 0) hk (by omega)
      have i0_ : ((10 : Int32) + 3 * Int32.ofNat k_ + 0).toInt.toNat = 10 + 3 * k_ + 0 := i0_
      obtain ⟨h1, m_, e1_, f_, q_⟩ := mstO0 (v1_ := Int32.ofNat k_) (v3 := b_) H_.1 (SM_v H_ (show (1, 1) ∈ wvM by decide)) (by rw [i0_]; exact SM_v H_ ie.2) b0 (by omega) (by omega) (by omega) (by omega)
      rw [i0_] at e1_ f_
      exact ⟨h1, m_, SM_i H_ (lenS_ok K_) m_ ie.2 e1_ (fun c_ j_ _ n_ => f_ c_ j_ n_), q_⟩
    · have ea2 : a_ = Int32.ofNat 1 := Int32.toInt_inj.mp (by rw [ea]; rfl)
      subst ea2
      have ie := rk_in (k_ := k_) (j_ := 1) hk (by omega)
      obtain ⟨i0_, b0⟩ := ik2_ (k_ := k_) (j_ := 1) hk (by omega)
      have i0_ : ((10 : Int32) + 3 * Int32.ofNat k_ + 1).toInt.toNat = 10 + 3 * k_ + 1 := i0_
      obtain ⟨h1, m_, e1_, f_, q_⟩ := mstO1 (v1_ := Int32.ofNat k_) (v3 := b_) H_.1 (SM_v H_ (show (1, 1) ∈ wvM by decide)) (by rw [i0_]; exact SM_v H_ ie.2) b0 (by omega) (by omega) (by omega) (by omega)
      rw [i0_] at e1_ f_
      exact ⟨h1, m_, SM_i H_ (lenS_ok K_) m_ ie.2 e1_ (fun c_ j_ _ n_ => f_ c_ j_ n_), q_⟩
    · have ea2 : a_ = Int32.ofNat 2 := Int32.toInt_inj.mp (by rw [ea]; rfl)
      subst ea2
      have ie := rk_in (k_ := k_) (j_ := 2) hk (by omega)
      obtain ⟨i0_, b0⟩ := ik2_ (k_ := k_) (j_ := 2) hk (by omega)
      have i0_ : ((10 : Int32) + 3 * Int32.ofNat k_ + 2).toInt.toNat = 10 + 3 * k_ + 2 := i0_
      obtain ⟨h1, m_, e1_, f_, q_⟩ := mstO2 (v1_ := Int32.ofNat k_) (v3 := b_) H_.1 (SM_v H_ (show (1, 1) ∈ wvM by decide)) (by rw [i0_]; exact SM_v H_ ie.2) b0 (by omega) (by omega) (by omega) (by omega)
      rw [i0_] at e1_ f_
      exact ⟨h1, m_, SM_i H_ (lenS_ok K_) m_ ie.2 e1_ (fun c_ j_ _ n_ => f_ c_ j_ n_), q_⟩
  · rw [if_neg g_]
    obtain ⟨h1, m_, e_⟩ := mstE (v1_ := r_) (v2 := a_) (v3 := b_) H_.1 (SM_v H_ (show (1, 1) ∈ wvM by decide)) oy
    rcases e_ with ⟨g1, g2, g3_, g4, g5_, g6, g7, g8, f_, q_⟩ | ⟨g1, g2, g3_, g4, g5_, g6, g7, g8, f_, q_⟩ | ⟨g1, g2, g3_, g4, g5_, g6, g7, f_, q_⟩ | ⟨g1, w0_, f_, q_⟩ | ⟨g1, g2, w0_, f_, q_⟩ | ⟨g1, g2, g3_, w0_, f_, q_⟩ | ⟨g1, g2, g3_, g4, w0_, f_, q_⟩ | ⟨g1, g2, g3_, g4, g5_, g6, g7, w0_, f_, q_⟩ | ⟨g1, g2, g3_, g4, g5_, g6, g7, g8, w0_, f_, q_⟩ | ⟨g1, g2, g3_, g4, g5_, g6, g7, w0_, f_, q_⟩ | ⟨g1, g2, g3_, g4, g5_, g6, g7, g8, w0_, f_, q_⟩ | ⟨g1, g2, g3_, g4, g5_, g6, w0_, f_, q_⟩ | ⟨g1, g2, g3_, g4, g5_, g6, g7, w0_, f_, q_⟩
    · have q3_ := i32e g3_
      have q4_ := i32e g4
      exact absurd (by omega) g_
    · have q3_ := congrArg Int32.toInt g3_
      have q4_ := i32e g4
      exact absurd (by omega) g_
    · have q3_ := congrArg Int32.toInt g3_
      exact absurd (by omega) g_
    · exact ⟨h1, m_, SM_e H_ m_ f_, q_⟩
    · exact ⟨h1, m_, SM_e H_ m_ f_, q_⟩
    · exact ⟨h1, m_, SM_e H_ m_ f_, q_⟩
    · exact ⟨h1, m_, SM_e H_ m_ f_, q_⟩
    · have q2_ := i32e g2
      have q3_ := i32e g3_
      exact ⟨h1, m_, SM_e H_ m_ f_, q_⟩
    · have q3_ := i32e g3_
      have q4_ := i32e g4
      exact ⟨h1, m_, SM_e H_ m_ f_, q_⟩
    · have q2_ := congrArg Int32.toInt g2
      have q3_ := i32e g3_
      exact ⟨h1, m_, SM_e H_ m_ f_, q_⟩
    · have q3_ := congrArg Int32.toInt g3_
      have q4_ := i32e g4
      exact ⟨h1, m_, SM_e H_ m_ f_, q_⟩
    · have q2_ := congrArg Int32.toInt g2
      exact ⟨h1, m_, SM_e H_ m_ f_, q_⟩
    · have q3_ := congrArg Int32.toInt g3_
      exact ⟨h1, m_, SM_e H_ m_ f_, q_⟩
-- ===== how many SOUNDS aren't their own CONTRARIES
-- eus: 4 steps, 1 ends, 0 returns
def eus_L : List (Nat × Nat × Nat) := [(1000, 6, 2)]
def eus_O : yO := []
def eus_A : yA := (yZ eus_L, [], [], [], [])
def eus_C : List xB := []
def eus_ss : List yS := [(4, [(2, .int 0), (1, .int 0), (0, .index 1000)], [], [], [], [])]
def eus_rs : List yR := []
theorem eus_w : ywa eus_A eus_ss eus_rs = true := by decide +kernel
theorem eus_k : yis (yev eus_A 3000 60 42 [4] (0, [(0, .index 1000)], [], eus_O, eus_C, [])) eus_ss eus_rs = true := by decide +kernel
def eus_r (k_ : Nat) : Value := .int 0
def eus_s (a1000 : Nat) (n_ : Nat) : Nat := bif Nat.beq n_ 1000 then a1000 else (0)
theorem eus {h_ : xH} {a1000 : Nat} (hs : sHp h_) (k1000 : bcq h_ a1000 6 2) : ∃ h', ysm h_ h' ∧ (((∀ a_ j_ : Nat, bpat h' a_ j_ = bpat h_ a_ j_) ∧ (bldD 60 42 0 [(0, .index a1000)] [] h_ 4 [(2, .int (0 : Int32)), (1, .int (0 : Int32)), (0, .index a1000)] [] h'))) := by
  have hA : yas eus_A eus_r (yg (eus_s a1000)) := ⟨fun q_ hq => absurd hq List.not_mem_nil, fun q_ hq => absurd hq List.not_mem_nil, fun q_ hq => absurd hq List.not_mem_nil, fun n_ hn => yg_lo hn, fun q_ hq => absurd hq List.not_mem_nil⟩
  have Hs : ysh eus_A.1 (yg (eus_s a1000)) h_ := ysh_of2 hs (List.forall_mem_cons.mpr ⟨⟨by decide, k1000⟩, fun q_ hq => absurd hq List.not_mem_nil⟩)
  have Ho : ymem eus_r (yg (eus_s a1000)) eus_O h_ := fun q_ hq => absurd hq List.not_mem_nil
  have HC : ∀ q_ ∈ eus_C, xhold eus_r q_ := fun q_ hq => absurd hq List.not_mem_nil
  rcases yrun (yis_ok eus_k) hA Hs Ho HC with ⟨q_, hq, h', K_, G_⟩ | ⟨q_, hq, h', K_, G_⟩
  · have e_ := List.mem_singleton.mp hq
    subst e_
    exact ⟨h', yfr_sm K_.2.2.2 hs K_.1 (ywa_s eus_w List.mem_cons_self), ⟨fun a_ j_ => yfr_bp K_.2.2.2 (fun q_ hq => absurd hq List.not_mem_nil), G_⟩⟩
  · cases hq
-- tus: 19 steps, 2 ends, 0 returns
def tus_L : List (Nat × Nat × Nat) := [(1000, 6, 2), (1001, 20, 12)]
def tus_O : yO := [(1000, .int 1, .arg 300), (1000, .int 0, .index 1001), (1001, .arg 2, .arg 301)]
def tus_A : yA := (yZ tus_L, [(.arg 2, 12)], [], [], [(133, [.arg 301], .arg 500)])
def tus_C : List xB := [(.lt, .arg 2, .arg 300, true)]
def tus_ss : List yS := [(4, [(2, .add (.arg 2) (.int 1)), (1, .arg 1), (0, .index 1000)], [], [(1000, .int 1, .arg 300), (1000, .int 0, .index 1001), (1001, .arg 2, .arg 301)], [(.eq, .arg 500, .arg 301, true), (.lt, .arg 2, .arg 300, true)], []),
  (4, [(2, .add (.arg 2) (.int 1)), (1, .add (.arg 1) (.int 1)), (0, .index 1000)], [], [(1000, .int 1, .arg 300), (1000, .int 0, .index 1001), (1001, .arg 2, .arg 301)], [(.eq, .arg 500, .arg 301, false), (.lt, .arg 2, .arg 300, true)], [])]
def tus_rs : List yR := []
theorem tus_w : ywa tus_A tus_ss tus_rs = true := by decide +kernel
theorem tus_k : yis (yev tus_A 3000 60 42 [4] (4, [(2, .arg 2), (1, .arg 1), (0, .index 1000)], [], tus_O, tus_C, [])) tus_ss tus_rs = true := by decide +kernel
def tus_r (v1_ v2 v300 v301 v500 : Int32) (k_ : Nat) : Value := bif Nat.beq k_ 1 then .int v1_ else (bif Nat.beq k_ 2 then .int v2 else (bif Nat.beq k_ 300 then .int v300 else (bif Nat.beq k_ 301 then .int v301 else (bif Nat.beq k_ 500 then .int v500 else (.int 0)))))
def tus_s (a1000 a1001 : Nat) (n_ : Nat) : Nat := bif Nat.beq n_ 1000 then a1000 else (bif Nat.beq n_ 1001 then a1001 else (0))
theorem tus {h_ : xH} {a1000 a1001 : Nat} {v1_ v2 v300 v301 v500 : Int32} (hs : sHp h_) (k1000 : bcq h_ a1000 6 2) (k1001 : bcq h_ a1001 20 12) (o0_ : bpat h_ a1000 1 = some (.int v300)) (o1 : bpat h_ a1000 0 = some (.index a1001)) (o2 : bpat h_ a1001 (v2).toInt.toNat = some (.int v301)) (b0 : 0 ≤ (v2).toInt ∧ (v2).toInt < 12) (p0_ : ∀ (h_ : xH) (D_ : Nat), 5 ≤ D_ → xrun D_ 133 0 [(0, .int v301)] [] h_ (some (.int v500), h_, [])) (c0_ : v2.toInt < v300.toInt) : ∃ h', ysm h_ h' ∧ (((v500 = v301) ∧ (∀ a_ j_ : Nat, bpat h' a_ j_ = bpat h_ a_ j_) ∧ (bldD 60 42 4 [(2, .int v2), (1, .int v1_), (0, .index a1000)] [] h_ 4 [(2, .int (v2 + (1 : Int32))), (1, .int v1_), (0, .index a1000)] [] h'))
  ∨ ((¬ v500 = v301) ∧ (∀ a_ j_ : Nat, bpat h' a_ j_ = bpat h_ a_ j_) ∧ (bldD 60 42 4 [(2, .int v2), (1, .int v1_), (0, .index a1000)] [] h_ 4 [(2, .int (v2 + (1 : Int32))), (1, .int (v1_ + (1 : Int32))), (0, .index a1000)] [] h'))) := by
  have hA : yas tus_A (tus_r v1_ v2 v300 v301 v500) (yg (tus_s a1000 a1001)) := ⟨List.forall_mem_cons.mpr ⟨b0, fun q_ hq => absurd hq List.not_mem_nil⟩, fun q_ hq => absurd hq List.not_mem_nil, fun q_ hq => absurd hq List.not_mem_nil, fun n_ hn => yg_lo hn, List.forall_mem_cons.mpr ⟨p0_, fun q_ hq => absurd hq List.not_mem_nil⟩⟩
  have Hs : ysh tus_A.1 (yg (tus_s a1000 a1001)) h_ := ysh_of2 hs (List.forall_mem_cons.mpr ⟨⟨by decide, k1000⟩, List.forall_mem_cons.mpr ⟨⟨by decide, k1001⟩, fun q_ hq => absurd hq List.not_mem_nil⟩⟩)
  have Ho : ymem (tus_r v1_ v2 v300 v301 v500) (yg (tus_s a1000 a1001)) tus_O h_ := List.forall_mem_cons.mpr ⟨bpat_some o0_, List.forall_mem_cons.mpr ⟨bpat_some o1, List.forall_mem_cons.mpr ⟨bpat_some o2, fun q_ hq => absurd hq List.not_mem_nil⟩⟩⟩
  have HC : ∀ q_ ∈ tus_C, xhold (tus_r v1_ v2 v300 v301 v500) q_ := List.forall_mem_cons.mpr ⟨xh_ltT c0_, fun q_ hq => absurd hq List.not_mem_nil⟩
  rcases yrun (yis_ok tus_k) hA Hs Ho HC with ⟨q_, hq, h', K_, G_⟩ | ⟨q_, hq, h', K_, G_⟩
  · rcases List.mem_cons.mp hq with e_ | hq
    · subst e_
      exact ⟨h', yfr_sm K_.2.2.2 hs K_.1 (ywa_s tus_w List.mem_cons_self), Or.inl (⟨xq_eqT rfl rfl (K_.2.2.1 _ List.mem_cons_self), fun a_ j_ => yfr_bp K_.2.2.2 (fun q_ hq => absurd hq List.not_mem_nil), G_⟩)⟩
    have e_ := List.mem_singleton.mp hq
    subst e_
    exact ⟨h', yfr_sm K_.2.2.2 hs K_.1 (ywa_s tus_w (List.mem_cons_of_mem _ List.mem_cons_self)), Or.inr (⟨xq_eqF rfl rfl (K_.2.2.1 _ List.mem_cons_self), fun a_ j_ => yfr_bp K_.2.2.2 (fun q_ hq => absurd hq List.not_mem_nil), G_⟩)⟩
  · cases hq
-- xus: 6 steps, 0 ends, 1 returns
def xus_L : List (Nat × Nat × Nat) := [(1000, 6, 2), (1001, 20, 12)]
def xus_O : yO := [(1000, .int 1, .arg 300)]
def xus_A : yA := (yZ xus_L, [], [], [], [])
def xus_C : List xB := [(.lt, .arg 2, .arg 300, false)]
def xus_ss : List yS := []
def xus_rs : List yR := [(some (.arg 1), [(1000, .int 1, .arg 300)], [(.lt, .arg 2, .arg 300, false)], [])]
theorem xus_w : ywa xus_A xus_ss xus_rs = true := by decide +kernel
theorem xus_k : yis (yev xus_A 3000 60 42 [] (4, [(2, .arg 2), (1, .arg 1), (0, .index 1000)], [], xus_O, xus_C, [])) xus_ss xus_rs = true := by decide +kernel
def xus_r (v1_ v2 v300 : Int32) (k_ : Nat) : Value := bif Nat.beq k_ 1 then .int v1_ else (bif Nat.beq k_ 2 then .int v2 else (bif Nat.beq k_ 300 then .int v300 else (.int 0)))
def xus_s (a1000 a1001 : Nat) (n_ : Nat) : Nat := bif Nat.beq n_ 1000 then a1000 else (bif Nat.beq n_ 1001 then a1001 else (0))
theorem xus {h_ : xH} {a1000 a1001 : Nat} {v1_ v2 v300 : Int32} (hs : sHp h_) (k1000 : bcq h_ a1000 6 2) (k1001 : bcq h_ a1001 20 12) (o0_ : bpat h_ a1000 1 = some (.int v300)) (c0_ : v300.toInt ≤ v2.toInt) : ∃ h', ysm h_ h' ∧ (((∀ a_ j_ : Nat, bpat h' a_ j_ = bpat h_ a_ j_) ∧ (∀ D_, 60 ≤ D_ → xrun D_ 42 4 [(2, .int v2), (1, .int v1_), (0, .index a1000)] [] h_ (some (.int v1_), h', [])))) := by
  have hA : yas xus_A (xus_r v1_ v2 v300) (yg (xus_s a1000 a1001)) := ⟨fun q_ hq => absurd hq List.not_mem_nil, fun q_ hq => absurd hq List.not_mem_nil, fun q_ hq => absurd hq List.not_mem_nil, fun n_ hn => yg_lo hn, fun q_ hq => absurd hq List.not_mem_nil⟩
  have Hs : ysh xus_A.1 (yg (xus_s a1000 a1001)) h_ := ysh_of2 hs (List.forall_mem_cons.mpr ⟨⟨by decide, k1000⟩, List.forall_mem_cons.mpr ⟨⟨by decide, k1001⟩, fun q_ hq => absurd hq List.not_mem_nil⟩⟩)
  have Ho : ymem (xus_r v1_ v2 v300) (yg (xus_s a1000 a1001)) xus_O h_ := List.forall_mem_cons.mpr ⟨bpat_some o0_, fun q_ hq => absurd hq List.not_mem_nil⟩
  have HC : ∀ q_ ∈ xus_C, xhold (xus_r v1_ v2 v300) q_ := List.forall_mem_cons.mpr ⟨xh_ltF c0_, fun q_ hq => absurd hq List.not_mem_nil⟩
  rcases yrun (yis_ok xus_k) hA Hs Ho HC with ⟨q_, hq, h', K_, G_⟩ | ⟨q_, hq, h', K_, G_⟩
  · cases hq
  · have e_ := List.mem_singleton.mp hq
    subst e_
    exact ⟨h', yfr_sm K_.2.2.2 hs K_.1 (ywa_r xus_w List.mem_cons_self), ⟨fun a_ j_ => yfr_bp K_.2.2.2 (fun q_ hq => absurd hq List.not_mem_nil), G_⟩⟩
def uns (l : List Int32) : Nat := match l with
  | [] => 0
  | y_ :: t_ => (if puC_F y_ = y_ then 0 else 1) + uns t_
theorem uns_le : ∀ {l : List Int32}, uns l ≤ l.length := by
  intro l
  induction l with
  | nil => exact Nat.le_refl _
  | cons y_ t_ ih_ =>
    have e_ : uns (y_ :: t_) = (if puC_F y_ = y_ then 0 else 1) + uns t_ := rfl
    rw [e_, List.length_cons]
    split
    · omega
    · omega
theorem us_lp {a_ b_ : Nat} : ∀ (n_ i_ k_ : Nat) (l : List Int32) (h_ : xH), i_ + n_ = l.length → rW a_ b_ h_ l → ∃ h', rW a_ b_ h' l ∧ ysm h_ h' ∧ (∀ c_ j_, bpat h' c_ j_ = bpat h_ c_ j_) ∧ ∀ D_, 60 ≤ D_ → xrun D_ 42 4 [(2, .int (Int32.ofNat i_)), (1, .int (Int32.ofNat k_)), (0, .index a_)] [] h_ (some (.int (Int32.ofNat (k_ + uns (l.drop i_)))), h', []) := by
  intro n_
  induction n_ with
  | zero =>
    intro i_ k_ l h_ hi_ R_
    have R7 := R_.2.2
    obtain ⟨h1, m1_, f1_, r1_⟩ := xus (v1_ := Int32.ofNat k_) (v2 := Int32.ofNat i_) R_.1 R_.2.1.1.1 R_.2.1.1.2 R_.2.1.2.1.2 (by rw [i32n (by omega), i32n (by omega)]; omega)
    rw [List.drop_eq_nil_of_le (by omega)]
    exact ⟨h1, rW_all R_ m1_ f1_, m1_, f1_, r1_⟩
  | succ n_ ih_ =>
    intro i_ k_ l h_ hi_ R_
    have R7 := R_.2.2
    have gi : l[i_]? = some l[i_] := List.getElem?_eq_getElem (by omega)
    have e6_ : bpat h_ b_ (Int32.ofNat i_).toInt.toNat = some (.int l[i_]) := by
      rw [i32t (by omega)]
      exact R_.2.1.2.2.2 i_ _ gi
    obtain ⟨h1, m1_, e_⟩ := tus (v1_ := Int32.ofNat k_) (v2 := Int32.ofNat i_) R_.1 R_.2.1.1.1 R_.2.1.1.2 R_.2.1.2.1.2 R_.2.1.2.1.1 e6_ ⟨by rw [i32n (by omega)]; omega, by rw [i32n (by omega)]; omega⟩ (fun h_ D_ hD => puC _ h_ D_ hD) (by rw [i32n (by omega), i32n (by omega)]; omega)
    have ed : uns (l.drop i_) = (if puC_F l[i_] = l[i_] then 0 else 1) + uns (l.drop (i_ + 1)) := by rw [List.drop_eq_getElem_cons (by omega)]; rfl
    rw [i32s, i32s] at e_
    rcases e_ with ⟨g1, f1_, ld⟩ | ⟨g1, f1_, ld⟩
    · obtain ⟨h2, R2, m2_, f2_, r2⟩ := ih_ (i_ + 1) k_ l h1 (by omega) (rW_all R_ m1_ f1_)
      rw [ed, if_pos g1, Nat.zero_add]
      exact ⟨h2, R2, ysm_tr m1_ m2_, fun c_ j_ => (f2_ c_ j_).trans (f1_ c_ j_), fun D_ hD => ld D_ hD _ (r2 D_ hD)⟩
    · obtain ⟨h2, R2, m2_, f2_, r2⟩ := ih_ (i_ + 1) (k_ + 1) l h1 (by omega) (rW_all R_ m1_ f1_)
      rw [ed, if_neg g1, ← Nat.add_assoc]
      exact ⟨h2, R2, ysm_tr m1_ m2_, fun c_ j_ => (f2_ c_ j_).trans (f1_ c_ j_), fun D_ hD => ld D_ hD _ (r2 D_ hD)⟩
/-- unsafeSounds, the class -/
theorem usX {a_ b_ : Nat} {l : List Int32} {h_ : xH} (R_ : rW a_ b_ h_ l) : ∃ h', rW a_ b_ h' l ∧ ysm h_ h' ∧ (∀ c_ j_, bpat h' c_ j_ = bpat h_ c_ j_) ∧ ∀ D_, 60 ≤ D_ → xrun D_ 42 0 [(0, .index a_)] [] h_ (some (.int (Int32.ofNat (uns l))), h', []) := by
  obtain ⟨h0, m0_, f0_, ld0⟩ := eus R_.1 R_.2.1.1.1
  obtain ⟨h1, R1, m1_, f1_, r1_⟩ := us_lp l.length 0 0 l h0 (by omega) (rW_all R_ m0_ f0_)
  rw [Nat.zero_add, List.drop_zero] at r1_
  exact ⟨h1, R1, ysm_tr m0_ m1_, fun c_ j_ => (f1_ c_ j_).trans (f0_ c_ j_), fun D_ hD => ld0 D_ hD _ (r1_ D_ hD)⟩
