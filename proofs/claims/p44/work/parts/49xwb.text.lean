-- ===== the reference reads a TEXT: contracts
def RM (u_ : Nat) (T : List Int32) (h_ : xH) (a_ o : Nat) (c_ : List Int32) : Prop := sHp h_ ∧ (((bpat h_ 338 7 = some (.int (Int32.ofNat a_)) ∧ bpat h_ 338 8 = some (.int (Int32.ofNat o))) ∧ (bpat h_ 338 9 = some (.int (Int32.ofNat c_.length)) ∧ bpat h_ 338 10 = some (.int (Int32.ofNat u_)))) ∧ (rwq h_ 339 6 684 1 T ∧ ∀ j_ x_, c_[j_]? = some x_ → bpat h_ 345 (2 * j_) = some (.int (yof u_ x_).1) ∧ bpat h_ 345 (2 * j_ + 1) = some (.int (yof u_ x_).2)))
def frQ (h_ h' : xH) : Prop := ysm h_ h' ∧ ∀ c_ j_, ¬ (c_ = 338 ∧ (7 ≤ j_ ∧ j_ ≤ 9)) → ¬ c_ = 345 → bpat h' c_ j_ = bpat h_ c_ j_
theorem frQ_tr {x_ y_ z_ : xH} (h1 : frQ x_ y_) (h2 : frQ y_ z_) : frQ x_ z_ := ⟨ysm_tr h1.1 h2.1, fun c_ j_ a_ b_ => (h2.2 c_ j_ a_ b_).trans (h1.2 c_ j_ a_ b_)⟩
theorem frQ_all {h_ h' : xH} (m_ : ysm h_ h') (f_ : ∀ c_ j_, bpat h' c_ j_ = bpat h_ c_ j_) : frQ h_ h' := ⟨m_, fun c_ j_ _ _ => f_ c_ j_⟩
section
variable {u_ : Nat} {T : List Int32} {h_ h' : xH} {a_ o : Nat} {c_ : List Int32}
theorem RM_o {a' o' : Nat} {c' : List Int32} (R_ : RM u_ T h_ a_ o c_) (m_ : ysm h_ h') (e7_ : bpat h' 338 7 = some (.int (Int32.ofNat a'))) (e8 : bpat h' 338 8 = some (.int (Int32.ofNat o'))) (f_ : ∀ c_ j_, ¬ (c_ = 338 ∧ (j_ = 7 ∨ j_ = 8)) → bpat h' c_ j_ = bpat h_ c_ j_) : RM u_ T h' a' o' c_ ∧ frQ h_ h' := ⟨⟨m_.1, ⟨⟨e7_, e8⟩, (f_ _ _ (by omega)).trans R_.2.1.2.1, (f_ _ _ (by omega)).trans R_.2.1.2.2⟩, ⟨(f_ _ _ (by omega)).trans R_.2.2.1.1, fun j_ x_ hx => (f_ _ _ (by omega)).trans (R_.2.2.1.2 j_ x_ hx)⟩, fun j_ x_ hx => ⟨(f_ _ _ (by omega)).trans (R_.2.2.2 j_ x_ hx).1, (f_ _ _ (by omega)).trans (R_.2.2.2 j_ x_ hx).2⟩⟩, m_, fun c_ j_ n1_ _ => f_ c_ j_ (by omega)⟩
theorem RM_all (R_ : RM u_ T h_ a_ o c_) (m_ : ysm h_ h') (f_ : ∀ c_ j_, bpat h' c_ j_ = bpat h_ c_ j_) : RM u_ T h' a_ o c_ := (RM_o (c' := c_) R_ m_ ((f_ _ _).trans R_.2.1.1.1) ((f_ _ _).trans R_.2.1.1.2) (fun c_ j_ _ => f_ c_ j_)).1
theorem RM_at {a' : Nat} (R_ : RM u_ T h_ a_ o c_) (m_ : ysm h_ h') (e7_ : bpat h' 338 7 = some (.int (Int32.ofNat a'))) (f_ : ∀ c_ j_, ¬ (c_ = 338 ∧ j_ = 7) → bpat h' c_ j_ = bpat h_ c_ j_) : RM u_ T h' a' o c_ ∧ frQ h_ h' := RM_o (c' := c_) R_ m_ e7_ ((f_ _ _ (by omega)).trans R_.2.1.1.2) (fun c_ j_ n_ => f_ c_ j_ (by omega))
theorem RM_op {o' : Nat} (R_ : RM u_ T h_ a_ o c_) (m_ : ysm h_ h') (e8 : bpat h' 338 8 = some (.int (Int32.ofNat o'))) (f_ : ∀ c_ j_, ¬ (c_ = 338 ∧ j_ = 8) → bpat h' c_ j_ = bpat h_ c_ j_) : RM u_ T h' a_ o' c_ ∧ frQ h_ h' := RM_o (c' := c_) R_ m_ ((f_ _ _ (by omega)).trans R_.2.1.1.1) e8 (fun c_ j_ n_ => f_ c_ j_ (by omega))
theorem R338 (R_ : RM u_ T h_ a_ o c_) : bcq h_ 338 12 26 := bcq_of (n_ := 338) (z_ := (12, 26)) R_.1 rfl
end
theorem yof_n {u_ : Nat} {x_ : Int32} (h_ : x_.toInt < 10000) : yof u_ x_ = (0, x_) := if_pos h_
theorem yof_m {u_ j_ : Nat} (h_ : j_ < 4) : yof u_ (Int32.ofNat (10000 + j_)) = (1, Int32.ofNat (nmc u_ j_)) := by
  unfold yof
  have e_ : (Int32.ofNat (10000 + j_)).toInt = ((10000 + j_ : Nat) : Int) := i32n (by omega)
  rw [if_neg (by omega), if_pos (by omega), e_, show ((10000 + j_ : Nat) : Int).toNat - 10000 = j_ by omega]
theorem yof_d {u_ : Nat} : yof u_ 20033 = (2, 0) := by
  unfold yof
  rw [if_neg (by decide), if_neg (by decide), if_pos rfl]
theorem yof_j {u_ c_ : Nat} (hc_ : c_ ∈ jsg) : yof u_ (Int32.ofNat (20000 + c_)) = (3, Int32.ofNat c_) := by
  have k_ : jsg.all (fun c_ => ((!(decide ((Int32.ofNat (20000 + c_)).toInt < 10000)) && !(decide ((Int32.ofNat (20000 + c_)).toInt < 10004))) && !(decide (Int32.ofNat (20000 + c_) = 20033))) && decide (Int32.ofNat (20000 + c_) - 20000 = Int32.ofNat c_)) = true := by decide +kernel
  have k1_ := List.all_eq_true.mp k_ c_ hc_
  simp only [Bool.and_eq_true, Bool.not_eq_true', decide_eq_false_iff_not, decide_eq_true_eq] at k1_
  unfold yof
  rw [if_neg k1_.1.1.1, if_neg k1_.1.1.2, if_neg k1_.1.2, k1_.2]
theorem yof_x {u_ l : Nat} {x_ : Int32} (hl : l ≤ 4) (h_ : lvF x_ = Int32.ofNat l) : yof u_ (20000 + x_) = (3, x_) := by
  obtain ⟨c_, hc_, rfl⟩ := lv_j hl h_
  rw [i20_j]
  exact yof_j hc_
theorem lvi0 {x_ : Int32} : lvF x_ = Int32.ofNat 0 ↔ x_ = 124 := by
  rcases lv_cs x_ with ⟨e_, l⟩ | ⟨e_, l⟩ | ⟨e_, l⟩ | ⟨e_, l⟩ | ⟨e_, l⟩ | ⟨l, h0, h1, h2, h3, h4⟩
  · rw [l]; exact ⟨fun _ => e_, fun _ => rfl⟩
  · refine ⟨fun q_ => absurd (l.symm.trans q_) (by decide), ?_⟩; exact fun q_ => absurd l (by rw [q_]; decide)
  · refine ⟨fun q_ => absurd (l.symm.trans q_) (by decide), ?_⟩; exact fun q_ => absurd l (by rw [q_]; decide)
  · refine ⟨fun q_ => absurd (l.symm.trans q_) (by decide), ?_⟩; exact fun q_ => absurd l (by rw [q_]; decide)
  · refine ⟨fun q_ => absurd (l.symm.trans q_) (by decide), ?_⟩; exact fun q_ => absurd l (by rw [q_]; decide)
  · rw [l]; exact ⟨fun q_ => absurd q_ (by decide), fun q_ => absurd q_ h0⟩
theorem lvi1 {x_ : Int32} : lvF x_ = Int32.ofNat 1 ↔ x_ = 38 := by
  rcases lv_cs x_ with ⟨e_, l⟩ | ⟨e_, l⟩ | ⟨e_, l⟩ | ⟨e_, l⟩ | ⟨e_, l⟩ | ⟨l, h0, h1, h2, h3, h4⟩
  · refine ⟨fun q_ => absurd (l.symm.trans q_) (by decide), ?_⟩; exact fun q_ => absurd l (by rw [q_]; decide)
  · rw [l]; exact ⟨fun _ => e_, fun _ => rfl⟩
  · refine ⟨fun q_ => absurd (l.symm.trans q_) (by decide), ?_⟩; exact fun q_ => absurd l (by rw [q_]; decide)
  · refine ⟨fun q_ => absurd (l.symm.trans q_) (by decide), ?_⟩; exact fun q_ => absurd l (by rw [q_]; decide)
  · refine ⟨fun q_ => absurd (l.symm.trans q_) (by decide), ?_⟩; exact fun q_ => absurd l (by rw [q_]; decide)
  · rw [l]; exact ⟨fun q_ => absurd q_ (by decide), fun q_ => absurd q_ h1⟩
theorem lvi2 {x_ : Int32} : lvF x_ = Int32.ofNat 2 ↔ (x_ = 60 ∨ (x_ = 61 ∨ x_ = 62)) := by
  rcases lv_cs x_ with ⟨e_, l⟩ | ⟨e_, l⟩ | ⟨e_, l⟩ | ⟨e_, l⟩ | ⟨e_, l⟩ | ⟨l, h0, h1, h2, h3, h4⟩
  · refine ⟨fun q_ => absurd (l.symm.trans q_) (by decide), ?_⟩; exact fun q_ => by rcases q_ with q_ | q_ | q_ <;> exact absurd l (by rw [q_]; decide)
  · refine ⟨fun q_ => absurd (l.symm.trans q_) (by decide), ?_⟩; exact fun q_ => by rcases q_ with q_ | q_ | q_ <;> exact absurd l (by rw [q_]; decide)
  · rw [l]; exact ⟨fun _ => e_, fun _ => rfl⟩
  · refine ⟨fun q_ => absurd (l.symm.trans q_) (by decide), ?_⟩; exact fun q_ => by rcases q_ with q_ | q_ | q_ <;> exact absurd l (by rw [q_]; decide)
  · refine ⟨fun q_ => absurd (l.symm.trans q_) (by decide), ?_⟩; exact fun q_ => by rcases q_ with q_ | q_ | q_ <;> exact absurd l (by rw [q_]; decide)
  · rw [l]; exact ⟨fun q_ => absurd q_ (by decide), fun q_ => absurd q_ h2⟩
theorem lvi3 {x_ : Int32} : lvF x_ = Int32.ofNat 3 ↔ (x_ = 43 ∨ x_ = 45) := by
  rcases lv_cs x_ with ⟨e_, l⟩ | ⟨e_, l⟩ | ⟨e_, l⟩ | ⟨e_, l⟩ | ⟨e_, l⟩ | ⟨l, h0, h1, h2, h3, h4⟩
  · refine ⟨fun q_ => absurd (l.symm.trans q_) (by decide), ?_⟩; exact fun q_ => by rcases q_ with q_ | q_ <;> exact absurd l (by rw [q_]; decide)
  · refine ⟨fun q_ => absurd (l.symm.trans q_) (by decide), ?_⟩; exact fun q_ => by rcases q_ with q_ | q_ <;> exact absurd l (by rw [q_]; decide)
  · refine ⟨fun q_ => absurd (l.symm.trans q_) (by decide), ?_⟩; exact fun q_ => by rcases q_ with q_ | q_ <;> exact absurd l (by rw [q_]; decide)
  · rw [l]; exact ⟨fun _ => e_, fun _ => rfl⟩
  · refine ⟨fun q_ => absurd (l.symm.trans q_) (by decide), ?_⟩; exact fun q_ => by rcases q_ with q_ | q_ <;> exact absurd l (by rw [q_]; decide)
  · rw [l]; exact ⟨fun q_ => absurd q_ (by decide), fun q_ => absurd q_ h3⟩
theorem lvi4 {x_ : Int32} : lvF x_ = Int32.ofNat 4 ↔ (x_ = 42 ∨ (x_ = 47 ∨ x_ = 37)) := by
  rcases lv_cs x_ with ⟨e_, l⟩ | ⟨e_, l⟩ | ⟨e_, l⟩ | ⟨e_, l⟩ | ⟨e_, l⟩ | ⟨l, h0, h1, h2, h3, h4⟩
  · refine ⟨fun q_ => absurd (l.symm.trans q_) (by decide), ?_⟩; exact fun q_ => by rcases q_ with q_ | q_ | q_ <;> exact absurd l (by rw [q_]; decide)
  · refine ⟨fun q_ => absurd (l.symm.trans q_) (by decide), ?_⟩; exact fun q_ => by rcases q_ with q_ | q_ | q_ <;> exact absurd l (by rw [q_]; decide)
  · refine ⟨fun q_ => absurd (l.symm.trans q_) (by decide), ?_⟩; exact fun q_ => by rcases q_ with q_ | q_ | q_ <;> exact absurd l (by rw [q_]; decide)
  · refine ⟨fun q_ => absurd (l.symm.trans q_) (by decide), ?_⟩; exact fun q_ => by rcases q_ with q_ | q_ | q_ <;> exact absurd l (by rw [q_]; decide)
  · rw [l]; exact ⟨fun _ => e_, fun _ => rfl⟩
  · rw [l]; exact ⟨fun q_ => absurd q_ (by decide), fun q_ => absurd q_ h4⟩
section
variable {u_ : Nat} {T : List Int32} {h_ : xH} {a_ o : Nat} {c_ : List Int32}
theorem lkX (hT_ : byts T) (R_ : RM u_ T h_ a_ o c_) (ha_ : a_ ≤ T.length) : ∃ h', (RM u_ T h' a_ o c_ ∧ frQ h_ h') ∧ ∀ D_, 60 ≤ D_ → xrun D_ 173 0 [(0, .index 338)] [] h_ (some (.int (nxt T a_)), h', []) := by
  have l60 : T.length ≤ 60 := hT_.1
  have ia := i32n (i_ := a_) (by omega)
  have il := i32n (i_ := T.length) (by omega)
  by_cases g_ : a_ < T.length
  · have e7_ : ((684 : Int32) + Int32.ofNat a_).toInt = ((684 + a_ : Nat) : Int) := by
      have e8 : (684 : Int32) + Int32.ofNat a_ = Int32.ofNat (684 + a_) := i32p 684 a_
      rw [e8]
      exact i32n (by omega)
    have ex_ := R_.2.2.1.2 a_ _ (nxt_in g_)
    rw [Nat.one_mul] at ex_
    obtain ⟨h1, m_, f_, r_⟩ := mlkI (v307 := Int32.ofNat a_) (v306 := Int32.ofNat T.length) (v302 := nxt T a_) R_.1 R_.2.1.1.1 R_.2.2.1.1 (by rw [e7_]; exact ex_) ⟨by omega, by omega⟩ (by omega)
    exact ⟨h1, ⟨RM_all R_ m_ f_, frQ_all m_ f_⟩, r_⟩
  · obtain ⟨h1, m_, f_, r_⟩ := mlkO (v307 := Int32.ofNat a_) (v306 := Int32.ofNat T.length) R_.1 R_.2.1.1.1 R_.2.2.1.1 (by omega)
    rw [nxt_out g_, ← i32_m1]
    exact ⟨h1, ⟨RM_all R_ m_ f_, frQ_all m_ f_⟩, r_⟩
theorem c_lk {mi pc idx ln p0_ a1_ b1 d1_ : Nat} {lo_ : xL} {s' : List Jvm.Term} (hT_ : byts T) (hcd : xcd mi pc = some (.invokevirtual idx, ln, [p0_, 173, a1_, b1, d1_])) (hcc : xcc h_.length lo_ s' = true) (R_ : RM u_ T h_ a_ o c_) (ha_ : a_ ≤ T.length) : ∃ h', (RM u_ T h' a_ o c_ ∧ frQ h_ h') ∧ bldD 61 mi pc lo_ (.index 338 :: s') h_ (pc + 3) lo_ (.int (nxt T a_) :: s') h' := by
  obtain ⟨h', K_, r_⟩ := lkX hT_ R_ ha_
  exact ⟨h', K_, ycv (as_ := []) hcd rfl (R338 R_) rfl hcc r_⟩
theorem lyX {w_ v_ y_ : Int32} (hy : yof u_ y_ = (w_, v_)) (hc_ : c_.length < 60) (R_ : RM u_ T h_ a_ o c_) : ∃ h', (RM u_ T h' a_ o (c_ ++ [y_]) ∧ frQ h_ h') ∧ ∀ D_, 60 ≤ D_ → xrun D_ 175 0 [(0, .index 338), (1, .int w_), (2, .int v_)] [] h_ (none, h', []) := by
  have e1_ : (2 : Int32) * Int32.ofNat c_.length = Int32.ofNat (2 * c_.length) := (Int32.ofNat_mul 2 c_.length).symm
  have e2_ : (2 : Int32) * Int32.ofNat c_.length + 1 = Int32.ofNat (2 * c_.length + 1) := by rw [e1_, i32s]
  have t1_ : ((2 : Int32) * Int32.ofNat c_.length).toInt = ((2 * c_.length : Nat) : Int) := by rw [e1_]; exact i32n (by omega)
  have t2_ : ((2 : Int32) * Int32.ofNat c_.length + 1).toInt = ((2 * c_.length + 1 : Nat) : Int) := by rw [e2_]; exact i32n (by omega)
  have n1_ : ((2 : Int32) * Int32.ofNat c_.length).toInt.toNat = 2 * c_.length := by rw [t1_]; rfl
  have n2_ : ((2 : Int32) * Int32.ofNat c_.length + 1).toInt.toNat = 2 * c_.length + 1 := by rw [t2_]; rfl
  obtain ⟨h1, m_, e9_, ev_, ew, f_, r_⟩ := mly (v1_ := w_) (v2 := v_) (v309 := Int32.ofNat c_.length) R_.1 R_.2.1.2.1 ⟨by omega, by omega⟩ ⟨by omega, by omega⟩ (by omega)
  rw [i32s] at e9_
  rw [n1_] at ew
  rw [n2_] at ev_
  rw [n1_, n2_] at f_
  have f' : ∀ a_ j_ : Nat, ¬ (a_ = 338 ∧ j_ = 9) → ¬ (a_ = 345 ∧ (j_ = 2 * c_.length ∨ j_ = 2 * c_.length + 1)) → bpat h1 a_ j_ = bpat h_ a_ j_ := fun a_ j_ q1_ q2_ => f_ a_ j_ (by omega) (by omega) (by omega)
  refine ⟨h1, ⟨⟨m_.1, ⟨⟨(f' _ _ (by omega) (by omega)).trans R_.2.1.1.1, (f' _ _ (by omega) (by omega)).trans R_.2.1.1.2⟩, by rw [len_sn]; exact e9_, (f' _ _ (by omega) (by omega)).trans R_.2.1.2.2⟩, ⟨(f' _ _ (by omega) (by omega)).trans R_.2.2.1.1, fun j_ x_ hx => (f' _ _ (by omega) (by omega)).trans (R_.2.2.1.2 j_ x_ hx)⟩, fun j_ x_ hx => ?_⟩, m_, fun c2_ j_ q1_ q2_ => f' c2_ j_ (by omega) (by omega)⟩, r_⟩
  by_cases g_ : j_ < c_.length
  · rw [List.getElem?_append_left g_] at hx
    exact ⟨(f' _ _ (by omega) (by omega)).trans (R_.2.2.2 j_ x_ hx).1, (f' _ _ (by omega) (by omega)).trans (R_.2.2.2 j_ x_ hx).2⟩
  · have hj := (List.getElem?_eq_some_iff.mp hx).1
    rw [len_sn] at hj
    have ej : j_ = c_.length := by omega
    subst ej
    rw [List.getElem?_append_right (Nat.le_refl _), Nat.sub_self] at hx
    cases hx
    rw [hy]
    exact ⟨ew, ev_⟩
theorem c_ly {w_ v_ y_ : Int32} {mi pc idx ln p0_ a1_ b1 d1_ : Nat} {lo_ : xL} (hy : yof u_ y_ = (w_, v_)) (hcl : c_.length < 60) (hcd : xcd mi pc = some (.invokevirtual idx, ln, [p0_, 175, a1_, b1, d1_])) (hcc : xcc h_.length lo_ [] = true) (R_ : RM u_ T h_ a_ o c_) : ∃ h', (RM u_ T h' a_ o (c_ ++ [y_]) ∧ frQ h_ h') ∧ bldD 61 mi pc lo_ [.int v_, .int w_, .index 338] h_ (pc + 3) lo_ [] h' := by
  obtain ⟨h', K_, r_⟩ := lyX hy hcl R_
  exact ⟨h', K_, ycv (as_ := [.int w_, .int v_]) hcd rfl (R338 R_) rfl hcc r_⟩
theorem nmX (hu : u_ < 2) (R_ : RM u_ T h_ a_ o c_) (x_ : Int32) : ∃ h', (RM u_ T h' a_ o c_ ∧ frQ h_ h') ∧ ∀ D_, 60 ≤ D_ → xrun D_ 174 0 [(0, .index 338), (1, .int x_)] [] h_ (some (.int (if nmi u_ x_ < 4 then 1 else 0)), h', []) := by
  have u2_ : u_ = 0 ∨ u_ = 1 := by omega
  have U_ := R_.2.1.2.2
  rcases u2_ with rfl | rfl
  · have U_ : bpat h_ 338 10 = some (.int 0) := U_
    by_cases g0 : x_ = 115
    · have en : nmi 0 x_ < 4 := by rw [g0]; decide
      rw [if_pos en]
      obtain ⟨h1, m_, f_, r_⟩ := mnm00 (v1_ := x_) (v310 := 0) R_.1 U_ g0  rfl
      exact ⟨h1, ⟨RM_all R_ m_ f_, frQ_all m_ f_⟩, r_⟩
    by_cases g1 : x_ = 105
    · have en : nmi 0 x_ < 4 := by rw [g1]; decide
      rw [if_pos en]
      obtain ⟨h1, m_, f_, r_⟩ := mnm01 (v1_ := x_) (v310 := 0) R_.1 U_ g1 g0 rfl
      exact ⟨h1, ⟨RM_all R_ m_ f_, frQ_all m_ f_⟩, r_⟩
    by_cases g2 : x_ = 110
    · have en : nmi 0 x_ < 4 := by rw [g2]; decide
      rw [if_pos en]
      obtain ⟨h1, m_, f_, r_⟩ := mnm02 (v1_ := x_) (v310 := 0) R_.1 U_ g2 g0 g1 rfl
      exact ⟨h1, ⟨RM_all R_ m_ f_, frQ_all m_ f_⟩, r_⟩
    by_cases g3_ : x_ = 109
    · have en : nmi 0 x_ < 4 := by rw [g3_]; decide
      rw [if_pos en]
      obtain ⟨h1, m_, f_, r_⟩ := mnm03 (v1_ := x_) (v310 := 0) R_.1 U_ g3_ g0 g1 g2 rfl
      exact ⟨h1, ⟨RM_all R_ m_ f_, frQ_all m_ f_⟩, r_⟩
    have en : ¬ nmi 0 x_ < 4 := fun q_ => by
      have e_ := nmi_x q_
      have k4_ : nmi 0 x_ = 0 ∨ (nmi 0 x_ = 1 ∨ (nmi 0 x_ = 2 ∨ nmi 0 x_ = 3)) := by omega
      rcases k4_ with k_ | k_ | k_ | k_ <;> rw [k_] at e_
      · exact g0 e_
      · exact g1 e_
      · exact g2 e_
      · exact g3_ e_
    rw [if_neg en]
    obtain ⟨h1, m_, f_, r_⟩ := mnm04 (v1_ := x_) (v310 := 0) R_.1 U_ g0 g1 g2 g3_ rfl
    exact ⟨h1, ⟨RM_all R_ m_ f_, frQ_all m_ f_⟩, r_⟩
  · have U_ : bpat h_ 338 10 = some (.int 1) := U_
    by_cases g0 : x_ = 111
    · have en : nmi 1 x_ < 4 := by rw [g0]; decide
      rw [if_pos en]
      obtain ⟨h1, m_, f_, r_⟩ := mnm10 (v1_ := x_) (v310 := 1) R_.1 U_ g0  (by decide)
      exact ⟨h1, ⟨RM_all R_ m_ f_, frQ_all m_ f_⟩, r_⟩
    by_cases g1 : x_ = 104
    · have en : nmi 1 x_ < 4 := by rw [g1]; decide
      rw [if_pos en]
      obtain ⟨h1, m_, f_, r_⟩ := mnm11 (v1_ := x_) (v310 := 1) R_.1 U_ g1 g0 (by decide)
      exact ⟨h1, ⟨RM_all R_ m_ f_, frQ_all m_ f_⟩, r_⟩
    by_cases g2 : x_ = 98
    · have en : nmi 1 x_ < 4 := by rw [g2]; decide
      rw [if_pos en]
      obtain ⟨h1, m_, f_, r_⟩ := mnm12 (v1_ := x_) (v310 := 1) R_.1 U_ g2 g0 g1 (by decide)
      exact ⟨h1, ⟨RM_all R_ m_ f_, frQ_all m_ f_⟩, r_⟩
    by_cases g3_ : x_ = 116
    · have en : nmi 1 x_ < 4 := by rw [g3_]; decide
      rw [if_pos en]
      obtain ⟨h1, m_, f_, r_⟩ := mnm13 (v1_ := x_) (v310 := 1) R_.1 U_ g3_ g0 g1 g2 (by decide)
      exact ⟨h1, ⟨RM_all R_ m_ f_, frQ_all m_ f_⟩, r_⟩
    have en : ¬ nmi 1 x_ < 4 := fun q_ => by
      have e_ := nmi_x q_
      have k4_ : nmi 1 x_ = 0 ∨ (nmi 1 x_ = 1 ∨ (nmi 1 x_ = 2 ∨ nmi 1 x_ = 3)) := by omega
      rcases k4_ with k_ | k_ | k_ | k_ <;> rw [k_] at e_
      · exact g0 e_
      · exact g1 e_
      · exact g2 e_
      · exact g3_ e_
    rw [if_neg en]
    obtain ⟨h1, m_, f_, r_⟩ := mnm14 (v1_ := x_) (v310 := 1) R_.1 U_ g0 g1 g2 g3_ (by decide)
    exact ⟨h1, ⟨RM_all R_ m_ f_, frQ_all m_ f_⟩, r_⟩
/-- a number -/
theorem nm_lp (hT_ : byts T) {z_ : Int32} : ∀ (n_ a_ i_ : Nat) (v_ : Int32) (h_ : xH), i_ + n_ = 4 → a_ ≤ T.length → RM u_ T h_ a_ o c_ → ∃ h' i', (RM u_ T h' (rdn T n_ a_ v_).1 o c_ ∧ frQ h_ h') ∧ bldD 66 182 46 [(3, .int (Int32.ofNat i_)), (2, .int v_), (1, .int z_), (0, .index 338)] [] h_ 97 [(3, .int i'), (2, .int (rdn T n_ a_ v_).2), (1, .int z_), (0, .index 338)] [.int (rdn T n_ a_ v_).2, .int 0, .index 338] h' := by
  intro n_
  have z4 := i4_
  induction n_ with
  | zero =>
    intro a_ i_ v_ h_ hi_ ha_ R_
    obtain ⟨h1, m_, f_, ld⟩ := mnx (v1_ := z_) (v2 := v_) (v3 := Int32.ofNat i_) R_.1 (by rw [i32n (by omega)]; omega)
    exact ⟨h1, Int32.ofNat i_, ⟨RM_all R_ m_ f_, frQ_all m_ f_⟩, fun D_ hD => ld D_ (by omega)⟩
  | succ n_ ih_ =>
    intro a_ i_ v_ h_ hi_ ha_ R_
    obtain ⟨h1, m1_, f1_, ld1⟩ := mnl (v1_ := z_) (v2 := v_) (v3 := Int32.ofNat i_) R_.1 (by rw [i32n (by omega)]; omega)
    have R1 := RM_all R_ m1_ f1_
    obtain ⟨h2, ⟨R2, F2⟩, ld2⟩ := c_lk (mi := 182) (pc := 52) (lo_ := [(3, .int (Int32.ofNat i_)), (2, .int v_), (1, .int z_), (0, .index 338)]) (s' := []) hT_ rfl (xcc_l (List.forall_mem_cons.mpr ⟨rfl, List.forall_mem_cons.mpr ⟨rfl, List.forall_mem_cons.mpr ⟨rfl, List.forall_mem_cons.mpr ⟨xidx_i (bcq_lt (bcq_of (n_ := 338) (z_ := (12, 26)) R1.1 rfl)), fun q_ hq => absurd hq List.not_mem_nil⟩⟩⟩⟩) (fun t_ ht => absurd ht List.not_mem_nil) (Nat.le_of_ble_eq_true rfl)) R1 ha_
    show ∃ h' i', (RM u_ T h' (if 48 ≤ (nxt T a_).toInt ∧ (nxt T a_).toInt ≤ 57 then rdn T n_ (a_ + 1) (v_ * 10 + nxt T a_ - 48) else (a_, v_)).1 o c_ ∧ frQ h_ h') ∧ bldD 66 182 46 [(3, .int (Int32.ofNat i_)), (2, .int v_), (1, .int z_), (0, .index 338)] [] h_ 97 [(3, .int i'), (2, .int (if 48 ≤ (nxt T a_).toInt ∧ (nxt T a_).toInt ≤ 57 then rdn T n_ (a_ + 1) (v_ * 10 + nxt T a_ - 48) else (a_, v_)).2), (1, .int z_), (0, .index 338)] [.int (if 48 ≤ (nxt T a_).toInt ∧ (nxt T a_).toInt ≤ 57 then rdn T n_ (a_ + 1) (v_ * 10 + nxt T a_ - 48) else (a_, v_)).2, .int 0, .index 338] h'
    have z48_ : (48 : Int32).toInt = 48 := rfl
    have z57 : (57 : Int32).toInt = 57 := rfl
    by_cases g_ : 48 ≤ (nxt T a_).toInt ∧ (nxt T a_).toInt ≤ 57
    · rw [if_pos g_]
      have lt_ : a_ < T.length := nxt_lt (fun q_ => by rw [q_] at g_; exact absurd g_.1 (by decide))
      obtain ⟨h3, m3_, f3_, ld3⟩ := mnd (v1_ := z_) (v2 := v_) (v3 := Int32.ofNat i_) (v5 := nxt T a_) R2.1 (by omega) (by omega)
      have R3 := RM_all R2 m3_ f3_
      obtain ⟨h4, ⟨R4, F4⟩, ld4⟩ := c_lk (mi := 182) (pc := 70) (lo_ := [(3, .int (Int32.ofNat i_)), (2, .int v_), (1, .int z_), (0, .index 338)]) (s' := [.int (10 * v_)]) hT_ rfl (xcc_l (List.forall_mem_cons.mpr ⟨rfl, List.forall_mem_cons.mpr ⟨rfl, List.forall_mem_cons.mpr ⟨rfl, List.forall_mem_cons.mpr ⟨xidx_i (bcq_lt (bcq_of (n_ := 338) (z_ := (12, 26)) R3.1 rfl)), fun q_ hq => absurd hq List.not_mem_nil⟩⟩⟩⟩) (List.forall_mem_cons.mpr ⟨⟨rfl, rfl⟩, fun t_ ht => absurd ht List.not_mem_nil⟩) (Nat.le_of_ble_eq_true rfl)) R3 ha_
      obtain ⟨h5, m5_, e5_, f5_, ld5⟩ := mnt (v1_ := z_) (v3 := Int32.ofNat i_) (v5 := nxt T a_) (v6 := 10 * v_) (v307 := Int32.ofNat a_) R4.1 R4.2.1.1.1
      rw [i32s] at e5_ ld5
      rw [Int32.mul_comm 10 v_] at ld5 ld4 ld3
      obtain ⟨R5, F5⟩ := RM_at R4 m5_ e5_ f5_
      obtain ⟨h6, i6_, ⟨R6, F6⟩, ld6⟩ := ih_ (a_ + 1) (i_ + 1) (v_ * 10 + nxt T a_ - 48) h5 (by omega) (by omega) R5
      exact ⟨h6, i6_, ⟨R6, frQ_tr (frQ_all m1_ f1_) (frQ_tr F2 (frQ_tr (frQ_all m3_ f3_) (frQ_tr F4 (frQ_tr F5 F6))))⟩, fun D_ hD oo z_ => ld1 D_ (by omega) _ (ld2 D_ (by omega) _ (ld3 D_ (by omega) _ (ld4 D_ (by omega) _ (ld5 D_ (by omega) _ (ld6 D_ (by omega) oo z_)))))⟩
    · rw [if_neg g_]
      by_cases g2 : (nxt T a_).toInt < 48
      · obtain ⟨h3, m3_, f3_, ld3⟩ := mne1 (v1_ := z_) (v2 := v_) (v3 := Int32.ofNat i_) (v5 := nxt T a_) R2.1 (by omega)
        exact ⟨h3, Int32.ofNat i_, ⟨RM_all R2 m3_ f3_, frQ_tr (frQ_all m1_ f1_) (frQ_tr F2 (frQ_all m3_ f3_))⟩, fun D_ hD oo z_ => ld1 D_ (by omega) _ (ld2 D_ (by omega) _ (ld3 D_ (by omega) oo z_))⟩
      · obtain ⟨h3, m3_, f3_, ld3⟩ := mne2 (v1_ := z_) (v2 := v_) (v3 := Int32.ofNat i_) (v5 := nxt T a_) R2.1 (by omega) (by omega)
        exact ⟨h3, Int32.ofNat i_, ⟨RM_all R2 m3_ f3_, frQ_tr (frQ_all m1_ f1_) (frQ_tr F2 (frQ_all m3_ f3_))⟩, fun D_ hD oo z_ => ld1 D_ (by omega) _ (ld2 D_ (by omega) _ (ld3 D_ (by omega) oo z_))⟩
end
-- ===== by the fuel
def mR (k_ : Nat) : Nat := match k_ with
  | 0 => 176
  | 1 => 177
  | 2 => 178
  | 3 => 179
  | 4 => 180
  | _ => 182
def LMs (u_ : Nat) (T : List Int32) (f_ : Nat) : Prop := ∀ (k_ o a_ : Nat) (c_ : List Int32) (b_ : Bool) (a' : Nat) (c' : List Int32) (h_ : xH), k_ ≤ 5 → o ≤ 5 → a_ ≤ T.length → c_.length ≤ a_ → RM u_ T h_ a_ o c_ → prs T u_ f_ k_ o a_ c_ = some (b_, (a', c')) → ∃ h' c2_ o2, ((RM u_ T h' a' o2 c2_ ∧ frQ h_ h') ∧ (b_ = true → c2_ = c' ∧ o2 = o)) ∧ ∀ D_, 76 + 10 * (5 - o) - k_ ≤ D_ → xrun D_ (mR k_) 0 [(0, .index 338)] [] h_ (some (.int (bI b_)), h', [])
def hdM (k_ : Nat) (lo_ : xL) : Prop := lo_ = [(0, .index 338)] ∨ (3 ≤ k_ ∧ ∃ y_ : Int32, lo_ = [(1, .int y_), (0, .index 338)])
def JMs (u_ : Nat) (T : List Int32) (f_ : Nat) : Prop := ∀ (k_ o a_ : Nat) (c_ : List Int32) (b_ : Bool) (a' : Nat) (c' : List Int32) (h_ : xH) (lo_ : xL), k_ ≤ 4 → o ≤ 5 → a_ ≤ T.length → c_.length ≤ a_ → hdM k_ lo_ → RM u_ T h_ a_ o c_ → prs T u_ f_ (10 + k_) o a_ c_ = some (b_, (a', c')) → ∃ h' c2_ o2, ((RM u_ T h' a' o2 c2_ ∧ frQ h_ h') ∧ (b_ = true → c2_ = c' ∧ o2 = o)) ∧ ∀ D_, 76 + 10 * (5 - o) - k_ ≤ D_ → xrun D_ (mR k_) 9 lo_ [] h_ (some (.int (bI b_)), h', [])
section
variable {u_ : Nat} {T : List Int32}
theorem LM_s {f_ : Nat} (L_ : LMs u_ T f_) (J_ : JMs u_ T f_) (Q_ : ∀ (o a_ : Nat) (c_ : List Int32) (b_ : Bool) (a' : Nat) (c' : List Int32) (h_ : xH), o ≤ 5 → a_ ≤ T.length → c_.length ≤ a_ → RM u_ T h_ a_ o c_ → prs T u_ (f_ + 1) 5 o a_ c_ = some (b_, (a', c')) → ∃ h' c2_ o2, ((RM u_ T h' a' o2 c2_ ∧ frQ h_ h') ∧ (b_ = true → c2_ = c' ∧ o2 = o)) ∧ ∀ D_, 71 + 10 * (5 - o) ≤ D_ → xrun D_ 182 0 [(0, .index 338)] [] h_ (some (.int (bI b_)), h', [])) : LMs u_ T (f_ + 1) := by
  intro k_ o a_ c_ b_ a' c' h_ hk ho ha_ hc_ R_ P_
  have k6_ : k_ = 0 ∨ (k_ = 1 ∨ (k_ = 2 ∨ (k_ = 3 ∨ (k_ = 4 ∨ k_ = 5)))) := by omega
  rcases k6_ with rfl | rfl | rfl | rfl | rfl | rfl
  · obtain ⟨h1, m1_, f1_, ld1⟩ := ml0a R_.1
    have R1 := RM_all R_ m1_ f1_
    rw [prs_l (by omega)] at P_
    have call_ : ∀ b1 a1_ c1_, prs T u_ f_ (0 + 1) o a_ c_ = some (b1, (a1_, c1_)) → ∃ h2 c2_ o2, ((RM u_ T h2 a1_ o2 c2_ ∧ frQ h_ h2) ∧ (b1 = true → c2_ = c1_ ∧ o2 = o)) ∧ bldD (76 + 10 * (5 - o) - 0) 176 0 [(0, .index 338)] [] h_ 4 [(0, .index 338)] [.int (bI b1)] h2 := by
      intro b1 a1_ c1_ e1_
      obtain ⟨h2, c2_, o2, ⟨⟨R2, F2⟩, ec2⟩, r2⟩ := L_ (0 + 1) o a_ c_ b1 a1_ c1_ h1 (by omega) ho ha_ hc_ R1 e1_
      have r2 : ∀ D_, 76 + 10 * (5 - o) - (0 + 1) ≤ D_ → xrun D_ 177 0 [(0, .index 338)] [] h1 (some (.int (bI b1)), h2, []) := r2
      have ld2 := ycv (d_ := 76 + 10 * (5 - o) - (0 + 1)) (mi := 176) (pc := 1) (cm := 177) (lo_ := [(0, .index 338)]) (st_ := [.index 338]) (as_ := []) (s' := []) rfl rfl (R338 R1) rfl (xcc_l (List.forall_mem_cons.mpr ⟨xidx_i (bcq_lt (bcq_of (n_ := 338) (z_ := (12, 26)) R1.1 rfl)), fun q_ hq => absurd hq List.not_mem_nil⟩) (fun t_ ht => absurd ht List.not_mem_nil) (Nat.le_of_ble_eq_true rfl)) r2
      exact ⟨h2, c2_, o2, ⟨⟨R2, frQ_tr (frQ_all m1_ f1_) F2⟩, ec2⟩, fun D_ hD oo z_ => ld1 D_ (by omega) _ (ld2 D_ (by omega) oo z_)⟩
    rcases thn_s P_ with ⟨⟨a1_, c1_⟩, e1_, e2_⟩ | ⟨e1_, rfl⟩
    · obtain ⟨⟨q1_, q2_⟩, q3_⟩ := prs_b T u_ f_ (0 + 1) o a_ c_ true a1_ c1_ (Or.inl (by omega)) ha_ e1_
      obtain ⟨q4_, q5_, -⟩ := q3_ rfl
      obtain ⟨h2, c2_, o2, ⟨⟨R2, F2⟩, ec2⟩, ld2⟩ := call_ true a1_ c1_ e1_
      obtain ⟨rfl, rfl⟩ := ec2 rfl
      obtain ⟨h3, m3_, f3_, ld3⟩ := ml0t (v5 := bI true) R2.1 (by decide)
      obtain ⟨h4, c4_, o4_, ⟨⟨R4, F4⟩, ec4⟩, r4⟩ := J_ 0 _ a1_ _ b_ a' c' h3 _ (by omega) ho q2_ (by omega) (Or.inl rfl) (RM_all R2 m3_ f3_) e2_
      exact ⟨h4, c4_, o4_, ⟨⟨R4, frQ_tr F2 (frQ_tr (frQ_all m3_ f3_) F4)⟩, ec4⟩, fun D_ hD => ld2 D_ (by omega) _ (ld3 D_ (by omega) _ (r4 D_ (by omega)))⟩
    · obtain ⟨h2, c2_, o2, ⟨⟨R2, F2⟩, -⟩, ld2⟩ := call_ false a' c' e1_
      obtain ⟨h3, m3_, f3_, r3⟩ := ml0f (v5 := bI false) R2.1 rfl
      exact ⟨h3, c2_, o2, ⟨⟨RM_all R2 m3_ f3_, frQ_tr F2 (frQ_all m3_ f3_)⟩, fun q_ => by cases q_⟩, fun D_ hD => ld2 D_ (by omega) _ (r3 D_ (by omega))⟩
  · obtain ⟨h1, m1_, f1_, ld1⟩ := ml1a R_.1
    have R1 := RM_all R_ m1_ f1_
    rw [prs_l (by omega)] at P_
    have call_ : ∀ b1 a1_ c1_, prs T u_ f_ (1 + 1) o a_ c_ = some (b1, (a1_, c1_)) → ∃ h2 c2_ o2, ((RM u_ T h2 a1_ o2 c2_ ∧ frQ h_ h2) ∧ (b1 = true → c2_ = c1_ ∧ o2 = o)) ∧ bldD (76 + 10 * (5 - o) - 1) 177 0 [(0, .index 338)] [] h_ 4 [(0, .index 338)] [.int (bI b1)] h2 := by
      intro b1 a1_ c1_ e1_
      obtain ⟨h2, c2_, o2, ⟨⟨R2, F2⟩, ec2⟩, r2⟩ := L_ (1 + 1) o a_ c_ b1 a1_ c1_ h1 (by omega) ho ha_ hc_ R1 e1_
      have r2 : ∀ D_, 76 + 10 * (5 - o) - (1 + 1) ≤ D_ → xrun D_ 178 0 [(0, .index 338)] [] h1 (some (.int (bI b1)), h2, []) := r2
      have ld2 := ycv (d_ := 76 + 10 * (5 - o) - (1 + 1)) (mi := 177) (pc := 1) (cm := 178) (lo_ := [(0, .index 338)]) (st_ := [.index 338]) (as_ := []) (s' := []) rfl rfl (R338 R1) rfl (xcc_l (List.forall_mem_cons.mpr ⟨xidx_i (bcq_lt (bcq_of (n_ := 338) (z_ := (12, 26)) R1.1 rfl)), fun q_ hq => absurd hq List.not_mem_nil⟩) (fun t_ ht => absurd ht List.not_mem_nil) (Nat.le_of_ble_eq_true rfl)) r2
      exact ⟨h2, c2_, o2, ⟨⟨R2, frQ_tr (frQ_all m1_ f1_) F2⟩, ec2⟩, fun D_ hD oo z_ => ld1 D_ (by omega) _ (ld2 D_ (by omega) oo z_)⟩
    rcases thn_s P_ with ⟨⟨a1_, c1_⟩, e1_, e2_⟩ | ⟨e1_, rfl⟩
    · obtain ⟨⟨q1_, q2_⟩, q3_⟩ := prs_b T u_ f_ (1 + 1) o a_ c_ true a1_ c1_ (Or.inl (by omega)) ha_ e1_
      obtain ⟨q4_, q5_, -⟩ := q3_ rfl
      obtain ⟨h2, c2_, o2, ⟨⟨R2, F2⟩, ec2⟩, ld2⟩ := call_ true a1_ c1_ e1_
      obtain ⟨rfl, rfl⟩ := ec2 rfl
      obtain ⟨h3, m3_, f3_, ld3⟩ := ml1t (v5 := bI true) R2.1 (by decide)
      obtain ⟨h4, c4_, o4_, ⟨⟨R4, F4⟩, ec4⟩, r4⟩ := J_ 1 _ a1_ _ b_ a' c' h3 _ (by omega) ho q2_ (by omega) (Or.inl rfl) (RM_all R2 m3_ f3_) e2_
      exact ⟨h4, c4_, o4_, ⟨⟨R4, frQ_tr F2 (frQ_tr (frQ_all m3_ f3_) F4)⟩, ec4⟩, fun D_ hD => ld2 D_ (by omega) _ (ld3 D_ (by omega) _ (r4 D_ (by omega)))⟩
    · obtain ⟨h2, c2_, o2, ⟨⟨R2, F2⟩, -⟩, ld2⟩ := call_ false a' c' e1_
      obtain ⟨h3, m3_, f3_, r3⟩ := ml1f (v5 := bI false) R2.1 rfl
      exact ⟨h3, c2_, o2, ⟨⟨RM_all R2 m3_ f3_, frQ_tr F2 (frQ_all m3_ f3_)⟩, fun q_ => by cases q_⟩, fun D_ hD => ld2 D_ (by omega) _ (r3 D_ (by omega))⟩
  · obtain ⟨h1, m1_, f1_, ld1⟩ := ml2a R_.1
    have R1 := RM_all R_ m1_ f1_
    rw [prs_l (by omega)] at P_
    have call_ : ∀ b1 a1_ c1_, prs T u_ f_ (2 + 1) o a_ c_ = some (b1, (a1_, c1_)) → ∃ h2 c2_ o2, ((RM u_ T h2 a1_ o2 c2_ ∧ frQ h_ h2) ∧ (b1 = true → c2_ = c1_ ∧ o2 = o)) ∧ bldD (76 + 10 * (5 - o) - 2) 178 0 [(0, .index 338)] [] h_ 4 [(0, .index 338)] [.int (bI b1)] h2 := by
      intro b1 a1_ c1_ e1_
      obtain ⟨h2, c2_, o2, ⟨⟨R2, F2⟩, ec2⟩, r2⟩ := L_ (2 + 1) o a_ c_ b1 a1_ c1_ h1 (by omega) ho ha_ hc_ R1 e1_
      have r2 : ∀ D_, 76 + 10 * (5 - o) - (2 + 1) ≤ D_ → xrun D_ 179 0 [(0, .index 338)] [] h1 (some (.int (bI b1)), h2, []) := r2
      have ld2 := ycv (d_ := 76 + 10 * (5 - o) - (2 + 1)) (mi := 178) (pc := 1) (cm := 179) (lo_ := [(0, .index 338)]) (st_ := [.index 338]) (as_ := []) (s' := []) rfl rfl (R338 R1) rfl (xcc_l (List.forall_mem_cons.mpr ⟨xidx_i (bcq_lt (bcq_of (n_ := 338) (z_ := (12, 26)) R1.1 rfl)), fun q_ hq => absurd hq List.not_mem_nil⟩) (fun t_ ht => absurd ht List.not_mem_nil) (Nat.le_of_ble_eq_true rfl)) r2
      exact ⟨h2, c2_, o2, ⟨⟨R2, frQ_tr (frQ_all m1_ f1_) F2⟩, ec2⟩, fun D_ hD oo z_ => ld1 D_ (by omega) _ (ld2 D_ (by omega) oo z_)⟩
    rcases thn_s P_ with ⟨⟨a1_, c1_⟩, e1_, e2_⟩ | ⟨e1_, rfl⟩
    · obtain ⟨⟨q1_, q2_⟩, q3_⟩ := prs_b T u_ f_ (2 + 1) o a_ c_ true a1_ c1_ (Or.inl (by omega)) ha_ e1_
      obtain ⟨q4_, q5_, -⟩ := q3_ rfl
      obtain ⟨h2, c2_, o2, ⟨⟨R2, F2⟩, ec2⟩, ld2⟩ := call_ true a1_ c1_ e1_
      obtain ⟨rfl, rfl⟩ := ec2 rfl
      obtain ⟨h3, m3_, f3_, ld3⟩ := ml2t (v5 := bI true) R2.1 (by decide)
      obtain ⟨h4, c4_, o4_, ⟨⟨R4, F4⟩, ec4⟩, r4⟩ := J_ 2 _ a1_ _ b_ a' c' h3 _ (by omega) ho q2_ (by omega) (Or.inl rfl) (RM_all R2 m3_ f3_) e2_
      exact ⟨h4, c4_, o4_, ⟨⟨R4, frQ_tr F2 (frQ_tr (frQ_all m3_ f3_) F4)⟩, ec4⟩, fun D_ hD => ld2 D_ (by omega) _ (ld3 D_ (by omega) _ (r4 D_ (by omega)))⟩
    · obtain ⟨h2, c2_, o2, ⟨⟨R2, F2⟩, -⟩, ld2⟩ := call_ false a' c' e1_
      obtain ⟨h3, m3_, f3_, r3⟩ := ml2f (v5 := bI false) R2.1 rfl
      exact ⟨h3, c2_, o2, ⟨⟨RM_all R2 m3_ f3_, frQ_tr F2 (frQ_all m3_ f3_)⟩, fun q_ => by cases q_⟩, fun D_ hD => ld2 D_ (by omega) _ (r3 D_ (by omega))⟩
  · obtain ⟨h1, m1_, f1_, ld1⟩ := ml3a R_.1
    have R1 := RM_all R_ m1_ f1_
    rw [prs_l (by omega)] at P_
    have call_ : ∀ b1 a1_ c1_, prs T u_ f_ (3 + 1) o a_ c_ = some (b1, (a1_, c1_)) → ∃ h2 c2_ o2, ((RM u_ T h2 a1_ o2 c2_ ∧ frQ h_ h2) ∧ (b1 = true → c2_ = c1_ ∧ o2 = o)) ∧ bldD (76 + 10 * (5 - o) - 3) 179 0 [(0, .index 338)] [] h_ 4 [(0, .index 338)] [.int (bI b1)] h2 := by
      intro b1 a1_ c1_ e1_
      obtain ⟨h2, c2_, o2, ⟨⟨R2, F2⟩, ec2⟩, r2⟩ := L_ (3 + 1) o a_ c_ b1 a1_ c1_ h1 (by omega) ho ha_ hc_ R1 e1_
      have r2 : ∀ D_, 76 + 10 * (5 - o) - (3 + 1) ≤ D_ → xrun D_ 180 0 [(0, .index 338)] [] h1 (some (.int (bI b1)), h2, []) := r2
      have ld2 := ycv (d_ := 76 + 10 * (5 - o) - (3 + 1)) (mi := 179) (pc := 1) (cm := 180) (lo_ := [(0, .index 338)]) (st_ := [.index 338]) (as_ := []) (s' := []) rfl rfl (R338 R1) rfl (xcc_l (List.forall_mem_cons.mpr ⟨xidx_i (bcq_lt (bcq_of (n_ := 338) (z_ := (12, 26)) R1.1 rfl)), fun q_ hq => absurd hq List.not_mem_nil⟩) (fun t_ ht => absurd ht List.not_mem_nil) (Nat.le_of_ble_eq_true rfl)) r2
      exact ⟨h2, c2_, o2, ⟨⟨R2, frQ_tr (frQ_all m1_ f1_) F2⟩, ec2⟩, fun D_ hD oo z_ => ld1 D_ (by omega) _ (ld2 D_ (by omega) oo z_)⟩
    rcases thn_s P_ with ⟨⟨a1_, c1_⟩, e1_, e2_⟩ | ⟨e1_, rfl⟩
    · obtain ⟨⟨q1_, q2_⟩, q3_⟩ := prs_b T u_ f_ (3 + 1) o a_ c_ true a1_ c1_ (Or.inl (by omega)) ha_ e1_
      obtain ⟨q4_, q5_, -⟩ := q3_ rfl
      obtain ⟨h2, c2_, o2, ⟨⟨R2, F2⟩, ec2⟩, ld2⟩ := call_ true a1_ c1_ e1_
      obtain ⟨rfl, rfl⟩ := ec2 rfl
      obtain ⟨h3, m3_, f3_, ld3⟩ := ml3t (v5 := bI true) R2.1 (by decide)
      obtain ⟨h4, c4_, o4_, ⟨⟨R4, F4⟩, ec4⟩, r4⟩ := J_ 3 _ a1_ _ b_ a' c' h3 _ (by omega) ho q2_ (by omega) (Or.inl rfl) (RM_all R2 m3_ f3_) e2_
      exact ⟨h4, c4_, o4_, ⟨⟨R4, frQ_tr F2 (frQ_tr (frQ_all m3_ f3_) F4)⟩, ec4⟩, fun D_ hD => ld2 D_ (by omega) _ (ld3 D_ (by omega) _ (r4 D_ (by omega)))⟩
    · obtain ⟨h2, c2_, o2, ⟨⟨R2, F2⟩, -⟩, ld2⟩ := call_ false a' c' e1_
      obtain ⟨h3, m3_, f3_, r3⟩ := ml3f (v5 := bI false) R2.1 rfl
      exact ⟨h3, c2_, o2, ⟨⟨RM_all R2 m3_ f3_, frQ_tr F2 (frQ_all m3_ f3_)⟩, fun q_ => by cases q_⟩, fun D_ hD => ld2 D_ (by omega) _ (r3 D_ (by omega))⟩
  · obtain ⟨h1, m1_, f1_, ld1⟩ := ml4a R_.1
    have R1 := RM_all R_ m1_ f1_
    rw [prs_l (by omega)] at P_
    have call_ : ∀ b1 a1_ c1_, prs T u_ f_ (4 + 1) o a_ c_ = some (b1, (a1_, c1_)) → ∃ h2 c2_ o2, ((RM u_ T h2 a1_ o2 c2_ ∧ frQ h_ h2) ∧ (b1 = true → c2_ = c1_ ∧ o2 = o)) ∧ bldD (76 + 10 * (5 - o) - 4) 180 0 [(0, .index 338)] [] h_ 4 [(0, .index 338)] [.int (bI b1)] h2 := by
      intro b1 a1_ c1_ e1_
      obtain ⟨h2, c2_, o2, ⟨⟨R2, F2⟩, ec2⟩, r2⟩ := L_ (4 + 1) o a_ c_ b1 a1_ c1_ h1 (by omega) ho ha_ hc_ R1 e1_
      have r2 : ∀ D_, 76 + 10 * (5 - o) - (4 + 1) ≤ D_ → xrun D_ 182 0 [(0, .index 338)] [] h1 (some (.int (bI b1)), h2, []) := r2
      have ld2 := ycv (d_ := 76 + 10 * (5 - o) - (4 + 1)) (mi := 180) (pc := 1) (cm := 182) (lo_ := [(0, .index 338)]) (st_ := [.index 338]) (as_ := []) (s' := []) rfl rfl (R338 R1) rfl (xcc_l (List.forall_mem_cons.mpr ⟨xidx_i (bcq_lt (bcq_of (n_ := 338) (z_ := (12, 26)) R1.1 rfl)), fun q_ hq => absurd hq List.not_mem_nil⟩) (fun t_ ht => absurd ht List.not_mem_nil) (Nat.le_of_ble_eq_true rfl)) r2
      exact ⟨h2, c2_, o2, ⟨⟨R2, frQ_tr (frQ_all m1_ f1_) F2⟩, ec2⟩, fun D_ hD oo z_ => ld1 D_ (by omega) _ (ld2 D_ (by omega) oo z_)⟩
    rcases thn_s P_ with ⟨⟨a1_, c1_⟩, e1_, e2_⟩ | ⟨e1_, rfl⟩
    · obtain ⟨⟨q1_, q2_⟩, q3_⟩ := prs_b T u_ f_ (4 + 1) o a_ c_ true a1_ c1_ (Or.inl (by omega)) ha_ e1_
      obtain ⟨q4_, q5_, -⟩ := q3_ rfl
      obtain ⟨h2, c2_, o2, ⟨⟨R2, F2⟩, ec2⟩, ld2⟩ := call_ true a1_ c1_ e1_
      obtain ⟨rfl, rfl⟩ := ec2 rfl
      obtain ⟨h3, m3_, f3_, ld3⟩ := ml4t (v5 := bI true) R2.1 (by decide)
      obtain ⟨h4, c4_, o4_, ⟨⟨R4, F4⟩, ec4⟩, r4⟩ := J_ 4 _ a1_ _ b_ a' c' h3 _ (by omega) ho q2_ (by omega) (Or.inl rfl) (RM_all R2 m3_ f3_) e2_
      exact ⟨h4, c4_, o4_, ⟨⟨R4, frQ_tr F2 (frQ_tr (frQ_all m3_ f3_) F4)⟩, ec4⟩, fun D_ hD => ld2 D_ (by omega) _ (ld3 D_ (by omega) _ (r4 D_ (by omega)))⟩
    · obtain ⟨h2, c2_, o2, ⟨⟨R2, F2⟩, -⟩, ld2⟩ := call_ false a' c' e1_
      obtain ⟨h3, m3_, f3_, r3⟩ := ml4f (v5 := bI false) R2.1 rfl
      exact ⟨h3, c2_, o2, ⟨⟨RM_all R2 m3_ f3_, frQ_tr F2 (frQ_all m3_ f3_)⟩, fun q_ => by cases q_⟩, fun D_ hD => ld2 D_ (by omega) _ (r3 D_ (by omega))⟩
  · obtain ⟨h1, c1_, o1, K1, r1_⟩ := Q_ o a_ c_ b_ a' c' h_ ho ha_ hc_ R_ P_
    exact ⟨h1, c1_, o1, K1, fun D_ hD => r1_ D_ (by omega)⟩
theorem JM_s (hT_ : byts T) {f_ : Nat} (L_ : LMs u_ T f_) (J_ : JMs u_ T f_) : JMs u_ T (f_ + 1) := by
  intro k_ o a_ c_ b_ a' c' h_ lo_ hk ho ha_ hc_ H_ R_ P_
  rw [prs_j] at P_
  have l60 := hT_.1
  have k5_ : k_ = 0 ∨ (k_ = 1 ∨ (k_ = 2 ∨ (k_ = 3 ∨ k_ = 4))) := by omega
  rcases k5_ with rfl | rfl | rfl | rfl | rfl
  · rcases H_ with rfl | ⟨n3_, -⟩
    rotate_left
    · exact absurd n3_ (by omega)
    obtain ⟨h1, m1_, f1_, ld1⟩ := mj0l R_.1
    obtain ⟨h2, ⟨R2, F2⟩, ld2⟩ := c_lk (mi := 176) (pc := 10) (lo_ := [(0, .index 338)]) (s' := []) hT_ rfl (xcc_l (List.forall_mem_cons.mpr ⟨xidx_i (bcq_lt (bcq_of (n_ := 338) (z_ := (12, 26)) m1_.1 rfl)), fun q_ hq => absurd hq List.not_mem_nil⟩) (fun t_ ht => absurd ht List.not_mem_nil) (Nat.le_of_ble_eq_true rfl)) (RM_all R_ m1_ f1_) ha_
    have E2 := frQ_tr (frQ_all m1_ f1_) F2
    by_cases g_ : lvF (nxt T a_) = Int32.ofNat 0
    · rw [if_pos g_] at P_
      have ex_ := lvi0.mp g_
      have lt_ : a_ < T.length := nxt_lt (lv_n1 (by omega) g_)
      obtain ⟨h5, m5_, e5_, f5_, ld5⟩ := mj0y (v5 := nxt T a_) (v307 := Int32.ofNat a_) R2.1 R2.2.1.1.1 ex_
      rw [i32s] at e5_
      obtain ⟨R5, F5⟩ := RM_at R2 m5_ e5_ f5_
      have E5 := frQ_tr E2 F5
      have TO : bldD (76 + 10 * (5 - o) - 0) 176 9 [(0, .index 338)] [] h_ 29 [(0, .index 338)] [.index 338] h5 := fun D_ hD oo z_ => ld1 D_ (by omega) _ (ld2 D_ (by omega) _ (ld5 D_ (by omega) oo z_))
      have call_ : ∀ b1 a1_ c1_, prs T u_ f_ (0 + 1) o (a_ + 1) c_ = some (b1, (a1_, c1_)) → ∃ h6 c6_ o6, ((RM u_ T h6 a1_ o6 c6_ ∧ frQ h_ h6) ∧ (b1 = true → c6_ = c1_ ∧ o6 = o)) ∧ bldD (76 + 10 * (5 - o) - 0) 176 29 [(0, .index 338)] [.index 338] h5 32 [(0, .index 338)] [.int (bI b1)] h6 := by
        intro b1 a1_ c1_ e1_
        obtain ⟨h6, c6_, o6, ⟨⟨R6, F6⟩, ec6⟩, r6⟩ := L_ (0 + 1) o (a_ + 1) c_ b1 a1_ c1_ h5 (by omega) ho (by omega) (by omega) R5 e1_
        have r6 : ∀ D_, 76 + 10 * (5 - o) - (0 + 1) ≤ D_ → xrun D_ 177 0 [(0, .index 338)] [] h5 (some (.int (bI b1)), h6, []) := r6
        have ld6 := ycv (d_ := 76 + 10 * (5 - o) - (0 + 1)) (mi := 176) (pc := 29) (cm := 177) (lo_ := [(0, .index 338)]) (st_ := [.index 338]) (as_ := []) (s' := []) rfl rfl (R338 R5) rfl (xcc_l (List.forall_mem_cons.mpr ⟨xidx_i (bcq_lt (bcq_of (n_ := 338) (z_ := (12, 26)) R5.1 rfl)), fun q_ hq => absurd hq List.not_mem_nil⟩) (fun t_ ht => absurd ht List.not_mem_nil) (Nat.le_of_ble_eq_true rfl)) r6
        exact ⟨h6, c6_, o6, ⟨⟨R6, frQ_tr E5 F6⟩, ec6⟩, fun D_ hD oo z_ => ld6 D_ (by omega) oo z_⟩
      rcases thn_s P_ with ⟨⟨a1_, c1_⟩, e1_, e2_⟩ | ⟨e1_, rfl⟩
      · obtain ⟨⟨q1_, q2_⟩, q3_⟩ := prs_b T u_ f_ (0 + 1) o (a_ + 1) c_ true a1_ c1_ (Or.inl (by omega)) (by omega) e1_
        obtain ⟨q4_, q5_, -⟩ := q3_ rfl
        have q4_ := q4_ (by omega)
        obtain ⟨h6, c6_, o6, ⟨⟨R6, F6⟩, ec6⟩, ld6⟩ := call_ true a1_ c1_ e1_
        obtain ⟨rfl, rfl⟩ := ec6 rfl
        obtain ⟨h7, m7_, f7_, ld7⟩ := mj0t  (v5 := bI true) R6.1 (by decide)
        obtain ⟨h8, ⟨R8, F8⟩, ld8⟩ := c_ly (w_ := 3) (v_ := 124) (y_ := 20000 + nxt T a_) (mi := 176) (pc := 41) (lo_ := [(0, .index 338)]) (by rw [yof_x (l := 0) (by omega) g_, ex_]) (by have := hT_.1; omega) rfl (xcc_l (List.forall_mem_cons.mpr ⟨xidx_i (bcq_lt (bcq_of (n_ := 338) (z_ := (12, 26)) m7_.1 rfl)), fun q_ hq => absurd hq List.not_mem_nil⟩) (fun t_ ht => absurd ht List.not_mem_nil) (Nat.le_of_ble_eq_true rfl)) (RM_all R6 m7_ f7_)
        have e2_ : (if 0 = 2 then some (true, (a1_, c6_ ++ [20000 + nxt T a_])) else prs T u_ f_ (10 + 0) o6 a1_ (c6_ ++ [20000 + nxt T a_])) = some (b_, (a', c')) := e2_
        rw [if_neg (by omega)] at e2_
        obtain ⟨h9, m9_, f9_, ld9⟩ := mj0r R8.1
        obtain ⟨h10, c10_, o10, ⟨⟨R10, F10⟩, ec10⟩, r10⟩ := J_ 0 o6 a1_ _ b_ a' c' h9 [(0, .index 338)] (by omega) ho q2_ (by rw [len_sn]; omega) (Or.inl rfl) (RM_all R8 m9_ f9_) e2_
        exact ⟨h10, c10_, o10, ⟨⟨R10, frQ_tr F6 (frQ_tr (frQ_all m7_ f7_) (frQ_tr F8 (frQ_tr (frQ_all m9_ f9_) F10)))⟩, ec10⟩, fun D_ hD => TO D_ (by omega) _ (ld6 D_ (by omega) _ (ld7 D_ (by omega) _ (ld8 D_ (by omega) _ (ld9 D_ (by omega) _ (r10 D_ (by omega))))))⟩
      · obtain ⟨h6, c6_, o6, ⟨⟨R6, F6⟩, -⟩, ld6⟩ := call_ false a' c' e1_
        obtain ⟨h7, m7_, f7_, r7⟩ := mj0f  (v5 := bI false) R6.1 rfl
        exact ⟨h7, c6_, o6, ⟨⟨RM_all R6 m7_ f7_, frQ_tr F6 (frQ_all m7_ f7_)⟩, fun q_ => by cases q_⟩, fun D_ hD => TO D_ (by omega) _ (ld6 D_ (by omega) _ (r7 D_ (by omega)))⟩
    · rw [if_neg g_] at P_
      cases P_
      obtain ⟨h3, m3_, f3_, r3⟩ := mj0n (v5 := nxt T a_) R2.1 (fun q_ => g_ (lvi0.mpr q_))
      exact ⟨h3, c_, o, ⟨⟨RM_all R2 m3_ f3_, frQ_tr E2 (frQ_all m3_ f3_)⟩, fun _ => ⟨rfl, rfl⟩⟩, fun D_ hD => ld1 D_ (by omega) _ (ld2 D_ (by omega) _ (r3 D_ (by omega)))⟩
  · rcases H_ with rfl | ⟨n3_, -⟩
    rotate_left
    · exact absurd n3_ (by omega)
    obtain ⟨h1, m1_, f1_, ld1⟩ := mj1l R_.1
    obtain ⟨h2, ⟨R2, F2⟩, ld2⟩ := c_lk (mi := 177) (pc := 10) (lo_ := [(0, .index 338)]) (s' := []) hT_ rfl (xcc_l (List.forall_mem_cons.mpr ⟨xidx_i (bcq_lt (bcq_of (n_ := 338) (z_ := (12, 26)) m1_.1 rfl)), fun q_ hq => absurd hq List.not_mem_nil⟩) (fun t_ ht => absurd ht List.not_mem_nil) (Nat.le_of_ble_eq_true rfl)) (RM_all R_ m1_ f1_) ha_
    have E2 := frQ_tr (frQ_all m1_ f1_) F2
    by_cases g_ : lvF (nxt T a_) = Int32.ofNat 1
    · rw [if_pos g_] at P_
      have ex_ := lvi1.mp g_
      have lt_ : a_ < T.length := nxt_lt (lv_n1 (by omega) g_)
      obtain ⟨h5, m5_, e5_, f5_, ld5⟩ := mj1y (v5 := nxt T a_) (v307 := Int32.ofNat a_) R2.1 R2.2.1.1.1 ex_
      rw [i32s] at e5_
      obtain ⟨R5, F5⟩ := RM_at R2 m5_ e5_ f5_
      have E5 := frQ_tr E2 F5
      have TO : bldD (76 + 10 * (5 - o) - 1) 177 9 [(0, .index 338)] [] h_ 29 [(0, .index 338)] [.index 338] h5 := fun D_ hD oo z_ => ld1 D_ (by omega) _ (ld2 D_ (by omega) _ (ld5 D_ (by omega) oo z_))
      have call_ : ∀ b1 a1_ c1_, prs T u_ f_ (1 + 1) o (a_ + 1) c_ = some (b1, (a1_, c1_)) → ∃ h6 c6_ o6, ((RM u_ T h6 a1_ o6 c6_ ∧ frQ h_ h6) ∧ (b1 = true → c6_ = c1_ ∧ o6 = o)) ∧ bldD (76 + 10 * (5 - o) - 1) 177 29 [(0, .index 338)] [.index 338] h5 32 [(0, .index 338)] [.int (bI b1)] h6 := by
        intro b1 a1_ c1_ e1_
        obtain ⟨h6, c6_, o6, ⟨⟨R6, F6⟩, ec6⟩, r6⟩ := L_ (1 + 1) o (a_ + 1) c_ b1 a1_ c1_ h5 (by omega) ho (by omega) (by omega) R5 e1_
        have r6 : ∀ D_, 76 + 10 * (5 - o) - (1 + 1) ≤ D_ → xrun D_ 178 0 [(0, .index 338)] [] h5 (some (.int (bI b1)), h6, []) := r6
        have ld6 := ycv (d_ := 76 + 10 * (5 - o) - (1 + 1)) (mi := 177) (pc := 29) (cm := 178) (lo_ := [(0, .index 338)]) (st_ := [.index 338]) (as_ := []) (s' := []) rfl rfl (R338 R5) rfl (xcc_l (List.forall_mem_cons.mpr ⟨xidx_i (bcq_lt (bcq_of (n_ := 338) (z_ := (12, 26)) R5.1 rfl)), fun q_ hq => absurd hq List.not_mem_nil⟩) (fun t_ ht => absurd ht List.not_mem_nil) (Nat.le_of_ble_eq_true rfl)) r6
        exact ⟨h6, c6_, o6, ⟨⟨R6, frQ_tr E5 F6⟩, ec6⟩, fun D_ hD oo z_ => ld6 D_ (by omega) oo z_⟩
      rcases thn_s P_ with ⟨⟨a1_, c1_⟩, e1_, e2_⟩ | ⟨e1_, rfl⟩
      · obtain ⟨⟨q1_, q2_⟩, q3_⟩ := prs_b T u_ f_ (1 + 1) o (a_ + 1) c_ true a1_ c1_ (Or.inl (by omega)) (by omega) e1_
        obtain ⟨q4_, q5_, -⟩ := q3_ rfl
        have q4_ := q4_ (by omega)
        obtain ⟨h6, c6_, o6, ⟨⟨R6, F6⟩, ec6⟩, ld6⟩ := call_ true a1_ c1_ e1_
        obtain ⟨rfl, rfl⟩ := ec6 rfl
        obtain ⟨h7, m7_, f7_, ld7⟩ := mj1t  (v5 := bI true) R6.1 (by decide)
        obtain ⟨h8, ⟨R8, F8⟩, ld8⟩ := c_ly (w_ := 3) (v_ := 38) (y_ := 20000 + nxt T a_) (mi := 177) (pc := 41) (lo_ := [(0, .index 338)]) (by rw [yof_x (l := 1) (by omega) g_, ex_]) (by have := hT_.1; omega) rfl (xcc_l (List.forall_mem_cons.mpr ⟨xidx_i (bcq_lt (bcq_of (n_ := 338) (z_ := (12, 26)) m7_.1 rfl)), fun q_ hq => absurd hq List.not_mem_nil⟩) (fun t_ ht => absurd ht List.not_mem_nil) (Nat.le_of_ble_eq_true rfl)) (RM_all R6 m7_ f7_)
        have e2_ : (if 1 = 2 then some (true, (a1_, c6_ ++ [20000 + nxt T a_])) else prs T u_ f_ (10 + 1) o6 a1_ (c6_ ++ [20000 + nxt T a_])) = some (b_, (a', c')) := e2_
        rw [if_neg (by omega)] at e2_
        obtain ⟨h9, m9_, f9_, ld9⟩ := mj1r R8.1
        obtain ⟨h10, c10_, o10, ⟨⟨R10, F10⟩, ec10⟩, r10⟩ := J_ 1 o6 a1_ _ b_ a' c' h9 [(0, .index 338)] (by omega) ho q2_ (by rw [len_sn]; omega) (Or.inl rfl) (RM_all R8 m9_ f9_) e2_
        exact ⟨h10, c10_, o10, ⟨⟨R10, frQ_tr F6 (frQ_tr (frQ_all m7_ f7_) (frQ_tr F8 (frQ_tr (frQ_all m9_ f9_) F10)))⟩, ec10⟩, fun D_ hD => TO D_ (by omega) _ (ld6 D_ (by omega) _ (ld7 D_ (by omega) _ (ld8 D_ (by omega) _ (ld9 D_ (by omega) _ (r10 D_ (by omega))))))⟩
      · obtain ⟨h6, c6_, o6, ⟨⟨R6, F6⟩, -⟩, ld6⟩ := call_ false a' c' e1_
        obtain ⟨h7, m7_, f7_, r7⟩ := mj1f  (v5 := bI false) R6.1 rfl
        exact ⟨h7, c6_, o6, ⟨⟨RM_all R6 m7_ f7_, frQ_tr F6 (frQ_all m7_ f7_)⟩, fun q_ => by cases q_⟩, fun D_ hD => TO D_ (by omega) _ (ld6 D_ (by omega) _ (r7 D_ (by omega)))⟩
    · rw [if_neg g_] at P_
      cases P_
      obtain ⟨h3, m3_, f3_, r3⟩ := mj1n (v5 := nxt T a_) R2.1 (fun q_ => g_ (lvi1.mpr q_))
      exact ⟨h3, c_, o, ⟨⟨RM_all R2 m3_ f3_, frQ_tr E2 (frQ_all m3_ f3_)⟩, fun _ => ⟨rfl, rfl⟩⟩, fun D_ hD => ld1 D_ (by omega) _ (ld2 D_ (by omega) _ (r3 D_ (by omega)))⟩
  · rcases H_ with rfl | ⟨n3_, -⟩
    rotate_left
    · exact absurd n3_ (by omega)
    obtain ⟨h1, m1_, f1_, ld1⟩ := mj2l R_.1
    obtain ⟨h2, ⟨R2, F2⟩, ld2⟩ := c_lk (mi := 178) (pc := 10) (lo_ := [(0, .index 338)]) (s' := []) hT_ rfl (xcc_l (List.forall_mem_cons.mpr ⟨xidx_i (bcq_lt (bcq_of (n_ := 338) (z_ := (12, 26)) m1_.1 rfl)), fun q_ hq => absurd hq List.not_mem_nil⟩) (fun t_ ht => absurd ht List.not_mem_nil) (Nat.le_of_ble_eq_true rfl)) (RM_all R_ m1_ f1_) ha_
    have E2 := frQ_tr (frQ_all m1_ f1_) F2
    by_cases g_ : lvF (nxt T a_) = Int32.ofNat 2
    · rw [if_pos g_] at P_
      have ex_ := lvi2.mp g_
      have lt_ : a_ < T.length := nxt_lt (lv_n1 (by omega) g_)
      have TQ : ∃ h5, (RM u_ T h5 (a_ + 1) o c_ ∧ frQ h_ h5) ∧ bldD (76 + 10 * (5 - o) - 2) 178 9 [(0, .index 338)] [] h_ 45 [(1, .int (nxt T a_)), (0, .index 338)] [.index 338] h5 := by
        rcases ex_ with q_ | q_ | q_
        · obtain ⟨h5, m5_, e5_, f5_, ld5⟩ := mj2y60 (v5 := nxt T a_) (v307 := Int32.ofNat a_) R2.1 R2.2.1.1.1 q_ 
          rw [i32s] at e5_
          obtain ⟨R5, F5⟩ := RM_at R2 m5_ e5_ f5_
          exact ⟨h5, ⟨R5, frQ_tr E2 F5⟩, fun D_ hD oo z_ => ld1 D_ (by omega) _ (ld2 D_ (by omega) _ (ld5 D_ (by omega) oo z_))⟩
        · obtain ⟨h5, m5_, e5_, f5_, ld5⟩ := mj2y61 (v5 := nxt T a_) (v307 := Int32.ofNat a_) R2.1 R2.2.1.1.1 q_ (by rw [q_]; decide)
          rw [i32s] at e5_
          obtain ⟨R5, F5⟩ := RM_at R2 m5_ e5_ f5_
          exact ⟨h5, ⟨R5, frQ_tr E2 F5⟩, fun D_ hD oo z_ => ld1 D_ (by omega) _ (ld2 D_ (by omega) _ (ld5 D_ (by omega) oo z_))⟩
        · obtain ⟨h5, m5_, e5_, f5_, ld5⟩ := mj2y62 (v5 := nxt T a_) (v307 := Int32.ofNat a_) R2.1 R2.2.1.1.1 q_ (by rw [q_]; decide) (by rw [q_]; decide)
          rw [i32s] at e5_
          obtain ⟨R5, F5⟩ := RM_at R2 m5_ e5_ f5_
          exact ⟨h5, ⟨R5, frQ_tr E2 F5⟩, fun D_ hD oo z_ => ld1 D_ (by omega) _ (ld2 D_ (by omega) _ (ld5 D_ (by omega) oo z_))⟩
      obtain ⟨h5, ⟨R5, E5⟩, TO⟩ := TQ
      have call_ : ∀ b1 a1_ c1_, prs T u_ f_ (2 + 1) o (a_ + 1) c_ = some (b1, (a1_, c1_)) → ∃ h6 c6_ o6, ((RM u_ T h6 a1_ o6 c6_ ∧ frQ h_ h6) ∧ (b1 = true → c6_ = c1_ ∧ o6 = o)) ∧ bldD (76 + 10 * (5 - o) - 2) 178 45 [(1, .int (nxt T a_)), (0, .index 338)] [.index 338] h5 48 [(1, .int (nxt T a_)), (0, .index 338)] [.int (bI b1)] h6 := by
        intro b1 a1_ c1_ e1_
        obtain ⟨h6, c6_, o6, ⟨⟨R6, F6⟩, ec6⟩, r6⟩ := L_ (2 + 1) o (a_ + 1) c_ b1 a1_ c1_ h5 (by omega) ho (by omega) (by omega) R5 e1_
        have r6 : ∀ D_, 76 + 10 * (5 - o) - (2 + 1) ≤ D_ → xrun D_ 179 0 [(0, .index 338)] [] h5 (some (.int (bI b1)), h6, []) := r6
        have ld6 := ycv (d_ := 76 + 10 * (5 - o) - (2 + 1)) (mi := 178) (pc := 45) (cm := 179) (lo_ := [(1, .int (nxt T a_)), (0, .index 338)]) (st_ := [.index 338]) (as_ := []) (s' := []) rfl rfl (R338 R5) rfl (xcc_l (List.forall_mem_cons.mpr ⟨rfl, List.forall_mem_cons.mpr ⟨xidx_i (bcq_lt (bcq_of (n_ := 338) (z_ := (12, 26)) R5.1 rfl)), fun q_ hq => absurd hq List.not_mem_nil⟩⟩) (fun t_ ht => absurd ht List.not_mem_nil) (Nat.le_of_ble_eq_true rfl)) r6
        exact ⟨h6, c6_, o6, ⟨⟨R6, frQ_tr E5 F6⟩, ec6⟩, fun D_ hD oo z_ => ld6 D_ (by omega) oo z_⟩
      rcases thn_s P_ with ⟨⟨a1_, c1_⟩, e1_, e2_⟩ | ⟨e1_, rfl⟩
      · obtain ⟨⟨q1_, q2_⟩, q3_⟩ := prs_b T u_ f_ (2 + 1) o (a_ + 1) c_ true a1_ c1_ (Or.inl (by omega)) (by omega) e1_
        obtain ⟨q4_, q5_, -⟩ := q3_ rfl
        have q4_ := q4_ (by omega)
        obtain ⟨h6, c6_, o6, ⟨⟨R6, F6⟩, ec6⟩, ld6⟩ := call_ true a1_ c1_ e1_
        obtain ⟨rfl, rfl⟩ := ec6 rfl
        obtain ⟨h7, m7_, f7_, ld7⟩ := mj2t (v1_ := nxt T a_) (v5 := bI true) R6.1 (by decide)
        obtain ⟨h8, ⟨R8, F8⟩, ld8⟩ := c_ly (w_ := 3) (v_ := nxt T a_) (y_ := 20000 + nxt T a_) (mi := 178) (pc := 56) (lo_ := [(1, .int (nxt T a_)), (0, .index 338)]) (yof_x (l := 2) (by omega) g_) (by have := hT_.1; omega) rfl (xcc_l (List.forall_mem_cons.mpr ⟨rfl, List.forall_mem_cons.mpr ⟨xidx_i (bcq_lt (bcq_of (n_ := 338) (z_ := (12, 26)) m7_.1 rfl)), fun q_ hq => absurd hq List.not_mem_nil⟩⟩) (fun t_ ht => absurd ht List.not_mem_nil) (Nat.le_of_ble_eq_true rfl)) (RM_all R6 m7_ f7_)
        have e2_ : (if 2 = 2 then some (true, (a1_, c6_ ++ [20000 + nxt T a_])) else prs T u_ f_ (10 + 2) o6 a1_ (c6_ ++ [20000 + nxt T a_])) = some (b_, (a', c')) := e2_
        rw [if_pos rfl] at e2_
        obtain ⟨rfl, rfl, rfl⟩ := inj3 e2_
        obtain ⟨h9, m9_, f9_, r9⟩ := mj2r (v1_ := nxt T a_) R8.1
        exact ⟨h9, _, _, ⟨⟨RM_all R8 m9_ f9_, frQ_tr F6 (frQ_tr (frQ_all m7_ f7_) (frQ_tr F8 (frQ_all m9_ f9_)))⟩, fun _ => ⟨rfl, rfl⟩⟩, fun D_ hD => TO D_ (by omega) _ (ld6 D_ (by omega) _ (ld7 D_ (by omega) _ (ld8 D_ (by omega) _ (r9 D_ (by omega)))))⟩
      · obtain ⟨h6, c6_, o6, ⟨⟨R6, F6⟩, -⟩, ld6⟩ := call_ false a' c' e1_
        obtain ⟨h7, m7_, f7_, r7⟩ := mj2f (v1_ := nxt T a_) (v5 := bI false) R6.1 rfl
        exact ⟨h7, c6_, o6, ⟨⟨RM_all R6 m7_ f7_, frQ_tr F6 (frQ_all m7_ f7_)⟩, fun q_ => by cases q_⟩, fun D_ hD => TO D_ (by omega) _ (ld6 D_ (by omega) _ (r7 D_ (by omega)))⟩
    · rw [if_neg g_] at P_
      cases P_
      have nx : ∀ x_, nxt T a_ = x_ → lvF x_ = Int32.ofNat 2 → False := fun x_ e_ q_ => g_ (by rw [e_]; exact q_)
      obtain ⟨h3, m3_, f3_, r3⟩ := mj2n (v5 := nxt T a_) R2.1 (fun q_ => nx _ q_ (by decide)) (fun q_ => nx _ q_ (by decide)) (fun q_ => nx _ q_ (by decide))
      exact ⟨h3, c_, o, ⟨⟨RM_all R2 m3_ f3_, frQ_tr E2 (frQ_all m3_ f3_)⟩, fun _ => ⟨rfl, rfl⟩⟩, fun D_ hD => ld1 D_ (by omega) _ (ld2 D_ (by omega) _ (r3 D_ (by omega)))⟩
  · rcases H_ with rfl | ⟨-, y_, rfl⟩
    ·
      obtain ⟨h1, m1_, f1_, ld1⟩ := mj3lA R_.1
      obtain ⟨h2, ⟨R2, F2⟩, ld2⟩ := c_lk (mi := 179) (pc := 10) (lo_ := [(0, .index 338)]) (s' := []) hT_ rfl (xcc_l (List.forall_mem_cons.mpr ⟨xidx_i (bcq_lt (bcq_of (n_ := 338) (z_ := (12, 26)) m1_.1 rfl)), fun q_ hq => absurd hq List.not_mem_nil⟩) (fun t_ ht => absurd ht List.not_mem_nil) (Nat.le_of_ble_eq_true rfl)) (RM_all R_ m1_ f1_) ha_
      have E2 := frQ_tr (frQ_all m1_ f1_) F2
      by_cases g_ : lvF (nxt T a_) = Int32.ofNat 3
      · rw [if_pos g_] at P_
        have ex_ := lvi3.mp g_
        have lt_ : a_ < T.length := nxt_lt (lv_n1 (by omega) g_)
        have TQ : ∃ h3, (RM u_ T h3 a_ o c_ ∧ frQ h_ h3) ∧ bldD 70 179 9 [(0, .index 338)] [] h_ 28 [(0, .index 338)] [.index 338] h3 := by
          rcases ex_ with q_ | q_
          · obtain ⟨h3, m3_, f3_, ld3⟩ := mj3pA (v5 := nxt T a_) R2.1 q_
            exact ⟨h3, ⟨RM_all R2 m3_ f3_, frQ_tr E2 (frQ_all m3_ f3_)⟩, fun D_ hD oo z_ => ld1 D_ (by omega) _ (ld2 D_ (by omega) _ (ld3 D_ (by omega) oo z_))⟩
          · obtain ⟨h3, m3_, f3_, ld3⟩ := mj3qA (v5 := nxt T a_) R2.1 (by rw [q_]; decide)
            obtain ⟨h4, ⟨R4, F4⟩, ld4⟩ := c_lk (mi := 179) (pc := 19) (lo_ := [(0, .index 338)]) (s' := []) hT_ rfl (xcc_l (List.forall_mem_cons.mpr ⟨xidx_i (bcq_lt (bcq_of (n_ := 338) (z_ := (12, 26)) m3_.1 rfl)), fun q_ hq => absurd hq List.not_mem_nil⟩) (fun t_ ht => absurd ht List.not_mem_nil) (Nat.le_of_ble_eq_true rfl)) (RM_all R2 m3_ f3_) ha_
            have E4 := frQ_tr E2 (frQ_tr (frQ_all m3_ f3_) F4)
            obtain ⟨h5, m5_, f5_, ld5⟩ := mj3mA (v5 := nxt T a_) R4.1 q_
            exact ⟨h5, ⟨RM_all R4 m5_ f5_, frQ_tr E4 (frQ_all m5_ f5_)⟩, fun D_ hD oo z_ => ld1 D_ (by omega) _ (ld2 D_ (by omega) _ (ld3 D_ (by omega) _ (ld4 D_ (by omega) _ (ld5 D_ (by omega) oo z_))))⟩
        obtain ⟨h3, ⟨R3, E3⟩, ld3⟩ := TQ
        obtain ⟨h4, ⟨R4, F4⟩, ld4⟩ := c_lk (mi := 179) (pc := 28) (lo_ := [(0, .index 338)]) (s' := []) hT_ rfl (xcc_l (List.forall_mem_cons.mpr ⟨xidx_i (bcq_lt (bcq_of (n_ := 338) (z_ := (12, 26)) R3.1 rfl)), fun q_ hq => absurd hq List.not_mem_nil⟩) (fun t_ ht => absurd ht List.not_mem_nil) (Nat.le_of_ble_eq_true rfl)) R3 ha_
        obtain ⟨h5, m5_, e5_, f5_, ld5⟩ := mj3yA (v5 := nxt T a_) (v307 := Int32.ofNat a_) R4.1 R4.2.1.1.1
        rw [i32s] at e5_
        obtain ⟨R5, F5⟩ := RM_at R4 m5_ e5_ f5_
        have E5 := frQ_tr E3 (frQ_tr F4 F5)
        have TO : bldD (76 + 10 * (5 - o) - 3) 179 9 [(0, .index 338)] [] h_ 43 [(1, .int (nxt T a_)), (0, .index 338)] [.index 338] h5 := fun D_ hD oo z_ => ld3 D_ (by omega) _ (ld4 D_ (by omega) _ (ld5 D_ (by omega) oo z_))
        have call_ : ∀ b1 a1_ c1_, prs T u_ f_ (3 + 1) o (a_ + 1) c_ = some (b1, (a1_, c1_)) → ∃ h6 c6_ o6, ((RM u_ T h6 a1_ o6 c6_ ∧ frQ h_ h6) ∧ (b1 = true → c6_ = c1_ ∧ o6 = o)) ∧ bldD (76 + 10 * (5 - o) - 3) 179 43 [(1, .int (nxt T a_)), (0, .index 338)] [.index 338] h5 46 [(1, .int (nxt T a_)), (0, .index 338)] [.int (bI b1)] h6 := by
          intro b1 a1_ c1_ e1_
          obtain ⟨h6, c6_, o6, ⟨⟨R6, F6⟩, ec6⟩, r6⟩ := L_ (3 + 1) o (a_ + 1) c_ b1 a1_ c1_ h5 (by omega) ho (by omega) (by omega) R5 e1_
          have r6 : ∀ D_, 76 + 10 * (5 - o) - (3 + 1) ≤ D_ → xrun D_ 180 0 [(0, .index 338)] [] h5 (some (.int (bI b1)), h6, []) := r6
          have ld6 := ycv (d_ := 76 + 10 * (5 - o) - (3 + 1)) (mi := 179) (pc := 43) (cm := 180) (lo_ := [(1, .int (nxt T a_)), (0, .index 338)]) (st_ := [.index 338]) (as_ := []) (s' := []) rfl rfl (R338 R5) rfl (xcc_l (List.forall_mem_cons.mpr ⟨rfl, List.forall_mem_cons.mpr ⟨xidx_i (bcq_lt (bcq_of (n_ := 338) (z_ := (12, 26)) R5.1 rfl)), fun q_ hq => absurd hq List.not_mem_nil⟩⟩) (fun t_ ht => absurd ht List.not_mem_nil) (Nat.le_of_ble_eq_true rfl)) r6
          exact ⟨h6, c6_, o6, ⟨⟨R6, frQ_tr E5 F6⟩, ec6⟩, fun D_ hD oo z_ => ld6 D_ (by omega) oo z_⟩
        rcases thn_s P_ with ⟨⟨a1_, c1_⟩, e1_, e2_⟩ | ⟨e1_, rfl⟩
        · obtain ⟨⟨q1_, q2_⟩, q3_⟩ := prs_b T u_ f_ (3 + 1) o (a_ + 1) c_ true a1_ c1_ (Or.inl (by omega)) (by omega) e1_
          obtain ⟨q4_, q5_, -⟩ := q3_ rfl
          have q4_ := q4_ (by omega)
          obtain ⟨h6, c6_, o6, ⟨⟨R6, F6⟩, ec6⟩, ld6⟩ := call_ true a1_ c1_ e1_
          obtain ⟨rfl, rfl⟩ := ec6 rfl
          obtain ⟨h7, m7_, f7_, ld7⟩ := mj3t (v1_ := nxt T a_) (v5 := bI true) R6.1 (by decide)
          obtain ⟨h8, ⟨R8, F8⟩, ld8⟩ := c_ly (w_ := 3) (v_ := nxt T a_) (y_ := 20000 + nxt T a_) (mi := 179) (pc := 54) (lo_ := [(1, .int (nxt T a_)), (0, .index 338)]) (yof_x (l := 3) (by omega) g_) (by have := hT_.1; omega) rfl (xcc_l (List.forall_mem_cons.mpr ⟨rfl, List.forall_mem_cons.mpr ⟨xidx_i (bcq_lt (bcq_of (n_ := 338) (z_ := (12, 26)) m7_.1 rfl)), fun q_ hq => absurd hq List.not_mem_nil⟩⟩) (fun t_ ht => absurd ht List.not_mem_nil) (Nat.le_of_ble_eq_true rfl)) (RM_all R6 m7_ f7_)
          have e2_ : (if 3 = 2 then some (true, (a1_, c6_ ++ [20000 + nxt T a_])) else prs T u_ f_ (10 + 3) o6 a1_ (c6_ ++ [20000 + nxt T a_])) = some (b_, (a', c')) := e2_
          rw [if_neg (by omega)] at e2_
          obtain ⟨h9, m9_, f9_, ld9⟩ := mj3r (v1_ := nxt T a_) R8.1
          obtain ⟨h10, c10_, o10, ⟨⟨R10, F10⟩, ec10⟩, r10⟩ := J_ 3 o6 a1_ _ b_ a' c' h9 [(1, .int (nxt T a_)), (0, .index 338)] (by omega) ho q2_ (by rw [len_sn]; omega) (Or.inr ⟨by omega, _, rfl⟩) (RM_all R8 m9_ f9_) e2_
          exact ⟨h10, c10_, o10, ⟨⟨R10, frQ_tr F6 (frQ_tr (frQ_all m7_ f7_) (frQ_tr F8 (frQ_tr (frQ_all m9_ f9_) F10)))⟩, ec10⟩, fun D_ hD => TO D_ (by omega) _ (ld6 D_ (by omega) _ (ld7 D_ (by omega) _ (ld8 D_ (by omega) _ (ld9 D_ (by omega) _ (r10 D_ (by omega))))))⟩
        · obtain ⟨h6, c6_, o6, ⟨⟨R6, F6⟩, -⟩, ld6⟩ := call_ false a' c' e1_
          obtain ⟨h7, m7_, f7_, r7⟩ := mj3f (v1_ := nxt T a_) (v5 := bI false) R6.1 rfl
          exact ⟨h7, c6_, o6, ⟨⟨RM_all R6 m7_ f7_, frQ_tr F6 (frQ_all m7_ f7_)⟩, fun q_ => by cases q_⟩, fun D_ hD => TO D_ (by omega) _ (ld6 D_ (by omega) _ (r7 D_ (by omega)))⟩
      · rw [if_neg g_] at P_
        cases P_
        have nx : ∀ x_, nxt T a_ = x_ → lvF x_ = Int32.ofNat 3 → False := fun x_ e_ q_ => g_ (by rw [e_]; exact q_)
        obtain ⟨h3, m3_, f3_, ld3⟩ := mj3qA (v5 := nxt T a_) R2.1 (fun q_ => nx _ q_ (by decide))
        obtain ⟨h4, ⟨R4, F4⟩, ld4⟩ := c_lk (mi := 179) (pc := 19) (lo_ := [(0, .index 338)]) (s' := []) hT_ rfl (xcc_l (List.forall_mem_cons.mpr ⟨xidx_i (bcq_lt (bcq_of (n_ := 338) (z_ := (12, 26)) m3_.1 rfl)), fun q_ hq => absurd hq List.not_mem_nil⟩) (fun t_ ht => absurd ht List.not_mem_nil) (Nat.le_of_ble_eq_true rfl)) (RM_all R2 m3_ f3_) ha_
        obtain ⟨h5, m5_, f5_, r5_⟩ := mj3nA (v5 := nxt T a_) R4.1 (fun q_ => nx _ q_ (by decide))
        exact ⟨h5, c_, o, ⟨⟨RM_all R4 m5_ f5_, frQ_tr E2 (frQ_tr (frQ_all m3_ f3_) (frQ_tr F4 (frQ_all m5_ f5_)))⟩, fun _ => ⟨rfl, rfl⟩⟩, fun D_ hD => ld1 D_ (by omega) _ (ld2 D_ (by omega) _ (ld3 D_ (by omega) _ (ld4 D_ (by omega) _ (r5_ D_ (by omega)))))⟩
    ·
      obtain ⟨h1, m1_, f1_, ld1⟩ := mj3lB (v1_ := y_)  R_.1
      obtain ⟨h2, ⟨R2, F2⟩, ld2⟩ := c_lk (mi := 179) (pc := 10) (lo_ := [(1, .int y_), (0, .index 338)]) (s' := []) hT_ rfl (xcc_l (List.forall_mem_cons.mpr ⟨rfl, List.forall_mem_cons.mpr ⟨xidx_i (bcq_lt (bcq_of (n_ := 338) (z_ := (12, 26)) m1_.1 rfl)), fun q_ hq => absurd hq List.not_mem_nil⟩⟩) (fun t_ ht => absurd ht List.not_mem_nil) (Nat.le_of_ble_eq_true rfl)) (RM_all R_ m1_ f1_) ha_
      have E2 := frQ_tr (frQ_all m1_ f1_) F2
      by_cases g_ : lvF (nxt T a_) = Int32.ofNat 3
      · rw [if_pos g_] at P_
        have ex_ := lvi3.mp g_
        have lt_ : a_ < T.length := nxt_lt (lv_n1 (by omega) g_)
        have TQ : ∃ h3, (RM u_ T h3 a_ o c_ ∧ frQ h_ h3) ∧ bldD 70 179 9 [(1, .int y_), (0, .index 338)] [] h_ 28 [(1, .int y_), (0, .index 338)] [.index 338] h3 := by
          rcases ex_ with q_ | q_
          · obtain ⟨h3, m3_, f3_, ld3⟩ := mj3pB (v1_ := y_) (v5 := nxt T a_) R2.1 q_
            exact ⟨h3, ⟨RM_all R2 m3_ f3_, frQ_tr E2 (frQ_all m3_ f3_)⟩, fun D_ hD oo z_ => ld1 D_ (by omega) _ (ld2 D_ (by omega) _ (ld3 D_ (by omega) oo z_))⟩
          · obtain ⟨h3, m3_, f3_, ld3⟩ := mj3qB (v1_ := y_) (v5 := nxt T a_) R2.1 (by rw [q_]; decide)
            obtain ⟨h4, ⟨R4, F4⟩, ld4⟩ := c_lk (mi := 179) (pc := 19) (lo_ := [(1, .int y_), (0, .index 338)]) (s' := []) hT_ rfl (xcc_l (List.forall_mem_cons.mpr ⟨rfl, List.forall_mem_cons.mpr ⟨xidx_i (bcq_lt (bcq_of (n_ := 338) (z_ := (12, 26)) m3_.1 rfl)), fun q_ hq => absurd hq List.not_mem_nil⟩⟩) (fun t_ ht => absurd ht List.not_mem_nil) (Nat.le_of_ble_eq_true rfl)) (RM_all R2 m3_ f3_) ha_
            have E4 := frQ_tr E2 (frQ_tr (frQ_all m3_ f3_) F4)
            obtain ⟨h5, m5_, f5_, ld5⟩ := mj3mB (v1_ := y_) (v5 := nxt T a_) R4.1 q_
            exact ⟨h5, ⟨RM_all R4 m5_ f5_, frQ_tr E4 (frQ_all m5_ f5_)⟩, fun D_ hD oo z_ => ld1 D_ (by omega) _ (ld2 D_ (by omega) _ (ld3 D_ (by omega) _ (ld4 D_ (by omega) _ (ld5 D_ (by omega) oo z_))))⟩
        obtain ⟨h3, ⟨R3, E3⟩, ld3⟩ := TQ
        obtain ⟨h4, ⟨R4, F4⟩, ld4⟩ := c_lk (mi := 179) (pc := 28) (lo_ := [(1, .int y_), (0, .index 338)]) (s' := []) hT_ rfl (xcc_l (List.forall_mem_cons.mpr ⟨rfl, List.forall_mem_cons.mpr ⟨xidx_i (bcq_lt (bcq_of (n_ := 338) (z_ := (12, 26)) R3.1 rfl)), fun q_ hq => absurd hq List.not_mem_nil⟩⟩) (fun t_ ht => absurd ht List.not_mem_nil) (Nat.le_of_ble_eq_true rfl)) R3 ha_
        obtain ⟨h5, m5_, e5_, f5_, ld5⟩ := mj3yB (v1_ := y_) (v5 := nxt T a_) (v307 := Int32.ofNat a_) R4.1 R4.2.1.1.1
        rw [i32s] at e5_
        obtain ⟨R5, F5⟩ := RM_at R4 m5_ e5_ f5_
        have E5 := frQ_tr E3 (frQ_tr F4 F5)
        have TO : bldD (76 + 10 * (5 - o) - 3) 179 9 [(1, .int y_), (0, .index 338)] [] h_ 43 [(1, .int (nxt T a_)), (0, .index 338)] [.index 338] h5 := fun D_ hD oo z_ => ld3 D_ (by omega) _ (ld4 D_ (by omega) _ (ld5 D_ (by omega) oo z_))
        have call_ : ∀ b1 a1_ c1_, prs T u_ f_ (3 + 1) o (a_ + 1) c_ = some (b1, (a1_, c1_)) → ∃ h6 c6_ o6, ((RM u_ T h6 a1_ o6 c6_ ∧ frQ h_ h6) ∧ (b1 = true → c6_ = c1_ ∧ o6 = o)) ∧ bldD (76 + 10 * (5 - o) - 3) 179 43 [(1, .int (nxt T a_)), (0, .index 338)] [.index 338] h5 46 [(1, .int (nxt T a_)), (0, .index 338)] [.int (bI b1)] h6 := by
          intro b1 a1_ c1_ e1_
          obtain ⟨h6, c6_, o6, ⟨⟨R6, F6⟩, ec6⟩, r6⟩ := L_ (3 + 1) o (a_ + 1) c_ b1 a1_ c1_ h5 (by omega) ho (by omega) (by omega) R5 e1_
          have r6 : ∀ D_, 76 + 10 * (5 - o) - (3 + 1) ≤ D_ → xrun D_ 180 0 [(0, .index 338)] [] h5 (some (.int (bI b1)), h6, []) := r6
          have ld6 := ycv (d_ := 76 + 10 * (5 - o) - (3 + 1)) (mi := 179) (pc := 43) (cm := 180) (lo_ := [(1, .int (nxt T a_)), (0, .index 338)]) (st_ := [.index 338]) (as_ := []) (s' := []) rfl rfl (R338 R5) rfl (xcc_l (List.forall_mem_cons.mpr ⟨rfl, List.forall_mem_cons.mpr ⟨xidx_i (bcq_lt (bcq_of (n_ := 338) (z_ := (12, 26)) R5.1 rfl)), fun q_ hq => absurd hq List.not_mem_nil⟩⟩) (fun t_ ht => absurd ht List.not_mem_nil) (Nat.le_of_ble_eq_true rfl)) r6
          exact ⟨h6, c6_, o6, ⟨⟨R6, frQ_tr E5 F6⟩, ec6⟩, fun D_ hD oo z_ => ld6 D_ (by omega) oo z_⟩
        rcases thn_s P_ with ⟨⟨a1_, c1_⟩, e1_, e2_⟩ | ⟨e1_, rfl⟩
        · obtain ⟨⟨q1_, q2_⟩, q3_⟩ := prs_b T u_ f_ (3 + 1) o (a_ + 1) c_ true a1_ c1_ (Or.inl (by omega)) (by omega) e1_
          obtain ⟨q4_, q5_, -⟩ := q3_ rfl
          have q4_ := q4_ (by omega)
          obtain ⟨h6, c6_, o6, ⟨⟨R6, F6⟩, ec6⟩, ld6⟩ := call_ true a1_ c1_ e1_
          obtain ⟨rfl, rfl⟩ := ec6 rfl
          obtain ⟨h7, m7_, f7_, ld7⟩ := mj3t (v1_ := nxt T a_) (v5 := bI true) R6.1 (by decide)
          obtain ⟨h8, ⟨R8, F8⟩, ld8⟩ := c_ly (w_ := 3) (v_ := nxt T a_) (y_ := 20000 + nxt T a_) (mi := 179) (pc := 54) (lo_ := [(1, .int (nxt T a_)), (0, .index 338)]) (yof_x (l := 3) (by omega) g_) (by have := hT_.1; omega) rfl (xcc_l (List.forall_mem_cons.mpr ⟨rfl, List.forall_mem_cons.mpr ⟨xidx_i (bcq_lt (bcq_of (n_ := 338) (z_ := (12, 26)) m7_.1 rfl)), fun q_ hq => absurd hq List.not_mem_nil⟩⟩) (fun t_ ht => absurd ht List.not_mem_nil) (Nat.le_of_ble_eq_true rfl)) (RM_all R6 m7_ f7_)
          have e2_ : (if 3 = 2 then some (true, (a1_, c6_ ++ [20000 + nxt T a_])) else prs T u_ f_ (10 + 3) o6 a1_ (c6_ ++ [20000 + nxt T a_])) = some (b_, (a', c')) := e2_
          rw [if_neg (by omega)] at e2_
          obtain ⟨h9, m9_, f9_, ld9⟩ := mj3r (v1_ := nxt T a_) R8.1
          obtain ⟨h10, c10_, o10, ⟨⟨R10, F10⟩, ec10⟩, r10⟩ := J_ 3 o6 a1_ _ b_ a' c' h9 [(1, .int (nxt T a_)), (0, .index 338)] (by omega) ho q2_ (by rw [len_sn]; omega) (Or.inr ⟨by omega, _, rfl⟩) (RM_all R8 m9_ f9_) e2_
          exact ⟨h10, c10_, o10, ⟨⟨R10, frQ_tr F6 (frQ_tr (frQ_all m7_ f7_) (frQ_tr F8 (frQ_tr (frQ_all m9_ f9_) F10)))⟩, ec10⟩, fun D_ hD => TO D_ (by omega) _ (ld6 D_ (by omega) _ (ld7 D_ (by omega) _ (ld8 D_ (by omega) _ (ld9 D_ (by omega) _ (r10 D_ (by omega))))))⟩
        · obtain ⟨h6, c6_, o6, ⟨⟨R6, F6⟩, -⟩, ld6⟩ := call_ false a' c' e1_
          obtain ⟨h7, m7_, f7_, r7⟩ := mj3f (v1_ := nxt T a_) (v5 := bI false) R6.1 rfl
          exact ⟨h7, c6_, o6, ⟨⟨RM_all R6 m7_ f7_, frQ_tr F6 (frQ_all m7_ f7_)⟩, fun q_ => by cases q_⟩, fun D_ hD => TO D_ (by omega) _ (ld6 D_ (by omega) _ (r7 D_ (by omega)))⟩
      · rw [if_neg g_] at P_
        cases P_
        have nx : ∀ x_, nxt T a_ = x_ → lvF x_ = Int32.ofNat 3 → False := fun x_ e_ q_ => g_ (by rw [e_]; exact q_)
        obtain ⟨h3, m3_, f3_, ld3⟩ := mj3qB (v1_ := y_) (v5 := nxt T a_) R2.1 (fun q_ => nx _ q_ (by decide))
        obtain ⟨h4, ⟨R4, F4⟩, ld4⟩ := c_lk (mi := 179) (pc := 19) (lo_ := [(1, .int y_), (0, .index 338)]) (s' := []) hT_ rfl (xcc_l (List.forall_mem_cons.mpr ⟨rfl, List.forall_mem_cons.mpr ⟨xidx_i (bcq_lt (bcq_of (n_ := 338) (z_ := (12, 26)) m3_.1 rfl)), fun q_ hq => absurd hq List.not_mem_nil⟩⟩) (fun t_ ht => absurd ht List.not_mem_nil) (Nat.le_of_ble_eq_true rfl)) (RM_all R2 m3_ f3_) ha_
        obtain ⟨h5, m5_, f5_, r5_⟩ := mj3nB (v1_ := y_) (v5 := nxt T a_) R4.1 (fun q_ => nx _ q_ (by decide))
        exact ⟨h5, c_, o, ⟨⟨RM_all R4 m5_ f5_, frQ_tr E2 (frQ_tr (frQ_all m3_ f3_) (frQ_tr F4 (frQ_all m5_ f5_)))⟩, fun _ => ⟨rfl, rfl⟩⟩, fun D_ hD => ld1 D_ (by omega) _ (ld2 D_ (by omega) _ (ld3 D_ (by omega) _ (ld4 D_ (by omega) _ (r5_ D_ (by omega)))))⟩
  · rcases H_ with rfl | ⟨-, y_, rfl⟩
    ·
      obtain ⟨h1, m1_, f1_, ld1⟩ := mj4lA R_.1
      obtain ⟨h2, ⟨R2, F2⟩, ld2⟩ := c_lk (mi := 180) (pc := 10) (lo_ := [(0, .index 338)]) (s' := []) hT_ rfl (xcc_l (List.forall_mem_cons.mpr ⟨xidx_i (bcq_lt (bcq_of (n_ := 338) (z_ := (12, 26)) m1_.1 rfl)), fun q_ hq => absurd hq List.not_mem_nil⟩) (fun t_ ht => absurd ht List.not_mem_nil) (Nat.le_of_ble_eq_true rfl)) (RM_all R_ m1_ f1_) ha_
      have E2 := frQ_tr (frQ_all m1_ f1_) F2
      by_cases g_ : lvF (nxt T a_) = Int32.ofNat 4
      · rw [if_pos g_] at P_
        have ex_ := lvi4.mp g_
        have lt_ : a_ < T.length := nxt_lt (lv_n1 (by omega) g_)
        have TQ : ∃ h3, (RM u_ T h3 a_ o c_ ∧ frQ h_ h3) ∧ bldD 70 180 9 [(0, .index 338)] [] h_ 37 [(0, .index 338)] [.index 338] h3 := by
          rcases ex_ with q_ | q_ | q_
          · obtain ⟨h3, m3_, f3_, ld3⟩ := mj4pA (v5 := nxt T a_) R2.1 q_
            exact ⟨h3, ⟨RM_all R2 m3_ f3_, frQ_tr E2 (frQ_all m3_ f3_)⟩, fun D_ hD oo z_ => ld1 D_ (by omega) _ (ld2 D_ (by omega) _ (ld3 D_ (by omega) oo z_))⟩
          · obtain ⟨h3, m3_, f3_, ld3⟩ := mj4qA (v5 := nxt T a_) R2.1 (by rw [q_]; decide)
            obtain ⟨h4, ⟨R4, F4⟩, ld4⟩ := c_lk (mi := 180) (pc := 19) (lo_ := [(0, .index 338)]) (s' := []) hT_ rfl (xcc_l (List.forall_mem_cons.mpr ⟨xidx_i (bcq_lt (bcq_of (n_ := 338) (z_ := (12, 26)) m3_.1 rfl)), fun q_ hq => absurd hq List.not_mem_nil⟩) (fun t_ ht => absurd ht List.not_mem_nil) (Nat.le_of_ble_eq_true rfl)) (RM_all R2 m3_ f3_) ha_
            have E4 := frQ_tr E2 (frQ_tr (frQ_all m3_ f3_) F4)
            obtain ⟨h5, m5_, f5_, ld5⟩ := mj4mA (v5 := nxt T a_) R4.1 q_
            exact ⟨h5, ⟨RM_all R4 m5_ f5_, frQ_tr E4 (frQ_all m5_ f5_)⟩, fun D_ hD oo z_ => ld1 D_ (by omega) _ (ld2 D_ (by omega) _ (ld3 D_ (by omega) _ (ld4 D_ (by omega) _ (ld5 D_ (by omega) oo z_))))⟩
          · obtain ⟨h3, m3_, f3_, ld3⟩ := mj4qA (v5 := nxt T a_) R2.1 (by rw [q_]; decide)
            obtain ⟨h4, ⟨R4, F4⟩, ld4⟩ := c_lk (mi := 180) (pc := 19) (lo_ := [(0, .index 338)]) (s' := []) hT_ rfl (xcc_l (List.forall_mem_cons.mpr ⟨xidx_i (bcq_lt (bcq_of (n_ := 338) (z_ := (12, 26)) m3_.1 rfl)), fun q_ hq => absurd hq List.not_mem_nil⟩) (fun t_ ht => absurd ht List.not_mem_nil) (Nat.le_of_ble_eq_true rfl)) (RM_all R2 m3_ f3_) ha_
            have E4 := frQ_tr E2 (frQ_tr (frQ_all m3_ f3_) F4)
            obtain ⟨h5, m5_, f5_, ld5⟩ := mj4oA (v5 := nxt T a_) R4.1 (by rw [q_]; decide)
            obtain ⟨h6, ⟨R6, F6⟩, ld6⟩ := c_lk (mi := 180) (pc := 28) (lo_ := [(0, .index 338)]) (s' := []) hT_ rfl (xcc_l (List.forall_mem_cons.mpr ⟨xidx_i (bcq_lt (bcq_of (n_ := 338) (z_ := (12, 26)) m5_.1 rfl)), fun q_ hq => absurd hq List.not_mem_nil⟩) (fun t_ ht => absurd ht List.not_mem_nil) (Nat.le_of_ble_eq_true rfl)) (RM_all R4 m5_ f5_) ha_
            have E6 := frQ_tr E4 (frQ_tr (frQ_all m5_ f5_) F6)
            obtain ⟨h7, m7_, f7_, ld7⟩ := mj4dA (v5 := nxt T a_) R6.1 q_
            exact ⟨h7, ⟨RM_all R6 m7_ f7_, frQ_tr E6 (frQ_all m7_ f7_)⟩, fun D_ hD oo z_ => ld1 D_ (by omega) _ (ld2 D_ (by omega) _ (ld3 D_ (by omega) _ (ld4 D_ (by omega) _ (ld5 D_ (by omega) _ (ld6 D_ (by omega) _ (ld7 D_ (by omega) oo z_))))))⟩
        obtain ⟨h3, ⟨R3, E3⟩, ld3⟩ := TQ
        obtain ⟨h4, ⟨R4, F4⟩, ld4⟩ := c_lk (mi := 180) (pc := 37) (lo_ := [(0, .index 338)]) (s' := []) hT_ rfl (xcc_l (List.forall_mem_cons.mpr ⟨xidx_i (bcq_lt (bcq_of (n_ := 338) (z_ := (12, 26)) R3.1 rfl)), fun q_ hq => absurd hq List.not_mem_nil⟩) (fun t_ ht => absurd ht List.not_mem_nil) (Nat.le_of_ble_eq_true rfl)) R3 ha_
        obtain ⟨h5, m5_, e5_, f5_, ld5⟩ := mj4yA (v5 := nxt T a_) (v307 := Int32.ofNat a_) R4.1 R4.2.1.1.1
        rw [i32s] at e5_
        obtain ⟨R5, F5⟩ := RM_at R4 m5_ e5_ f5_
        have E5 := frQ_tr E3 (frQ_tr F4 F5)
        have TO : bldD (76 + 10 * (5 - o) - 4) 180 9 [(0, .index 338)] [] h_ 52 [(1, .int (nxt T a_)), (0, .index 338)] [.index 338] h5 := fun D_ hD oo z_ => ld3 D_ (by omega) _ (ld4 D_ (by omega) _ (ld5 D_ (by omega) oo z_))
        have call_ : ∀ b1 a1_ c1_, prs T u_ f_ (4 + 1) o (a_ + 1) c_ = some (b1, (a1_, c1_)) → ∃ h6 c6_ o6, ((RM u_ T h6 a1_ o6 c6_ ∧ frQ h_ h6) ∧ (b1 = true → c6_ = c1_ ∧ o6 = o)) ∧ bldD (76 + 10 * (5 - o) - 4) 180 52 [(1, .int (nxt T a_)), (0, .index 338)] [.index 338] h5 55 [(1, .int (nxt T a_)), (0, .index 338)] [.int (bI b1)] h6 := by
          intro b1 a1_ c1_ e1_
          obtain ⟨h6, c6_, o6, ⟨⟨R6, F6⟩, ec6⟩, r6⟩ := L_ (4 + 1) o (a_ + 1) c_ b1 a1_ c1_ h5 (by omega) ho (by omega) (by omega) R5 e1_
          have r6 : ∀ D_, 76 + 10 * (5 - o) - (4 + 1) ≤ D_ → xrun D_ 182 0 [(0, .index 338)] [] h5 (some (.int (bI b1)), h6, []) := r6
          have ld6 := ycv (d_ := 76 + 10 * (5 - o) - (4 + 1)) (mi := 180) (pc := 52) (cm := 182) (lo_ := [(1, .int (nxt T a_)), (0, .index 338)]) (st_ := [.index 338]) (as_ := []) (s' := []) rfl rfl (R338 R5) rfl (xcc_l (List.forall_mem_cons.mpr ⟨rfl, List.forall_mem_cons.mpr ⟨xidx_i (bcq_lt (bcq_of (n_ := 338) (z_ := (12, 26)) R5.1 rfl)), fun q_ hq => absurd hq List.not_mem_nil⟩⟩) (fun t_ ht => absurd ht List.not_mem_nil) (Nat.le_of_ble_eq_true rfl)) r6
          exact ⟨h6, c6_, o6, ⟨⟨R6, frQ_tr E5 F6⟩, ec6⟩, fun D_ hD oo z_ => ld6 D_ (by omega) oo z_⟩
        rcases thn_s P_ with ⟨⟨a1_, c1_⟩, e1_, e2_⟩ | ⟨e1_, rfl⟩
        · obtain ⟨⟨q1_, q2_⟩, q3_⟩ := prs_b T u_ f_ (4 + 1) o (a_ + 1) c_ true a1_ c1_ (Or.inl (by omega)) (by omega) e1_
          obtain ⟨q4_, q5_, -⟩ := q3_ rfl
          have q4_ := q4_ (by omega)
          obtain ⟨h6, c6_, o6, ⟨⟨R6, F6⟩, ec6⟩, ld6⟩ := call_ true a1_ c1_ e1_
          obtain ⟨rfl, rfl⟩ := ec6 rfl
          obtain ⟨h7, m7_, f7_, ld7⟩ := mj4t (v1_ := nxt T a_) (v5 := bI true) R6.1 (by decide)
          obtain ⟨h8, ⟨R8, F8⟩, ld8⟩ := c_ly (w_ := 3) (v_ := nxt T a_) (y_ := 20000 + nxt T a_) (mi := 180) (pc := 63) (lo_ := [(1, .int (nxt T a_)), (0, .index 338)]) (yof_x (l := 4) (by omega) g_) (by have := hT_.1; omega) rfl (xcc_l (List.forall_mem_cons.mpr ⟨rfl, List.forall_mem_cons.mpr ⟨xidx_i (bcq_lt (bcq_of (n_ := 338) (z_ := (12, 26)) m7_.1 rfl)), fun q_ hq => absurd hq List.not_mem_nil⟩⟩) (fun t_ ht => absurd ht List.not_mem_nil) (Nat.le_of_ble_eq_true rfl)) (RM_all R6 m7_ f7_)
          have e2_ : (if 4 = 2 then some (true, (a1_, c6_ ++ [20000 + nxt T a_])) else prs T u_ f_ (10 + 4) o6 a1_ (c6_ ++ [20000 + nxt T a_])) = some (b_, (a', c')) := e2_
          rw [if_neg (by omega)] at e2_
          obtain ⟨h9, m9_, f9_, ld9⟩ := mj4r (v1_ := nxt T a_) R8.1
          obtain ⟨h10, c10_, o10, ⟨⟨R10, F10⟩, ec10⟩, r10⟩ := J_ 4 o6 a1_ _ b_ a' c' h9 [(1, .int (nxt T a_)), (0, .index 338)] (by omega) ho q2_ (by rw [len_sn]; omega) (Or.inr ⟨by omega, _, rfl⟩) (RM_all R8 m9_ f9_) e2_
          exact ⟨h10, c10_, o10, ⟨⟨R10, frQ_tr F6 (frQ_tr (frQ_all m7_ f7_) (frQ_tr F8 (frQ_tr (frQ_all m9_ f9_) F10)))⟩, ec10⟩, fun D_ hD => TO D_ (by omega) _ (ld6 D_ (by omega) _ (ld7 D_ (by omega) _ (ld8 D_ (by omega) _ (ld9 D_ (by omega) _ (r10 D_ (by omega))))))⟩
        · obtain ⟨h6, c6_, o6, ⟨⟨R6, F6⟩, -⟩, ld6⟩ := call_ false a' c' e1_
          obtain ⟨h7, m7_, f7_, r7⟩ := mj4f (v1_ := nxt T a_) (v5 := bI false) R6.1 rfl
          exact ⟨h7, c6_, o6, ⟨⟨RM_all R6 m7_ f7_, frQ_tr F6 (frQ_all m7_ f7_)⟩, fun q_ => by cases q_⟩, fun D_ hD => TO D_ (by omega) _ (ld6 D_ (by omega) _ (r7 D_ (by omega)))⟩
      · rw [if_neg g_] at P_
        cases P_
        have nx : ∀ x_, nxt T a_ = x_ → lvF x_ = Int32.ofNat 4 → False := fun x_ e_ q_ => g_ (by rw [e_]; exact q_)
        obtain ⟨h3, m3_, f3_, ld3⟩ := mj4qA (v5 := nxt T a_) R2.1 (fun q_ => nx _ q_ (by decide))
        obtain ⟨h4, ⟨R4, F4⟩, ld4⟩ := c_lk (mi := 180) (pc := 19) (lo_ := [(0, .index 338)]) (s' := []) hT_ rfl (xcc_l (List.forall_mem_cons.mpr ⟨xidx_i (bcq_lt (bcq_of (n_ := 338) (z_ := (12, 26)) m3_.1 rfl)), fun q_ hq => absurd hq List.not_mem_nil⟩) (fun t_ ht => absurd ht List.not_mem_nil) (Nat.le_of_ble_eq_true rfl)) (RM_all R2 m3_ f3_) ha_
        obtain ⟨h5, m5_, f5_, ld5⟩ := mj4oA (v5 := nxt T a_) R4.1 (fun q_ => nx _ q_ (by decide))
        obtain ⟨h6, ⟨R6, F6⟩, ld6⟩ := c_lk (mi := 180) (pc := 28) (lo_ := [(0, .index 338)]) (s' := []) hT_ rfl (xcc_l (List.forall_mem_cons.mpr ⟨xidx_i (bcq_lt (bcq_of (n_ := 338) (z_ := (12, 26)) m5_.1 rfl)), fun q_ hq => absurd hq List.not_mem_nil⟩) (fun t_ ht => absurd ht List.not_mem_nil) (Nat.le_of_ble_eq_true rfl)) (RM_all R4 m5_ f5_) ha_
        obtain ⟨h7, m7_, f7_, r7⟩ := mj4nA (v5 := nxt T a_) R6.1 (fun q_ => nx _ q_ (by decide))
        exact ⟨h7, c_, o, ⟨⟨RM_all R6 m7_ f7_, frQ_tr E2 (frQ_tr (frQ_all m3_ f3_) (frQ_tr F4 (frQ_tr (frQ_all m5_ f5_) (frQ_tr F6 (frQ_all m7_ f7_)))))⟩, fun _ => ⟨rfl, rfl⟩⟩, fun D_ hD => ld1 D_ (by omega) _ (ld2 D_ (by omega) _ (ld3 D_ (by omega) _ (ld4 D_ (by omega) _ (ld5 D_ (by omega) _ (ld6 D_ (by omega) _ (r7 D_ (by omega)))))))⟩
    ·
      obtain ⟨h1, m1_, f1_, ld1⟩ := mj4lB (v1_ := y_)  R_.1
      obtain ⟨h2, ⟨R2, F2⟩, ld2⟩ := c_lk (mi := 180) (pc := 10) (lo_ := [(1, .int y_), (0, .index 338)]) (s' := []) hT_ rfl (xcc_l (List.forall_mem_cons.mpr ⟨rfl, List.forall_mem_cons.mpr ⟨xidx_i (bcq_lt (bcq_of (n_ := 338) (z_ := (12, 26)) m1_.1 rfl)), fun q_ hq => absurd hq List.not_mem_nil⟩⟩) (fun t_ ht => absurd ht List.not_mem_nil) (Nat.le_of_ble_eq_true rfl)) (RM_all R_ m1_ f1_) ha_
      have E2 := frQ_tr (frQ_all m1_ f1_) F2
      by_cases g_ : lvF (nxt T a_) = Int32.ofNat 4
      · rw [if_pos g_] at P_
        have ex_ := lvi4.mp g_
        have lt_ : a_ < T.length := nxt_lt (lv_n1 (by omega) g_)
        have TQ : ∃ h3, (RM u_ T h3 a_ o c_ ∧ frQ h_ h3) ∧ bldD 70 180 9 [(1, .int y_), (0, .index 338)] [] h_ 37 [(1, .int y_), (0, .index 338)] [.index 338] h3 := by
          rcases ex_ with q_ | q_ | q_
          · obtain ⟨h3, m3_, f3_, ld3⟩ := mj4pB (v1_ := y_) (v5 := nxt T a_) R2.1 q_
            exact ⟨h3, ⟨RM_all R2 m3_ f3_, frQ_tr E2 (frQ_all m3_ f3_)⟩, fun D_ hD oo z_ => ld1 D_ (by omega) _ (ld2 D_ (by omega) _ (ld3 D_ (by omega) oo z_))⟩
          · obtain ⟨h3, m3_, f3_, ld3⟩ := mj4qB (v1_ := y_) (v5 := nxt T a_) R2.1 (by rw [q_]; decide)
            obtain ⟨h4, ⟨R4, F4⟩, ld4⟩ := c_lk (mi := 180) (pc := 19) (lo_ := [(1, .int y_), (0, .index 338)]) (s' := []) hT_ rfl (xcc_l (List.forall_mem_cons.mpr ⟨rfl, List.forall_mem_cons.mpr ⟨xidx_i (bcq_lt (bcq_of (n_ := 338) (z_ := (12, 26)) m3_.1 rfl)), fun q_ hq => absurd hq List.not_mem_nil⟩⟩) (fun t_ ht => absurd ht List.not_mem_nil) (Nat.le_of_ble_eq_true rfl)) (RM_all R2 m3_ f3_) ha_
            have E4 := frQ_tr E2 (frQ_tr (frQ_all m3_ f3_) F4)
            obtain ⟨h5, m5_, f5_, ld5⟩ := mj4mB (v1_ := y_) (v5 := nxt T a_) R4.1 q_
            exact ⟨h5, ⟨RM_all R4 m5_ f5_, frQ_tr E4 (frQ_all m5_ f5_)⟩, fun D_ hD oo z_ => ld1 D_ (by omega) _ (ld2 D_ (by omega) _ (ld3 D_ (by omega) _ (ld4 D_ (by omega) _ (ld5 D_ (by omega) oo z_))))⟩
          · obtain ⟨h3, m3_, f3_, ld3⟩ := mj4qB (v1_ := y_) (v5 := nxt T a_) R2.1 (by rw [q_]; decide)
            obtain ⟨h4, ⟨R4, F4⟩, ld4⟩ := c_lk (mi := 180) (pc := 19) (lo_ := [(1, .int y_), (0, .index 338)]) (s' := []) hT_ rfl (xcc_l (List.forall_mem_cons.mpr ⟨rfl, List.forall_mem_cons.mpr ⟨xidx_i (bcq_lt (bcq_of (n_ := 338) (z_ := (12, 26)) m3_.1 rfl)), fun q_ hq => absurd hq List.not_mem_nil⟩⟩) (fun t_ ht => absurd ht List.not_mem_nil) (Nat.le_of_ble_eq_true rfl)) (RM_all R2 m3_ f3_) ha_
            have E4 := frQ_tr E2 (frQ_tr (frQ_all m3_ f3_) F4)
            obtain ⟨h5, m5_, f5_, ld5⟩ := mj4oB (v1_ := y_) (v5 := nxt T a_) R4.1 (by rw [q_]; decide)
            obtain ⟨h6, ⟨R6, F6⟩, ld6⟩ := c_lk (mi := 180) (pc := 28) (lo_ := [(1, .int y_), (0, .index 338)]) (s' := []) hT_ rfl (xcc_l (List.forall_mem_cons.mpr ⟨rfl, List.forall_mem_cons.mpr ⟨xidx_i (bcq_lt (bcq_of (n_ := 338) (z_ := (12, 26)) m5_.1 rfl)), fun q_ hq => absurd hq List.not_mem_nil⟩⟩) (fun t_ ht => absurd ht List.not_mem_nil) (Nat.le_of_ble_eq_true rfl)) (RM_all R4 m5_ f5_) ha_
            have E6 := frQ_tr E4 (frQ_tr (frQ_all m5_ f5_) F6)
            obtain ⟨h7, m7_, f7_, ld7⟩ := mj4dB (v1_ := y_) (v5 := nxt T a_) R6.1 q_
            exact ⟨h7, ⟨RM_all R6 m7_ f7_, frQ_tr E6 (frQ_all m7_ f7_)⟩, fun D_ hD oo z_ => ld1 D_ (by omega) _ (ld2 D_ (by omega) _ (ld3 D_ (by omega) _ (ld4 D_ (by omega) _ (ld5 D_ (by omega) _ (ld6 D_ (by omega) _ (ld7 D_ (by omega) oo z_))))))⟩
        obtain ⟨h3, ⟨R3, E3⟩, ld3⟩ := TQ
        obtain ⟨h4, ⟨R4, F4⟩, ld4⟩ := c_lk (mi := 180) (pc := 37) (lo_ := [(1, .int y_), (0, .index 338)]) (s' := []) hT_ rfl (xcc_l (List.forall_mem_cons.mpr ⟨rfl, List.forall_mem_cons.mpr ⟨xidx_i (bcq_lt (bcq_of (n_ := 338) (z_ := (12, 26)) R3.1 rfl)), fun q_ hq => absurd hq List.not_mem_nil⟩⟩) (fun t_ ht => absurd ht List.not_mem_nil) (Nat.le_of_ble_eq_true rfl)) R3 ha_
        obtain ⟨h5, m5_, e5_, f5_, ld5⟩ := mj4yB (v1_ := y_) (v5 := nxt T a_) (v307 := Int32.ofNat a_) R4.1 R4.2.1.1.1
        rw [i32s] at e5_
        obtain ⟨R5, F5⟩ := RM_at R4 m5_ e5_ f5_
        have E5 := frQ_tr E3 (frQ_tr F4 F5)
        have TO : bldD (76 + 10 * (5 - o) - 4) 180 9 [(1, .int y_), (0, .index 338)] [] h_ 52 [(1, .int (nxt T a_)), (0, .index 338)] [.index 338] h5 := fun D_ hD oo z_ => ld3 D_ (by omega) _ (ld4 D_ (by omega) _ (ld5 D_ (by omega) oo z_))
        have call_ : ∀ b1 a1_ c1_, prs T u_ f_ (4 + 1) o (a_ + 1) c_ = some (b1, (a1_, c1_)) → ∃ h6 c6_ o6, ((RM u_ T h6 a1_ o6 c6_ ∧ frQ h_ h6) ∧ (b1 = true → c6_ = c1_ ∧ o6 = o)) ∧ bldD (76 + 10 * (5 - o) - 4) 180 52 [(1, .int (nxt T a_)), (0, .index 338)] [.index 338] h5 55 [(1, .int (nxt T a_)), (0, .index 338)] [.int (bI b1)] h6 := by
          intro b1 a1_ c1_ e1_
          obtain ⟨h6, c6_, o6, ⟨⟨R6, F6⟩, ec6⟩, r6⟩ := L_ (4 + 1) o (a_ + 1) c_ b1 a1_ c1_ h5 (by omega) ho (by omega) (by omega) R5 e1_
          have r6 : ∀ D_, 76 + 10 * (5 - o) - (4 + 1) ≤ D_ → xrun D_ 182 0 [(0, .index 338)] [] h5 (some (.int (bI b1)), h6, []) := r6
          have ld6 := ycv (d_ := 76 + 10 * (5 - o) - (4 + 1)) (mi := 180) (pc := 52) (cm := 182) (lo_ := [(1, .int (nxt T a_)), (0, .index 338)]) (st_ := [.index 338]) (as_ := []) (s' := []) rfl rfl (R338 R5) rfl (xcc_l (List.forall_mem_cons.mpr ⟨rfl, List.forall_mem_cons.mpr ⟨xidx_i (bcq_lt (bcq_of (n_ := 338) (z_ := (12, 26)) R5.1 rfl)), fun q_ hq => absurd hq List.not_mem_nil⟩⟩) (fun t_ ht => absurd ht List.not_mem_nil) (Nat.le_of_ble_eq_true rfl)) r6
          exact ⟨h6, c6_, o6, ⟨⟨R6, frQ_tr E5 F6⟩, ec6⟩, fun D_ hD oo z_ => ld6 D_ (by omega) oo z_⟩
        rcases thn_s P_ with ⟨⟨a1_, c1_⟩, e1_, e2_⟩ | ⟨e1_, rfl⟩
        · obtain ⟨⟨q1_, q2_⟩, q3_⟩ := prs_b T u_ f_ (4 + 1) o (a_ + 1) c_ true a1_ c1_ (Or.inl (by omega)) (by omega) e1_
          obtain ⟨q4_, q5_, -⟩ := q3_ rfl
          have q4_ := q4_ (by omega)
          obtain ⟨h6, c6_, o6, ⟨⟨R6, F6⟩, ec6⟩, ld6⟩ := call_ true a1_ c1_ e1_
          obtain ⟨rfl, rfl⟩ := ec6 rfl
          obtain ⟨h7, m7_, f7_, ld7⟩ := mj4t (v1_ := nxt T a_) (v5 := bI true) R6.1 (by decide)
          obtain ⟨h8, ⟨R8, F8⟩, ld8⟩ := c_ly (w_ := 3) (v_ := nxt T a_) (y_ := 20000 + nxt T a_) (mi := 180) (pc := 63) (lo_ := [(1, .int (nxt T a_)), (0, .index 338)]) (yof_x (l := 4) (by omega) g_) (by have := hT_.1; omega) rfl (xcc_l (List.forall_mem_cons.mpr ⟨rfl, List.forall_mem_cons.mpr ⟨xidx_i (bcq_lt (bcq_of (n_ := 338) (z_ := (12, 26)) m7_.1 rfl)), fun q_ hq => absurd hq List.not_mem_nil⟩⟩) (fun t_ ht => absurd ht List.not_mem_nil) (Nat.le_of_ble_eq_true rfl)) (RM_all R6 m7_ f7_)
          have e2_ : (if 4 = 2 then some (true, (a1_, c6_ ++ [20000 + nxt T a_])) else prs T u_ f_ (10 + 4) o6 a1_ (c6_ ++ [20000 + nxt T a_])) = some (b_, (a', c')) := e2_
          rw [if_neg (by omega)] at e2_
          obtain ⟨h9, m9_, f9_, ld9⟩ := mj4r (v1_ := nxt T a_) R8.1
          obtain ⟨h10, c10_, o10, ⟨⟨R10, F10⟩, ec10⟩, r10⟩ := J_ 4 o6 a1_ _ b_ a' c' h9 [(1, .int (nxt T a_)), (0, .index 338)] (by omega) ho q2_ (by rw [len_sn]; omega) (Or.inr ⟨by omega, _, rfl⟩) (RM_all R8 m9_ f9_) e2_
          exact ⟨h10, c10_, o10, ⟨⟨R10, frQ_tr F6 (frQ_tr (frQ_all m7_ f7_) (frQ_tr F8 (frQ_tr (frQ_all m9_ f9_) F10)))⟩, ec10⟩, fun D_ hD => TO D_ (by omega) _ (ld6 D_ (by omega) _ (ld7 D_ (by omega) _ (ld8 D_ (by omega) _ (ld9 D_ (by omega) _ (r10 D_ (by omega))))))⟩
        · obtain ⟨h6, c6_, o6, ⟨⟨R6, F6⟩, -⟩, ld6⟩ := call_ false a' c' e1_
          obtain ⟨h7, m7_, f7_, r7⟩ := mj4f (v1_ := nxt T a_) (v5 := bI false) R6.1 rfl
          exact ⟨h7, c6_, o6, ⟨⟨RM_all R6 m7_ f7_, frQ_tr F6 (frQ_all m7_ f7_)⟩, fun q_ => by cases q_⟩, fun D_ hD => TO D_ (by omega) _ (ld6 D_ (by omega) _ (r7 D_ (by omega)))⟩
      · rw [if_neg g_] at P_
        cases P_
        have nx : ∀ x_, nxt T a_ = x_ → lvF x_ = Int32.ofNat 4 → False := fun x_ e_ q_ => g_ (by rw [e_]; exact q_)
        obtain ⟨h3, m3_, f3_, ld3⟩ := mj4qB (v1_ := y_) (v5 := nxt T a_) R2.1 (fun q_ => nx _ q_ (by decide))
        obtain ⟨h4, ⟨R4, F4⟩, ld4⟩ := c_lk (mi := 180) (pc := 19) (lo_ := [(1, .int y_), (0, .index 338)]) (s' := []) hT_ rfl (xcc_l (List.forall_mem_cons.mpr ⟨rfl, List.forall_mem_cons.mpr ⟨xidx_i (bcq_lt (bcq_of (n_ := 338) (z_ := (12, 26)) m3_.1 rfl)), fun q_ hq => absurd hq List.not_mem_nil⟩⟩) (fun t_ ht => absurd ht List.not_mem_nil) (Nat.le_of_ble_eq_true rfl)) (RM_all R2 m3_ f3_) ha_
        obtain ⟨h5, m5_, f5_, ld5⟩ := mj4oB (v1_ := y_) (v5 := nxt T a_) R4.1 (fun q_ => nx _ q_ (by decide))
        obtain ⟨h6, ⟨R6, F6⟩, ld6⟩ := c_lk (mi := 180) (pc := 28) (lo_ := [(1, .int y_), (0, .index 338)]) (s' := []) hT_ rfl (xcc_l (List.forall_mem_cons.mpr ⟨rfl, List.forall_mem_cons.mpr ⟨xidx_i (bcq_lt (bcq_of (n_ := 338) (z_ := (12, 26)) m5_.1 rfl)), fun q_ hq => absurd hq List.not_mem_nil⟩⟩) (fun t_ ht => absurd ht List.not_mem_nil) (Nat.le_of_ble_eq_true rfl)) (RM_all R4 m5_ f5_) ha_
        obtain ⟨h7, m7_, f7_, r7⟩ := mj4nB (v1_ := y_) (v5 := nxt T a_) R6.1 (fun q_ => nx _ q_ (by decide))
        exact ⟨h7, c_, o, ⟨⟨RM_all R6 m7_ f7_, frQ_tr E2 (frQ_tr (frQ_all m3_ f3_) (frQ_tr F4 (frQ_tr (frQ_all m5_ f5_) (frQ_tr F6 (frQ_all m7_ f7_)))))⟩, fun _ => ⟨rfl, rfl⟩⟩, fun D_ hD => ld1 D_ (by omega) _ (ld2 D_ (by omega) _ (ld3 D_ (by omega) _ (ld4 D_ (by omega) _ (ld5 D_ (by omega) _ (ld6 D_ (by omega) _ (r7 D_ (by omega)))))))⟩
theorem QM_s (hu : u_ < 2) (hT_ : byts T) {f_ : Nat} (L_ : LMs u_ T f_) : ∀ (o a_ : Nat) (c_ : List Int32) (b_ : Bool) (a' : Nat) (c' : List Int32) (h_ : xH), o ≤ 5 → a_ ≤ T.length → c_.length ≤ a_ → RM u_ T h_ a_ o c_ → prs T u_ (f_ + 1) 5 o a_ c_ = some (b_, (a', c')) → ∃ h' c2_ o2, ((RM u_ T h' a' o2 c2_ ∧ frQ h_ h') ∧ (b_ = true → c2_ = c' ∧ o2 = o)) ∧ ∀ D_, 71 + 10 * (5 - o) ≤ D_ → xrun D_ 182 0 [(0, .index 338)] [] h_ (some (.int (bI b_)), h', []) := by
  intro o a_ c_ b_ a' c' h_ ho ha_ hc_ R_ P_
  rw [prs_q] at P_
  have l60 := hT_.1
  have z48_ : (48 : Int32).toInt = 48 := rfl
  have z57 : (57 : Int32).toInt = 57 := rfl
  obtain ⟨h1, m1_, f1_, ld1⟩ := mo0 R_.1
  obtain ⟨h2, ⟨R2, F2⟩, ld2⟩ := c_lk (mi := 182) (pc := 1) (lo_ := [(0, .index 338)]) (s' := []) hT_ rfl (xcc_l (List.forall_mem_cons.mpr ⟨xidx_i (bcq_lt (bcq_of (n_ := 338) (z_ := (12, 26)) m1_.1 rfl)), fun q_ hq => absurd hq List.not_mem_nil⟩) (fun t_ ht => absurd ht List.not_mem_nil) (Nat.le_of_ble_eq_true rfl)) (RM_all R_ m1_ f1_) ha_
  obtain ⟨h3, m3_, f3_, ld3⟩ := mo1 (v1_ := nxt T a_) R2.1
  have R3 := RM_all R2 m3_ f3_
  obtain ⟨h4, ⟨R4, F4⟩, r4⟩ := nmX hu R3 (nxt T a_)
  have ld4 := ycv (d_ := 60) (mi := 182) (pc := 7) (cm := 174) (lo_ := [(1, .int (nxt T a_)), (0, .index 338)]) (st_ := [.int (nxt T a_), .index 338]) (as_ := [.int (nxt T a_)]) (s' := []) rfl rfl (R338 R3) rfl (xcc_l (List.forall_mem_cons.mpr ⟨rfl, List.forall_mem_cons.mpr ⟨xidx_i (bcq_lt (bcq_of (n_ := 338) (z_ := (12, 26)) R3.1 rfl)), fun q_ hq => absurd hq List.not_mem_nil⟩⟩) (fun t_ ht => absurd ht List.not_mem_nil) (Nat.le_of_ble_eq_true rfl)) r4
  have E4 := frQ_tr (frQ_all m1_ f1_) (frQ_tr F2 (frQ_tr (frQ_all m3_ f3_) F4))
  have T4 : bldD 61 182 0 [(0, .index 338)] [] h_ 10 [(1, .int (nxt T a_)), (0, .index 338)] [.int (if nmi u_ (nxt T a_) < 4 then 1 else 0)] h4 := fun D_ hD oo z_ => ld1 D_ (by omega) _ (ld2 D_ (by omega) _ (ld3 D_ (by omega) _ (ld4 D_ (by omega) oo z_)))
  by_cases g_ : 48 ≤ (nxt T a_).toInt ∧ (nxt T a_).toInt ≤ 57
  · rw [if_pos g_] at P_
    cases P_
    have en : ¬ nmi u_ (nxt T a_) < 4 := fun q_ => by have q_ := nmi_n1 q_; omega
    rw [if_neg en] at T4
    obtain ⟨h5, m5_, f5_, ld5⟩ := moD (v1_ := nxt T a_) (v5 := 0) R4.1 rfl g_.2 g_.1
    obtain ⟨h6, i6_, ⟨R6, F6⟩, ld6⟩ := nm_lp (z_ := nxt T a_) hT_ 4 a_ 0 0 h5 rfl ha_ (RM_all R4 m5_ f5_)
    have rb := rdn_1 g_
    obtain ⟨h7, ⟨R7, F7⟩, ld7⟩ := c_ly (w_ := 0) (v_ := (rdn T 4 a_ 0).2) (y_ := (rdn T 4 a_ 0).2) (mi := 182) (pc := 97) (lo_ := [(3, .int i6_), (2, .int (rdn T 4 a_ 0).2), (1, .int (nxt T a_)), (0, .index 338)]) (yof_n (by omega)) (by omega) rfl (xcc_l (List.forall_mem_cons.mpr ⟨rfl, List.forall_mem_cons.mpr ⟨rfl, List.forall_mem_cons.mpr ⟨rfl, List.forall_mem_cons.mpr ⟨xidx_i (bcq_lt (bcq_of (n_ := 338) (z_ := (12, 26)) R6.1 rfl)), fun q_ hq => absurd hq List.not_mem_nil⟩⟩⟩⟩) (fun t_ ht => absurd ht List.not_mem_nil) (Nat.le_of_ble_eq_true rfl)) R6
    obtain ⟨h8, m8_, f8_, r8⟩ := mnr (v1_ := nxt T a_) (v2 := (rdn T 4 a_ 0).2) (v3 := i6_) R7.1
    exact ⟨h8, _, o, ⟨⟨RM_all R7 m8_ f8_, frQ_tr E4 (frQ_tr (frQ_all m5_ f5_) (frQ_tr F6 (frQ_tr F7 (frQ_all m8_ f8_))))⟩, fun _ => ⟨rfl, rfl⟩⟩, fun D_ hD => T4 D_ (by omega) _ (ld5 D_ (by omega) _ (ld6 D_ (by omega) _ (ld7 D_ (by omega) _ (r8 D_ (by omega)))))⟩
  rw [if_neg g_] at P_
  by_cases g2 : nmi u_ (nxt T a_) < 4
  · rw [if_pos g2] at P_ T4
    cases P_
    have b2 := nmi_n1 g2
    have lt_ : a_ < T.length := nxt_lt (fun q_ => by rw [q_] at b2; exact absurd b2.1 (by decide))
    obtain ⟨h5, m5_, e5_, f5_, ld5⟩ := moN (v1_ := nxt T a_) (v5 := 1) (v307 := Int32.ofNat a_) R4.1 R4.2.1.1.1 (by decide)
    rw [i32s] at e5_
    obtain ⟨R5, F5⟩ := RM_at R4 m5_ e5_ f5_
    obtain ⟨h6, ⟨R6, F6⟩, ld6⟩ := c_ly (w_ := 1) (v_ := nxt T a_) (y_ := Int32.ofNat (10000 + nmi u_ (nxt T a_))) (mi := 182) (pc := 26) (lo_ := [(1, .int (nxt T a_)), (0, .index 338)]) ((yof_m g2).trans (by rw [← nmi_x g2])) (by omega) rfl (xcc_l (List.forall_mem_cons.mpr ⟨rfl, List.forall_mem_cons.mpr ⟨xidx_i (bcq_lt (bcq_of (n_ := 338) (z_ := (12, 26)) R5.1 rfl)), fun q_ hq => absurd hq List.not_mem_nil⟩⟩) (fun t_ ht => absurd ht List.not_mem_nil) (Nat.le_of_ble_eq_true rfl)) R5
    obtain ⟨h7, m7_, f7_, r7⟩ := moNr (v1_ := nxt T a_) R6.1
    exact ⟨h7, _, o, ⟨⟨RM_all R6 m7_ f7_, frQ_tr E4 (frQ_tr F5 (frQ_tr F6 (frQ_all m7_ f7_)))⟩, fun _ => ⟨rfl, rfl⟩⟩, fun D_ hD => T4 D_ (by omega) _ (ld5 D_ (by omega) _ (ld6 D_ (by omega) _ (r7 D_ (by omega))))⟩
  rw [if_neg g2] at P_ T4
  have TQ : ∃ h5, (RM u_ T h5 a_ o c_ ∧ frQ h_ h5) ∧ bldD 61 182 0 [(0, .index 338)] [] h_ 102 [(1, .int (nxt T a_)), (0, .index 338)] [] h5 := by
    by_cases g9 : (nxt T a_).toInt < 48
    · obtain ⟨h5, m5_, f5_, ld5⟩ := moE1 (v1_ := nxt T a_) (v5 := 0) R4.1 rfl (by omega)
      exact ⟨h5, ⟨RM_all R4 m5_ f5_, frQ_tr E4 (frQ_all m5_ f5_)⟩, fun D_ hD oo z_ => T4 D_ (by omega) _ (ld5 D_ (by omega) oo z_)⟩
    · obtain ⟨h5, m5_, f5_, ld5⟩ := moE2 (v1_ := nxt T a_) (v5 := 0) R4.1 rfl (by omega) (by omega)
      exact ⟨h5, ⟨RM_all R4 m5_ f5_, frQ_tr E4 (frQ_all m5_ f5_)⟩, fun D_ hD oo z_ => T4 D_ (by omega) _ (ld5 D_ (by omega) oo z_)⟩
  obtain ⟨h5, ⟨R5, E5⟩, ld5⟩ := TQ
  have o5_ : ¬ o = 5 → ¬ Int32.ofNat o = 5 := fun n_ q_ => n_ (by
    have q_ := congrArg Int32.toInt q_
    rw [i32n (by omega), i5_] at q_
    omega)
  by_cases g3_ : 5 ≤ o
  · rw [if_pos g3_] at P_
    cases P_
    have eo : Int32.ofNat o = 5 := by rw [show o = 5 by omega]; rfl
    by_cases g4 : nxt T a_ = 33
    · obtain ⟨h6, m6_, f6_, r6⟩ := mo33f (v1_ := nxt T a_) (v308 := Int32.ofNat o) R5.1 R5.2.1.1.2 g4 eo
      exact ⟨h6, c_, o, ⟨⟨RM_all R5 m6_ f6_, frQ_tr E5 (frQ_all m6_ f6_)⟩, fun q_ => by cases q_⟩, fun D_ hD => ld5 D_ (by omega) _ (r6 D_ (by omega))⟩
    · by_cases g5_ : nxt T a_ = 40
      · obtain ⟨h6, m6_, f6_, r6⟩ := mo40f (v1_ := nxt T a_) (v308 := Int32.ofNat o) R5.1 R5.2.1.1.2 g5_ g4 eo
        exact ⟨h6, c_, o, ⟨⟨RM_all R5 m6_ f6_, frQ_tr E5 (frQ_all m6_ f6_)⟩, fun q_ => by cases q_⟩, fun D_ hD => ld5 D_ (by omega) _ (r6 D_ (by omega))⟩
      · obtain ⟨h6, m6_, f6_, r6⟩ := moz (v1_ := nxt T a_) R5.1 g4 g5_
        exact ⟨h6, c_, o, ⟨⟨RM_all R5 m6_ f6_, frQ_tr E5 (frQ_all m6_ f6_)⟩, fun q_ => by cases q_⟩, fun D_ hD => ld5 D_ (by omega) _ (r6 D_ (by omega))⟩
  rw [if_neg g3_] at P_
  have o5_ := o5_ (by omega)
  have eo1 : Int32.ofNat (o + 1) - 1 = Int32.ofNat o := by rw [← i32s, i32a]
  by_cases g4 : nxt T a_ = 33
  · rw [if_pos g4] at P_
    have lt_ : a_ < T.length := nxt_lt (fun q_ => by rw [q_] at g4; exact absurd g4 (by decide))
    obtain ⟨h6, m6_, e7_, e8, f6_, ld6⟩ := mo33t (v1_ := nxt T a_) (v307 := Int32.ofNat a_) (v308 := Int32.ofNat o) R5.1 R5.2.1.1.2 R5.2.1.1.1 g4 o5_
    rw [i32s] at e7_ e8
    obtain ⟨R6, F6⟩ := RM_o (c' := c_) R5 m6_ e7_ e8 (fun c_ j_ n_ => f6_ c_ j_ (by omega) (by omega))
    have call_ : ∀ b1 a1_ c1_, prs T u_ f_ 5 (o + 1) (a_ + 1) c_ = some (b1, (a1_, c1_)) → ∃ h7 c7_ o7, ((RM u_ T h7 a1_ o7 c7_ ∧ frQ h_ h7) ∧ (b1 = true → c7_ = c1_ ∧ o7 = o + 1)) ∧ bldD (71 + 10 * (5 - o)) 182 0 [(0, .index 338)] [] h_ 119 [(1, .int (nxt T a_)), (0, .index 338)] [.int (bI b1)] h7 := by
      intro b1 a1_ c1_ e1_
      obtain ⟨h7, c7_, o7, ⟨⟨R7, F7⟩, ec7⟩, r7⟩ := L_ 5 (o + 1) (a_ + 1) c_ b1 a1_ c1_ h6 (by omega) (by omega) (by omega) (by omega) R6 e1_
      have r7 : ∀ D_, 76 + 10 * (5 - (o + 1)) - 5 ≤ D_ → xrun D_ 182 0 [(0, .index 338)] [] h6 (some (.int (bI b1)), h7, []) := r7
      have ld7 := ycv (d_ := 76 + 10 * (5 - (o + 1)) - 5) (mi := 182) (pc := 116) (cm := 182) (lo_ := [(1, .int (nxt T a_)), (0, .index 338)]) (st_ := [.index 338]) (as_ := []) (s' := []) rfl rfl (R338 R6) rfl (xcc_l (List.forall_mem_cons.mpr ⟨rfl, List.forall_mem_cons.mpr ⟨xidx_i (bcq_lt (bcq_of (n_ := 338) (z_ := (12, 26)) R6.1 rfl)), fun q_ hq => absurd hq List.not_mem_nil⟩⟩) (fun t_ ht => absurd ht List.not_mem_nil) (Nat.le_of_ble_eq_true rfl)) r7
      exact ⟨h7, c7_, o7, ⟨⟨R7, frQ_tr E5 (frQ_tr F6 F7)⟩, ec7⟩, fun D_ hD oo z_ => ld5 D_ (by omega) _ (ld6 D_ (by omega) _ (ld7 D_ (by omega) oo z_))⟩
    rcases thn_s P_ with ⟨⟨a1_, c1_⟩, e1_, e2_⟩ | ⟨e1_, rfl⟩
    · obtain ⟨rfl, rfl, rfl⟩ := inj3 (show some (true, (a1_, c1_ ++ [20033])) = some (b_, (a', c')) from e2_)
      obtain ⟨⟨q1_, q2_⟩, q3_⟩ := prs_b T u_ f_ 5 (o + 1) (a_ + 1) c_ true a1_ c1_ (Or.inl (by omega)) (by omega) e1_
      obtain ⟨q4_, q5_, -⟩ := q3_ rfl
      have q4_ := q4_ (by omega)
      obtain ⟨h7, c7_, o7, ⟨⟨R7, F7⟩, ec7⟩, ld7⟩ := call_ true a1_ c1_ e1_
      obtain ⟨rfl, rfl⟩ := ec7 rfl
      obtain ⟨h8, m8_, e8, f8_, ld8⟩ := mo33b (v1_ := nxt T a_) (v5 := bI true) (v308 := Int32.ofNat (o + 1)) R7.1 R7.2.1.1.2 (by decide)
      rw [eo1] at e8
      obtain ⟨R8, F8⟩ := RM_op R7 m8_ e8 f8_
      obtain ⟨h9, ⟨R9, F9⟩, ld9⟩ := c_ly (w_ := 2) (v_ := 0) (y_ := 20033) (mi := 182) (pc := 137) (lo_ := [(1, .int (nxt T a_)), (0, .index 338)]) yof_d (by omega) rfl (xcc_l (List.forall_mem_cons.mpr ⟨rfl, List.forall_mem_cons.mpr ⟨xidx_i (bcq_lt (bcq_of (n_ := 338) (z_ := (12, 26)) R8.1 rfl)), fun q_ hq => absurd hq List.not_mem_nil⟩⟩) (fun t_ ht => absurd ht List.not_mem_nil) (Nat.le_of_ble_eq_true rfl)) R8
      obtain ⟨h10, m10_, f10, r10⟩ := mo33r (v1_ := nxt T a_) R9.1
      exact ⟨h10, _, o, ⟨⟨RM_all R9 m10_ f10, frQ_tr F7 (frQ_tr F8 (frQ_tr F9 (frQ_all m10_ f10)))⟩, fun _ => ⟨rfl, rfl⟩⟩, fun D_ hD => ld7 D_ (by omega) _ (ld8 D_ (by omega) _ (ld9 D_ (by omega) _ (r10 D_ (by omega))))⟩
    · obtain ⟨h7, c7_, o7, ⟨⟨R7, F7⟩, -⟩, ld7⟩ := call_ false a' c' e1_
      obtain ⟨h8, m8_, f8_, r8⟩ := mo33a (v1_ := nxt T a_) (v5 := bI false) R7.1 rfl
      exact ⟨h8, c7_, o7, ⟨⟨RM_all R7 m8_ f8_, frQ_tr F7 (frQ_all m8_ f8_)⟩, fun q_ => by cases q_⟩, fun D_ hD => ld7 D_ (by omega) _ (r8 D_ (by omega))⟩
  rw [if_neg g4] at P_
  by_cases g5_ : nxt T a_ = 40
  · rw [if_pos g5_] at P_
    have lt_ : a_ < T.length := nxt_lt (fun q_ => by rw [q_] at g5_; exact absurd g5_ (by decide))
    obtain ⟨h6, m6_, e7_, e8, f6_, ld6⟩ := mo40t (v1_ := nxt T a_) (v307 := Int32.ofNat a_) (v308 := Int32.ofNat o) R5.1 R5.2.1.1.2 R5.2.1.1.1 g5_ g4 o5_
    rw [i32s] at e7_ e8
    obtain ⟨R6, F6⟩ := RM_o (c' := c_) R5 m6_ e7_ e8 (fun c_ j_ n_ => f6_ c_ j_ (by omega) (by omega))
    have call_ : ∀ b1 a1_ c1_, prs T u_ f_ 0 (o + 1) (a_ + 1) c_ = some (b1, (a1_, c1_)) → ∃ h7 c7_ o7, ((RM u_ T h7 a1_ o7 c7_ ∧ frQ h_ h7) ∧ (b1 = true → c7_ = c1_ ∧ o7 = o + 1)) ∧ bldD (71 + 10 * (5 - o)) 182 0 [(0, .index 338)] [] h_ 159 [(1, .int (nxt T a_)), (0, .index 338)] [.int (bI b1)] h7 := by
      intro b1 a1_ c1_ e1_
      obtain ⟨h7, c7_, o7, ⟨⟨R7, F7⟩, ec7⟩, r7⟩ := L_ 0 (o + 1) (a_ + 1) c_ b1 a1_ c1_ h6 (by omega) (by omega) (by omega) (by omega) R6 e1_
      have r7 : ∀ D_, 76 + 10 * (5 - (o + 1)) - 0 ≤ D_ → xrun D_ 176 0 [(0, .index 338)] [] h6 (some (.int (bI b1)), h7, []) := r7
      have ld7 := ycv (d_ := 76 + 10 * (5 - (o + 1)) - 0) (mi := 182) (pc := 156) (cm := 176) (lo_ := [(1, .int (nxt T a_)), (0, .index 338)]) (st_ := [.index 338]) (as_ := []) (s' := []) rfl rfl (R338 R6) rfl (xcc_l (List.forall_mem_cons.mpr ⟨rfl, List.forall_mem_cons.mpr ⟨xidx_i (bcq_lt (bcq_of (n_ := 338) (z_ := (12, 26)) R6.1 rfl)), fun q_ hq => absurd hq List.not_mem_nil⟩⟩) (fun t_ ht => absurd ht List.not_mem_nil) (Nat.le_of_ble_eq_true rfl)) r7
      exact ⟨h7, c7_, o7, ⟨⟨R7, frQ_tr E5 (frQ_tr F6 F7)⟩, ec7⟩, fun D_ hD oo z_ => ld5 D_ (by omega) _ (ld6 D_ (by omega) _ (ld7 D_ (by omega) oo z_))⟩
    rcases thn_s P_ with ⟨⟨a1_, c1_⟩, e1_, e2_⟩ | ⟨e1_, rfl⟩
    · obtain ⟨⟨q1_, q2_⟩, q3_⟩ := prs_b T u_ f_ 0 (o + 1) (a_ + 1) c_ true a1_ c1_ (Or.inl (by omega)) (by omega) e1_
      obtain ⟨h7, c7_, o7, ⟨⟨R7, F7⟩, ec7⟩, ld7⟩ := call_ true a1_ c1_ e1_
      obtain ⟨rfl, rfl⟩ := ec7 rfl
      have e2_ : (if nxt T a1_ = 41 then some (true, (a1_ + 1, c7_)) else some (false, (a1_, c7_))) = some (b_, (a', c')) := e2_
      obtain ⟨h8, m8_, f8_, ld8⟩ := mo40b (v1_ := nxt T a_) (v5 := bI true) R7.1 (by decide)
      obtain ⟨h9, ⟨R9, F9⟩, ld9⟩ := c_lk (mi := 182) (pc := 163) (lo_ := [(1, .int (nxt T a_)), (0, .index 338)]) (s' := []) hT_ rfl (xcc_l (List.forall_mem_cons.mpr ⟨rfl, List.forall_mem_cons.mpr ⟨xidx_i (bcq_lt (bcq_of (n_ := 338) (z_ := (12, 26)) m8_.1 rfl)), fun q_ hq => absurd hq List.not_mem_nil⟩⟩) (fun t_ ht => absurd ht List.not_mem_nil) (Nat.le_of_ble_eq_true rfl)) (RM_all R7 m8_ f8_) q2_
      have E9 := frQ_tr F7 (frQ_tr (frQ_all m8_ f8_) F9)
      by_cases g6 : nxt T a1_ = 41
      · rw [if_pos g6] at e2_
        obtain ⟨rfl, rfl, rfl⟩ := inj3 e2_
        obtain ⟨h10, m10_, e8, e7_, f10, r10⟩ := mo40c (v1_ := nxt T a_) (v5 := nxt T a1_) (v307 := Int32.ofNat a1_) (v308 := Int32.ofNat (o + 1)) R9.1 R9.2.1.1.1 R9.2.1.1.2 g6
        rw [i32s] at e7_
        rw [eo1] at e8
        obtain ⟨R10, F10⟩ := RM_o (c' := c_) R9 m10_ e7_ e8 (fun c_ j_ n_ => f10 c_ j_ (by omega) (by omega))
        exact ⟨h10, _, o, ⟨⟨R10, frQ_tr E9 F10⟩, fun _ => ⟨rfl, rfl⟩⟩, fun D_ hD => ld7 D_ (by omega) _ (ld8 D_ (by omega) _ (ld9 D_ (by omega) _ (r10 D_ (by omega))))⟩
      · rw [if_neg g6] at e2_
        obtain ⟨rfl, rfl, rfl⟩ := inj3 e2_
        obtain ⟨h10, m10_, f10, r10⟩ := mo40d (v1_ := nxt T a_) (v5 := nxt T a1_) R9.1 g6
        exact ⟨h10, _, _, ⟨⟨RM_all R9 m10_ f10, frQ_tr E9 (frQ_all m10_ f10)⟩, fun q_ => by cases q_⟩, fun D_ hD => ld7 D_ (by omega) _ (ld8 D_ (by omega) _ (ld9 D_ (by omega) _ (r10 D_ (by omega))))⟩
    · obtain ⟨h7, c7_, o7, ⟨⟨R7, F7⟩, -⟩, ld7⟩ := call_ false a' c' e1_
      obtain ⟨h8, m8_, f8_, r8⟩ := mo40a (v1_ := nxt T a_) (v5 := bI false) R7.1 rfl
      exact ⟨h8, c7_, o7, ⟨⟨RM_all R7 m8_ f8_, frQ_tr F7 (frQ_all m8_ f8_)⟩, fun q_ => by cases q_⟩, fun D_ hD => ld7 D_ (by omega) _ (r8 D_ (by omega))⟩
  rw [if_neg g5_] at P_
  cases P_
  obtain ⟨h6, m6_, f6_, r6⟩ := moz (v1_ := nxt T a_) R5.1 g4 g5_
  exact ⟨h6, c_, o, ⟨⟨RM_all R5 m6_ f6_, frQ_tr E5 (frQ_all m6_ f6_)⟩, fun q_ => by cases q_⟩, fun D_ hD => ld5 D_ (by omega) _ (r6 D_ (by omega))⟩
theorem rdm (hu : u_ < 2) (hT_ : byts T) : ∀ f_, LMs u_ T f_ ∧ JMs u_ T f_ := by
  intro f_
  induction f_ with
  | zero => exact ⟨fun k_ o a_ c_ b_ a' c' h_ _ _ _ _ _ P_ => (by cases P_), fun k_ o a_ c_ b_ a' c' h_ lo_ _ _ _ _ _ _ P_ => (by cases P_)⟩
  | succ f_ ih_ => exact ⟨LM_s ih_.1 ih_.2 (QM_s hu hT_ ih_.1), JM_s hT_ ih_.1 ih_.2⟩
end
