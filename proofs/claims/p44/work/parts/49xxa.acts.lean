-- ===== rows alike
/-- so many at the begin are alike -/
def fuN (l1 l2 : List Int32) : Nat := match l1, l2 with
  | x_ :: s_, y_ :: t_ => if x_ = y_ then fuN s_ t_ + 1 else 0
  | _, _ => 0
def fuF (l1 l2 : List Int32) : Int32 := if l1 = l2 then Int32.ofInt (-1) else Int32.ofNat (fuN l1 l2)
theorem fuN_c {x_ y_ : Int32} {s_ t_ : List Int32} : fuN (x_ :: s_) (y_ :: t_) = if x_ = y_ then fuN s_ t_ + 1 else 0 := rfl
theorem fuN_n {l : List Int32} : fuN l [] = 0 := by cases l <;> rfl
theorem fuN_i : ∀ (i_ : Nat) (l1 l2 : List Int32), (∀ j_, j_ < i_ → ∃ x_, l1[j_]? = some x_ ∧ l2[j_]? = some x_) → (∀ x_, l1[i_]? = some x_ → l2[i_]? = some x_ → False) → fuN l1 l2 = i_ := by
  intro i_
  induction i_ with
  | zero =>
    intro l1 l2 _ h2
    cases l1 with
    | nil => rfl
    | cons x_ s_ =>
      cases l2 with
      | nil => rfl
      | cons y_ t_ =>
        rw [fuN_c]
        by_cases g_ : x_ = y_
        · exact absurd (h2 x_ rfl (by rw [g_]; rfl)) id
        · rw [if_neg g_]
  | succ i_ ih_ =>
    intro l1 l2 h1 h2
    obtain ⟨x_, e1_, e2_⟩ := h1 0 (by omega)
    cases l1 with
    | nil => cases e1_
    | cons x1_ s_ =>
      cases l2 with
      | nil => cases e2_
      | cons y_ t_ =>
        have e1_ : some x1_ = some x_ := e1_
        have e2_ : some y_ = some x_ := e2_
        cases e1_
        cases e2_
        rw [fuN_c, if_pos rfl, ih_ s_ t_ (fun j_ hj => h1 (j_ + 1) (by omega)) (fun z_ z1 z2 => h2 z_ z1 z2)]
theorem fu_eq {l1 l2 : List Int32} (hl : l1.length = l2.length) (h1 : ∀ j_, j_ < l1.length → ∃ x_, l1[j_]? = some x_ ∧ l2[j_]? = some x_) : l1 = l2 := by
  refine List.ext_getElem? (fun j_ => ?_)
  by_cases g_ : j_ < l1.length
  · obtain ⟨x_, e1_, e2_⟩ := h1 j_ g_
    rw [e1_, e2_]
  · rw [List.getElem?_eq_none_iff.mpr (by omega), List.getElem?_eq_none_iff.mpr (by omega)]
theorem fuF_1 {l : List Int32} : fuF l l = Int32.ofInt (-1) := if_pos rfl
theorem fuF_n {l1 l2 : List Int32} (h_ : ¬ l1 = l2) : fuF l1 l2 = Int32.ofNat (fuN l1 l2) := if_neg h_
theorem fuN_l : ∀ {l1 l2 : List Int32}, fuN l1 l2 ≤ l1.length := by
  intro l1
  induction l1 with
  | nil => intro l2; exact Nat.le_refl _
  | cons x_ s_ ih_ =>
    intro l2
    cases l2 with
    | nil => exact Nat.zero_le _
    | cons y_ t_ =>
      rw [fuN_c]
      by_cases g_ : x_ = y_
      · rw [if_pos g_]
        have := ih_ (l2 := t_)
        show fuN s_ t_ + 1 ≤ s_.length + 1
        omega
      · rw [if_neg g_]
        exact Nat.zero_le _
theorem imin {n_ m_ : Nat} (hn : n_ < 1000) (hm_ : m_ < 1000) : (if Int32.ofNat m_ < Int32.ofNat n_ then Int32.ofNat m_ else Int32.ofNat n_) = Int32.ofNat (min n_ m_) := by
  by_cases g_ : m_ < n_
  · rw [if_pos (by rw [Int32.lt_iff_toInt_lt, i32n (by omega), i32n (by omega)]; omega), Nat.min_eq_right (by omega)]
  · rw [if_neg (by rw [Int32.lt_iff_toInt_lt, i32n (by omega), i32n (by omega)]; omega), Nat.min_eq_left (by omega)]
-- xfuE: 8 steps, 1 ends, 0 returns
def xfuE_L : List (Nat × Nat × Nat) := [(1000, 6, 2), (1002, 6, 2)]
def xfuE_O : yO := [(1000, .int 1, .arg 300), (1002, .int 1, .arg 301)]
def xfuE_A : yA := (yZ xfuE_L, [], [], [], [])
def xfuE_C : List xB := []
def xfuE_ss : List yS := [(14, [(3, .int 0), (2, .op2 .fcmpg (.arg 300) (.arg 301)), (0, .index 1000), (1, .index 1002)], [], [(1000, .int 1, .arg 300), (1002, .int 1, .arg 301)], [], [])]
def xfuE_rs : List yR := []
theorem xfuE_w : ywa xfuE_A xfuE_ss xfuE_rs = true := by decide +kernel
theorem xfuE_k : yis (yev xfuE_A 3000 60 40 [14] (0, [(0, .index 1000), (1, .index 1002)], [], xfuE_O, xfuE_C, [])) xfuE_ss xfuE_rs = true := by decide +kernel
def xfuE_r (v300 v301 : Int32) (k_ : Nat) : Value := bif Nat.beq k_ 300 then .int v300 else (bif Nat.beq k_ 301 then .int v301 else (.int 0))
def xfuE_s (a1000 a1002 : Nat) (n_ : Nat) : Nat := bif Nat.beq n_ 1000 then a1000 else (bif Nat.beq n_ 1002 then a1002 else (0))
theorem xfuE {h_ : xH} {a1000 a1002 : Nat} {v300 v301 : Int32} (hs : sHp h_) (k1000 : bcq h_ a1000 6 2) (k1002 : bcq h_ a1002 6 2) (o0_ : bpat h_ a1000 1 = some (.int v300)) (o1 : bpat h_ a1002 1 = some (.int v301)) : ∃ h', ysm h_ h' ∧ (((∀ a_ j_ : Nat, bpat h' a_ j_ = bpat h_ a_ j_) ∧ (bldD 60 40 0 [(0, .index a1000), (1, .index a1002)] [] h_ 14 [(3, .int (0 : Int32)), (2, .int (if v301 < v300 then v301 else v300)), (0, .index a1000), (1, .index a1002)] [] h'))) := by
  have hA : yas xfuE_A (xfuE_r v300 v301) (yg (xfuE_s a1000 a1002)) := ⟨fun q_ hq => absurd hq List.not_mem_nil, fun q_ hq => absurd hq List.not_mem_nil, fun q_ hq => absurd hq List.not_mem_nil, fun n_ hn => yg_lo hn, fun q_ hq => absurd hq List.not_mem_nil⟩
  have Hs : ysh xfuE_A.1 (yg (xfuE_s a1000 a1002)) h_ := ysh_of2 hs (List.forall_mem_cons.mpr ⟨⟨by decide, k1000⟩, List.forall_mem_cons.mpr ⟨⟨by decide, k1002⟩, fun q_ hq => absurd hq List.not_mem_nil⟩⟩)
  have Ho : ymem (xfuE_r v300 v301) (yg (xfuE_s a1000 a1002)) xfuE_O h_ := List.forall_mem_cons.mpr ⟨bpat_some o0_, List.forall_mem_cons.mpr ⟨bpat_some o1, fun q_ hq => absurd hq List.not_mem_nil⟩⟩
  have HC : ∀ q_ ∈ xfuE_C, xhold (xfuE_r v300 v301) q_ := fun q_ hq => absurd hq List.not_mem_nil
  rcases yrun (yis_ok xfuE_k) hA Hs Ho HC with ⟨q_, hq, h', K_, G_⟩ | ⟨q_, hq, h', K_, G_⟩
  · have e_ := List.mem_singleton.mp hq
    subst e_
    exact ⟨h', yfr_sm K_.2.2.2 hs K_.1 (ywa_s xfuE_w List.mem_cons_self), ⟨fun a_ j_ => yfr_bp K_.2.2.2 (fun q_ hq => absurd hq List.not_mem_nil), G_⟩⟩
  · cases hq
-- xfuX: 13 steps, 0 ends, 2 returns
def xfuX_L : List (Nat × Nat × Nat) := [(1000, 6, 2), (1002, 6, 2)]
def xfuX_O : yO := [(1000, .int 1, .arg 300), (1002, .int 1, .arg 301)]
def xfuX_A : yA := (yZ xfuX_L, [], [], [], [])
def xfuX_C : List xB := [(.lt, .arg 3, .arg 2, false)]
def xfuX_ss : List yS := []
def xfuX_rs : List yR := [(some (.arg 2), [(1000, .int 1, .arg 300), (1002, .int 1, .arg 301)], [(.eq, .arg 300, .arg 301, false), (.lt, .arg 3, .arg 2, false)], []),
  (some (.int (Int32.ofInt (-1))), [(1000, .int 1, .arg 300), (1002, .int 1, .arg 301)], [(.eq, .arg 300, .arg 301, true), (.lt, .arg 3, .arg 2, false)], [])]
theorem xfuX_w : ywa xfuX_A xfuX_ss xfuX_rs = true := by decide +kernel
theorem xfuX_k : yis (yev xfuX_A 3000 60 40 [] (14, [(3, .arg 3), (2, .arg 2), (0, .index 1000), (1, .index 1002)], [], xfuX_O, xfuX_C, [])) xfuX_ss xfuX_rs = true := by decide +kernel
def xfuX_r (v2 v3 v300 v301 : Int32) (k_ : Nat) : Value := bif Nat.beq k_ 2 then .int v2 else (bif Nat.beq k_ 3 then .int v3 else (bif Nat.beq k_ 300 then .int v300 else (bif Nat.beq k_ 301 then .int v301 else (.int 0))))
def xfuX_s (a1000 a1002 : Nat) (n_ : Nat) : Nat := bif Nat.beq n_ 1000 then a1000 else (bif Nat.beq n_ 1002 then a1002 else (0))
theorem xfuX {h_ : xH} {a1000 a1002 : Nat} {v2 v3 v300 v301 : Int32} (hs : sHp h_) (k1000 : bcq h_ a1000 6 2) (k1002 : bcq h_ a1002 6 2) (o0_ : bpat h_ a1000 1 = some (.int v300)) (o1 : bpat h_ a1002 1 = some (.int v301)) (c0_ : v2.toInt ≤ v3.toInt) : ∃ h', ysm h_ h' ∧ (((¬ v300 = v301) ∧ (∀ a_ j_ : Nat, bpat h' a_ j_ = bpat h_ a_ j_) ∧ (∀ D_, 60 ≤ D_ → xrun D_ 40 14 [(3, .int v3), (2, .int v2), (0, .index a1000), (1, .index a1002)] [] h_ (some (.int v2), h', [])))
  ∨ ((v300 = v301) ∧ (∀ a_ j_ : Nat, bpat h' a_ j_ = bpat h_ a_ j_) ∧ (∀ D_, 60 ≤ D_ → xrun D_ 40 14 [(3, .int v3), (2, .int v2), (0, .index a1000), (1, .index a1002)] [] h_ (some (.int (Int32.ofInt (-1))), h', [])))) := by
  have hA : yas xfuX_A (xfuX_r v2 v3 v300 v301) (yg (xfuX_s a1000 a1002)) := ⟨fun q_ hq => absurd hq List.not_mem_nil, fun q_ hq => absurd hq List.not_mem_nil, fun q_ hq => absurd hq List.not_mem_nil, fun n_ hn => yg_lo hn, fun q_ hq => absurd hq List.not_mem_nil⟩
  have Hs : ysh xfuX_A.1 (yg (xfuX_s a1000 a1002)) h_ := ysh_of2 hs (List.forall_mem_cons.mpr ⟨⟨by decide, k1000⟩, List.forall_mem_cons.mpr ⟨⟨by decide, k1002⟩, fun q_ hq => absurd hq List.not_mem_nil⟩⟩)
  have Ho : ymem (xfuX_r v2 v3 v300 v301) (yg (xfuX_s a1000 a1002)) xfuX_O h_ := List.forall_mem_cons.mpr ⟨bpat_some o0_, List.forall_mem_cons.mpr ⟨bpat_some o1, fun q_ hq => absurd hq List.not_mem_nil⟩⟩
  have HC : ∀ q_ ∈ xfuX_C, xhold (xfuX_r v2 v3 v300 v301) q_ := List.forall_mem_cons.mpr ⟨xh_ltF c0_, fun q_ hq => absurd hq List.not_mem_nil⟩
  rcases yrun (yis_ok xfuX_k) hA Hs Ho HC with ⟨q_, hq, h', K_, G_⟩ | ⟨q_, hq, h', K_, G_⟩
  · cases hq
  · rcases List.mem_cons.mp hq with e_ | hq
    · subst e_
      exact ⟨h', yfr_sm K_.2.2.2 hs K_.1 (ywa_r xfuX_w List.mem_cons_self), Or.inl (⟨xq_eqF rfl rfl (K_.2.2.1 _ List.mem_cons_self), fun a_ j_ => yfr_bp K_.2.2.2 (fun q_ hq => absurd hq List.not_mem_nil), G_⟩)⟩
    have e_ := List.mem_singleton.mp hq
    subst e_
    exact ⟨h', yfr_sm K_.2.2.2 hs K_.1 (ywa_r xfuX_w (List.mem_cons_of_mem _ List.mem_cons_self)), Or.inr (⟨xq_eqT rfl rfl (K_.2.2.1 _ List.mem_cons_self), fun a_ j_ => yfr_bp K_.2.2.2 (fun q_ hq => absurd hq List.not_mem_nil), G_⟩)⟩
-- xfuT12: 14 steps, 1 ends, 0 returns
def xfuT12_L : List (Nat × Nat × Nat) := [(1000, 6, 2), (1001, 20, 12), (1002, 6, 2), (1003, 20, 12)]
def xfuT12_O : yO := [(1000, .int 0, .index 1001), (1001, .arg 3, .arg 302), (1002, .int 0, .index 1003), (1003, .arg 3, .arg 303)]
def xfuT12_A : yA := (yZ xfuT12_L, [(.arg 3, 12)], [], [], [])
def xfuT12_C : List xB := [(.eq, .arg 302, .arg 303, true), (.lt, .arg 3, .arg 2, true)]
def xfuT12_ss : List yS := [(14, [(3, .add (.arg 3) (.int 1)), (2, .arg 2), (0, .index 1000), (1, .index 1002)], [], [(1000, .int 0, .index 1001), (1001, .arg 3, .arg 302), (1002, .int 0, .index 1003), (1003, .arg 3, .arg 303)], [(.eq, .arg 302, .arg 303, true), (.lt, .arg 3, .arg 2, true)], [])]
def xfuT12_rs : List yR := []
theorem xfuT12_w : ywa xfuT12_A xfuT12_ss xfuT12_rs = true := by decide +kernel
theorem xfuT12_k : yis (yev xfuT12_A 3000 60 40 [14] (14, [(3, .arg 3), (2, .arg 2), (0, .index 1000), (1, .index 1002)], [], xfuT12_O, xfuT12_C, [])) xfuT12_ss xfuT12_rs = true := by decide +kernel
def xfuT12_r (v2 v3 v302 v303 : Int32) (k_ : Nat) : Value := bif Nat.beq k_ 2 then .int v2 else (bif Nat.beq k_ 3 then .int v3 else (bif Nat.beq k_ 302 then .int v302 else (bif Nat.beq k_ 303 then .int v303 else (.int 0))))
def xfuT12_s (a1000 a1001 a1002 a1003 : Nat) (n_ : Nat) : Nat := bif Nat.beq n_ 1000 then a1000 else (bif Nat.beq n_ 1001 then a1001 else (bif Nat.beq n_ 1002 then a1002 else (bif Nat.beq n_ 1003 then a1003 else (0))))
theorem xfuT12 {h_ : xH} {a1000 a1001 a1002 a1003 : Nat} {v2 v3 v302 v303 : Int32} (hs : sHp h_) (k1000 : bcq h_ a1000 6 2) (k1001 : bcq h_ a1001 20 12) (k1002 : bcq h_ a1002 6 2) (k1003 : bcq h_ a1003 20 12) (o0_ : bpat h_ a1000 0 = some (.index a1001)) (o1 : bpat h_ a1001 (v3).toInt.toNat = some (.int v302)) (o2 : bpat h_ a1002 0 = some (.index a1003)) (o3_ : bpat h_ a1003 (v3).toInt.toNat = some (.int v303)) (b0 : 0 ≤ (v3).toInt ∧ (v3).toInt < 12) (c0_ : v302 = v303) (c1_ : v3.toInt < v2.toInt) : ∃ h', ysm h_ h' ∧ (((∀ a_ j_ : Nat, bpat h' a_ j_ = bpat h_ a_ j_) ∧ (bldD 60 40 14 [(3, .int v3), (2, .int v2), (0, .index a1000), (1, .index a1002)] [] h_ 14 [(3, .int (v3 + (1 : Int32))), (2, .int v2), (0, .index a1000), (1, .index a1002)] [] h'))) := by
  have hA : yas xfuT12_A (xfuT12_r v2 v3 v302 v303) (yg (xfuT12_s a1000 a1001 a1002 a1003)) := ⟨List.forall_mem_cons.mpr ⟨b0, fun q_ hq => absurd hq List.not_mem_nil⟩, fun q_ hq => absurd hq List.not_mem_nil, fun q_ hq => absurd hq List.not_mem_nil, fun n_ hn => yg_lo hn, fun q_ hq => absurd hq List.not_mem_nil⟩
  have Hs : ysh xfuT12_A.1 (yg (xfuT12_s a1000 a1001 a1002 a1003)) h_ := ysh_of2 hs (List.forall_mem_cons.mpr ⟨⟨by decide, k1000⟩, List.forall_mem_cons.mpr ⟨⟨by decide, k1001⟩, List.forall_mem_cons.mpr ⟨⟨by decide, k1002⟩, List.forall_mem_cons.mpr ⟨⟨by decide, k1003⟩, fun q_ hq => absurd hq List.not_mem_nil⟩⟩⟩⟩)
  have Ho : ymem (xfuT12_r v2 v3 v302 v303) (yg (xfuT12_s a1000 a1001 a1002 a1003)) xfuT12_O h_ := List.forall_mem_cons.mpr ⟨bpat_some o0_, List.forall_mem_cons.mpr ⟨bpat_some o1, List.forall_mem_cons.mpr ⟨bpat_some o2, List.forall_mem_cons.mpr ⟨bpat_some o3_, fun q_ hq => absurd hq List.not_mem_nil⟩⟩⟩⟩
  have HC : ∀ q_ ∈ xfuT12_C, xhold (xfuT12_r v2 v3 v302 v303) q_ := List.forall_mem_cons.mpr ⟨xh_eqT2 c0_, List.forall_mem_cons.mpr ⟨xh_ltT c1_, fun q_ hq => absurd hq List.not_mem_nil⟩⟩
  rcases yrun (yis_ok xfuT12_k) hA Hs Ho HC with ⟨q_, hq, h', K_, G_⟩ | ⟨q_, hq, h', K_, G_⟩
  · have e_ := List.mem_singleton.mp hq
    subst e_
    exact ⟨h', yfr_sm K_.2.2.2 hs K_.1 (ywa_s xfuT12_w List.mem_cons_self), ⟨fun a_ j_ => yfr_bp K_.2.2.2 (fun q_ hq => absurd hq List.not_mem_nil), G_⟩⟩
  · cases hq
-- xfuU12: 14 steps, 0 ends, 1 returns
def xfuU12_L : List (Nat × Nat × Nat) := [(1000, 6, 2), (1001, 20, 12), (1002, 6, 2), (1003, 20, 12)]
def xfuU12_O : yO := [(1000, .int 0, .index 1001), (1001, .arg 3, .arg 302), (1002, .int 0, .index 1003), (1003, .arg 3, .arg 303)]
def xfuU12_A : yA := (yZ xfuU12_L, [(.arg 3, 12)], [], [], [])
def xfuU12_C : List xB := [(.eq, .arg 302, .arg 303, false), (.lt, .arg 3, .arg 2, true)]
def xfuU12_ss : List yS := []
def xfuU12_rs : List yR := [(some (.arg 3), [(1000, .int 0, .index 1001), (1001, .arg 3, .arg 302), (1002, .int 0, .index 1003), (1003, .arg 3, .arg 303)], [(.eq, .arg 302, .arg 303, false), (.lt, .arg 3, .arg 2, true)], [])]
theorem xfuU12_w : ywa xfuU12_A xfuU12_ss xfuU12_rs = true := by decide +kernel
theorem xfuU12_k : yis (yev xfuU12_A 3000 60 40 [] (14, [(3, .arg 3), (2, .arg 2), (0, .index 1000), (1, .index 1002)], [], xfuU12_O, xfuU12_C, [])) xfuU12_ss xfuU12_rs = true := by decide +kernel
def xfuU12_r (v2 v3 v302 v303 : Int32) (k_ : Nat) : Value := bif Nat.beq k_ 2 then .int v2 else (bif Nat.beq k_ 3 then .int v3 else (bif Nat.beq k_ 302 then .int v302 else (bif Nat.beq k_ 303 then .int v303 else (.int 0))))
def xfuU12_s (a1000 a1001 a1002 a1003 : Nat) (n_ : Nat) : Nat := bif Nat.beq n_ 1000 then a1000 else (bif Nat.beq n_ 1001 then a1001 else (bif Nat.beq n_ 1002 then a1002 else (bif Nat.beq n_ 1003 then a1003 else (0))))
theorem xfuU12 {h_ : xH} {a1000 a1001 a1002 a1003 : Nat} {v2 v3 v302 v303 : Int32} (hs : sHp h_) (k1000 : bcq h_ a1000 6 2) (k1001 : bcq h_ a1001 20 12) (k1002 : bcq h_ a1002 6 2) (k1003 : bcq h_ a1003 20 12) (o0_ : bpat h_ a1000 0 = some (.index a1001)) (o1 : bpat h_ a1001 (v3).toInt.toNat = some (.int v302)) (o2 : bpat h_ a1002 0 = some (.index a1003)) (o3_ : bpat h_ a1003 (v3).toInt.toNat = some (.int v303)) (b0 : 0 ≤ (v3).toInt ∧ (v3).toInt < 12) (c0_ : ¬ v302 = v303) (c1_ : v3.toInt < v2.toInt) : ∃ h', ysm h_ h' ∧ (((∀ a_ j_ : Nat, bpat h' a_ j_ = bpat h_ a_ j_) ∧ (∀ D_, 60 ≤ D_ → xrun D_ 40 14 [(3, .int v3), (2, .int v2), (0, .index a1000), (1, .index a1002)] [] h_ (some (.int v3), h', [])))) := by
  have hA : yas xfuU12_A (xfuU12_r v2 v3 v302 v303) (yg (xfuU12_s a1000 a1001 a1002 a1003)) := ⟨List.forall_mem_cons.mpr ⟨b0, fun q_ hq => absurd hq List.not_mem_nil⟩, fun q_ hq => absurd hq List.not_mem_nil, fun q_ hq => absurd hq List.not_mem_nil, fun n_ hn => yg_lo hn, fun q_ hq => absurd hq List.not_mem_nil⟩
  have Hs : ysh xfuU12_A.1 (yg (xfuU12_s a1000 a1001 a1002 a1003)) h_ := ysh_of2 hs (List.forall_mem_cons.mpr ⟨⟨by decide, k1000⟩, List.forall_mem_cons.mpr ⟨⟨by decide, k1001⟩, List.forall_mem_cons.mpr ⟨⟨by decide, k1002⟩, List.forall_mem_cons.mpr ⟨⟨by decide, k1003⟩, fun q_ hq => absurd hq List.not_mem_nil⟩⟩⟩⟩)
  have Ho : ymem (xfuU12_r v2 v3 v302 v303) (yg (xfuU12_s a1000 a1001 a1002 a1003)) xfuU12_O h_ := List.forall_mem_cons.mpr ⟨bpat_some o0_, List.forall_mem_cons.mpr ⟨bpat_some o1, List.forall_mem_cons.mpr ⟨bpat_some o2, List.forall_mem_cons.mpr ⟨bpat_some o3_, fun q_ hq => absurd hq List.not_mem_nil⟩⟩⟩⟩
  have HC : ∀ q_ ∈ xfuU12_C, xhold (xfuU12_r v2 v3 v302 v303) q_ := List.forall_mem_cons.mpr ⟨xh_eqF2 c0_, List.forall_mem_cons.mpr ⟨xh_ltT c1_, fun q_ hq => absurd hq List.not_mem_nil⟩⟩
  rcases yrun (yis_ok xfuU12_k) hA Hs Ho HC with ⟨q_, hq, h', K_, G_⟩ | ⟨q_, hq, h', K_, G_⟩
  · cases hq
  · have e_ := List.mem_singleton.mp hq
    subst e_
    exact ⟨h', yfr_sm K_.2.2.2 hs K_.1 (ywa_r xfuU12_w List.mem_cons_self), ⟨fun a_ j_ => yfr_bp K_.2.2.2 (fun q_ hq => absurd hq List.not_mem_nil), G_⟩⟩
-- xfuT24: 14 steps, 1 ends, 0 returns
def xfuT24_L : List (Nat × Nat × Nat) := [(1000, 6, 2), (1001, 20, 24), (1002, 6, 2), (1003, 20, 12)]
def xfuT24_O : yO := [(1000, .int 0, .index 1001), (1001, .arg 3, .arg 302), (1002, .int 0, .index 1003), (1003, .arg 3, .arg 303)]
def xfuT24_A : yA := (yZ xfuT24_L, [(.arg 3, 12)], [], [], [])
def xfuT24_C : List xB := [(.eq, .arg 302, .arg 303, true), (.lt, .arg 3, .arg 2, true)]
def xfuT24_ss : List yS := [(14, [(3, .add (.arg 3) (.int 1)), (2, .arg 2), (0, .index 1000), (1, .index 1002)], [], [(1000, .int 0, .index 1001), (1001, .arg 3, .arg 302), (1002, .int 0, .index 1003), (1003, .arg 3, .arg 303)], [(.eq, .arg 302, .arg 303, true), (.lt, .arg 3, .arg 2, true)], [])]
def xfuT24_rs : List yR := []
theorem xfuT24_w : ywa xfuT24_A xfuT24_ss xfuT24_rs = true := by decide +kernel
theorem xfuT24_k : yis (yev xfuT24_A 3000 60 40 [14] (14, [(3, .arg 3), (2, .arg 2), (0, .index 1000), (1, .index 1002)], [], xfuT24_O, xfuT24_C, [])) xfuT24_ss xfuT24_rs = true := by decide +kernel
def xfuT24_r (v2 v3 v302 v303 : Int32) (k_ : Nat) : Value := bif Nat.beq k_ 2 then .int v2 else (bif Nat.beq k_ 3 then .int v3 else (bif Nat.beq k_ 302 then .int v302 else (bif Nat.beq k_ 303 then .int v303 else (.int 0))))
def xfuT24_s (a1000 a1001 a1002 a1003 : Nat) (n_ : Nat) : Nat := bif Nat.beq n_ 1000 then a1000 else (bif Nat.beq n_ 1001 then a1001 else (bif Nat.beq n_ 1002 then a1002 else (bif Nat.beq n_ 1003 then a1003 else (0))))
theorem xfuT24 {h_ : xH} {a1000 a1001 a1002 a1003 : Nat} {v2 v3 v302 v303 : Int32} (hs : sHp h_) (k1000 : bcq h_ a1000 6 2) (k1001 : bcq h_ a1001 20 24) (k1002 : bcq h_ a1002 6 2) (k1003 : bcq h_ a1003 20 12) (o0_ : bpat h_ a1000 0 = some (.index a1001)) (o1 : bpat h_ a1001 (v3).toInt.toNat = some (.int v302)) (o2 : bpat h_ a1002 0 = some (.index a1003)) (o3_ : bpat h_ a1003 (v3).toInt.toNat = some (.int v303)) (b0 : 0 ≤ (v3).toInt ∧ (v3).toInt < 12) (c0_ : v302 = v303) (c1_ : v3.toInt < v2.toInt) : ∃ h', ysm h_ h' ∧ (((∀ a_ j_ : Nat, bpat h' a_ j_ = bpat h_ a_ j_) ∧ (bldD 60 40 14 [(3, .int v3), (2, .int v2), (0, .index a1000), (1, .index a1002)] [] h_ 14 [(3, .int (v3 + (1 : Int32))), (2, .int v2), (0, .index a1000), (1, .index a1002)] [] h'))) := by
  have hA : yas xfuT24_A (xfuT24_r v2 v3 v302 v303) (yg (xfuT24_s a1000 a1001 a1002 a1003)) := ⟨List.forall_mem_cons.mpr ⟨b0, fun q_ hq => absurd hq List.not_mem_nil⟩, fun q_ hq => absurd hq List.not_mem_nil, fun q_ hq => absurd hq List.not_mem_nil, fun n_ hn => yg_lo hn, fun q_ hq => absurd hq List.not_mem_nil⟩
  have Hs : ysh xfuT24_A.1 (yg (xfuT24_s a1000 a1001 a1002 a1003)) h_ := ysh_of2 hs (List.forall_mem_cons.mpr ⟨⟨by decide, k1000⟩, List.forall_mem_cons.mpr ⟨⟨by decide, k1001⟩, List.forall_mem_cons.mpr ⟨⟨by decide, k1002⟩, List.forall_mem_cons.mpr ⟨⟨by decide, k1003⟩, fun q_ hq => absurd hq List.not_mem_nil⟩⟩⟩⟩)
  have Ho : ymem (xfuT24_r v2 v3 v302 v303) (yg (xfuT24_s a1000 a1001 a1002 a1003)) xfuT24_O h_ := List.forall_mem_cons.mpr ⟨bpat_some o0_, List.forall_mem_cons.mpr ⟨bpat_some o1, List.forall_mem_cons.mpr ⟨bpat_some o2, List.forall_mem_cons.mpr ⟨bpat_some o3_, fun q_ hq => absurd hq List.not_mem_nil⟩⟩⟩⟩
  have HC : ∀ q_ ∈ xfuT24_C, xhold (xfuT24_r v2 v3 v302 v303) q_ := List.forall_mem_cons.mpr ⟨xh_eqT2 c0_, List.forall_mem_cons.mpr ⟨xh_ltT c1_, fun q_ hq => absurd hq List.not_mem_nil⟩⟩
  rcases yrun (yis_ok xfuT24_k) hA Hs Ho HC with ⟨q_, hq, h', K_, G_⟩ | ⟨q_, hq, h', K_, G_⟩
  · have e_ := List.mem_singleton.mp hq
    subst e_
    exact ⟨h', yfr_sm K_.2.2.2 hs K_.1 (ywa_s xfuT24_w List.mem_cons_self), ⟨fun a_ j_ => yfr_bp K_.2.2.2 (fun q_ hq => absurd hq List.not_mem_nil), G_⟩⟩
  · cases hq
-- xfuU24: 14 steps, 0 ends, 1 returns
def xfuU24_L : List (Nat × Nat × Nat) := [(1000, 6, 2), (1001, 20, 24), (1002, 6, 2), (1003, 20, 12)]
def xfuU24_O : yO := [(1000, .int 0, .index 1001), (1001, .arg 3, .arg 302), (1002, .int 0, .index 1003), (1003, .arg 3, .arg 303)]
def xfuU24_A : yA := (yZ xfuU24_L, [(.arg 3, 12)], [], [], [])
def xfuU24_C : List xB := [(.eq, .arg 302, .arg 303, false), (.lt, .arg 3, .arg 2, true)]
def xfuU24_ss : List yS := []
def xfuU24_rs : List yR := [(some (.arg 3), [(1000, .int 0, .index 1001), (1001, .arg 3, .arg 302), (1002, .int 0, .index 1003), (1003, .arg 3, .arg 303)], [(.eq, .arg 302, .arg 303, false), (.lt, .arg 3, .arg 2, true)], [])]
theorem xfuU24_w : ywa xfuU24_A xfuU24_ss xfuU24_rs = true := by decide +kernel
theorem xfuU24_k : yis (yev xfuU24_A 3000 60 40 [] (14, [(3, .arg 3), (2, .arg 2), (0, .index 1000), (1, .index 1002)], [], xfuU24_O, xfuU24_C, [])) xfuU24_ss xfuU24_rs = true := by decide +kernel
def xfuU24_r (v2 v3 v302 v303 : Int32) (k_ : Nat) : Value := bif Nat.beq k_ 2 then .int v2 else (bif Nat.beq k_ 3 then .int v3 else (bif Nat.beq k_ 302 then .int v302 else (bif Nat.beq k_ 303 then .int v303 else (.int 0))))
def xfuU24_s (a1000 a1001 a1002 a1003 : Nat) (n_ : Nat) : Nat := bif Nat.beq n_ 1000 then a1000 else (bif Nat.beq n_ 1001 then a1001 else (bif Nat.beq n_ 1002 then a1002 else (bif Nat.beq n_ 1003 then a1003 else (0))))
theorem xfuU24 {h_ : xH} {a1000 a1001 a1002 a1003 : Nat} {v2 v3 v302 v303 : Int32} (hs : sHp h_) (k1000 : bcq h_ a1000 6 2) (k1001 : bcq h_ a1001 20 24) (k1002 : bcq h_ a1002 6 2) (k1003 : bcq h_ a1003 20 12) (o0_ : bpat h_ a1000 0 = some (.index a1001)) (o1 : bpat h_ a1001 (v3).toInt.toNat = some (.int v302)) (o2 : bpat h_ a1002 0 = some (.index a1003)) (o3_ : bpat h_ a1003 (v3).toInt.toNat = some (.int v303)) (b0 : 0 ≤ (v3).toInt ∧ (v3).toInt < 12) (c0_ : ¬ v302 = v303) (c1_ : v3.toInt < v2.toInt) : ∃ h', ysm h_ h' ∧ (((∀ a_ j_ : Nat, bpat h' a_ j_ = bpat h_ a_ j_) ∧ (∀ D_, 60 ≤ D_ → xrun D_ 40 14 [(3, .int v3), (2, .int v2), (0, .index a1000), (1, .index a1002)] [] h_ (some (.int v3), h', [])))) := by
  have hA : yas xfuU24_A (xfuU24_r v2 v3 v302 v303) (yg (xfuU24_s a1000 a1001 a1002 a1003)) := ⟨List.forall_mem_cons.mpr ⟨b0, fun q_ hq => absurd hq List.not_mem_nil⟩, fun q_ hq => absurd hq List.not_mem_nil, fun q_ hq => absurd hq List.not_mem_nil, fun n_ hn => yg_lo hn, fun q_ hq => absurd hq List.not_mem_nil⟩
  have Hs : ysh xfuU24_A.1 (yg (xfuU24_s a1000 a1001 a1002 a1003)) h_ := ysh_of2 hs (List.forall_mem_cons.mpr ⟨⟨by decide, k1000⟩, List.forall_mem_cons.mpr ⟨⟨by decide, k1001⟩, List.forall_mem_cons.mpr ⟨⟨by decide, k1002⟩, List.forall_mem_cons.mpr ⟨⟨by decide, k1003⟩, fun q_ hq => absurd hq List.not_mem_nil⟩⟩⟩⟩)
  have Ho : ymem (xfuU24_r v2 v3 v302 v303) (yg (xfuU24_s a1000 a1001 a1002 a1003)) xfuU24_O h_ := List.forall_mem_cons.mpr ⟨bpat_some o0_, List.forall_mem_cons.mpr ⟨bpat_some o1, List.forall_mem_cons.mpr ⟨bpat_some o2, List.forall_mem_cons.mpr ⟨bpat_some o3_, fun q_ hq => absurd hq List.not_mem_nil⟩⟩⟩⟩
  have HC : ∀ q_ ∈ xfuU24_C, xhold (xfuU24_r v2 v3 v302 v303) q_ := List.forall_mem_cons.mpr ⟨xh_eqF2 c0_, List.forall_mem_cons.mpr ⟨xh_ltT c1_, fun q_ hq => absurd hq List.not_mem_nil⟩⟩
  rcases yrun (yis_ok xfuU24_k) hA Hs Ho HC with ⟨q_, hq, h', K_, G_⟩ | ⟨q_, hq, h', K_, G_⟩
  · cases hq
  · have e_ := List.mem_singleton.mp hq
    subst e_
    exact ⟨h', yfr_sm K_.2.2.2 hs K_.1 (ywa_r xfuU24_w List.mem_cons_self), ⟨fun a_ j_ => yfr_bp K_.2.2.2 (fun q_ hq => absurd hq List.not_mem_nil), G_⟩⟩
theorem fu_lp12 {a_ ia b_ ib : Nat} {l1 l2 : List Int32} : ∀ (r_ i_ : Nat) (h_ : xH), i_ + r_ = min l1.length l2.length → sHp h_ → rwx h_ a_ ia 12 l1 → rwx h_ b_ ib 12 l2 → (∀ j_, j_ < i_ → ∃ x_, l1[j_]? = some x_ ∧ l2[j_]? = some x_) → ∃ h', ysm h_ h' ∧ ((∀ c_ j_, bpat h' c_ j_ = bpat h_ c_ j_) ∧ ∀ D_, 60 ≤ D_ → xrun D_ 40 14 [(3, .int (Int32.ofNat i_)), (2, .int (Int32.ofNat (min l1.length l2.length))), (0, .index a_), (1, .index b_)] [] h_ (some (.int (fuF l1 l2)), h', [])) := by
  intro r_
  induction r_ with
  | zero =>
    intro i_ h_ hi_ hs R1 R2 P_
    have ll1 := R1.2.2.1
    have ll2 := R2.2.2.1
    have mm := Nat.min_le_left l1.length l2.length
    have mm2 := Nat.min_le_right l1.length l2.length
    obtain ⟨h1, m1_, e_⟩ := xfuX (v3 := Int32.ofNat i_) (v2 := Int32.ofNat (min l1.length l2.length)) (v300 := Int32.ofNat l1.length) (v301 := Int32.ofNat l2.length) hs R1.1.1 R2.1.1 R1.2.1.2 R2.2.1.2 (by rw [i32n (by omega), i32n (by omega)]; omega)
    by_cases g_ : l1.length = l2.length
    · have e0_ : l1 = l2 := fu_eq g_ (fun j_ hj => P_ j_ (by rw [← g_, Nat.min_self] at hi_; omega))
      rcases e_ with ⟨g1, f1_, r1_⟩ | ⟨g1, f1_, r1_⟩
      · exact absurd (by rw [g_]) g1
      · rw [e0_, fuF_1]
        rw [e0_] at r1_
        exact ⟨h1, m1_, f1_, r1_⟩
    · have e0_ : ¬ l1 = l2 := fun q_ => g_ (by rw [q_])
      have en : fuN l1 l2 = i_ := fuN_i i_ l1 l2 P_ (fun x_ q1_ q2_ => by
        have k1_ := (List.getElem?_eq_some_iff.mp q1_).1
        have k2_ := (List.getElem?_eq_some_iff.mp q2_).1
        omega)
      have ei : i_ = min l1.length l2.length := by omega
      rcases e_ with ⟨g1, f1_, r1_⟩ | ⟨g1, f1_, r1_⟩
      · rw [fuF_n e0_, en]
        rw [← ei] at r1_ ⊢
        exact ⟨h1, m1_, f1_, r1_⟩
      · exact absurd (by have q_ := congrArg Int32.toInt g1; rw [i32n (by omega), i32n (by omega)] at q_; omega) g_
  | succ r_ ih_ =>
    intro i_ h_ hi_ hs R1 R2 P_
    have ll1 := R1.2.2.1
    have ll2 := R2.2.2.1
    have lt1 : i_ < l1.length := by omega
    have lt2 : i_ < l2.length := by omega
    have ii := i32n (i_ := i_) (by omega)
    have im := i32n (i_ := min l1.length l2.length) (by omega)
    have o1 := R1.2.2.2 i_ _ (getD_a lt1)
    have o2 := R2.2.2.2 i_ _ (getD_a lt2)
    by_cases g_ : l1.getD i_ 0 = l2.getD i_ 0
    · obtain ⟨h1, m1_, f1_, ld1⟩ := xfuT12 (v3 := Int32.ofNat i_) (v2 := Int32.ofNat (min l1.length l2.length)) (v302 := l1.getD i_ 0) (v303 := l2.getD i_ 0) hs R1.1.1 R1.1.2 R2.1.1 R2.1.2 R1.2.1.1 (by rw [i32t (by omega)]; exact o1) R2.2.1.1 (by rw [i32t (by omega)]; exact o2) ⟨by omega, by omega⟩ g_ (by omega)
      rw [i32s] at ld1
      obtain ⟨h2, m2_, f2_, r2⟩ := ih_ (i_ + 1) h1 (by omega) m1_.1 (rwx_keep R1 m1_ (fun c_ j_ _ => f1_ c_ j_)) (rwx_keep R2 m1_ (fun c_ j_ _ => f1_ c_ j_)) (fun j_ hj => by
        by_cases gj : j_ = i_
        · subst gj
          exact ⟨_, getD_a lt1, by rw [g_]; exact getD_a lt2⟩
        · exact P_ j_ (by omega))
      exact ⟨h2, ysm_tr m1_ m2_, fun c_ j_ => (f2_ c_ j_).trans (f1_ c_ j_), fun D_ hD => ld1 D_ hD _ (r2 D_ hD)⟩
    · have en : fuN l1 l2 = i_ := fuN_i i_ l1 l2 P_ (fun x_ q1_ q2_ => g_ (by
        rw [getD_a lt1] at q1_
        rw [getD_a lt2] at q2_
        exact (Option.some.inj q1_).trans (Option.some.inj q2_).symm))
      have e0_ : ¬ l1 = l2 := fun q_ => g_ (by rw [q_])
      obtain ⟨h1, m1_, f1_, r1_⟩ := xfuU12 (v3 := Int32.ofNat i_) (v2 := Int32.ofNat (min l1.length l2.length)) (v302 := l1.getD i_ 0) (v303 := l2.getD i_ 0) hs R1.1.1 R1.1.2 R2.1.1 R2.1.2 R1.2.1.1 (by rw [i32t (by omega)]; exact o1) R2.2.1.1 (by rw [i32t (by omega)]; exact o2) ⟨by omega, by omega⟩ g_ (by omega)
      rw [fuF_n e0_, en]
      exact ⟨h1, m1_, f1_, r1_⟩
theorem fuX12 {a_ ia b_ ib : Nat} {l1 l2 : List Int32} {h_ : xH} (hs : sHp h_) (R1 : rwx h_ a_ ia 12 l1) (R2 : rwx h_ b_ ib 12 l2) : ∃ h', ysm h_ h' ∧ ((∀ c_ j_, bpat h' c_ j_ = bpat h_ c_ j_) ∧ ∀ D_, 60 ≤ D_ → xrun D_ 40 0 [(0, .index a_), (1, .index b_)] [] h_ (some (.int (fuF l1 l2)), h', [])) := by
  have ll1 := R1.2.2.1
  have ll2 := R2.2.2.1
  obtain ⟨h1, m1_, f1_, ld1⟩ := xfuE (v300 := Int32.ofNat l1.length) (v301 := Int32.ofNat l2.length) hs R1.1.1 R2.1.1 R1.2.1.2 R2.2.1.2
  rw [imin (by omega) (by omega)] at ld1
  obtain ⟨h2, m2_, f2_, r2⟩ := fu_lp12 (l1 := l1) (l2 := l2) (min l1.length l2.length) 0 h1 (by omega) m1_.1 (rwx_keep R1 m1_ (fun c_ j_ _ => f1_ c_ j_)) (rwx_keep R2 m1_ (fun c_ j_ _ => f1_ c_ j_)) (fun j_ hj => by omega)
  exact ⟨h2, ysm_tr m1_ m2_, fun c_ j_ => (f2_ c_ j_).trans (f1_ c_ j_), fun D_ hD => ld1 D_ hD _ (r2 D_ hD)⟩
theorem fu_lp24 {a_ ia b_ ib : Nat} {l1 l2 : List Int32} : ∀ (r_ i_ : Nat) (h_ : xH), i_ + r_ = min l1.length l2.length → sHp h_ → rwx h_ a_ ia 24 l1 → rwx h_ b_ ib 12 l2 → (∀ j_, j_ < i_ → ∃ x_, l1[j_]? = some x_ ∧ l2[j_]? = some x_) → ∃ h', ysm h_ h' ∧ ((∀ c_ j_, bpat h' c_ j_ = bpat h_ c_ j_) ∧ ∀ D_, 60 ≤ D_ → xrun D_ 40 14 [(3, .int (Int32.ofNat i_)), (2, .int (Int32.ofNat (min l1.length l2.length))), (0, .index a_), (1, .index b_)] [] h_ (some (.int (fuF l1 l2)), h', [])) := by
  intro r_
  induction r_ with
  | zero =>
    intro i_ h_ hi_ hs R1 R2 P_
    have ll1 := R1.2.2.1
    have ll2 := R2.2.2.1
    have mm := Nat.min_le_left l1.length l2.length
    have mm2 := Nat.min_le_right l1.length l2.length
    obtain ⟨h1, m1_, e_⟩ := xfuX (v3 := Int32.ofNat i_) (v2 := Int32.ofNat (min l1.length l2.length)) (v300 := Int32.ofNat l1.length) (v301 := Int32.ofNat l2.length) hs R1.1.1 R2.1.1 R1.2.1.2 R2.2.1.2 (by rw [i32n (by omega), i32n (by omega)]; omega)
    by_cases g_ : l1.length = l2.length
    · have e0_ : l1 = l2 := fu_eq g_ (fun j_ hj => P_ j_ (by rw [← g_, Nat.min_self] at hi_; omega))
      rcases e_ with ⟨g1, f1_, r1_⟩ | ⟨g1, f1_, r1_⟩
      · exact absurd (by rw [g_]) g1
      · rw [e0_, fuF_1]
        rw [e0_] at r1_
        exact ⟨h1, m1_, f1_, r1_⟩
    · have e0_ : ¬ l1 = l2 := fun q_ => g_ (by rw [q_])
      have en : fuN l1 l2 = i_ := fuN_i i_ l1 l2 P_ (fun x_ q1_ q2_ => by
        have k1_ := (List.getElem?_eq_some_iff.mp q1_).1
        have k2_ := (List.getElem?_eq_some_iff.mp q2_).1
        omega)
      have ei : i_ = min l1.length l2.length := by omega
      rcases e_ with ⟨g1, f1_, r1_⟩ | ⟨g1, f1_, r1_⟩
      · rw [fuF_n e0_, en]
        rw [← ei] at r1_ ⊢
        exact ⟨h1, m1_, f1_, r1_⟩
      · exact absurd (by have q_ := congrArg Int32.toInt g1; rw [i32n (by omega), i32n (by omega)] at q_; omega) g_
  | succ r_ ih_ =>
    intro i_ h_ hi_ hs R1 R2 P_
    have ll1 := R1.2.2.1
    have ll2 := R2.2.2.1
    have lt1 : i_ < l1.length := by omega
    have lt2 : i_ < l2.length := by omega
    have ii := i32n (i_ := i_) (by omega)
    have im := i32n (i_ := min l1.length l2.length) (by omega)
    have o1 := R1.2.2.2 i_ _ (getD_a lt1)
    have o2 := R2.2.2.2 i_ _ (getD_a lt2)
    by_cases g_ : l1.getD i_ 0 = l2.getD i_ 0
    · obtain ⟨h1, m1_, f1_, ld1⟩ := xfuT24 (v3 := Int32.ofNat i_) (v2 := Int32.ofNat (min l1.length l2.length)) (v302 := l1.getD i_ 0) (v303 := l2.getD i_ 0) hs R1.1.1 R1.1.2 R2.1.1 R2.1.2 R1.2.1.1 (by rw [i32t (by omega)]; exact o1) R2.2.1.1 (by rw [i32t (by omega)]; exact o2) ⟨by omega, by omega⟩ g_ (by omega)
      rw [i32s] at ld1
      obtain ⟨h2, m2_, f2_, r2⟩ := ih_ (i_ + 1) h1 (by omega) m1_.1 (rwx_keep R1 m1_ (fun c_ j_ _ => f1_ c_ j_)) (rwx_keep R2 m1_ (fun c_ j_ _ => f1_ c_ j_)) (fun j_ hj => by
        by_cases gj : j_ = i_
        · subst gj
          exact ⟨_, getD_a lt1, by rw [g_]; exact getD_a lt2⟩
        · exact P_ j_ (by omega))
      exact ⟨h2, ysm_tr m1_ m2_, fun c_ j_ => (f2_ c_ j_).trans (f1_ c_ j_), fun D_ hD => ld1 D_ hD _ (r2 D_ hD)⟩
    · have en : fuN l1 l2 = i_ := fuN_i i_ l1 l2 P_ (fun x_ q1_ q2_ => g_ (by
        rw [getD_a lt1] at q1_
        rw [getD_a lt2] at q2_
        exact (Option.some.inj q1_).trans (Option.some.inj q2_).symm))
      have e0_ : ¬ l1 = l2 := fun q_ => g_ (by rw [q_])
      obtain ⟨h1, m1_, f1_, r1_⟩ := xfuU24 (v3 := Int32.ofNat i_) (v2 := Int32.ofNat (min l1.length l2.length)) (v302 := l1.getD i_ 0) (v303 := l2.getD i_ 0) hs R1.1.1 R1.1.2 R2.1.1 R2.1.2 R1.2.1.1 (by rw [i32t (by omega)]; exact o1) R2.2.1.1 (by rw [i32t (by omega)]; exact o2) ⟨by omega, by omega⟩ g_ (by omega)
      rw [fuF_n e0_, en]
      exact ⟨h1, m1_, f1_, r1_⟩
theorem fuX24 {a_ ia b_ ib : Nat} {l1 l2 : List Int32} {h_ : xH} (hs : sHp h_) (R1 : rwx h_ a_ ia 24 l1) (R2 : rwx h_ b_ ib 12 l2) : ∃ h', ysm h_ h' ∧ ((∀ c_ j_, bpat h' c_ j_ = bpat h_ c_ j_) ∧ ∀ D_, 60 ≤ D_ → xrun D_ 40 0 [(0, .index a_), (1, .index b_)] [] h_ (some (.int (fuF l1 l2)), h', [])) := by
  have ll1 := R1.2.2.1
  have ll2 := R2.2.2.1
  obtain ⟨h1, m1_, f1_, ld1⟩ := xfuE (v300 := Int32.ofNat l1.length) (v301 := Int32.ofNat l2.length) hs R1.1.1 R2.1.1 R1.2.1.2 R2.2.1.2
  rw [imin (by omega) (by omega)] at ld1
  obtain ⟨h2, m2_, f2_, r2⟩ := fu_lp24 (l1 := l1) (l2 := l2) (min l1.length l2.length) 0 h1 (by omega) m1_.1 (rwx_keep R1 m1_ (fun c_ j_ _ => f1_ c_ j_)) (rwx_keep R2 m1_ (fun c_ j_ _ => f1_ c_ j_)) (fun j_ hj => by omega)
  exact ⟨h2, ysm_tr m1_ m2_, fun c_ j_ => (f2_ c_ j_).trans (f1_ c_ j_), fun D_ hD => ld1 D_ hD _ (r2 D_ hD)⟩
-- xilA: 2 steps, 1 ends, 0 returns
def xilA_L : List (Nat × Nat × Nat) := [(1000, 6, 2), (1002, 6, 2)]
def xilA_O : yO := []
def xilA_A : yA := (yZ xilA_L, [], [], [], [])
def xilA_C : List xB := []
def xilA_ss : List yS := [(2, [(0, .index 1000), (1, .index 1002)], [.index 1002, .index 1000], [], [], [])]
def xilA_rs : List yR := []
theorem xilA_w : ywa xilA_A xilA_ss xilA_rs = true := by decide +kernel
theorem xilA_k : yis (yev xilA_A 3000 60 41 [2] (0, [(0, .index 1000), (1, .index 1002)], [], xilA_O, xilA_C, [])) xilA_ss xilA_rs = true := by decide +kernel
def xilA_r (k_ : Nat) : Value := .int 0
def xilA_s (a1000 a1002 : Nat) (n_ : Nat) : Nat := bif Nat.beq n_ 1000 then a1000 else (bif Nat.beq n_ 1002 then a1002 else (0))
theorem xilA {h_ : xH} {a1000 a1002 : Nat} (hs : sHp h_) (k1000 : bcq h_ a1000 6 2) (k1002 : bcq h_ a1002 6 2) : ∃ h', ysm h_ h' ∧ (((∀ a_ j_ : Nat, bpat h' a_ j_ = bpat h_ a_ j_) ∧ (bldD 60 41 0 [(0, .index a1000), (1, .index a1002)] [] h_ 2 [(0, .index a1000), (1, .index a1002)] [.index a1002, .index a1000] h'))) := by
  have hA : yas xilA_A xilA_r (yg (xilA_s a1000 a1002)) := ⟨fun q_ hq => absurd hq List.not_mem_nil, fun q_ hq => absurd hq List.not_mem_nil, fun q_ hq => absurd hq List.not_mem_nil, fun n_ hn => yg_lo hn, fun q_ hq => absurd hq List.not_mem_nil⟩
  have Hs : ysh xilA_A.1 (yg (xilA_s a1000 a1002)) h_ := ysh_of2 hs (List.forall_mem_cons.mpr ⟨⟨by decide, k1000⟩, List.forall_mem_cons.mpr ⟨⟨by decide, k1002⟩, fun q_ hq => absurd hq List.not_mem_nil⟩⟩)
  have Ho : ymem xilA_r (yg (xilA_s a1000 a1002)) xilA_O h_ := fun q_ hq => absurd hq List.not_mem_nil
  have HC : ∀ q_ ∈ xilA_C, xhold xilA_r q_ := fun q_ hq => absurd hq List.not_mem_nil
  rcases yrun (yis_ok xilA_k) hA Hs Ho HC with ⟨q_, hq, h', K_, G_⟩ | ⟨q_, hq, h', K_, G_⟩
  · have e_ := List.mem_singleton.mp hq
    subst e_
    exact ⟨h', yfr_sm K_.2.2.2 hs K_.1 (ywa_s xilA_w List.mem_cons_self), ⟨fun a_ j_ => yfr_bp K_.2.2.2 (fun q_ hq => absurd hq List.not_mem_nil), G_⟩⟩
  · cases hq
-- xilP: 4 steps, 0 ends, 1 returns
def xilP_L : List (Nat × Nat × Nat) := [(1000, 6, 2), (1002, 6, 2)]
def xilP_O : yO := []
def xilP_A : yA := (yZ xilP_L, [], [], [], [])
def xilP_C : List xB := [(.lt, .arg 5, .int 0, true)]
def xilP_ss : List yS := []
def xilP_rs : List yR := [(some (.int 1), [], [(.lt, .arg 5, .int 0, true)], [])]
theorem xilP_w : ywa xilP_A xilP_ss xilP_rs = true := by decide +kernel
theorem xilP_k : yis (yev xilP_A 3000 60 41 [] (5, [(0, .index 1000), (1, .index 1002)], [.arg 5], xilP_O, xilP_C, [])) xilP_ss xilP_rs = true := by decide +kernel
def xilP_r (v5 : Int32) (k_ : Nat) : Value := bif Nat.beq k_ 5 then .int v5 else (.int 0)
def xilP_s (a1000 a1002 : Nat) (n_ : Nat) : Nat := bif Nat.beq n_ 1000 then a1000 else (bif Nat.beq n_ 1002 then a1002 else (0))
theorem xilP {h_ : xH} {a1000 a1002 : Nat} {v5 : Int32} (hs : sHp h_) (k1000 : bcq h_ a1000 6 2) (k1002 : bcq h_ a1002 6 2) (c0_ : v5.toInt < (0 : Int32).toInt) : ∃ h', ysm h_ h' ∧ (((∀ a_ j_ : Nat, bpat h' a_ j_ = bpat h_ a_ j_) ∧ (∀ D_, 60 ≤ D_ → xrun D_ 41 5 [(0, .index a1000), (1, .index a1002)] [.int v5] h_ (some (.int (1 : Int32)), h', [])))) := by
  have hA : yas xilP_A (xilP_r v5) (yg (xilP_s a1000 a1002)) := ⟨fun q_ hq => absurd hq List.not_mem_nil, fun q_ hq => absurd hq List.not_mem_nil, fun q_ hq => absurd hq List.not_mem_nil, fun n_ hn => yg_lo hn, fun q_ hq => absurd hq List.not_mem_nil⟩
  have Hs : ysh xilP_A.1 (yg (xilP_s a1000 a1002)) h_ := ysh_of2 hs (List.forall_mem_cons.mpr ⟨⟨by decide, k1000⟩, List.forall_mem_cons.mpr ⟨⟨by decide, k1002⟩, fun q_ hq => absurd hq List.not_mem_nil⟩⟩)
  have Ho : ymem (xilP_r v5) (yg (xilP_s a1000 a1002)) xilP_O h_ := fun q_ hq => absurd hq List.not_mem_nil
  have HC : ∀ q_ ∈ xilP_C, xhold (xilP_r v5) q_ := List.forall_mem_cons.mpr ⟨xh_ltT c0_, fun q_ hq => absurd hq List.not_mem_nil⟩
  rcases yrun (yis_ok xilP_k) hA Hs Ho HC with ⟨q_, hq, h', K_, G_⟩ | ⟨q_, hq, h', K_, G_⟩
  · cases hq
  · have e_ := List.mem_singleton.mp hq
    subst e_
    exact ⟨h', yfr_sm K_.2.2.2 hs K_.1 (ywa_r xilP_w List.mem_cons_self), ⟨fun a_ j_ => yfr_bp K_.2.2.2 (fun q_ hq => absurd hq List.not_mem_nil), G_⟩⟩
-- xilN: 3 steps, 0 ends, 1 returns
def xilN_L : List (Nat × Nat × Nat) := [(1000, 6, 2), (1002, 6, 2)]
def xilN_O : yO := []
def xilN_A : yA := (yZ xilN_L, [], [], [], [])
def xilN_C : List xB := [(.lt, .arg 5, .int 0, false)]
def xilN_ss : List yS := []
def xilN_rs : List yR := [(some (.int 0), [], [(.lt, .arg 5, .int 0, false)], [])]
theorem xilN_w : ywa xilN_A xilN_ss xilN_rs = true := by decide +kernel
theorem xilN_k : yis (yev xilN_A 3000 60 41 [] (5, [(0, .index 1000), (1, .index 1002)], [.arg 5], xilN_O, xilN_C, [])) xilN_ss xilN_rs = true := by decide +kernel
def xilN_r (v5 : Int32) (k_ : Nat) : Value := bif Nat.beq k_ 5 then .int v5 else (.int 0)
def xilN_s (a1000 a1002 : Nat) (n_ : Nat) : Nat := bif Nat.beq n_ 1000 then a1000 else (bif Nat.beq n_ 1002 then a1002 else (0))
theorem xilN {h_ : xH} {a1000 a1002 : Nat} {v5 : Int32} (hs : sHp h_) (k1000 : bcq h_ a1000 6 2) (k1002 : bcq h_ a1002 6 2) (c0_ : (0 : Int32).toInt ≤ v5.toInt) : ∃ h', ysm h_ h' ∧ (((∀ a_ j_ : Nat, bpat h' a_ j_ = bpat h_ a_ j_) ∧ (∀ D_, 60 ≤ D_ → xrun D_ 41 5 [(0, .index a1000), (1, .index a1002)] [.int v5] h_ (some (.int (0 : Int32)), h', [])))) := by
  have hA : yas xilN_A (xilN_r v5) (yg (xilN_s a1000 a1002)) := ⟨fun q_ hq => absurd hq List.not_mem_nil, fun q_ hq => absurd hq List.not_mem_nil, fun q_ hq => absurd hq List.not_mem_nil, fun n_ hn => yg_lo hn, fun q_ hq => absurd hq List.not_mem_nil⟩
  have Hs : ysh xilN_A.1 (yg (xilN_s a1000 a1002)) h_ := ysh_of2 hs (List.forall_mem_cons.mpr ⟨⟨by decide, k1000⟩, List.forall_mem_cons.mpr ⟨⟨by decide, k1002⟩, fun q_ hq => absurd hq List.not_mem_nil⟩⟩)
  have Ho : ymem (xilN_r v5) (yg (xilN_s a1000 a1002)) xilN_O h_ := fun q_ hq => absurd hq List.not_mem_nil
  have HC : ∀ q_ ∈ xilN_C, xhold (xilN_r v5) q_ := List.forall_mem_cons.mpr ⟨xh_ltF c0_, fun q_ hq => absurd hq List.not_mem_nil⟩
  rcases yrun (yis_ok xilN_k) hA Hs Ho HC with ⟨q_, hq, h', K_, G_⟩ | ⟨q_, hq, h', K_, G_⟩
  · cases hq
  · have e_ := List.mem_singleton.mp hq
    subst e_
    exact ⟨h', yfr_sm K_.2.2.2 hs K_.1 (ywa_r xilN_w List.mem_cons_self), ⟨fun a_ j_ => yfr_bp K_.2.2.2 (fun q_ hq => absurd hq List.not_mem_nil), G_⟩⟩
theorem ilX {a_ ia b_ ib : Nat} {l1 l2 : List Int32} {h_ : xH} (hs : sHp h_) (R1 : rwx h_ a_ ia 12 l1) (R2 : rwx h_ b_ ib 12 l2) : ∃ h', ysm h_ h' ∧ ((∀ c_ j_, bpat h' c_ j_ = bpat h_ c_ j_) ∧ ∀ D_, 62 ≤ D_ → xrun D_ 41 0 [(0, .index a_), (1, .index b_)] [] h_ (some (.int (if l1 = l2 then 1 else 0)), h', [])) := by
  obtain ⟨h1, m1_, f1_, ld1⟩ := xilA hs R1.1.1 R2.1.1
  have ll := R1.2.2.1
  obtain ⟨h2, m2_, f2_, r2⟩ := fuX12 m1_.1 (rwx_keep R1 m1_ (fun c_ j_ _ => f1_ c_ j_)) (rwx_keep R2 m1_ (fun c_ j_ _ => f1_ c_ j_))
  have ld2 := ycv (d_ := 60) (mi := 41) (pc := 2) (cm := 40) (lo_ := [(0, .index a_), (1, .index b_)]) (st_ := [.index b_, .index a_]) (as_ := [.index b_]) (s' := []) rfl rfl (m1_.2 _ _ _ R1.1.1) rfl (xcc_l (List.forall_mem_cons.mpr ⟨xidx_i (bcq_lt (m1_.2 _ _ _ R1.1.1)), List.forall_mem_cons.mpr ⟨xidx_i (bcq_lt (m1_.2 _ _ _ R2.1.1)), fun q_ hq => absurd hq List.not_mem_nil⟩⟩) (fun t_ ht => absurd ht List.not_mem_nil) (Nat.le_of_ble_eq_true rfl)) r2
  have zm := im1_
  have z0 := z0_
  have M_ := ysm_tr m1_ m2_
  by_cases g_ : l1 = l2
  · rw [if_pos g_]
    subst g_
    rw [fuF_1] at ld2
    obtain ⟨h3, m3_, f3_, r3⟩ := xilP (v5 := Int32.ofInt (-1)) m2_.1 (M_.2 _ _ _ R1.1.1) (M_.2 _ _ _ R2.1.1) (by omega)
    exact ⟨h3, ysm_tr M_ m3_, fun c_ j_ => (f3_ c_ j_).trans ((f2_ c_ j_).trans (f1_ c_ j_)), fun D_ hD => ld1 D_ (by omega) _ (ld2 D_ (by omega) _ (r3 D_ (by omega)))⟩
  · rw [if_neg g_]
    rw [fuF_n g_] at ld2
    have fl_ := fuN_l (l1 := l1) (l2 := l2)
    obtain ⟨h3, m3_, f3_, r3⟩ := xilN (v5 := Int32.ofNat (fuN l1 l2)) m2_.1 (M_.2 _ _ _ R1.1.1) (M_.2 _ _ _ R2.1.1) (by rw [i32n (by omega)]; omega)
    exact ⟨h3, ysm_tr M_ m3_, fun c_ j_ => (f3_ c_ j_).trans ((f2_ c_ j_).trans (f1_ c_ j_)), fun D_ hD => ld1 D_ (by omega) _ (ld2 D_ (by omega) _ (r3 D_ (by omega)))⟩
-- malE: 12 steps, 1 ends, 0 returns
def malE_L : List (Nat × Nat × Nat) := [(1000, 20, 13), (1001, 20, 13)]
def malE_O : yO := [(1000, .int 0, .arg 300), (1001, .int 0, .arg 301)]
def malE_A : yA := (yZ malE_L, [], [], [], [])
def malE_C : List xB := [(.eq, .arg 300, .arg 301, true)]
def malE_ss : List yS := [(17, [(3, .int 1), (2, .int 1), (0, .index 1000), (1, .index 1001)], [], [(1000, .int 0, .arg 300), (1001, .int 0, .arg 301)], [(.eq, .arg 300, .arg 301, true)], [])]
def malE_rs : List yR := []
theorem malE_w : ywa malE_A malE_ss malE_rs = true := by decide +kernel
theorem malE_k : yis (yev malE_A 3000 60 144 [17] (0, [(0, .index 1000), (1, .index 1001)], [], malE_O, malE_C, [])) malE_ss malE_rs = true := by decide +kernel
def malE_r (v300 v301 : Int32) (k_ : Nat) : Value := bif Nat.beq k_ 300 then .int v300 else (bif Nat.beq k_ 301 then .int v301 else (.int 0))
def malE_s (a1000 a1001 : Nat) (n_ : Nat) : Nat := bif Nat.beq n_ 1000 then a1000 else (bif Nat.beq n_ 1001 then a1001 else (0))
theorem malE {h_ : xH} {a1000 a1001 : Nat} {v300 v301 : Int32} (hs : sHp h_) (k1000 : bcq h_ a1000 20 13) (k1001 : bcq h_ a1001 20 13) (o0_ : bpat h_ a1000 0 = some (.int v300)) (o1 : bpat h_ a1001 0 = some (.int v301)) (c0_ : v300 = v301) : ∃ h', ysm h_ h' ∧ (((∀ a_ j_ : Nat, bpat h' a_ j_ = bpat h_ a_ j_) ∧ (bldD 60 144 0 [(0, .index a1000), (1, .index a1001)] [] h_ 17 [(3, .int (1 : Int32)), (2, .int (1 : Int32)), (0, .index a1000), (1, .index a1001)] [] h'))) := by
  have hA : yas malE_A (malE_r v300 v301) (yg (malE_s a1000 a1001)) := ⟨fun q_ hq => absurd hq List.not_mem_nil, fun q_ hq => absurd hq List.not_mem_nil, fun q_ hq => absurd hq List.not_mem_nil, fun n_ hn => yg_lo hn, fun q_ hq => absurd hq List.not_mem_nil⟩
  have Hs : ysh malE_A.1 (yg (malE_s a1000 a1001)) h_ := ysh_of2 hs (List.forall_mem_cons.mpr ⟨⟨by decide, k1000⟩, List.forall_mem_cons.mpr ⟨⟨by decide, k1001⟩, fun q_ hq => absurd hq List.not_mem_nil⟩⟩)
  have Ho : ymem (malE_r v300 v301) (yg (malE_s a1000 a1001)) malE_O h_ := List.forall_mem_cons.mpr ⟨bpat_some o0_, List.forall_mem_cons.mpr ⟨bpat_some o1, fun q_ hq => absurd hq List.not_mem_nil⟩⟩
  have HC : ∀ q_ ∈ malE_C, xhold (malE_r v300 v301) q_ := List.forall_mem_cons.mpr ⟨xh_eqT2 c0_, fun q_ hq => absurd hq List.not_mem_nil⟩
  rcases yrun (yis_ok malE_k) hA Hs Ho HC with ⟨q_, hq, h', K_, G_⟩ | ⟨q_, hq, h', K_, G_⟩
  · have e_ := List.mem_singleton.mp hq
    subst e_
    exact ⟨h', yfr_sm K_.2.2.2 hs K_.1 (ywa_s malE_w List.mem_cons_self), ⟨fun a_ j_ => yfr_bp K_.2.2.2 (fun q_ hq => absurd hq List.not_mem_nil), G_⟩⟩
  · cases hq
-- malF: 11 steps, 1 ends, 0 returns
def malF_L : List (Nat × Nat × Nat) := [(1000, 20, 13), (1001, 20, 13)]
def malF_O : yO := [(1000, .int 0, .arg 300), (1001, .int 0, .arg 301)]
def malF_A : yA := (yZ malF_L, [], [], [], [])
def malF_C : List xB := [(.eq, .arg 300, .arg 301, false)]
def malF_ss : List yS := [(17, [(3, .int 1), (2, .int 0), (0, .index 1000), (1, .index 1001)], [], [(1000, .int 0, .arg 300), (1001, .int 0, .arg 301)], [(.eq, .arg 300, .arg 301, false)], [])]
def malF_rs : List yR := []
theorem malF_w : ywa malF_A malF_ss malF_rs = true := by decide +kernel
theorem malF_k : yis (yev malF_A 3000 60 144 [17] (0, [(0, .index 1000), (1, .index 1001)], [], malF_O, malF_C, [])) malF_ss malF_rs = true := by decide +kernel
def malF_r (v300 v301 : Int32) (k_ : Nat) : Value := bif Nat.beq k_ 300 then .int v300 else (bif Nat.beq k_ 301 then .int v301 else (.int 0))
def malF_s (a1000 a1001 : Nat) (n_ : Nat) : Nat := bif Nat.beq n_ 1000 then a1000 else (bif Nat.beq n_ 1001 then a1001 else (0))
theorem malF {h_ : xH} {a1000 a1001 : Nat} {v300 v301 : Int32} (hs : sHp h_) (k1000 : bcq h_ a1000 20 13) (k1001 : bcq h_ a1001 20 13) (o0_ : bpat h_ a1000 0 = some (.int v300)) (o1 : bpat h_ a1001 0 = some (.int v301)) (c0_ : ¬ v300 = v301) : ∃ h', ysm h_ h' ∧ (((∀ a_ j_ : Nat, bpat h' a_ j_ = bpat h_ a_ j_) ∧ (bldD 60 144 0 [(0, .index a1000), (1, .index a1001)] [] h_ 17 [(3, .int (1 : Int32)), (2, .int (0 : Int32)), (0, .index a1000), (1, .index a1001)] [] h'))) := by
  have hA : yas malF_A (malF_r v300 v301) (yg (malF_s a1000 a1001)) := ⟨fun q_ hq => absurd hq List.not_mem_nil, fun q_ hq => absurd hq List.not_mem_nil, fun q_ hq => absurd hq List.not_mem_nil, fun n_ hn => yg_lo hn, fun q_ hq => absurd hq List.not_mem_nil⟩
  have Hs : ysh malF_A.1 (yg (malF_s a1000 a1001)) h_ := ysh_of2 hs (List.forall_mem_cons.mpr ⟨⟨by decide, k1000⟩, List.forall_mem_cons.mpr ⟨⟨by decide, k1001⟩, fun q_ hq => absurd hq List.not_mem_nil⟩⟩)
  have Ho : ymem (malF_r v300 v301) (yg (malF_s a1000 a1001)) malF_O h_ := List.forall_mem_cons.mpr ⟨bpat_some o0_, List.forall_mem_cons.mpr ⟨bpat_some o1, fun q_ hq => absurd hq List.not_mem_nil⟩⟩
  have HC : ∀ q_ ∈ malF_C, xhold (malF_r v300 v301) q_ := List.forall_mem_cons.mpr ⟨xh_eqF2 c0_, fun q_ hq => absurd hq List.not_mem_nil⟩
  rcases yrun (yis_ok malF_k) hA Hs Ho HC with ⟨q_, hq, h', K_, G_⟩ | ⟨q_, hq, h', K_, G_⟩
  · have e_ := List.mem_singleton.mp hq
    subst e_
    exact ⟨h', yfr_sm K_.2.2.2 hs K_.1 (ywa_s malF_w List.mem_cons_self), ⟨fun a_ j_ => yfr_bp K_.2.2.2 (fun q_ hq => absurd hq List.not_mem_nil), G_⟩⟩
  · cases hq
-- malT: 19 steps, 1 ends, 0 returns
def malT_L : List (Nat × Nat × Nat) := [(1000, 20, 13), (1001, 20, 13)]
def malT_O : yO := [(1000, .int 0, .arg 300), (1000, .arg 3, .arg 302), (1001, .arg 3, .arg 303)]
def malT_A : yA := (yZ malT_L, [(.arg 3, 13)], [], [], [])
def malT_C : List xB := [(.eq, .arg 302, .arg 303, true), (.le, .arg 3, .arg 300, true)]
def malT_ss : List yS := [(17, [(3, .add (.arg 3) (.int 1)), (2, .int 1), (0, .index 1000), (1, .index 1001)], [], [(1000, .int 0, .arg 300), (1000, .arg 3, .arg 302), (1001, .arg 3, .arg 303)], [(.eq, .arg 302, .arg 303, true), (.le, .arg 3, .arg 300, true)], [])]
def malT_rs : List yR := []
theorem malT_w : ywa malT_A malT_ss malT_rs = true := by decide +kernel
theorem malT_k : yis (yev malT_A 3000 60 144 [17] (17, [(3, .arg 3), (2, .int 1), (0, .index 1000), (1, .index 1001)], [], malT_O, malT_C, [])) malT_ss malT_rs = true := by decide +kernel
def malT_r (v3 v300 v302 v303 : Int32) (k_ : Nat) : Value := bif Nat.beq k_ 3 then .int v3 else (bif Nat.beq k_ 300 then .int v300 else (bif Nat.beq k_ 302 then .int v302 else (bif Nat.beq k_ 303 then .int v303 else (.int 0))))
def malT_s (a1000 a1001 : Nat) (n_ : Nat) : Nat := bif Nat.beq n_ 1000 then a1000 else (bif Nat.beq n_ 1001 then a1001 else (0))
theorem malT {h_ : xH} {a1000 a1001 : Nat} {v3 v300 v302 v303 : Int32} (hs : sHp h_) (k1000 : bcq h_ a1000 20 13) (k1001 : bcq h_ a1001 20 13) (o0_ : bpat h_ a1000 0 = some (.int v300)) (o1 : bpat h_ a1000 (v3).toInt.toNat = some (.int v302)) (o2 : bpat h_ a1001 (v3).toInt.toNat = some (.int v303)) (b0 : 0 ≤ (v3).toInt ∧ (v3).toInt < 13) (c0_ : v302 = v303) (c1_ : v3.toInt ≤ v300.toInt) : ∃ h', ysm h_ h' ∧ (((∀ a_ j_ : Nat, bpat h' a_ j_ = bpat h_ a_ j_) ∧ (bldD 60 144 17 [(3, .int v3), (2, .int (1 : Int32)), (0, .index a1000), (1, .index a1001)] [] h_ 17 [(3, .int (v3 + (1 : Int32))), (2, .int (1 : Int32)), (0, .index a1000), (1, .index a1001)] [] h'))) := by
  have hA : yas malT_A (malT_r v3 v300 v302 v303) (yg (malT_s a1000 a1001)) := ⟨List.forall_mem_cons.mpr ⟨b0, fun q_ hq => absurd hq List.not_mem_nil⟩, fun q_ hq => absurd hq List.not_mem_nil, fun q_ hq => absurd hq List.not_mem_nil, fun n_ hn => yg_lo hn, fun q_ hq => absurd hq List.not_mem_nil⟩
  have Hs : ysh malT_A.1 (yg (malT_s a1000 a1001)) h_ := ysh_of2 hs (List.forall_mem_cons.mpr ⟨⟨by decide, k1000⟩, List.forall_mem_cons.mpr ⟨⟨by decide, k1001⟩, fun q_ hq => absurd hq List.not_mem_nil⟩⟩)
  have Ho : ymem (malT_r v3 v300 v302 v303) (yg (malT_s a1000 a1001)) malT_O h_ := List.forall_mem_cons.mpr ⟨bpat_some o0_, List.forall_mem_cons.mpr ⟨bpat_some o1, List.forall_mem_cons.mpr ⟨bpat_some o2, fun q_ hq => absurd hq List.not_mem_nil⟩⟩⟩
  have HC : ∀ q_ ∈ malT_C, xhold (malT_r v3 v300 v302 v303) q_ := List.forall_mem_cons.mpr ⟨xh_eqT2 c0_, List.forall_mem_cons.mpr ⟨xh_leT c1_, fun q_ hq => absurd hq List.not_mem_nil⟩⟩
  rcases yrun (yis_ok malT_k) hA Hs Ho HC with ⟨q_, hq, h', K_, G_⟩ | ⟨q_, hq, h', K_, G_⟩
  · have e_ := List.mem_singleton.mp hq
    subst e_
    exact ⟨h', yfr_sm K_.2.2.2 hs K_.1 (ywa_s malT_w List.mem_cons_self), ⟨fun a_ j_ => yfr_bp K_.2.2.2 (fun q_ hq => absurd hq List.not_mem_nil), G_⟩⟩
  · cases hq
-- malU: 18 steps, 1 ends, 0 returns
def malU_L : List (Nat × Nat × Nat) := [(1000, 20, 13), (1001, 20, 13)]
def malU_O : yO := [(1000, .int 0, .arg 300), (1000, .arg 3, .arg 302), (1001, .arg 3, .arg 303)]
def malU_A : yA := (yZ malU_L, [(.arg 3, 13)], [], [], [])
def malU_C : List xB := [(.eq, .arg 302, .arg 303, false), (.le, .arg 3, .arg 300, true)]
def malU_ss : List yS := [(17, [(3, .add (.arg 3) (.int 1)), (2, .int 0), (0, .index 1000), (1, .index 1001)], [], [(1000, .int 0, .arg 300), (1000, .arg 3, .arg 302), (1001, .arg 3, .arg 303)], [(.eq, .arg 302, .arg 303, false), (.le, .arg 3, .arg 300, true)], [])]
def malU_rs : List yR := []
theorem malU_w : ywa malU_A malU_ss malU_rs = true := by decide +kernel
theorem malU_k : yis (yev malU_A 3000 60 144 [17] (17, [(3, .arg 3), (2, .int 1), (0, .index 1000), (1, .index 1001)], [], malU_O, malU_C, [])) malU_ss malU_rs = true := by decide +kernel
def malU_r (v3 v300 v302 v303 : Int32) (k_ : Nat) : Value := bif Nat.beq k_ 3 then .int v3 else (bif Nat.beq k_ 300 then .int v300 else (bif Nat.beq k_ 302 then .int v302 else (bif Nat.beq k_ 303 then .int v303 else (.int 0))))
def malU_s (a1000 a1001 : Nat) (n_ : Nat) : Nat := bif Nat.beq n_ 1000 then a1000 else (bif Nat.beq n_ 1001 then a1001 else (0))
theorem malU {h_ : xH} {a1000 a1001 : Nat} {v3 v300 v302 v303 : Int32} (hs : sHp h_) (k1000 : bcq h_ a1000 20 13) (k1001 : bcq h_ a1001 20 13) (o0_ : bpat h_ a1000 0 = some (.int v300)) (o1 : bpat h_ a1000 (v3).toInt.toNat = some (.int v302)) (o2 : bpat h_ a1001 (v3).toInt.toNat = some (.int v303)) (b0 : 0 ≤ (v3).toInt ∧ (v3).toInt < 13) (c0_ : ¬ v302 = v303) (c1_ : v3.toInt ≤ v300.toInt) : ∃ h', ysm h_ h' ∧ (((∀ a_ j_ : Nat, bpat h' a_ j_ = bpat h_ a_ j_) ∧ (bldD 60 144 17 [(3, .int v3), (2, .int (1 : Int32)), (0, .index a1000), (1, .index a1001)] [] h_ 17 [(3, .int (v3 + (1 : Int32))), (2, .int (0 : Int32)), (0, .index a1000), (1, .index a1001)] [] h'))) := by
  have hA : yas malU_A (malU_r v3 v300 v302 v303) (yg (malU_s a1000 a1001)) := ⟨List.forall_mem_cons.mpr ⟨b0, fun q_ hq => absurd hq List.not_mem_nil⟩, fun q_ hq => absurd hq List.not_mem_nil, fun q_ hq => absurd hq List.not_mem_nil, fun n_ hn => yg_lo hn, fun q_ hq => absurd hq List.not_mem_nil⟩
  have Hs : ysh malU_A.1 (yg (malU_s a1000 a1001)) h_ := ysh_of2 hs (List.forall_mem_cons.mpr ⟨⟨by decide, k1000⟩, List.forall_mem_cons.mpr ⟨⟨by decide, k1001⟩, fun q_ hq => absurd hq List.not_mem_nil⟩⟩)
  have Ho : ymem (malU_r v3 v300 v302 v303) (yg (malU_s a1000 a1001)) malU_O h_ := List.forall_mem_cons.mpr ⟨bpat_some o0_, List.forall_mem_cons.mpr ⟨bpat_some o1, List.forall_mem_cons.mpr ⟨bpat_some o2, fun q_ hq => absurd hq List.not_mem_nil⟩⟩⟩
  have HC : ∀ q_ ∈ malU_C, xhold (malU_r v3 v300 v302 v303) q_ := List.forall_mem_cons.mpr ⟨xh_eqF2 c0_, List.forall_mem_cons.mpr ⟨xh_leT c1_, fun q_ hq => absurd hq List.not_mem_nil⟩⟩
  rcases yrun (yis_ok malU_k) hA Hs Ho HC with ⟨q_, hq, h', K_, G_⟩ | ⟨q_, hq, h', K_, G_⟩
  · have e_ := List.mem_singleton.mp hq
    subst e_
    exact ⟨h', yfr_sm K_.2.2.2 hs K_.1 (ywa_s malU_w List.mem_cons_self), ⟨fun a_ j_ => yfr_bp K_.2.2.2 (fun q_ hq => absurd hq List.not_mem_nil), G_⟩⟩
  · cases hq
-- malX: 7 steps, 0 ends, 1 returns
def malX_L : List (Nat × Nat × Nat) := [(1000, 20, 13), (1001, 20, 13)]
def malX_O : yO := [(1000, .int 0, .arg 300)]
def malX_A : yA := (yZ malX_L, [], [], [], [])
def malX_C : List xB := [(.le, .arg 3, .arg 300, false)]
def malX_ss : List yS := []
def malX_rs : List yR := [(some (.int 1), [(1000, .int 0, .arg 300)], [(.le, .arg 3, .arg 300, false)], [])]
theorem malX_w : ywa malX_A malX_ss malX_rs = true := by decide +kernel
theorem malX_k : yis (yev malX_A 3000 60 144 [] (17, [(3, .arg 3), (2, .int 1), (0, .index 1000), (1, .index 1001)], [], malX_O, malX_C, [])) malX_ss malX_rs = true := by decide +kernel
def malX_r (v3 v300 : Int32) (k_ : Nat) : Value := bif Nat.beq k_ 3 then .int v3 else (bif Nat.beq k_ 300 then .int v300 else (.int 0))
def malX_s (a1000 a1001 : Nat) (n_ : Nat) : Nat := bif Nat.beq n_ 1000 then a1000 else (bif Nat.beq n_ 1001 then a1001 else (0))
theorem malX {h_ : xH} {a1000 a1001 : Nat} {v3 v300 : Int32} (hs : sHp h_) (k1000 : bcq h_ a1000 20 13) (k1001 : bcq h_ a1001 20 13) (o0_ : bpat h_ a1000 0 = some (.int v300)) (c0_ : v300.toInt < v3.toInt) : ∃ h', ysm h_ h' ∧ (((∀ a_ j_ : Nat, bpat h' a_ j_ = bpat h_ a_ j_) ∧ (∀ D_, 60 ≤ D_ → xrun D_ 144 17 [(3, .int v3), (2, .int (1 : Int32)), (0, .index a1000), (1, .index a1001)] [] h_ (some (.int (1 : Int32)), h', [])))) := by
  have hA : yas malX_A (malX_r v3 v300) (yg (malX_s a1000 a1001)) := ⟨fun q_ hq => absurd hq List.not_mem_nil, fun q_ hq => absurd hq List.not_mem_nil, fun q_ hq => absurd hq List.not_mem_nil, fun n_ hn => yg_lo hn, fun q_ hq => absurd hq List.not_mem_nil⟩
  have Hs : ysh malX_A.1 (yg (malX_s a1000 a1001)) h_ := ysh_of2 hs (List.forall_mem_cons.mpr ⟨⟨by decide, k1000⟩, List.forall_mem_cons.mpr ⟨⟨by decide, k1001⟩, fun q_ hq => absurd hq List.not_mem_nil⟩⟩)
  have Ho : ymem (malX_r v3 v300) (yg (malX_s a1000 a1001)) malX_O h_ := List.forall_mem_cons.mpr ⟨bpat_some o0_, fun q_ hq => absurd hq List.not_mem_nil⟩
  have HC : ∀ q_ ∈ malX_C, xhold (malX_r v3 v300) q_ := List.forall_mem_cons.mpr ⟨xh_leF c0_, fun q_ hq => absurd hq List.not_mem_nil⟩
  rcases yrun (yis_ok malX_k) hA Hs Ho HC with ⟨q_, hq, h', K_, G_⟩ | ⟨q_, hq, h', K_, G_⟩
  · cases hq
  · have e_ := List.mem_singleton.mp hq
    subst e_
    exact ⟨h', yfr_sm K_.2.2.2 hs K_.1 (ywa_r malX_w List.mem_cons_self), ⟨fun a_ j_ => yfr_bp K_.2.2.2 (fun q_ hq => absurd hq List.not_mem_nil), G_⟩⟩
-- malY: 11 steps, 0 ends, 2 returns
def malY_L : List (Nat × Nat × Nat) := [(1000, 20, 13), (1001, 20, 13)]
def malY_O : yO := [(1000, .int 0, .arg 300)]
def malY_A : yA := (yZ malY_L, [], [], [], [])
def malY_C : List xB := []
def malY_ss : List yS := []
def malY_rs : List yR := [(some (.int 0), [(1000, .int 0, .arg 300)], [(.le, .arg 3, .arg 300, false)], []),
  (some (.int 0), [(1000, .int 0, .arg 300)], [(.le, .arg 3, .arg 300, true)], [])]
theorem malY_w : ywa malY_A malY_ss malY_rs = true := by decide +kernel
theorem malY_k : yis (yev malY_A 3000 60 144 [] (17, [(3, .arg 3), (2, .int 0), (0, .index 1000), (1, .index 1001)], [], malY_O, malY_C, [])) malY_ss malY_rs = true := by decide +kernel
def malY_r (v3 v300 : Int32) (k_ : Nat) : Value := bif Nat.beq k_ 3 then .int v3 else (bif Nat.beq k_ 300 then .int v300 else (.int 0))
def malY_s (a1000 a1001 : Nat) (n_ : Nat) : Nat := bif Nat.beq n_ 1000 then a1000 else (bif Nat.beq n_ 1001 then a1001 else (0))
theorem malY {h_ : xH} {a1000 a1001 : Nat} {v3 v300 : Int32} (hs : sHp h_) (k1000 : bcq h_ a1000 20 13) (k1001 : bcq h_ a1001 20 13) (o0_ : bpat h_ a1000 0 = some (.int v300)) : ∃ h', ysm h_ h' ∧ (((v300.toInt < v3.toInt) ∧ (∀ a_ j_ : Nat, bpat h' a_ j_ = bpat h_ a_ j_) ∧ (∀ D_, 60 ≤ D_ → xrun D_ 144 17 [(3, .int v3), (2, .int (0 : Int32)), (0, .index a1000), (1, .index a1001)] [] h_ (some (.int (0 : Int32)), h', [])))
  ∨ ((v3.toInt ≤ v300.toInt) ∧ (∀ a_ j_ : Nat, bpat h' a_ j_ = bpat h_ a_ j_) ∧ (∀ D_, 60 ≤ D_ → xrun D_ 144 17 [(3, .int v3), (2, .int (0 : Int32)), (0, .index a1000), (1, .index a1001)] [] h_ (some (.int (0 : Int32)), h', [])))) := by
  have hA : yas malY_A (malY_r v3 v300) (yg (malY_s a1000 a1001)) := ⟨fun q_ hq => absurd hq List.not_mem_nil, fun q_ hq => absurd hq List.not_mem_nil, fun q_ hq => absurd hq List.not_mem_nil, fun n_ hn => yg_lo hn, fun q_ hq => absurd hq List.not_mem_nil⟩
  have Hs : ysh malY_A.1 (yg (malY_s a1000 a1001)) h_ := ysh_of2 hs (List.forall_mem_cons.mpr ⟨⟨by decide, k1000⟩, List.forall_mem_cons.mpr ⟨⟨by decide, k1001⟩, fun q_ hq => absurd hq List.not_mem_nil⟩⟩)
  have Ho : ymem (malY_r v3 v300) (yg (malY_s a1000 a1001)) malY_O h_ := List.forall_mem_cons.mpr ⟨bpat_some o0_, fun q_ hq => absurd hq List.not_mem_nil⟩
  have HC : ∀ q_ ∈ malY_C, xhold (malY_r v3 v300) q_ := fun q_ hq => absurd hq List.not_mem_nil
  rcases yrun (yis_ok malY_k) hA Hs Ho HC with ⟨q_, hq, h', K_, G_⟩ | ⟨q_, hq, h', K_, G_⟩
  · cases hq
  · rcases List.mem_cons.mp hq with e_ | hq
    · subst e_
      exact ⟨h', yfr_sm K_.2.2.2 hs K_.1 (ywa_r malY_w List.mem_cons_self), Or.inl (⟨xq_leF rfl rfl (K_.2.2.1 _ List.mem_cons_self), fun a_ j_ => yfr_bp K_.2.2.2 (fun q_ hq => absurd hq List.not_mem_nil), G_⟩)⟩
    have e_ := List.mem_singleton.mp hq
    subst e_
    exact ⟨h', yfr_sm K_.2.2.2 hs K_.1 (ywa_r malY_w (List.mem_cons_of_mem _ List.mem_cons_self)), Or.inr (⟨xq_leT rfl rfl (K_.2.2.1 _ List.mem_cons_self), fun a_ j_ => yfr_bp K_.2.2.2 (fun q_ hq => absurd hq List.not_mem_nil), G_⟩)⟩
-- ===== areAlike, the reference
theorem al_no {b1 b2 : Nat} {l1 l2 : List Int32} {v3 : Int32} {h_ : xH} (R1 : rM b1 h_ l1) (R2 : rM b2 h_ l2) : ∃ h', ysm h_ h' ∧ ((∀ c_ j_, bpat h' c_ j_ = bpat h_ c_ j_) ∧ ∀ D_, 60 ≤ D_ → xrun D_ 144 17 [(3, .int v3), (2, .int 0), (0, .index b1), (1, .index b2)] [] h_ (some (.int 0), h', [])) := by
  obtain ⟨h1, m1_, e_⟩ := malY (v3 := v3) (v300 := Int32.ofNat l1.length) R1.1 R1.2.1.1 R2.2.1.1 R1.2.1.2.1
  rcases e_ with ⟨-, f1_, r1_⟩ | ⟨-, f1_, r1_⟩
  · exact ⟨h1, m1_, f1_, r1_⟩
  · exact ⟨h1, m1_, f1_, r1_⟩
theorem al_lp {b1 b2 : Nat} {l1 l2 : List Int32} (hl : l1.length = l2.length) : ∀ (r_ i_ : Nat) (h_ : xH), i_ + r_ = l1.length → rM b1 h_ l1 → rM b2 h_ l2 → (∀ j_, j_ < i_ → ∃ x_, l1[j_]? = some x_ ∧ l2[j_]? = some x_) → ∃ h', ysm h_ h' ∧ ((∀ c_ j_, bpat h' c_ j_ = bpat h_ c_ j_) ∧ ∀ D_, 60 ≤ D_ → xrun D_ 144 17 [(3, .int (Int32.ofNat (i_ + 1))), (2, .int 1), (0, .index b1), (1, .index b2)] [] h_ (some (.int (if l1 = l2 then 1 else 0)), h', [])) := by
  intro r_
  induction r_ with
  | zero =>
    intro i_ h_ hi_ R1 R2 P_
    have ll1 := R1.2.2
    obtain ⟨h1, m1_, f1_, r1_⟩ := malX (v3 := Int32.ofNat (i_ + 1)) (v300 := Int32.ofNat l1.length) R1.1 R1.2.1.1 R2.2.1.1 R1.2.1.2.1 (by rw [i32n (by omega), i32n (by omega)]; omega)
    rw [if_pos (fu_eq hl (fun j_ hj => P_ j_ (by omega)))]
    exact ⟨h1, m1_, f1_, r1_⟩
  | succ r_ ih_ =>
    intro i_ h_ hi_ R1 R2 P_
    have ll1 := R1.2.2
    have lt1 : i_ < l1.length := by omega
    have lt2 : i_ < l2.length := by omega
    have ii := i32n (i_ := i_ + 1) (by omega)
    have il := i32n (i_ := l1.length) (by omega)
    have o1 := R1.2.1.2.2 i_ _ (getD_a lt1)
    have o2 := R2.2.1.2.2 i_ _ (getD_a lt2)
    rw [show 0 + 1 + i_ = i_ + 1 by omega] at o1 o2
    by_cases g_ : l1.getD i_ 0 = l2.getD i_ 0
    · obtain ⟨h1, m1_, f1_, ld1⟩ := malT (v3 := Int32.ofNat (i_ + 1)) (v300 := Int32.ofNat l1.length) (v302 := l1.getD i_ 0) (v303 := l2.getD i_ 0) R1.1 R1.2.1.1 R2.2.1.1 R1.2.1.2.1 (by rw [i32t (by omega)]; exact o1) (by rw [i32t (by omega)]; exact o2) ⟨by omega, by omega⟩ g_ (by omega)
      rw [i32s] at ld1
      obtain ⟨h2, m2_, f2_, r2⟩ := ih_ (i_ + 1) h1 (by omega) (rM_all R1 m1_ f1_) (rM_all R2 m1_ f1_) (fun j_ hj => by
        by_cases gj : j_ = i_
        · subst gj
          exact ⟨_, getD_a lt1, by rw [g_]; exact getD_a lt2⟩
        · exact P_ j_ (by omega))
      exact ⟨h2, ysm_tr m1_ m2_, fun c_ j_ => (f2_ c_ j_).trans (f1_ c_ j_), fun D_ hD => ld1 D_ hD _ (r2 D_ hD)⟩
    · have e0_ : ¬ l1 = l2 := fun q_ => g_ (by rw [q_])
      obtain ⟨h1, m1_, f1_, ld1⟩ := malU (v3 := Int32.ofNat (i_ + 1)) (v300 := Int32.ofNat l1.length) (v302 := l1.getD i_ 0) (v303 := l2.getD i_ 0) R1.1 R1.2.1.1 R2.2.1.1 R1.2.1.2.1 (by rw [i32t (by omega)]; exact o1) (by rw [i32t (by omega)]; exact o2) ⟨by omega, by omega⟩ g_ (by omega)
      obtain ⟨h2, m2_, f2_, r2⟩ := al_no (v3 := Int32.ofNat (i_ + 1) + 1) (rM_all R1 m1_ f1_) (rM_all R2 m1_ f1_)
      rw [if_neg e0_]
      exact ⟨h2, ysm_tr m1_ m2_, fun c_ j_ => (f2_ c_ j_).trans (f1_ c_ j_), fun D_ hD => ld1 D_ hD _ (r2 D_ hD)⟩
theorem alM {b1 b2 : Nat} {l1 l2 : List Int32} {h_ : xH} (R1 : rM b1 h_ l1) (R2 : rM b2 h_ l2) : ∃ h', ysm h_ h' ∧ ((∀ c_ j_, bpat h' c_ j_ = bpat h_ c_ j_) ∧ ∀ D_, 60 ≤ D_ → xrun D_ 144 0 [(0, .index b1), (1, .index b2)] [] h_ (some (.int (if l1 = l2 then 1 else 0)), h', [])) := by
  have ll1 := R1.2.2
  have ll2 := R2.2.2
  by_cases g_ : l1.length = l2.length
  · obtain ⟨h1, m1_, f1_, ld1⟩ := malE (v300 := Int32.ofNat l1.length) (v301 := Int32.ofNat l2.length) R1.1 R1.2.1.1 R2.2.1.1 R1.2.1.2.1 R2.2.1.2.1 (by rw [g_])
    obtain ⟨h2, m2_, f2_, r2⟩ := al_lp g_ l1.length 0 h1 (by omega) (rM_all R1 m1_ f1_) (rM_all R2 m1_ f1_) (fun j_ hj => by omega)
    exact ⟨h2, ysm_tr m1_ m2_, fun c_ j_ => (f2_ c_ j_).trans (f1_ c_ j_), fun D_ hD => ld1 D_ hD _ (r2 D_ hD)⟩
  · have e0_ : ¬ l1 = l2 := fun q_ => g_ (by rw [q_])
    obtain ⟨h1, m1_, f1_, ld1⟩ := malF (v300 := Int32.ofNat l1.length) (v301 := Int32.ofNat l2.length) R1.1 R1.2.1.1 R2.2.1.1 R1.2.1.2.1 R2.2.1.2.1 (fun q_ => g_ (by have q_ := congrArg Int32.toInt q_; rw [i32n (by omega), i32n (by omega)] at q_; omega))
    obtain ⟨h2, m2_, f2_, r2⟩ := al_no (v3 := 1) (rM_all R1 m1_ f1_) (rM_all R2 m1_ f1_)
    rw [if_neg e0_]
    exact ⟨h2, ysm_tr m1_ m2_, fun c_ j_ => (f2_ c_ j_).trans (f1_ c_ j_), fun D_ hD => ld1 D_ hD _ (r2 D_ hD)⟩
-- xsvE: 57 steps, 1 ends, 2 returns
def xsvE_L : List (Nat × Nat × Nat) := []
def xsvE_O : yO := [(0, .int 0, .index 1), (1, .int 9, .arg 310), (0, .int 13, .index 323), (323, .int 1, .arg 400), (0, .int 8, .index 314)]
def xsvE_A : yA := (yZ xsvE_L, [], [], [], [])
def xsvE_C : List xB := []
def xsvE_ss : List yS := [(17, [(0, .index 0), (1, .arg 1), (2, .arg 2)], [.index 314, .arg 2, .index 1], [(0, .int 0, .index 1), (1, .int 9, .arg 310), (0, .int 13, .index 323), (323, .int 1, .arg 400), (0, .int 8, .index 314)], [(.lt, .arg 1, .arg 310, true), (.lt, .arg 1, .int 0, false)], [])]
def xsvE_rs : List yR := [(some (.int (Int32.ofInt (-1000001))), [(323, .int 1, .add (.arg 400) (.int 1)), (0, .int 0, .index 1), (1, .int 9, .arg 310), (0, .int 13, .index 323), (0, .int 8, .index 314)], [(.lt, .arg 1, .int 0, true)], [(323, .int 1)]),
  (some (.int (Int32.ofInt (-1000001))), [(323, .int 1, .add (.arg 400) (.int 1)), (0, .int 0, .index 1), (1, .int 9, .arg 310), (0, .int 13, .index 323), (0, .int 8, .index 314)], [(.lt, .arg 1, .arg 310, false), (.lt, .arg 1, .int 0, false)], [(323, .int 1)])]
theorem xsvE_w : ywa xsvE_A xsvE_ss xsvE_rs = true := by decide +kernel
theorem xsvE_k : yis (yev xsvE_A 3000 60 88 [17] (0, [(0, .index 0), (1, .arg 1), (2, .arg 2)], [], xsvE_O, xsvE_C, [])) xsvE_ss xsvE_rs = true := by decide +kernel
def xsvE_r (v1_ v2 v310 v400 : Int32) (k_ : Nat) : Value := bif Nat.beq k_ 1 then .int v1_ else (bif Nat.beq k_ 2 then .int v2 else (bif Nat.beq k_ 310 then .int v310 else (bif Nat.beq k_ 400 then .int v400 else (.int 0))))
def xsvE_s (n_ : Nat) : Nat := 0
theorem xsvE {h_ : xH} {v1_ v2 v310 v400 : Int32} (hs : sHp h_) (o0_ : bpat h_ 1 9 = some (.int v310)) (o1 : bpat h_ 323 1 = some (.int v400)) : ∃ h', ysm h_ h' ∧ (((v1_.toInt < v310.toInt) ∧ ((0 : Int32).toInt ≤ v1_.toInt) ∧ (∀ a_ j_ : Nat, bpat h' a_ j_ = bpat h_ a_ j_) ∧ (bldD 60 88 0 [(0, .index 0), (1, .int v1_), (2, .int v2)] [] h_ 17 [(0, .index 0), (1, .int v1_), (2, .int v2)] [.index 314, .int v2, .index 1] h'))
  ∨ ((v1_.toInt < (0 : Int32).toInt) ∧ (bpat h' 323 1 = some (.int (v400 + (1 : Int32)))) ∧ (∀ a_ j_ : Nat, ¬ (a_ = 323 ∧ j_ = 1) → bpat h' a_ j_ = bpat h_ a_ j_) ∧ (∀ D_, 60 ≤ D_ → xrun D_ 88 0 [(0, .index 0), (1, .int v1_), (2, .int v2)] [] h_ (some (.int (Int32.ofInt (-1000001))), h', [])))
  ∨ ((v310.toInt ≤ v1_.toInt) ∧ ((0 : Int32).toInt ≤ v1_.toInt) ∧ (bpat h' 323 1 = some (.int (v400 + (1 : Int32)))) ∧ (∀ a_ j_ : Nat, ¬ (a_ = 323 ∧ j_ = 1) → bpat h' a_ j_ = bpat h_ a_ j_) ∧ (∀ D_, 60 ≤ D_ → xrun D_ 88 0 [(0, .index 0), (1, .int v1_), (2, .int v2)] [] h_ (some (.int (Int32.ofInt (-1000001))), h', [])))) := by
  have hA : yas xsvE_A (xsvE_r v1_ v2 v310 v400) (yg xsvE_s) := ⟨fun q_ hq => absurd hq List.not_mem_nil, fun q_ hq => absurd hq List.not_mem_nil, fun q_ hq => absurd hq List.not_mem_nil, fun n_ hn => yg_lo hn, fun q_ hq => absurd hq List.not_mem_nil⟩
  have Hs : ysh xsvE_A.1 (yg xsvE_s) h_ := ysh_of2 hs (fun q_ hq => absurd hq List.not_mem_nil)
  have Ho : ymem (xsvE_r v1_ v2 v310 v400) (yg xsvE_s) xsvE_O h_ := List.forall_mem_cons.mpr ⟨bpat_some (fxr_at hs.2 (show fxk fxl 0 0 = some 1 by decide +kernel)), List.forall_mem_cons.mpr ⟨bpat_some o0_, List.forall_mem_cons.mpr ⟨bpat_some (fxr_at hs.2 (show fxk fxl 0 13 = some 323 by decide +kernel)), List.forall_mem_cons.mpr ⟨bpat_some o1, List.forall_mem_cons.mpr ⟨bpat_some (fxr_at hs.2 (show fxk fxl 0 8 = some 314 by decide +kernel)), fun q_ hq => absurd hq List.not_mem_nil⟩⟩⟩⟩⟩
  have HC : ∀ q_ ∈ xsvE_C, xhold (xsvE_r v1_ v2 v310 v400) q_ := fun q_ hq => absurd hq List.not_mem_nil
  rcases yrun (yis_ok xsvE_k) hA Hs Ho HC with ⟨q_, hq, h', K_, G_⟩ | ⟨q_, hq, h', K_, G_⟩
  · have e_ := List.mem_singleton.mp hq
    subst e_
    exact ⟨h', yfr_sm K_.2.2.2 hs K_.1 (ywa_s xsvE_w List.mem_cons_self), Or.inl (⟨xq_ltT rfl rfl (K_.2.2.1 _ List.mem_cons_self), xq_ltF rfl rfl (K_.2.2.1 _ (List.mem_cons_of_mem _ List.mem_cons_self)), fun a_ j_ => yfr_bp K_.2.2.2 (fun q_ hq => absurd hq List.not_mem_nil), G_⟩)⟩
  · rcases List.mem_cons.mp hq with e_ | hq
    · subst e_
      exact ⟨h', yfr_sm K_.2.2.2 hs K_.1 (ywa_r xsvE_w List.mem_cons_self), Or.inr (Or.inl (⟨xq_ltT rfl rfl (K_.2.2.1 _ List.mem_cons_self), bpat_of (K_.2.1 _ List.mem_cons_self), fun a_ j_ n0_ => yfr_bp K_.2.2.2 (List.forall_mem_cons.mpr ⟨fun e_ => n0_ ⟨e_.1.symm, e_.2.symm⟩, fun q_ hq => absurd hq List.not_mem_nil⟩), G_⟩))⟩
    have e_ := List.mem_singleton.mp hq
    subst e_
    exact ⟨h', yfr_sm K_.2.2.2 hs K_.1 (ywa_r xsvE_w (List.mem_cons_of_mem _ List.mem_cons_self)), Or.inr (Or.inr (⟨xq_ltF rfl rfl (K_.2.2.1 _ List.mem_cons_self), xq_ltF rfl rfl (K_.2.2.1 _ (List.mem_cons_of_mem _ List.mem_cons_self)), bpat_of (K_.2.1 _ List.mem_cons_self), fun a_ j_ n0_ => yfr_bp K_.2.2.2 (List.forall_mem_cons.mpr ⟨fun e_ => n0_ ⟨e_.1.symm, e_.2.symm⟩, fun q_ hq => absurd hq List.not_mem_nil⟩), G_⟩))⟩
-- xsvF: 17 steps, 0 ends, 1 returns
def xsvF_L : List (Nat × Nat × Nat) := []
def xsvF_O : yO := [(0, .int 13, .index 323), (323, .int 1, .arg 400)]
def xsvF_A : yA := (yZ xsvF_L, [], [], [], [])
def xsvF_C : List xB := []
def xsvF_ss : List yS := []
def xsvF_rs : List yR := [(some (.int (Int32.ofInt (-1000001))), [(323, .int 1, .add (.arg 400) (.int 1)), (0, .int 13, .index 323)], [], [(323, .int 1)])]
theorem xsvF_w : ywa xsvF_A xsvF_ss xsvF_rs = true := by decide +kernel
theorem xsvF_k : yis (yev xsvF_A 3000 60 88 [] (20, [(0, .index 0), (1, .arg 1), (2, .arg 2)], [.int 0], xsvF_O, xsvF_C, [])) xsvF_ss xsvF_rs = true := by decide +kernel
def xsvF_r (v1_ v2 v400 : Int32) (k_ : Nat) : Value := bif Nat.beq k_ 1 then .int v1_ else (bif Nat.beq k_ 2 then .int v2 else (bif Nat.beq k_ 400 then .int v400 else (.int 0)))
def xsvF_s (n_ : Nat) : Nat := 0
theorem xsvF {h_ : xH} {v1_ v2 v400 : Int32} (hs : sHp h_) (o0_ : bpat h_ 323 1 = some (.int v400)) : ∃ h', ysm h_ h' ∧ (((bpat h' 323 1 = some (.int (v400 + (1 : Int32)))) ∧ (∀ a_ j_ : Nat, ¬ (a_ = 323 ∧ j_ = 1) → bpat h' a_ j_ = bpat h_ a_ j_) ∧ (∀ D_, 60 ≤ D_ → xrun D_ 88 20 [(0, .index 0), (1, .int v1_), (2, .int v2)] [.int (0 : Int32)] h_ (some (.int (Int32.ofInt (-1000001))), h', [])))) := by
  have hA : yas xsvF_A (xsvF_r v1_ v2 v400) (yg xsvF_s) := ⟨fun q_ hq => absurd hq List.not_mem_nil, fun q_ hq => absurd hq List.not_mem_nil, fun q_ hq => absurd hq List.not_mem_nil, fun n_ hn => yg_lo hn, fun q_ hq => absurd hq List.not_mem_nil⟩
  have Hs : ysh xsvF_A.1 (yg xsvF_s) h_ := ysh_of2 hs (fun q_ hq => absurd hq List.not_mem_nil)
  have Ho : ymem (xsvF_r v1_ v2 v400) (yg xsvF_s) xsvF_O h_ := List.forall_mem_cons.mpr ⟨bpat_some (fxr_at hs.2 (show fxk fxl 0 13 = some 323 by decide +kernel)), List.forall_mem_cons.mpr ⟨bpat_some o0_, fun q_ hq => absurd hq List.not_mem_nil⟩⟩
  have HC : ∀ q_ ∈ xsvF_C, xhold (xsvF_r v1_ v2 v400) q_ := fun q_ hq => absurd hq List.not_mem_nil
  rcases yrun (yis_ok xsvF_k) hA Hs Ho HC with ⟨q_, hq, h', K_, G_⟩ | ⟨q_, hq, h', K_, G_⟩
  · cases hq
  · have e_ := List.mem_singleton.mp hq
    subst e_
    exact ⟨h', yfr_sm K_.2.2.2 hs K_.1 (ywa_r xsvF_w List.mem_cons_self), ⟨bpat_of (K_.2.1 _ List.mem_cons_self), fun a_ j_ n0_ => yfr_bp K_.2.2.2 (List.forall_mem_cons.mpr ⟨fun e_ => n0_ ⟨e_.1.symm, e_.2.symm⟩, fun q_ hq => absurd hq List.not_mem_nil⟩), G_⟩⟩
-- xsvG: 12 steps, 1 ends, 0 returns
def xsvG_L : List (Nat × Nat × Nat) := [(1000, 6, 2)]
def xsvG_O : yO := [(0, .int 0, .index 1), (1, .int 0, .index 2), (2, .arg 1, .index 1000), (0, .int 8, .index 314), (0, .int 10, .index 318)]
def xsvG_A : yA := (yZ xsvG_L, [(.arg 1, 12)], [], [], [])
def xsvG_C : List xB := []
def xsvG_ss : List yS := [(50, [(0, .index 0), (1, .arg 1), (2, .arg 2)], [.index 318, .index 314, .index 1000, .index 1], [(0, .int 0, .index 1), (1, .int 0, .index 2), (2, .arg 1, .index 1000), (0, .int 8, .index 314), (0, .int 10, .index 318)], [], [])]
def xsvG_rs : List yR := []
theorem xsvG_w : ywa xsvG_A xsvG_ss xsvG_rs = true := by decide +kernel
theorem xsvG_k : yis (yev xsvG_A 3000 60 88 [50] (20, [(0, .index 0), (1, .arg 1), (2, .arg 2)], [.int 1], xsvG_O, xsvG_C, [])) xsvG_ss xsvG_rs = true := by decide +kernel
def xsvG_r (v1_ v2 : Int32) (k_ : Nat) : Value := bif Nat.beq k_ 1 then .int v1_ else (bif Nat.beq k_ 2 then .int v2 else (.int 0))
def xsvG_s (a1000 : Nat) (n_ : Nat) : Nat := bif Nat.beq n_ 1000 then a1000 else (0)
theorem xsvG {h_ : xH} {a1000 : Nat} {v1_ v2 : Int32} (hs : sHp h_) (k1000 : bcq h_ a1000 6 2) (o0_ : bpat h_ 2 (v1_).toInt.toNat = some (.index a1000)) (b0 : 0 ≤ (v1_).toInt ∧ (v1_).toInt < 12) : ∃ h', ysm h_ h' ∧ (((∀ a_ j_ : Nat, bpat h' a_ j_ = bpat h_ a_ j_) ∧ (bldD 60 88 20 [(0, .index 0), (1, .int v1_), (2, .int v2)] [.int (1 : Int32)] h_ 50 [(0, .index 0), (1, .int v1_), (2, .int v2)] [.index 318, .index 314, .index a1000, .index 1] h'))) := by
  have hA : yas xsvG_A (xsvG_r v1_ v2) (yg (xsvG_s a1000)) := ⟨List.forall_mem_cons.mpr ⟨b0, fun q_ hq => absurd hq List.not_mem_nil⟩, fun q_ hq => absurd hq List.not_mem_nil, fun q_ hq => absurd hq List.not_mem_nil, fun n_ hn => yg_lo hn, fun q_ hq => absurd hq List.not_mem_nil⟩
  have Hs : ysh xsvG_A.1 (yg (xsvG_s a1000)) h_ := ysh_of2 hs (List.forall_mem_cons.mpr ⟨⟨by decide, k1000⟩, fun q_ hq => absurd hq List.not_mem_nil⟩)
  have Ho : ymem (xsvG_r v1_ v2) (yg (xsvG_s a1000)) xsvG_O h_ := List.forall_mem_cons.mpr ⟨bpat_some (fxr_at hs.2 (show fxk fxl 0 0 = some 1 by decide +kernel)), List.forall_mem_cons.mpr ⟨bpat_some (fxr_at hs.2 (show fxk fxl 1 0 = some 2 by decide +kernel)), List.forall_mem_cons.mpr ⟨bpat_some o0_, List.forall_mem_cons.mpr ⟨bpat_some (fxr_at hs.2 (show fxk fxl 0 8 = some 314 by decide +kernel)), List.forall_mem_cons.mpr ⟨bpat_some (fxr_at hs.2 (show fxk fxl 0 10 = some 318 by decide +kernel)), fun q_ hq => absurd hq List.not_mem_nil⟩⟩⟩⟩⟩
  have HC : ∀ q_ ∈ xsvG_C, xhold (xsvG_r v1_ v2) q_ := fun q_ hq => absurd hq List.not_mem_nil
  rcases yrun (yis_ok xsvG_k) hA Hs Ho HC with ⟨q_, hq, h', K_, G_⟩ | ⟨q_, hq, h', K_, G_⟩
  · have e_ := List.mem_singleton.mp hq
    subst e_
    exact ⟨h', yfr_sm K_.2.2.2 hs K_.1 (ywa_s xsvG_w List.mem_cons_self), ⟨fun a_ j_ => yfr_bp K_.2.2.2 (fun q_ hq => absurd hq List.not_mem_nil), G_⟩⟩
  · cases hq
-- xsvH: 7 steps, 1 ends, 0 returns
def xsvH_L : List (Nat × Nat × Nat) := [(1000, 6, 2)]
def xsvH_O : yO := [(0, .int 10, .index 318), (0, .int 0, .index 1), (1, .int 0, .index 2), (2, .arg 1, .index 1000)]
def xsvH_A : yA := (yZ xsvH_L, [(.arg 1, 12)], [], [], [])
def xsvH_C : List xB := []
def xsvH_ss : List yS := [(66, [(0, .index 0), (1, .arg 1), (2, .arg 2)], [.index 1000, .index 318], [(0, .int 10, .index 318), (0, .int 0, .index 1), (1, .int 0, .index 2), (2, .arg 1, .index 1000)], [], [])]
def xsvH_rs : List yR := []
theorem xsvH_w : ywa xsvH_A xsvH_ss xsvH_rs = true := by decide +kernel
theorem xsvH_k : yis (yev xsvH_A 3000 60 88 [66] (53, [(0, .index 0), (1, .arg 1), (2, .arg 2)], [], xsvH_O, xsvH_C, [])) xsvH_ss xsvH_rs = true := by decide +kernel
def xsvH_r (v1_ v2 : Int32) (k_ : Nat) : Value := bif Nat.beq k_ 1 then .int v1_ else (bif Nat.beq k_ 2 then .int v2 else (.int 0))
def xsvH_s (a1000 : Nat) (n_ : Nat) : Nat := bif Nat.beq n_ 1000 then a1000 else (0)
theorem xsvH {h_ : xH} {a1000 : Nat} {v1_ v2 : Int32} (hs : sHp h_) (k1000 : bcq h_ a1000 6 2) (o0_ : bpat h_ 2 (v1_).toInt.toNat = some (.index a1000)) (b0 : 0 ≤ (v1_).toInt ∧ (v1_).toInt < 12) : ∃ h', ysm h_ h' ∧ (((∀ a_ j_ : Nat, bpat h' a_ j_ = bpat h_ a_ j_) ∧ (bldD 60 88 53 [(0, .index 0), (1, .int v1_), (2, .int v2)] [] h_ 66 [(0, .index 0), (1, .int v1_), (2, .int v2)] [.index a1000, .index 318] h'))) := by
  have hA : yas xsvH_A (xsvH_r v1_ v2) (yg (xsvH_s a1000)) := ⟨List.forall_mem_cons.mpr ⟨b0, fun q_ hq => absurd hq List.not_mem_nil⟩, fun q_ hq => absurd hq List.not_mem_nil, fun q_ hq => absurd hq List.not_mem_nil, fun n_ hn => yg_lo hn, fun q_ hq => absurd hq List.not_mem_nil⟩
  have Hs : ysh xsvH_A.1 (yg (xsvH_s a1000)) h_ := ysh_of2 hs (List.forall_mem_cons.mpr ⟨⟨by decide, k1000⟩, fun q_ hq => absurd hq List.not_mem_nil⟩)
  have Ho : ymem (xsvH_r v1_ v2) (yg (xsvH_s a1000)) xsvH_O h_ := List.forall_mem_cons.mpr ⟨bpat_some (fxr_at hs.2 (show fxk fxl 0 10 = some 318 by decide +kernel)), List.forall_mem_cons.mpr ⟨bpat_some (fxr_at hs.2 (show fxk fxl 0 0 = some 1 by decide +kernel)), List.forall_mem_cons.mpr ⟨bpat_some (fxr_at hs.2 (show fxk fxl 1 0 = some 2 by decide +kernel)), List.forall_mem_cons.mpr ⟨bpat_some o0_, fun q_ hq => absurd hq List.not_mem_nil⟩⟩⟩⟩
  have HC : ∀ q_ ∈ xsvH_C, xhold (xsvH_r v1_ v2) q_ := fun q_ hq => absurd hq List.not_mem_nil
  rcases yrun (yis_ok xsvH_k) hA Hs Ho HC with ⟨q_, hq, h', K_, G_⟩ | ⟨q_, hq, h', K_, G_⟩
  · have e_ := List.mem_singleton.mp hq
    subst e_
    exact ⟨h', yfr_sm K_.2.2.2 hs K_.1 (ywa_s xsvH_w List.mem_cons_self), ⟨fun a_ j_ => yfr_bp K_.2.2.2 (fun q_ hq => absurd hq List.not_mem_nil), G_⟩⟩
  · cases hq
-- xsvR0: 3 steps, 0 ends, 1 returns
def xsvR0_L : List (Nat × Nat × Nat) := []
def xsvR0_O : yO := []
def xsvR0_A : yA := (yZ xsvR0_L, [], [], [], [])
def xsvR0_C : List xB := []
def xsvR0_ss : List yS := []
def xsvR0_rs : List yR := [(some (.int 0), [], [], [])]
theorem xsvR0_w : ywa xsvR0_A xsvR0_ss xsvR0_rs = true := by decide +kernel
theorem xsvR0_k : yis (yev xsvR0_A 3000 60 88 [] (69, [(0, .index 0), (1, .arg 1), (2, .arg 2)], [.int 0], xsvR0_O, xsvR0_C, [])) xsvR0_ss xsvR0_rs = true := by decide +kernel
def xsvR0_r (v1_ v2 : Int32) (k_ : Nat) : Value := bif Nat.beq k_ 1 then .int v1_ else (bif Nat.beq k_ 2 then .int v2 else (.int 0))
def xsvR0_s (n_ : Nat) : Nat := 0
theorem xsvR0 {h_ : xH} {v1_ v2 : Int32} (hs : sHp h_) : ∃ h', ysm h_ h' ∧ (((∀ a_ j_ : Nat, bpat h' a_ j_ = bpat h_ a_ j_) ∧ (∀ D_, 60 ≤ D_ → xrun D_ 88 69 [(0, .index 0), (1, .int v1_), (2, .int v2)] [.int (0 : Int32)] h_ (some (.int (0 : Int32)), h', [])))) := by
  have hA : yas xsvR0_A (xsvR0_r v1_ v2) (yg xsvR0_s) := ⟨fun q_ hq => absurd hq List.not_mem_nil, fun q_ hq => absurd hq List.not_mem_nil, fun q_ hq => absurd hq List.not_mem_nil, fun n_ hn => yg_lo hn, fun q_ hq => absurd hq List.not_mem_nil⟩
  have Hs : ysh xsvR0_A.1 (yg xsvR0_s) h_ := ysh_of2 hs (fun q_ hq => absurd hq List.not_mem_nil)
  have Ho : ymem (xsvR0_r v1_ v2) (yg xsvR0_s) xsvR0_O h_ := fun q_ hq => absurd hq List.not_mem_nil
  have HC : ∀ q_ ∈ xsvR0_C, xhold (xsvR0_r v1_ v2) q_ := fun q_ hq => absurd hq List.not_mem_nil
  rcases yrun (yis_ok xsvR0_k) hA Hs Ho HC with ⟨q_, hq, h', K_, G_⟩ | ⟨q_, hq, h', K_, G_⟩
  · cases hq
  · have e_ := List.mem_singleton.mp hq
    subst e_
    exact ⟨h', yfr_sm K_.2.2.2 hs K_.1 (ywa_r xsvR0_w List.mem_cons_self), ⟨fun a_ j_ => yfr_bp K_.2.2.2 (fun q_ hq => absurd hq List.not_mem_nil), G_⟩⟩
-- xsvR1: 4 steps, 0 ends, 1 returns
def xsvR1_L : List (Nat × Nat × Nat) := []
def xsvR1_O : yO := []
def xsvR1_A : yA := (yZ xsvR1_L, [], [], [], [])
def xsvR1_C : List xB := []
def xsvR1_ss : List yS := []
def xsvR1_rs : List yR := [(some (.int 1), [], [], [])]
theorem xsvR1_w : ywa xsvR1_A xsvR1_ss xsvR1_rs = true := by decide +kernel
theorem xsvR1_k : yis (yev xsvR1_A 3000 60 88 [] (69, [(0, .index 0), (1, .arg 1), (2, .arg 2)], [.int 1], xsvR1_O, xsvR1_C, [])) xsvR1_ss xsvR1_rs = true := by decide +kernel
def xsvR1_r (v1_ v2 : Int32) (k_ : Nat) : Value := bif Nat.beq k_ 1 then .int v1_ else (bif Nat.beq k_ 2 then .int v2 else (.int 0))
def xsvR1_s (n_ : Nat) : Nat := 0
theorem xsvR1 {h_ : xH} {v1_ v2 : Int32} (hs : sHp h_) : ∃ h', ysm h_ h' ∧ (((∀ a_ j_ : Nat, bpat h' a_ j_ = bpat h_ a_ j_) ∧ (∀ D_, 60 ≤ D_ → xrun D_ 88 69 [(0, .index 0), (1, .int v1_), (2, .int v2)] [.int (1 : Int32)] h_ (some (.int (1 : Int32)), h', [])))) := by
  have hA : yas xsvR1_A (xsvR1_r v1_ v2) (yg xsvR1_s) := ⟨fun q_ hq => absurd hq List.not_mem_nil, fun q_ hq => absurd hq List.not_mem_nil, fun q_ hq => absurd hq List.not_mem_nil, fun n_ hn => yg_lo hn, fun q_ hq => absurd hq List.not_mem_nil⟩
  have Hs : ysh xsvR1_A.1 (yg xsvR1_s) h_ := ysh_of2 hs (fun q_ hq => absurd hq List.not_mem_nil)
  have Ho : ymem (xsvR1_r v1_ v2) (yg xsvR1_s) xsvR1_O h_ := fun q_ hq => absurd hq List.not_mem_nil
  have HC : ∀ q_ ∈ xsvR1_C, xhold (xsvR1_r v1_ v2) q_ := fun q_ hq => absurd hq List.not_mem_nil
  rcases yrun (yis_ok xsvR1_k) hA Hs Ho HC with ⟨q_, hq, h', K_, G_⟩ | ⟨q_, hq, h', K_, G_⟩
  · cases hq
  · have e_ := List.mem_singleton.mp hq
    subst e_
    exact ⟨h', yfr_sm K_.2.2.2 hs K_.1 (ywa_r xsvR1_w List.mem_cons_self), ⟨fun a_ j_ => yfr_bp K_.2.2.2 (fun q_ hq => absurd hq List.not_mem_nil), G_⟩⟩
-- msvE: 65 steps, 1 ends, 2 returns
def msvE_L : List (Nat × Nat × Nat) := []
def msvE_O : yO := [(338, .int 0, .index 339), (339, .int 0, .arg 310), (338, .int 3, .index 341), (341, .int 1, .arg 400)]
def msvE_A : yA := (yZ msvE_L, [], [], [], [])
def msvE_C : List xB := []
def msvE_ss : List yS := [(10, [(0, .index 338), (1, .arg 1), (2, .arg 2)], [.arg 2, .index 338], [(338, .int 0, .index 339), (339, .int 0, .arg 310), (338, .int 3, .index 341), (341, .int 1, .arg 400)], [(.le, .arg 1, .sub (.arg 310) (.int 1), true), (.lt, .arg 1, .int 0, false)], [])]
def msvE_rs : List yR := [(some (.int (Int32.ofInt (-1000001))), [(341, .int 1, .add (.arg 400) (.int 1)), (338, .int 0, .index 339), (339, .int 0, .arg 310), (338, .int 3, .index 341)], [(.lt, .arg 1, .int 0, true)], [(341, .int 1)]),
  (some (.int (Int32.ofInt (-1000001))), [(341, .int 1, .add (.arg 400) (.int 1)), (338, .int 0, .index 339), (339, .int 0, .arg 310), (338, .int 3, .index 341)], [(.le, .arg 1, .sub (.arg 310) (.int 1), false), (.lt, .arg 1, .int 0, false)], [(341, .int 1)])]
theorem msvE_w : ywa msvE_A msvE_ss msvE_rs = true := by decide +kernel
theorem msvE_k : yis (yev msvE_A 3000 60 189 [10] (0, [(0, .index 338), (1, .arg 1), (2, .arg 2)], [], msvE_O, msvE_C, [])) msvE_ss msvE_rs = true := by decide +kernel
def msvE_r (v1_ v2 v310 v400 : Int32) (k_ : Nat) : Value := bif Nat.beq k_ 1 then .int v1_ else (bif Nat.beq k_ 2 then .int v2 else (bif Nat.beq k_ 310 then .int v310 else (bif Nat.beq k_ 400 then .int v400 else (.int 0))))
def msvE_s (n_ : Nat) : Nat := 0
theorem msvE {h_ : xH} {v1_ v2 v310 v400 : Int32} (hs : sHp h_) (o0_ : bpat h_ 339 0 = some (.int v310)) (o1 : bpat h_ 341 1 = some (.int v400)) : ∃ h', ysm h_ h' ∧ (((v1_.toInt ≤ (v310 - (1 : Int32)).toInt) ∧ ((0 : Int32).toInt ≤ v1_.toInt) ∧ (∀ a_ j_ : Nat, bpat h' a_ j_ = bpat h_ a_ j_) ∧ (bldD 60 189 0 [(0, .index 338), (1, .int v1_), (2, .int v2)] [] h_ 10 [(0, .index 338), (1, .int v1_), (2, .int v2)] [.int v2, .index 338] h'))
  ∨ ((v1_.toInt < (0 : Int32).toInt) ∧ (bpat h' 341 1 = some (.int (v400 + (1 : Int32)))) ∧ (∀ a_ j_ : Nat, ¬ (a_ = 341 ∧ j_ = 1) → bpat h' a_ j_ = bpat h_ a_ j_) ∧ (∀ D_, 60 ≤ D_ → xrun D_ 189 0 [(0, .index 338), (1, .int v1_), (2, .int v2)] [] h_ (some (.int (Int32.ofInt (-1000001))), h', [])))
  ∨ (((v310 - (1 : Int32)).toInt < v1_.toInt) ∧ ((0 : Int32).toInt ≤ v1_.toInt) ∧ (bpat h' 341 1 = some (.int (v400 + (1 : Int32)))) ∧ (∀ a_ j_ : Nat, ¬ (a_ = 341 ∧ j_ = 1) → bpat h' a_ j_ = bpat h_ a_ j_) ∧ (∀ D_, 60 ≤ D_ → xrun D_ 189 0 [(0, .index 338), (1, .int v1_), (2, .int v2)] [] h_ (some (.int (Int32.ofInt (-1000001))), h', [])))) := by
  have hA : yas msvE_A (msvE_r v1_ v2 v310 v400) (yg msvE_s) := ⟨fun q_ hq => absurd hq List.not_mem_nil, fun q_ hq => absurd hq List.not_mem_nil, fun q_ hq => absurd hq List.not_mem_nil, fun n_ hn => yg_lo hn, fun q_ hq => absurd hq List.not_mem_nil⟩
  have Hs : ysh msvE_A.1 (yg msvE_s) h_ := ysh_of2 hs (fun q_ hq => absurd hq List.not_mem_nil)
  have Ho : ymem (msvE_r v1_ v2 v310 v400) (yg msvE_s) msvE_O h_ := List.forall_mem_cons.mpr ⟨bpat_some (fxr_at hs.2 (show fxk fxl 338 0 = some 339 by decide +kernel)), List.forall_mem_cons.mpr ⟨bpat_some o0_, List.forall_mem_cons.mpr ⟨bpat_some (fxr_at hs.2 (show fxk fxl 338 3 = some 341 by decide +kernel)), List.forall_mem_cons.mpr ⟨bpat_some o1, fun q_ hq => absurd hq List.not_mem_nil⟩⟩⟩⟩
  have HC : ∀ q_ ∈ msvE_C, xhold (msvE_r v1_ v2 v310 v400) q_ := fun q_ hq => absurd hq List.not_mem_nil
  rcases yrun (yis_ok msvE_k) hA Hs Ho HC with ⟨q_, hq, h', K_, G_⟩ | ⟨q_, hq, h', K_, G_⟩
  · have e_ := List.mem_singleton.mp hq
    subst e_
    exact ⟨h', yfr_sm K_.2.2.2 hs K_.1 (ywa_s msvE_w List.mem_cons_self), Or.inl (⟨xq_leT rfl (yv_sub2 rfl rfl) (K_.2.2.1 _ List.mem_cons_self), xq_ltF rfl rfl (K_.2.2.1 _ (List.mem_cons_of_mem _ List.mem_cons_self)), fun a_ j_ => yfr_bp K_.2.2.2 (fun q_ hq => absurd hq List.not_mem_nil), G_⟩)⟩
  · rcases List.mem_cons.mp hq with e_ | hq
    · subst e_
      exact ⟨h', yfr_sm K_.2.2.2 hs K_.1 (ywa_r msvE_w List.mem_cons_self), Or.inr (Or.inl (⟨xq_ltT rfl rfl (K_.2.2.1 _ List.mem_cons_self), bpat_of (K_.2.1 _ List.mem_cons_self), fun a_ j_ n0_ => yfr_bp K_.2.2.2 (List.forall_mem_cons.mpr ⟨fun e_ => n0_ ⟨e_.1.symm, e_.2.symm⟩, fun q_ hq => absurd hq List.not_mem_nil⟩), G_⟩))⟩
    have e_ := List.mem_singleton.mp hq
    subst e_
    exact ⟨h', yfr_sm K_.2.2.2 hs K_.1 (ywa_r msvE_w (List.mem_cons_of_mem _ List.mem_cons_self)), Or.inr (Or.inr (⟨xq_leF rfl (yv_sub2 rfl rfl) (K_.2.2.1 _ List.mem_cons_self), xq_ltF rfl rfl (K_.2.2.1 _ (List.mem_cons_of_mem _ List.mem_cons_self)), bpat_of (K_.2.1 _ List.mem_cons_self), fun a_ j_ n0_ => yfr_bp K_.2.2.2 (List.forall_mem_cons.mpr ⟨fun e_ => n0_ ⟨e_.1.symm, e_.2.symm⟩, fun q_ hq => absurd hq List.not_mem_nil⟩), G_⟩))⟩
-- msvF: 17 steps, 0 ends, 1 returns
def msvF_L : List (Nat × Nat × Nat) := []
def msvF_O : yO := [(338, .int 3, .index 341), (341, .int 1, .arg 400)]
def msvF_A : yA := (yZ msvF_L, [], [], [], [])
def msvF_C : List xB := []
def msvF_ss : List yS := []
def msvF_rs : List yR := [(some (.int (Int32.ofInt (-1000001))), [(341, .int 1, .add (.arg 400) (.int 1)), (338, .int 3, .index 341)], [], [(341, .int 1)])]
theorem msvF_w : ywa msvF_A msvF_ss msvF_rs = true := by decide +kernel
theorem msvF_k : yis (yev msvF_A 3000 60 189 [] (13, [(0, .index 338), (1, .arg 1), (2, .arg 2)], [.int 0], msvF_O, msvF_C, [])) msvF_ss msvF_rs = true := by decide +kernel
def msvF_r (v1_ v2 v400 : Int32) (k_ : Nat) : Value := bif Nat.beq k_ 1 then .int v1_ else (bif Nat.beq k_ 2 then .int v2 else (bif Nat.beq k_ 400 then .int v400 else (.int 0)))
def msvF_s (n_ : Nat) : Nat := 0
theorem msvF {h_ : xH} {v1_ v2 v400 : Int32} (hs : sHp h_) (o0_ : bpat h_ 341 1 = some (.int v400)) : ∃ h', ysm h_ h' ∧ (((bpat h' 341 1 = some (.int (v400 + (1 : Int32)))) ∧ (∀ a_ j_ : Nat, ¬ (a_ = 341 ∧ j_ = 1) → bpat h' a_ j_ = bpat h_ a_ j_) ∧ (∀ D_, 60 ≤ D_ → xrun D_ 189 13 [(0, .index 338), (1, .int v1_), (2, .int v2)] [.int (0 : Int32)] h_ (some (.int (Int32.ofInt (-1000001))), h', [])))) := by
  have hA : yas msvF_A (msvF_r v1_ v2 v400) (yg msvF_s) := ⟨fun q_ hq => absurd hq List.not_mem_nil, fun q_ hq => absurd hq List.not_mem_nil, fun q_ hq => absurd hq List.not_mem_nil, fun n_ hn => yg_lo hn, fun q_ hq => absurd hq List.not_mem_nil⟩
  have Hs : ysh msvF_A.1 (yg msvF_s) h_ := ysh_of2 hs (fun q_ hq => absurd hq List.not_mem_nil)
  have Ho : ymem (msvF_r v1_ v2 v400) (yg msvF_s) msvF_O h_ := List.forall_mem_cons.mpr ⟨bpat_some (fxr_at hs.2 (show fxk fxl 338 3 = some 341 by decide +kernel)), List.forall_mem_cons.mpr ⟨bpat_some o0_, fun q_ hq => absurd hq List.not_mem_nil⟩⟩
  have HC : ∀ q_ ∈ msvF_C, xhold (msvF_r v1_ v2 v400) q_ := fun q_ hq => absurd hq List.not_mem_nil
  rcases yrun (yis_ok msvF_k) hA Hs Ho HC with ⟨q_, hq, h', K_, G_⟩ | ⟨q_, hq, h', K_, G_⟩
  · cases hq
  · have e_ := List.mem_singleton.mp hq
    subst e_
    exact ⟨h', yfr_sm K_.2.2.2 hs K_.1 (ywa_r msvF_w List.mem_cons_self), ⟨bpat_of (K_.2.1 _ List.mem_cons_self), fun a_ j_ n0_ => yfr_bp K_.2.2.2 (List.forall_mem_cons.mpr ⟨fun e_ => n0_ ⟨e_.1.symm, e_.2.symm⟩, fun q_ hq => absurd hq List.not_mem_nil⟩), G_⟩⟩
-- msvG: 6 steps, 1 ends, 0 returns
def msvG_L : List (Nat × Nat × Nat) := []
def msvG_O : yO := [(338, .int 4, .index 342)]
def msvG_A : yA := (yZ msvG_L, [], [], [], [])
def msvG_C : List xB := []
def msvG_ss : List yS := [(29, [(0, .index 338), (1, .arg 1), (2, .arg 2)], [.index 342, .arg 2, .arg 1, .index 338], [(338, .int 4, .index 342)], [], [])]
def msvG_rs : List yR := []
theorem msvG_w : ywa msvG_A msvG_ss msvG_rs = true := by decide +kernel
theorem msvG_k : yis (yev msvG_A 3000 60 189 [29] (13, [(0, .index 338), (1, .arg 1), (2, .arg 2)], [.int 1], msvG_O, msvG_C, [])) msvG_ss msvG_rs = true := by decide +kernel
def msvG_r (v1_ v2 : Int32) (k_ : Nat) : Value := bif Nat.beq k_ 1 then .int v1_ else (bif Nat.beq k_ 2 then .int v2 else (.int 0))
def msvG_s (n_ : Nat) : Nat := 0
theorem msvG {h_ : xH} {v1_ v2 : Int32} (hs : sHp h_) : ∃ h', ysm h_ h' ∧ (((∀ a_ j_ : Nat, bpat h' a_ j_ = bpat h_ a_ j_) ∧ (bldD 60 189 13 [(0, .index 338), (1, .int v1_), (2, .int v2)] [.int (1 : Int32)] h_ 29 [(0, .index 338), (1, .int v1_), (2, .int v2)] [.index 342, .int v2, .int v1_, .index 338] h'))) := by
  have hA : yas msvG_A (msvG_r v1_ v2) (yg msvG_s) := ⟨fun q_ hq => absurd hq List.not_mem_nil, fun q_ hq => absurd hq List.not_mem_nil, fun q_ hq => absurd hq List.not_mem_nil, fun n_ hn => yg_lo hn, fun q_ hq => absurd hq List.not_mem_nil⟩
  have Hs : ysh msvG_A.1 (yg msvG_s) h_ := ysh_of2 hs (fun q_ hq => absurd hq List.not_mem_nil)
  have Ho : ymem (msvG_r v1_ v2) (yg msvG_s) msvG_O h_ := List.forall_mem_cons.mpr ⟨bpat_some (fxr_at hs.2 (show fxk fxl 338 4 = some 342 by decide +kernel)), fun q_ hq => absurd hq List.not_mem_nil⟩
  have HC : ∀ q_ ∈ msvG_C, xhold (msvG_r v1_ v2) q_ := fun q_ hq => absurd hq List.not_mem_nil
  rcases yrun (yis_ok msvG_k) hA Hs Ho HC with ⟨q_, hq, h', K_, G_⟩ | ⟨q_, hq, h', K_, G_⟩
  · have e_ := List.mem_singleton.mp hq
    subst e_
    exact ⟨h', yfr_sm K_.2.2.2 hs K_.1 (ywa_s msvG_w List.mem_cons_self), ⟨fun a_ j_ => yfr_bp K_.2.2.2 (fun q_ hq => absurd hq List.not_mem_nil), G_⟩⟩
  · cases hq
-- msvH: 8 steps, 1 ends, 0 returns
def msvH_L : List (Nat × Nat × Nat) := []
def msvH_O : yO := [(338, .int 6, .index 344)]
def msvH_A : yA := (yZ msvH_L, [], [], [], [])
def msvH_C : List xB := []
def msvH_ss : List yS := [(44, [(0, .index 338), (1, .arg 1), (2, .arg 2)], [.index 344, .add (.int 34) (.mul (.int 13) (.arg 1)), .index 338], [(338, .int 6, .index 344)], [], [])]
def msvH_rs : List yR := []
theorem msvH_w : ywa msvH_A msvH_ss msvH_rs = true := by decide +kernel
theorem msvH_k : yis (yev msvH_A 3000 60 189 [44] (32, [(0, .index 338), (1, .arg 1), (2, .arg 2)], [], msvH_O, msvH_C, [])) msvH_ss msvH_rs = true := by decide +kernel
def msvH_r (v1_ v2 : Int32) (k_ : Nat) : Value := bif Nat.beq k_ 1 then .int v1_ else (bif Nat.beq k_ 2 then .int v2 else (.int 0))
def msvH_s (n_ : Nat) : Nat := 0
theorem msvH {h_ : xH} {v1_ v2 : Int32} (hs : sHp h_) : ∃ h', ysm h_ h' ∧ (((∀ a_ j_ : Nat, bpat h' a_ j_ = bpat h_ a_ j_) ∧ (bldD 60 189 32 [(0, .index 338), (1, .int v1_), (2, .int v2)] [] h_ 44 [(0, .index 338), (1, .int v1_), (2, .int v2)] [.index 344, .int ((34 : Int32) + ((13 : Int32) * v1_)), .index 338] h'))) := by
  have hA : yas msvH_A (msvH_r v1_ v2) (yg msvH_s) := ⟨fun q_ hq => absurd hq List.not_mem_nil, fun q_ hq => absurd hq List.not_mem_nil, fun q_ hq => absurd hq List.not_mem_nil, fun n_ hn => yg_lo hn, fun q_ hq => absurd hq List.not_mem_nil⟩
  have Hs : ysh msvH_A.1 (yg msvH_s) h_ := ysh_of2 hs (fun q_ hq => absurd hq List.not_mem_nil)
  have Ho : ymem (msvH_r v1_ v2) (yg msvH_s) msvH_O h_ := List.forall_mem_cons.mpr ⟨bpat_some (fxr_at hs.2 (show fxk fxl 338 6 = some 344 by decide +kernel)), fun q_ hq => absurd hq List.not_mem_nil⟩
  have HC : ∀ q_ ∈ msvH_C, xhold (msvH_r v1_ v2) q_ := fun q_ hq => absurd hq List.not_mem_nil
  rcases yrun (yis_ok msvH_k) hA Hs Ho HC with ⟨q_, hq, h', K_, G_⟩ | ⟨q_, hq, h', K_, G_⟩
  · have e_ := List.mem_singleton.mp hq
    subst e_
    exact ⟨h', yfr_sm K_.2.2.2 hs K_.1 (ywa_s msvH_w List.mem_cons_self), ⟨fun a_ j_ => yfr_bp K_.2.2.2 (fun q_ hq => absurd hq List.not_mem_nil), G_⟩⟩
  · cases hq
-- msvI: 4 steps, 1 ends, 0 returns
def msvI_L : List (Nat × Nat × Nat) := []
def msvI_O : yO := [(338, .int 4, .index 342), (338, .int 6, .index 344)]
def msvI_A : yA := (yZ msvI_L, [], [], [], [])
def msvI_C : List xB := []
def msvI_ss : List yS := [(55, [(0, .index 338), (1, .arg 1), (2, .arg 2)], [.index 344, .index 342], [(338, .int 4, .index 342), (338, .int 6, .index 344)], [], [])]
def msvI_rs : List yR := []
theorem msvI_w : ywa msvI_A msvI_ss msvI_rs = true := by decide +kernel
theorem msvI_k : yis (yev msvI_A 3000 60 189 [55] (47, [(0, .index 338), (1, .arg 1), (2, .arg 2)], [], msvI_O, msvI_C, [])) msvI_ss msvI_rs = true := by decide +kernel
def msvI_r (v1_ v2 : Int32) (k_ : Nat) : Value := bif Nat.beq k_ 1 then .int v1_ else (bif Nat.beq k_ 2 then .int v2 else (.int 0))
def msvI_s (n_ : Nat) : Nat := 0
theorem msvI {h_ : xH} {v1_ v2 : Int32} (hs : sHp h_) : ∃ h', ysm h_ h' ∧ (((∀ a_ j_ : Nat, bpat h' a_ j_ = bpat h_ a_ j_) ∧ (bldD 60 189 47 [(0, .index 338), (1, .int v1_), (2, .int v2)] [] h_ 55 [(0, .index 338), (1, .int v1_), (2, .int v2)] [.index 344, .index 342] h'))) := by
  have hA : yas msvI_A (msvI_r v1_ v2) (yg msvI_s) := ⟨fun q_ hq => absurd hq List.not_mem_nil, fun q_ hq => absurd hq List.not_mem_nil, fun q_ hq => absurd hq List.not_mem_nil, fun n_ hn => yg_lo hn, fun q_ hq => absurd hq List.not_mem_nil⟩
  have Hs : ysh msvI_A.1 (yg msvI_s) h_ := ysh_of2 hs (fun q_ hq => absurd hq List.not_mem_nil)
  have Ho : ymem (msvI_r v1_ v2) (yg msvI_s) msvI_O h_ := List.forall_mem_cons.mpr ⟨bpat_some (fxr_at hs.2 (show fxk fxl 338 4 = some 342 by decide +kernel)), List.forall_mem_cons.mpr ⟨bpat_some (fxr_at hs.2 (show fxk fxl 338 6 = some 344 by decide +kernel)), fun q_ hq => absurd hq List.not_mem_nil⟩⟩
  have HC : ∀ q_ ∈ msvI_C, xhold (msvI_r v1_ v2) q_ := fun q_ hq => absurd hq List.not_mem_nil
  rcases yrun (yis_ok msvI_k) hA Hs Ho HC with ⟨q_, hq, h', K_, G_⟩ | ⟨q_, hq, h', K_, G_⟩
  · have e_ := List.mem_singleton.mp hq
    subst e_
    exact ⟨h', yfr_sm K_.2.2.2 hs K_.1 (ywa_s msvI_w List.mem_cons_self), ⟨fun a_ j_ => yfr_bp K_.2.2.2 (fun q_ hq => absurd hq List.not_mem_nil), G_⟩⟩
  · cases hq
-- msvR0: 3 steps, 0 ends, 1 returns
def msvR0_L : List (Nat × Nat × Nat) := []
def msvR0_O : yO := []
def msvR0_A : yA := (yZ msvR0_L, [], [], [], [])
def msvR0_C : List xB := []
def msvR0_ss : List yS := []
def msvR0_rs : List yR := [(some (.int 0), [], [], [])]
theorem msvR0_w : ywa msvR0_A msvR0_ss msvR0_rs = true := by decide +kernel
theorem msvR0_k : yis (yev msvR0_A 3000 60 189 [] (58, [(0, .index 338), (1, .arg 1), (2, .arg 2)], [.int 0], msvR0_O, msvR0_C, [])) msvR0_ss msvR0_rs = true := by decide +kernel
def msvR0_r (v1_ v2 : Int32) (k_ : Nat) : Value := bif Nat.beq k_ 1 then .int v1_ else (bif Nat.beq k_ 2 then .int v2 else (.int 0))
def msvR0_s (n_ : Nat) : Nat := 0
theorem msvR0 {h_ : xH} {v1_ v2 : Int32} (hs : sHp h_) : ∃ h', ysm h_ h' ∧ (((∀ a_ j_ : Nat, bpat h' a_ j_ = bpat h_ a_ j_) ∧ (∀ D_, 60 ≤ D_ → xrun D_ 189 58 [(0, .index 338), (1, .int v1_), (2, .int v2)] [.int (0 : Int32)] h_ (some (.int (0 : Int32)), h', [])))) := by
  have hA : yas msvR0_A (msvR0_r v1_ v2) (yg msvR0_s) := ⟨fun q_ hq => absurd hq List.not_mem_nil, fun q_ hq => absurd hq List.not_mem_nil, fun q_ hq => absurd hq List.not_mem_nil, fun n_ hn => yg_lo hn, fun q_ hq => absurd hq List.not_mem_nil⟩
  have Hs : ysh msvR0_A.1 (yg msvR0_s) h_ := ysh_of2 hs (fun q_ hq => absurd hq List.not_mem_nil)
  have Ho : ymem (msvR0_r v1_ v2) (yg msvR0_s) msvR0_O h_ := fun q_ hq => absurd hq List.not_mem_nil
  have HC : ∀ q_ ∈ msvR0_C, xhold (msvR0_r v1_ v2) q_ := fun q_ hq => absurd hq List.not_mem_nil
  rcases yrun (yis_ok msvR0_k) hA Hs Ho HC with ⟨q_, hq, h', K_, G_⟩ | ⟨q_, hq, h', K_, G_⟩
  · cases hq
  · have e_ := List.mem_singleton.mp hq
    subst e_
    exact ⟨h', yfr_sm K_.2.2.2 hs K_.1 (ywa_r msvR0_w List.mem_cons_self), ⟨fun a_ j_ => yfr_bp K_.2.2.2 (fun q_ hq => absurd hq List.not_mem_nil), G_⟩⟩
-- msvR1: 4 steps, 0 ends, 1 returns
def msvR1_L : List (Nat × Nat × Nat) := []
def msvR1_O : yO := []
def msvR1_A : yA := (yZ msvR1_L, [], [], [], [])
def msvR1_C : List xB := []
def msvR1_ss : List yS := []
def msvR1_rs : List yR := [(some (.int 1), [], [], [])]
theorem msvR1_w : ywa msvR1_A msvR1_ss msvR1_rs = true := by decide +kernel
theorem msvR1_k : yis (yev msvR1_A 3000 60 189 [] (58, [(0, .index 338), (1, .arg 1), (2, .arg 2)], [.int 1], msvR1_O, msvR1_C, [])) msvR1_ss msvR1_rs = true := by decide +kernel
def msvR1_r (v1_ v2 : Int32) (k_ : Nat) : Value := bif Nat.beq k_ 1 then .int v1_ else (bif Nat.beq k_ 2 then .int v2 else (.int 0))
def msvR1_s (n_ : Nat) : Nat := 0
theorem msvR1 {h_ : xH} {v1_ v2 : Int32} (hs : sHp h_) : ∃ h', ysm h_ h' ∧ (((∀ a_ j_ : Nat, bpat h' a_ j_ = bpat h_ a_ j_) ∧ (∀ D_, 60 ≤ D_ → xrun D_ 189 58 [(0, .index 338), (1, .int v1_), (2, .int v2)] [.int (1 : Int32)] h_ (some (.int (1 : Int32)), h', [])))) := by
  have hA : yas msvR1_A (msvR1_r v1_ v2) (yg msvR1_s) := ⟨fun q_ hq => absurd hq List.not_mem_nil, fun q_ hq => absurd hq List.not_mem_nil, fun q_ hq => absurd hq List.not_mem_nil, fun n_ hn => yg_lo hn, fun q_ hq => absurd hq List.not_mem_nil⟩
  have Hs : ysh msvR1_A.1 (yg msvR1_s) h_ := ysh_of2 hs (fun q_ hq => absurd hq List.not_mem_nil)
  have Ho : ymem (msvR1_r v1_ v2) (yg msvR1_s) msvR1_O h_ := fun q_ hq => absurd hq List.not_mem_nil
  have HC : ∀ q_ ∈ msvR1_C, xhold (msvR1_r v1_ v2) q_ := fun q_ hq => absurd hq List.not_mem_nil
  rcases yrun (yis_ok msvR1_k) hA Hs Ho HC with ⟨q_, hq, h', K_, G_⟩ | ⟨q_, hq, h', K_, G_⟩
  · cases hq
  · have e_ := List.mem_singleton.mp hq
    subst e_
    exact ⟨h', yfr_sm K_.2.2.2 hs K_.1 (ywa_r msvR1_w List.mem_cons_self), ⟨fun a_ j_ => yfr_bp K_.2.2.2 (fun q_ hq => absurd hq List.not_mem_nil), G_⟩⟩
-- ===== self
noncomputable def selfF (W_ : Nat → List Int32) (V : Nat → Int32) (z_ d_ : Int32) : (Nat → List Int32) × (Nat → Int32) × Int32 := pif ((0 ≤ z_.toInt ∧ z_.toInt < (V 0).toInt) ∧ isW (nR V) d_) (W_, V, if hrd W_ V d_ (W_ z_.toInt.toNat) = W_ z_.toInt.toNat then 1 else 0) (W_, V, Int32.ofInt (-1000001))
theorem ok_self {W_ : Nat → List Int32} {V : Nat → Int32} (K_ : okS W_ V) (z_ d_ : Int32) : okS (selfF W_ V z_ d_).1 (selfF W_ V z_ d_).2.1 := by
  unfold selfF pif
  split <;> exact K_
theorem x_self {W_ : Nat → List Int32} {V : Nat → Int32} {h_ : xH} {z_ d_ : Int32} (B_ : bInv bZ bIj h_) (K_ : okS W_ V) (H_ : SX W_ V h_) : ∃ h', ysm h_ h' ∧ (SX (selfF W_ V z_ d_).1 (selfF W_ V z_ d_).2.1 h' ∧ ∀ D_, 70 ≤ D_ → xrun D_ 88 0 [(0, .index 0), (1, .int z_), (2, .int d_)] [] h_ (some (.int (selfF W_ V z_ d_).2.2), h', [])) := by
  obtain ⟨y_, oy⟩ := xerr (k_ := 1) B_ (by omega)
  have zz := z0_
  unfold selfF
  obtain ⟨h0, m0_, e_⟩ := xsvE (v1_ := z_) (v2 := d_) H_.1 (xNc H_) oy
  rcases e_ with ⟨g1, g2, f_, r_⟩ | ⟨g1, w0_, f_, r_⟩ | ⟨g1, g2, w0_, f_, r_⟩
  rotate_left
  · rw [pif_f (fun q_ => by omega)]; exact ⟨h0, m0_, SX_e H_ m0_ f_, fun D_ hD => r_ D_ (by omega)⟩
  · rw [pif_f (fun q_ => by omega)]; exact ⟨h0, m0_, SX_e H_ m0_ f_, fun D_ hD => r_ D_ (by omega)⟩
  have H0 := SX_fr H_ m0_ (fun c_ j_ _ => f_ c_ j_)
  obtain ⟨c_, hc_, hN_, rfl, ec⟩ := isC_n (z_ := z_) K_ ⟨by omega, by omega⟩
  obtain ⟨h1, ⟨H1_, F1_⟩, e1_⟩ := c_rdw (mi := 88) (pc := 17) (lo_ := [(0, .index 0), (1, .int (Int32.ofNat c_)), (2, .int d_)]) (z_ := d_) (s' := []) rfl (xcc_l (List.forall_mem_cons.mpr ⟨xidx_i (bcq_lt (bcq_of (n_ := 0) (z_ := (11, 15)) H0.1 rfl)), List.forall_mem_cons.mpr ⟨rfl, List.forall_mem_cons.mpr ⟨rfl, fun q_ hq => absurd hq List.not_mem_nil⟩⟩⟩) (fun t_ ht => absurd ht List.not_mem_nil) (Nat.le_of_ble_eq_true rfl)) K_ H0 (Or.inl ⟨rfl, rfl⟩)
  have fy : bpat h1 323 1 = some (.int y_) := (F1_.2 _ _ (by omega) (by omega)).trans ((f_ _ _).trans oy)
  rcases e1_ with ⟨gw, RW, ld1⟩ | ⟨gw, ld1⟩
  · rw [pif_t ⟨⟨by omega, by omega⟩, gw⟩, ec]
    obtain ⟨s1_, s2_, s3_⟩ := cl_s H1_.1 hc_
    obtain ⟨h2, m2_, f2_, ld2⟩ := xsvG (v1_ := Int32.ofNat c_) (v2 := d_) H1_.1 s2_ (by rw [ec]; exact s1_) ⟨by omega, by omega⟩
    have H2_ := SX_fr H1_ m2_ (fun c_ j_ _ => f2_ c_ j_)
    obtain ⟨h3, ⟨H3, F3⟩, R3, ld3⟩ := c_hear (mi := 88) (pc := 50) (lo_ := [(0, .index 0), (1, .int (Int32.ofNat c_)), (2, .int d_)]) (s' := []) rfl (xcc_l (List.forall_mem_cons.mpr ⟨xidx_i (bcq_lt (bcq_of (n_ := 0) (z_ := (11, 15)) H2_.1 rfl)), List.forall_mem_cons.mpr ⟨rfl, List.forall_mem_cons.mpr ⟨rfl, fun q_ hq => absurd hq List.not_mem_nil⟩⟩⟩) (fun t_ ht => absurd ht List.not_mem_nil) (Nat.le_of_ble_eq_true rfl)) K_ H2_ (Or.inl ⟨rfl, rfl⟩) (Or.inl ⟨rfl, rfl⟩) hc_ gw (rwx_keep RW m2_ (fun c_ j_ _ => f2_ c_ j_))
    obtain ⟨t1_, t2_, t3_⟩ := cl_s H3.1 hc_
    obtain ⟨h4, m4_, f4_, ld4⟩ := xsvH (v1_ := Int32.ofNat c_) (v2 := d_) H3.1 t2_ (by rw [ec]; exact t1_) ⟨by omega, by omega⟩
    have H4 := SX_fr H3 m4_ (fun c_ j_ _ => f4_ c_ j_)
    have R4 := rW_all R3 m4_ f4_
    have RC := SX_w H4 (cl_x hc_)
    obtain ⟨h5, m5_, f5_, r5_⟩ := ilX H4.1 R4.2.1 RC
    have ld5 := ycv (d_ := 62) (mi := 88) (pc := 66) (cm := 41) (lo_ := [(0, .index 0), (1, .int (Int32.ofNat c_)), (2, .int d_)]) (st_ := [.index (34 + 2 * c_), .index 318]) (as_ := [.index (34 + 2 * c_)]) (s' := []) rfl rfl R4.2.1.1.1 rfl (xcc_l (List.forall_mem_cons.mpr ⟨xidx_i (bcq_lt (bcq_of (n_ := 0) (z_ := (11, 15)) H4.1 rfl)), List.forall_mem_cons.mpr ⟨rfl, List.forall_mem_cons.mpr ⟨rfl, fun q_ hq => absurd hq List.not_mem_nil⟩⟩⟩) (fun t_ ht => absurd ht List.not_mem_nil) (Nat.le_of_ble_eq_true rfl)) r5_
    have H5 := SX_fr H4 m5_ (fun c_ j_ _ => f5_ c_ j_)
    by_cases g_ : hrd W_ V d_ (W_ c_) = W_ c_
    · rw [if_pos g_] at ld5 ⊢
      obtain ⟨h6, m6_, f6_, r6⟩ := xsvR1 (v1_ := Int32.ofNat c_) (v2 := d_) H5.1
      exact ⟨h6, ysm_tr m0_ (ysm_tr F1_.1 (ysm_tr m2_ (ysm_tr F3.1 (ysm_tr m4_ (ysm_tr m5_ m6_))))), SX_fr H5 m6_ (fun c_ j_ _ => f6_ c_ j_), fun D_ hD => r_ D_ (by omega) _ (ld1 D_ (by omega) _ (ld2 D_ (by omega) _ (ld3 D_ (by omega) _ (ld4 D_ (by omega) _ (ld5 D_ (by omega) _ (r6 D_ (by omega)))))))⟩
    · rw [if_neg g_] at ld5 ⊢
      obtain ⟨h6, m6_, f6_, r6⟩ := xsvR0 (v1_ := Int32.ofNat c_) (v2 := d_) H5.1
      exact ⟨h6, ysm_tr m0_ (ysm_tr F1_.1 (ysm_tr m2_ (ysm_tr F3.1 (ysm_tr m4_ (ysm_tr m5_ m6_))))), SX_fr H5 m6_ (fun c_ j_ _ => f6_ c_ j_), fun D_ hD => r_ D_ (by omega) _ (ld1 D_ (by omega) _ (ld2 D_ (by omega) _ (ld3 D_ (by omega) _ (ld4 D_ (by omega) _ (ld5 D_ (by omega) _ (r6 D_ (by omega)))))))⟩
  · rw [pif_f (fun q_ => gw q_.2)]
    obtain ⟨h2, m2_, w0_, f2_, r2⟩ := xsvF (v1_ := Int32.ofNat c_) (v2 := d_) H1_.1 fy
    exact ⟨h2, ysm_tr m0_ (ysm_tr F1_.1 m2_), SX_e H1_ m2_ f2_, fun D_ hD => r_ D_ (by omega) _ (ld1 D_ (by omega) _ (r2 D_ (by omega)))⟩
theorem m_self {W_ : Nat → List Int32} {V : Nat → Int32} {h_ : xH} {z_ d_ : Int32} (B_ : bInv bZ bIj h_) (K_ : okS W_ V) (H_ : SM W_ V h_) : ∃ h', ysm h_ h' ∧ (SM (selfF W_ V z_ d_).1 (selfF W_ V z_ d_).2.1 h' ∧ ∀ D_, 70 ≤ D_ → xrun D_ 189 0 [(0, .index 338), (1, .int z_), (2, .int d_)] [] h_ (some (.int (selfF W_ V z_ d_).2.2), h', [])) := by
  obtain ⟨y_, oy⟩ := merr (k_ := 1) B_ (by omega)
  have zz := z0_
  have kN_ := okN K_
  have n1_ := i32j (V 0) kN_.1 (by omega)
  have hz := m339 B_
  unfold selfF
  obtain ⟨h0, m0_, e_⟩ := msvE (v1_ := z_) (v2 := d_) H_.1 (mNc H_) oy
  rcases e_ with ⟨g1, g2, f_, r_⟩ | ⟨g1, w0_, f_, r_⟩ | ⟨g1, g2, w0_, f_, r_⟩
  rotate_left
  · rw [pif_f (fun q_ => by omega)]; exact ⟨h0, m0_, SM_e H_ m0_ f_, fun D_ hD => r_ D_ (by omega)⟩
  · rw [pif_f (fun q_ => by omega)]; exact ⟨h0, m0_, SM_e H_ m0_ f_, fun D_ hD => r_ D_ (by omega)⟩
  have H0 := SM_fr H_ m0_ (fun c_ j_ _ => f_ c_ j_)
  obtain ⟨c_, hc_, hN_, rfl, ec⟩ := isC_n (z_ := z_) K_ ⟨by omega, by omega⟩
  obtain ⟨h1, ⟨H1_, F1_⟩, e1_⟩ := c_isw (mi := 189) (pc := 10) (lo_ := [(0, .index 338), (1, .int (Int32.ofNat c_)), (2, .int d_)]) (z_ := d_) (s' := []) rfl (xcc_l (List.forall_mem_cons.mpr ⟨xidx_i (bcq_lt (bcq_of (n_ := 338) (z_ := (12, 26)) H0.1 rfl)), List.forall_mem_cons.mpr ⟨rfl, List.forall_mem_cons.mpr ⟨rfl, fun q_ hq => absurd hq List.not_mem_nil⟩⟩⟩) (fun t_ ht => absurd ht List.not_mem_nil) (Nat.le_of_ble_eq_true rfl)) K_ H0
  have fy : bpat h1 341 1 = some (.int y_) := (F1_.2 _ _).trans ((f_ _ _).trans oy)
  rcases e1_ with ⟨gw, ld1⟩ | ⟨gw, ld1⟩
  · rw [pif_t ⟨⟨by omega, by omega⟩, gw⟩, ec]
    obtain ⟨h2, m2_, f2_, ld2⟩ := msvG (v1_ := Int32.ofNat c_) (v2 := d_) H1_.1
    have H2_ := SM_fr H1_ m2_ (fun c_ j_ _ => f2_ c_ j_)
    have hz2 : ∀ j_, j_ < 768 → ∃ y_ : Int32, bpat h2 339 j_ = some (.int y_) := fun j_ hj => by rw [f2_, F1_.2, f_]; exact hz j_ hj
    obtain ⟨h3, ⟨H3, F3⟩, R3, ld3⟩ := c_hears (mi := 189) (pc := 29) (lo_ := [(0, .index 338), (1, .int (Int32.ofNat c_)), (2, .int d_)]) (b_ := 342) (s' := []) rfl (xcc_l (List.forall_mem_cons.mpr ⟨xidx_i (bcq_lt (bcq_of (n_ := 338) (z_ := (12, 26)) H2_.1 rfl)), List.forall_mem_cons.mpr ⟨rfl, List.forall_mem_cons.mpr ⟨rfl, fun q_ hq => absurd hq List.not_mem_nil⟩⟩⟩) (fun t_ ht => absurd ht List.not_mem_nil) (Nat.le_of_ble_eq_true rfl)) K_ H2_ (Or.inl rfl) hc_ gw hz2
    obtain ⟨h4, m4_, f4_, ld4⟩ := msvH (v1_ := Int32.ofNat c_) (v2 := d_) H3.1
    rw [i34e hc_] at ld4
    have H4 := SM_fr H3 m4_ (fun c_ j_ _ => f4_ c_ j_)
    have R4 := rM_all R3 m4_ f4_
    obtain ⟨h5, ⟨H5, F5⟩, R5, ld5⟩ := c_take (mi := 189) (pc := 44) (lo_ := [(0, .index 338), (1, .int (Int32.ofNat c_)), (2, .int d_)]) (b_ := 344) (s' := []) rfl (xcc_l (List.forall_mem_cons.mpr ⟨xidx_i (bcq_lt (bcq_of (n_ := 338) (z_ := (12, 26)) H4.1 rfl)), List.forall_mem_cons.mpr ⟨rfl, List.forall_mem_cons.mpr ⟨rfl, fun q_ hq => absurd hq List.not_mem_nil⟩⟩⟩) (fun t_ ht => absurd ht List.not_mem_nil) (Nat.le_of_ble_eq_true rfl)) K_ H4 (Or.inr (Or.inr rfl)) hc_ (fun j_ hj => by rw [f4_, F3.2 _ _ (by omega) (by omega) (by omega)]; exact hz2 j_ hj)
    have R4' : rM 342 h5 (hrd W_ V d_ (W_ c_)) := ⟨F5.1.1, rwm_keep R4.2.1 F5.1 (fun j_ _ _ => F5.2 342 j_ (by omega)), R4.2.2⟩
    obtain ⟨h6, m6_, f6_, ld6⟩ := msvI (v1_ := Int32.ofNat c_) (v2 := d_) H5.1
    have H6 := SM_fr H5 m6_ (fun c_ j_ _ => f6_ c_ j_)
    have R6 := rM_all R4' m6_ f6_
    have Q6_ := rM_all R5 m6_ f6_
    obtain ⟨h7, m7_, f7_, r7⟩ := alM R6 Q6_
    have ld7 := ycs (d_ := 60) (mi := 189) (pc := 55) (cm := 144) (lo_ := [(0, .index 338), (1, .int (Int32.ofNat c_)), (2, .int d_)]) (st_ := [.index 344, .index 342]) (as_ := [.index 342, .index 344]) (s' := []) (h_ := h6) rfl rfl rfl (xcc_l (List.forall_mem_cons.mpr ⟨xidx_i (bcq_lt (bcq_of (n_ := 338) (z_ := (12, 26)) H6.1 rfl)), List.forall_mem_cons.mpr ⟨rfl, List.forall_mem_cons.mpr ⟨rfl, fun q_ hq => absurd hq List.not_mem_nil⟩⟩⟩) (fun t_ ht => absurd ht List.not_mem_nil) (Nat.le_of_ble_eq_true rfl)) r7
    have H7 := SM_fr H6 m7_ (fun c_ j_ _ => f7_ c_ j_)
    have MM := ysm_tr m0_ (ysm_tr F1_.1 (ysm_tr m2_ (ysm_tr F3.1 (ysm_tr m4_ (ysm_tr F5.1 (ysm_tr m6_ m7_))))))
    by_cases g_ : hrd W_ V d_ (W_ c_) = W_ c_
    · rw [if_pos g_] at ld7 ⊢
      obtain ⟨h8, m8_, f8_, r8⟩ := msvR1 (v1_ := Int32.ofNat c_) (v2 := d_) H7.1
      exact ⟨h8, ysm_tr MM m8_, SM_fr H7 m8_ (fun c_ j_ _ => f8_ c_ j_), fun D_ hD => r_ D_ (by omega) _ (ld1 D_ (by omega) _ (ld2 D_ (by omega) _ (ld3 D_ (by omega) _ (ld4 D_ (by omega) _ (ld5 D_ (by omega) _ (ld6 D_ (by omega) _ (ld7 D_ (by omega) _ (r8 D_ (by omega)))))))))⟩
    · rw [if_neg g_] at ld7 ⊢
      obtain ⟨h8, m8_, f8_, r8⟩ := msvR0 (v1_ := Int32.ofNat c_) (v2 := d_) H7.1
      exact ⟨h8, ysm_tr MM m8_, SM_fr H7 m8_ (fun c_ j_ _ => f8_ c_ j_), fun D_ hD => r_ D_ (by omega) _ (ld1 D_ (by omega) _ (ld2 D_ (by omega) _ (ld3 D_ (by omega) _ (ld4 D_ (by omega) _ (ld5 D_ (by omega) _ (ld6 D_ (by omega) _ (ld7 D_ (by omega) _ (r8 D_ (by omega)))))))))⟩
  · rw [pif_f (fun q_ => gw q_.2)]
    obtain ⟨h2, m2_, w0_, f2_, r2⟩ := msvF (v1_ := Int32.ofNat c_) (v2 := d_) H1_.1 fy
    exact ⟨h2, ysm_tr m0_ (ysm_tr F1_.1 m2_), SM_e H1_ m2_ f2_, fun D_ hD => r_ D_ (by omega) _ (ld1 D_ (by omega) _ (r2 D_ (by omega)))⟩
