-- ===== move
theorem yac2 {mi pc idx ln p0_ a1_ b1 d1_ a_ b_ la lb p_ q_ : Nat} {n_ : Nat} {lo_ : xL} {h_ : xH} (hcd : xcd mi pc = some (.invokestatic idx, ln, [p0_, 903, a1_, b1, d1_])) (hs : sHp h_) (ha_ : bcq h_ a_ 20 la) (hb_ : bcq h_ b_ 20 lb) (h1 : p_ + n_ ≤ la) (h2 : q_ + n_ ≤ lb) (hl : la < 1000 ∧ lb < 1000) : ∃ h', ysm h_ h' ∧ ((∀ j_, j_ < n_ → bpat h' b_ (q_ + j_) = bpat h_ a_ (p_ + j_)) ∧ ((∀ c_ j_, ¬ (c_ = b_ ∧ (q_ ≤ j_ ∧ j_ < q_ + n_)) → bpat h' c_ j_ = bpat h_ c_ j_) ∧ bldD 0 mi pc lo_ [.int (Int32.ofNat n_), .int (Int32.ofNat q_), .index b_, .int (Int32.ofNat p_), .index a_] h_ (pc + 3) lo_ [] h')) := by
  have fx := fx_no hs hb_
  obtain ⟨c0_, c01, c02, c03⟩ := ha_
  obtain ⟨c1_, c11_, c12_, c13_⟩ := hb_
  obtain ⟨hl1, hl2⟩ := hl
  have en : (Int32.ofNat n_).toNatClampNeg = n_ := i32t (by omega)
  have ep : (Int32.ofNat p_).toNatClampNeg = p_ := i32t (by omega)
  have eq_ : (Int32.ofNat q_).toNatClampNeg = q_ := i32t (by omega)
  have lt_ : b_ < h_.length := (List.getElem?_eq_some_iff.mp c11_).1
  generalize eL : c1_.2.take q_ ++ ((c0_.2.drop p_).take n_ ++ c1_.2.drop (q_ + n_)) = L_
  have l1 : (c1_.2.take q_).length = q_ := by rw [List.length_take]; omega
  have l2 : ((c0_.2.drop p_).take n_).length = n_ := by rw [List.length_take, List.length_drop]; omega
  have ln2 : L_.length = c1_.2.length := by
    rw [← eL, List.length_append, List.length_append, l1, l2, List.length_drop]; omega
  have e1_ : (h_.set b_ (20, L_))[b_]? = some (20, L_) := List.getElem?_set_self lt_
  have e2_ : ∀ c_, ¬ c_ = b_ → (h_.set b_ (20, L_))[c_]? = h_[c_]? := fun c_ nc => List.getElem?_set_ne (fun e_ => nc e_.symm)
  have e3_ : ∀ c_ j_, ¬ c_ = b_ → bpat (h_.set b_ (20, L_)) c_ j_ = bpat h_ c_ j_ := by
    intro c_ j_ nc
    unfold bpat
    rw [e2_ c_ nc]
  have kq : ∀ x_ k_ l, bcq h_ x_ k_ l → bcq (h_.set b_ (20, L_)) x_ k_ l := by
    intro x_ k_ l hx
    by_cases g_ : x_ = b_
    · subst g_
      obtain ⟨c2_, q1_, q2_, q3_⟩ := hx
      rw [c11_] at q1_
      cases q1_
      exact ⟨_, e1_, by rw [← q2_, c12_], by rw [ln2, q3_]⟩
    · obtain ⟨c2_, q1_, q2_⟩ := hx
      exact ⟨c2_, by rw [e2_ x_ g_, q1_], q2_⟩
  refine ⟨h_.set b_ (20, L_), ⟨⟨fun m_ z_ hz => kq _ _ _ (hs.1 m_ z_ hz), fun u_ hu => ?_⟩, kq⟩, fun j_ hj => ?_, fun c_ j_ hn => ?_, fun D_ _ => bld_step hcd rfl ?_⟩
  · rw [e3_ _ _ (fx u_ hu)]
    exact hs.2 u_ hu
  · rw [bpat_at e1_, bpat_at c01]
    show L_[q_ + j_]? = c0_.2[p_ + j_]?
    rw [← eL, List.getElem?_append_right (by omega), l1, List.getElem?_append_left (by omega), List.getElem?_take_of_lt (by omega), List.getElem?_drop, show p_ + (q_ + j_ - q_) = p_ + j_ by omega]
  · by_cases g_ : c_ = b_
    · subst g_
      rw [bpat_at e1_, bpat_at c11_]
      show L_[j_]? = c1_.2[j_]?
      rw [← eL]
      rcases Nat.lt_or_ge j_ q_ with g1 | g1
      · rw [List.getElem?_append_left (by omega), List.getElem?_take_of_lt g1]
      · have g2 : q_ + n_ ≤ j_ := by
          rcases Nat.lt_or_ge j_ (q_ + n_) with g3_ | g3_
          · exact absurd ⟨rfl, g1, g3_⟩ hn
          · exact g3_
        rw [List.getElem?_append_right (by omega), l1, List.getElem?_append_right (by omega), l2, List.getElem?_drop, show q_ + n_ + (j_ - q_ - n_) = j_ by omega]
    · exact e3_ c_ j_ g_
  · intro k_
    have f1_ : Nat.beq 903 901 = false := rfl
    have f2_ : Nat.beq 903 902 = false := rfl
    have f3_ : Nat.beq 903 903 = true := rfl
    have f4_ : ∀ b_ : Nat, xG (.index b_) = false := fun _ => rfl
    have f5_ : ∀ v_ : Int32, xG (.int v_) = false := fun _ => rfl
    have f6_ : Nat.ble 3 6 = true := rfl
    have f7_ : Nat.beq 20 20 = true := rfl
    have ng : ∀ m_ : Nat, m_ < 1000 → decide (Int32.ofNat m_ < 0) = false := fun m_ hm_ => decide_eq_false (fun u_ => by
      rw [Int32.lt_iff_toInt_lt, i32n (by omega)] at u_
      have z0 : (0 : Int32).toInt = 0 := rfl
      omega)
    have f8_ := ng n_ (by omega)
    have f9_ := ng p_ (by omega)
    have f10 := ng q_ (by omega)
    have g1 : Nat.ble (p_ + n_) c0_.2.length = true := Nat.ble_eq_true_of_le (by rw [c03]; omega)
    have g2 : Nat.ble (q_ + n_) c1_.2.length = true := Nat.ble_eq_true_of_le (by rw [c13_]; omega)
    simp only [xsp, List.length_cons, List.length_nil, List.all_cons, List.all_nil, f4_, f5_, f6_, Bool.not_false, Bool.true_and, Bool.and_true, xI, Bool.and_self, cond_true, f1_, f2_, f3_, cond_false, xhg_eq, c01, c11_, c02, c12_, f7_, f8_, f9_, f10, en, ep, eq_, g1, g2, xfL_eq, xst_eq, xfN_eq, eL]
/-- n numbers of one row from i on come to another one from j on -/
def mvl (l1 l2 : List Int32) (i_ j_ n_ : Nat) : List Int32 := l2.take j_ ++ ((l1.drop i_).take n_ ++ l2.drop (j_ + n_))
theorem mvl_at {l1 l2 : List Int32} {i_ j_ n_ q_ : Nat} {y_ : Int32} (h1 : i_ + n_ ≤ l1.length) (h2 : j_ + n_ ≤ l2.length) (hy : (mvl l1 l2 i_ j_ n_)[q_]? = some y_) : ((j_ ≤ q_ ∧ q_ < j_ + n_) ∧ l1[i_ + (q_ - j_)]? = some y_) ∨ (¬ (j_ ≤ q_ ∧ q_ < j_ + n_) ∧ l2[q_]? = some y_) := by
  have e1_ : (l2.take j_).length = j_ := by rw [List.length_take]; omega
  have e2_ : ((l1.drop i_).take n_).length = n_ := by rw [List.length_take, List.length_drop]; omega
  unfold mvl at hy
  rcases Nat.lt_or_ge q_ j_ with g1 | g1
  · rw [List.getElem?_append_left (by omega), List.getElem?_take_of_lt g1] at hy
    exact Or.inr ⟨by omega, hy⟩
  · rw [List.getElem?_append_right (by omega), e1_] at hy
    rcases Nat.lt_or_ge q_ (j_ + n_) with g2 | g2
    · rw [List.getElem?_append_left (by omega), List.getElem?_take_of_lt (by omega), List.getElem?_drop] at hy
      exact Or.inl ⟨⟨g1, g2⟩, hy⟩
    · rw [List.getElem?_append_right (by omega), e2_, List.getElem?_drop, show j_ + n_ + (q_ - j_ - n_) = q_ by omega] at hy
      exact Or.inr ⟨by omega, hy⟩
theorem mvl_len {l1 l2 : List Int32} {i_ j_ n_ : Nat} (h1 : i_ + n_ ≤ l1.length) (h2 : j_ + n_ ≤ l2.length) : (mvl l1 l2 i_ j_ n_).length = l2.length := by
  unfold mvl
  rw [List.length_append, List.length_append, List.length_take, List.length_take, List.length_drop, List.length_drop]
  omega
/-- may so many be moved -/
def mvP (V : Nat → Int32) (s_ k_ : Nat) (i_ j_ n_ : Int32) : Prop := (0 ≤ i_.toInt ∧ 0 ≤ n_.toInt) ∧ (0 ≤ j_.toInt ∧ (i_.toInt + n_.toInt ≤ (V (211 + 2 * s_)).toInt ∧ j_.toInt + n_.toInt ≤ (V (211 + 2 * k_)).toInt))
noncomputable def moveF (W_ : Nat → List Int32) (V : Nat → Int32) (z_ i_ d_ j_ n_ : Int32) : (Nat → List Int32) × (Nat → Int32) × Int32 := pif ((0 ≤ z_.toInt ∧ z_.toInt < 4) ∧ (0 ≤ d_.toInt ∧ d_.toInt < 4)) (pif ((V (210 + 2 * z_.toInt.toNat)).toInt = 0 ∨ (V (210 + 2 * d_.toInt.toNat)).toInt = 0) (W_, V, Int32.ofInt (-1000002)) (pif (V (210 + 2 * z_.toInt.toNat) = V (210 + 2 * d_.toInt.toNat)) (pif (mvP V z_.toInt.toNat d_.toInt.toNat i_ j_ n_) (upR W_ (40 + d_.toInt.toNat) (mvl (W_ (40 + z_.toInt.toNat)) (W_ (40 + d_.toInt.toNat)) i_.toInt.toNat j_.toInt.toNat n_.toInt.toNat), V, n_) (W_, V, Int32.ofInt (-1000001))) (W_, V, Int32.ofInt (-1000005)))) (W_, V, Int32.ofInt (-1000001))
-- xmvA: 98 steps, 1 ends, 4 returns
def xmvA_L : List (Nat × Nat × Nat) := []
def xmvA_O : yO := [(0, .int 13, .index 323), (323, .int 1, .arg 400)]
def xmvA_A : yA := (yZ xmvA_L, [], [], [], [])
def xmvA_C : List xB := []
def xmvA_ss : List yS := [(20, [(0, .index 0), (1, .arg 1), (2, .arg 2), (3, .arg 3), (4, .arg 4), (5, .arg 5)], [], [(0, .int 13, .index 323), (323, .int 1, .arg 400)], [(.lt, .arg 3, .int 4, true), (.lt, .arg 3, .int 0, false), (.lt, .arg 1, .int 4, true), (.lt, .arg 1, .int 0, false)], [])]
def xmvA_rs : List yR := [(some (.int (Int32.ofInt (-1000001))), [(323, .int 1, .add (.arg 400) (.int 1)), (0, .int 13, .index 323)], [(.lt, .arg 1, .int 0, true)], [(323, .int 1)]),
  (some (.int (Int32.ofInt (-1000001))), [(323, .int 1, .add (.arg 400) (.int 1)), (0, .int 13, .index 323)], [(.lt, .arg 1, .int 4, false), (.lt, .arg 1, .int 0, false)], [(323, .int 1)]),
  (some (.int (Int32.ofInt (-1000001))), [(323, .int 1, .add (.arg 400) (.int 1)), (0, .int 13, .index 323)], [(.lt, .arg 3, .int 0, true), (.lt, .arg 1, .int 4, true), (.lt, .arg 1, .int 0, false)], [(323, .int 1)]),
  (some (.int (Int32.ofInt (-1000001))), [(323, .int 1, .add (.arg 400) (.int 1)), (0, .int 13, .index 323)], [(.lt, .arg 3, .int 4, false), (.lt, .arg 3, .int 0, false), (.lt, .arg 1, .int 4, true), (.lt, .arg 1, .int 0, false)], [(323, .int 1)])]
theorem xmvA_w : ywa xmvA_A xmvA_ss xmvA_rs = true := by decide +kernel
theorem xmvA_k : yis (yev xmvA_A 3000 60 110 [20] (0, [(0, .index 0), (1, .arg 1), (2, .arg 2), (3, .arg 3), (4, .arg 4), (5, .arg 5)], [], xmvA_O, xmvA_C, [])) xmvA_ss xmvA_rs = true := by decide +kernel
def xmvA_r (v1_ v2 v3 v4_ v5 v400 : Int32) (k_ : Nat) : Value := bif Nat.beq k_ 1 then .int v1_ else (bif Nat.beq k_ 2 then .int v2 else (bif Nat.beq k_ 3 then .int v3 else (bif Nat.beq k_ 4 then .int v4_ else (bif Nat.beq k_ 5 then .int v5 else (bif Nat.beq k_ 400 then .int v400 else (.int 0))))))
def xmvA_s (n_ : Nat) : Nat := 0
theorem xmvA {h_ : xH} {v1_ v2 v3 v4_ v5 v400 : Int32} (hs : sHp h_) (o0_ : bpat h_ 323 1 = some (.int v400)) : ∃ h', ysm h_ h' ∧ (((v3.toInt < (4 : Int32).toInt) ∧ ((0 : Int32).toInt ≤ v3.toInt) ∧ (v1_.toInt < (4 : Int32).toInt) ∧ ((0 : Int32).toInt ≤ v1_.toInt) ∧ (∀ a_ j_ : Nat, bpat h' a_ j_ = bpat h_ a_ j_) ∧ (bldD 60 110 0 [(0, .index 0), (1, .int v1_), (2, .int v2), (3, .int v3), (4, .int v4_), (5, .int v5)] [] h_ 20 [(0, .index 0), (1, .int v1_), (2, .int v2), (3, .int v3), (4, .int v4_), (5, .int v5)] [] h'))
  ∨ ((v1_.toInt < (0 : Int32).toInt) ∧ (bpat h' 323 1 = some (.int (v400 + (1 : Int32)))) ∧ (∀ a_ j_ : Nat, ¬ (a_ = 323 ∧ j_ = 1) → bpat h' a_ j_ = bpat h_ a_ j_) ∧ (∀ D_, 60 ≤ D_ → xrun D_ 110 0 [(0, .index 0), (1, .int v1_), (2, .int v2), (3, .int v3), (4, .int v4_), (5, .int v5)] [] h_ (some (.int (Int32.ofInt (-1000001))), h', [])))
  ∨ (((4 : Int32).toInt ≤ v1_.toInt) ∧ ((0 : Int32).toInt ≤ v1_.toInt) ∧ (bpat h' 323 1 = some (.int (v400 + (1 : Int32)))) ∧ (∀ a_ j_ : Nat, ¬ (a_ = 323 ∧ j_ = 1) → bpat h' a_ j_ = bpat h_ a_ j_) ∧ (∀ D_, 60 ≤ D_ → xrun D_ 110 0 [(0, .index 0), (1, .int v1_), (2, .int v2), (3, .int v3), (4, .int v4_), (5, .int v5)] [] h_ (some (.int (Int32.ofInt (-1000001))), h', [])))
  ∨ ((v3.toInt < (0 : Int32).toInt) ∧ (v1_.toInt < (4 : Int32).toInt) ∧ ((0 : Int32).toInt ≤ v1_.toInt) ∧ (bpat h' 323 1 = some (.int (v400 + (1 : Int32)))) ∧ (∀ a_ j_ : Nat, ¬ (a_ = 323 ∧ j_ = 1) → bpat h' a_ j_ = bpat h_ a_ j_) ∧ (∀ D_, 60 ≤ D_ → xrun D_ 110 0 [(0, .index 0), (1, .int v1_), (2, .int v2), (3, .int v3), (4, .int v4_), (5, .int v5)] [] h_ (some (.int (Int32.ofInt (-1000001))), h', [])))
  ∨ (((4 : Int32).toInt ≤ v3.toInt) ∧ ((0 : Int32).toInt ≤ v3.toInt) ∧ (v1_.toInt < (4 : Int32).toInt) ∧ ((0 : Int32).toInt ≤ v1_.toInt) ∧ (bpat h' 323 1 = some (.int (v400 + (1 : Int32)))) ∧ (∀ a_ j_ : Nat, ¬ (a_ = 323 ∧ j_ = 1) → bpat h' a_ j_ = bpat h_ a_ j_) ∧ (∀ D_, 60 ≤ D_ → xrun D_ 110 0 [(0, .index 0), (1, .int v1_), (2, .int v2), (3, .int v3), (4, .int v4_), (5, .int v5)] [] h_ (some (.int (Int32.ofInt (-1000001))), h', [])))) := by
  have hA : yas xmvA_A (xmvA_r v1_ v2 v3 v4_ v5 v400) (yg xmvA_s) := ⟨fun q_ hq => absurd hq List.not_mem_nil, fun q_ hq => absurd hq List.not_mem_nil, fun q_ hq => absurd hq List.not_mem_nil, fun n_ hn => yg_lo hn, fun q_ hq => absurd hq List.not_mem_nil⟩
  have Hs : ysh xmvA_A.1 (yg xmvA_s) h_ := ysh_of2 hs (fun q_ hq => absurd hq List.not_mem_nil)
  have Ho : ymem (xmvA_r v1_ v2 v3 v4_ v5 v400) (yg xmvA_s) xmvA_O h_ := List.forall_mem_cons.mpr ⟨bpat_some (fxr_at hs.2 (show fxk fxl 0 13 = some 323 by decide +kernel)), List.forall_mem_cons.mpr ⟨bpat_some o0_, fun q_ hq => absurd hq List.not_mem_nil⟩⟩
  have HC : ∀ q_ ∈ xmvA_C, xhold (xmvA_r v1_ v2 v3 v4_ v5 v400) q_ := fun q_ hq => absurd hq List.not_mem_nil
  rcases yrun (yis_ok xmvA_k) hA Hs Ho HC with ⟨q_, hq, h', K_, G_⟩ | ⟨q_, hq, h', K_, G_⟩
  · have e_ := List.mem_singleton.mp hq
    subst e_
    exact ⟨h', yfr_sm K_.2.2.2 hs K_.1 (ywa_s xmvA_w List.mem_cons_self), Or.inl (⟨xq_ltT rfl rfl (K_.2.2.1 _ List.mem_cons_self), xq_ltF rfl rfl (K_.2.2.1 _ (List.mem_cons_of_mem _ List.mem_cons_self)), xq_ltT rfl rfl (K_.2.2.1 _ (List.mem_cons_of_mem _ (List.mem_cons_of_mem _ List.mem_cons_self))), xq_ltF rfl rfl (K_.2.2.1 _ (List.mem_cons_of_mem _ (List.mem_cons_of_mem _ (List.mem_cons_of_mem _ List.mem_cons_self)))), fun a_ j_ => yfr_bp K_.2.2.2 (fun q_ hq => absurd hq List.not_mem_nil), G_⟩)⟩
  · rcases List.mem_cons.mp hq with e_ | hq
    · subst e_
      exact ⟨h', yfr_sm K_.2.2.2 hs K_.1 (ywa_r xmvA_w List.mem_cons_self), Or.inr (Or.inl (⟨xq_ltT rfl rfl (K_.2.2.1 _ List.mem_cons_self), bpat_of (K_.2.1 _ List.mem_cons_self), fun a_ j_ n0_ => yfr_bp K_.2.2.2 (List.forall_mem_cons.mpr ⟨fun e_ => n0_ ⟨e_.1.symm, e_.2.symm⟩, fun q_ hq => absurd hq List.not_mem_nil⟩), G_⟩))⟩
    rcases List.mem_cons.mp hq with e_ | hq
    · subst e_
      exact ⟨h', yfr_sm K_.2.2.2 hs K_.1 (ywa_r xmvA_w (List.mem_cons_of_mem _ List.mem_cons_self)), Or.inr (Or.inr (Or.inl (⟨xq_ltF rfl rfl (K_.2.2.1 _ List.mem_cons_self), xq_ltF rfl rfl (K_.2.2.1 _ (List.mem_cons_of_mem _ List.mem_cons_self)), bpat_of (K_.2.1 _ List.mem_cons_self), fun a_ j_ n0_ => yfr_bp K_.2.2.2 (List.forall_mem_cons.mpr ⟨fun e_ => n0_ ⟨e_.1.symm, e_.2.symm⟩, fun q_ hq => absurd hq List.not_mem_nil⟩), G_⟩)))⟩
    rcases List.mem_cons.mp hq with e_ | hq
    · subst e_
      exact ⟨h', yfr_sm K_.2.2.2 hs K_.1 (ywa_r xmvA_w (List.mem_cons_of_mem _ (List.mem_cons_of_mem _ List.mem_cons_self))), Or.inr (Or.inr (Or.inr (Or.inl (⟨xq_ltT rfl rfl (K_.2.2.1 _ List.mem_cons_self), xq_ltT rfl rfl (K_.2.2.1 _ (List.mem_cons_of_mem _ List.mem_cons_self)), xq_ltF rfl rfl (K_.2.2.1 _ (List.mem_cons_of_mem _ (List.mem_cons_of_mem _ List.mem_cons_self))), bpat_of (K_.2.1 _ List.mem_cons_self), fun a_ j_ n0_ => yfr_bp K_.2.2.2 (List.forall_mem_cons.mpr ⟨fun e_ => n0_ ⟨e_.1.symm, e_.2.symm⟩, fun q_ hq => absurd hq List.not_mem_nil⟩), G_⟩))))⟩
    have e_ := List.mem_singleton.mp hq
    subst e_
    exact ⟨h', yfr_sm K_.2.2.2 hs K_.1 (ywa_r xmvA_w (List.mem_cons_of_mem _ (List.mem_cons_of_mem _ (List.mem_cons_of_mem _ List.mem_cons_self)))), Or.inr (Or.inr (Or.inr (Or.inr (⟨xq_ltF rfl rfl (K_.2.2.1 _ List.mem_cons_self), xq_ltF rfl rfl (K_.2.2.1 _ (List.mem_cons_of_mem _ List.mem_cons_self)), xq_ltT rfl rfl (K_.2.2.1 _ (List.mem_cons_of_mem _ (List.mem_cons_of_mem _ List.mem_cons_self))), xq_ltF rfl rfl (K_.2.2.1 _ (List.mem_cons_of_mem _ (List.mem_cons_of_mem _ (List.mem_cons_of_mem _ List.mem_cons_self)))), bpat_of (K_.2.1 _ List.mem_cons_self), fun a_ j_ n0_ => yfr_bp K_.2.2.2 (List.forall_mem_cons.mpr ⟨fun e_ => n0_ ⟨e_.1.symm, e_.2.symm⟩, fun q_ hq => absurd hq List.not_mem_nil⟩), G_⟩))))⟩
-- xmvB: 264 steps, 1 ends, 10 returns
def xmvB_L : List (Nat × Nat × Nat) := [(1000, 7, 3), (1001, 7, 3)]
def xmvB_O : yO := [(0, .int 7, .index 313), (313, .arg 1, .index 1000), (313, .arg 3, .index 1001), (1000, .int 1, .arg 320), (1001, .int 1, .arg 321), (1000, .int 2, .arg 322), (0, .int 13, .index 323), (323, .int 1, .arg 400), (1001, .int 2, .arg 323), (323, .int 5, .arg 401), (323, .int 2, .arg 402)]
def xmvB_A : yA := (yZ xmvB_L, [(.arg 1, 4), (.arg 3, 4)], [], [], [])
def xmvB_C : List xB := []
def xmvB_ss : List yS := [(106, [(7, .index 1001), (6, .index 1000), (0, .index 0), (1, .arg 1), (2, .arg 2), (3, .arg 3), (4, .arg 4), (5, .arg 5)], [], [(0, .int 7, .index 313), (313, .arg 1, .index 1000), (313, .arg 3, .index 1001), (1000, .int 1, .arg 320), (1001, .int 1, .arg 321), (1000, .int 2, .arg 322), (0, .int 13, .index 323), (323, .int 1, .arg 400), (1001, .int 2, .arg 323), (323, .int 5, .arg 401), (323, .int 2, .arg 402)], [(.le, .arg 5, .sub (.arg 323) (.arg 4), true), (.le, .arg 4, .arg 323, true), (.lt, .arg 4, .int 0, false), (.le, .arg 5, .sub (.arg 322) (.arg 2), true), (.le, .arg 2, .arg 322, true), (.lt, .arg 5, .int 0, false), (.lt, .arg 2, .int 0, false), (.eq, .arg 320, .arg 321, true), (.eq, .arg 321, .int 0, false), (.eq, .arg 320, .int 0, false)], [])]
def xmvB_rs : List yR := [(some (.int (Int32.ofInt (-1000001))), [(323, .int 1, .add (.arg 400) (.int 1)), (0, .int 7, .index 313), (313, .arg 1, .index 1000), (313, .arg 3, .index 1001), (1000, .int 1, .arg 320), (1001, .int 1, .arg 321), (1000, .int 2, .arg 322), (0, .int 13, .index 323), (1001, .int 2, .arg 323), (323, .int 5, .arg 401), (323, .int 2, .arg 402)], [(.lt, .arg 2, .int 0, true), (.eq, .arg 320, .arg 321, true), (.eq, .arg 321, .int 0, false), (.eq, .arg 320, .int 0, false)], [(323, .int 1)]),
  (some (.int (Int32.ofInt (-1000001))), [(323, .int 1, .add (.arg 400) (.int 1)), (0, .int 7, .index 313), (313, .arg 1, .index 1000), (313, .arg 3, .index 1001), (1000, .int 1, .arg 320), (1001, .int 1, .arg 321), (1000, .int 2, .arg 322), (0, .int 13, .index 323), (1001, .int 2, .arg 323), (323, .int 5, .arg 401), (323, .int 2, .arg 402)], [(.lt, .arg 5, .int 0, true), (.lt, .arg 2, .int 0, false), (.eq, .arg 320, .arg 321, true), (.eq, .arg 321, .int 0, false), (.eq, .arg 320, .int 0, false)], [(323, .int 1)]),
  (some (.int (Int32.ofInt (-1000001))), [(323, .int 1, .add (.arg 400) (.int 1)), (0, .int 7, .index 313), (313, .arg 1, .index 1000), (313, .arg 3, .index 1001), (1000, .int 1, .arg 320), (1001, .int 1, .arg 321), (1000, .int 2, .arg 322), (0, .int 13, .index 323), (1001, .int 2, .arg 323), (323, .int 5, .arg 401), (323, .int 2, .arg 402)], [(.le, .arg 2, .arg 322, false), (.lt, .arg 5, .int 0, false), (.lt, .arg 2, .int 0, false), (.eq, .arg 320, .arg 321, true), (.eq, .arg 321, .int 0, false), (.eq, .arg 320, .int 0, false)], [(323, .int 1)]),
  (some (.int (Int32.ofInt (-1000001))), [(323, .int 1, .add (.arg 400) (.int 1)), (0, .int 7, .index 313), (313, .arg 1, .index 1000), (313, .arg 3, .index 1001), (1000, .int 1, .arg 320), (1001, .int 1, .arg 321), (1000, .int 2, .arg 322), (0, .int 13, .index 323), (1001, .int 2, .arg 323), (323, .int 5, .arg 401), (323, .int 2, .arg 402)], [(.le, .arg 5, .sub (.arg 322) (.arg 2), false), (.le, .arg 2, .arg 322, true), (.lt, .arg 5, .int 0, false), (.lt, .arg 2, .int 0, false), (.eq, .arg 320, .arg 321, true), (.eq, .arg 321, .int 0, false), (.eq, .arg 320, .int 0, false)], [(323, .int 1)]),
  (some (.int (Int32.ofInt (-1000001))), [(323, .int 1, .add (.arg 400) (.int 1)), (0, .int 7, .index 313), (313, .arg 1, .index 1000), (313, .arg 3, .index 1001), (1000, .int 1, .arg 320), (1001, .int 1, .arg 321), (1000, .int 2, .arg 322), (0, .int 13, .index 323), (1001, .int 2, .arg 323), (323, .int 5, .arg 401), (323, .int 2, .arg 402)], [(.lt, .arg 4, .int 0, true), (.le, .arg 5, .sub (.arg 322) (.arg 2), true), (.le, .arg 2, .arg 322, true), (.lt, .arg 5, .int 0, false), (.lt, .arg 2, .int 0, false), (.eq, .arg 320, .arg 321, true), (.eq, .arg 321, .int 0, false), (.eq, .arg 320, .int 0, false)], [(323, .int 1)]),
  (some (.int (Int32.ofInt (-1000001))), [(323, .int 1, .add (.arg 400) (.int 1)), (0, .int 7, .index 313), (313, .arg 1, .index 1000), (313, .arg 3, .index 1001), (1000, .int 1, .arg 320), (1001, .int 1, .arg 321), (1000, .int 2, .arg 322), (0, .int 13, .index 323), (1001, .int 2, .arg 323), (323, .int 5, .arg 401), (323, .int 2, .arg 402)], [(.le, .arg 4, .arg 323, false), (.lt, .arg 4, .int 0, false), (.le, .arg 5, .sub (.arg 322) (.arg 2), true), (.le, .arg 2, .arg 322, true), (.lt, .arg 5, .int 0, false), (.lt, .arg 2, .int 0, false), (.eq, .arg 320, .arg 321, true), (.eq, .arg 321, .int 0, false), (.eq, .arg 320, .int 0, false)], [(323, .int 1)]),
  (some (.int (Int32.ofInt (-1000001))), [(323, .int 1, .add (.arg 400) (.int 1)), (0, .int 7, .index 313), (313, .arg 1, .index 1000), (313, .arg 3, .index 1001), (1000, .int 1, .arg 320), (1001, .int 1, .arg 321), (1000, .int 2, .arg 322), (0, .int 13, .index 323), (1001, .int 2, .arg 323), (323, .int 5, .arg 401), (323, .int 2, .arg 402)], [(.le, .arg 5, .sub (.arg 323) (.arg 4), false), (.le, .arg 4, .arg 323, true), (.lt, .arg 4, .int 0, false), (.le, .arg 5, .sub (.arg 322) (.arg 2), true), (.le, .arg 2, .arg 322, true), (.lt, .arg 5, .int 0, false), (.lt, .arg 2, .int 0, false), (.eq, .arg 320, .arg 321, true), (.eq, .arg 321, .int 0, false), (.eq, .arg 320, .int 0, false)], [(323, .int 1)]),
  (some (.int (Int32.ofInt (-1000005))), [(323, .int 5, .add (.arg 401) (.int 1)), (0, .int 7, .index 313), (313, .arg 1, .index 1000), (313, .arg 3, .index 1001), (1000, .int 1, .arg 320), (1001, .int 1, .arg 321), (1000, .int 2, .arg 322), (0, .int 13, .index 323), (323, .int 1, .arg 400), (1001, .int 2, .arg 323), (323, .int 2, .arg 402)], [(.eq, .arg 320, .arg 321, false), (.eq, .arg 321, .int 0, false), (.eq, .arg 320, .int 0, false)], [(323, .int 5)]),
  (some (.int (Int32.ofInt (-1000002))), [(323, .int 2, .add (.arg 402) (.int 1)), (0, .int 7, .index 313), (313, .arg 1, .index 1000), (313, .arg 3, .index 1001), (1000, .int 1, .arg 320), (1001, .int 1, .arg 321), (1000, .int 2, .arg 322), (0, .int 13, .index 323), (323, .int 1, .arg 400), (1001, .int 2, .arg 323), (323, .int 5, .arg 401)], [(.eq, .arg 321, .int 0, true), (.eq, .arg 320, .int 0, false)], [(323, .int 2)]),
  (some (.int (Int32.ofInt (-1000002))), [(323, .int 2, .add (.arg 402) (.int 1)), (0, .int 7, .index 313), (313, .arg 1, .index 1000), (313, .arg 3, .index 1001), (1000, .int 1, .arg 320), (1001, .int 1, .arg 321), (1000, .int 2, .arg 322), (0, .int 13, .index 323), (323, .int 1, .arg 400), (1001, .int 2, .arg 323), (323, .int 5, .arg 401)], [(.eq, .arg 320, .int 0, true)], [(323, .int 2)])]
theorem xmvB_w : ywa xmvB_A xmvB_ss xmvB_rs = true := by decide +kernel
theorem xmvB_k : yis (yev xmvB_A 3000 60 110 [106] (20, [(0, .index 0), (1, .arg 1), (2, .arg 2), (3, .arg 3), (4, .arg 4), (5, .arg 5)], [], xmvB_O, xmvB_C, [])) xmvB_ss xmvB_rs = true := by decide +kernel
def xmvB_r (v1_ v2 v3 v4_ v5 v320 v321 v322 v323 v400 v401 v402 : Int32) (k_ : Nat) : Value := bif Nat.beq k_ 1 then .int v1_ else (bif Nat.beq k_ 2 then .int v2 else (bif Nat.beq k_ 3 then .int v3 else (bif Nat.beq k_ 4 then .int v4_ else (bif Nat.beq k_ 5 then .int v5 else (bif Nat.beq k_ 320 then .int v320 else (bif Nat.beq k_ 321 then .int v321 else (bif Nat.beq k_ 322 then .int v322 else (bif Nat.beq k_ 323 then .int v323 else (bif Nat.beq k_ 400 then .int v400 else (bif Nat.beq k_ 401 then .int v401 else (bif Nat.beq k_ 402 then .int v402 else (.int 0))))))))))))
def xmvB_s (a1000 a1001 : Nat) (n_ : Nat) : Nat := bif Nat.beq n_ 1000 then a1000 else (bif Nat.beq n_ 1001 then a1001 else (0))
theorem xmvB {h_ : xH} {a1000 a1001 : Nat} {v1_ v2 v3 v4_ v5 v320 v321 v322 v323 v400 v401 v402 : Int32} (hs : sHp h_) (k1000 : bcq h_ a1000 7 3) (k1001 : bcq h_ a1001 7 3) (o0_ : bpat h_ 313 (v1_).toInt.toNat = some (.index a1000)) (o1 : bpat h_ 313 (v3).toInt.toNat = some (.index a1001)) (o2 : bpat h_ a1000 1 = some (.int v320)) (o3_ : bpat h_ a1001 1 = some (.int v321)) (o4_ : bpat h_ a1000 2 = some (.int v322)) (o5_ : bpat h_ 323 1 = some (.int v400)) (o6 : bpat h_ a1001 2 = some (.int v323)) (o7 : bpat h_ 323 5 = some (.int v401)) (o8_ : bpat h_ 323 2 = some (.int v402)) (b0 : 0 ≤ (v1_).toInt ∧ (v1_).toInt < 4) (b1 : 0 ≤ (v3).toInt ∧ (v3).toInt < 4) : ∃ h', ysm h_ h' ∧ (((v5.toInt ≤ (v323 - v4_).toInt) ∧ (v4_.toInt ≤ v323.toInt) ∧ ((0 : Int32).toInt ≤ v4_.toInt) ∧ (v5.toInt ≤ (v322 - v2).toInt) ∧ (v2.toInt ≤ v322.toInt) ∧ ((0 : Int32).toInt ≤ v5.toInt) ∧ ((0 : Int32).toInt ≤ v2.toInt) ∧ (v320 = v321) ∧ (¬ v321 = (0 : Int32)) ∧ (¬ v320 = (0 : Int32)) ∧ (∀ a_ j_ : Nat, bpat h' a_ j_ = bpat h_ a_ j_) ∧ (bldD 60 110 20 [(0, .index 0), (1, .int v1_), (2, .int v2), (3, .int v3), (4, .int v4_), (5, .int v5)] [] h_ 106 [(7, .index a1001), (6, .index a1000), (0, .index 0), (1, .int v1_), (2, .int v2), (3, .int v3), (4, .int v4_), (5, .int v5)] [] h'))
  ∨ ((v2.toInt < (0 : Int32).toInt) ∧ (v320 = v321) ∧ (¬ v321 = (0 : Int32)) ∧ (¬ v320 = (0 : Int32)) ∧ (bpat h' 323 1 = some (.int (v400 + (1 : Int32)))) ∧ (∀ a_ j_ : Nat, ¬ (a_ = 323 ∧ j_ = 1) → bpat h' a_ j_ = bpat h_ a_ j_) ∧ (∀ D_, 60 ≤ D_ → xrun D_ 110 20 [(0, .index 0), (1, .int v1_), (2, .int v2), (3, .int v3), (4, .int v4_), (5, .int v5)] [] h_ (some (.int (Int32.ofInt (-1000001))), h', [])))
  ∨ ((v5.toInt < (0 : Int32).toInt) ∧ ((0 : Int32).toInt ≤ v2.toInt) ∧ (v320 = v321) ∧ (¬ v321 = (0 : Int32)) ∧ (¬ v320 = (0 : Int32)) ∧ (bpat h' 323 1 = some (.int (v400 + (1 : Int32)))) ∧ (∀ a_ j_ : Nat, ¬ (a_ = 323 ∧ j_ = 1) → bpat h' a_ j_ = bpat h_ a_ j_) ∧ (∀ D_, 60 ≤ D_ → xrun D_ 110 20 [(0, .index 0), (1, .int v1_), (2, .int v2), (3, .int v3), (4, .int v4_), (5, .int v5)] [] h_ (some (.int (Int32.ofInt (-1000001))), h', [])))
  ∨ ((v322.toInt < v2.toInt) ∧ ((0 : Int32).toInt ≤ v5.toInt) ∧ ((0 : Int32).toInt ≤ v2.toInt) ∧ (v320 = v321) ∧ (¬ v321 = (0 : Int32)) ∧ (¬ v320 = (0 : Int32)) ∧ (bpat h' 323 1 = some (.int (v400 + (1 : Int32)))) ∧ (∀ a_ j_ : Nat, ¬ (a_ = 323 ∧ j_ = 1) → bpat h' a_ j_ = bpat h_ a_ j_) ∧ (∀ D_, 60 ≤ D_ → xrun D_ 110 20 [(0, .index 0), (1, .int v1_), (2, .int v2), (3, .int v3), (4, .int v4_), (5, .int v5)] [] h_ (some (.int (Int32.ofInt (-1000001))), h', [])))
  ∨ (((v322 - v2).toInt < v5.toInt) ∧ (v2.toInt ≤ v322.toInt) ∧ ((0 : Int32).toInt ≤ v5.toInt) ∧ ((0 : Int32).toInt ≤ v2.toInt) ∧ (v320 = v321) ∧ (¬ v321 = (0 : Int32)) ∧ (¬ v320 = (0 : Int32)) ∧ (bpat h' 323 1 = some (.int (v400 + (1 : Int32)))) ∧ (∀ a_ j_ : Nat, ¬ (a_ = 323 ∧ j_ = 1) → bpat h' a_ j_ = bpat h_ a_ j_) ∧ (∀ D_, 60 ≤ D_ → xrun D_ 110 20 [(0, .index 0), (1, .int v1_), (2, .int v2), (3, .int v3), (4, .int v4_), (5, .int v5)] [] h_ (some (.int (Int32.ofInt (-1000001))), h', [])))
  ∨ ((v4_.toInt < (0 : Int32).toInt) ∧ (v5.toInt ≤ (v322 - v2).toInt) ∧ (v2.toInt ≤ v322.toInt) ∧ ((0 : Int32).toInt ≤ v5.toInt) ∧ ((0 : Int32).toInt ≤ v2.toInt) ∧ (v320 = v321) ∧ (¬ v321 = (0 : Int32)) ∧ (¬ v320 = (0 : Int32)) ∧ (bpat h' 323 1 = some (.int (v400 + (1 : Int32)))) ∧ (∀ a_ j_ : Nat, ¬ (a_ = 323 ∧ j_ = 1) → bpat h' a_ j_ = bpat h_ a_ j_) ∧ (∀ D_, 60 ≤ D_ → xrun D_ 110 20 [(0, .index 0), (1, .int v1_), (2, .int v2), (3, .int v3), (4, .int v4_), (5, .int v5)] [] h_ (some (.int (Int32.ofInt (-1000001))), h', [])))
  ∨ ((v323.toInt < v4_.toInt) ∧ ((0 : Int32).toInt ≤ v4_.toInt) ∧ (v5.toInt ≤ (v322 - v2).toInt) ∧ (v2.toInt ≤ v322.toInt) ∧ ((0 : Int32).toInt ≤ v5.toInt) ∧ ((0 : Int32).toInt ≤ v2.toInt) ∧ (v320 = v321) ∧ (¬ v321 = (0 : Int32)) ∧ (¬ v320 = (0 : Int32)) ∧ (bpat h' 323 1 = some (.int (v400 + (1 : Int32)))) ∧ (∀ a_ j_ : Nat, ¬ (a_ = 323 ∧ j_ = 1) → bpat h' a_ j_ = bpat h_ a_ j_) ∧ (∀ D_, 60 ≤ D_ → xrun D_ 110 20 [(0, .index 0), (1, .int v1_), (2, .int v2), (3, .int v3), (4, .int v4_), (5, .int v5)] [] h_ (some (.int (Int32.ofInt (-1000001))), h', [])))
  ∨ (((v323 - v4_).toInt < v5.toInt) ∧ (v4_.toInt ≤ v323.toInt) ∧ ((0 : Int32).toInt ≤ v4_.toInt) ∧ (v5.toInt ≤ (v322 - v2).toInt) ∧ (v2.toInt ≤ v322.toInt) ∧ ((0 : Int32).toInt ≤ v5.toInt) ∧ ((0 : Int32).toInt ≤ v2.toInt) ∧ (v320 = v321) ∧ (¬ v321 = (0 : Int32)) ∧ (¬ v320 = (0 : Int32)) ∧ (bpat h' 323 1 = some (.int (v400 + (1 : Int32)))) ∧ (∀ a_ j_ : Nat, ¬ (a_ = 323 ∧ j_ = 1) → bpat h' a_ j_ = bpat h_ a_ j_) ∧ (∀ D_, 60 ≤ D_ → xrun D_ 110 20 [(0, .index 0), (1, .int v1_), (2, .int v2), (3, .int v3), (4, .int v4_), (5, .int v5)] [] h_ (some (.int (Int32.ofInt (-1000001))), h', [])))
  ∨ ((¬ v320 = v321) ∧ (¬ v321 = (0 : Int32)) ∧ (¬ v320 = (0 : Int32)) ∧ (bpat h' 323 5 = some (.int (v401 + (1 : Int32)))) ∧ (∀ a_ j_ : Nat, ¬ (a_ = 323 ∧ j_ = 5) → bpat h' a_ j_ = bpat h_ a_ j_) ∧ (∀ D_, 60 ≤ D_ → xrun D_ 110 20 [(0, .index 0), (1, .int v1_), (2, .int v2), (3, .int v3), (4, .int v4_), (5, .int v5)] [] h_ (some (.int (Int32.ofInt (-1000005))), h', [])))
  ∨ ((v321 = (0 : Int32)) ∧ (¬ v320 = (0 : Int32)) ∧ (bpat h' 323 2 = some (.int (v402 + (1 : Int32)))) ∧ (∀ a_ j_ : Nat, ¬ (a_ = 323 ∧ j_ = 2) → bpat h' a_ j_ = bpat h_ a_ j_) ∧ (∀ D_, 60 ≤ D_ → xrun D_ 110 20 [(0, .index 0), (1, .int v1_), (2, .int v2), (3, .int v3), (4, .int v4_), (5, .int v5)] [] h_ (some (.int (Int32.ofInt (-1000002))), h', [])))
  ∨ ((v320 = (0 : Int32)) ∧ (bpat h' 323 2 = some (.int (v402 + (1 : Int32)))) ∧ (∀ a_ j_ : Nat, ¬ (a_ = 323 ∧ j_ = 2) → bpat h' a_ j_ = bpat h_ a_ j_) ∧ (∀ D_, 60 ≤ D_ → xrun D_ 110 20 [(0, .index 0), (1, .int v1_), (2, .int v2), (3, .int v3), (4, .int v4_), (5, .int v5)] [] h_ (some (.int (Int32.ofInt (-1000002))), h', [])))) := by
  have hA : yas xmvB_A (xmvB_r v1_ v2 v3 v4_ v5 v320 v321 v322 v323 v400 v401 v402) (yg (xmvB_s a1000 a1001)) := ⟨List.forall_mem_cons.mpr ⟨b0, List.forall_mem_cons.mpr ⟨b1, fun q_ hq => absurd hq List.not_mem_nil⟩⟩, fun q_ hq => absurd hq List.not_mem_nil, fun q_ hq => absurd hq List.not_mem_nil, fun n_ hn => yg_lo hn, fun q_ hq => absurd hq List.not_mem_nil⟩
  have Hs : ysh xmvB_A.1 (yg (xmvB_s a1000 a1001)) h_ := ysh_of2 hs (List.forall_mem_cons.mpr ⟨⟨by decide, k1000⟩, List.forall_mem_cons.mpr ⟨⟨by decide, k1001⟩, fun q_ hq => absurd hq List.not_mem_nil⟩⟩)
  have Ho : ymem (xmvB_r v1_ v2 v3 v4_ v5 v320 v321 v322 v323 v400 v401 v402) (yg (xmvB_s a1000 a1001)) xmvB_O h_ := List.forall_mem_cons.mpr ⟨bpat_some (fxr_at hs.2 (show fxk fxl 0 7 = some 313 by decide +kernel)), List.forall_mem_cons.mpr ⟨bpat_some o0_, List.forall_mem_cons.mpr ⟨bpat_some o1, List.forall_mem_cons.mpr ⟨bpat_some o2, List.forall_mem_cons.mpr ⟨bpat_some o3_, List.forall_mem_cons.mpr ⟨bpat_some o4_, List.forall_mem_cons.mpr ⟨bpat_some (fxr_at hs.2 (show fxk fxl 0 13 = some 323 by decide +kernel)), List.forall_mem_cons.mpr ⟨bpat_some o5_, List.forall_mem_cons.mpr ⟨bpat_some o6, List.forall_mem_cons.mpr ⟨bpat_some o7, List.forall_mem_cons.mpr ⟨bpat_some o8_, fun q_ hq => absurd hq List.not_mem_nil⟩⟩⟩⟩⟩⟩⟩⟩⟩⟩⟩
  have HC : ∀ q_ ∈ xmvB_C, xhold (xmvB_r v1_ v2 v3 v4_ v5 v320 v321 v322 v323 v400 v401 v402) q_ := fun q_ hq => absurd hq List.not_mem_nil
  rcases yrun (yis_ok xmvB_k) hA Hs Ho HC with ⟨q_, hq, h', K_, G_⟩ | ⟨q_, hq, h', K_, G_⟩
  · have e_ := List.mem_singleton.mp hq
    subst e_
    exact ⟨h', yfr_sm K_.2.2.2 hs K_.1 (ywa_s xmvB_w List.mem_cons_self), Or.inl (⟨xq_leT rfl (yv_sub2 rfl rfl) (K_.2.2.1 _ List.mem_cons_self), xq_leT rfl rfl (K_.2.2.1 _ (List.mem_cons_of_mem _ List.mem_cons_self)), xq_ltF rfl rfl (K_.2.2.1 _ (List.mem_cons_of_mem _ (List.mem_cons_of_mem _ List.mem_cons_self))), xq_leT rfl (yv_sub2 rfl rfl) (K_.2.2.1 _ (List.mem_cons_of_mem _ (List.mem_cons_of_mem _ (List.mem_cons_of_mem _ List.mem_cons_self)))), xq_leT rfl rfl (K_.2.2.1 _ (List.mem_cons_of_mem _ (List.mem_cons_of_mem _ (List.mem_cons_of_mem _ (List.mem_cons_of_mem _ List.mem_cons_self))))), xq_ltF rfl rfl (K_.2.2.1 _ (List.mem_cons_of_mem _ (List.mem_cons_of_mem _ (List.mem_cons_of_mem _ (List.mem_cons_of_mem _ (List.mem_cons_of_mem _ List.mem_cons_self)))))), xq_ltF rfl rfl (K_.2.2.1 _ (List.mem_cons_of_mem _ (List.mem_cons_of_mem _ (List.mem_cons_of_mem _ (List.mem_cons_of_mem _ (List.mem_cons_of_mem _ (List.mem_cons_of_mem _ List.mem_cons_self))))))), xq_eqT rfl rfl (K_.2.2.1 _ (List.mem_cons_of_mem _ (List.mem_cons_of_mem _ (List.mem_cons_of_mem _ (List.mem_cons_of_mem _ (List.mem_cons_of_mem _ (List.mem_cons_of_mem _ (List.mem_cons_of_mem _ List.mem_cons_self)))))))), xq_eqF rfl rfl (K_.2.2.1 _ (List.mem_cons_of_mem _ (List.mem_cons_of_mem _ (List.mem_cons_of_mem _ (List.mem_cons_of_mem _ (List.mem_cons_of_mem _ (List.mem_cons_of_mem _ (List.mem_cons_of_mem _ (List.mem_cons_of_mem _ List.mem_cons_self))))))))), xq_eqF rfl rfl (K_.2.2.1 _ (List.mem_cons_of_mem _ (List.mem_cons_of_mem _ (List.mem_cons_of_mem _ (List.mem_cons_of_mem _ (List.mem_cons_of_mem _ (List.mem_cons_of_mem _ (List.mem_cons_of_mem _ (List.mem_cons_of_mem _ (List.mem_cons_of_mem _ List.mem_cons_self)))))))))), fun a_ j_ => yfr_bp K_.2.2.2 (fun q_ hq => absurd hq List.not_mem_nil), G_⟩)⟩
  · rcases List.mem_cons.mp hq with e_ | hq
    · subst e_
      exact ⟨h', yfr_sm K_.2.2.2 hs K_.1 (ywa_r xmvB_w List.mem_cons_self), Or.inr (Or.inl (⟨xq_ltT rfl rfl (K_.2.2.1 _ List.mem_cons_self), xq_eqT rfl rfl (K_.2.2.1 _ (List.mem_cons_of_mem _ List.mem_cons_self)), xq_eqF rfl rfl (K_.2.2.1 _ (List.mem_cons_of_mem _ (List.mem_cons_of_mem _ List.mem_cons_self))), xq_eqF rfl rfl (K_.2.2.1 _ (List.mem_cons_of_mem _ (List.mem_cons_of_mem _ (List.mem_cons_of_mem _ List.mem_cons_self)))), bpat_of (K_.2.1 _ List.mem_cons_self), fun a_ j_ n0_ => yfr_bp K_.2.2.2 (List.forall_mem_cons.mpr ⟨fun e_ => n0_ ⟨e_.1.symm, e_.2.symm⟩, fun q_ hq => absurd hq List.not_mem_nil⟩), G_⟩))⟩
    rcases List.mem_cons.mp hq with e_ | hq
    · subst e_
      exact ⟨h', yfr_sm K_.2.2.2 hs K_.1 (ywa_r xmvB_w (List.mem_cons_of_mem _ List.mem_cons_self)), Or.inr (Or.inr (Or.inl (⟨xq_ltT rfl rfl (K_.2.2.1 _ List.mem_cons_self), xq_ltF rfl rfl (K_.2.2.1 _ (List.mem_cons_of_mem _ List.mem_cons_self)), xq_eqT rfl rfl (K_.2.2.1 _ (List.mem_cons_of_mem _ (List.mem_cons_of_mem _ List.mem_cons_self))), xq_eqF rfl rfl (K_.2.2.1 _ (List.mem_cons_of_mem _ (List.mem_cons_of_mem _ (List.mem_cons_of_mem _ List.mem_cons_self)))), xq_eqF rfl rfl (K_.2.2.1 _ (List.mem_cons_of_mem _ (List.mem_cons_of_mem _ (List.mem_cons_of_mem _ (List.mem_cons_of_mem _ List.mem_cons_self))))), bpat_of (K_.2.1 _ List.mem_cons_self), fun a_ j_ n0_ => yfr_bp K_.2.2.2 (List.forall_mem_cons.mpr ⟨fun e_ => n0_ ⟨e_.1.symm, e_.2.symm⟩, fun q_ hq => absurd hq List.not_mem_nil⟩), G_⟩)))⟩
    rcases List.mem_cons.mp hq with e_ | hq
    · subst e_
      exact ⟨h', yfr_sm K_.2.2.2 hs K_.1 (ywa_r xmvB_w (List.mem_cons_of_mem _ (List.mem_cons_of_mem _ List.mem_cons_self))), Or.inr (Or.inr (Or.inr (Or.inl (⟨xq_leF rfl rfl (K_.2.2.1 _ List.mem_cons_self), xq_ltF rfl rfl (K_.2.2.1 _ (List.mem_cons_of_mem _ List.mem_cons_self)), xq_ltF rfl rfl (K_.2.2.1 _ (List.mem_cons_of_mem _ (List.mem_cons_of_mem _ List.mem_cons_self))), xq_eqT rfl rfl (K_.2.2.1 _ (List.mem_cons_of_mem _ (List.mem_cons_of_mem _ (List.mem_cons_of_mem _ List.mem_cons_self)))), xq_eqF rfl rfl (K_.2.2.1 _ (List.mem_cons_of_mem _ (List.mem_cons_of_mem _ (List.mem_cons_of_mem _ (List.mem_cons_of_mem _ List.mem_cons_self))))), xq_eqF rfl rfl (K_.2.2.1 _ (List.mem_cons_of_mem _ (List.mem_cons_of_mem _ (List.mem_cons_of_mem _ (List.mem_cons_of_mem _ (List.mem_cons_of_mem _ List.mem_cons_self)))))), bpat_of (K_.2.1 _ List.mem_cons_self), fun a_ j_ n0_ => yfr_bp K_.2.2.2 (List.forall_mem_cons.mpr ⟨fun e_ => n0_ ⟨e_.1.symm, e_.2.symm⟩, fun q_ hq => absurd hq List.not_mem_nil⟩), G_⟩))))⟩
    rcases List.mem_cons.mp hq with e_ | hq
    · subst e_
      exact ⟨h', yfr_sm K_.2.2.2 hs K_.1 (ywa_r xmvB_w (List.mem_cons_of_mem _ (List.mem_cons_of_mem _ (List.mem_cons_of_mem _ List.mem_cons_self)))), Or.inr (Or.inr (Or.inr (Or.inr (Or.inl (⟨xq_leF rfl (yv_sub2 rfl rfl) (K_.2.2.1 _ List.mem_cons_self), xq_leT rfl rfl (K_.2.2.1 _ (List.mem_cons_of_mem _ List.mem_cons_self)), xq_ltF rfl rfl (K_.2.2.1 _ (List.mem_cons_of_mem _ (List.mem_cons_of_mem _ List.mem_cons_self))), xq_ltF rfl rfl (K_.2.2.1 _ (List.mem_cons_of_mem _ (List.mem_cons_of_mem _ (List.mem_cons_of_mem _ List.mem_cons_self)))), xq_eqT rfl rfl (K_.2.2.1 _ (List.mem_cons_of_mem _ (List.mem_cons_of_mem _ (List.mem_cons_of_mem _ (List.mem_cons_of_mem _ List.mem_cons_self))))), xq_eqF rfl rfl (K_.2.2.1 _ (List.mem_cons_of_mem _ (List.mem_cons_of_mem _ (List.mem_cons_of_mem _ (List.mem_cons_of_mem _ (List.mem_cons_of_mem _ List.mem_cons_self)))))), xq_eqF rfl rfl (K_.2.2.1 _ (List.mem_cons_of_mem _ (List.mem_cons_of_mem _ (List.mem_cons_of_mem _ (List.mem_cons_of_mem _ (List.mem_cons_of_mem _ (List.mem_cons_of_mem _ List.mem_cons_self))))))), bpat_of (K_.2.1 _ List.mem_cons_self), fun a_ j_ n0_ => yfr_bp K_.2.2.2 (List.forall_mem_cons.mpr ⟨fun e_ => n0_ ⟨e_.1.symm, e_.2.symm⟩, fun q_ hq => absurd hq List.not_mem_nil⟩), G_⟩)))))⟩
    rcases List.mem_cons.mp hq with e_ | hq
    · subst e_
      exact ⟨h', yfr_sm K_.2.2.2 hs K_.1 (ywa_r xmvB_w (List.mem_cons_of_mem _ (List.mem_cons_of_mem _ (List.mem_cons_of_mem _ (List.mem_cons_of_mem _ List.mem_cons_self))))), Or.inr (Or.inr (Or.inr (Or.inr (Or.inr (Or.inl (⟨xq_ltT rfl rfl (K_.2.2.1 _ List.mem_cons_self), xq_leT rfl (yv_sub2 rfl rfl) (K_.2.2.1 _ (List.mem_cons_of_mem _ List.mem_cons_self)), xq_leT rfl rfl (K_.2.2.1 _ (List.mem_cons_of_mem _ (List.mem_cons_of_mem _ List.mem_cons_self))), xq_ltF rfl rfl (K_.2.2.1 _ (List.mem_cons_of_mem _ (List.mem_cons_of_mem _ (List.mem_cons_of_mem _ List.mem_cons_self)))), xq_ltF rfl rfl (K_.2.2.1 _ (List.mem_cons_of_mem _ (List.mem_cons_of_mem _ (List.mem_cons_of_mem _ (List.mem_cons_of_mem _ List.mem_cons_self))))), xq_eqT rfl rfl (K_.2.2.1 _ (List.mem_cons_of_mem _ (List.mem_cons_of_mem _ (List.mem_cons_of_mem _ (List.mem_cons_of_mem _ (List.mem_cons_of_mem _ List.mem_cons_self)))))), xq_eqF rfl rfl (K_.2.2.1 _ (List.mem_cons_of_mem _ (List.mem_cons_of_mem _ (List.mem_cons_of_mem _ (List.mem_cons_of_mem _ (List.mem_cons_of_mem _ (List.mem_cons_of_mem _ List.mem_cons_self))))))), xq_eqF rfl rfl (K_.2.2.1 _ (List.mem_cons_of_mem _ (List.mem_cons_of_mem _ (List.mem_cons_of_mem _ (List.mem_cons_of_mem _ (List.mem_cons_of_mem _ (List.mem_cons_of_mem _ (List.mem_cons_of_mem _ List.mem_cons_self)))))))), bpat_of (K_.2.1 _ List.mem_cons_self), fun a_ j_ n0_ => yfr_bp K_.2.2.2 (List.forall_mem_cons.mpr ⟨fun e_ => n0_ ⟨e_.1.symm, e_.2.symm⟩, fun q_ hq => absurd hq List.not_mem_nil⟩), G_⟩))))))⟩
    rcases List.mem_cons.mp hq with e_ | hq
    · subst e_
      exact ⟨h', yfr_sm K_.2.2.2 hs K_.1 (ywa_r xmvB_w (List.mem_cons_of_mem _ (List.mem_cons_of_mem _ (List.mem_cons_of_mem _ (List.mem_cons_of_mem _ (List.mem_cons_of_mem _ List.mem_cons_self)))))), Or.inr (Or.inr (Or.inr (Or.inr (Or.inr (Or.inr (Or.inl (⟨xq_leF rfl rfl (K_.2.2.1 _ List.mem_cons_self), xq_ltF rfl rfl (K_.2.2.1 _ (List.mem_cons_of_mem _ List.mem_cons_self)), xq_leT rfl (yv_sub2 rfl rfl) (K_.2.2.1 _ (List.mem_cons_of_mem _ (List.mem_cons_of_mem _ List.mem_cons_self))), xq_leT rfl rfl (K_.2.2.1 _ (List.mem_cons_of_mem _ (List.mem_cons_of_mem _ (List.mem_cons_of_mem _ List.mem_cons_self)))), xq_ltF rfl rfl (K_.2.2.1 _ (List.mem_cons_of_mem _ (List.mem_cons_of_mem _ (List.mem_cons_of_mem _ (List.mem_cons_of_mem _ List.mem_cons_self))))), xq_ltF rfl rfl (K_.2.2.1 _ (List.mem_cons_of_mem _ (List.mem_cons_of_mem _ (List.mem_cons_of_mem _ (List.mem_cons_of_mem _ (List.mem_cons_of_mem _ List.mem_cons_self)))))), xq_eqT rfl rfl (K_.2.2.1 _ (List.mem_cons_of_mem _ (List.mem_cons_of_mem _ (List.mem_cons_of_mem _ (List.mem_cons_of_mem _ (List.mem_cons_of_mem _ (List.mem_cons_of_mem _ List.mem_cons_self))))))), xq_eqF rfl rfl (K_.2.2.1 _ (List.mem_cons_of_mem _ (List.mem_cons_of_mem _ (List.mem_cons_of_mem _ (List.mem_cons_of_mem _ (List.mem_cons_of_mem _ (List.mem_cons_of_mem _ (List.mem_cons_of_mem _ List.mem_cons_self)))))))), xq_eqF rfl rfl (K_.2.2.1 _ (List.mem_cons_of_mem _ (List.mem_cons_of_mem _ (List.mem_cons_of_mem _ (List.mem_cons_of_mem _ (List.mem_cons_of_mem _ (List.mem_cons_of_mem _ (List.mem_cons_of_mem _ (List.mem_cons_of_mem _ List.mem_cons_self))))))))), bpat_of (K_.2.1 _ List.mem_cons_self), fun a_ j_ n0_ => yfr_bp K_.2.2.2 (List.forall_mem_cons.mpr ⟨fun e_ => n0_ ⟨e_.1.symm, e_.2.symm⟩, fun q_ hq => absurd hq List.not_mem_nil⟩), G_⟩)))))))⟩
    rcases List.mem_cons.mp hq with e_ | hq
    · subst e_
      exact ⟨h', yfr_sm K_.2.2.2 hs K_.1 (ywa_r xmvB_w (List.mem_cons_of_mem _ (List.mem_cons_of_mem _ (List.mem_cons_of_mem _ (List.mem_cons_of_mem _ (List.mem_cons_of_mem _ (List.mem_cons_of_mem _ List.mem_cons_self))))))), Or.inr (Or.inr (Or.inr (Or.inr (Or.inr (Or.inr (Or.inr (Or.inl (⟨xq_leF rfl (yv_sub2 rfl rfl) (K_.2.2.1 _ List.mem_cons_self), xq_leT rfl rfl (K_.2.2.1 _ (List.mem_cons_of_mem _ List.mem_cons_self)), xq_ltF rfl rfl (K_.2.2.1 _ (List.mem_cons_of_mem _ (List.mem_cons_of_mem _ List.mem_cons_self))), xq_leT rfl (yv_sub2 rfl rfl) (K_.2.2.1 _ (List.mem_cons_of_mem _ (List.mem_cons_of_mem _ (List.mem_cons_of_mem _ List.mem_cons_self)))), xq_leT rfl rfl (K_.2.2.1 _ (List.mem_cons_of_mem _ (List.mem_cons_of_mem _ (List.mem_cons_of_mem _ (List.mem_cons_of_mem _ List.mem_cons_self))))), xq_ltF rfl rfl (K_.2.2.1 _ (List.mem_cons_of_mem _ (List.mem_cons_of_mem _ (List.mem_cons_of_mem _ (List.mem_cons_of_mem _ (List.mem_cons_of_mem _ List.mem_cons_self)))))), xq_ltF rfl rfl (K_.2.2.1 _ (List.mem_cons_of_mem _ (List.mem_cons_of_mem _ (List.mem_cons_of_mem _ (List.mem_cons_of_mem _ (List.mem_cons_of_mem _ (List.mem_cons_of_mem _ List.mem_cons_self))))))), xq_eqT rfl rfl (K_.2.2.1 _ (List.mem_cons_of_mem _ (List.mem_cons_of_mem _ (List.mem_cons_of_mem _ (List.mem_cons_of_mem _ (List.mem_cons_of_mem _ (List.mem_cons_of_mem _ (List.mem_cons_of_mem _ List.mem_cons_self)))))))), xq_eqF rfl rfl (K_.2.2.1 _ (List.mem_cons_of_mem _ (List.mem_cons_of_mem _ (List.mem_cons_of_mem _ (List.mem_cons_of_mem _ (List.mem_cons_of_mem _ (List.mem_cons_of_mem _ (List.mem_cons_of_mem _ (List.mem_cons_of_mem _ List.mem_cons_self))))))))), xq_eqF rfl rfl (K_.2.2.1 _ (List.mem_cons_of_mem _ (List.mem_cons_of_mem _ (List.mem_cons_of_mem _ (List.mem_cons_of_mem _ (List.mem_cons_of_mem _ (List.mem_cons_of_mem _ (List.mem_cons_of_mem _ (List.mem_cons_of_mem _ (List.mem_cons_of_mem _ List.mem_cons_self)))))))))), bpat_of (K_.2.1 _ List.mem_cons_self), fun a_ j_ n0_ => yfr_bp K_.2.2.2 (List.forall_mem_cons.mpr ⟨fun e_ => n0_ ⟨e_.1.symm, e_.2.symm⟩, fun q_ hq => absurd hq List.not_mem_nil⟩), G_⟩))))))))⟩
    rcases List.mem_cons.mp hq with e_ | hq
    · subst e_
      exact ⟨h', yfr_sm K_.2.2.2 hs K_.1 (ywa_r xmvB_w (List.mem_cons_of_mem _ (List.mem_cons_of_mem _ (List.mem_cons_of_mem _ (List.mem_cons_of_mem _ (List.mem_cons_of_mem _ (List.mem_cons_of_mem _ (List.mem_cons_of_mem _ List.mem_cons_self)))))))), Or.inr (Or.inr (Or.inr (Or.inr (Or.inr (Or.inr (Or.inr (Or.inr (Or.inl (⟨xq_eqF rfl rfl (K_.2.2.1 _ List.mem_cons_self), xq_eqF rfl rfl (K_.2.2.1 _ (List.mem_cons_of_mem _ List.mem_cons_self)), xq_eqF rfl rfl (K_.2.2.1 _ (List.mem_cons_of_mem _ (List.mem_cons_of_mem _ List.mem_cons_self))), bpat_of (K_.2.1 _ List.mem_cons_self), fun a_ j_ n0_ => yfr_bp K_.2.2.2 (List.forall_mem_cons.mpr ⟨fun e_ => n0_ ⟨e_.1.symm, e_.2.symm⟩, fun q_ hq => absurd hq List.not_mem_nil⟩), G_⟩)))))))))⟩
    rcases List.mem_cons.mp hq with e_ | hq
    · subst e_
      exact ⟨h', yfr_sm K_.2.2.2 hs K_.1 (ywa_r xmvB_w (List.mem_cons_of_mem _ (List.mem_cons_of_mem _ (List.mem_cons_of_mem _ (List.mem_cons_of_mem _ (List.mem_cons_of_mem _ (List.mem_cons_of_mem _ (List.mem_cons_of_mem _ (List.mem_cons_of_mem _ List.mem_cons_self))))))))), Or.inr (Or.inr (Or.inr (Or.inr (Or.inr (Or.inr (Or.inr (Or.inr (Or.inr (Or.inl (⟨xq_eqT rfl rfl (K_.2.2.1 _ List.mem_cons_self), xq_eqF rfl rfl (K_.2.2.1 _ (List.mem_cons_of_mem _ List.mem_cons_self)), bpat_of (K_.2.1 _ List.mem_cons_self), fun a_ j_ n0_ => yfr_bp K_.2.2.2 (List.forall_mem_cons.mpr ⟨fun e_ => n0_ ⟨e_.1.symm, e_.2.symm⟩, fun q_ hq => absurd hq List.not_mem_nil⟩), G_⟩))))))))))⟩
    have e_ := List.mem_singleton.mp hq
    subst e_
    exact ⟨h', yfr_sm K_.2.2.2 hs K_.1 (ywa_r xmvB_w (List.mem_cons_of_mem _ (List.mem_cons_of_mem _ (List.mem_cons_of_mem _ (List.mem_cons_of_mem _ (List.mem_cons_of_mem _ (List.mem_cons_of_mem _ (List.mem_cons_of_mem _ (List.mem_cons_of_mem _ (List.mem_cons_of_mem _ List.mem_cons_self)))))))))), Or.inr (Or.inr (Or.inr (Or.inr (Or.inr (Or.inr (Or.inr (Or.inr (Or.inr (Or.inr (⟨xq_eqT rfl rfl (K_.2.2.1 _ List.mem_cons_self), bpat_of (K_.2.1 _ List.mem_cons_self), fun a_ j_ n0_ => yfr_bp K_.2.2.2 (List.forall_mem_cons.mpr ⟨fun e_ => n0_ ⟨e_.1.symm, e_.2.symm⟩, fun q_ hq => absurd hq List.not_mem_nil⟩), G_⟩))))))))))⟩
-- xmvC: 7 steps, 1 ends, 0 returns
def xmvC_L : List (Nat × Nat × Nat) := [(1000, 7, 3), (1001, 7, 3), (1002, 20, 24), (1003, 20, 24)]
def xmvC_O : yO := [(1000, .int 0, .index 1002), (1001, .int 0, .index 1003)]
def xmvC_A : yA := (yZ xmvC_L, [], [], [], [])
def xmvC_C : List xB := []
def xmvC_ss : List yS := [(121, [(7, .index 1001), (6, .index 1000), (0, .index 0), (1, .arg 1), (2, .arg 2), (3, .arg 3), (4, .arg 4), (5, .arg 5)], [.arg 5, .arg 4, .index 1003, .arg 2, .index 1002], [(1000, .int 0, .index 1002), (1001, .int 0, .index 1003)], [], [])]
def xmvC_rs : List yR := []
theorem xmvC_w : ywa xmvC_A xmvC_ss xmvC_rs = true := by decide +kernel
theorem xmvC_k : yis (yev xmvC_A 3000 60 110 [121] (106, [(7, .index 1001), (6, .index 1000), (0, .index 0), (1, .arg 1), (2, .arg 2), (3, .arg 3), (4, .arg 4), (5, .arg 5)], [], xmvC_O, xmvC_C, [])) xmvC_ss xmvC_rs = true := by decide +kernel
def xmvC_r (v1_ v2 v3 v4_ v5 : Int32) (k_ : Nat) : Value := bif Nat.beq k_ 1 then .int v1_ else (bif Nat.beq k_ 2 then .int v2 else (bif Nat.beq k_ 3 then .int v3 else (bif Nat.beq k_ 4 then .int v4_ else (bif Nat.beq k_ 5 then .int v5 else (.int 0)))))
def xmvC_s (a1000 a1001 a1002 a1003 : Nat) (n_ : Nat) : Nat := bif Nat.beq n_ 1000 then a1000 else (bif Nat.beq n_ 1001 then a1001 else (bif Nat.beq n_ 1002 then a1002 else (bif Nat.beq n_ 1003 then a1003 else (0))))
theorem xmvC {h_ : xH} {a1000 a1001 a1002 a1003 : Nat} {v1_ v2 v3 v4_ v5 : Int32} (hs : sHp h_) (k1000 : bcq h_ a1000 7 3) (k1001 : bcq h_ a1001 7 3) (k1002 : bcq h_ a1002 20 24) (k1003 : bcq h_ a1003 20 24) (o0_ : bpat h_ a1000 0 = some (.index a1002)) (o1 : bpat h_ a1001 0 = some (.index a1003)) : ∃ h', ysm h_ h' ∧ (((∀ a_ j_ : Nat, bpat h' a_ j_ = bpat h_ a_ j_) ∧ (bldD 60 110 106 [(7, .index a1001), (6, .index a1000), (0, .index 0), (1, .int v1_), (2, .int v2), (3, .int v3), (4, .int v4_), (5, .int v5)] [] h_ 121 [(7, .index a1001), (6, .index a1000), (0, .index 0), (1, .int v1_), (2, .int v2), (3, .int v3), (4, .int v4_), (5, .int v5)] [.int v5, .int v4_, .index a1003, .int v2, .index a1002] h'))) := by
  have hA : yas xmvC_A (xmvC_r v1_ v2 v3 v4_ v5) (yg (xmvC_s a1000 a1001 a1002 a1003)) := ⟨fun q_ hq => absurd hq List.not_mem_nil, fun q_ hq => absurd hq List.not_mem_nil, fun q_ hq => absurd hq List.not_mem_nil, fun n_ hn => yg_lo hn, fun q_ hq => absurd hq List.not_mem_nil⟩
  have Hs : ysh xmvC_A.1 (yg (xmvC_s a1000 a1001 a1002 a1003)) h_ := ysh_of2 hs (List.forall_mem_cons.mpr ⟨⟨by decide, k1000⟩, List.forall_mem_cons.mpr ⟨⟨by decide, k1001⟩, List.forall_mem_cons.mpr ⟨⟨by decide, k1002⟩, List.forall_mem_cons.mpr ⟨⟨by decide, k1003⟩, fun q_ hq => absurd hq List.not_mem_nil⟩⟩⟩⟩)
  have Ho : ymem (xmvC_r v1_ v2 v3 v4_ v5) (yg (xmvC_s a1000 a1001 a1002 a1003)) xmvC_O h_ := List.forall_mem_cons.mpr ⟨bpat_some o0_, List.forall_mem_cons.mpr ⟨bpat_some o1, fun q_ hq => absurd hq List.not_mem_nil⟩⟩
  have HC : ∀ q_ ∈ xmvC_C, xhold (xmvC_r v1_ v2 v3 v4_ v5) q_ := fun q_ hq => absurd hq List.not_mem_nil
  rcases yrun (yis_ok xmvC_k) hA Hs Ho HC with ⟨q_, hq, h', K_, G_⟩ | ⟨q_, hq, h', K_, G_⟩
  · have e_ := List.mem_singleton.mp hq
    subst e_
    exact ⟨h', yfr_sm K_.2.2.2 hs K_.1 (ywa_s xmvC_w List.mem_cons_self), ⟨fun a_ j_ => yfr_bp K_.2.2.2 (fun q_ hq => absurd hq List.not_mem_nil), G_⟩⟩
  · cases hq
-- xmvD: 2 steps, 0 ends, 1 returns
def xmvD_L : List (Nat × Nat × Nat) := [(1000, 7, 3), (1001, 7, 3)]
def xmvD_O : yO := []
def xmvD_A : yA := (yZ xmvD_L, [], [], [], [])
def xmvD_C : List xB := []
def xmvD_ss : List yS := []
def xmvD_rs : List yR := [(some (.arg 5), [], [], [])]
theorem xmvD_w : ywa xmvD_A xmvD_ss xmvD_rs = true := by decide +kernel
theorem xmvD_k : yis (yev xmvD_A 3000 60 110 [] (124, [(7, .index 1001), (6, .index 1000), (0, .index 0), (1, .arg 1), (2, .arg 2), (3, .arg 3), (4, .arg 4), (5, .arg 5)], [], xmvD_O, xmvD_C, [])) xmvD_ss xmvD_rs = true := by decide +kernel
def xmvD_r (v1_ v2 v3 v4_ v5 : Int32) (k_ : Nat) : Value := bif Nat.beq k_ 1 then .int v1_ else (bif Nat.beq k_ 2 then .int v2 else (bif Nat.beq k_ 3 then .int v3 else (bif Nat.beq k_ 4 then .int v4_ else (bif Nat.beq k_ 5 then .int v5 else (.int 0)))))
def xmvD_s (a1000 a1001 : Nat) (n_ : Nat) : Nat := bif Nat.beq n_ 1000 then a1000 else (bif Nat.beq n_ 1001 then a1001 else (0))
theorem xmvD {h_ : xH} {a1000 a1001 : Nat} {v1_ v2 v3 v4_ v5 : Int32} (hs : sHp h_) (k1000 : bcq h_ a1000 7 3) (k1001 : bcq h_ a1001 7 3) : ∃ h', ysm h_ h' ∧ (((∀ a_ j_ : Nat, bpat h' a_ j_ = bpat h_ a_ j_) ∧ (∀ D_, 60 ≤ D_ → xrun D_ 110 124 [(7, .index a1001), (6, .index a1000), (0, .index 0), (1, .int v1_), (2, .int v2), (3, .int v3), (4, .int v4_), (5, .int v5)] [] h_ (some (.int v5), h', [])))) := by
  have hA : yas xmvD_A (xmvD_r v1_ v2 v3 v4_ v5) (yg (xmvD_s a1000 a1001)) := ⟨fun q_ hq => absurd hq List.not_mem_nil, fun q_ hq => absurd hq List.not_mem_nil, fun q_ hq => absurd hq List.not_mem_nil, fun n_ hn => yg_lo hn, fun q_ hq => absurd hq List.not_mem_nil⟩
  have Hs : ysh xmvD_A.1 (yg (xmvD_s a1000 a1001)) h_ := ysh_of2 hs (List.forall_mem_cons.mpr ⟨⟨by decide, k1000⟩, List.forall_mem_cons.mpr ⟨⟨by decide, k1001⟩, fun q_ hq => absurd hq List.not_mem_nil⟩⟩)
  have Ho : ymem (xmvD_r v1_ v2 v3 v4_ v5) (yg (xmvD_s a1000 a1001)) xmvD_O h_ := fun q_ hq => absurd hq List.not_mem_nil
  have HC : ∀ q_ ∈ xmvD_C, xhold (xmvD_r v1_ v2 v3 v4_ v5) q_ := fun q_ hq => absurd hq List.not_mem_nil
  rcases yrun (yis_ok xmvD_k) hA Hs Ho HC with ⟨q_, hq, h', K_, G_⟩ | ⟨q_, hq, h', K_, G_⟩
  · cases hq
  · have e_ := List.mem_singleton.mp hq
    subst e_
    exact ⟨h', yfr_sm K_.2.2.2 hs K_.1 (ywa_r xmvD_w List.mem_cons_self), ⟨fun a_ j_ => yfr_bp K_.2.2.2 (fun q_ hq => absurd hq List.not_mem_nil), G_⟩⟩
-- mmvA: 114 steps, 1 ends, 4 returns
def mmvA_L : List (Nat × Nat × Nat) := []
def mmvA_O : yO := [(338, .int 3, .index 341), (341, .int 1, .arg 400)]
def mmvA_A : yA := (yZ mmvA_L, [], [], [], [])
def mmvA_C : List xB := []
def mmvA_ss : List yS := [(20, [(0, .index 338), (1, .arg 1), (2, .arg 2), (3, .arg 3), (4, .arg 4), (5, .arg 5)], [], [(338, .int 3, .index 341), (341, .int 1, .arg 400)], [(.le, .arg 3, .int 3, true), (.lt, .arg 3, .int 0, false), (.le, .arg 1, .int 3, true), (.lt, .arg 1, .int 0, false)], [])]
def mmvA_rs : List yR := [(some (.int (Int32.ofInt (-1000001))), [(341, .int 1, .add (.arg 400) (.int 1)), (338, .int 3, .index 341)], [(.lt, .arg 1, .int 0, true)], [(341, .int 1)]),
  (some (.int (Int32.ofInt (-1000001))), [(341, .int 1, .add (.arg 400) (.int 1)), (338, .int 3, .index 341)], [(.le, .arg 1, .int 3, false), (.lt, .arg 1, .int 0, false)], [(341, .int 1)]),
  (some (.int (Int32.ofInt (-1000001))), [(341, .int 1, .add (.arg 400) (.int 1)), (338, .int 3, .index 341)], [(.lt, .arg 3, .int 0, true), (.le, .arg 1, .int 3, true), (.lt, .arg 1, .int 0, false)], [(341, .int 1)]),
  (some (.int (Int32.ofInt (-1000001))), [(341, .int 1, .add (.arg 400) (.int 1)), (338, .int 3, .index 341)], [(.le, .arg 3, .int 3, false), (.lt, .arg 3, .int 0, false), (.le, .arg 1, .int 3, true), (.lt, .arg 1, .int 0, false)], [(341, .int 1)])]
theorem mmvA_w : ywa mmvA_A mmvA_ss mmvA_rs = true := by decide +kernel
theorem mmvA_k : yis (yev mmvA_A 3000 60 230 [20] (0, [(0, .index 338), (1, .arg 1), (2, .arg 2), (3, .arg 3), (4, .arg 4), (5, .arg 5)], [], mmvA_O, mmvA_C, [])) mmvA_ss mmvA_rs = true := by decide +kernel
def mmvA_r (v1_ v2 v3 v4_ v5 v400 : Int32) (k_ : Nat) : Value := bif Nat.beq k_ 1 then .int v1_ else (bif Nat.beq k_ 2 then .int v2 else (bif Nat.beq k_ 3 then .int v3 else (bif Nat.beq k_ 4 then .int v4_ else (bif Nat.beq k_ 5 then .int v5 else (bif Nat.beq k_ 400 then .int v400 else (.int 0))))))
def mmvA_s (n_ : Nat) : Nat := 0
theorem mmvA {h_ : xH} {v1_ v2 v3 v4_ v5 v400 : Int32} (hs : sHp h_) (o0_ : bpat h_ 341 1 = some (.int v400)) : ∃ h', ysm h_ h' ∧ (((v3.toInt ≤ (3 : Int32).toInt) ∧ ((0 : Int32).toInt ≤ v3.toInt) ∧ (v1_.toInt ≤ (3 : Int32).toInt) ∧ ((0 : Int32).toInt ≤ v1_.toInt) ∧ (∀ a_ j_ : Nat, bpat h' a_ j_ = bpat h_ a_ j_) ∧ (bldD 60 230 0 [(0, .index 338), (1, .int v1_), (2, .int v2), (3, .int v3), (4, .int v4_), (5, .int v5)] [] h_ 20 [(0, .index 338), (1, .int v1_), (2, .int v2), (3, .int v3), (4, .int v4_), (5, .int v5)] [] h'))
  ∨ ((v1_.toInt < (0 : Int32).toInt) ∧ (bpat h' 341 1 = some (.int (v400 + (1 : Int32)))) ∧ (∀ a_ j_ : Nat, ¬ (a_ = 341 ∧ j_ = 1) → bpat h' a_ j_ = bpat h_ a_ j_) ∧ (∀ D_, 60 ≤ D_ → xrun D_ 230 0 [(0, .index 338), (1, .int v1_), (2, .int v2), (3, .int v3), (4, .int v4_), (5, .int v5)] [] h_ (some (.int (Int32.ofInt (-1000001))), h', [])))
  ∨ (((3 : Int32).toInt < v1_.toInt) ∧ ((0 : Int32).toInt ≤ v1_.toInt) ∧ (bpat h' 341 1 = some (.int (v400 + (1 : Int32)))) ∧ (∀ a_ j_ : Nat, ¬ (a_ = 341 ∧ j_ = 1) → bpat h' a_ j_ = bpat h_ a_ j_) ∧ (∀ D_, 60 ≤ D_ → xrun D_ 230 0 [(0, .index 338), (1, .int v1_), (2, .int v2), (3, .int v3), (4, .int v4_), (5, .int v5)] [] h_ (some (.int (Int32.ofInt (-1000001))), h', [])))
  ∨ ((v3.toInt < (0 : Int32).toInt) ∧ (v1_.toInt ≤ (3 : Int32).toInt) ∧ ((0 : Int32).toInt ≤ v1_.toInt) ∧ (bpat h' 341 1 = some (.int (v400 + (1 : Int32)))) ∧ (∀ a_ j_ : Nat, ¬ (a_ = 341 ∧ j_ = 1) → bpat h' a_ j_ = bpat h_ a_ j_) ∧ (∀ D_, 60 ≤ D_ → xrun D_ 230 0 [(0, .index 338), (1, .int v1_), (2, .int v2), (3, .int v3), (4, .int v4_), (5, .int v5)] [] h_ (some (.int (Int32.ofInt (-1000001))), h', [])))
  ∨ (((3 : Int32).toInt < v3.toInt) ∧ ((0 : Int32).toInt ≤ v3.toInt) ∧ (v1_.toInt ≤ (3 : Int32).toInt) ∧ ((0 : Int32).toInt ≤ v1_.toInt) ∧ (bpat h' 341 1 = some (.int (v400 + (1 : Int32)))) ∧ (∀ a_ j_ : Nat, ¬ (a_ = 341 ∧ j_ = 1) → bpat h' a_ j_ = bpat h_ a_ j_) ∧ (∀ D_, 60 ≤ D_ → xrun D_ 230 0 [(0, .index 338), (1, .int v1_), (2, .int v2), (3, .int v3), (4, .int v4_), (5, .int v5)] [] h_ (some (.int (Int32.ofInt (-1000001))), h', [])))) := by
  have hA : yas mmvA_A (mmvA_r v1_ v2 v3 v4_ v5 v400) (yg mmvA_s) := ⟨fun q_ hq => absurd hq List.not_mem_nil, fun q_ hq => absurd hq List.not_mem_nil, fun q_ hq => absurd hq List.not_mem_nil, fun n_ hn => yg_lo hn, fun q_ hq => absurd hq List.not_mem_nil⟩
  have Hs : ysh mmvA_A.1 (yg mmvA_s) h_ := ysh_of2 hs (fun q_ hq => absurd hq List.not_mem_nil)
  have Ho : ymem (mmvA_r v1_ v2 v3 v4_ v5 v400) (yg mmvA_s) mmvA_O h_ := List.forall_mem_cons.mpr ⟨bpat_some (fxr_at hs.2 (show fxk fxl 338 3 = some 341 by decide +kernel)), List.forall_mem_cons.mpr ⟨bpat_some o0_, fun q_ hq => absurd hq List.not_mem_nil⟩⟩
  have HC : ∀ q_ ∈ mmvA_C, xhold (mmvA_r v1_ v2 v3 v4_ v5 v400) q_ := fun q_ hq => absurd hq List.not_mem_nil
  rcases yrun (yis_ok mmvA_k) hA Hs Ho HC with ⟨q_, hq, h', K_, G_⟩ | ⟨q_, hq, h', K_, G_⟩
  · have e_ := List.mem_singleton.mp hq
    subst e_
    exact ⟨h', yfr_sm K_.2.2.2 hs K_.1 (ywa_s mmvA_w List.mem_cons_self), Or.inl (⟨xq_leT rfl rfl (K_.2.2.1 _ List.mem_cons_self), xq_ltF rfl rfl (K_.2.2.1 _ (List.mem_cons_of_mem _ List.mem_cons_self)), xq_leT rfl rfl (K_.2.2.1 _ (List.mem_cons_of_mem _ (List.mem_cons_of_mem _ List.mem_cons_self))), xq_ltF rfl rfl (K_.2.2.1 _ (List.mem_cons_of_mem _ (List.mem_cons_of_mem _ (List.mem_cons_of_mem _ List.mem_cons_self)))), fun a_ j_ => yfr_bp K_.2.2.2 (fun q_ hq => absurd hq List.not_mem_nil), G_⟩)⟩
  · rcases List.mem_cons.mp hq with e_ | hq
    · subst e_
      exact ⟨h', yfr_sm K_.2.2.2 hs K_.1 (ywa_r mmvA_w List.mem_cons_self), Or.inr (Or.inl (⟨xq_ltT rfl rfl (K_.2.2.1 _ List.mem_cons_self), bpat_of (K_.2.1 _ List.mem_cons_self), fun a_ j_ n0_ => yfr_bp K_.2.2.2 (List.forall_mem_cons.mpr ⟨fun e_ => n0_ ⟨e_.1.symm, e_.2.symm⟩, fun q_ hq => absurd hq List.not_mem_nil⟩), G_⟩))⟩
    rcases List.mem_cons.mp hq with e_ | hq
    · subst e_
      exact ⟨h', yfr_sm K_.2.2.2 hs K_.1 (ywa_r mmvA_w (List.mem_cons_of_mem _ List.mem_cons_self)), Or.inr (Or.inr (Or.inl (⟨xq_leF rfl rfl (K_.2.2.1 _ List.mem_cons_self), xq_ltF rfl rfl (K_.2.2.1 _ (List.mem_cons_of_mem _ List.mem_cons_self)), bpat_of (K_.2.1 _ List.mem_cons_self), fun a_ j_ n0_ => yfr_bp K_.2.2.2 (List.forall_mem_cons.mpr ⟨fun e_ => n0_ ⟨e_.1.symm, e_.2.symm⟩, fun q_ hq => absurd hq List.not_mem_nil⟩), G_⟩)))⟩
    rcases List.mem_cons.mp hq with e_ | hq
    · subst e_
      exact ⟨h', yfr_sm K_.2.2.2 hs K_.1 (ywa_r mmvA_w (List.mem_cons_of_mem _ (List.mem_cons_of_mem _ List.mem_cons_self))), Or.inr (Or.inr (Or.inr (Or.inl (⟨xq_ltT rfl rfl (K_.2.2.1 _ List.mem_cons_self), xq_leT rfl rfl (K_.2.2.1 _ (List.mem_cons_of_mem _ List.mem_cons_self)), xq_ltF rfl rfl (K_.2.2.1 _ (List.mem_cons_of_mem _ (List.mem_cons_of_mem _ List.mem_cons_self))), bpat_of (K_.2.1 _ List.mem_cons_self), fun a_ j_ n0_ => yfr_bp K_.2.2.2 (List.forall_mem_cons.mpr ⟨fun e_ => n0_ ⟨e_.1.symm, e_.2.symm⟩, fun q_ hq => absurd hq List.not_mem_nil⟩), G_⟩))))⟩
    have e_ := List.mem_singleton.mp hq
    subst e_
    exact ⟨h', yfr_sm K_.2.2.2 hs K_.1 (ywa_r mmvA_w (List.mem_cons_of_mem _ (List.mem_cons_of_mem _ (List.mem_cons_of_mem _ List.mem_cons_self)))), Or.inr (Or.inr (Or.inr (Or.inr (⟨xq_leF rfl rfl (K_.2.2.1 _ List.mem_cons_self), xq_ltF rfl rfl (K_.2.2.1 _ (List.mem_cons_of_mem _ List.mem_cons_self)), xq_leT rfl rfl (K_.2.2.1 _ (List.mem_cons_of_mem _ (List.mem_cons_of_mem _ List.mem_cons_self))), xq_ltF rfl rfl (K_.2.2.1 _ (List.mem_cons_of_mem _ (List.mem_cons_of_mem _ (List.mem_cons_of_mem _ List.mem_cons_self)))), bpat_of (K_.2.1 _ List.mem_cons_self), fun a_ j_ n0_ => yfr_bp K_.2.2.2 (List.forall_mem_cons.mpr ⟨fun e_ => n0_ ⟨e_.1.symm, e_.2.symm⟩, fun q_ hq => absurd hq List.not_mem_nil⟩), G_⟩))))⟩
-- mmvB: 171 steps, 1 ends, 8 returns
def mmvB_L : List (Nat × Nat × Nat) := []
def mmvB_O : yO := [(338, .int 22, .index 350), (350, .arg 1, .arg 320), (338, .int 3, .index 341), (341, .int 2, .arg 400), (350, .arg 3, .arg 321), (341, .int 1, .arg 401), (338, .int 23, .index 351), (351, .arg 1, .arg 322), (351, .arg 3, .arg 323), (341, .int 5, .arg 402)]
def mmvB_A : yA := (yZ mmvB_L, [(.arg 1, 4), (.arg 3, 4)], [], [], [])
def mmvB_C : List xB := []
def mmvB_ss : List yS := [(115, [(6, .int 0), (0, .index 338), (1, .arg 1), (2, .arg 2), (3, .arg 3), (4, .arg 4), (5, .arg 5)], [], [(338, .int 22, .index 350), (350, .arg 1, .arg 320), (338, .int 3, .index 341), (341, .int 2, .arg 400), (350, .arg 3, .arg 321), (341, .int 1, .arg 401), (338, .int 23, .index 351), (351, .arg 1, .arg 322), (351, .arg 3, .arg 323), (341, .int 5, .arg 402)], [(.le, .arg 4, .sub (.arg 323) (.arg 5), true), (.le, .arg 2, .sub (.arg 322) (.arg 5), true), (.lt, .arg 4, .int 0, false), (.lt, .arg 2, .int 0, false), (.lt, .arg 5, .int 0, false), (.eq, .arg 320, .arg 321, true), (.eq, .arg 321, .int 0, false), (.eq, .arg 320, .int 0, false)], [])]
def mmvB_rs : List yR := [(some (.int (Int32.ofInt (-1000002))), [(341, .int 2, .add (.arg 400) (.int 1)), (338, .int 22, .index 350), (350, .arg 1, .arg 320), (338, .int 3, .index 341), (350, .arg 3, .arg 321), (341, .int 1, .arg 401), (338, .int 23, .index 351), (351, .arg 1, .arg 322), (351, .arg 3, .arg 323), (341, .int 5, .arg 402)], [(.eq, .arg 320, .int 0, true)], [(341, .int 2)]),
  (some (.int (Int32.ofInt (-1000001))), [(341, .int 1, .add (.arg 401) (.int 1)), (338, .int 22, .index 350), (350, .arg 1, .arg 320), (338, .int 3, .index 341), (341, .int 2, .arg 400), (350, .arg 3, .arg 321), (338, .int 23, .index 351), (351, .arg 1, .arg 322), (351, .arg 3, .arg 323), (341, .int 5, .arg 402)], [(.lt, .arg 5, .int 0, true), (.eq, .arg 320, .arg 321, true), (.eq, .arg 321, .int 0, false), (.eq, .arg 320, .int 0, false)], [(341, .int 1)]),
  (some (.int (Int32.ofInt (-1000001))), [(341, .int 1, .add (.arg 401) (.int 1)), (338, .int 22, .index 350), (350, .arg 1, .arg 320), (338, .int 3, .index 341), (341, .int 2, .arg 400), (350, .arg 3, .arg 321), (338, .int 23, .index 351), (351, .arg 1, .arg 322), (351, .arg 3, .arg 323), (341, .int 5, .arg 402)], [(.lt, .arg 2, .int 0, true), (.lt, .arg 5, .int 0, false), (.eq, .arg 320, .arg 321, true), (.eq, .arg 321, .int 0, false), (.eq, .arg 320, .int 0, false)], [(341, .int 1)]),
  (some (.int (Int32.ofInt (-1000001))), [(341, .int 1, .add (.arg 401) (.int 1)), (338, .int 22, .index 350), (350, .arg 1, .arg 320), (338, .int 3, .index 341), (341, .int 2, .arg 400), (350, .arg 3, .arg 321), (338, .int 23, .index 351), (351, .arg 1, .arg 322), (351, .arg 3, .arg 323), (341, .int 5, .arg 402)], [(.lt, .arg 4, .int 0, true), (.lt, .arg 2, .int 0, false), (.lt, .arg 5, .int 0, false), (.eq, .arg 320, .arg 321, true), (.eq, .arg 321, .int 0, false), (.eq, .arg 320, .int 0, false)], [(341, .int 1)]),
  (some (.int (Int32.ofInt (-1000001))), [(341, .int 1, .add (.arg 401) (.int 1)), (338, .int 22, .index 350), (350, .arg 1, .arg 320), (338, .int 3, .index 341), (341, .int 2, .arg 400), (350, .arg 3, .arg 321), (338, .int 23, .index 351), (351, .arg 1, .arg 322), (351, .arg 3, .arg 323), (341, .int 5, .arg 402)], [(.le, .arg 2, .sub (.arg 322) (.arg 5), false), (.lt, .arg 4, .int 0, false), (.lt, .arg 2, .int 0, false), (.lt, .arg 5, .int 0, false), (.eq, .arg 320, .arg 321, true), (.eq, .arg 321, .int 0, false), (.eq, .arg 320, .int 0, false)], [(341, .int 1)]),
  (some (.int (Int32.ofInt (-1000001))), [(341, .int 1, .add (.arg 401) (.int 1)), (338, .int 22, .index 350), (350, .arg 1, .arg 320), (338, .int 3, .index 341), (341, .int 2, .arg 400), (350, .arg 3, .arg 321), (338, .int 23, .index 351), (351, .arg 1, .arg 322), (351, .arg 3, .arg 323), (341, .int 5, .arg 402)], [(.le, .arg 4, .sub (.arg 323) (.arg 5), false), (.le, .arg 2, .sub (.arg 322) (.arg 5), true), (.lt, .arg 4, .int 0, false), (.lt, .arg 2, .int 0, false), (.lt, .arg 5, .int 0, false), (.eq, .arg 320, .arg 321, true), (.eq, .arg 321, .int 0, false), (.eq, .arg 320, .int 0, false)], [(341, .int 1)]),
  (some (.int (Int32.ofInt (-1000005))), [(341, .int 5, .add (.arg 402) (.int 1)), (338, .int 22, .index 350), (350, .arg 1, .arg 320), (338, .int 3, .index 341), (341, .int 2, .arg 400), (350, .arg 3, .arg 321), (341, .int 1, .arg 401), (338, .int 23, .index 351), (351, .arg 1, .arg 322), (351, .arg 3, .arg 323)], [(.eq, .arg 320, .arg 321, false), (.eq, .arg 321, .int 0, false), (.eq, .arg 320, .int 0, false)], [(341, .int 5)]),
  (some (.int (Int32.ofInt (-1000002))), [(341, .int 2, .add (.arg 400) (.int 1)), (338, .int 22, .index 350), (350, .arg 1, .arg 320), (338, .int 3, .index 341), (350, .arg 3, .arg 321), (341, .int 1, .arg 401), (338, .int 23, .index 351), (351, .arg 1, .arg 322), (351, .arg 3, .arg 323), (341, .int 5, .arg 402)], [(.eq, .arg 321, .int 0, true), (.eq, .arg 320, .int 0, false)], [(341, .int 2)])]
theorem mmvB_w : ywa mmvB_A mmvB_ss mmvB_rs = true := by decide +kernel
theorem mmvB_k : yis (yev mmvB_A 3000 60 230 [115] (20, [(0, .index 338), (1, .arg 1), (2, .arg 2), (3, .arg 3), (4, .arg 4), (5, .arg 5)], [], mmvB_O, mmvB_C, [])) mmvB_ss mmvB_rs = true := by decide +kernel
def mmvB_r (v1_ v2 v3 v4_ v5 v320 v321 v322 v323 v400 v401 v402 : Int32) (k_ : Nat) : Value := bif Nat.beq k_ 1 then .int v1_ else (bif Nat.beq k_ 2 then .int v2 else (bif Nat.beq k_ 3 then .int v3 else (bif Nat.beq k_ 4 then .int v4_ else (bif Nat.beq k_ 5 then .int v5 else (bif Nat.beq k_ 320 then .int v320 else (bif Nat.beq k_ 321 then .int v321 else (bif Nat.beq k_ 322 then .int v322 else (bif Nat.beq k_ 323 then .int v323 else (bif Nat.beq k_ 400 then .int v400 else (bif Nat.beq k_ 401 then .int v401 else (bif Nat.beq k_ 402 then .int v402 else (.int 0))))))))))))
def mmvB_s (n_ : Nat) : Nat := 0
theorem mmvB {h_ : xH} {v1_ v2 v3 v4_ v5 v320 v321 v322 v323 v400 v401 v402 : Int32} (hs : sHp h_) (o0_ : bpat h_ 350 (v1_).toInt.toNat = some (.int v320)) (o1 : bpat h_ 341 2 = some (.int v400)) (o2 : bpat h_ 350 (v3).toInt.toNat = some (.int v321)) (o3_ : bpat h_ 341 1 = some (.int v401)) (o4_ : bpat h_ 351 (v1_).toInt.toNat = some (.int v322)) (o5_ : bpat h_ 351 (v3).toInt.toNat = some (.int v323)) (o6 : bpat h_ 341 5 = some (.int v402)) (b0 : 0 ≤ (v1_).toInt ∧ (v1_).toInt < 4) (b1 : 0 ≤ (v3).toInt ∧ (v3).toInt < 4) : ∃ h', ysm h_ h' ∧ (((v4_.toInt ≤ (v323 - v5).toInt) ∧ (v2.toInt ≤ (v322 - v5).toInt) ∧ ((0 : Int32).toInt ≤ v4_.toInt) ∧ ((0 : Int32).toInt ≤ v2.toInt) ∧ ((0 : Int32).toInt ≤ v5.toInt) ∧ (v320 = v321) ∧ (¬ v321 = (0 : Int32)) ∧ (¬ v320 = (0 : Int32)) ∧ (∀ a_ j_ : Nat, bpat h' a_ j_ = bpat h_ a_ j_) ∧ (bldD 60 230 20 [(0, .index 338), (1, .int v1_), (2, .int v2), (3, .int v3), (4, .int v4_), (5, .int v5)] [] h_ 115 [(6, .int (0 : Int32)), (0, .index 338), (1, .int v1_), (2, .int v2), (3, .int v3), (4, .int v4_), (5, .int v5)] [] h'))
  ∨ ((v320 = (0 : Int32)) ∧ (bpat h' 341 2 = some (.int (v400 + (1 : Int32)))) ∧ (∀ a_ j_ : Nat, ¬ (a_ = 341 ∧ j_ = 2) → bpat h' a_ j_ = bpat h_ a_ j_) ∧ (∀ D_, 60 ≤ D_ → xrun D_ 230 20 [(0, .index 338), (1, .int v1_), (2, .int v2), (3, .int v3), (4, .int v4_), (5, .int v5)] [] h_ (some (.int (Int32.ofInt (-1000002))), h', [])))
  ∨ ((v5.toInt < (0 : Int32).toInt) ∧ (v320 = v321) ∧ (¬ v321 = (0 : Int32)) ∧ (¬ v320 = (0 : Int32)) ∧ (bpat h' 341 1 = some (.int (v401 + (1 : Int32)))) ∧ (∀ a_ j_ : Nat, ¬ (a_ = 341 ∧ j_ = 1) → bpat h' a_ j_ = bpat h_ a_ j_) ∧ (∀ D_, 60 ≤ D_ → xrun D_ 230 20 [(0, .index 338), (1, .int v1_), (2, .int v2), (3, .int v3), (4, .int v4_), (5, .int v5)] [] h_ (some (.int (Int32.ofInt (-1000001))), h', [])))
  ∨ ((v2.toInt < (0 : Int32).toInt) ∧ ((0 : Int32).toInt ≤ v5.toInt) ∧ (v320 = v321) ∧ (¬ v321 = (0 : Int32)) ∧ (¬ v320 = (0 : Int32)) ∧ (bpat h' 341 1 = some (.int (v401 + (1 : Int32)))) ∧ (∀ a_ j_ : Nat, ¬ (a_ = 341 ∧ j_ = 1) → bpat h' a_ j_ = bpat h_ a_ j_) ∧ (∀ D_, 60 ≤ D_ → xrun D_ 230 20 [(0, .index 338), (1, .int v1_), (2, .int v2), (3, .int v3), (4, .int v4_), (5, .int v5)] [] h_ (some (.int (Int32.ofInt (-1000001))), h', [])))
  ∨ ((v4_.toInt < (0 : Int32).toInt) ∧ ((0 : Int32).toInt ≤ v2.toInt) ∧ ((0 : Int32).toInt ≤ v5.toInt) ∧ (v320 = v321) ∧ (¬ v321 = (0 : Int32)) ∧ (¬ v320 = (0 : Int32)) ∧ (bpat h' 341 1 = some (.int (v401 + (1 : Int32)))) ∧ (∀ a_ j_ : Nat, ¬ (a_ = 341 ∧ j_ = 1) → bpat h' a_ j_ = bpat h_ a_ j_) ∧ (∀ D_, 60 ≤ D_ → xrun D_ 230 20 [(0, .index 338), (1, .int v1_), (2, .int v2), (3, .int v3), (4, .int v4_), (5, .int v5)] [] h_ (some (.int (Int32.ofInt (-1000001))), h', [])))
  ∨ (((v322 - v5).toInt < v2.toInt) ∧ ((0 : Int32).toInt ≤ v4_.toInt) ∧ ((0 : Int32).toInt ≤ v2.toInt) ∧ ((0 : Int32).toInt ≤ v5.toInt) ∧ (v320 = v321) ∧ (¬ v321 = (0 : Int32)) ∧ (¬ v320 = (0 : Int32)) ∧ (bpat h' 341 1 = some (.int (v401 + (1 : Int32)))) ∧ (∀ a_ j_ : Nat, ¬ (a_ = 341 ∧ j_ = 1) → bpat h' a_ j_ = bpat h_ a_ j_) ∧ (∀ D_, 60 ≤ D_ → xrun D_ 230 20 [(0, .index 338), (1, .int v1_), (2, .int v2), (3, .int v3), (4, .int v4_), (5, .int v5)] [] h_ (some (.int (Int32.ofInt (-1000001))), h', [])))
  ∨ (((v323 - v5).toInt < v4_.toInt) ∧ (v2.toInt ≤ (v322 - v5).toInt) ∧ ((0 : Int32).toInt ≤ v4_.toInt) ∧ ((0 : Int32).toInt ≤ v2.toInt) ∧ ((0 : Int32).toInt ≤ v5.toInt) ∧ (v320 = v321) ∧ (¬ v321 = (0 : Int32)) ∧ (¬ v320 = (0 : Int32)) ∧ (bpat h' 341 1 = some (.int (v401 + (1 : Int32)))) ∧ (∀ a_ j_ : Nat, ¬ (a_ = 341 ∧ j_ = 1) → bpat h' a_ j_ = bpat h_ a_ j_) ∧ (∀ D_, 60 ≤ D_ → xrun D_ 230 20 [(0, .index 338), (1, .int v1_), (2, .int v2), (3, .int v3), (4, .int v4_), (5, .int v5)] [] h_ (some (.int (Int32.ofInt (-1000001))), h', [])))
  ∨ ((¬ v320 = v321) ∧ (¬ v321 = (0 : Int32)) ∧ (¬ v320 = (0 : Int32)) ∧ (bpat h' 341 5 = some (.int (v402 + (1 : Int32)))) ∧ (∀ a_ j_ : Nat, ¬ (a_ = 341 ∧ j_ = 5) → bpat h' a_ j_ = bpat h_ a_ j_) ∧ (∀ D_, 60 ≤ D_ → xrun D_ 230 20 [(0, .index 338), (1, .int v1_), (2, .int v2), (3, .int v3), (4, .int v4_), (5, .int v5)] [] h_ (some (.int (Int32.ofInt (-1000005))), h', [])))
  ∨ ((v321 = (0 : Int32)) ∧ (¬ v320 = (0 : Int32)) ∧ (bpat h' 341 2 = some (.int (v400 + (1 : Int32)))) ∧ (∀ a_ j_ : Nat, ¬ (a_ = 341 ∧ j_ = 2) → bpat h' a_ j_ = bpat h_ a_ j_) ∧ (∀ D_, 60 ≤ D_ → xrun D_ 230 20 [(0, .index 338), (1, .int v1_), (2, .int v2), (3, .int v3), (4, .int v4_), (5, .int v5)] [] h_ (some (.int (Int32.ofInt (-1000002))), h', [])))) := by
  have hA : yas mmvB_A (mmvB_r v1_ v2 v3 v4_ v5 v320 v321 v322 v323 v400 v401 v402) (yg mmvB_s) := ⟨List.forall_mem_cons.mpr ⟨b0, List.forall_mem_cons.mpr ⟨b1, fun q_ hq => absurd hq List.not_mem_nil⟩⟩, fun q_ hq => absurd hq List.not_mem_nil, fun q_ hq => absurd hq List.not_mem_nil, fun n_ hn => yg_lo hn, fun q_ hq => absurd hq List.not_mem_nil⟩
  have Hs : ysh mmvB_A.1 (yg mmvB_s) h_ := ysh_of2 hs (fun q_ hq => absurd hq List.not_mem_nil)
  have Ho : ymem (mmvB_r v1_ v2 v3 v4_ v5 v320 v321 v322 v323 v400 v401 v402) (yg mmvB_s) mmvB_O h_ := List.forall_mem_cons.mpr ⟨bpat_some (fxr_at hs.2 (show fxk fxl 338 22 = some 350 by decide +kernel)), List.forall_mem_cons.mpr ⟨bpat_some o0_, List.forall_mem_cons.mpr ⟨bpat_some (fxr_at hs.2 (show fxk fxl 338 3 = some 341 by decide +kernel)), List.forall_mem_cons.mpr ⟨bpat_some o1, List.forall_mem_cons.mpr ⟨bpat_some o2, List.forall_mem_cons.mpr ⟨bpat_some o3_, List.forall_mem_cons.mpr ⟨bpat_some (fxr_at hs.2 (show fxk fxl 338 23 = some 351 by decide +kernel)), List.forall_mem_cons.mpr ⟨bpat_some o4_, List.forall_mem_cons.mpr ⟨bpat_some o5_, List.forall_mem_cons.mpr ⟨bpat_some o6, fun q_ hq => absurd hq List.not_mem_nil⟩⟩⟩⟩⟩⟩⟩⟩⟩⟩
  have HC : ∀ q_ ∈ mmvB_C, xhold (mmvB_r v1_ v2 v3 v4_ v5 v320 v321 v322 v323 v400 v401 v402) q_ := fun q_ hq => absurd hq List.not_mem_nil
  rcases yrun (yis_ok mmvB_k) hA Hs Ho HC with ⟨q_, hq, h', K_, G_⟩ | ⟨q_, hq, h', K_, G_⟩
  · have e_ := List.mem_singleton.mp hq
    subst e_
    exact ⟨h', yfr_sm K_.2.2.2 hs K_.1 (ywa_s mmvB_w List.mem_cons_self), Or.inl (⟨xq_leT rfl (yv_sub2 rfl rfl) (K_.2.2.1 _ List.mem_cons_self), xq_leT rfl (yv_sub2 rfl rfl) (K_.2.2.1 _ (List.mem_cons_of_mem _ List.mem_cons_self)), xq_ltF rfl rfl (K_.2.2.1 _ (List.mem_cons_of_mem _ (List.mem_cons_of_mem _ List.mem_cons_self))), xq_ltF rfl rfl (K_.2.2.1 _ (List.mem_cons_of_mem _ (List.mem_cons_of_mem _ (List.mem_cons_of_mem _ List.mem_cons_self)))), xq_ltF rfl rfl (K_.2.2.1 _ (List.mem_cons_of_mem _ (List.mem_cons_of_mem _ (List.mem_cons_of_mem _ (List.mem_cons_of_mem _ List.mem_cons_self))))), xq_eqT rfl rfl (K_.2.2.1 _ (List.mem_cons_of_mem _ (List.mem_cons_of_mem _ (List.mem_cons_of_mem _ (List.mem_cons_of_mem _ (List.mem_cons_of_mem _ List.mem_cons_self)))))), xq_eqF rfl rfl (K_.2.2.1 _ (List.mem_cons_of_mem _ (List.mem_cons_of_mem _ (List.mem_cons_of_mem _ (List.mem_cons_of_mem _ (List.mem_cons_of_mem _ (List.mem_cons_of_mem _ List.mem_cons_self))))))), xq_eqF rfl rfl (K_.2.2.1 _ (List.mem_cons_of_mem _ (List.mem_cons_of_mem _ (List.mem_cons_of_mem _ (List.mem_cons_of_mem _ (List.mem_cons_of_mem _ (List.mem_cons_of_mem _ (List.mem_cons_of_mem _ List.mem_cons_self)))))))), fun a_ j_ => yfr_bp K_.2.2.2 (fun q_ hq => absurd hq List.not_mem_nil), G_⟩)⟩
  · rcases List.mem_cons.mp hq with e_ | hq
    · subst e_
      exact ⟨h', yfr_sm K_.2.2.2 hs K_.1 (ywa_r mmvB_w List.mem_cons_self), Or.inr (Or.inl (⟨xq_eqT rfl rfl (K_.2.2.1 _ List.mem_cons_self), bpat_of (K_.2.1 _ List.mem_cons_self), fun a_ j_ n0_ => yfr_bp K_.2.2.2 (List.forall_mem_cons.mpr ⟨fun e_ => n0_ ⟨e_.1.symm, e_.2.symm⟩, fun q_ hq => absurd hq List.not_mem_nil⟩), G_⟩))⟩
    rcases List.mem_cons.mp hq with e_ | hq
    · subst e_
      exact ⟨h', yfr_sm K_.2.2.2 hs K_.1 (ywa_r mmvB_w (List.mem_cons_of_mem _ List.mem_cons_self)), Or.inr (Or.inr (Or.inl (⟨xq_ltT rfl rfl (K_.2.2.1 _ List.mem_cons_self), xq_eqT rfl rfl (K_.2.2.1 _ (List.mem_cons_of_mem _ List.mem_cons_self)), xq_eqF rfl rfl (K_.2.2.1 _ (List.mem_cons_of_mem _ (List.mem_cons_of_mem _ List.mem_cons_self))), xq_eqF rfl rfl (K_.2.2.1 _ (List.mem_cons_of_mem _ (List.mem_cons_of_mem _ (List.mem_cons_of_mem _ List.mem_cons_self)))), bpat_of (K_.2.1 _ List.mem_cons_self), fun a_ j_ n0_ => yfr_bp K_.2.2.2 (List.forall_mem_cons.mpr ⟨fun e_ => n0_ ⟨e_.1.symm, e_.2.symm⟩, fun q_ hq => absurd hq List.not_mem_nil⟩), G_⟩)))⟩
    rcases List.mem_cons.mp hq with e_ | hq
    · subst e_
      exact ⟨h', yfr_sm K_.2.2.2 hs K_.1 (ywa_r mmvB_w (List.mem_cons_of_mem _ (List.mem_cons_of_mem _ List.mem_cons_self))), Or.inr (Or.inr (Or.inr (Or.inl (⟨xq_ltT rfl rfl (K_.2.2.1 _ List.mem_cons_self), xq_ltF rfl rfl (K_.2.2.1 _ (List.mem_cons_of_mem _ List.mem_cons_self)), xq_eqT rfl rfl (K_.2.2.1 _ (List.mem_cons_of_mem _ (List.mem_cons_of_mem _ List.mem_cons_self))), xq_eqF rfl rfl (K_.2.2.1 _ (List.mem_cons_of_mem _ (List.mem_cons_of_mem _ (List.mem_cons_of_mem _ List.mem_cons_self)))), xq_eqF rfl rfl (K_.2.2.1 _ (List.mem_cons_of_mem _ (List.mem_cons_of_mem _ (List.mem_cons_of_mem _ (List.mem_cons_of_mem _ List.mem_cons_self))))), bpat_of (K_.2.1 _ List.mem_cons_self), fun a_ j_ n0_ => yfr_bp K_.2.2.2 (List.forall_mem_cons.mpr ⟨fun e_ => n0_ ⟨e_.1.symm, e_.2.symm⟩, fun q_ hq => absurd hq List.not_mem_nil⟩), G_⟩))))⟩
    rcases List.mem_cons.mp hq with e_ | hq
    · subst e_
      exact ⟨h', yfr_sm K_.2.2.2 hs K_.1 (ywa_r mmvB_w (List.mem_cons_of_mem _ (List.mem_cons_of_mem _ (List.mem_cons_of_mem _ List.mem_cons_self)))), Or.inr (Or.inr (Or.inr (Or.inr (Or.inl (⟨xq_ltT rfl rfl (K_.2.2.1 _ List.mem_cons_self), xq_ltF rfl rfl (K_.2.2.1 _ (List.mem_cons_of_mem _ List.mem_cons_self)), xq_ltF rfl rfl (K_.2.2.1 _ (List.mem_cons_of_mem _ (List.mem_cons_of_mem _ List.mem_cons_self))), xq_eqT rfl rfl (K_.2.2.1 _ (List.mem_cons_of_mem _ (List.mem_cons_of_mem _ (List.mem_cons_of_mem _ List.mem_cons_self)))), xq_eqF rfl rfl (K_.2.2.1 _ (List.mem_cons_of_mem _ (List.mem_cons_of_mem _ (List.mem_cons_of_mem _ (List.mem_cons_of_mem _ List.mem_cons_self))))), xq_eqF rfl rfl (K_.2.2.1 _ (List.mem_cons_of_mem _ (List.mem_cons_of_mem _ (List.mem_cons_of_mem _ (List.mem_cons_of_mem _ (List.mem_cons_of_mem _ List.mem_cons_self)))))), bpat_of (K_.2.1 _ List.mem_cons_self), fun a_ j_ n0_ => yfr_bp K_.2.2.2 (List.forall_mem_cons.mpr ⟨fun e_ => n0_ ⟨e_.1.symm, e_.2.symm⟩, fun q_ hq => absurd hq List.not_mem_nil⟩), G_⟩)))))⟩
    rcases List.mem_cons.mp hq with e_ | hq
    · subst e_
      exact ⟨h', yfr_sm K_.2.2.2 hs K_.1 (ywa_r mmvB_w (List.mem_cons_of_mem _ (List.mem_cons_of_mem _ (List.mem_cons_of_mem _ (List.mem_cons_of_mem _ List.mem_cons_self))))), Or.inr (Or.inr (Or.inr (Or.inr (Or.inr (Or.inl (⟨xq_leF rfl (yv_sub2 rfl rfl) (K_.2.2.1 _ List.mem_cons_self), xq_ltF rfl rfl (K_.2.2.1 _ (List.mem_cons_of_mem _ List.mem_cons_self)), xq_ltF rfl rfl (K_.2.2.1 _ (List.mem_cons_of_mem _ (List.mem_cons_of_mem _ List.mem_cons_self))), xq_ltF rfl rfl (K_.2.2.1 _ (List.mem_cons_of_mem _ (List.mem_cons_of_mem _ (List.mem_cons_of_mem _ List.mem_cons_self)))), xq_eqT rfl rfl (K_.2.2.1 _ (List.mem_cons_of_mem _ (List.mem_cons_of_mem _ (List.mem_cons_of_mem _ (List.mem_cons_of_mem _ List.mem_cons_self))))), xq_eqF rfl rfl (K_.2.2.1 _ (List.mem_cons_of_mem _ (List.mem_cons_of_mem _ (List.mem_cons_of_mem _ (List.mem_cons_of_mem _ (List.mem_cons_of_mem _ List.mem_cons_self)))))), xq_eqF rfl rfl (K_.2.2.1 _ (List.mem_cons_of_mem _ (List.mem_cons_of_mem _ (List.mem_cons_of_mem _ (List.mem_cons_of_mem _ (List.mem_cons_of_mem _ (List.mem_cons_of_mem _ List.mem_cons_self))))))), bpat_of (K_.2.1 _ List.mem_cons_self), fun a_ j_ n0_ => yfr_bp K_.2.2.2 (List.forall_mem_cons.mpr ⟨fun e_ => n0_ ⟨e_.1.symm, e_.2.symm⟩, fun q_ hq => absurd hq List.not_mem_nil⟩), G_⟩))))))⟩
    rcases List.mem_cons.mp hq with e_ | hq
    · subst e_
      exact ⟨h', yfr_sm K_.2.2.2 hs K_.1 (ywa_r mmvB_w (List.mem_cons_of_mem _ (List.mem_cons_of_mem _ (List.mem_cons_of_mem _ (List.mem_cons_of_mem _ (List.mem_cons_of_mem _ List.mem_cons_self)))))), Or.inr (Or.inr (Or.inr (Or.inr (Or.inr (Or.inr (Or.inl (⟨xq_leF rfl (yv_sub2 rfl rfl) (K_.2.2.1 _ List.mem_cons_self), xq_leT rfl (yv_sub2 rfl rfl) (K_.2.2.1 _ (List.mem_cons_of_mem _ List.mem_cons_self)), xq_ltF rfl rfl (K_.2.2.1 _ (List.mem_cons_of_mem _ (List.mem_cons_of_mem _ List.mem_cons_self))), xq_ltF rfl rfl (K_.2.2.1 _ (List.mem_cons_of_mem _ (List.mem_cons_of_mem _ (List.mem_cons_of_mem _ List.mem_cons_self)))), xq_ltF rfl rfl (K_.2.2.1 _ (List.mem_cons_of_mem _ (List.mem_cons_of_mem _ (List.mem_cons_of_mem _ (List.mem_cons_of_mem _ List.mem_cons_self))))), xq_eqT rfl rfl (K_.2.2.1 _ (List.mem_cons_of_mem _ (List.mem_cons_of_mem _ (List.mem_cons_of_mem _ (List.mem_cons_of_mem _ (List.mem_cons_of_mem _ List.mem_cons_self)))))), xq_eqF rfl rfl (K_.2.2.1 _ (List.mem_cons_of_mem _ (List.mem_cons_of_mem _ (List.mem_cons_of_mem _ (List.mem_cons_of_mem _ (List.mem_cons_of_mem _ (List.mem_cons_of_mem _ List.mem_cons_self))))))), xq_eqF rfl rfl (K_.2.2.1 _ (List.mem_cons_of_mem _ (List.mem_cons_of_mem _ (List.mem_cons_of_mem _ (List.mem_cons_of_mem _ (List.mem_cons_of_mem _ (List.mem_cons_of_mem _ (List.mem_cons_of_mem _ List.mem_cons_self)))))))), bpat_of (K_.2.1 _ List.mem_cons_self), fun a_ j_ n0_ => yfr_bp K_.2.2.2 (List.forall_mem_cons.mpr ⟨fun e_ => n0_ ⟨e_.1.symm, e_.2.symm⟩, fun q_ hq => absurd hq List.not_mem_nil⟩), G_⟩)))))))⟩
    rcases List.mem_cons.mp hq with e_ | hq
    · subst e_
      exact ⟨h', yfr_sm K_.2.2.2 hs K_.1 (ywa_r mmvB_w (List.mem_cons_of_mem _ (List.mem_cons_of_mem _ (List.mem_cons_of_mem _ (List.mem_cons_of_mem _ (List.mem_cons_of_mem _ (List.mem_cons_of_mem _ List.mem_cons_self))))))), Or.inr (Or.inr (Or.inr (Or.inr (Or.inr (Or.inr (Or.inr (Or.inl (⟨xq_eqF rfl rfl (K_.2.2.1 _ List.mem_cons_self), xq_eqF rfl rfl (K_.2.2.1 _ (List.mem_cons_of_mem _ List.mem_cons_self)), xq_eqF rfl rfl (K_.2.2.1 _ (List.mem_cons_of_mem _ (List.mem_cons_of_mem _ List.mem_cons_self))), bpat_of (K_.2.1 _ List.mem_cons_self), fun a_ j_ n0_ => yfr_bp K_.2.2.2 (List.forall_mem_cons.mpr ⟨fun e_ => n0_ ⟨e_.1.symm, e_.2.symm⟩, fun q_ hq => absurd hq List.not_mem_nil⟩), G_⟩))))))))⟩
    have e_ := List.mem_singleton.mp hq
    subst e_
    exact ⟨h', yfr_sm K_.2.2.2 hs K_.1 (ywa_r mmvB_w (List.mem_cons_of_mem _ (List.mem_cons_of_mem _ (List.mem_cons_of_mem _ (List.mem_cons_of_mem _ (List.mem_cons_of_mem _ (List.mem_cons_of_mem _ (List.mem_cons_of_mem _ List.mem_cons_self)))))))), Or.inr (Or.inr (Or.inr (Or.inr (Or.inr (Or.inr (Or.inr (Or.inr (⟨xq_eqT rfl rfl (K_.2.2.1 _ List.mem_cons_self), xq_eqF rfl rfl (K_.2.2.1 _ (List.mem_cons_of_mem _ List.mem_cons_self)), bpat_of (K_.2.1 _ List.mem_cons_self), fun a_ j_ n0_ => yfr_bp K_.2.2.2 (List.forall_mem_cons.mpr ⟨fun e_ => n0_ ⟨e_.1.symm, e_.2.symm⟩, fun q_ hq => absurd hq List.not_mem_nil⟩), G_⟩))))))))⟩
-- mmvT: 19 steps, 1 ends, 0 returns
def mmvT_L : List (Nat × Nat × Nat) := []
def mmvT_O : yO := [(338, .int 25, .index 353), (338, .int 24, .index 352), (352, .add (.add (.mul (.int 24) (.arg 1)) (.arg 2)) (.arg 6), .arg 330)]
def mmvT_A : yA := (yZ mmvT_L, [(.add (.add (.mul (.int 24) (.arg 1)) (.arg 2)) (.arg 6), 96), (.arg 6, 24)], [], [], [])
def mmvT_C : List xB := [(.lt, .arg 6, .arg 5, true)]
def mmvT_ss : List yS := [(115, [(6, .add (.arg 6) (.int 1)), (0, .index 338), (1, .arg 1), (2, .arg 2), (3, .arg 3), (4, .arg 4), (5, .arg 5)], [], [(353, .arg 6, .arg 330), (338, .int 25, .index 353), (338, .int 24, .index 352), (352, .add (.add (.mul (.int 24) (.arg 1)) (.arg 2)) (.arg 6), .arg 330)], [(.lt, .arg 6, .arg 5, true)], [(353, .arg 6)])]
def mmvT_rs : List yR := []
theorem mmvT_w : ywa mmvT_A mmvT_ss mmvT_rs = true := by decide +kernel
theorem mmvT_k : yis (yev mmvT_A 3000 60 230 [115] (115, [(6, .arg 6), (0, .index 338), (1, .arg 1), (2, .arg 2), (3, .arg 3), (4, .arg 4), (5, .arg 5)], [], mmvT_O, mmvT_C, [])) mmvT_ss mmvT_rs = true := by decide +kernel
def mmvT_r (v1_ v2 v3 v4_ v5 v6 v330 : Int32) (k_ : Nat) : Value := bif Nat.beq k_ 1 then .int v1_ else (bif Nat.beq k_ 2 then .int v2 else (bif Nat.beq k_ 3 then .int v3 else (bif Nat.beq k_ 4 then .int v4_ else (bif Nat.beq k_ 5 then .int v5 else (bif Nat.beq k_ 6 then .int v6 else (bif Nat.beq k_ 330 then .int v330 else (.int 0)))))))
def mmvT_s (n_ : Nat) : Nat := 0
theorem mmvT {h_ : xH} {v1_ v2 v3 v4_ v5 v6 v330 : Int32} (hs : sHp h_) (o0_ : bpat h_ 352 (((((24 : Int32) * v1_) + v2) + v6)).toInt.toNat = some (.int v330)) (b0 : 0 ≤ (((((24 : Int32) * v1_) + v2) + v6)).toInt ∧ (((((24 : Int32) * v1_) + v2) + v6)).toInt < 96) (b1 : 0 ≤ (v6).toInt ∧ (v6).toInt < 24) (c0_ : v6.toInt < v5.toInt) : ∃ h', ysm h_ h' ∧ (((bpat h' 353 (v6).toInt.toNat = some (.int v330)) ∧ (∀ a_ j_ : Nat, ¬ (a_ = 353 ∧ j_ = (v6).toInt.toNat) → bpat h' a_ j_ = bpat h_ a_ j_) ∧ (bldD 60 230 115 [(6, .int v6), (0, .index 338), (1, .int v1_), (2, .int v2), (3, .int v3), (4, .int v4_), (5, .int v5)] [] h_ 115 [(6, .int (v6 + (1 : Int32))), (0, .index 338), (1, .int v1_), (2, .int v2), (3, .int v3), (4, .int v4_), (5, .int v5)] [] h'))) := by
  have hA : yas mmvT_A (mmvT_r v1_ v2 v3 v4_ v5 v6 v330) (yg mmvT_s) := ⟨List.forall_mem_cons.mpr ⟨b0, List.forall_mem_cons.mpr ⟨b1, fun q_ hq => absurd hq List.not_mem_nil⟩⟩, fun q_ hq => absurd hq List.not_mem_nil, fun q_ hq => absurd hq List.not_mem_nil, fun n_ hn => yg_lo hn, fun q_ hq => absurd hq List.not_mem_nil⟩
  have Hs : ysh mmvT_A.1 (yg mmvT_s) h_ := ysh_of2 hs (fun q_ hq => absurd hq List.not_mem_nil)
  have Ho : ymem (mmvT_r v1_ v2 v3 v4_ v5 v6 v330) (yg mmvT_s) mmvT_O h_ := List.forall_mem_cons.mpr ⟨bpat_some (fxr_at hs.2 (show fxk fxl 338 25 = some 353 by decide +kernel)), List.forall_mem_cons.mpr ⟨bpat_some (fxr_at hs.2 (show fxk fxl 338 24 = some 352 by decide +kernel)), List.forall_mem_cons.mpr ⟨bpat_some o0_, fun q_ hq => absurd hq List.not_mem_nil⟩⟩⟩
  have HC : ∀ q_ ∈ mmvT_C, xhold (mmvT_r v1_ v2 v3 v4_ v5 v6 v330) q_ := List.forall_mem_cons.mpr ⟨xh_ltT c0_, fun q_ hq => absurd hq List.not_mem_nil⟩
  rcases yrun (yis_ok mmvT_k) hA Hs Ho HC with ⟨q_, hq, h', K_, G_⟩ | ⟨q_, hq, h', K_, G_⟩
  · have e_ := List.mem_singleton.mp hq
    subst e_
    exact ⟨h', yfr_sm K_.2.2.2 hs K_.1 (ywa_s mmvT_w List.mem_cons_self), ⟨bpat_of (K_.2.1 _ List.mem_cons_self), fun a_ j_ n0_ => yfr_bp K_.2.2.2 (List.forall_mem_cons.mpr ⟨fun e_ => n0_ ⟨e_.1.symm, e_.2.symm⟩, fun q_ hq => absurd hq List.not_mem_nil⟩), G_⟩⟩
  · cases hq
-- mmvX: 5 steps, 1 ends, 0 returns
def mmvX_L : List (Nat × Nat × Nat) := []
def mmvX_O : yO := []
def mmvX_A : yA := (yZ mmvX_L, [], [], [], [])
def mmvX_C : List xB := [(.lt, .arg 6, .arg 5, false)]
def mmvX_ss : List yS := [(152, [(6, .int 0), (0, .index 338), (1, .arg 1), (2, .arg 2), (3, .arg 3), (4, .arg 4), (5, .arg 5)], [], [], [(.lt, .arg 6, .arg 5, false)], [])]
def mmvX_rs : List yR := []
theorem mmvX_w : ywa mmvX_A mmvX_ss mmvX_rs = true := by decide +kernel
theorem mmvX_k : yis (yev mmvX_A 3000 60 230 [152] (115, [(6, .arg 6), (0, .index 338), (1, .arg 1), (2, .arg 2), (3, .arg 3), (4, .arg 4), (5, .arg 5)], [], mmvX_O, mmvX_C, [])) mmvX_ss mmvX_rs = true := by decide +kernel
def mmvX_r (v1_ v2 v3 v4_ v5 v6 : Int32) (k_ : Nat) : Value := bif Nat.beq k_ 1 then .int v1_ else (bif Nat.beq k_ 2 then .int v2 else (bif Nat.beq k_ 3 then .int v3 else (bif Nat.beq k_ 4 then .int v4_ else (bif Nat.beq k_ 5 then .int v5 else (bif Nat.beq k_ 6 then .int v6 else (.int 0))))))
def mmvX_s (n_ : Nat) : Nat := 0
theorem mmvX {h_ : xH} {v1_ v2 v3 v4_ v5 v6 : Int32} (hs : sHp h_) (c0_ : v5.toInt ≤ v6.toInt) : ∃ h', ysm h_ h' ∧ (((∀ a_ j_ : Nat, bpat h' a_ j_ = bpat h_ a_ j_) ∧ (bldD 60 230 115 [(6, .int v6), (0, .index 338), (1, .int v1_), (2, .int v2), (3, .int v3), (4, .int v4_), (5, .int v5)] [] h_ 152 [(6, .int (0 : Int32)), (0, .index 338), (1, .int v1_), (2, .int v2), (3, .int v3), (4, .int v4_), (5, .int v5)] [] h'))) := by
  have hA : yas mmvX_A (mmvX_r v1_ v2 v3 v4_ v5 v6) (yg mmvX_s) := ⟨fun q_ hq => absurd hq List.not_mem_nil, fun q_ hq => absurd hq List.not_mem_nil, fun q_ hq => absurd hq List.not_mem_nil, fun n_ hn => yg_lo hn, fun q_ hq => absurd hq List.not_mem_nil⟩
  have Hs : ysh mmvX_A.1 (yg mmvX_s) h_ := ysh_of2 hs (fun q_ hq => absurd hq List.not_mem_nil)
  have Ho : ymem (mmvX_r v1_ v2 v3 v4_ v5 v6) (yg mmvX_s) mmvX_O h_ := fun q_ hq => absurd hq List.not_mem_nil
  have HC : ∀ q_ ∈ mmvX_C, xhold (mmvX_r v1_ v2 v3 v4_ v5 v6) q_ := List.forall_mem_cons.mpr ⟨xh_ltF c0_, fun q_ hq => absurd hq List.not_mem_nil⟩
  rcases yrun (yis_ok mmvX_k) hA Hs Ho HC with ⟨q_, hq, h', K_, G_⟩ | ⟨q_, hq, h', K_, G_⟩
  · have e_ := List.mem_singleton.mp hq
    subst e_
    exact ⟨h', yfr_sm K_.2.2.2 hs K_.1 (ywa_s mmvX_w List.mem_cons_self), ⟨fun a_ j_ => yfr_bp K_.2.2.2 (fun q_ hq => absurd hq List.not_mem_nil), G_⟩⟩
  · cases hq
-- mmvU: 19 steps, 1 ends, 0 returns
def mmvU_L : List (Nat × Nat × Nat) := []
def mmvU_O : yO := [(338, .int 24, .index 352), (338, .int 25, .index 353), (353, .arg 6, .arg 330)]
def mmvU_A : yA := (yZ mmvU_L, [(.add (.add (.mul (.int 24) (.arg 3)) (.arg 4)) (.arg 6), 96), (.arg 6, 24)], [], [], [])
def mmvU_C : List xB := [(.lt, .arg 6, .arg 5, true)]
def mmvU_ss : List yS := [(152, [(6, .add (.arg 6) (.int 1)), (0, .index 338), (1, .arg 1), (2, .arg 2), (3, .arg 3), (4, .arg 4), (5, .arg 5)], [], [(352, .add (.add (.mul (.int 24) (.arg 3)) (.arg 4)) (.arg 6), .arg 330), (338, .int 24, .index 352), (338, .int 25, .index 353), (353, .arg 6, .arg 330)], [(.lt, .arg 6, .arg 5, true)], [(352, .add (.add (.mul (.int 24) (.arg 3)) (.arg 4)) (.arg 6))])]
def mmvU_rs : List yR := []
theorem mmvU_w : ywa mmvU_A mmvU_ss mmvU_rs = true := by decide +kernel
theorem mmvU_k : yis (yev mmvU_A 3000 60 230 [152] (152, [(6, .arg 6), (0, .index 338), (1, .arg 1), (2, .arg 2), (3, .arg 3), (4, .arg 4), (5, .arg 5)], [], mmvU_O, mmvU_C, [])) mmvU_ss mmvU_rs = true := by decide +kernel
def mmvU_r (v1_ v2 v3 v4_ v5 v6 v330 : Int32) (k_ : Nat) : Value := bif Nat.beq k_ 1 then .int v1_ else (bif Nat.beq k_ 2 then .int v2 else (bif Nat.beq k_ 3 then .int v3 else (bif Nat.beq k_ 4 then .int v4_ else (bif Nat.beq k_ 5 then .int v5 else (bif Nat.beq k_ 6 then .int v6 else (bif Nat.beq k_ 330 then .int v330 else (.int 0)))))))
def mmvU_s (n_ : Nat) : Nat := 0
theorem mmvU {h_ : xH} {v1_ v2 v3 v4_ v5 v6 v330 : Int32} (hs : sHp h_) (o0_ : bpat h_ 353 (v6).toInt.toNat = some (.int v330)) (b0 : 0 ≤ (((((24 : Int32) * v3) + v4_) + v6)).toInt ∧ (((((24 : Int32) * v3) + v4_) + v6)).toInt < 96) (b1 : 0 ≤ (v6).toInt ∧ (v6).toInt < 24) (c0_ : v6.toInt < v5.toInt) : ∃ h', ysm h_ h' ∧ (((bpat h' 352 (((((24 : Int32) * v3) + v4_) + v6)).toInt.toNat = some (.int v330)) ∧ (∀ a_ j_ : Nat, ¬ (a_ = 352 ∧ j_ = (((((24 : Int32) * v3) + v4_) + v6)).toInt.toNat) → bpat h' a_ j_ = bpat h_ a_ j_) ∧ (bldD 60 230 152 [(6, .int v6), (0, .index 338), (1, .int v1_), (2, .int v2), (3, .int v3), (4, .int v4_), (5, .int v5)] [] h_ 152 [(6, .int (v6 + (1 : Int32))), (0, .index 338), (1, .int v1_), (2, .int v2), (3, .int v3), (4, .int v4_), (5, .int v5)] [] h'))) := by
  have hA : yas mmvU_A (mmvU_r v1_ v2 v3 v4_ v5 v6 v330) (yg mmvU_s) := ⟨List.forall_mem_cons.mpr ⟨b0, List.forall_mem_cons.mpr ⟨b1, fun q_ hq => absurd hq List.not_mem_nil⟩⟩, fun q_ hq => absurd hq List.not_mem_nil, fun q_ hq => absurd hq List.not_mem_nil, fun n_ hn => yg_lo hn, fun q_ hq => absurd hq List.not_mem_nil⟩
  have Hs : ysh mmvU_A.1 (yg mmvU_s) h_ := ysh_of2 hs (fun q_ hq => absurd hq List.not_mem_nil)
  have Ho : ymem (mmvU_r v1_ v2 v3 v4_ v5 v6 v330) (yg mmvU_s) mmvU_O h_ := List.forall_mem_cons.mpr ⟨bpat_some (fxr_at hs.2 (show fxk fxl 338 24 = some 352 by decide +kernel)), List.forall_mem_cons.mpr ⟨bpat_some (fxr_at hs.2 (show fxk fxl 338 25 = some 353 by decide +kernel)), List.forall_mem_cons.mpr ⟨bpat_some o0_, fun q_ hq => absurd hq List.not_mem_nil⟩⟩⟩
  have HC : ∀ q_ ∈ mmvU_C, xhold (mmvU_r v1_ v2 v3 v4_ v5 v6 v330) q_ := List.forall_mem_cons.mpr ⟨xh_ltT c0_, fun q_ hq => absurd hq List.not_mem_nil⟩
  rcases yrun (yis_ok mmvU_k) hA Hs Ho HC with ⟨q_, hq, h', K_, G_⟩ | ⟨q_, hq, h', K_, G_⟩
  · have e_ := List.mem_singleton.mp hq
    subst e_
    exact ⟨h', yfr_sm K_.2.2.2 hs K_.1 (ywa_s mmvU_w List.mem_cons_self), ⟨bpat_of (K_.2.1 _ List.mem_cons_self), fun a_ j_ n0_ => yfr_bp K_.2.2.2 (List.forall_mem_cons.mpr ⟨fun e_ => n0_ ⟨e_.1.symm, e_.2.symm⟩, fun q_ hq => absurd hq List.not_mem_nil⟩), G_⟩⟩
  · cases hq
-- mmvY: 5 steps, 0 ends, 1 returns
def mmvY_L : List (Nat × Nat × Nat) := []
def mmvY_O : yO := []
def mmvY_A : yA := (yZ mmvY_L, [], [], [], [])
def mmvY_C : List xB := [(.lt, .arg 6, .arg 5, false)]
def mmvY_ss : List yS := []
def mmvY_rs : List yR := [(some (.arg 5), [], [(.lt, .arg 6, .arg 5, false)], [])]
theorem mmvY_w : ywa mmvY_A mmvY_ss mmvY_rs = true := by decide +kernel
theorem mmvY_k : yis (yev mmvY_A 3000 60 230 [] (152, [(6, .arg 6), (0, .index 338), (1, .arg 1), (2, .arg 2), (3, .arg 3), (4, .arg 4), (5, .arg 5)], [], mmvY_O, mmvY_C, [])) mmvY_ss mmvY_rs = true := by decide +kernel
def mmvY_r (v1_ v2 v3 v4_ v5 v6 : Int32) (k_ : Nat) : Value := bif Nat.beq k_ 1 then .int v1_ else (bif Nat.beq k_ 2 then .int v2 else (bif Nat.beq k_ 3 then .int v3 else (bif Nat.beq k_ 4 then .int v4_ else (bif Nat.beq k_ 5 then .int v5 else (bif Nat.beq k_ 6 then .int v6 else (.int 0))))))
def mmvY_s (n_ : Nat) : Nat := 0
theorem mmvY {h_ : xH} {v1_ v2 v3 v4_ v5 v6 : Int32} (hs : sHp h_) (c0_ : v5.toInt ≤ v6.toInt) : ∃ h', ysm h_ h' ∧ (((∀ a_ j_ : Nat, bpat h' a_ j_ = bpat h_ a_ j_) ∧ (∀ D_, 60 ≤ D_ → xrun D_ 230 152 [(6, .int v6), (0, .index 338), (1, .int v1_), (2, .int v2), (3, .int v3), (4, .int v4_), (5, .int v5)] [] h_ (some (.int v5), h', [])))) := by
  have hA : yas mmvY_A (mmvY_r v1_ v2 v3 v4_ v5 v6) (yg mmvY_s) := ⟨fun q_ hq => absurd hq List.not_mem_nil, fun q_ hq => absurd hq List.not_mem_nil, fun q_ hq => absurd hq List.not_mem_nil, fun n_ hn => yg_lo hn, fun q_ hq => absurd hq List.not_mem_nil⟩
  have Hs : ysh mmvY_A.1 (yg mmvY_s) h_ := ysh_of2 hs (fun q_ hq => absurd hq List.not_mem_nil)
  have Ho : ymem (mmvY_r v1_ v2 v3 v4_ v5 v6) (yg mmvY_s) mmvY_O h_ := fun q_ hq => absurd hq List.not_mem_nil
  have HC : ∀ q_ ∈ mmvY_C, xhold (mmvY_r v1_ v2 v3 v4_ v5 v6) q_ := List.forall_mem_cons.mpr ⟨xh_ltF c0_, fun q_ hq => absurd hq List.not_mem_nil⟩
  rcases yrun (yis_ok mmvY_k) hA Hs Ho HC with ⟨q_, hq, h', K_, G_⟩ | ⟨q_, hq, h', K_, G_⟩
  · cases hq
  · have e_ := List.mem_singleton.mp hq
    subst e_
    exact ⟨h', yfr_sm K_.2.2.2 hs K_.1 (ywa_r mmvY_w List.mem_cons_self), ⟨fun a_ j_ => yfr_bp K_.2.2.2 (fun q_ hq => absurd hq List.not_mem_nil), G_⟩⟩
theorem x_move {W_ : Nat → List Int32} {V : Nat → Int32} {h_ : xH} {z_ i_ d_ j_ n_ : Int32} (B_ : bInv bZ bIj h_) (K_ : okS W_ V) (H_ : SX W_ V h_) : ∃ h', ysm h_ h' ∧ (SX (moveF W_ V z_ i_ d_ j_ n_).1 (moveF W_ V z_ i_ d_ j_ n_).2.1 h' ∧ ∀ D_, 62 ≤ D_ → xrun D_ 110 0 [(0, .index 0), (1, .int z_), (2, .int i_), (3, .int d_), (4, .int j_), (5, .int n_)] [] h_ (some (.int (moveF W_ V z_ i_ d_ j_ n_).2.2), h', [])) := by
  obtain ⟨y_, oy⟩ := xerr (k_ := 1) B_ (by omega)
  obtain ⟨y2, oy2⟩ := xerr (k_ := 2) B_ (by omega)
  obtain ⟨y5, oy5⟩ := xerr (k_ := 5) B_ (by omega)
  have zz := z0_
  have z4 := i4_
  unfold moveF
  obtain ⟨h0, m0_, e_⟩ := xmvA (v1_ := z_) (v2 := i_) (v3 := d_) (v4_ := j_) (v5 := n_) H_.1 oy
  rcases e_ with ⟨g1, g2, g3_, g4, f_, r_⟩ | ⟨g1, w0_, f_, r_⟩ | ⟨g1, g2, w0_, f_, r_⟩ | ⟨g1, g2, g3_, w0_, f_, r_⟩ | ⟨g1, g2, g3_, g4, w0_, f_, r_⟩
  rotate_left
  · rw [pif_f (by omega)]; exact ⟨h0, m0_, SX_e H_ m0_ f_, fun D_ hD => r_ D_ (by omega)⟩
  · rw [pif_f (by omega)]; exact ⟨h0, m0_, SX_e H_ m0_ f_, fun D_ hD => r_ D_ (by omega)⟩
  · rw [pif_f (by omega)]; exact ⟨h0, m0_, SX_e H_ m0_ f_, fun D_ hD => r_ D_ (by omega)⟩
  · rw [pif_f (by omega)]; exact ⟨h0, m0_, SX_e H_ m0_ f_, fun D_ hD => r_ D_ (by omega)⟩
  have H0 := SX_fr H_ m0_ (fun c_ j_ _ => f_ c_ j_)
  rw [pif_t ⟨⟨by omega, by omega⟩, by omega, by omega⟩]
  obtain ⟨s_, hs4, rfl, es⟩ := isS_n (z_ := z_) ⟨by omega, by omega⟩
  obtain ⟨k_, hk4, rfl, ek⟩ := isS_n (z_ := d_) ⟨by omega, by omega⟩
  obtain ⟨⟨s1_, s2_⟩, s3_, s4_⟩ := sh_s H0.1 hs4
  obtain ⟨⟨t1_, t2_⟩, t3_, t4_⟩ := sh_s H0.1 hk4
  obtain ⟨⟨-, -⟩, su1, su2⟩ := K_.2.2 s_ hs4
  obtain ⟨⟨-, -⟩, ku1, ku2⟩ := K_.2.2 k_ hk4
  obtain ⟨p1_, p2_, p3_⟩ := H0.2.2.2.2 s_ hs4
  obtain ⟨v1_, v2_, v3_⟩ := H0.2.2.2.2 k_ hk4
  rw [es, ek]
  have sb_ : 0 ≤ i_.toInt → i_.toInt ≤ (V (211 + 2 * s_)).toInt → (V (211 + 2 * s_) - i_).toInt = (V (211 + 2 * s_)).toInt - i_.toInt := fun u1_ u2_ => by
    rw [Int32.toInt_sub, xbm32 (by omega) (by omega)]
  have kb : 0 ≤ j_.toInt → j_.toInt ≤ (V (211 + 2 * k_)).toInt → (V (211 + 2 * k_) - j_).toInt = (V (211 + 2 * k_)).toInt - j_.toInt := fun u1_ u2_ => by
    rw [Int32.toInt_sub, xbm32 (by omega) (by omega)]
  have r0 := r_
  obtain ⟨h1, m1_, e_⟩ := xmvB (v1_ := Int32.ofNat s_) (v2 := i_) (v3 := Int32.ofNat k_) (v4_ := j_) (v5 := n_) H0.1 s3_ t3_ (by rw [es]; exact s1_) (by rw [ek]; exact t1_) p1_ v1_ p2_ (by rw [f_]; exact oy) v2_ (by rw [f_]; exact oy5) (by rw [f_]; exact oy2) ⟨by omega, by omega⟩ ⟨by omega, by omega⟩
  have FIN : (∀ c_ q_, bpat h1 c_ q_ = bpat h0 c_ q_) → bldD 60 110 20 [(0, .index 0), (1, .int (Int32.ofNat s_)), (2, .int i_), (3, .int (Int32.ofNat k_)), (4, .int j_), (5, .int n_)] [] h0 106 [(7, .index (324 + 2 * k_)), (6, .index (324 + 2 * s_)), (0, .index 0), (1, .int (Int32.ofNat s_)), (2, .int i_), (3, .int (Int32.ofNat k_)), (4, .int j_), (5, .int n_)] [] h1 → ¬ (V (210 + 2 * s_)).toInt = 0 → ¬ (V (210 + 2 * k_)).toInt = 0 → V (210 + 2 * s_) = V (210 + 2 * k_) → mvP V s_ k_ i_ j_ n_ → ∃ h', ysm h_ h' ∧ (SX (pif ((V (210 + 2 * s_)).toInt = 0 ∨ (V (210 + 2 * k_)).toInt = 0) (W_, V, Int32.ofInt (-1000002)) (pif (V (210 + 2 * s_) = V (210 + 2 * k_)) (pif (mvP V s_ k_ i_ j_ n_) (upR W_ (40 + k_) (mvl (W_ (40 + s_)) (W_ (40 + k_)) i_.toInt.toNat j_.toInt.toNat n_.toInt.toNat), V, n_) (W_, V, Int32.ofInt (-1000001))) (W_, V, Int32.ofInt (-1000005)))).1 (pif ((V (210 + 2 * s_)).toInt = 0 ∨ (V (210 + 2 * k_)).toInt = 0) (W_, V, Int32.ofInt (-1000002)) (pif (V (210 + 2 * s_) = V (210 + 2 * k_)) (pif (mvP V s_ k_ i_ j_ n_) (upR W_ (40 + k_) (mvl (W_ (40 + s_)) (W_ (40 + k_)) i_.toInt.toNat j_.toInt.toNat n_.toInt.toNat), V, n_) (W_, V, Int32.ofInt (-1000001))) (W_, V, Int32.ofInt (-1000005)))).2.1 h' ∧ ∀ D_, 62 ≤ D_ → xrun D_ 110 0 [(0, .index 0), (1, .int (Int32.ofNat s_)), (2, .int i_), (3, .int (Int32.ofNat k_)), (4, .int j_), (5, .int n_)] [] h_ (some (.int (pif ((V (210 + 2 * s_)).toInt = 0 ∨ (V (210 + 2 * k_)).toInt = 0) (W_, V, Int32.ofInt (-1000002)) (pif (V (210 + 2 * s_) = V (210 + 2 * k_)) (pif (mvP V s_ k_ i_ j_ n_) (upR W_ (40 + k_) (mvl (W_ (40 + s_)) (W_ (40 + k_)) i_.toInt.toNat j_.toInt.toNat n_.toInt.toNat), V, n_) (W_, V, Int32.ofInt (-1000001))) (W_, V, Int32.ofInt (-1000005)))).2.2), h', [])) := by
    intro f1_ r1_ c1_ c2_ c3_ c4_
    rw [pif_f (by omega), pif_t c3_, pif_t c4_]
    obtain ⟨⟨c5_, c6_⟩, c7_, c8_, c9_⟩ := c4_
    have su3 := su2
    have ku3 := ku2
    have H1_ := SX_fr H0 m1_ (fun c_ q_ _ => f1_ c_ q_)
    have ei : i_ = Int32.ofNat i_.toInt.toNat := Int32.toInt_inj.mp (by rw [i32n (by omega)]; omega)
    have ej : j_ = Int32.ofNat j_.toInt.toNat := Int32.toInt_inj.mp (by rw [i32n (by omega)]; omega)
    have en : n_ = Int32.ofNat n_.toInt.toNat := Int32.toInt_inj.mp (by rw [i32n (by omega)]; omega)
    obtain ⟨h2, m2_, f2_, ld2⟩ := xmvC (v1_ := Int32.ofNat s_) (v2 := i_) (v3 := Int32.ofNat k_) (v4_ := j_) (v5 := n_) H1_.1 (m1_.2 _ _ _ s3_) (m1_.2 _ _ _ t3_) (m1_.2 _ _ _ s4_) (m1_.2 _ _ _ t4_) ((f1_ _ _).trans s2_) ((f1_ _ _).trans t2_)
    have M02 := ysm_tr m0_ (ysm_tr m1_ m2_)
    have M12 := ysm_tr m1_ m2_
    obtain ⟨h3, m3_, e3_, f3_, ld3⟩ := yac2 (mi := 110) (pc := 121) (lo_ := [(7, .index (324 + 2 * k_)), (6, .index (324 + 2 * s_)), (0, .index 0), (1, .int (Int32.ofNat s_)), (2, .int i_), (3, .int (Int32.ofNat k_)), (4, .int j_), (5, .int n_)]) (p_ := i_.toInt.toNat) (q_ := j_.toInt.toNat) (n_ := n_.toInt.toNat) rfl m2_.1 (M12.2 _ _ _ s4_) (M12.2 _ _ _ t4_) (by omega) (by omega) (by omega)
    rw [← ei, ← ej, ← en] at ld3
    obtain ⟨h4, m4_, f4_, r4⟩ := xmvD (v1_ := Int32.ofNat s_) (v2 := i_) (v3 := Int32.ofNat k_) (v4_ := j_) (v5 := n_) m3_.1 ((ysm_tr M12 m3_).2 _ _ _ s3_) ((ysm_tr M12 m3_).2 _ _ _ t3_)
    have H2_ := SX_fr H1_ m2_ (fun c_ q_ _ => f2_ c_ q_)
    have M34 := ysm_tr m3_ m4_
    refine ⟨h4, ysm_tr M02 M34, ?_, fun D_ hD => r0 D_ (by omega) _ (r1_ D_ (by omega) _ (ld2 D_ (by omega) _ (ld3 D_ (by omega) _ (r4 D_ (by omega)))))⟩
    obtain ⟨w1_, w2_, w3_⟩ := H2_.2.2.2.2 k_ hk4
    have z3 := (H2_.2.2.2.2 s_ hs4).2.2
    have S_ := SX_sh (b_ := V (210 + 2 * k_)) (n_ := V (211 + 2 * k_)) (l := mvl (W_ (40 + s_)) (W_ (40 + k_)) i_.toInt.toNat j_.toInt.toNat n_.toInt.toNat) hk4 H2_ M34 (by rw [f4_, f3_ _ _ (by omega)]; exact w1_) (by rw [f4_, f3_ _ _ (by omega)]; exact w2_) (fun q_ y_ hy => ?_) (fun c_ q_ _ _ n2_ => by rw [f4_, f3_ c_ q_ (fun u_ => n2_ u_.1)])
    · rw [upI2_same] at S_
      exact S_
    · have l1 := oks_l K_ s_ hs4
      have l2 := oks_l K_ k_ hk4
      rw [f4_]
      rcases mvl_at (by omega) (by omega) hy with ⟨⟨q1_, q2_⟩, q3_⟩ | ⟨q1_, q3_⟩
      · have u_ := e3_ (q_ - j_.toInt.toNat) (by omega)
        rw [show j_.toInt.toNat + (q_ - j_.toInt.toNat) = q_ by omega] at u_
        rw [u_]
        exact z3 _ _ q3_
      · rw [f3_ _ _ (fun u_ => q1_ u_.2)]
        exact w3_ _ _ q3_
  rcases e_ with ⟨g1, g2, g3_, g4, g5_, g6, g7, g8, g9, g10, f1_, r1_⟩ | ⟨g1, g2, g3_, g4, w0_, f1_, r1_⟩ | ⟨g1, g2, g3_, g4, g5_, w0_, f1_, r1_⟩ | ⟨g1, g2, g3_, g4, g5_, g6, w0_, f1_, r1_⟩ | ⟨g1, g2, g3_, g4, g5_, g6, g7, w0_, f1_, r1_⟩ | ⟨g1, g2, g3_, g4, g5_, g6, g7, g8, w0_, f1_, r1_⟩ | ⟨g1, g2, g3_, g4, g5_, g6, g7, g8, g9, w0_, f1_, r1_⟩ | ⟨g1, g2, g3_, g4, g5_, g6, g7, g8, g9, g10, w0_, f1_, r1_⟩ | ⟨g1, g2, g3_, w0_, f1_, r1_⟩ | ⟨g1, g2, w0_, f1_, r1_⟩ | ⟨g1, w0_, f1_, r1_⟩
  · have q8_ := congrArg Int32.toInt g8
    have q9_ := i32e g9
    have q10_ := i32e g10
    exact FIN f1_ r1_ (by omega) (by omega) (Int32.toInt_inj.mp (by omega)) (by unfold mvP; omega)
  · have q2_ := congrArg Int32.toInt g2
    have q3_ := i32e g3_
    have q4_ := i32e g4
    rw [pif_f (by omega), pif_t (Int32.toInt_inj.mp (by omega)), pif_f (by unfold mvP; omega)]
    exact ⟨h1, ysm_tr m0_ m1_, SX_e H0 m1_ f1_, fun D_ hD => r0 D_ (by omega) _ (r1_ D_ (by omega))⟩
  · have q3_ := congrArg Int32.toInt g3_
    have q4_ := i32e g4
    have q5_ := i32e g5_
    rw [pif_f (by omega), pif_t (Int32.toInt_inj.mp (by omega)), pif_f (by unfold mvP; omega)]
    exact ⟨h1, ysm_tr m0_ m1_, SX_e H0 m1_ f1_, fun D_ hD => r0 D_ (by omega) _ (r1_ D_ (by omega))⟩
  · have q4_ := congrArg Int32.toInt g4
    have q5_ := i32e g5_
    have q6_ := i32e g6
    rw [pif_f (by omega), pif_t (Int32.toInt_inj.mp (by omega)), pif_f (by unfold mvP; omega)]
    exact ⟨h1, ysm_tr m0_ m1_, SX_e H0 m1_ f1_, fun D_ hD => r0 D_ (by omega) _ (r1_ D_ (by omega))⟩
  · have q5_ := congrArg Int32.toInt g5_
    have q6_ := i32e g6
    have q7_ := i32e g7
    rw [pif_f (by omega), pif_t (Int32.toInt_inj.mp (by omega)), pif_f (by unfold mvP; omega)]
    exact ⟨h1, ysm_tr m0_ m1_, SX_e H0 m1_ f1_, fun D_ hD => r0 D_ (by omega) _ (r1_ D_ (by omega))⟩
  · have q6_ := congrArg Int32.toInt g6
    have q7_ := i32e g7
    have q8_ := i32e g8
    rw [pif_f (by omega), pif_t (Int32.toInt_inj.mp (by omega)), pif_f (by unfold mvP; omega)]
    exact ⟨h1, ysm_tr m0_ m1_, SX_e H0 m1_ f1_, fun D_ hD => r0 D_ (by omega) _ (r1_ D_ (by omega))⟩
  · have q7_ := congrArg Int32.toInt g7
    have q8_ := i32e g8
    have q9_ := i32e g9
    rw [pif_f (by omega), pif_t (Int32.toInt_inj.mp (by omega)), pif_f (by unfold mvP; omega)]
    exact ⟨h1, ysm_tr m0_ m1_, SX_e H0 m1_ f1_, fun D_ hD => r0 D_ (by omega) _ (r1_ D_ (by omega))⟩
  · have q8_ := congrArg Int32.toInt g8
    have q9_ := i32e g9
    have q10_ := i32e g10
    rw [pif_f (by omega), pif_t (Int32.toInt_inj.mp (by omega)), pif_f (by unfold mvP; omega)]
    exact ⟨h1, ysm_tr m0_ m1_, SX_e H0 m1_ f1_, fun D_ hD => r0 D_ (by omega) _ (r1_ D_ (by omega))⟩
  · have q1_ := i32e g1
    have q2_ := i32e g2
    have q3_ := i32e g3_
    rw [pif_f (by omega), pif_f (fun q_ => by have q_ := congrArg Int32.toInt q_; omega)]
    exact ⟨h1, ysm_tr m0_ m1_, SX_e H0 m1_ f1_, fun D_ hD => r0 D_ (by omega) _ (r1_ D_ (by omega))⟩
  · have q1_ := congrArg Int32.toInt g1
    have q2_ := i32e g2
    rw [pif_t (by omega)]
    exact ⟨h1, ysm_tr m0_ m1_, SX_e H0 m1_ f1_, fun D_ hD => r0 D_ (by omega) _ (r1_ D_ (by omega))⟩
  · have q1_ := congrArg Int32.toInt g1
    rw [pif_t (by omega)]
    exact ⟨h1, ysm_tr m0_ m1_, SX_e H0 m1_ f1_, fun D_ hD => r0 D_ (by omega) _ (r1_ D_ (by omega))⟩
theorem i24m {k_ i_ r_ : Nat} (hk : k_ < 4) (hi_ : i_ + r_ < 24) : ((24 : Int32) * Int32.ofNat k_ + Int32.ofNat i_ + Int32.ofNat r_).toInt.toNat = 24 * k_ + i_ + r_ ∧ (0 ≤ ((24 : Int32) * Int32.ofNat k_ + Int32.ofNat i_ + Int32.ofNat r_).toInt ∧ ((24 : Int32) * Int32.ofNat k_ + Int32.ofNat i_ + Int32.ofNat r_).toInt < 96) := by
  have e_ : (24 : Int32) * Int32.ofNat k_ = Int32.ofNat (24 * k_) := (Int32.ofNat_mul 24 k_).symm
  rw [e_, i32p, i32p, i32n (by omega)]
  omega
/-- aside -/
theorem mv_a {s_ k_ i_ j_ n_ : Nat} {L_ : List Int32} (hs4 : s_ < 4) (hL : L_.length = 24) (hi_ : i_ + n_ ≤ 24) : ∀ (t_ r_ : Nat) (h_ : xH), r_ + t_ = n_ → sHp h_ → (∀ q_ y_, L_[q_]? = some y_ → bpat h_ 352 (24 * s_ + q_) = some (.int y_)) → (∀ q_ y_, q_ < r_ → L_[i_ + q_]? = some y_ → bpat h_ 353 q_ = some (.int y_)) → ∃ h', (∀ q_ y_, q_ < n_ → L_[i_ + q_]? = some y_ → bpat h' 353 q_ = some (.int y_)) ∧ ysm h_ h' ∧ (∀ c_ q_, ¬ c_ = 353 → bpat h' c_ q_ = bpat h_ c_ q_) ∧ bldD 60 230 115 [(6, .int (Int32.ofNat r_)), (0, .index 338), (1, .int (Int32.ofNat s_)), (2, .int (Int32.ofNat i_)), (3, .int (Int32.ofNat k_)), (4, .int (Int32.ofNat j_)), (5, .int (Int32.ofNat n_))] [] h_ 152 [(6, .int (Int32.ofNat 0)), (0, .index 338), (1, .int (Int32.ofNat s_)), (2, .int (Int32.ofNat i_)), (3, .int (Int32.ofNat k_)), (4, .int (Int32.ofNat j_)), (5, .int (Int32.ofNat n_))] [] h' := by
  intro t_
  induction t_ with
  | zero =>
    intro r_ h_ hr hs P_ Q_
    obtain ⟨h1, m1_, f1_, ld⟩ := mmvX (v1_ := Int32.ofNat s_) (v2 := Int32.ofNat i_) (v3 := Int32.ofNat k_) (v4_ := Int32.ofNat j_) (v5 := Int32.ofNat n_) (v6 := Int32.ofNat r_) hs (by rw [i32n (by omega), i32n (by omega)]; omega)
    exact ⟨h1, fun q_ y_ hq hy => (f1_ _ _).trans (Q_ q_ y_ (by omega) hy), m1_, fun c_ q_ _ => f1_ c_ q_, ld⟩
  | succ t_ ih_ =>
    intro r_ h_ hr hs P_ Q_
    obtain ⟨ix, bx⟩ := i24m (k_ := s_) (i_ := i_) (r_ := r_) hs4 (by omega)
    have gy : L_[i_ + r_]? = some L_[i_ + r_] := List.getElem?_eq_getElem (by omega)
    have oy := P_ (i_ + r_) _ gy
    rw [← Nat.add_assoc] at oy
    obtain ⟨h1, m1_, e1_, f1_, ld⟩ := mmvT (v1_ := Int32.ofNat s_) (v2 := Int32.ofNat i_) (v3 := Int32.ofNat k_) (v4_ := Int32.ofNat j_) (v5 := Int32.ofNat n_) (v6 := Int32.ofNat r_) hs (by rw [ix]; exact oy) bx ⟨by rw [i32n (by omega)]; omega, by rw [i32n (by omega)]; omega⟩ (by rw [i32n (by omega), i32n (by omega)]; omega)
    rw [i32t (by omega)] at e1_ f1_
    rw [i32s] at ld
    obtain ⟨h2, P2_, m2_, f2_, ld2⟩ := ih_ (r_ + 1) h1 (by omega) m1_.1 (fun q_ y_ hy => (f1_ _ _ (fun u_ => by have u_ := u_.1; omega)).trans (P_ q_ y_ hy)) (fun q_ y_ hq hy => by
      by_cases g_ : q_ = r_
      · subst g_
        rw [gy] at hy
        cases hy
        exact e1_
      · exact (f1_ _ _ (fun u_ => g_ u_.2)).trans (Q_ q_ y_ (by omega) hy))
    exact ⟨h2, P2_, ysm_tr m1_ m2_, fun c_ q_ n1_ => (f2_ c_ q_ n1_).trans (f1_ c_ q_ (fun u_ => n1_ u_.1)), fun D_ hD o H_ => ld D_ hD o (ld2 D_ hD o H_)⟩
/-- and there -/
theorem mv_b {s_ k_ i_ j_ n_ : Nat} {L_ : List Int32} (hk4 : k_ < 4) (hj : j_ + n_ ≤ 24) (hL : i_ + n_ ≤ L_.length) : ∀ (t_ r_ : Nat) (h_ : xH), r_ + t_ = n_ → sHp h_ → (∀ q_ y_, q_ < n_ → L_[i_ + q_]? = some y_ → bpat h_ 353 q_ = some (.int y_)) → (∀ q_ y_, q_ < r_ → L_[i_ + q_]? = some y_ → bpat h_ 352 (24 * k_ + j_ + q_) = some (.int y_)) → ∃ h', (∀ q_ y_, q_ < n_ → L_[i_ + q_]? = some y_ → bpat h' 352 (24 * k_ + j_ + q_) = some (.int y_)) ∧ ysm h_ h' ∧ (∀ c_ q_, ¬ (c_ = 352 ∧ (24 * k_ + j_ ≤ q_ ∧ q_ < 24 * k_ + j_ + n_)) → bpat h' c_ q_ = bpat h_ c_ q_) ∧ ∀ D_, 60 ≤ D_ → xrun D_ 230 152 [(6, .int (Int32.ofNat r_)), (0, .index 338), (1, .int (Int32.ofNat s_)), (2, .int (Int32.ofNat i_)), (3, .int (Int32.ofNat k_)), (4, .int (Int32.ofNat j_)), (5, .int (Int32.ofNat n_))] [] h_ (some (.int (Int32.ofNat n_)), h', []) := by
  intro t_
  induction t_ with
  | zero =>
    intro r_ h_ hr hs P_ Q_
    obtain ⟨h1, m1_, f1_, rr⟩ := mmvY (v1_ := Int32.ofNat s_) (v2 := Int32.ofNat i_) (v3 := Int32.ofNat k_) (v4_ := Int32.ofNat j_) (v5 := Int32.ofNat n_) (v6 := Int32.ofNat r_) hs (by rw [i32n (by omega), i32n (by omega)]; omega)
    exact ⟨h1, fun q_ y_ hq hy => (f1_ _ _).trans (Q_ q_ y_ (by omega) hy), m1_, fun c_ q_ _ => f1_ c_ q_, rr⟩
  | succ t_ ih_ =>
    intro r_ h_ hr hs P_ Q_
    obtain ⟨ix, bx⟩ := i24m (k_ := k_) (i_ := j_) (r_ := r_) hk4 (by omega)
    have gy : L_[i_ + r_]? = some L_[i_ + r_] := List.getElem?_eq_getElem (by omega)
    have oy := P_ r_ _ (by omega) gy
    obtain ⟨h1, m1_, e1_, f1_, ld⟩ := mmvU (v1_ := Int32.ofNat s_) (v2 := Int32.ofNat i_) (v3 := Int32.ofNat k_) (v4_ := Int32.ofNat j_) (v5 := Int32.ofNat n_) (v6 := Int32.ofNat r_) hs (by rw [i32t (by omega)]; exact oy) bx ⟨by rw [i32n (by omega)]; omega, by rw [i32n (by omega)]; omega⟩ (by rw [i32n (by omega), i32n (by omega)]; omega)
    rw [ix] at e1_ f1_
    rw [i32s] at ld
    obtain ⟨h2, P2_, m2_, f2_, r2⟩ := ih_ (r_ + 1) h1 (by omega) m1_.1 (fun q_ y_ hq hy => (f1_ _ _ (fun u_ => by have u_ := u_.1; omega)).trans (P_ q_ y_ hq hy)) (fun q_ y_ hq hy => by
      by_cases g_ : q_ = r_
      · subst g_
        rw [gy] at hy
        cases hy
        exact e1_
      · exact (f1_ _ _ (fun u_ => g_ (by have u_ := u_.2; omega))).trans (Q_ q_ y_ (by omega) hy))
    exact ⟨h2, P2_, ysm_tr m1_ m2_, fun c_ q_ n1_ => (f2_ c_ q_ n1_).trans (f1_ c_ q_ (fun u_ => n1_ ⟨u_.1, by have u_ := u_.2; omega⟩)), fun D_ hD => ld D_ hD _ (r2 D_ hD)⟩
theorem m_move {W_ : Nat → List Int32} {V : Nat → Int32} {h_ : xH} {z_ i_ d_ j_ n_ : Int32} (B_ : bInv bZ bIj h_) (K_ : okS W_ V) (H_ : SM W_ V h_) : ∃ h', ysm h_ h' ∧ (SM (moveF W_ V z_ i_ d_ j_ n_).1 (moveF W_ V z_ i_ d_ j_ n_).2.1 h' ∧ ∀ D_, 62 ≤ D_ → xrun D_ 230 0 [(0, .index 338), (1, .int z_), (2, .int i_), (3, .int d_), (4, .int j_), (5, .int n_)] [] h_ (some (.int (moveF W_ V z_ i_ d_ j_ n_).2.2), h', [])) := by
  obtain ⟨y_, oy⟩ := merr (k_ := 1) B_ (by omega)
  obtain ⟨y2, oy2⟩ := merr (k_ := 2) B_ (by omega)
  obtain ⟨y5, oy5⟩ := merr (k_ := 5) B_ (by omega)
  have zz := z0_
  have z3 := i3_
  unfold moveF
  obtain ⟨h0, m0_, e_⟩ := mmvA (v1_ := z_) (v2 := i_) (v3 := d_) (v4_ := j_) (v5 := n_) H_.1 oy
  rcases e_ with ⟨g1, g2, g3_, g4, f_, r_⟩ | ⟨g1, w0_, f_, r_⟩ | ⟨g1, g2, w0_, f_, r_⟩ | ⟨g1, g2, g3_, w0_, f_, r_⟩ | ⟨g1, g2, g3_, g4, w0_, f_, r_⟩
  rotate_left
  · rw [pif_f (by omega)]; exact ⟨h0, m0_, SM_e H_ m0_ f_, fun D_ hD => r_ D_ (by omega)⟩
  · rw [pif_f (by omega)]; exact ⟨h0, m0_, SM_e H_ m0_ f_, fun D_ hD => r_ D_ (by omega)⟩
  · rw [pif_f (by omega)]; exact ⟨h0, m0_, SM_e H_ m0_ f_, fun D_ hD => r_ D_ (by omega)⟩
  · rw [pif_f (by omega)]; exact ⟨h0, m0_, SM_e H_ m0_ f_, fun D_ hD => r_ D_ (by omega)⟩
  have H0 := SM_fr H_ m0_ (fun c_ j_ _ => f_ c_ j_)
  rw [pif_t ⟨⟨by omega, by omega⟩, by omega, by omega⟩]
  obtain ⟨s_, hs4, rfl, es⟩ := isS_n (z_ := z_) ⟨by omega, by omega⟩
  obtain ⟨k_, hk4, rfl, ek⟩ := isS_n (z_ := d_) ⟨by omega, by omega⟩
  obtain ⟨⟨-, -⟩, su1, su2⟩ := K_.2.2 s_ hs4
  obtain ⟨⟨-, -⟩, ku1, ku2⟩ := K_.2.2 k_ hk4
  obtain ⟨p1_, p2_, p3_⟩ := H0.2.2.2.2 s_ hs4
  obtain ⟨v1_, v2_, v3_⟩ := H0.2.2.2.2 k_ hk4
  rw [es, ek]
  have sb_ : 0 ≤ n_.toInt → (V (211 + 2 * s_) - n_).toInt = (V (211 + 2 * s_)).toInt - n_.toInt := fun u1_ => by
    have := Int32.toInt_lt n_
    rw [Int32.toInt_sub, xbm32 (by omega) (by omega)]
  have kb : 0 ≤ n_.toInt → (V (211 + 2 * k_) - n_).toInt = (V (211 + 2 * k_)).toInt - n_.toInt := fun u1_ => by
    have := Int32.toInt_lt n_
    rw [Int32.toInt_sub, xbm32 (by omega) (by omega)]
  have r0 := r_
  obtain ⟨h1, m1_, e_⟩ := mmvB (v1_ := Int32.ofNat s_) (v2 := i_) (v3 := Int32.ofNat k_) (v4_ := j_) (v5 := n_) H0.1 (by rw [es]; exact p1_) (by rw [f_]; exact oy2) (by rw [ek]; exact v1_) (by rw [f_]; exact oy) (by rw [es]; exact p2_) (by rw [ek]; exact v2_) (by rw [f_]; exact oy5) ⟨by omega, by omega⟩ ⟨by omega, by omega⟩
  have FIN : (∀ c_ q_, bpat h1 c_ q_ = bpat h0 c_ q_) → bldD 60 230 20 [(0, .index 338), (1, .int (Int32.ofNat s_)), (2, .int i_), (3, .int (Int32.ofNat k_)), (4, .int j_), (5, .int n_)] [] h0 115 [(6, .int 0), (0, .index 338), (1, .int (Int32.ofNat s_)), (2, .int i_), (3, .int (Int32.ofNat k_)), (4, .int j_), (5, .int n_)] [] h1 → ¬ (V (210 + 2 * s_)).toInt = 0 → ¬ (V (210 + 2 * k_)).toInt = 0 → V (210 + 2 * s_) = V (210 + 2 * k_) → mvP V s_ k_ i_ j_ n_ → ∃ h', ysm h_ h' ∧ (SM (pif ((V (210 + 2 * s_)).toInt = 0 ∨ (V (210 + 2 * k_)).toInt = 0) (W_, V, Int32.ofInt (-1000002)) (pif (V (210 + 2 * s_) = V (210 + 2 * k_)) (pif (mvP V s_ k_ i_ j_ n_) (upR W_ (40 + k_) (mvl (W_ (40 + s_)) (W_ (40 + k_)) i_.toInt.toNat j_.toInt.toNat n_.toInt.toNat), V, n_) (W_, V, Int32.ofInt (-1000001))) (W_, V, Int32.ofInt (-1000005)))).1 (pif ((V (210 + 2 * s_)).toInt = 0 ∨ (V (210 + 2 * k_)).toInt = 0) (W_, V, Int32.ofInt (-1000002)) (pif (V (210 + 2 * s_) = V (210 + 2 * k_)) (pif (mvP V s_ k_ i_ j_ n_) (upR W_ (40 + k_) (mvl (W_ (40 + s_)) (W_ (40 + k_)) i_.toInt.toNat j_.toInt.toNat n_.toInt.toNat), V, n_) (W_, V, Int32.ofInt (-1000001))) (W_, V, Int32.ofInt (-1000005)))).2.1 h' ∧ ∀ D_, 62 ≤ D_ → xrun D_ 230 0 [(0, .index 338), (1, .int (Int32.ofNat s_)), (2, .int i_), (3, .int (Int32.ofNat k_)), (4, .int j_), (5, .int n_)] [] h_ (some (.int (pif ((V (210 + 2 * s_)).toInt = 0 ∨ (V (210 + 2 * k_)).toInt = 0) (W_, V, Int32.ofInt (-1000002)) (pif (V (210 + 2 * s_) = V (210 + 2 * k_)) (pif (mvP V s_ k_ i_ j_ n_) (upR W_ (40 + k_) (mvl (W_ (40 + s_)) (W_ (40 + k_)) i_.toInt.toNat j_.toInt.toNat n_.toInt.toNat), V, n_) (W_, V, Int32.ofInt (-1000001))) (W_, V, Int32.ofInt (-1000005)))).2.2), h', [])) := by
    intro f1_ r1_ c1_ c2_ c3_ c4_
    rw [pif_f (by omega), pif_t c3_, pif_t c4_]
    obtain ⟨⟨c5_, c6_⟩, c7_, c8_, c9_⟩ := c4_
    have su3 := su2
    have ku3 := ku2
    have H1_ := SM_fr H0 m1_ (fun c_ q_ _ => f1_ c_ q_)
    have ei : i_ = Int32.ofNat i_.toInt.toNat := Int32.toInt_inj.mp (by rw [i32n (by omega)]; omega)
    have ej : j_ = Int32.ofNat j_.toInt.toNat := Int32.toInt_inj.mp (by rw [i32n (by omega)]; omega)
    have en : n_ = Int32.ofNat n_.toInt.toNat := Int32.toInt_inj.mp (by rw [i32n (by omega)]; omega)
    have l1 := oks_l K_ s_ hs4
    have l2 := oks_l K_ k_ hk4
    obtain ⟨w1_, w2_, w3_⟩ := H1_.2.2.2.2 k_ hk4
    have z3 := (H1_.2.2.2.2 s_ hs4).2.2
    obtain ⟨h2, P2_, m2_, f2_, ld2⟩ := mv_a (s_ := s_) (k_ := k_) (i_ := i_.toInt.toNat) (j_ := j_.toInt.toNat) (n_ := n_.toInt.toNat) hs4 l1 (by omega) n_.toInt.toNat 0 h1 (by omega) m1_.1 z3 (fun q_ y_ hq => by omega)
    obtain ⟨h3, P3, m3_, f3_, r3⟩ := mv_b (s_ := s_) (k_ := k_) (i_ := i_.toInt.toNat) (j_ := j_.toInt.toNat) (n_ := n_.toInt.toNat) hk4 (by omega) (by omega) n_.toInt.toNat 0 h2 (by omega) m2_.1 P2_ (fun q_ y_ hq => by omega)
    rw [← ei, ← ej, ← en] at ld2 r3
    have M23 := ysm_tr m2_ m3_
    refine ⟨h3, ysm_tr m0_ (ysm_tr m1_ M23), ?_, fun D_ hD => r0 D_ (by omega) _ (r1_ D_ (by omega) _ (ld2 D_ (by omega) _ (r3 D_ (by omega))))⟩
    have S_ := SM_sh (b_ := V (210 + 2 * k_)) (n_ := V (211 + 2 * k_)) (l := mvl (W_ (40 + s_)) (W_ (40 + k_)) i_.toInt.toNat j_.toInt.toNat n_.toInt.toNat) hk4 (oks_l K_) H1_ M23 (by rw [f3_ _ _ (by omega), f2_ _ _ (by omega)]; exact w1_) (by rw [f3_ _ _ (by omega), f2_ _ _ (by omega)]; exact w2_) (fun q_ y_ hy => ?_) (fun c_ q_ hc_ _ _ n3_ => by rw [f3_ c_ q_ (fun u_ => n3_ ⟨u_.1, by have u_ := u_.2; omega⟩), f2_ c_ q_ (fun u_ => by rw [u_] at hc_; exact absurd hc_ (by simp [smc]))])
    · rw [upI2_same] at S_
      exact S_
    · have lq := (List.getElem?_eq_some_iff.mp hy).1
      rcases mvl_at (by omega) (by omega) hy with ⟨⟨q1_, q2_⟩, q3_⟩ | ⟨q1_, q3_⟩
      · have u_ := P3 (q_ - j_.toInt.toNat) y_ (by omega) q3_
        rw [show 24 * k_ + j_.toInt.toNat + (q_ - j_.toInt.toNat) = 24 * k_ + q_ by omega] at u_
        exact u_
      · rw [f3_ _ _ (fun u_ => q1_ (by have u_ := u_.2; omega)), f2_ _ _ (by omega)]
        exact w3_ _ _ q3_
  rcases e_ with ⟨g1, g2, g3_, g4, g5_, g6, g7, g8, f1_, r1_⟩ | ⟨g1, w0_, f1_, r1_⟩ | ⟨g1, g2, g3_, g4, w0_, f1_, r1_⟩ | ⟨g1, g2, g3_, g4, g5_, w0_, f1_, r1_⟩ | ⟨g1, g2, g3_, g4, g5_, g6, w0_, f1_, r1_⟩ | ⟨g1, g2, g3_, g4, g5_, g6, g7, w0_, f1_, r1_⟩ | ⟨g1, g2, g3_, g4, g5_, g6, g7, g8, w0_, f1_, r1_⟩ | ⟨g1, g2, g3_, w0_, f1_, r1_⟩ | ⟨g1, g2, w0_, f1_, r1_⟩
  · have q6_ := congrArg Int32.toInt g6
    have q7_ := i32e g7
    have q8_ := i32e g8
    exact FIN f1_ r1_ (by omega) (by omega) (Int32.toInt_inj.mp (by omega)) (by unfold mvP; omega)
  · have q1_ := congrArg Int32.toInt g1
    rw [pif_t (by omega)]
    exact ⟨h1, ysm_tr m0_ m1_, SM_e H0 m1_ f1_, fun D_ hD => r0 D_ (by omega) _ (r1_ D_ (by omega))⟩
  · have q2_ := congrArg Int32.toInt g2
    have q3_ := i32e g3_
    have q4_ := i32e g4
    rw [pif_f (by omega), pif_t (Int32.toInt_inj.mp (by omega)), pif_f (by unfold mvP; omega)]
    exact ⟨h1, ysm_tr m0_ m1_, SM_e H0 m1_ f1_, fun D_ hD => r0 D_ (by omega) _ (r1_ D_ (by omega))⟩
  · have q3_ := congrArg Int32.toInt g3_
    have q4_ := i32e g4
    have q5_ := i32e g5_
    rw [pif_f (by omega), pif_t (Int32.toInt_inj.mp (by omega)), pif_f (by unfold mvP; omega)]
    exact ⟨h1, ysm_tr m0_ m1_, SM_e H0 m1_ f1_, fun D_ hD => r0 D_ (by omega) _ (r1_ D_ (by omega))⟩
  · have q4_ := congrArg Int32.toInt g4
    have q5_ := i32e g5_
    have q6_ := i32e g6
    rw [pif_f (by omega), pif_t (Int32.toInt_inj.mp (by omega)), pif_f (by unfold mvP; omega)]
    exact ⟨h1, ysm_tr m0_ m1_, SM_e H0 m1_ f1_, fun D_ hD => r0 D_ (by omega) _ (r1_ D_ (by omega))⟩
  · have q5_ := congrArg Int32.toInt g5_
    have q6_ := i32e g6
    have q7_ := i32e g7
    rw [pif_f (by omega), pif_t (Int32.toInt_inj.mp (by omega)), pif_f (by unfold mvP; omega)]
    exact ⟨h1, ysm_tr m0_ m1_, SM_e H0 m1_ f1_, fun D_ hD => r0 D_ (by omega) _ (r1_ D_ (by omega))⟩
  · have q6_ := congrArg Int32.toInt g6
    have q7_ := i32e g7
    have q8_ := i32e g8
    rw [pif_f (by omega), pif_t (Int32.toInt_inj.mp (by omega)), pif_f (by unfold mvP; omega)]
    exact ⟨h1, ysm_tr m0_ m1_, SM_e H0 m1_ f1_, fun D_ hD => r0 D_ (by omega) _ (r1_ D_ (by omega))⟩
  · have q1_ := i32e g1
    have q2_ := i32e g2
    have q3_ := i32e g3_
    rw [pif_f (by omega), pif_f (fun q_ => by have q_ := congrArg Int32.toInt q_; omega)]
    exact ⟨h1, ysm_tr m0_ m1_, SM_e H0 m1_ f1_, fun D_ hD => r0 D_ (by omega) _ (r1_ D_ (by omega))⟩
  · have q1_ := congrArg Int32.toInt g1
    have q2_ := i32e g2
    rw [pif_t (by omega)]
    exact ⟨h1, ysm_tr m0_ m1_, SM_e H0 m1_ f1_, fun D_ hD => r0 D_ (by omega) _ (r1_ D_ (by omega))⟩
