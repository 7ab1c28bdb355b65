-- ===== what is HEARD, over the state
def kdV (V : Nat → Int32) (k_ : Nat) : Nat := (V (10 + 3 * k_)).toInt.toNat
def mV_ (V : Nat → Int32) (k_ : Nat) : Nat := (V (11 + 3 * k_)).toInt.toNat
def nR (V : Nat → Int32) : Nat := (V 1).toInt.toNat
/-- a WAY's ROCKS -/
def wyl (z_ : Int32) : List Int32 := dgl z_.toInt.toNat (wln z_.toInt.toNat)
/-- what is HEARD of a row over a WAY -/
def hrd (W_ : Nat → List Int32) (V : Nat → Int32) (z_ : Int32) (l : List Int32) : List Int32 := hrf (kdV V) (mV_ V) (W_ 23) (wyl z_) l
theorem nat_i {x_ : Int32} {u_ : Nat} (h_ : i3b x_ u_) (hu : u_ < 2147483648) : x_ = Int32.ofNat x_.toInt.toNat ∧ x_.toInt.toNat ≤ u_ := by
  obtain ⟨h1, h2⟩ := h_
  refine ⟨Int32.toInt_inj.mp ?_, by omega⟩
  rw [i32n (by omega)]
  omega
section
variable {W_ : Nat → List Int32} {V : Nat → Int32} {h_ : xH}
theorem nR_le (K_ : okS W_ V) : nR V ≤ 8 ∧ V 1 = Int32.ofNat (nR V) := by
  have e_ := nat_i (u_ := 8) K_.1.1.1.2 (by omega)
  exact ⟨e_.2, e_.1⟩
theorem rk_b (K_ : okS W_ V) {k_ : Nat} (hk : k_ < 8) : (kdV V k_ ≤ 6 ∧ V (10 + 3 * k_) = Int32.ofNat (kdV V k_)) ∧ (mV_ V k_ ≤ 9 ∧ V (11 + 3 * k_) = Int32.ofNat (mV_ V k_)) := by
  have b_ := K_.1.2.1 k_ hk
  rw [show 0 + 10 + 3 * k_ = 10 + 3 * k_ by omega, show 0 + 11 + 3 * k_ = 11 + 3 * k_ by omega] at b_
  have e1_ := nat_i (u_ := 6) b_.1 (by omega)
  have e2_ := nat_i (u_ := 9) b_.2.1 (by omega)
  exact ⟨⟨e1_.2, e1_.1⟩, e2_.2, e2_.1⟩
theorem wrc_S (K_ : okS W_ V) : wrc (nR V) (W_ 23) := by
  have t_ := K_.1.2.2.2.2.2.2 0 (by omega)
  exact ⟨(nR_le K_).1, t_.1, t_.2.1, t_.2.2⟩
theorem wrl_S (K_ : okS W_ V) (H_ : SX W_ V h_) : wrl (nR V) (kdV V) (mV_ V) (W_ 23) h_ := by
  have n8 := (nR_le K_).1
  refine ⟨fun k_ hk => ?_, ?_⟩
  · obtain ⟨⟨a1_, a2⟩, b1, b2⟩ := rk_b (k_ := k_) K_ (by omega)
    have e0_ := SX_v H_ (rk_in (k_ := k_) (j_ := 0) (by omega) (by omega)).1
    have e1_ := SX_v H_ (rk_in (k_ := k_) (j_ := 1) (by omega) (by omega)).1
    rw [Nat.add_zero, a2] at e0_
    rw [show 10 + 3 * k_ + 1 = 11 + 3 * k_ by omega, b2] at e1_
    exact ⟨⟨a1_, b1⟩, e0_, e1_⟩
  · have R_ := SX_w H_ (show (67, 68, 60, 23) ∈ wrX by decide)
    exact ⟨R_.2.1.2, R_.2.2.2⟩
theorem yof_p {u_ : Nat} {x_ : Int32} (h_ : okx x_) : okp u_ x_ (yof u_ x_) := by
  unfold yof
  rcases h_ with h_ | ⟨j_, hj, rfl⟩ | rfl | ⟨c_, hc_, rfl⟩
  · rw [if_pos h_.2]
    exact Or.inl ⟨rfl, rfl, h_⟩
  · have e_ : (Int32.ofNat (10000 + j_)).toInt = ((10000 + j_ : Nat) : Int) := i32n (by omega)
    rw [if_neg (by omega), if_pos (by omega)]
    refine Or.inr (Or.inl ⟨j_, hj, rfl, ?_⟩)
    rw [e_, show ((10000 + j_ : Nat) : Int).toNat - 10000 = j_ by omega]
  · rw [if_neg (by decide), if_neg (by decide), if_pos rfl]
    exact Or.inr (Or.inr (Or.inl ⟨rfl, rfl⟩))
  · have k_ : jsg.all (fun c_ => (!(decide ((Int32.ofNat (20000 + c_)).toInt < 10004)) && !(decide (Int32.ofNat (20000 + c_) = 20033))) && decide (Int32.ofNat (20000 + c_) - 20000 = Int32.ofNat c_)) = true := by decide +kernel
    have k1_ := List.all_eq_true.mp k_ c_ hc_
    simp only [Bool.and_eq_true, Bool.not_eq_true', decide_eq_false_iff_not, decide_eq_true_eq] at k1_
    obtain ⟨⟨k2_, k3_⟩, k4_⟩ := k1_
    rw [if_neg (by omega), if_neg k2_, if_neg k3_, k4_]
    exact Or.inr (Or.inr (Or.inr ⟨c_, hc_, rfl, rfl⟩))
theorem txp_S (K_ : okS W_ V) : txp (W_ 23) ((W_ 23).map (yof 0)) := by
  have t_ := K_.1.2.2.2.2.2.2 0 (by omega)
  refine ⟨List.length_map .., fun j_ x_ y_ hx hy => ?_⟩
  rw [List.getElem?_map, hx] at hy
  cases hy
  exact yof_p (t_.2.1 x_ (List.mem_of_getElem? hx))
theorem wrd_S (K_ : okS W_ V) (H_ : SM W_ V h_) : wrd (nR V) (kdV V) (mV_ V) ((W_ 23).map (yof 0)) h_ := by
  have n8 := (nR_le K_).1
  refine ⟨fun k_ hk => ?_, ?_⟩
  · obtain ⟨⟨a1_, a2⟩, b1, b2⟩ := rk_b (k_ := k_) K_ (by omega)
    have e0_ := SM_v H_ (rk_in (k_ := k_) (j_ := 0) (by omega) (by omega)).2
    have e1_ := SM_v H_ (rk_in (k_ := k_) (j_ := 1) (by omega) (by omega)).2
    rw [Nat.add_zero, a2] at e0_
    rw [show 10 + 3 * k_ + 1 = 11 + 3 * k_ by omega, b2] at e1_
    refine ⟨⟨a1_, b1⟩, ?_, ?_⟩
    · show bpat h_ 339 (10 + 3 * k_ + 0) = _
      rw [Nat.add_zero]
      exact e0_
    · show bpat h_ 339 (10 + 3 * k_ + 1) = _
      rw [show 10 + 3 * k_ + 1 = 11 + 3 * k_ by omega]
      exact e1_
  · have R_ := SM_x (u_ := 0) H_ (by omega)
    refine ⟨by rw [List.length_map]; exact R_.1, fun j_ y_ hy => ?_⟩
    rw [List.getElem?_map] at hy
    cases hx : (W_ 23)[j_]? with
    | none => rw [hx] at hy; cases hy
    | some x_ =>
      rw [hx] at hy
      cases hy
      have e_ := R_.2 j_ x_ hx
      rw [show 434 + 125 * 0 + 1 + 2 * j_ = 435 + 2 * j_ by omega, show 434 + 125 * 0 + 2 + 2 * j_ = 436 + 2 * j_ by omega] at e_
      exact e_
theorem isW_l {N_ : Nat} {z_ : Int32} (g_ : isW N_ z_) (hN_ : N_ ≤ 8) : ∀ x_ ∈ wyl z_, 0 ≤ x_.toInt ∧ x_.toInt < N_ := by
  have k_ : ∀ s_, aok N_ z_.toInt.toNat s_ → ∀ x_ ∈ dgl z_.toInt.toNat s_, 0 ≤ x_.toInt ∧ x_.toInt < N_ := by
    intro s_
    induction s_ with
    | zero => intro _ x_ hx; exact absurd hx List.not_mem_nil
    | succ s_ ih_ =>
      intro a_ x_ hx
      obtain ⟨⟨a1_, a2⟩, a3⟩ := aok_s.mp a_
      rcases List.mem_cons.mp hx with rfl | hx
      · have e_ : Int32.ofNat (z_.toInt.toNat / 10 ^ s_ % 10) - 1 = Int32.ofNat (z_.toInt.toNat / 10 ^ s_ % 10 - 1) := by
          rw [show (1 : Int32) = Int32.ofNat 1 from rfl, i32w (by omega) (by omega)]
        rw [e_, i32n (by omega)]
        omega
      · exact ih_ a3 x_ hx
  exact k_ _ g_.2
/-- SOUNDS stay SOUNDS -/
theorem snd_c {y_ : Int32} (h_ : snd_ y_) : snd_ (puC_F y_) := by
  have r_ := snd_r h_
  have k_ : (List.range 100).all (fun n_ => !(decide ((Int32.ofNat n_).toInt ≤ 53) || decide (60 ≤ (Int32.ofNat n_).toInt)) || (decide (0 ≤ (puC_F (Int32.ofNat n_)).toInt) && (decide ((puC_F (Int32.ofNat n_)).toInt ≤ 53) || (decide (60 ≤ (puC_F (Int32.ofNat n_)).toInt) && decide ((puC_F (Int32.ofNat n_)).toInt ≤ 99))))) = true := by decide +kernel
  have e_ : y_ = Int32.ofNat y_.toInt.toNat := by
    refine Int32.toInt_inj.mp ?_
    rw [i32n (by omega)]
    omega
  have k1_ := List.all_eq_true.mp k_ y_.toInt.toNat (List.mem_range.mpr (by omega))
  rw [← e_] at k1_
  have g_ : (decide (y_.toInt ≤ 53) || decide (60 ≤ y_.toInt)) = true := by
    rw [Bool.or_eq_true, decide_eq_true_eq, decide_eq_true_eq]
    unfold snd_ at h_
    omega
  rw [g_, Bool.not_true, Bool.false_or] at k1_
  simp only [Bool.and_eq_true, Bool.or_eq_true, decide_eq_true_eq] at k1_
  exact k1_
theorem snds_mpf {f_ : Nat → Int32 → Int32} {i_ : Nat} {l : List Int32} (S_ : snds l) (hf : ∀ j_ x_, snd_ x_ → snd_ (f_ j_ x_)) : snds (mpf f_ i_ l) := by
  intro y_ hy
  unfold mpf at hy
  obtain ⟨j_, hj, rfl⟩ := List.mem_mapIdx.mp hy
  split
  · exact hf j_ _ (S_ _ (List.getElem_mem hj))
  · exact S_ _ (List.getElem_mem hj)
theorem snds_swp {i_ j_ : Nat} {l : List Int32} (S_ : snds l) : snds (swp i_ j_ l) := by
  unfold swp
  cases hx : l[i_]? with
  | none => exact S_
  | some x_ =>
    cases hz : l[j_]? with
    | none => exact S_
    | some z_ =>
      intro y_ hy
      rcases List.mem_or_eq_of_mem_set hy with hy | rfl
      · rcases List.mem_or_eq_of_mem_set hy with hy | rfl
        · exact S_ y_ hy
        · exact S_ _ (List.mem_of_getElem? hz)
      · exact S_ _ (List.mem_of_getElem? hx)
theorem snds_rvf : ∀ {k_ i_ : Nat} {j_ : Int} {l : List Int32}, snds l → snds (rvf k_ i_ j_ l) := by
  intro k_
  induction k_ with
  | zero => intro i_ j_ l S_; exact S_
  | succ k_ ih_ =>
    intro i_ j_ l S_
    unfold rvf
    split
    · exact ih_ (snds_swp S_)
    · exact S_
theorem snds_kpt {n_ : Nat} {l : List Int32} : ∀ {i_ : Nat}, snds l → snds (kpt n_ l i_) := by
  intro i_
  induction i_ with
  | zero => intro S_ y_ hy; exact absurd hy List.not_mem_nil
  | succ i_ ih_ =>
    intro S_
    unfold kpt
    split
    · exact ih_ S_
    · intro y_ hy
      rcases List.mem_append.mp hy with hy | hy
      · exact ih_ S_ y_ hy
      · rw [List.mem_singleton.mp hy, List.getD_eq_getElem?_getD]
        cases hx : l[i_]? with
        | none => exact ⟨by decide, Or.inl (by decide)⟩
        | some x_ => exact S_ x_ (List.mem_of_getElem? hx)
theorem snds_sdo {kd m_ : Nat} {xs l : List Int32} (S_ : snds l) : snds (sdo kd m_ xs l) := by
  have n0_ : ∀ j_ x_, snd_ x_ → snd_ (nay0 j_ x_) := fun j_ x_ q_ => by
    unfold nay0
    split
    · exact snd_c q_
    · exact q_
  have n1_ : ∀ j_ x_, snd_ x_ → snd_ (nay1 j_ x_) := fun j_ x_ q_ => by
    unfold nay1
    split
    · split
      · exact q_
      · exact snd_c q_
    · exact q_
  have n2_ : ∀ j_ x_, snd_ x_ → snd_ (les0 j_ x_) := fun j_ x_ q_ => by
    unfold les0
    split
    · exact q_
    · exact snd_c q_
  unfold sdo
  split
  · exact snds_mpf S_ n0_
  · exact snds_mpf S_ n1_
  · exact snds_mpf S_ n2_
  · exact snds_rvf S_
  · exact snds_kpt (snds_rvf S_)
  · unfold sdt
    split
    · exact snds_mpf S_ n0_
    · exact snds_mpf (snds_mpf S_ n0_) (fun j_ x_ _ => puZ_snd _)
  · exact S_
theorem snds_hrf {kd m_ : Nat → Nat} {xs : List Int32} : ∀ {ws_ l : List Int32}, snds l → snds (hrf kd m_ xs ws_ l) := by
  intro ws_
  induction ws_ with
  | nil => intro l S_; exact S_
  | cons d_ t_ ih_ => intro l S_; exact ih_ (snds_sdo S_)
end
-- ===== calls within acts
section
variable {W_ : Nat → List Int32} {V : Nat → Int32} {h_ : xH}
/-- firstWay, secondWay -/
def wyC (aw bw : Nat) : Prop := (aw = 314 ∧ bw = 315) ∨ (aw = 316 ∧ bw = 317)
/-- firstRow, secondRow -/
def rwC (a_ b_ : Nat) : Prop := (a_ = 318 ∧ b_ = 319) ∨ (a_ = 320 ∧ b_ = 321)
theorem wyC_s {aw bw : Nat} (hs : sHp h_) (hc_ : wyC aw bw) : (bcq h_ aw 6 2 ∧ bcq h_ bw 20 4) ∧ (bpat h_ aw 0 = some (.index bw) ∧ (sxc aw = false ∧ sxc bw = false)) := by
  rcases hc_ with ⟨rfl, rfl⟩ | ⟨rfl, rfl⟩
  · exact ⟨⟨bcq_of (n_ := 314) (z_ := (6, 2)) hs rfl, bcq_of (n_ := 315) (z_ := (20, 4)) hs rfl⟩, fxr_at hs.2 (show fxk fxl 314 0 = some 315 by decide +kernel), by decide, by decide⟩
  · exact ⟨⟨bcq_of (n_ := 316) (z_ := (6, 2)) hs rfl, bcq_of (n_ := 317) (z_ := (20, 4)) hs rfl⟩, fxr_at hs.2 (show fxk fxl 316 0 = some 317 by decide +kernel), by decide, by decide⟩
theorem rwC_s {a_ b_ : Nat} (hs : sHp h_) (hc_ : rwC a_ b_) : (bcq h_ a_ 6 2 ∧ bcq h_ b_ 20 12) ∧ (bpat h_ a_ 0 = some (.index b_) ∧ (sxc a_ = false ∧ sxc b_ = false)) := by
  rcases hc_ with ⟨rfl, rfl⟩ | ⟨rfl, rfl⟩
  · exact ⟨⟨bcq_of (n_ := 318) (z_ := (6, 2)) hs rfl, bcq_of (n_ := 319) (z_ := (20, 12)) hs rfl⟩, fxr_at hs.2 (show fxk fxl 318 0 = some 319 by decide +kernel), by decide, by decide⟩
  · exact ⟨⟨bcq_of (n_ := 320) (z_ := (6, 2)) hs rfl, bcq_of (n_ := 321) (z_ := (20, 12)) hs rfl⟩, fxr_at hs.2 (show fxk fxl 320 0 = some 321 by decide +kernel), by decide, by decide⟩
theorem SX_ab {a_ b_ : Nat} {h' : xH} (H_ : SX W_ V h_) (m_ : ysm h_ h') (ha_ : sxc a_ = false) (hb_ : sxc b_ = false) (f_ : ∀ c_ j_, ¬ c_ = a_ → ¬ c_ = b_ → ¬ c_ = 33 → ¬ c_ = 69 → bpat h' c_ j_ = bpat h_ c_ j_) : SX W_ V h' := SX_fr H_ m_ (fun c_ j_ hc_ => f_ c_ j_ (fun q_ => by rw [q_, ha_] at hc_; cases hc_) (fun q_ => by rw [q_, hb_] at hc_; cases hc_) (fun q_ => by rw [q_] at hc_; exact absurd hc_ (by decide)) (fun q_ => by rw [q_] at hc_; exact absurd hc_ (by decide)))
/-- a call of readWay -/
theorem c_rdw {mi pc idx ln p0_ a1_ b1 d1_ aw bw : Nat} {lo_ : xL} {s' : List Jvm.Term} {z_ : Int32} (hcd : xcd mi pc = some (.invokevirtual idx, ln, [p0_, 65, a1_, b1, d1_])) (hcc : xcc h_.length lo_ s' = true) (K_ : okS W_ V) (H_ : SX W_ V h_) (hw : wyC aw bw) : ∃ h', (SX W_ V h' ∧ frr aw bw h_ h') ∧ ((isW (nR V) z_ ∧ (rwx h' aw bw 4 (wyl z_) ∧ bldD 61 mi pc lo_ (.index aw :: .int z_ :: .index 1 :: s') h_ (pc + 3) lo_ (.int 1 :: s') h')) ∨ (¬ isW (nR V) z_ ∧ bldD 61 mi pc lo_ (.index aw :: .int z_ :: .index 1 :: s') h_ (pc + 3) lo_ (.int 0 :: s') h')) := by
  obtain ⟨⟨k1_, k2_⟩, o1, x1_, x2_⟩ := wyC_s H_.1 hw
  obtain ⟨n8, en⟩ := nR_le K_
  have W1_ : bcq h_ 1 10 15 := bcq_of (n_ := 1) (z_ := (10, 15)) H_.1 rfl
  obtain ⟨h', F_, E_⟩ := rdW (w_ := z_) n8 H_.1 k1_ k2_ o1 (by rw [← en]; exact SX_v H_ (show ((1, 10), 1) ∈ wvX by decide))
  refine ⟨h', ⟨SX_ab H_ F_.1 x1_ x2_ (fun c_ j_ n1_ n2_ _ _ => F_.2 c_ j_ n1_ n2_), F_⟩, ?_⟩
  rcases E_ with ⟨g_, R_, r_⟩ | ⟨g_, r_⟩
  · exact Or.inl ⟨g_, R_.2.1, ycv (as_ := [.int z_, .index aw]) hcd rfl W1_ rfl hcc r_⟩
  · exact Or.inr ⟨g_, ycv (as_ := [.int z_, .index aw]) hcd rfl W1_ rfl hcc r_⟩
/-- a call of hear -/
theorem c_hear {mi pc idx ln p0_ a1_ b1 d1_ aw bw a_ b_ c_ : Nat} {lo_ : xL} {s' : List Jvm.Term} {z_ : Int32} (hcd : xcd mi pc = some (.invokevirtual idx, ln, [p0_, 68, a1_, b1, d1_])) (hcc : xcc h_.length lo_ s' = true) (K_ : okS W_ V) (H_ : SX W_ V h_) (hw : wyC aw bw) (hr : rwC a_ b_) (hc_ : c_ < 12) (g_ : isW (nR V) z_) (RW : rwx h_ aw bw 4 (wyl z_)) : ∃ h', (SX W_ V h' ∧ frx a_ b_ h_ h') ∧ (rW a_ b_ h' (hrd W_ V z_ (W_ c_)) ∧ bldD 65 mi pc lo_ (.index a_ :: .index aw :: .index (34 + 2 * c_) :: .index 1 :: s') h_ (pc + 3) lo_ s' h') := by
  obtain ⟨⟨k1_, k2_⟩, o1, x1_, x2_⟩ := rwC_s H_.1 hr
  have W1_ : bcq h_ 1 10 15 := bcq_of (n_ := 1) (z_ := (10, 15)) H_.1 rfl
  have RC := SX_w H_ (cl_x hc_)
  have na : ¬ a_ = aw := by
    rcases hw with ⟨rfl, rfl⟩ | ⟨rfl, rfl⟩ <;> rcases hr with ⟨rfl, rfl⟩ | ⟨rfl, rfl⟩ <;> omega
  have n6_ : ¬ a_ = 67 := by rcases hr with ⟨rfl, rfl⟩ | ⟨rfl, rfl⟩ <;> omega
  have nb : ¬ bw = 33 := by rcases hw with ⟨rfl, rfl⟩ | ⟨rfl, rfl⟩ <;> omega
  obtain ⟨h', R_, F_, r_⟩ := hearW (wrc_S K_) na n6_ nb (isW_l g_ (nR_le K_).1) H_.1 (wrl_S K_ H_) RW RC RC.2.2.1 k1_ k2_ o1
  exact ⟨h', ⟨SX_ab H_ F_.1 x1_ x2_ F_.2, F_⟩, R_, ycv (as_ := [.index (34 + 2 * c_), .index aw, .index a_]) hcd rfl W1_ rfl hcc r_⟩
/-- row, spare, other of the reference -/
def mrC (b_ : Nat) : Prop := b_ = 342 ∨ (b_ = 343 ∨ b_ = 344)
theorem mrC_s {b_ : Nat} (hs : sHp h_) (hc_ : mrC b_) : bcq h_ b_ 20 13 ∧ ∀ j_, smc b_ j_ = false := by
  rcases hc_ with rfl | rfl | rfl
  · exact ⟨bcq_of (n_ := 342) (z_ := (20, 13)) hs rfl, fun _ => rfl⟩
  · exact ⟨bcq_of (n_ := 343) (z_ := (20, 13)) hs rfl, fun _ => rfl⟩
  · exact ⟨bcq_of (n_ := 344) (z_ := (20, 13)) hs rfl, fun _ => rfl⟩
/-- a call of isWay -/
theorem c_isw {mi pc idx ln p0_ a1_ b1 d1_ : Nat} {lo_ : xL} {s' : List Jvm.Term} {z_ : Int32} (hcd : xcd mi pc = some (.invokevirtual idx, ln, [p0_, 152, a1_, b1, d1_])) (hcc : xcc h_.length lo_ s' = true) (K_ : okS W_ V) (H_ : SM W_ V h_) : ∃ h', (SM W_ V h' ∧ frn h_ h') ∧ ((isW (nR V) z_ ∧ bldD 61 mi pc lo_ (.int z_ :: .index 338 :: s') h_ (pc + 3) lo_ (.int 1 :: s') h') ∨ (¬ isW (nR V) z_ ∧ bldD 61 mi pc lo_ (.int z_ :: .index 338 :: s') h_ (pc + 3) lo_ (.int 0 :: s') h')) := by
  obtain ⟨n8, en⟩ := nR_le K_
  have T : bcq h_ 338 12 26 := bcq_of (n_ := 338) (z_ := (12, 26)) H_.1 rfl
  obtain ⟨h', F_, E_⟩ := isM (w_ := z_) n8 H_.1 (by rw [← en]; exact SM_v H_ (show (1, 1) ∈ wvM by decide))
  refine ⟨h', ⟨SM_fr H_ F_.1 (fun c_ j_ _ => F_.2 c_ j_), F_⟩, ?_⟩
  rcases E_ with ⟨g_, r_⟩ | ⟨g_, r_⟩
  · exact Or.inl ⟨g_, ycv (as_ := [.int z_]) hcd rfl T rfl hcc r_⟩
  · exact Or.inr ⟨g_, ycv (as_ := [.int z_]) hcd rfl T rfl hcc r_⟩
theorem rwm_q {b_ q_ : Nat} {l : List Int32} (hb_ : bcq h_ b_ 20 768) (R_ : rwq h_ b_ q_ (q_ + 1) 1 l) : rwm h_ b_ q_ 768 l := ⟨hb_, R_.1, fun j_ x_ hx => by have e_ := R_.2 j_ x_ hx; rw [Nat.one_mul] at e_; exact e_⟩
/-- a call of hears -/
theorem c_hears {mi pc idx ln p0_ a1_ b1 d1_ b_ c_ : Nat} {lo_ : xL} {s' : List Jvm.Term} {z_ : Int32} (hcd : xcd mi pc = some (.invokevirtual idx, ln, [p0_, 156, a1_, b1, d1_])) (hcc : xcc h_.length lo_ s' = true) (K_ : okS W_ V) (H_ : SM W_ V h_) (hr : mrC b_) (hc_ : c_ < 12) (g_ : isW (nR V) z_) (hz : ∀ j_, j_ < 768 → ∃ y_ : Int32, bpat h_ 339 j_ = some (.int y_)) : ∃ h', (SM W_ V h' ∧ frz b_ h_ h') ∧ (rM b_ h' (hrd W_ V z_ (W_ c_)) ∧ bldD 66 mi pc lo_ (.index b_ :: .int z_ :: .int (Int32.ofNat c_) :: .index 338 :: s') h_ (pc + 3) lo_ s' h') := by
  obtain ⟨k1_, x1_⟩ := mrC_s H_.1 hr
  have T : bcq h_ 338 12 26 := bcq_of (n_ := 338) (z_ := (12, 26)) H_.1 rfl
  have Q_ : bcq h_ 339 20 768 := bcq_of (n_ := 339) (z_ := (20, 768)) H_.1 rfl
  have kc_ := K_.1.2.2.1 c_ hc_
  rw [Nat.zero_add] at kc_
  have ez : z_ = Int32.ofNat z_.toInt.toNat := by
    have := g_.1
    refine Int32.toInt_inj.mp ?_
    rw [i32n (by omega)]
    omega
  have g9 := g_.1.2
  obtain ⟨h', R_, F_, r_⟩ := hearsM (b_ := b_) (n_ := z_.toInt.toNat) (wrc_S K_) (txp_S K_) hc_ (by omega) (isW_l g_ (nR_le K_).1) H_.1 (wrd_S K_ H_) (sds_s kc_.2) k1_ kc_.1 (fun j_ hj => hz _ (by omega)) (rwm_q Q_ (by have R_ := SM_w H_ (cl_m hc_); rw [show 35 + 13 * c_ = 34 + 13 * c_ + 1 by omega] at R_; exact R_))
  rw [← ez] at r_
  refine ⟨h', ⟨SM_fr H_ F_.1 (fun c2_ j_ hc2 => F_.2 c2_ j_ (fun q_ => by rw [q_, x1_] at hc2; cases hc2) (fun q_ => by rw [q_] at hc2; exact absurd hc2 (by simp [smc])) (fun q_ => by rw [q_] at hc2; exact absurd hc2 (by simp [smc]))), F_⟩, R_, ycv (as_ := [.int (Int32.ofNat c_), .int z_, .index b_]) hcd rfl T rfl hcc r_⟩
/-- the reference's numbers are numbers -/
theorem m339 (B_ : bInv bZ bIj h_) : ∀ j_, j_ < 768 → ∃ y_ : Int32, bpat h_ 339 j_ = some (.int y_) := by
  have e_ : (List.range 768).all (fun k_ => match bIj 339 k_ with
    | some (.inl _) => true
    | _ => false) = true := by decide +kernel
  intro j_ hj
  have e1_ := List.all_eq_true.mp e_ j_ (List.mem_range.mpr hj)
  split at e1_
  · rename_i b_ hb_
    exact ⟨_, bpat_of (yint (l := b_.1) (u_ := b_.2) B_ (bzf_at (show bzf 339 = some (20, 768) from rfl)) hj hb_)⟩
  · cases e1_
end
