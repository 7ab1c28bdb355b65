-- ===== what is sent back are SOUNDS
theorem puZ_s (x_ : Int32) : 0 ≤ (puZ_F x_).toInt ∧ (puZ_F x_).toInt < 100 := by
  have z0 : (0 : Int32).toInt = 0 := rfl
  have z1 : (53 : Int32).toInt = 53 := rfl
  have z2 : (60 : Int32).toInt = 60 := rfl
  have z3 : (99 : Int32).toInt = 99 := rfl
  unfold puZ_F
  cases h1 : xcmb .lt x_ (0 : Int32) with
  | true => simp only [cond_true]; omega
  | false =>
    have k1_ : ¬ x_ < 0 := of_decide_eq_false h1
    rw [Int32.lt_iff_toInt_lt] at k1_
    simp only [cond_false]
    cases h2 : xcmb .le x_ (53 : Int32) with
    | true =>
      have k2_ : x_ ≤ 53 := of_decide_eq_true h2
      rw [Int32.le_iff_toInt_le] at k2_
      simp only [cond_true]
      omega
    | false =>
      simp only [cond_false]
      cases h3 : xcmb .lt x_ (60 : Int32) with
      | true => simp only [cond_true]; omega
      | false =>
        simp only [cond_false]
        cases h4 : xcmb .le x_ (99 : Int32) with
        | true =>
          have k2_ : x_ ≤ 99 := of_decide_eq_true h4
          rw [Int32.le_iff_toInt_le] at k2_
          simp only [cond_true]
          omega
        | false => simp only [cond_false]; omega
theorem sds_sdo {kd m_ : Nat} {xs l : List Int32} (S_ : sds l) : sds (sdo kd m_ xs l) := by
  have h1 : sds (mpf nay0 0 l) := sds_mpf S_ (fun j_ x_ a_ b_ => by
    unfold nay0
    split
    · exact puC_s a_ b_
    · exact ⟨a_, b_⟩)
  unfold sdo
  split
  · exact h1
  · exact sds_mpf S_ (fun j_ x_ a_ b_ => by
      unfold nay1
      split
      · split
        · exact ⟨a_, b_⟩
        · exact puC_s a_ b_
      · exact ⟨a_, b_⟩)
  · exact sds_mpf S_ (fun j_ x_ a_ b_ => by
      unfold les0
      split
      · exact ⟨a_, b_⟩
      · exact puC_s a_ b_)
  · exact sds_rvf S_
  · exact sds_kpt (Nat.le_refl _) (sds_rvf S_)
  · unfold sdt
    split
    · exact h1
    · exact sds_mpf h1 (fun j_ x_ _ _ => puZ_s _)
  · exact S_
-- ===== the reference: take
-- etk: 2 steps, 1 ends, 0 returns
def etk_L : List (Nat × Nat × Nat) := [(1001, 20, 13)]
def etk_O : yO := []
def etk_A : yA := (yZ etk_L, [], [], [], [])
def etk_C : List xB := []
def etk_ss : List yS := [(2, [(3, .int 0), (0, .index 338), (1, .arg 1), (2, .index 1001)], [], [], [], [])]
def etk_rs : List yR := []
theorem etk_w : ywa etk_A etk_ss etk_rs = true := by decide +kernel
theorem etk_k : yis (yev etk_A 3000 60 145 [2] (0, [(0, .index 338), (1, .arg 1), (2, .index 1001)], [], etk_O, etk_C, [])) etk_ss etk_rs = true := by decide +kernel
def etk_r (v1_ : Int32) (k_ : Nat) : Value := bif Nat.beq k_ 1 then .int v1_ else (.int 0)
def etk_s (a1001 : Nat) (n_ : Nat) : Nat := bif Nat.beq n_ 1001 then a1001 else (0)
theorem etk {h_ : xH} {a1001 : Nat} {v1_ : Int32} (hs : sHp h_) (k1001 : bcq h_ a1001 20 13) : ∃ h', ysm h_ h' ∧ (((∀ a_ j_ : Nat, bpat h' a_ j_ = bpat h_ a_ j_) ∧ (bldD 60 145 0 [(0, .index 338), (1, .int v1_), (2, .index a1001)] [] h_ 2 [(3, .int (0 : Int32)), (0, .index 338), (1, .int v1_), (2, .index a1001)] [] h'))) := by
  have hA : yas etk_A (etk_r v1_) (yg (etk_s a1001)) := ⟨fun q_ hq => absurd hq List.not_mem_nil, fun q_ hq => absurd hq List.not_mem_nil, fun q_ hq => absurd hq List.not_mem_nil, fun n_ hn => yg_lo hn, fun q_ hq => absurd hq List.not_mem_nil⟩
  have Hs : ysh etk_A.1 (yg (etk_s a1001)) h_ := ysh_of2 hs (List.forall_mem_cons.mpr ⟨⟨by decide, k1001⟩, fun q_ hq => absurd hq List.not_mem_nil⟩)
  have Ho : ymem (etk_r v1_) (yg (etk_s a1001)) etk_O h_ := fun q_ hq => absurd hq List.not_mem_nil
  have HC : ∀ q_ ∈ etk_C, xhold (etk_r v1_) q_ := fun q_ hq => absurd hq List.not_mem_nil
  rcases yrun (yis_ok etk_k) hA Hs Ho HC with ⟨q_, hq, h', K_, G_⟩ | ⟨q_, hq, h', K_, G_⟩
  · have e_ := List.mem_singleton.mp hq
    subst e_
    exact ⟨h', yfr_sm K_.2.2.2 hs K_.1 (ywa_s etk_w List.mem_cons_self), ⟨fun a_ j_ => yfr_bp K_.2.2.2 (fun q_ hq => absurd hq List.not_mem_nil), G_⟩⟩
  · cases hq
-- ttk: 14 steps, 1 ends, 0 returns
def ttk_L : List (Nat × Nat × Nat) := [(1001, 20, 13)]
def ttk_O : yO := [(338, .int 0, .index 339), (339, .add (.arg 1) (.arg 3), .arg 301)]
def ttk_A : yA := (yZ ttk_L, [(.add (.arg 1) (.arg 3), 768), (.arg 3, 13)], [], [], [])
def ttk_C : List xB := [(.lt, .arg 3, .int 13, true)]
def ttk_ss : List yS := [(2, [(3, .add (.arg 3) (.int 1)), (0, .index 338), (1, .arg 1), (2, .index 1001)], [], [(1001, .arg 3, .arg 301), (338, .int 0, .index 339)], [(.lt, .arg 3, .int 13, true)], [(1001, .arg 3)])]
def ttk_rs : List yR := []
theorem ttk_w : ywa ttk_A ttk_ss ttk_rs = true := by decide +kernel
theorem ttk_k : yis (yev ttk_A 3000 60 145 [2] (2, [(3, .arg 3), (0, .index 338), (1, .arg 1), (2, .index 1001)], [], ttk_O, ttk_C, [])) ttk_ss ttk_rs = true := by decide +kernel
def ttk_r (v1_ v3 v301 : Int32) (k_ : Nat) : Value := bif Nat.beq k_ 1 then .int v1_ else (bif Nat.beq k_ 3 then .int v3 else (bif Nat.beq k_ 301 then .int v301 else (.int 0)))
def ttk_s (a1001 : Nat) (n_ : Nat) : Nat := bif Nat.beq n_ 1001 then a1001 else (0)
theorem ttk {h_ : xH} {a1001 : Nat} {v1_ v3 v301 : Int32} (hs : sHp h_) (k1001 : bcq h_ a1001 20 13) (o0_ : bpat h_ 339 ((v1_ + v3)).toInt.toNat = some (.int v301)) (b0 : 0 ≤ ((v1_ + v3)).toInt ∧ ((v1_ + v3)).toInt < 768) (b1 : 0 ≤ (v3).toInt ∧ (v3).toInt < 13) (c0_ : v3.toInt < (13 : Int32).toInt) : ∃ h', ysm h_ h' ∧ (((bpat h' a1001 (v3).toInt.toNat = some (.int v301)) ∧ (∀ a_ j_ : Nat, ¬ (a_ = a1001 ∧ j_ = (v3).toInt.toNat) → bpat h' a_ j_ = bpat h_ a_ j_) ∧ (bldD 60 145 2 [(3, .int v3), (0, .index 338), (1, .int v1_), (2, .index a1001)] [] h_ 2 [(3, .int (v3 + (1 : Int32))), (0, .index 338), (1, .int v1_), (2, .index a1001)] [] h'))) := by
  have hA : yas ttk_A (ttk_r v1_ v3 v301) (yg (ttk_s a1001)) := ⟨List.forall_mem_cons.mpr ⟨b0, List.forall_mem_cons.mpr ⟨b1, fun q_ hq => absurd hq List.not_mem_nil⟩⟩, fun q_ hq => absurd hq List.not_mem_nil, fun q_ hq => absurd hq List.not_mem_nil, fun n_ hn => yg_lo hn, fun q_ hq => absurd hq List.not_mem_nil⟩
  have Hs : ysh ttk_A.1 (yg (ttk_s a1001)) h_ := ysh_of2 hs (List.forall_mem_cons.mpr ⟨⟨by decide, k1001⟩, fun q_ hq => absurd hq List.not_mem_nil⟩)
  have Ho : ymem (ttk_r v1_ v3 v301) (yg (ttk_s a1001)) ttk_O h_ := List.forall_mem_cons.mpr ⟨bpat_some (fxr_at hs.2 (show fxk fxl 338 0 = some 339 by decide +kernel)), List.forall_mem_cons.mpr ⟨bpat_some o0_, fun q_ hq => absurd hq List.not_mem_nil⟩⟩
  have HC : ∀ q_ ∈ ttk_C, xhold (ttk_r v1_ v3 v301) q_ := List.forall_mem_cons.mpr ⟨xh_ltT c0_, fun q_ hq => absurd hq List.not_mem_nil⟩
  rcases yrun (yis_ok ttk_k) hA Hs Ho HC with ⟨q_, hq, h', K_, G_⟩ | ⟨q_, hq, h', K_, G_⟩
  · have e_ := List.mem_singleton.mp hq
    subst e_
    exact ⟨h', yfr_sm K_.2.2.2 hs K_.1 (ywa_s ttk_w List.mem_cons_self), ⟨bpat_of (K_.2.1 _ List.mem_cons_self), fun a_ j_ n0_ => yfr_bp K_.2.2.2 (List.forall_mem_cons.mpr ⟨fun e_ => n0_ ⟨e_.1.symm, e_.2.symm⟩, fun q_ hq => absurd hq List.not_mem_nil⟩), G_⟩⟩
  · cases hq
-- rtk: 4 steps, 0 ends, 1 returns
def rtk_L : List (Nat × Nat × Nat) := [(1001, 20, 13)]
def rtk_O : yO := []
def rtk_A : yA := (yZ rtk_L, [], [], [], [])
def rtk_C : List xB := [(.lt, .arg 3, .int 13, false)]
def rtk_ss : List yS := []
def rtk_rs : List yR := [(none, [], [(.lt, .arg 3, .int 13, false)], [])]
theorem rtk_w : ywa rtk_A rtk_ss rtk_rs = true := by decide +kernel
theorem rtk_k : yis (yev rtk_A 3000 60 145 [] (2, [(3, .arg 3), (0, .index 338), (1, .arg 1), (2, .index 1001)], [], rtk_O, rtk_C, [])) rtk_ss rtk_rs = true := by decide +kernel
def rtk_r (v1_ v3 : Int32) (k_ : Nat) : Value := bif Nat.beq k_ 1 then .int v1_ else (bif Nat.beq k_ 3 then .int v3 else (.int 0))
def rtk_s (a1001 : Nat) (n_ : Nat) : Nat := bif Nat.beq n_ 1001 then a1001 else (0)
theorem rtk {h_ : xH} {a1001 : Nat} {v1_ v3 : Int32} (hs : sHp h_) (k1001 : bcq h_ a1001 20 13) (c0_ : (13 : Int32).toInt ≤ v3.toInt) : ∃ h', ysm h_ h' ∧ (((∀ a_ j_ : Nat, bpat h' a_ j_ = bpat h_ a_ j_) ∧ (∀ D_, 60 ≤ D_ → xrun D_ 145 2 [(3, .int v3), (0, .index 338), (1, .int v1_), (2, .index a1001)] [] h_ (none, h', [])))) := by
  have hA : yas rtk_A (rtk_r v1_ v3) (yg (rtk_s a1001)) := ⟨fun q_ hq => absurd hq List.not_mem_nil, fun q_ hq => absurd hq List.not_mem_nil, fun q_ hq => absurd hq List.not_mem_nil, fun n_ hn => yg_lo hn, fun q_ hq => absurd hq List.not_mem_nil⟩
  have Hs : ysh rtk_A.1 (yg (rtk_s a1001)) h_ := ysh_of2 hs (List.forall_mem_cons.mpr ⟨⟨by decide, k1001⟩, fun q_ hq => absurd hq List.not_mem_nil⟩)
  have Ho : ymem (rtk_r v1_ v3) (yg (rtk_s a1001)) rtk_O h_ := fun q_ hq => absurd hq List.not_mem_nil
  have HC : ∀ q_ ∈ rtk_C, xhold (rtk_r v1_ v3) q_ := List.forall_mem_cons.mpr ⟨xh_ltF c0_, fun q_ hq => absurd hq List.not_mem_nil⟩
  rcases yrun (yis_ok rtk_k) hA Hs Ho HC with ⟨q_, hq, h', K_, G_⟩ | ⟨q_, hq, h', K_, G_⟩
  · cases hq
  · have e_ := List.mem_singleton.mp hq
    subst e_
    exact ⟨h', yfr_sm K_.2.2.2 hs K_.1 (ywa_r rtk_w List.mem_cons_self), ⟨fun a_ j_ => yfr_bp K_.2.2.2 (fun q_ hq => absurd hq List.not_mem_nil), G_⟩⟩
theorem tk_lp {b_ q_ : Nat} (nb : ¬ b_ = 339) (hq : q_ + 13 ≤ 768) : ∀ (n_ i_ : Nat) (h_ : xH), i_ + n_ = 13 → sHp h_ → bcq h_ b_ 20 13 → (∀ j_, j_ < 13 → ∃ y_ : Int32, bpat h_ 339 (q_ + j_) = some (.int y_)) → (∀ j_, j_ < i_ → bpat h_ b_ j_ = bpat h_ 339 (q_ + j_)) → ∃ h', frb b_ h_ h' ∧ ((∀ j_, j_ < 13 → bpat h' b_ j_ = bpat h_ 339 (q_ + j_)) ∧ ∀ D_, 60 ≤ D_ → xrun D_ 145 2 [(3, .int (Int32.ofNat i_)), (0, .index 338), (1, .int (Int32.ofNat q_)), (2, .index b_)] [] h_ (none, h', [])) := by
  intro n_
  have z13_ : (13 : Int32).toInt = 13 := rfl
  induction n_ with
  | zero =>
    intro i_ h_ hi_ hs kb hz hd_
    obtain ⟨h1, m1_, f1_, r1_⟩ := rtk (v1_ := Int32.ofNat q_) (v3 := Int32.ofNat i_) hs kb (by rw [i32n (by omega), z13_]; omega)
    exact ⟨h1, ⟨m1_, fun c_ j_ _ => f1_ c_ j_⟩, fun j_ hj => (f1_ b_ j_).trans (hd_ j_ (by omega)), r1_⟩
  | succ n_ ih_ =>
    intro i_ h_ hi_ hs kb hz hd_
    obtain ⟨y_, hy⟩ := hz i_ (by omega)
    have eq_ : (Int32.ofNat q_ + Int32.ofNat i_).toInt = ((q_ + i_ : Nat) : Int) := by rw [i32p, i32n (by omega)]
    obtain ⟨h1, m1_, e1_, f1_, ld⟩ := ttk (v1_ := Int32.ofNat q_) (v3 := Int32.ofNat i_) (v301 := y_) hs kb (by rw [eq_]; exact hy) ⟨by rw [eq_]; omega, by rw [eq_]; omega⟩ ⟨by rw [i32n (by omega)]; omega, by rw [i32n (by omega)]; omega⟩ (by rw [i32n (by omega), z13_]; omega)
    have tn_ : (Int32.ofNat i_).toInt.toNat = i_ := by rw [i32n (by omega)]; omega
    rw [tn_] at e1_ f1_
    rw [i32s] at ld
    have g_ : ∀ j_, bpat h1 339 j_ = bpat h_ 339 j_ := fun j_ => f1_ 339 j_ (fun u_ => nb u_.1.symm)
    obtain ⟨h2, F2, d2_, r2⟩ := ih_ (i_ + 1) h1 (by omega) m1_.1 (m1_.2 _ _ _ kb) (fun j_ hj => by rw [g_]; exact hz j_ hj) (fun j_ hj => by
      by_cases u_ : j_ = i_
      · rw [u_, e1_, g_, hy]
      · rw [f1_ b_ j_ (fun w_ => u_ w_.2), g_]
        exact hd_ j_ (by omega))
    exact ⟨h2, frb_tr _ _ _ ⟨m1_, fun c_ j_ n_ => f1_ c_ j_ (fun u_ => n_ u_.1)⟩ F2, fun j_ hj => by rw [d2_ j_ hj, g_], fun D_ hD => ld D_ hD _ (r2 D_ hD)⟩
/-- a row taken, the reference -/
theorem takeM {b_ q_ : Nat} {l : List Int32} {h_ : xH} (nb : ¬ b_ = 339) (hq : q_ + 13 ≤ 768) (hs : sHp h_) (kb : bcq h_ b_ 20 13) (hl : l.length ≤ 12) (hz : ∀ j_, j_ < 13 → ∃ y_ : Int32, bpat h_ 339 (q_ + j_) = some (.int y_)) (R_ : rwm h_ 339 q_ 768 l) : ∃ h', rM b_ h' l ∧ (frb b_ h_ h' ∧ ∀ D_, 60 ≤ D_ → xrun D_ 145 0 [(0, .index 338), (1, .int (Int32.ofNat q_)), (2, .index b_)] [] h_ (none, h', [])) := by
  obtain ⟨h0, m0_, f0_, ld0⟩ := etk (v1_ := Int32.ofNat q_) hs kb
  obtain ⟨h1, F1_, d1_, r1_⟩ := tk_lp nb hq 13 0 h0 (by omega) m0_.1 (m0_.2 _ _ _ kb) (fun j_ hj => by rw [f0_]; exact hz j_ hj) (fun j_ hj => by omega)
  have F_ : frb b_ h_ h1 := frb_tr _ _ _ ⟨m0_, fun c_ j_ _ => f0_ c_ j_⟩ F1_
  refine ⟨h1, ⟨F_.1.1, ⟨F_.1.2 _ _ _ kb, ?_, fun j_ y_ hy => ?_⟩, hl⟩, F_, fun D_ hD => ld0 D_ hD _ (r1_ D_ hD)⟩
  · rw [d1_ 0 (by omega), f0_]
    exact R_.2.1
  · have hj := (List.getElem?_eq_some_iff.mp hy).1
    rw [d1_ (0 + 1 + j_) (by omega), f0_, show q_ + (0 + 1 + j_) = q_ + 1 + j_ by omega]
    exact R_.2.2 j_ y_ hy
