-- ===== the exact evaluator at this world: cells by their names, places of Inv
def yzl (L_ : List (Nat × Nat × Nat)) (n_ : Nat) : Option (Nat × Nat) := match L_ with
  | [] => none
  | q_ :: t_ => match Nat.beq q_.1 n_ with
    | true => some q_.2
    | false => yzl t_ n_
/-- classes and lengths: Inv's own cells below 1000, named ones by a list -/
def yZ (L_ : List (Nat × Nat × Nat)) (n_ : Nat) : Option (Nat × Nat) := match Nat.ble n_ 999 with
  | true => bzf n_
  | false => yzl L_ n_
def yg (s_ : Nat → Nat) (n_ : Nat) : Nat := match Nat.ble n_ 999 with
  | true => n_
  | false => s_ n_
theorem yg_lo {s_ : Nat → Nat} {n_ : Nat} (h_ : n_ < 1000) : yg s_ n_ = n_ := by
  unfold yg
  rw [Nat.ble_eq_true_of_le (show n_ ≤ 999 by omega)]
theorem yg_hi {s_ : Nat → Nat} {n_ : Nat} (h_ : 1000 ≤ n_) : yg s_ n_ = s_ n_ := by
  unfold yg
  rw [ble_no (show 999 < n_ by omega)]
theorem bzf_at {n_ : Nat} {z_ : Nat × Nat} (h_ : bzf n_ = some z_) : bZ[n_]? = some z_ := by
  rw [← xhg_eq]
  exact bzf_ok n_ z_ h_
theorem yzl_in {L_ : List (Nat × Nat × Nat)} {n_ : Nat} {z_ : Nat × Nat} (h_ : yzl L_ n_ = some z_) : (n_, z_) ∈ L_ := by
  induction L_ with
  | nil => cases h_
  | cons q_ t_ ih_ =>
    simp only [yzl] at h_
    cases e_ : Nat.beq q_.1 n_ with
    | true =>
      rw [e_] at h_
      cases h_
      rw [← Nat.eq_of_beq_eq_true e_]
      exact List.mem_cons_self
    | false =>
      rw [e_] at h_
      exact List.mem_cons_of_mem _ (ih_ h_)
section
variable {h_ : xH} {r_ : Nat → Value}
/-- a method run to its ends, or a stretch: what the evaluator says -/
theorem yrun {A_ : yA} {g_ : Nat → Nat} {f_ d_ mi pc : Nat} {stops : List Nat} {lo_ : xL} {st_ : List Jvm.Term} {ov : yO} {C_ : List xB} {ss : List yS} {rs : List yR} (hc_ : yev A_ f_ d_ mi stops (pc, lo_, st_, ov, C_, []) = some (ss, rs)) (hA : yas A_ r_ g_) (Hs : ysh A_.1 g_ h_) (Ho : ymem r_ g_ ov h_) (HC : ∀ q_ ∈ C_, xhold r_ q_) : yEnd A_ r_ g_ h_ d_ mi pc (ylo r_ g_ lo_) (st_.map (ysb r_ g_)) h_ (ss, rs) :=
  yev_ok hA f_ d_ mi stops (pc, lo_, st_, ov, C_, []) (ss, rs) hc_ h_ ⟨Hs, Ho, HC, rfl, fun a_ c_ hc_ => ⟨c_, hc_, rfl, rfl, fun _ _ => rfl⟩⟩
end
-- ===== stretches, plainly: cells by class and length, places by what lies there
def sHp (h_ : xH) : Prop := ∀ n_ z_, bzf n_ = some z_ → ∃ c_, h_[n_]? = some c_ ∧ c_.1 = z_.1 ∧ c_.2.length = z_.2
def bcq (h_ : xH) (a_ k_ l : Nat) : Prop := ∃ c_, h_[a_]? = some c_ ∧ c_.1 = k_ ∧ c_.2.length = l
/-- shapes are kept -/
def ysm (h_ h' : xH) : Prop := sHp h' ∧ ∀ a_ k_ l, bcq h_ a_ k_ l → bcq h' a_ k_ l
theorem bpat_some {h_ : xH} {a_ j_ : Nat} {t_ : Jvm.Term} (e_ : bpat h_ a_ j_ = some t_) : ∃ c_, h_[a_]? = some c_ ∧ c_.2[j_]? = some t_ := by
  cases hc_ : h_[a_]? with
  | none => simp only [bpat, hc_] at e_; cases e_
  | some c_ => rw [bpat_at hc_] at e_; exact ⟨c_, rfl, e_⟩
theorem bpat_of {h_ : xH} {a_ j_ : Nat} {t_ : Jvm.Term} (e_ : ∃ c_, h_[a_]? = some c_ ∧ c_.2[j_]? = some t_) : bpat h_ a_ j_ = some t_ := by
  obtain ⟨c_, c1_, c2_⟩ := e_
  rw [bpat_at c1_, c2_]
section
variable {h_ h0 : xH} {L_ : List (Nat × Nat × Nat)} {s_ : Nat → Nat} {r_ : Nat → Value} {g_ : Nat → Nat}
theorem ysh_of2 (H_ : sHp h_) (hL : ∀ q_ ∈ L_, 1000 ≤ q_.1 ∧ bcq h_ (s_ q_.1) q_.2.1 q_.2.2) : ysh (yZ L_) (yg s_) h_ := by
  intro n_ z_ hz
  unfold yZ at hz
  cases e_ : Nat.ble n_ 999 with
  | true =>
    rw [e_] at hz
    have l := Nat.le_of_ble_eq_true e_
    obtain ⟨c_, c1_, c2_, c3_⟩ := H_ n_ z_ hz
    exact ⟨c_, by rw [yg_lo (by omega)]; exact c1_, c2_, c3_⟩
  | false =>
    rw [e_] at hz
    obtain ⟨k1_, c_, c1_, c2_, c3_⟩ := hL _ (yzl_in hz)
    exact ⟨c_, by rw [yg_hi k1_]; exact c1_, c2_, c3_⟩
theorem yfr_sm {W_ : yW} (hf : yfr r_ g_ W_ h0 h_) (H_ : sHp h0) : ysm h0 h_ := by
  refine ⟨fun n_ z_ hz => ?_, fun a_ k_ l hb_ => ?_⟩
  · obtain ⟨c_, c1_, c2_, c3_⟩ := H_ n_ z_ hz
    obtain ⟨c', d1_, d2_, d3_, -⟩ := hf.2 n_ c_ c1_
    exact ⟨c', d1_, d2_.trans c2_, d3_.trans c3_⟩
  · obtain ⟨c_, c1_, c2_, c3_⟩ := hb_
    obtain ⟨c', d1_, d2_, d3_, -⟩ := hf.2 a_ c_ c1_
    exact ⟨c', d1_, d2_.trans c2_, d3_.trans c3_⟩
theorem yfr_bp {W_ : yW} (hf : yfr r_ g_ W_ h0 h_) {a_ j_ : Nat} (hw : ∀ q_ ∈ W_, ¬ (g_ q_.1 = a_ ∧ yix r_ q_.2 = j_)) : bpat h_ a_ j_ = bpat h0 a_ j_ := by
  cases e_ : h0[a_]? with
  | none =>
    have l : h0.length ≤ a_ := List.getElem?_eq_none_iff.mp e_
    have e2_ : h_[a_]? = none := List.getElem?_eq_none_iff.mpr (by rw [hf.1]; exact l)
    simp only [bpat, e_, e2_]
  | some c_ =>
    obtain ⟨c', c1_, c2_, c3_, c4_⟩ := hf.2 a_ c_ e_
    rw [bpat_at c1_, bpat_at e_, c4_ j_ hw]
theorem ysm_refl (H_ : sHp h_) : ysm h_ h_ := ⟨H_, fun _ _ _ q_ => q_⟩
theorem ysm_tr {h1 h2 : xH} (a_ : ysm h_ h1) (b_ : ysm h1 h2) : ysm h_ h2 := ⟨b_.1, fun x_ k_ l q_ => b_.2 x_ k_ l (a_.2 x_ k_ l q_)⟩
theorem bcq_of (H_ : sHp h_) {n_ : Nat} {z_ : Nat × Nat} (hz : bzf n_ = some z_) : bcq h_ n_ z_.1 z_.2 := H_ n_ z_ hz
theorem xd_ltT {a_ b_ : Jvm.Term} (h_ : xhold r_ (.lt, a_, b_, true)) : (yv r_ a_).toInt < (yv r_ b_).toInt := Int32.lt_iff_toInt_lt.mp (of_decide_eq_true (xhold_b h_))
theorem xd_ltF {a_ b_ : Jvm.Term} (h_ : xhold r_ (.lt, a_, b_, false)) : (yv r_ b_).toInt ≤ (yv r_ a_).toInt := by
  have k_ : ¬ yv r_ a_ < yv r_ b_ := of_decide_eq_false (xhold_b h_)
  rw [Int32.lt_iff_toInt_lt] at k_
  omega
theorem xd_leT {a_ b_ : Jvm.Term} (h_ : xhold r_ (.le, a_, b_, true)) : (yv r_ a_).toInt ≤ (yv r_ b_).toInt := Int32.le_iff_toInt_le.mp (of_decide_eq_true (xhold_b h_))
theorem xd_leF {a_ b_ : Jvm.Term} (h_ : xhold r_ (.le, a_, b_, false)) : (yv r_ b_).toInt < (yv r_ a_).toInt := by
  have k_ : ¬ yv r_ a_ ≤ yv r_ b_ := of_decide_eq_false (xhold_b h_)
  rw [Int32.le_iff_toInt_le] at k_
  omega
theorem xd_eqT {a_ b_ : Jvm.Term} (h_ : xhold r_ (.eq, a_, b_, true)) : yv r_ a_ = yv r_ b_ := of_decide_eq_true (xhold_b h_)
theorem xd_eqF {a_ b_ : Jvm.Term} (h_ : xhold r_ (.eq, a_, b_, false)) : ¬ yv r_ a_ = yv r_ b_ := of_decide_eq_false (xhold_b h_)
theorem xh_eqT2 {a_ b_ : Jvm.Term} (h_ : yv r_ a_ = yv r_ b_) : xhold r_ (.eq, a_, b_, true) := xhold_o (decide_eq_true h_)
theorem xh_eqF2 {a_ b_ : Jvm.Term} (h_ : ¬ yv r_ a_ = yv r_ b_) : xhold r_ (.eq, a_, b_, false) := xhold_o (decide_eq_false h_)
end
section
variable {r_ : Nat → Value} {a_ b_ : Jvm.Term}
theorem xh_ltT (h_ : (yv r_ a_).toInt < (yv r_ b_).toInt) : xhold r_ (.lt, a_, b_, true) := xhold_o (decide_eq_true (Int32.lt_iff_toInt_lt.mpr h_))
theorem xh_ltF (h_ : (yv r_ b_).toInt ≤ (yv r_ a_).toInt) : xhold r_ (.lt, a_, b_, false) := xhold_o (decide_eq_false (fun e_ => by
  have e_ : (yv r_ a_).toInt < (yv r_ b_).toInt := Int32.lt_iff_toInt_lt.mp e_
  omega))
theorem xh_leT (h_ : (yv r_ a_).toInt ≤ (yv r_ b_).toInt) : xhold r_ (.le, a_, b_, true) := xhold_o (decide_eq_true (Int32.le_iff_toInt_le.mpr h_))
theorem xh_leF (h_ : (yv r_ b_).toInt < (yv r_ a_).toInt) : xhold r_ (.le, a_, b_, false) := xhold_o (decide_eq_false (fun e_ => by
  have e_ : (yv r_ a_).toInt ≤ (yv r_ b_).toInt := Int32.le_iff_toInt_le.mp e_
  omega))
theorem xh_eqT (h_ : (yv r_ a_).toInt = (yv r_ b_).toInt) : xhold r_ (.eq, a_, b_, true) := xhold_o (decide_eq_true (Int32.toInt_inj.mp h_))
theorem xh_eqF (h_ : ¬ (yv r_ a_).toInt = (yv r_ b_).toInt) : xhold r_ (.eq, a_, b_, false) := xhold_o (decide_eq_false (fun e_ => h_ (congrArg Int32.toInt e_)))
end
