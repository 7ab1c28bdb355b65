-- ===== System.arraycopy from place 0 on
theorem fx_20 : fxl.all (fun u_ => match bzf u_.1 with
  | some z_ => !(Nat.beq z_.1 20)
  | none => false) = true := by decide +kernel
theorem fx_no {h_ : xH} (H_ : sHp h_) {b_ l : Nat} (hb_ : bcq h_ b_ 20 l) : ∀ q_ ∈ fxl, ¬ q_.1 = b_ := by
  intro q_ hq e_
  have k_ := List.all_eq_true.mp fx_20 q_ hq
  cases hz : bzf q_.1 with
  | none => rw [hz] at k_; exact absurd k_ Bool.false_ne_true
  | some z_ =>
    rw [hz] at k_
    have c_ := H_.1 q_.1 z_ hz
    rw [e_] at c_
    obtain ⟨c1_, d1_, d2_, d3_⟩ := c_
    obtain ⟨c2_, e1_, e2_, e3_⟩ := hb_
    rw [d1_] at e1_
    cases e1_
    have kk : z_.1 = 20 := d2_.symm.trans e2_
    have k2_ : (!(Nat.beq z_.1 20)) = true := k_
    rw [kk] at k2_
    exact absurd k2_ (by decide)
theorem yac {mi pc idx ln p0_ a1_ b1 d1_ a_ b_ la lb : Nat} {n_ : Int32} {lo_ : xL} {h_ : xH} (hcd : xcd mi pc = some (.invokestatic idx, ln, [p0_, 903, a1_, b1, d1_])) (hs : sHp h_) (ha_ : bcq h_ a_ 20 la) (hb_ : bcq h_ b_ 20 lb) (h0 : 0 ≤ n_.toInt) (h1 : n_.toInt ≤ la) (h2 : n_.toInt ≤ lb) : ∃ h', ysm h_ h' ∧ ((∀ j_, j_ < n_.toInt.toNat → bpat h' b_ j_ = bpat h_ a_ j_) ∧ ((∀ c_ j_, ¬ (c_ = b_ ∧ j_ < n_.toInt.toNat) → bpat h' c_ j_ = bpat h_ c_ j_) ∧ bldD 0 mi pc lo_ [.int n_, .int 0, .index b_, .int 0, .index a_] h_ (pc + 3) lo_ [] h')) := by
  have fx := fx_no hs hb_
  obtain ⟨c0_, c01, c02, c03⟩ := ha_
  obtain ⟨c1_, c11_, c12_, c13_⟩ := hb_
  have en : n_.toNatClampNeg = n_.toInt.toNat := rfl
  have lt_ : b_ < h_.length := (List.getElem?_eq_some_iff.mp c11_).1
  have ez : ((0 : Int32).toNatClampNeg) = 0 := rfl
  have hl : (c0_.2.take n_.toInt.toNat).length = n_.toInt.toNat := by rw [List.length_take, c03]; omega
  have ln2 : (c0_.2.take n_.toInt.toNat ++ c1_.2.drop n_.toInt.toNat).length = c1_.2.length := by
    rw [List.length_append, hl, List.length_drop, c13_]; omega
  have e1_ : (h_.set b_ (20, c0_.2.take n_.toInt.toNat ++ c1_.2.drop n_.toInt.toNat))[b_]? = some (20, c0_.2.take n_.toInt.toNat ++ c1_.2.drop n_.toInt.toNat) := List.getElem?_set_self lt_
  have e2_ : ∀ c_, ¬ c_ = b_ → (h_.set b_ (20, c0_.2.take n_.toInt.toNat ++ c1_.2.drop n_.toInt.toNat))[c_]? = h_[c_]? := fun c_ nc => List.getElem?_set_ne (fun e_ => nc e_.symm)
  have e3_ : ∀ c_ j_, ¬ c_ = b_ → bpat (h_.set b_ (20, c0_.2.take n_.toInt.toNat ++ c1_.2.drop n_.toInt.toNat)) c_ j_ = bpat h_ c_ j_ := by
    intro c_ j_ nc
    unfold bpat
    rw [e2_ c_ nc]
  have kq : ∀ x_ k_ l, bcq h_ x_ k_ l → bcq (h_.set b_ (20, c0_.2.take n_.toInt.toNat ++ c1_.2.drop n_.toInt.toNat)) x_ k_ l := by
    intro x_ k_ l hx
    by_cases g_ : x_ = b_
    · subst g_
      obtain ⟨c2_, q1_, q2_, q3_⟩ := hx
      rw [c11_] at q1_
      cases q1_
      exact ⟨_, e1_, by rw [← q2_, c12_], by rw [ln2, q3_]⟩
    · obtain ⟨c2_, q1_, q2_⟩ := hx
      exact ⟨c2_, by rw [e2_ x_ g_, q1_], q2_⟩
  refine ⟨h_.set b_ (20, c0_.2.take n_.toInt.toNat ++ c1_.2.drop n_.toInt.toNat), ⟨⟨fun m_ z_ hz => kq _ _ _ (hs.1 m_ z_ hz), fun q_ hq => ?_⟩, kq⟩, fun j_ hj => ?_, fun c_ j_ hn => ?_, fun D_ _ => bld_step hcd rfl ?_⟩
  · rw [e3_ _ _ (fx q_ hq)]
    exact hs.2 q_ hq
  · rw [bpat_at e1_, bpat_at c01]
    show (c0_.2.take n_.toInt.toNat ++ c1_.2.drop n_.toInt.toNat)[j_]? = c0_.2[j_]?
    rw [List.getElem?_append_left (by rw [hl]; exact hj), List.getElem?_take_of_lt hj]
  · by_cases g_ : c_ = b_
    · subst g_
      have hj : ¬ j_ < n_.toInt.toNat := fun q_ => hn ⟨rfl, q_⟩
      rw [bpat_at e1_, bpat_at c11_]
      show (c0_.2.take n_.toInt.toNat ++ c1_.2.drop n_.toInt.toNat)[j_]? = c1_.2[j_]?
      rw [List.getElem?_append_right (by rw [hl]; omega), hl, List.getElem?_drop, show n_.toInt.toNat + (j_ - n_.toInt.toNat) = j_ by omega]
    · exact e3_ c_ j_ g_
  · intro k_
    have f1_ : Nat.beq 903 901 = false := rfl
    have f2_ : Nat.beq 903 902 = false := rfl
    have f3_ : Nat.beq 903 903 = true := rfl
    have f4_ : ∀ b_ : Nat, xG (.index b_) = false := fun _ => rfl
    have f5_ : ∀ v_ : Int32, xG (.int v_) = false := fun _ => rfl
    have f6_ : Nat.ble 3 6 = true := rfl
    have f7_ : Nat.beq 20 20 = true := rfl
    have f8_ : decide ((0 : Int32) < 0) = false := rfl
    have f9_ : decide (n_ < 0) = false := decide_eq_false (fun q_ => by
      rw [Int32.lt_iff_toInt_lt] at q_
      have z0 : (0 : Int32).toInt = 0 := rfl
      omega)
    have g1 : Nat.ble n_.toInt.toNat c0_.2.length = true := Nat.ble_eq_true_of_le (by rw [c03]; omega)
    have g2 : Nat.ble n_.toInt.toNat c1_.2.length = true := Nat.ble_eq_true_of_le (by rw [c13_]; omega)
    simp only [xsp, List.length_cons, List.length_nil, List.all_cons, List.all_nil, f4_, f5_, f6_, Bool.not_false, Bool.true_and, Bool.and_true, xI, Bool.and_self, cond_true, f1_, f2_, f3_, cond_false, xhg_eq, c01, c11_, c02, c12_, f7_, f8_, f9_, en, ez, g1, g2, xfL_eq, xst_eq, xfN_eq, List.take_zero, List.drop_zero, List.nil_append, Nat.zero_add]
-- cp12: 16 steps, 1 ends, 0 returns
def cp12_L : List (Nat × Nat × Nat) := [(1000, 6, 2), (1001, 20, 12), (1002, 6, 2), (1003, 20, 12)]
def cp12_O : yO := [(1002, .int 1, .arg 300), (1000, .int 0, .index 1001), (1002, .int 0, .index 1003)]
def cp12_A : yA := (yZ cp12_L, [], [], [], [])
def cp12_C : List xB := []
def cp12_ss : List yS := [(30, [(0, .index 1000), (1, .index 1002)], [.op2 .fcmpg (.arg 300) (.int 12), .int 0, .index 1001, .int 0, .index 1003], [(1000, .int 1, .op2 .fcmpg (.arg 300) (.int 12)), (1000, .int 0, .index 1001), (1002, .int 0, .index 1003)], [], [(1000, .int 1)])]
def cp12_rs : List yR := []
theorem cp12_w : ywa cp12_A cp12_ss cp12_rs = true := by decide +kernel
theorem cp12_k : yis (yev cp12_A 3000 60 39 [30] (0, [(0, .index 1000), (1, .index 1002)], [], cp12_O, cp12_C, [])) cp12_ss cp12_rs = true := by decide +kernel
def cp12_r (v300 : Int32) (k_ : Nat) : Value := bif Nat.beq k_ 300 then .int v300 else (.int 0)
def cp12_s (a1000 a1001 a1002 a1003 : Nat) (n_ : Nat) : Nat := bif Nat.beq n_ 1000 then a1000 else (bif Nat.beq n_ 1001 then a1001 else (bif Nat.beq n_ 1002 then a1002 else (bif Nat.beq n_ 1003 then a1003 else (0))))
theorem cp12 {h_ : xH} {a1000 a1001 a1002 a1003 : Nat} {v300 : Int32} (hs : sHp h_) (k1000 : bcq h_ a1000 6 2) (k1001 : bcq h_ a1001 20 12) (k1002 : bcq h_ a1002 6 2) (k1003 : bcq h_ a1003 20 12) (o0_ : bpat h_ a1002 1 = some (.int v300)) (o1 : bpat h_ a1000 0 = some (.index a1001)) (o2 : bpat h_ a1002 0 = some (.index a1003)) : ∃ h', ysm h_ h' ∧ (((bpat h' a1000 1 = some (.int (if (12 : Int32) < v300 then (12 : Int32) else v300))) ∧ (∀ a_ j_ : Nat, ¬ (a_ = a1000 ∧ j_ = 1) → bpat h' a_ j_ = bpat h_ a_ j_) ∧ (bldD 60 39 0 [(0, .index a1000), (1, .index a1002)] [] h_ 30 [(0, .index a1000), (1, .index a1002)] [.int (if (12 : Int32) < v300 then (12 : Int32) else v300), .int (0 : Int32), .index a1001, .int (0 : Int32), .index a1003] h'))) := by
  have hA : yas cp12_A (cp12_r v300) (yg (cp12_s a1000 a1001 a1002 a1003)) := ⟨fun q_ hq => absurd hq List.not_mem_nil, fun q_ hq => absurd hq List.not_mem_nil, fun q_ hq => absurd hq List.not_mem_nil, fun n_ hn => yg_lo hn, fun q_ hq => absurd hq List.not_mem_nil⟩
  have Hs : ysh cp12_A.1 (yg (cp12_s a1000 a1001 a1002 a1003)) h_ := ysh_of2 hs (List.forall_mem_cons.mpr ⟨⟨by decide, k1000⟩, List.forall_mem_cons.mpr ⟨⟨by decide, k1001⟩, List.forall_mem_cons.mpr ⟨⟨by decide, k1002⟩, List.forall_mem_cons.mpr ⟨⟨by decide, k1003⟩, fun q_ hq => absurd hq List.not_mem_nil⟩⟩⟩⟩)
  have Ho : ymem (cp12_r v300) (yg (cp12_s a1000 a1001 a1002 a1003)) cp12_O h_ := List.forall_mem_cons.mpr ⟨bpat_some o0_, List.forall_mem_cons.mpr ⟨bpat_some o1, List.forall_mem_cons.mpr ⟨bpat_some o2, fun q_ hq => absurd hq List.not_mem_nil⟩⟩⟩
  have HC : ∀ q_ ∈ cp12_C, xhold (cp12_r v300) q_ := fun q_ hq => absurd hq List.not_mem_nil
  rcases yrun (yis_ok cp12_k) hA Hs Ho HC with ⟨q_, hq, h', K_, G_⟩ | ⟨q_, hq, h', K_, G_⟩
  · have e_ := List.mem_singleton.mp hq
    subst e_
    exact ⟨h', yfr_sm K_.2.2.2 hs K_.1 (ywa_s cp12_w List.mem_cons_self), ⟨bpat_of (K_.2.1 _ List.mem_cons_self), fun a_ j_ n0_ => yfr_bp K_.2.2.2 (List.forall_mem_cons.mpr ⟨fun e_ => n0_ ⟨e_.1.symm, e_.2.symm⟩, fun q_ hq => absurd hq List.not_mem_nil⟩), G_⟩⟩
  · cases hq
-- rcp12: 1 steps, 0 ends, 1 returns
def rcp12_L : List (Nat × Nat × Nat) := [(1000, 6, 2), (1002, 6, 2)]
def rcp12_O : yO := []
def rcp12_A : yA := (yZ rcp12_L, [], [], [], [])
def rcp12_C : List xB := []
def rcp12_ss : List yS := []
def rcp12_rs : List yR := [(none, [], [], [])]
theorem rcp12_w : ywa rcp12_A rcp12_ss rcp12_rs = true := by decide +kernel
theorem rcp12_k : yis (yev rcp12_A 3000 60 39 [] (33, [(0, .index 1000), (1, .index 1002)], [], rcp12_O, rcp12_C, [])) rcp12_ss rcp12_rs = true := by decide +kernel
def rcp12_r (k_ : Nat) : Value := .int 0
def rcp12_s (a1000 a1002 : Nat) (n_ : Nat) : Nat := bif Nat.beq n_ 1000 then a1000 else (bif Nat.beq n_ 1002 then a1002 else (0))
theorem rcp12 {h_ : xH} {a1000 a1002 : Nat} (hs : sHp h_) (k1000 : bcq h_ a1000 6 2) (k1002 : bcq h_ a1002 6 2) : ∃ h', ysm h_ h' ∧ (((∀ a_ j_ : Nat, bpat h' a_ j_ = bpat h_ a_ j_) ∧ (∀ D_, 60 ≤ D_ → xrun D_ 39 33 [(0, .index a1000), (1, .index a1002)] [] h_ (none, h', [])))) := by
  have hA : yas rcp12_A rcp12_r (yg (rcp12_s a1000 a1002)) := ⟨fun q_ hq => absurd hq List.not_mem_nil, fun q_ hq => absurd hq List.not_mem_nil, fun q_ hq => absurd hq List.not_mem_nil, fun n_ hn => yg_lo hn, fun q_ hq => absurd hq List.not_mem_nil⟩
  have Hs : ysh rcp12_A.1 (yg (rcp12_s a1000 a1002)) h_ := ysh_of2 hs (List.forall_mem_cons.mpr ⟨⟨by decide, k1000⟩, List.forall_mem_cons.mpr ⟨⟨by decide, k1002⟩, fun q_ hq => absurd hq List.not_mem_nil⟩⟩)
  have Ho : ymem rcp12_r (yg (rcp12_s a1000 a1002)) rcp12_O h_ := fun q_ hq => absurd hq List.not_mem_nil
  have HC : ∀ q_ ∈ rcp12_C, xhold rcp12_r q_ := fun q_ hq => absurd hq List.not_mem_nil
  rcases yrun (yis_ok rcp12_k) hA Hs Ho HC with ⟨q_, hq, h', K_, G_⟩ | ⟨q_, hq, h', K_, G_⟩
  · cases hq
  · have e_ := List.mem_singleton.mp hq
    subst e_
    exact ⟨h', yfr_sm K_.2.2.2 hs K_.1 (ywa_r rcp12_w List.mem_cons_self), ⟨fun a_ j_ => yfr_bp K_.2.2.2 (fun q_ hq => absurd hq List.not_mem_nil), G_⟩⟩
-- cp60: 16 steps, 1 ends, 0 returns
def cp60_L : List (Nat × Nat × Nat) := [(1000, 6, 2), (1001, 20, 60), (1002, 6, 2), (1003, 20, 60)]
def cp60_O : yO := [(1002, .int 1, .arg 300), (1000, .int 0, .index 1001), (1002, .int 0, .index 1003)]
def cp60_A : yA := (yZ cp60_L, [], [], [], [])
def cp60_C : List xB := []
def cp60_ss : List yS := [(30, [(0, .index 1000), (1, .index 1002)], [.op2 .fcmpg (.arg 300) (.int 60), .int 0, .index 1001, .int 0, .index 1003], [(1000, .int 1, .op2 .fcmpg (.arg 300) (.int 60)), (1000, .int 0, .index 1001), (1002, .int 0, .index 1003)], [], [(1000, .int 1)])]
def cp60_rs : List yR := []
theorem cp60_w : ywa cp60_A cp60_ss cp60_rs = true := by decide +kernel
theorem cp60_k : yis (yev cp60_A 3000 60 39 [30] (0, [(0, .index 1000), (1, .index 1002)], [], cp60_O, cp60_C, [])) cp60_ss cp60_rs = true := by decide +kernel
def cp60_r (v300 : Int32) (k_ : Nat) : Value := bif Nat.beq k_ 300 then .int v300 else (.int 0)
def cp60_s (a1000 a1001 a1002 a1003 : Nat) (n_ : Nat) : Nat := bif Nat.beq n_ 1000 then a1000 else (bif Nat.beq n_ 1001 then a1001 else (bif Nat.beq n_ 1002 then a1002 else (bif Nat.beq n_ 1003 then a1003 else (0))))
theorem cp60 {h_ : xH} {a1000 a1001 a1002 a1003 : Nat} {v300 : Int32} (hs : sHp h_) (k1000 : bcq h_ a1000 6 2) (k1001 : bcq h_ a1001 20 60) (k1002 : bcq h_ a1002 6 2) (k1003 : bcq h_ a1003 20 60) (o0_ : bpat h_ a1002 1 = some (.int v300)) (o1 : bpat h_ a1000 0 = some (.index a1001)) (o2 : bpat h_ a1002 0 = some (.index a1003)) : ∃ h', ysm h_ h' ∧ (((bpat h' a1000 1 = some (.int (if (60 : Int32) < v300 then (60 : Int32) else v300))) ∧ (∀ a_ j_ : Nat, ¬ (a_ = a1000 ∧ j_ = 1) → bpat h' a_ j_ = bpat h_ a_ j_) ∧ (bldD 60 39 0 [(0, .index a1000), (1, .index a1002)] [] h_ 30 [(0, .index a1000), (1, .index a1002)] [.int (if (60 : Int32) < v300 then (60 : Int32) else v300), .int (0 : Int32), .index a1001, .int (0 : Int32), .index a1003] h'))) := by
  have hA : yas cp60_A (cp60_r v300) (yg (cp60_s a1000 a1001 a1002 a1003)) := ⟨fun q_ hq => absurd hq List.not_mem_nil, fun q_ hq => absurd hq List.not_mem_nil, fun q_ hq => absurd hq List.not_mem_nil, fun n_ hn => yg_lo hn, fun q_ hq => absurd hq List.not_mem_nil⟩
  have Hs : ysh cp60_A.1 (yg (cp60_s a1000 a1001 a1002 a1003)) h_ := ysh_of2 hs (List.forall_mem_cons.mpr ⟨⟨by decide, k1000⟩, List.forall_mem_cons.mpr ⟨⟨by decide, k1001⟩, List.forall_mem_cons.mpr ⟨⟨by decide, k1002⟩, List.forall_mem_cons.mpr ⟨⟨by decide, k1003⟩, fun q_ hq => absurd hq List.not_mem_nil⟩⟩⟩⟩)
  have Ho : ymem (cp60_r v300) (yg (cp60_s a1000 a1001 a1002 a1003)) cp60_O h_ := List.forall_mem_cons.mpr ⟨bpat_some o0_, List.forall_mem_cons.mpr ⟨bpat_some o1, List.forall_mem_cons.mpr ⟨bpat_some o2, fun q_ hq => absurd hq List.not_mem_nil⟩⟩⟩
  have HC : ∀ q_ ∈ cp60_C, xhold (cp60_r v300) q_ := fun q_ hq => absurd hq List.not_mem_nil
  rcases yrun (yis_ok cp60_k) hA Hs Ho HC with ⟨q_, hq, h', K_, G_⟩ | ⟨q_, hq, h', K_, G_⟩
  · have e_ := List.mem_singleton.mp hq
    subst e_
    exact ⟨h', yfr_sm K_.2.2.2 hs K_.1 (ywa_s cp60_w List.mem_cons_self), ⟨bpat_of (K_.2.1 _ List.mem_cons_self), fun a_ j_ n0_ => yfr_bp K_.2.2.2 (List.forall_mem_cons.mpr ⟨fun e_ => n0_ ⟨e_.1.symm, e_.2.symm⟩, fun q_ hq => absurd hq List.not_mem_nil⟩), G_⟩⟩
  · cases hq
-- rcp60: 1 steps, 0 ends, 1 returns
def rcp60_L : List (Nat × Nat × Nat) := [(1000, 6, 2), (1002, 6, 2)]
def rcp60_O : yO := []
def rcp60_A : yA := (yZ rcp60_L, [], [], [], [])
def rcp60_C : List xB := []
def rcp60_ss : List yS := []
def rcp60_rs : List yR := [(none, [], [], [])]
theorem rcp60_w : ywa rcp60_A rcp60_ss rcp60_rs = true := by decide +kernel
theorem rcp60_k : yis (yev rcp60_A 3000 60 39 [] (33, [(0, .index 1000), (1, .index 1002)], [], rcp60_O, rcp60_C, [])) rcp60_ss rcp60_rs = true := by decide +kernel
def rcp60_r (k_ : Nat) : Value := .int 0
def rcp60_s (a1000 a1002 : Nat) (n_ : Nat) : Nat := bif Nat.beq n_ 1000 then a1000 else (bif Nat.beq n_ 1002 then a1002 else (0))
theorem rcp60 {h_ : xH} {a1000 a1002 : Nat} (hs : sHp h_) (k1000 : bcq h_ a1000 6 2) (k1002 : bcq h_ a1002 6 2) : ∃ h', ysm h_ h' ∧ (((∀ a_ j_ : Nat, bpat h' a_ j_ = bpat h_ a_ j_) ∧ (∀ D_, 60 ≤ D_ → xrun D_ 39 33 [(0, .index a1000), (1, .index a1002)] [] h_ (none, h', [])))) := by
  have hA : yas rcp60_A rcp60_r (yg (rcp60_s a1000 a1002)) := ⟨fun q_ hq => absurd hq List.not_mem_nil, fun q_ hq => absurd hq List.not_mem_nil, fun q_ hq => absurd hq List.not_mem_nil, fun n_ hn => yg_lo hn, fun q_ hq => absurd hq List.not_mem_nil⟩
  have Hs : ysh rcp60_A.1 (yg (rcp60_s a1000 a1002)) h_ := ysh_of2 hs (List.forall_mem_cons.mpr ⟨⟨by decide, k1000⟩, List.forall_mem_cons.mpr ⟨⟨by decide, k1002⟩, fun q_ hq => absurd hq List.not_mem_nil⟩⟩)
  have Ho : ymem rcp60_r (yg (rcp60_s a1000 a1002)) rcp60_O h_ := fun q_ hq => absurd hq List.not_mem_nil
  have HC : ∀ q_ ∈ rcp60_C, xhold rcp60_r q_ := fun q_ hq => absurd hq List.not_mem_nil
  rcases yrun (yis_ok rcp60_k) hA Hs Ho HC with ⟨q_, hq, h', K_, G_⟩ | ⟨q_, hq, h', K_, G_⟩
  · cases hq
  · have e_ := List.mem_singleton.mp hq
    subst e_
    exact ⟨h', yfr_sm K_.2.2.2 hs K_.1 (ywa_r rcp60_w List.mem_cons_self), ⟨fun a_ j_ => yfr_bp K_.2.2.2 (fun q_ hq => absurd hq List.not_mem_nil), G_⟩⟩
/-- Row.copyFrom, rows of 12 -/
theorem copyFrom12 {a_ b_ ia ib : Nat} {l : List Int32} {h_ : xH} (hs : sHp h_) (ka : bcq h_ a_ 6 2) (ki : bcq h_ ia 20 12) (o : bpat h_ a_ 0 = some (.index ia)) (hl : l.length ≤ 12) (R_ : rwx h_ b_ ib 12 l) : ∃ h', sHp h' ∧ (rwx h' a_ ia 12 l ∧ (ysm h_ h' ∧ ((∀ c_ j_, ¬ c_ = a_ → ¬ c_ = ia → bpat h' c_ j_ = bpat h_ c_ j_) ∧ ∀ D_, 60 ≤ D_ → xrun D_ 39 0 [(0, .index a_), (1, .index b_)] [] h_ (none, h', [])))) := by
  obtain ⟨⟨R1, R2⟩, ⟨R3, R4⟩, R5, R6⟩ := R_
  obtain ⟨h1, m1_, e1_, f1_, ld1⟩ := cp12 hs ka ki R1 R2 R4 o R3
  have en : (if (12 : Int32) < Int32.ofNat l.length then (12 : Int32) else Int32.ofNat l.length) = Int32.ofNat l.length := if_neg (fun q_ => by
    rw [Int32.lt_iff_toInt_lt, i32n (by omega)] at q_
    have z0 : (12 : Int32).toInt = 12 := rfl
    omega)
  rw [en] at e1_ ld1
  have na : ¬ a_ = ia := bcq_ne ka ki (by decide)
  have nb : ¬ a_ = ib := bcq_ne ka R2 (by decide)
  obtain ⟨h2, m2_, e2_, f2_, ld2⟩ := yac (mi := 39) (pc := 30) (lo_ := [(0, .index a_), (1, .index b_)]) (n_ := Int32.ofNat l.length) rfl m1_.1 (m1_.2 _ _ _ R2) (m1_.2 _ _ _ ki) (by rw [i32n (by omega)]; omega) (by rw [i32n (by omega)]; omega) (by rw [i32n (by omega)]; omega)
  have m12_ := ysm_tr m1_ m2_
  obtain ⟨h3, m3_, f3_, r3⟩ := rcp12 m2_.1 (m12_.2 _ _ _ ka) (m12_.2 _ _ _ R1)
  have tn_ : (Int32.ofNat l.length).toInt.toNat = l.length := by rw [i32n (by omega)]; omega
  have mm := ysm_tr m12_ m3_
  refine ⟨h3, mm.1, ⟨⟨mm.2 _ _ _ ka, mm.2 _ _ _ ki⟩, ⟨?_, ?_⟩, by omega, fun j_ x_ hx => ?_⟩, mm, fun c_ j_ n1_ n2_ => ?_, fun D_ hD => ld1 D_ hD _ (ld2 D_ (by omega) _ (r3 D_ hD))⟩
  · rw [f3_, f2_ a_ 0 (fun q_ => na q_.1), f1_ a_ 0 (fun q_ => by cases q_.2)]
    exact o
  · rw [f3_, f2_ a_ 1 (fun q_ => na q_.1)]
    exact e1_
  · have hj := (List.getElem?_eq_some_iff.mp hx).1
    rw [f3_, e2_ j_ (by rw [tn_]; exact hj), f1_ ib j_ (fun q_ => nb q_.1.symm)]
    exact R6 j_ x_ hx
  · rw [f3_, f2_ c_ j_ (fun q_ => n2_ q_.1), f1_ c_ j_ (fun q_ => n1_ q_.1)]
/-- Row.copyFrom, rows of 60 -/
theorem copyFrom60 {a_ b_ ia ib : Nat} {l : List Int32} {h_ : xH} (hs : sHp h_) (ka : bcq h_ a_ 6 2) (ki : bcq h_ ia 20 60) (o : bpat h_ a_ 0 = some (.index ia)) (hl : l.length ≤ 60) (R_ : rwx h_ b_ ib 60 l) : ∃ h', sHp h' ∧ (rwx h' a_ ia 60 l ∧ (ysm h_ h' ∧ ((∀ c_ j_, ¬ c_ = a_ → ¬ c_ = ia → bpat h' c_ j_ = bpat h_ c_ j_) ∧ ∀ D_, 60 ≤ D_ → xrun D_ 39 0 [(0, .index a_), (1, .index b_)] [] h_ (none, h', [])))) := by
  obtain ⟨⟨R1, R2⟩, ⟨R3, R4⟩, R5, R6⟩ := R_
  obtain ⟨h1, m1_, e1_, f1_, ld1⟩ := cp60 hs ka ki R1 R2 R4 o R3
  have en : (if (60 : Int32) < Int32.ofNat l.length then (60 : Int32) else Int32.ofNat l.length) = Int32.ofNat l.length := if_neg (fun q_ => by
    rw [Int32.lt_iff_toInt_lt, i32n (by omega)] at q_
    have z0 : (60 : Int32).toInt = 60 := rfl
    omega)
  rw [en] at e1_ ld1
  have na : ¬ a_ = ia := bcq_ne ka ki (by decide)
  have nb : ¬ a_ = ib := bcq_ne ka R2 (by decide)
  obtain ⟨h2, m2_, e2_, f2_, ld2⟩ := yac (mi := 39) (pc := 30) (lo_ := [(0, .index a_), (1, .index b_)]) (n_ := Int32.ofNat l.length) rfl m1_.1 (m1_.2 _ _ _ R2) (m1_.2 _ _ _ ki) (by rw [i32n (by omega)]; omega) (by rw [i32n (by omega)]; omega) (by rw [i32n (by omega)]; omega)
  have m12_ := ysm_tr m1_ m2_
  obtain ⟨h3, m3_, f3_, r3⟩ := rcp60 m2_.1 (m12_.2 _ _ _ ka) (m12_.2 _ _ _ R1)
  have tn_ : (Int32.ofNat l.length).toInt.toNat = l.length := by rw [i32n (by omega)]; omega
  have mm := ysm_tr m12_ m3_
  refine ⟨h3, mm.1, ⟨⟨mm.2 _ _ _ ka, mm.2 _ _ _ ki⟩, ⟨?_, ?_⟩, by omega, fun j_ x_ hx => ?_⟩, mm, fun c_ j_ n1_ n2_ => ?_, fun D_ hD => ld1 D_ hD _ (ld2 D_ (by omega) _ (r3 D_ hD))⟩
  · rw [f3_, f2_ a_ 0 (fun q_ => na q_.1), f1_ a_ 0 (fun q_ => by cases q_.2)]
    exact o
  · rw [f3_, f2_ a_ 1 (fun q_ => na q_.1)]
    exact e1_
  · have hj := (List.getElem?_eq_some_iff.mp hx).1
    rw [f3_, e2_ j_ (by rw [tn_]; exact hj), f1_ ib j_ (fun q_ => nb q_.1.symm)]
    exact R6 j_ x_ hx
  · rw [f3_, f2_ c_ j_ (fun q_ => n2_ q_.1), f1_ c_ j_ (fun q_ => n1_ q_.1)]
