-- cp24: 16 steps, 1 ends, 0 returns
def cp24_L : List (Nat × Nat × Nat) := [(1000, 6, 2), (1001, 20, 24), (1002, 6, 2), (1003, 20, 24)]
def cp24_O : yO := [(1002, .int 1, .arg 300), (1000, .int 0, .index 1001), (1002, .int 0, .index 1003)]
def cp24_A : yA := (yZ cp24_L, [], [], [], [])
def cp24_C : List xB := []
def cp24_ss : List yS := [(30, [(0, .index 1000), (1, .index 1002)], [.op2 .fcmpg (.arg 300) (.int 24), .int 0, .index 1001, .int 0, .index 1003], [(1000, .int 1, .op2 .fcmpg (.arg 300) (.int 24)), (1000, .int 0, .index 1001), (1002, .int 0, .index 1003)], [], [(1000, .int 1)])]
def cp24_rs : List yR := []
theorem cp24_w : ywa cp24_A cp24_ss cp24_rs = true := by decide +kernel
theorem cp24_k : yis (yev cp24_A 3000 60 39 [30] (0, [(0, .index 1000), (1, .index 1002)], [], cp24_O, cp24_C, [])) cp24_ss cp24_rs = true := by decide +kernel
def cp24_r (v300 : Int32) (k_ : Nat) : Value := bif Nat.beq k_ 300 then .int v300 else (.int 0)
def cp24_s (a1000 a1001 a1002 a1003 : Nat) (n_ : Nat) : Nat := bif Nat.beq n_ 1000 then a1000 else (bif Nat.beq n_ 1001 then a1001 else (bif Nat.beq n_ 1002 then a1002 else (bif Nat.beq n_ 1003 then a1003 else (0))))
theorem cp24 {h_ : xH} {a1000 a1001 a1002 a1003 : Nat} {v300 : Int32} (hs : sHp h_) (k1000 : bcq h_ a1000 6 2) (k1001 : bcq h_ a1001 20 24) (k1002 : bcq h_ a1002 6 2) (k1003 : bcq h_ a1003 20 24) (o0_ : bpat h_ a1002 1 = some (.int v300)) (o1 : bpat h_ a1000 0 = some (.index a1001)) (o2 : bpat h_ a1002 0 = some (.index a1003)) : ∃ h', ysm h_ h' ∧ (((bpat h' a1000 1 = some (.int (if (24 : Int32) < v300 then (24 : Int32) else v300))) ∧ (∀ a_ j_ : Nat, ¬ (a_ = a1000 ∧ j_ = 1) → bpat h' a_ j_ = bpat h_ a_ j_) ∧ (bldD 60 39 0 [(0, .index a1000), (1, .index a1002)] [] h_ 30 [(0, .index a1000), (1, .index a1002)] [.int (if (24 : Int32) < v300 then (24 : Int32) else v300), .int (0 : Int32), .index a1001, .int (0 : Int32), .index a1003] h'))) := by
  have hA : yas cp24_A (cp24_r v300) (yg (cp24_s a1000 a1001 a1002 a1003)) := ⟨fun q_ hq => absurd hq List.not_mem_nil, fun q_ hq => absurd hq List.not_mem_nil, fun q_ hq => absurd hq List.not_mem_nil, fun n_ hn => yg_lo hn, fun q_ hq => absurd hq List.not_mem_nil⟩
  have Hs : ysh cp24_A.1 (yg (cp24_s a1000 a1001 a1002 a1003)) h_ := ysh_of2 hs (List.forall_mem_cons.mpr ⟨⟨by decide, k1000⟩, List.forall_mem_cons.mpr ⟨⟨by decide, k1001⟩, List.forall_mem_cons.mpr ⟨⟨by decide, k1002⟩, List.forall_mem_cons.mpr ⟨⟨by decide, k1003⟩, fun q_ hq => absurd hq List.not_mem_nil⟩⟩⟩⟩)
  have Ho : ymem (cp24_r v300) (yg (cp24_s a1000 a1001 a1002 a1003)) cp24_O h_ := List.forall_mem_cons.mpr ⟨bpat_some o0_, List.forall_mem_cons.mpr ⟨bpat_some o1, List.forall_mem_cons.mpr ⟨bpat_some o2, fun q_ hq => absurd hq List.not_mem_nil⟩⟩⟩
  have HC : ∀ q_ ∈ cp24_C, xhold (cp24_r v300) q_ := fun q_ hq => absurd hq List.not_mem_nil
  rcases yrun (yis_ok cp24_k) hA Hs Ho HC with ⟨q_, hq, h', K_, G_⟩ | ⟨q_, hq, h', K_, G_⟩
  · have e_ := List.mem_singleton.mp hq
    subst e_
    exact ⟨h', yfr_sm K_.2.2.2 hs K_.1 (ywa_s cp24_w List.mem_cons_self), ⟨bpat_of (K_.2.1 _ List.mem_cons_self), fun a_ j_ n0_ => yfr_bp K_.2.2.2 (List.forall_mem_cons.mpr ⟨fun e_ => n0_ ⟨e_.1.symm, e_.2.symm⟩, fun q_ hq => absurd hq List.not_mem_nil⟩), G_⟩⟩
  · cases hq
-- rcp24: 1 steps, 0 ends, 1 returns
def rcp24_L : List (Nat × Nat × Nat) := [(1000, 6, 2), (1002, 6, 2)]
def rcp24_O : yO := []
def rcp24_A : yA := (yZ rcp24_L, [], [], [], [])
def rcp24_C : List xB := []
def rcp24_ss : List yS := []
def rcp24_rs : List yR := [(none, [], [], [])]
theorem rcp24_w : ywa rcp24_A rcp24_ss rcp24_rs = true := by decide +kernel
theorem rcp24_k : yis (yev rcp24_A 3000 60 39 [] (33, [(0, .index 1000), (1, .index 1002)], [], rcp24_O, rcp24_C, [])) rcp24_ss rcp24_rs = true := by decide +kernel
def rcp24_r (k_ : Nat) : Value := .int 0
def rcp24_s (a1000 a1002 : Nat) (n_ : Nat) : Nat := bif Nat.beq n_ 1000 then a1000 else (bif Nat.beq n_ 1002 then a1002 else (0))
theorem rcp24 {h_ : xH} {a1000 a1002 : Nat} (hs : sHp h_) (k1000 : bcq h_ a1000 6 2) (k1002 : bcq h_ a1002 6 2) : ∃ h', ysm h_ h' ∧ (((∀ a_ j_ : Nat, bpat h' a_ j_ = bpat h_ a_ j_) ∧ (∀ D_, 60 ≤ D_ → xrun D_ 39 33 [(0, .index a1000), (1, .index a1002)] [] h_ (none, h', [])))) := by
  have hA : yas rcp24_A rcp24_r (yg (rcp24_s a1000 a1002)) := ⟨fun q_ hq => absurd hq List.not_mem_nil, fun q_ hq => absurd hq List.not_mem_nil, fun q_ hq => absurd hq List.not_mem_nil, fun n_ hn => yg_lo hn, fun q_ hq => absurd hq List.not_mem_nil⟩
  have Hs : ysh rcp24_A.1 (yg (rcp24_s a1000 a1002)) h_ := ysh_of2 hs (List.forall_mem_cons.mpr ⟨⟨by decide, k1000⟩, List.forall_mem_cons.mpr ⟨⟨by decide, k1002⟩, fun q_ hq => absurd hq List.not_mem_nil⟩⟩)
  have Ho : ymem rcp24_r (yg (rcp24_s a1000 a1002)) rcp24_O h_ := fun q_ hq => absurd hq List.not_mem_nil
  have HC : ∀ q_ ∈ rcp24_C, xhold rcp24_r q_ := fun q_ hq => absurd hq List.not_mem_nil
  rcases yrun (yis_ok rcp24_k) hA Hs Ho HC with ⟨q_, hq, h', K_, G_⟩ | ⟨q_, hq, h', K_, G_⟩
  · cases hq
  · have e_ := List.mem_singleton.mp hq
    subst e_
    exact ⟨h', yfr_sm K_.2.2.2 hs K_.1 (ywa_r rcp24_w List.mem_cons_self), ⟨fun a_ j_ => yfr_bp K_.2.2.2 (fun q_ hq => absurd hq List.not_mem_nil), G_⟩⟩
-- cp10: 16 steps, 1 ends, 0 returns
def cp10_L : List (Nat × Nat × Nat) := [(1000, 6, 2), (1001, 20, 10), (1002, 6, 2), (1003, 20, 10)]
def cp10_O : yO := [(1002, .int 1, .arg 300), (1000, .int 0, .index 1001), (1002, .int 0, .index 1003)]
def cp10_A : yA := (yZ cp10_L, [], [], [], [])
def cp10_C : List xB := []
def cp10_ss : List yS := [(30, [(0, .index 1000), (1, .index 1002)], [.op2 .fcmpg (.arg 300) (.int 10), .int 0, .index 1001, .int 0, .index 1003], [(1000, .int 1, .op2 .fcmpg (.arg 300) (.int 10)), (1000, .int 0, .index 1001), (1002, .int 0, .index 1003)], [], [(1000, .int 1)])]
def cp10_rs : List yR := []
theorem cp10_w : ywa cp10_A cp10_ss cp10_rs = true := by decide +kernel
theorem cp10_k : yis (yev cp10_A 3000 60 39 [30] (0, [(0, .index 1000), (1, .index 1002)], [], cp10_O, cp10_C, [])) cp10_ss cp10_rs = true := by decide +kernel
def cp10_r (v300 : Int32) (k_ : Nat) : Value := bif Nat.beq k_ 300 then .int v300 else (.int 0)
def cp10_s (a1000 a1001 a1002 a1003 : Nat) (n_ : Nat) : Nat := bif Nat.beq n_ 1000 then a1000 else (bif Nat.beq n_ 1001 then a1001 else (bif Nat.beq n_ 1002 then a1002 else (bif Nat.beq n_ 1003 then a1003 else (0))))
theorem cp10 {h_ : xH} {a1000 a1001 a1002 a1003 : Nat} {v300 : Int32} (hs : sHp h_) (k1000 : bcq h_ a1000 6 2) (k1001 : bcq h_ a1001 20 10) (k1002 : bcq h_ a1002 6 2) (k1003 : bcq h_ a1003 20 10) (o0_ : bpat h_ a1002 1 = some (.int v300)) (o1 : bpat h_ a1000 0 = some (.index a1001)) (o2 : bpat h_ a1002 0 = some (.index a1003)) : ∃ h', ysm h_ h' ∧ (((bpat h' a1000 1 = some (.int (if (10 : Int32) < v300 then (10 : Int32) else v300))) ∧ (∀ a_ j_ : Nat, ¬ (a_ = a1000 ∧ j_ = 1) → bpat h' a_ j_ = bpat h_ a_ j_) ∧ (bldD 60 39 0 [(0, .index a1000), (1, .index a1002)] [] h_ 30 [(0, .index a1000), (1, .index a1002)] [.int (if (10 : Int32) < v300 then (10 : Int32) else v300), .int (0 : Int32), .index a1001, .int (0 : Int32), .index a1003] h'))) := by
  have hA : yas cp10_A (cp10_r v300) (yg (cp10_s a1000 a1001 a1002 a1003)) := ⟨fun q_ hq => absurd hq List.not_mem_nil, fun q_ hq => absurd hq List.not_mem_nil, fun q_ hq => absurd hq List.not_mem_nil, fun n_ hn => yg_lo hn, fun q_ hq => absurd hq List.not_mem_nil⟩
  have Hs : ysh cp10_A.1 (yg (cp10_s a1000 a1001 a1002 a1003)) h_ := ysh_of2 hs (List.forall_mem_cons.mpr ⟨⟨by decide, k1000⟩, List.forall_mem_cons.mpr ⟨⟨by decide, k1001⟩, List.forall_mem_cons.mpr ⟨⟨by decide, k1002⟩, List.forall_mem_cons.mpr ⟨⟨by decide, k1003⟩, fun q_ hq => absurd hq List.not_mem_nil⟩⟩⟩⟩)
  have Ho : ymem (cp10_r v300) (yg (cp10_s a1000 a1001 a1002 a1003)) cp10_O h_ := List.forall_mem_cons.mpr ⟨bpat_some o0_, List.forall_mem_cons.mpr ⟨bpat_some o1, List.forall_mem_cons.mpr ⟨bpat_some o2, fun q_ hq => absurd hq List.not_mem_nil⟩⟩⟩
  have HC : ∀ q_ ∈ cp10_C, xhold (cp10_r v300) q_ := fun q_ hq => absurd hq List.not_mem_nil
  rcases yrun (yis_ok cp10_k) hA Hs Ho HC with ⟨q_, hq, h', K_, G_⟩ | ⟨q_, hq, h', K_, G_⟩
  · have e_ := List.mem_singleton.mp hq
    subst e_
    exact ⟨h', yfr_sm K_.2.2.2 hs K_.1 (ywa_s cp10_w List.mem_cons_self), ⟨bpat_of (K_.2.1 _ List.mem_cons_self), fun a_ j_ n0_ => yfr_bp K_.2.2.2 (List.forall_mem_cons.mpr ⟨fun e_ => n0_ ⟨e_.1.symm, e_.2.symm⟩, fun q_ hq => absurd hq List.not_mem_nil⟩), G_⟩⟩
  · cases hq
-- rcp10: 1 steps, 0 ends, 1 returns
def rcp10_L : List (Nat × Nat × Nat) := [(1000, 6, 2), (1002, 6, 2)]
def rcp10_O : yO := []
def rcp10_A : yA := (yZ rcp10_L, [], [], [], [])
def rcp10_C : List xB := []
def rcp10_ss : List yS := []
def rcp10_rs : List yR := [(none, [], [], [])]
theorem rcp10_w : ywa rcp10_A rcp10_ss rcp10_rs = true := by decide +kernel
theorem rcp10_k : yis (yev rcp10_A 3000 60 39 [] (33, [(0, .index 1000), (1, .index 1002)], [], rcp10_O, rcp10_C, [])) rcp10_ss rcp10_rs = true := by decide +kernel
def rcp10_r (k_ : Nat) : Value := .int 0
def rcp10_s (a1000 a1002 : Nat) (n_ : Nat) : Nat := bif Nat.beq n_ 1000 then a1000 else (bif Nat.beq n_ 1002 then a1002 else (0))
theorem rcp10 {h_ : xH} {a1000 a1002 : Nat} (hs : sHp h_) (k1000 : bcq h_ a1000 6 2) (k1002 : bcq h_ a1002 6 2) : ∃ h', ysm h_ h' ∧ (((∀ a_ j_ : Nat, bpat h' a_ j_ = bpat h_ a_ j_) ∧ (∀ D_, 60 ≤ D_ → xrun D_ 39 33 [(0, .index a1000), (1, .index a1002)] [] h_ (none, h', [])))) := by
  have hA : yas rcp10_A rcp10_r (yg (rcp10_s a1000 a1002)) := ⟨fun q_ hq => absurd hq List.not_mem_nil, fun q_ hq => absurd hq List.not_mem_nil, fun q_ hq => absurd hq List.not_mem_nil, fun n_ hn => yg_lo hn, fun q_ hq => absurd hq List.not_mem_nil⟩
  have Hs : ysh rcp10_A.1 (yg (rcp10_s a1000 a1002)) h_ := ysh_of2 hs (List.forall_mem_cons.mpr ⟨⟨by decide, k1000⟩, List.forall_mem_cons.mpr ⟨⟨by decide, k1002⟩, fun q_ hq => absurd hq List.not_mem_nil⟩⟩)
  have Ho : ymem rcp10_r (yg (rcp10_s a1000 a1002)) rcp10_O h_ := fun q_ hq => absurd hq List.not_mem_nil
  have HC : ∀ q_ ∈ rcp10_C, xhold rcp10_r q_ := fun q_ hq => absurd hq List.not_mem_nil
  rcases yrun (yis_ok rcp10_k) hA Hs Ho HC with ⟨q_, hq, h', K_, G_⟩ | ⟨q_, hq, h', K_, G_⟩
  · cases hq
  · have e_ := List.mem_singleton.mp hq
    subst e_
    exact ⟨h', yfr_sm K_.2.2.2 hs K_.1 (ywa_r rcp10_w List.mem_cons_self), ⟨fun a_ j_ => yfr_bp K_.2.2.2 (fun q_ hq => absurd hq List.not_mem_nil), G_⟩⟩
/-- Row.copyFrom, rows of 24 -/
theorem copyFrom24 {a_ b_ ia ib : Nat} {l : List Int32} {h_ : xH} (hs : sHp h_) (ka : bcq h_ a_ 6 2) (ki : bcq h_ ia 20 24) (o : bpat h_ a_ 0 = some (.index ia)) (hl : l.length ≤ 24) (R_ : rwx h_ b_ ib 24 l) : ∃ h', sHp h' ∧ (rwx h' a_ ia 24 l ∧ (ysm h_ h' ∧ ((∀ c_ j_, ¬ c_ = a_ → ¬ c_ = ia → bpat h' c_ j_ = bpat h_ c_ j_) ∧ ∀ D_, 60 ≤ D_ → xrun D_ 39 0 [(0, .index a_), (1, .index b_)] [] h_ (none, h', [])))) := by
  obtain ⟨⟨R1, R2⟩, ⟨R3, R4⟩, R5, R6⟩ := R_
  obtain ⟨h1, m1_, e1_, f1_, ld1⟩ := cp24 hs ka ki R1 R2 R4 o R3
  have en : (if (24 : Int32) < Int32.ofNat l.length then (24 : Int32) else Int32.ofNat l.length) = Int32.ofNat l.length := if_neg (fun q_ => by
    rw [Int32.lt_iff_toInt_lt, i32n (by omega)] at q_
    have z0 : (24 : Int32).toInt = 24 := rfl
    omega)
  rw [en] at e1_ ld1
  have na : ¬ a_ = ia := bcq_ne ka ki (by decide)
  have nb : ¬ a_ = ib := bcq_ne ka R2 (by decide)
  obtain ⟨h2, m2_, e2_, f2_, ld2⟩ := yac (mi := 39) (pc := 30) (lo_ := [(0, .index a_), (1, .index b_)]) (n_ := Int32.ofNat l.length) rfl m1_.1 (m1_.2 _ _ _ R2) (m1_.2 _ _ _ ki) (by rw [i32n (by omega)]; omega) (by rw [i32n (by omega)]; omega) (by rw [i32n (by omega)]; omega)
  have m12_ := ysm_tr m1_ m2_
  obtain ⟨h3, m3_, f3_, r3⟩ := rcp24 m2_.1 (m12_.2 _ _ _ ka) (m12_.2 _ _ _ R1)
  have tn_ : (Int32.ofNat l.length).toInt.toNat = l.length := by rw [i32n (by omega)]; omega
  have mm := ysm_tr m12_ m3_
  refine ⟨h3, mm.1, ⟨⟨mm.2 _ _ _ ka, mm.2 _ _ _ ki⟩, ⟨?_, ?_⟩, by omega, fun j_ x_ hx => ?_⟩, mm, fun c_ j_ n1_ n2_ => ?_, fun D_ hD => ld1 D_ hD _ (ld2 D_ (by omega) _ (r3 D_ hD))⟩
  · rw [f3_, f2_ a_ 0 (fun q_ => na q_.1), f1_ a_ 0 (fun q_ => by cases q_.2)]
    exact o
  · rw [f3_, f2_ a_ 1 (fun q_ => na q_.1)]
    exact e1_
  · have hj := (List.getElem?_eq_some_iff.mp hx).1
    rw [f3_, e2_ j_ (by rw [tn_]; exact hj), f1_ ib j_ (fun q_ => nb q_.1.symm)]
    exact R6 j_ x_ hx
  · rw [f3_, f2_ c_ j_ (fun q_ => n2_ q_.1), f1_ c_ j_ (fun q_ => n1_ q_.1)]
/-- Row.copyFrom, rows of 10 -/
theorem copyFrom10 {a_ b_ ia ib : Nat} {l : List Int32} {h_ : xH} (hs : sHp h_) (ka : bcq h_ a_ 6 2) (ki : bcq h_ ia 20 10) (o : bpat h_ a_ 0 = some (.index ia)) (hl : l.length ≤ 10) (R_ : rwx h_ b_ ib 10 l) : ∃ h', sHp h' ∧ (rwx h' a_ ia 10 l ∧ (ysm h_ h' ∧ ((∀ c_ j_, ¬ c_ = a_ → ¬ c_ = ia → bpat h' c_ j_ = bpat h_ c_ j_) ∧ ∀ D_, 60 ≤ D_ → xrun D_ 39 0 [(0, .index a_), (1, .index b_)] [] h_ (none, h', [])))) := by
  obtain ⟨⟨R1, R2⟩, ⟨R3, R4⟩, R5, R6⟩ := R_
  obtain ⟨h1, m1_, e1_, f1_, ld1⟩ := cp10 hs ka ki R1 R2 R4 o R3
  have en : (if (10 : Int32) < Int32.ofNat l.length then (10 : Int32) else Int32.ofNat l.length) = Int32.ofNat l.length := if_neg (fun q_ => by
    rw [Int32.lt_iff_toInt_lt, i32n (by omega)] at q_
    have z0 : (10 : Int32).toInt = 10 := rfl
    omega)
  rw [en] at e1_ ld1
  have na : ¬ a_ = ia := bcq_ne ka ki (by decide)
  have nb : ¬ a_ = ib := bcq_ne ka R2 (by decide)
  obtain ⟨h2, m2_, e2_, f2_, ld2⟩ := yac (mi := 39) (pc := 30) (lo_ := [(0, .index a_), (1, .index b_)]) (n_ := Int32.ofNat l.length) rfl m1_.1 (m1_.2 _ _ _ R2) (m1_.2 _ _ _ ki) (by rw [i32n (by omega)]; omega) (by rw [i32n (by omega)]; omega) (by rw [i32n (by omega)]; omega)
  have m12_ := ysm_tr m1_ m2_
  obtain ⟨h3, m3_, f3_, r3⟩ := rcp10 m2_.1 (m12_.2 _ _ _ ka) (m12_.2 _ _ _ R1)
  have tn_ : (Int32.ofNat l.length).toInt.toNat = l.length := by rw [i32n (by omega)]; omega
  have mm := ysm_tr m12_ m3_
  refine ⟨h3, mm.1, ⟨⟨mm.2 _ _ _ ka, mm.2 _ _ _ ki⟩, ⟨?_, ?_⟩, by omega, fun j_ x_ hx => ?_⟩, mm, fun c_ j_ n1_ n2_ => ?_, fun D_ hD => ld1 D_ hD _ (ld2 D_ (by omega) _ (r3 D_ hD))⟩
  · rw [f3_, f2_ a_ 0 (fun q_ => na q_.1), f1_ a_ 0 (fun q_ => by cases q_.2)]
    exact o
  · rw [f3_, f2_ a_ 1 (fun q_ => na q_.1)]
    exact e1_
  · have hj := (List.getElem?_eq_some_iff.mp hx).1
    rw [f3_, e2_ j_ (by rw [tn_]; exact hj), f1_ ib j_ (fun q_ => nb q_.1.symm)]
    exact R6 j_ x_ hx
  · rw [f3_, f2_ c_ j_ (fun q_ => n2_ q_.1), f1_ c_ j_ (fun q_ => n1_ q_.1)]
-- ===== a world becomes another one
def wo_ (o : Nat) : Prop := o = 0 ∨ o = 73
theorem wo_k : [0, 73].all (fun o => ((List.range 12).all (fun c_ => decide (fxk fxl (2 + o) c_ = some (34 + o + 2 * c_)) && (decide (bzf (34 + o + 2 * c_) = some (6, 2)) && decide (bzf (35 + o + 2 * c_) = some (20, 12)))) && ((List.range 8).all (fun k_ => decide (fxk fxl (3 + o) k_ = some (58 + o + k_)) && decide (bzf (58 + o + k_) = some (5, 3))) && ((List.range 2).all (fun u_ => (decide (fxk fxl (4 + o) u_ = some (66 + o + 4 * u_)) && decide (fxk fxl (66 + o + 4 * u_) 0 = some (67 + o + 4 * u_))) && (decide (bzf (66 + o + 4 * u_) = some (9, 2)) && (decide (bzf (67 + o + 4 * u_) = some (6, 2)) && decide (bzf (68 + o + 4 * u_) = some (20, 60))))) && (List.range 8).all (fun i_ => decide (fxk fxl (16 + o) i_ = some (17 + o + 2 * i_)) && (decide (bzf (17 + o + 2 * i_) = some (6, 2)) && decide (bzf (18 + o + 2 * i_) = some (20, 12)))))))) = true := by decide +kernel
section
variable {h_ : xH} {o_ : Nat}
theorem wo_c (hs : sHp h_) (ho : wo_ o_) {c_ : Nat} (hc_ : c_ < 12) : bpat h_ (2 + o_) c_ = some (.index (34 + o_ + 2 * c_)) ∧ (bcq h_ (34 + o_ + 2 * c_) 6 2 ∧ bcq h_ (35 + o_ + 2 * c_) 20 12) := by
  have k_ := wo_k
  simp only [List.all_cons, List.all_nil, Bool.and_eq_true] at k_
  have q_ : (List.range 12).all (fun c_ => decide (fxk fxl (2 + o_) c_ = some (34 + o_ + 2 * c_)) && (decide (bzf (34 + o_ + 2 * c_) = some (6, 2)) && decide (bzf (35 + o_ + 2 * c_) = some (20, 12)))) = true := by
    rcases ho with rfl | rfl
    · exact k_.1.1
    · exact k_.2.1.1
  have e_ := List.all_eq_true.mp q_ c_ (List.mem_range.mpr hc_)
  simp only [Bool.and_eq_true, decide_eq_true_eq] at e_
  exact ⟨fxr_at hs.2 e_.1, bcq_of hs e_.2.1, bcq_of hs e_.2.2⟩
theorem wo_r (hs : sHp h_) (ho : wo_ o_) {k_ : Nat} (hk : k_ < 8) : bpat h_ (3 + o_) k_ = some (.index (58 + o_ + k_)) ∧ bcq h_ (58 + o_ + k_) 5 3 := by
  have z_ := wo_k
  simp only [List.all_cons, List.all_nil, Bool.and_eq_true] at z_
  have q_ : (List.range 8).all (fun k_ => decide (fxk fxl (3 + o_) k_ = some (58 + o_ + k_)) && decide (bzf (58 + o_ + k_) = some (5, 3))) = true := by
    rcases ho with rfl | rfl
    · exact z_.1.2.1
    · exact z_.2.1.2.1
  have e_ := List.all_eq_true.mp q_ k_ (List.mem_range.mpr hk)
  simp only [Bool.and_eq_true, decide_eq_true_eq] at e_
  exact ⟨fxr_at hs.2 e_.1, bcq_of hs e_.2⟩
theorem wo_t (hs : sHp h_) (ho : wo_ o_) {u_ : Nat} (hu : u_ < 2) : (bpat h_ (4 + o_) u_ = some (.index (66 + o_ + 4 * u_)) ∧ bpat h_ (66 + o_ + 4 * u_) 0 = some (.index (67 + o_ + 4 * u_))) ∧ (bcq h_ (66 + o_ + 4 * u_) 9 2 ∧ (bcq h_ (67 + o_ + 4 * u_) 6 2 ∧ bcq h_ (68 + o_ + 4 * u_) 20 60)) := by
  have z_ := wo_k
  simp only [List.all_cons, List.all_nil, Bool.and_eq_true] at z_
  have q_ : (List.range 2).all (fun u_ => (decide (fxk fxl (4 + o_) u_ = some (66 + o_ + 4 * u_)) && decide (fxk fxl (66 + o_ + 4 * u_) 0 = some (67 + o_ + 4 * u_))) && (decide (bzf (66 + o_ + 4 * u_) = some (9, 2)) && (decide (bzf (67 + o_ + 4 * u_) = some (6, 2)) && decide (bzf (68 + o_ + 4 * u_) = some (20, 60))))) = true := by
    rcases ho with rfl | rfl
    · exact z_.1.2.2.1
    · exact z_.2.1.2.2.1
  have e_ := List.all_eq_true.mp q_ u_ (List.mem_range.mpr hu)
  simp only [Bool.and_eq_true, decide_eq_true_eq] at e_
  exact ⟨⟨fxr_at hs.2 e_.1.1, fxr_at hs.2 e_.1.2⟩, bcq_of hs e_.2.1, bcq_of hs e_.2.2.1, bcq_of hs e_.2.2.2⟩
theorem wo_j (hs : sHp h_) (ho : wo_ o_) {i_ : Nat} (hi_ : i_ < 8) : bpat h_ (16 + o_) i_ = some (.index (17 + o_ + 2 * i_)) ∧ (bcq h_ (17 + o_ + 2 * i_) 6 2 ∧ bcq h_ (18 + o_ + 2 * i_) 20 12) := by
  have z_ := wo_k
  simp only [List.all_cons, List.all_nil, Bool.and_eq_true] at z_
  have q_ : (List.range 8).all (fun i_ => decide (fxk fxl (16 + o_) i_ = some (17 + o_ + 2 * i_)) && (decide (bzf (17 + o_ + 2 * i_) = some (6, 2)) && decide (bzf (18 + o_ + 2 * i_) = some (20, 12)))) = true := by
    rcases ho with rfl | rfl
    · exact z_.1.2.2.2
    · exact z_.2.1.2.2.2
  have e_ := List.all_eq_true.mp q_ i_ (List.mem_range.mpr hi_)
  simp only [Bool.and_eq_true, decide_eq_true_eq] at e_
  exact ⟨fxr_at hs.2 e_.1, bcq_of hs e_.2.1, bcq_of hs e_.2.2⟩
/-- a row that holds something -/
def rwk (a_ b_ n_ : Nat) : Bool := (decide (bzf a_ = some (6, 2)) && (decide (bzf b_ = some (20, n_)) && decide (fxk fxl a_ 0 = some b_))) && ((match bIj a_ 1 with
  | some (.inl q_) => decide (0 ≤ q_.1) && decide (q_.2 ≤ n_)
  | _ => false) && ((List.range n_).all (fun j_ => match bIj b_ j_ with
  | some (.inl _) => true
  | _ => false) && Nat.ble n_ 1000))
theorem rw_ex {a_ b_ n_ : Nat} (B_ : bInv bZ bIj h_) (hk : rwk a_ b_ n_ = true) : ∃ l, rwx h_ a_ b_ n_ l := by
  have hs := sHp_of B_
  unfold rwk at hk
  simp only [Bool.and_eq_true, decide_eq_true_eq] at hk
  obtain ⟨⟨k1_, k2_, k3_⟩, k4_, k5_, k6_⟩ := hk
  have n1000 := Nat.le_of_ble_eq_true k6_
  split at k4_
  · rename_i q_ hq
    simp only [Bool.and_eq_true, decide_eq_true_eq] at k4_
    obtain ⟨c_, x_, c1_, c2_, c3_, c4_, c5_⟩ := bint_at B_.1 (bzf_at k1_) (show 1 < 2 by omega) hq
    have b1 : 0 ≤ tv h_ a_ 1 ∧ tv h_ a_ 1 ≤ n_ := by
      have z1 : q_.1 ≤ tv h_ a_ 1 := by rw [c3_]; exact c4_
      have z2 : tv h_ a_ 1 ≤ q_.2 := by rw [c3_]; exact c5_
      omega
    refine ⟨(List.range (tv h_ a_ 1).toNat).map (fun j_ => Int32.ofInt (tv h_ b_ j_)), ⟨bcq_of hs k1_, bcq_of hs k2_⟩, ⟨fxr_at hs.2 k3_, ?_⟩, ?_, fun j_ x_ hx => ?_⟩
    · rw [List.length_map, List.length_range]
      have e_ := bpat_of (yint B_ (bzf_at k1_) (show 1 < 2 by omega) hq)
      rw [e_]
      refine congrArg (fun t_ => some (Jvm.Term.int t_)) (Int32.toInt_inj.mp ?_)
      rw [i32z (by omega) (by omega), i32n (by omega)]
      omega
    · rw [List.length_map, List.length_range]
      omega
    · rw [List.getElem?_map] at hx
      cases hj : (List.range (tv h_ a_ 1).toNat)[j_]? with
      | none => rw [hj] at hx; cases hx
      | some j2_ =>
        rw [hj] at hx
        cases hx
        have lj := (List.getElem?_eq_some_iff.mp hj).1
        rw [List.length_range] at lj
        rw [List.getElem?_range lj] at hj
        cases hj
        have e_ := List.all_eq_true.mp k5_ j_ (List.mem_range.mpr (by omega))
        split at e_
        · rename_i u_ hu
          exact bpat_of (yint (l := u_.1) (u_ := u_.2) B_ (bzf_at k2_) (show j_ < n_ by omega) hu)
        · cases e_
  · cases k4_
end
theorem rwk_e : ([0, 73].all (fun o => (rwk (9 + o) (10 + o) 10 && (rwk (11 + o) (12 + o) 10 && rwk (13 + o) (14 + o) 10)) && (List.range 8).all (fun i_ => rwk (17 + o + 2 * i_) (18 + o + 2 * i_) 12))) = true := by decide +kernel
-- wciE: 2 steps, 1 ends, 0 returns
def wciE_L : List (Nat × Nat × Nat) := []
def wciE_O : yO := []
def wciE_A : yA := (yZ wciE_L, [], [], [], [])
def wciE_C : List xB := []
def wciE_ss : List yS := [(2, [(2, .int 0), (0, .index 74), (1, .index 1)], [], [], [], [])]
def wciE_rs : List yR := []
theorem wciE_w : ywa wciE_A wciE_ss wciE_rs = true := by decide +kernel
theorem wciE_k : yis (yev wciE_A 3000 60 63 [2] (0, [(0, .index 74), (1, .index 1)], [], wciE_O, wciE_C, [])) wciE_ss wciE_rs = true := by decide +kernel
def wciE_r (k_ : Nat) : Value := .int 0
def wciE_s (n_ : Nat) : Nat := 0
theorem wciE {h_ : xH} (hs : sHp h_) : ∃ h', ysm h_ h' ∧ (((∀ a_ j_ : Nat, bpat h' a_ j_ = bpat h_ a_ j_) ∧ (bldD 60 63 0 [(0, .index 74), (1, .index 1)] [] h_ 2 [(2, .int (0 : Int32)), (0, .index 74), (1, .index 1)] [] h'))) := by
  have hA : yas wciE_A wciE_r (yg wciE_s) := ⟨fun q_ hq => absurd hq List.not_mem_nil, fun q_ hq => absurd hq List.not_mem_nil, fun q_ hq => absurd hq List.not_mem_nil, fun n_ hn => yg_lo hn, fun q_ hq => absurd hq List.not_mem_nil⟩
  have Hs : ysh wciE_A.1 (yg wciE_s) h_ := ysh_of2 hs (fun q_ hq => absurd hq List.not_mem_nil)
  have Ho : ymem wciE_r (yg wciE_s) wciE_O h_ := fun q_ hq => absurd hq List.not_mem_nil
  have HC : ∀ q_ ∈ wciE_C, xhold wciE_r q_ := fun q_ hq => absurd hq List.not_mem_nil
  rcases yrun (yis_ok wciE_k) hA Hs Ho HC with ⟨q_, hq, h', K_, G_⟩ | ⟨q_, hq, h', K_, G_⟩
  · have e_ := List.mem_singleton.mp hq
    subst e_
    exact ⟨h', yfr_sm K_.2.2.2 hs K_.1 (ywa_s wciE_w List.mem_cons_self), ⟨fun a_ j_ => yfr_bp K_.2.2.2 (fun q_ hq => absurd hq List.not_mem_nil), G_⟩⟩
  · cases hq
-- wciA: 13 steps, 1 ends, 0 returns
def wciA_L : List (Nat × Nat × Nat) := [(1000, 6, 2), (1001, 6, 2)]
def wciA_O : yO := [(74, .int 0, .index 75), (75, .arg 2, .index 1000), (1, .int 0, .index 2), (2, .arg 2, .index 1001)]
def wciA_A : yA := (yZ wciA_L, [(.arg 2, 12)], [], [], [])
def wciA_C : List xB := [(.lt, .arg 2, .int 12, true)]
def wciA_ss : List yS := [(23, [(2, .arg 2), (0, .index 74), (1, .index 1)], [.index 1001, .index 1000], [(74, .int 0, .index 75), (75, .arg 2, .index 1000), (1, .int 0, .index 2), (2, .arg 2, .index 1001)], [(.lt, .arg 2, .int 12, true)], [])]
def wciA_rs : List yR := []
theorem wciA_w : ywa wciA_A wciA_ss wciA_rs = true := by decide +kernel
theorem wciA_k : yis (yev wciA_A 3000 60 63 [23] (2, [(2, .arg 2), (0, .index 74), (1, .index 1)], [], wciA_O, wciA_C, [])) wciA_ss wciA_rs = true := by decide +kernel
def wciA_r (v2 : Int32) (k_ : Nat) : Value := bif Nat.beq k_ 2 then .int v2 else (.int 0)
def wciA_s (a1000 a1001 : Nat) (n_ : Nat) : Nat := bif Nat.beq n_ 1000 then a1000 else (bif Nat.beq n_ 1001 then a1001 else (0))
theorem wciA {h_ : xH} {a1000 a1001 : Nat} {v2 : Int32} (hs : sHp h_) (k1000 : bcq h_ a1000 6 2) (k1001 : bcq h_ a1001 6 2) (o0_ : bpat h_ 75 (v2).toInt.toNat = some (.index a1000)) (o1 : bpat h_ 2 (v2).toInt.toNat = some (.index a1001)) (b0 : 0 ≤ (v2).toInt ∧ (v2).toInt < 12) (c0_ : v2.toInt < (12 : Int32).toInt) : ∃ h', ysm h_ h' ∧ (((∀ a_ j_ : Nat, bpat h' a_ j_ = bpat h_ a_ j_) ∧ (bldD 60 63 2 [(2, .int v2), (0, .index 74), (1, .index 1)] [] h_ 23 [(2, .int v2), (0, .index 74), (1, .index 1)] [.index a1001, .index a1000] h'))) := by
  have hA : yas wciA_A (wciA_r v2) (yg (wciA_s a1000 a1001)) := ⟨List.forall_mem_cons.mpr ⟨b0, fun q_ hq => absurd hq List.not_mem_nil⟩, fun q_ hq => absurd hq List.not_mem_nil, fun q_ hq => absurd hq List.not_mem_nil, fun n_ hn => yg_lo hn, fun q_ hq => absurd hq List.not_mem_nil⟩
  have Hs : ysh wciA_A.1 (yg (wciA_s a1000 a1001)) h_ := ysh_of2 hs (List.forall_mem_cons.mpr ⟨⟨by decide, k1000⟩, List.forall_mem_cons.mpr ⟨⟨by decide, k1001⟩, fun q_ hq => absurd hq List.not_mem_nil⟩⟩)
  have Ho : ymem (wciA_r v2) (yg (wciA_s a1000 a1001)) wciA_O h_ := List.forall_mem_cons.mpr ⟨bpat_some (fxr_at hs.2 (show fxk fxl 74 0 = some 75 by decide +kernel)), List.forall_mem_cons.mpr ⟨bpat_some o0_, List.forall_mem_cons.mpr ⟨bpat_some (fxr_at hs.2 (show fxk fxl 1 0 = some 2 by decide +kernel)), List.forall_mem_cons.mpr ⟨bpat_some o1, fun q_ hq => absurd hq List.not_mem_nil⟩⟩⟩⟩
  have HC : ∀ q_ ∈ wciA_C, xhold (wciA_r v2) q_ := List.forall_mem_cons.mpr ⟨xh_ltT c0_, fun q_ hq => absurd hq List.not_mem_nil⟩
  rcases yrun (yis_ok wciA_k) hA Hs Ho HC with ⟨q_, hq, h', K_, G_⟩ | ⟨q_, hq, h', K_, G_⟩
  · have e_ := List.mem_singleton.mp hq
    subst e_
    exact ⟨h', yfr_sm K_.2.2.2 hs K_.1 (ywa_s wciA_w List.mem_cons_self), ⟨fun a_ j_ => yfr_bp K_.2.2.2 (fun q_ hq => absurd hq List.not_mem_nil), G_⟩⟩
  · cases hq
-- wciB: 2 steps, 1 ends, 0 returns
def wciB_L : List (Nat × Nat × Nat) := []
def wciB_O : yO := []
def wciB_A : yA := (yZ wciB_L, [], [], [], [])
def wciB_C : List xB := []
def wciB_ss : List yS := [(2, [(2, .add (.arg 2) (.int 1)), (0, .index 74), (1, .index 1)], [], [], [], [])]
def wciB_rs : List yR := []
theorem wciB_w : ywa wciB_A wciB_ss wciB_rs = true := by decide +kernel
theorem wciB_k : yis (yev wciB_A 3000 60 63 [2] (26, [(2, .arg 2), (0, .index 74), (1, .index 1)], [], wciB_O, wciB_C, [])) wciB_ss wciB_rs = true := by decide +kernel
def wciB_r (v2 : Int32) (k_ : Nat) : Value := bif Nat.beq k_ 2 then .int v2 else (.int 0)
def wciB_s (n_ : Nat) : Nat := 0
theorem wciB {h_ : xH} {v2 : Int32} (hs : sHp h_) : ∃ h', ysm h_ h' ∧ (((∀ a_ j_ : Nat, bpat h' a_ j_ = bpat h_ a_ j_) ∧ (bldD 60 63 26 [(2, .int v2), (0, .index 74), (1, .index 1)] [] h_ 2 [(2, .int (v2 + (1 : Int32))), (0, .index 74), (1, .index 1)] [] h'))) := by
  have hA : yas wciB_A (wciB_r v2) (yg wciB_s) := ⟨fun q_ hq => absurd hq List.not_mem_nil, fun q_ hq => absurd hq List.not_mem_nil, fun q_ hq => absurd hq List.not_mem_nil, fun n_ hn => yg_lo hn, fun q_ hq => absurd hq List.not_mem_nil⟩
  have Hs : ysh wciB_A.1 (yg wciB_s) h_ := ysh_of2 hs (fun q_ hq => absurd hq List.not_mem_nil)
  have Ho : ymem (wciB_r v2) (yg wciB_s) wciB_O h_ := fun q_ hq => absurd hq List.not_mem_nil
  have HC : ∀ q_ ∈ wciB_C, xhold (wciB_r v2) q_ := fun q_ hq => absurd hq List.not_mem_nil
  rcases yrun (yis_ok wciB_k) hA Hs Ho HC with ⟨q_, hq, h', K_, G_⟩ | ⟨q_, hq, h', K_, G_⟩
  · have e_ := List.mem_singleton.mp hq
    subst e_
    exact ⟨h', yfr_sm K_.2.2.2 hs K_.1 (ywa_s wciB_w List.mem_cons_self), ⟨fun a_ j_ => yfr_bp K_.2.2.2 (fun q_ hq => absurd hq List.not_mem_nil), G_⟩⟩
  · cases hq
-- wciC: 7 steps, 1 ends, 0 returns
def wciC_L : List (Nat × Nat × Nat) := []
def wciC_O : yO := [(74, .int 0, .index 75)]
def wciC_A : yA := (yZ wciC_L, [], [], [], [])
def wciC_C : List xB := [(.lt, .arg 2, .int 12, false)]
def wciC_ss : List yS := [(34, [(2, .int 0), (0, .index 74), (1, .index 1)], [], [(74, .int 0, .index 75)], [(.lt, .arg 2, .int 12, false)], [])]
def wciC_rs : List yR := []
theorem wciC_w : ywa wciC_A wciC_ss wciC_rs = true := by decide +kernel
theorem wciC_k : yis (yev wciC_A 3000 60 63 [34] (2, [(2, .arg 2), (0, .index 74), (1, .index 1)], [], wciC_O, wciC_C, [])) wciC_ss wciC_rs = true := by decide +kernel
def wciC_r (v2 : Int32) (k_ : Nat) : Value := bif Nat.beq k_ 2 then .int v2 else (.int 0)
def wciC_s (n_ : Nat) : Nat := 0
theorem wciC {h_ : xH} {v2 : Int32} (hs : sHp h_) (c0_ : (12 : Int32).toInt ≤ v2.toInt) : ∃ h', ysm h_ h' ∧ (((∀ a_ j_ : Nat, bpat h' a_ j_ = bpat h_ a_ j_) ∧ (bldD 60 63 2 [(2, .int v2), (0, .index 74), (1, .index 1)] [] h_ 34 [(2, .int (0 : Int32)), (0, .index 74), (1, .index 1)] [] h'))) := by
  have hA : yas wciC_A (wciC_r v2) (yg wciC_s) := ⟨fun q_ hq => absurd hq List.not_mem_nil, fun q_ hq => absurd hq List.not_mem_nil, fun q_ hq => absurd hq List.not_mem_nil, fun n_ hn => yg_lo hn, fun q_ hq => absurd hq List.not_mem_nil⟩
  have Hs : ysh wciC_A.1 (yg wciC_s) h_ := ysh_of2 hs (fun q_ hq => absurd hq List.not_mem_nil)
  have Ho : ymem (wciC_r v2) (yg wciC_s) wciC_O h_ := List.forall_mem_cons.mpr ⟨bpat_some (fxr_at hs.2 (show fxk fxl 74 0 = some 75 by decide +kernel)), fun q_ hq => absurd hq List.not_mem_nil⟩
  have HC : ∀ q_ ∈ wciC_C, xhold (wciC_r v2) q_ := List.forall_mem_cons.mpr ⟨xh_ltF c0_, fun q_ hq => absurd hq List.not_mem_nil⟩
  rcases yrun (yis_ok wciC_k) hA Hs Ho HC with ⟨q_, hq, h', K_, G_⟩ | ⟨q_, hq, h', K_, G_⟩
  · have e_ := List.mem_singleton.mp hq
    subst e_
    exact ⟨h', yfr_sm K_.2.2.2 hs K_.1 (ywa_s wciC_w List.mem_cons_self), ⟨fun a_ j_ => yfr_bp K_.2.2.2 (fun q_ hq => absurd hq List.not_mem_nil), G_⟩⟩
  · cases hq
-- wriA: 29 steps, 1 ends, 0 returns
def wriA_L : List (Nat × Nat × Nat) := [(1000, 5, 3), (1001, 5, 3)]
def wriA_O : yO := [(74, .int 1, .index 76), (76, .arg 2, .index 1000), (1, .int 1, .index 3), (3, .arg 2, .index 1001), (1001, .int 0, .arg 320), (1001, .int 1, .arg 321), (1001, .int 2, .arg 322)]
def wriA_A : yA := (yZ wriA_L, [(.arg 2, 8)], [], [(1000, 1001)], [])
def wriA_C : List xB := [(.lt, .arg 2, .int 8, true)]
def wriA_ss : List yS := [(34, [(2, .add (.arg 2) (.int 1)), (0, .index 74), (1, .index 1)], [], [(1000, .int 2, .arg 322), (1000, .int 1, .arg 321), (1000, .int 0, .arg 320), (74, .int 1, .index 76), (76, .arg 2, .index 1000), (1, .int 1, .index 3), (3, .arg 2, .index 1001), (1001, .int 0, .arg 320), (1001, .int 1, .arg 321), (1001, .int 2, .arg 322)], [(.lt, .arg 2, .int 8, true)], [(1000, .int 2), (1000, .int 1), (1000, .int 0)])]
def wriA_rs : List yR := []
theorem wriA_w : ywa wriA_A wriA_ss wriA_rs = true := by decide +kernel
theorem wriA_k : yis (yev wriA_A 3000 60 63 [34] (34, [(2, .arg 2), (0, .index 74), (1, .index 1)], [], wriA_O, wriA_C, [])) wriA_ss wriA_rs = true := by decide +kernel
def wriA_r (v2 v320 v321 v322 : Int32) (k_ : Nat) : Value := bif Nat.beq k_ 2 then .int v2 else (bif Nat.beq k_ 320 then .int v320 else (bif Nat.beq k_ 321 then .int v321 else (bif Nat.beq k_ 322 then .int v322 else (.int 0))))
def wriA_s (a1000 a1001 : Nat) (n_ : Nat) : Nat := bif Nat.beq n_ 1000 then a1000 else (bif Nat.beq n_ 1001 then a1001 else (0))
theorem wriA {h_ : xH} {a1000 a1001 : Nat} {v2 v320 v321 v322 : Int32} (hs : sHp h_) (k1000 : bcq h_ a1000 5 3) (k1001 : bcq h_ a1001 5 3) (o0_ : bpat h_ 76 (v2).toInt.toNat = some (.index a1000)) (o1 : bpat h_ 3 (v2).toInt.toNat = some (.index a1001)) (o2 : bpat h_ a1001 0 = some (.int v320)) (o3_ : bpat h_ a1001 1 = some (.int v321)) (o4_ : bpat h_ a1001 2 = some (.int v322)) (b0 : 0 ≤ (v2).toInt ∧ (v2).toInt < 8) (y0 : ¬ a1000 = a1001) (c0_ : v2.toInt < (8 : Int32).toInt) : ∃ h', ysm h_ h' ∧ (((bpat h' a1000 2 = some (.int v322)) ∧ (bpat h' a1000 1 = some (.int v321)) ∧ (bpat h' a1000 0 = some (.int v320)) ∧ (∀ a_ j_ : Nat, ¬ (a_ = a1000 ∧ j_ = 2) → ¬ (a_ = a1000 ∧ j_ = 1) → ¬ (a_ = a1000 ∧ j_ = 0) → bpat h' a_ j_ = bpat h_ a_ j_) ∧ (bldD 60 63 34 [(2, .int v2), (0, .index 74), (1, .index 1)] [] h_ 34 [(2, .int (v2 + (1 : Int32))), (0, .index 74), (1, .index 1)] [] h'))) := by
  have hA : yas wriA_A (wriA_r v2 v320 v321 v322) (yg (wriA_s a1000 a1001)) := ⟨List.forall_mem_cons.mpr ⟨b0, fun q_ hq => absurd hq List.not_mem_nil⟩, fun q_ hq => absurd hq List.not_mem_nil, List.forall_mem_cons.mpr ⟨y0, fun q_ hq => absurd hq List.not_mem_nil⟩, fun n_ hn => yg_lo hn, fun q_ hq => absurd hq List.not_mem_nil⟩
  have Hs : ysh wriA_A.1 (yg (wriA_s a1000 a1001)) h_ := ysh_of2 hs (List.forall_mem_cons.mpr ⟨⟨by decide, k1000⟩, List.forall_mem_cons.mpr ⟨⟨by decide, k1001⟩, fun q_ hq => absurd hq List.not_mem_nil⟩⟩)
  have Ho : ymem (wriA_r v2 v320 v321 v322) (yg (wriA_s a1000 a1001)) wriA_O h_ := List.forall_mem_cons.mpr ⟨bpat_some (fxr_at hs.2 (show fxk fxl 74 1 = some 76 by decide +kernel)), List.forall_mem_cons.mpr ⟨bpat_some o0_, List.forall_mem_cons.mpr ⟨bpat_some (fxr_at hs.2 (show fxk fxl 1 1 = some 3 by decide +kernel)), List.forall_mem_cons.mpr ⟨bpat_some o1, List.forall_mem_cons.mpr ⟨bpat_some o2, List.forall_mem_cons.mpr ⟨bpat_some o3_, List.forall_mem_cons.mpr ⟨bpat_some o4_, fun q_ hq => absurd hq List.not_mem_nil⟩⟩⟩⟩⟩⟩⟩
  have HC : ∀ q_ ∈ wriA_C, xhold (wriA_r v2 v320 v321 v322) q_ := List.forall_mem_cons.mpr ⟨xh_ltT c0_, fun q_ hq => absurd hq List.not_mem_nil⟩
  rcases yrun (yis_ok wriA_k) hA Hs Ho HC with ⟨q_, hq, h', K_, G_⟩ | ⟨q_, hq, h', K_, G_⟩
  · have e_ := List.mem_singleton.mp hq
    subst e_
    exact ⟨h', yfr_sm K_.2.2.2 hs K_.1 (ywa_s wriA_w List.mem_cons_self), ⟨bpat_of (K_.2.1 _ List.mem_cons_self), bpat_of (K_.2.1 _ (List.mem_cons_of_mem _ List.mem_cons_self)), bpat_of (K_.2.1 _ (List.mem_cons_of_mem _ (List.mem_cons_of_mem _ List.mem_cons_self))), fun a_ j_ n0_ n1_ n2_ => yfr_bp K_.2.2.2 (List.forall_mem_cons.mpr ⟨fun e_ => n0_ ⟨e_.1.symm, e_.2.symm⟩, List.forall_mem_cons.mpr ⟨fun e_ => n1_ ⟨e_.1.symm, e_.2.symm⟩, List.forall_mem_cons.mpr ⟨fun e_ => n2_ ⟨e_.1.symm, e_.2.symm⟩, fun q_ hq => absurd hq List.not_mem_nil⟩⟩⟩), G_⟩⟩
  · cases hq
-- wriC: 7 steps, 1 ends, 0 returns
def wriC_L : List (Nat × Nat × Nat) := []
def wriC_O : yO := [(74, .int 1, .index 76)]
def wriC_A : yA := (yZ wriC_L, [], [], [], [])
def wriC_C : List xB := [(.lt, .arg 2, .int 8, false)]
def wriC_ss : List yS := [(66, [(2, .int 0), (0, .index 74), (1, .index 1)], [], [(74, .int 1, .index 76)], [(.lt, .arg 2, .int 8, false)], [])]
def wriC_rs : List yR := []
theorem wriC_w : ywa wriC_A wriC_ss wriC_rs = true := by decide +kernel
theorem wriC_k : yis (yev wriC_A 3000 60 63 [66] (34, [(2, .arg 2), (0, .index 74), (1, .index 1)], [], wriC_O, wriC_C, [])) wriC_ss wriC_rs = true := by decide +kernel
def wriC_r (v2 : Int32) (k_ : Nat) : Value := bif Nat.beq k_ 2 then .int v2 else (.int 0)
def wriC_s (n_ : Nat) : Nat := 0
theorem wriC {h_ : xH} {v2 : Int32} (hs : sHp h_) (c0_ : (8 : Int32).toInt ≤ v2.toInt) : ∃ h', ysm h_ h' ∧ (((∀ a_ j_ : Nat, bpat h' a_ j_ = bpat h_ a_ j_) ∧ (bldD 60 63 34 [(2, .int v2), (0, .index 74), (1, .index 1)] [] h_ 66 [(2, .int (0 : Int32)), (0, .index 74), (1, .index 1)] [] h'))) := by
  have hA : yas wriC_A (wriC_r v2) (yg wriC_s) := ⟨fun q_ hq => absurd hq List.not_mem_nil, fun q_ hq => absurd hq List.not_mem_nil, fun q_ hq => absurd hq List.not_mem_nil, fun n_ hn => yg_lo hn, fun q_ hq => absurd hq List.not_mem_nil⟩
  have Hs : ysh wriC_A.1 (yg wriC_s) h_ := ysh_of2 hs (fun q_ hq => absurd hq List.not_mem_nil)
  have Ho : ymem (wriC_r v2) (yg wriC_s) wriC_O h_ := List.forall_mem_cons.mpr ⟨bpat_some (fxr_at hs.2 (show fxk fxl 74 1 = some 76 by decide +kernel)), fun q_ hq => absurd hq List.not_mem_nil⟩
  have HC : ∀ q_ ∈ wriC_C, xhold (wriC_r v2) q_ := List.forall_mem_cons.mpr ⟨xh_ltF c0_, fun q_ hq => absurd hq List.not_mem_nil⟩
  rcases yrun (yis_ok wriC_k) hA Hs Ho HC with ⟨q_, hq, h', K_, G_⟩ | ⟨q_, hq, h', K_, G_⟩
  · have e_ := List.mem_singleton.mp hq
    subst e_
    exact ⟨h', yfr_sm K_.2.2.2 hs K_.1 (ywa_s wriC_w List.mem_cons_self), ⟨fun a_ j_ => yfr_bp K_.2.2.2 (fun q_ hq => absurd hq List.not_mem_nil), G_⟩⟩
  · cases hq
-- wtiA: 15 steps, 1 ends, 0 returns
def wtiA_L : List (Nat × Nat × Nat) := [(1000, 9, 2), (1001, 9, 2), (1002, 6, 2), (1003, 6, 2)]
def wtiA_O : yO := [(74, .int 2, .index 77), (77, .arg 2, .index 1000), (1000, .int 0, .index 1002), (1, .int 2, .index 4), (4, .arg 2, .index 1001), (1001, .int 0, .index 1003)]
def wtiA_A : yA := (yZ wtiA_L, [(.arg 2, 2)], [], [], [])
def wtiA_C : List xB := [(.lt, .arg 2, .int 2, true)]
def wtiA_ss : List yS := [(93, [(2, .arg 2), (0, .index 74), (1, .index 1)], [.index 1003, .index 1002], [(74, .int 2, .index 77), (77, .arg 2, .index 1000), (1000, .int 0, .index 1002), (1, .int 2, .index 4), (4, .arg 2, .index 1001), (1001, .int 0, .index 1003)], [(.lt, .arg 2, .int 2, true)], [])]
def wtiA_rs : List yR := []
theorem wtiA_w : ywa wtiA_A wtiA_ss wtiA_rs = true := by decide +kernel
theorem wtiA_k : yis (yev wtiA_A 3000 60 63 [93] (66, [(2, .arg 2), (0, .index 74), (1, .index 1)], [], wtiA_O, wtiA_C, [])) wtiA_ss wtiA_rs = true := by decide +kernel
def wtiA_r (v2 : Int32) (k_ : Nat) : Value := bif Nat.beq k_ 2 then .int v2 else (.int 0)
def wtiA_s (a1000 a1001 a1002 a1003 : Nat) (n_ : Nat) : Nat := bif Nat.beq n_ 1000 then a1000 else (bif Nat.beq n_ 1001 then a1001 else (bif Nat.beq n_ 1002 then a1002 else (bif Nat.beq n_ 1003 then a1003 else (0))))
theorem wtiA {h_ : xH} {a1000 a1001 a1002 a1003 : Nat} {v2 : Int32} (hs : sHp h_) (k1000 : bcq h_ a1000 9 2) (k1001 : bcq h_ a1001 9 2) (k1002 : bcq h_ a1002 6 2) (k1003 : bcq h_ a1003 6 2) (o0_ : bpat h_ 77 (v2).toInt.toNat = some (.index a1000)) (o1 : bpat h_ a1000 0 = some (.index a1002)) (o2 : bpat h_ 4 (v2).toInt.toNat = some (.index a1001)) (o3_ : bpat h_ a1001 0 = some (.index a1003)) (b0 : 0 ≤ (v2).toInt ∧ (v2).toInt < 2) (c0_ : v2.toInt < (2 : Int32).toInt) : ∃ h', ysm h_ h' ∧ (((∀ a_ j_ : Nat, bpat h' a_ j_ = bpat h_ a_ j_) ∧ (bldD 60 63 66 [(2, .int v2), (0, .index 74), (1, .index 1)] [] h_ 93 [(2, .int v2), (0, .index 74), (1, .index 1)] [.index a1003, .index a1002] h'))) := by
  have hA : yas wtiA_A (wtiA_r v2) (yg (wtiA_s a1000 a1001 a1002 a1003)) := ⟨List.forall_mem_cons.mpr ⟨b0, fun q_ hq => absurd hq List.not_mem_nil⟩, fun q_ hq => absurd hq List.not_mem_nil, fun q_ hq => absurd hq List.not_mem_nil, fun n_ hn => yg_lo hn, fun q_ hq => absurd hq List.not_mem_nil⟩
  have Hs : ysh wtiA_A.1 (yg (wtiA_s a1000 a1001 a1002 a1003)) h_ := ysh_of2 hs (List.forall_mem_cons.mpr ⟨⟨by decide, k1000⟩, List.forall_mem_cons.mpr ⟨⟨by decide, k1001⟩, List.forall_mem_cons.mpr ⟨⟨by decide, k1002⟩, List.forall_mem_cons.mpr ⟨⟨by decide, k1003⟩, fun q_ hq => absurd hq List.not_mem_nil⟩⟩⟩⟩)
  have Ho : ymem (wtiA_r v2) (yg (wtiA_s a1000 a1001 a1002 a1003)) wtiA_O h_ := List.forall_mem_cons.mpr ⟨bpat_some (fxr_at hs.2 (show fxk fxl 74 2 = some 77 by decide +kernel)), List.forall_mem_cons.mpr ⟨bpat_some o0_, List.forall_mem_cons.mpr ⟨bpat_some o1, List.forall_mem_cons.mpr ⟨bpat_some (fxr_at hs.2 (show fxk fxl 1 2 = some 4 by decide +kernel)), List.forall_mem_cons.mpr ⟨bpat_some o2, List.forall_mem_cons.mpr ⟨bpat_some o3_, fun q_ hq => absurd hq List.not_mem_nil⟩⟩⟩⟩⟩⟩
  have HC : ∀ q_ ∈ wtiA_C, xhold (wtiA_r v2) q_ := List.forall_mem_cons.mpr ⟨xh_ltT c0_, fun q_ hq => absurd hq List.not_mem_nil⟩
  rcases yrun (yis_ok wtiA_k) hA Hs Ho HC with ⟨q_, hq, h', K_, G_⟩ | ⟨q_, hq, h', K_, G_⟩
  · have e_ := List.mem_singleton.mp hq
    subst e_
    exact ⟨h', yfr_sm K_.2.2.2 hs K_.1 (ywa_s wtiA_w List.mem_cons_self), ⟨fun a_ j_ => yfr_bp K_.2.2.2 (fun q_ hq => absurd hq List.not_mem_nil), G_⟩⟩
  · cases hq
-- wtiB: 2 steps, 1 ends, 0 returns
def wtiB_L : List (Nat × Nat × Nat) := []
def wtiB_O : yO := []
def wtiB_A : yA := (yZ wtiB_L, [], [], [], [])
def wtiB_C : List xB := []
def wtiB_ss : List yS := [(66, [(2, .add (.arg 2) (.int 1)), (0, .index 74), (1, .index 1)], [], [], [], [])]
def wtiB_rs : List yR := []
theorem wtiB_w : ywa wtiB_A wtiB_ss wtiB_rs = true := by decide +kernel
theorem wtiB_k : yis (yev wtiB_A 3000 60 63 [66] (96, [(2, .arg 2), (0, .index 74), (1, .index 1)], [], wtiB_O, wtiB_C, [])) wtiB_ss wtiB_rs = true := by decide +kernel
def wtiB_r (v2 : Int32) (k_ : Nat) : Value := bif Nat.beq k_ 2 then .int v2 else (.int 0)
def wtiB_s (n_ : Nat) : Nat := 0
theorem wtiB {h_ : xH} {v2 : Int32} (hs : sHp h_) : ∃ h', ysm h_ h' ∧ (((∀ a_ j_ : Nat, bpat h' a_ j_ = bpat h_ a_ j_) ∧ (bldD 60 63 96 [(2, .int v2), (0, .index 74), (1, .index 1)] [] h_ 66 [(2, .int (v2 + (1 : Int32))), (0, .index 74), (1, .index 1)] [] h'))) := by
  have hA : yas wtiB_A (wtiB_r v2) (yg wtiB_s) := ⟨fun q_ hq => absurd hq List.not_mem_nil, fun q_ hq => absurd hq List.not_mem_nil, fun q_ hq => absurd hq List.not_mem_nil, fun n_ hn => yg_lo hn, fun q_ hq => absurd hq List.not_mem_nil⟩
  have Hs : ysh wtiB_A.1 (yg wtiB_s) h_ := ysh_of2 hs (fun q_ hq => absurd hq List.not_mem_nil)
  have Ho : ymem (wtiB_r v2) (yg wtiB_s) wtiB_O h_ := fun q_ hq => absurd hq List.not_mem_nil
  have HC : ∀ q_ ∈ wtiB_C, xhold (wtiB_r v2) q_ := fun q_ hq => absurd hq List.not_mem_nil
  rcases yrun (yis_ok wtiB_k) hA Hs Ho HC with ⟨q_, hq, h', K_, G_⟩ | ⟨q_, hq, h', K_, G_⟩
  · have e_ := List.mem_singleton.mp hq
    subst e_
    exact ⟨h', yfr_sm K_.2.2.2 hs K_.1 (ywa_s wtiB_w List.mem_cons_self), ⟨fun a_ j_ => yfr_bp K_.2.2.2 (fun q_ hq => absurd hq List.not_mem_nil), G_⟩⟩
  · cases hq
-- wtiC: 9 steps, 1 ends, 0 returns
def wtiC_L : List (Nat × Nat × Nat) := []
def wtiC_O : yO := [(74, .int 2, .index 77), (74, .int 3, .index 78), (1, .int 3, .index 5)]
def wtiC_A : yA := (yZ wtiC_L, [], [], [], [])
def wtiC_C : List xB := [(.lt, .arg 2, .int 2, false)]
def wtiC_ss : List yS := [(110, [(2, .arg 2), (0, .index 74), (1, .index 1)], [.index 5, .index 78], [(74, .int 2, .index 77), (74, .int 3, .index 78), (1, .int 3, .index 5)], [(.lt, .arg 2, .int 2, false)], [])]
def wtiC_rs : List yR := []
theorem wtiC_w : ywa wtiC_A wtiC_ss wtiC_rs = true := by decide +kernel
theorem wtiC_k : yis (yev wtiC_A 3000 60 63 [110] (66, [(2, .arg 2), (0, .index 74), (1, .index 1)], [], wtiC_O, wtiC_C, [])) wtiC_ss wtiC_rs = true := by decide +kernel
def wtiC_r (v2 : Int32) (k_ : Nat) : Value := bif Nat.beq k_ 2 then .int v2 else (.int 0)
def wtiC_s (n_ : Nat) : Nat := 0
theorem wtiC {h_ : xH} {v2 : Int32} (hs : sHp h_) (c0_ : (2 : Int32).toInt ≤ v2.toInt) : ∃ h', ysm h_ h' ∧ (((∀ a_ j_ : Nat, bpat h' a_ j_ = bpat h_ a_ j_) ∧ (bldD 60 63 66 [(2, .int v2), (0, .index 74), (1, .index 1)] [] h_ 110 [(2, .int v2), (0, .index 74), (1, .index 1)] [.index 5, .index 78] h'))) := by
  have hA : yas wtiC_A (wtiC_r v2) (yg wtiC_s) := ⟨fun q_ hq => absurd hq List.not_mem_nil, fun q_ hq => absurd hq List.not_mem_nil, fun q_ hq => absurd hq List.not_mem_nil, fun n_ hn => yg_lo hn, fun q_ hq => absurd hq List.not_mem_nil⟩
  have Hs : ysh wtiC_A.1 (yg wtiC_s) h_ := ysh_of2 hs (fun q_ hq => absurd hq List.not_mem_nil)
  have Ho : ymem (wtiC_r v2) (yg wtiC_s) wtiC_O h_ := List.forall_mem_cons.mpr ⟨bpat_some (fxr_at hs.2 (show fxk fxl 74 2 = some 77 by decide +kernel)), List.forall_mem_cons.mpr ⟨bpat_some (fxr_at hs.2 (show fxk fxl 74 3 = some 78 by decide +kernel)), List.forall_mem_cons.mpr ⟨bpat_some (fxr_at hs.2 (show fxk fxl 1 3 = some 5 by decide +kernel)), fun q_ hq => absurd hq List.not_mem_nil⟩⟩⟩
  have HC : ∀ q_ ∈ wtiC_C, xhold (wtiC_r v2) q_ := List.forall_mem_cons.mpr ⟨xh_ltF c0_, fun q_ hq => absurd hq List.not_mem_nil⟩
  rcases yrun (yis_ok wtiC_k) hA Hs Ho HC with ⟨q_, hq, h', K_, G_⟩ | ⟨q_, hq, h', K_, G_⟩
  · have e_ := List.mem_singleton.mp hq
    subst e_
    exact ⟨h', yfr_sm K_.2.2.2 hs K_.1 (ywa_s wtiC_w List.mem_cons_self), ⟨fun a_ j_ => yfr_bp K_.2.2.2 (fun q_ hq => absurd hq List.not_mem_nil), G_⟩⟩
  · cases hq
-- wsi0: 4 steps, 1 ends, 0 returns
def wsi0_L : List (Nat × Nat × Nat) := []
def wsi0_O : yO := [(74, .int 4, .index 80), (1, .int 4, .index 7)]
def wsi0_A : yA := (yZ wsi0_L, [], [], [], [])
def wsi0_C : List xB := []
def wsi0_ss : List yS := [(121, [(2, .arg 2), (0, .index 74), (1, .index 1)], [.index 7, .index 80], [(74, .int 4, .index 80), (1, .int 4, .index 7)], [], [])]
def wsi0_rs : List yR := []
theorem wsi0_w : ywa wsi0_A wsi0_ss wsi0_rs = true := by decide +kernel
theorem wsi0_k : yis (yev wsi0_A 3000 60 63 [121] (113, [(2, .arg 2), (0, .index 74), (1, .index 1)], [], wsi0_O, wsi0_C, [])) wsi0_ss wsi0_rs = true := by decide +kernel
def wsi0_r (v2 : Int32) (k_ : Nat) : Value := bif Nat.beq k_ 2 then .int v2 else (.int 0)
def wsi0_s (n_ : Nat) : Nat := 0
theorem wsi0 {h_ : xH} {v2 : Int32} (hs : sHp h_) : ∃ h', ysm h_ h' ∧ (((∀ a_ j_ : Nat, bpat h' a_ j_ = bpat h_ a_ j_) ∧ (bldD 60 63 113 [(2, .int v2), (0, .index 74), (1, .index 1)] [] h_ 121 [(2, .int v2), (0, .index 74), (1, .index 1)] [.index 7, .index 80] h'))) := by
  have hA : yas wsi0_A (wsi0_r v2) (yg wsi0_s) := ⟨fun q_ hq => absurd hq List.not_mem_nil, fun q_ hq => absurd hq List.not_mem_nil, fun q_ hq => absurd hq List.not_mem_nil, fun n_ hn => yg_lo hn, fun q_ hq => absurd hq List.not_mem_nil⟩
  have Hs : ysh wsi0_A.1 (yg wsi0_s) h_ := ysh_of2 hs (fun q_ hq => absurd hq List.not_mem_nil)
  have Ho : ymem (wsi0_r v2) (yg wsi0_s) wsi0_O h_ := List.forall_mem_cons.mpr ⟨bpat_some (fxr_at hs.2 (show fxk fxl 74 4 = some 80 by decide +kernel)), List.forall_mem_cons.mpr ⟨bpat_some (fxr_at hs.2 (show fxk fxl 1 4 = some 7 by decide +kernel)), fun q_ hq => absurd hq List.not_mem_nil⟩⟩
  have HC : ∀ q_ ∈ wsi0_C, xhold (wsi0_r v2) q_ := fun q_ hq => absurd hq List.not_mem_nil
  rcases yrun (yis_ok wsi0_k) hA Hs Ho HC with ⟨q_, hq, h', K_, G_⟩ | ⟨q_, hq, h', K_, G_⟩
  · have e_ := List.mem_singleton.mp hq
    subst e_
    exact ⟨h', yfr_sm K_.2.2.2 hs K_.1 (ywa_s wsi0_w List.mem_cons_self), ⟨fun a_ j_ => yfr_bp K_.2.2.2 (fun q_ hq => absurd hq List.not_mem_nil), G_⟩⟩
  · cases hq
-- wsi1: 4 steps, 1 ends, 0 returns
def wsi1_L : List (Nat × Nat × Nat) := []
def wsi1_O : yO := [(74, .int 5, .index 82), (1, .int 5, .index 9)]
def wsi1_A : yA := (yZ wsi1_L, [], [], [], [])
def wsi1_C : List xB := []
def wsi1_ss : List yS := [(132, [(2, .arg 2), (0, .index 74), (1, .index 1)], [.index 9, .index 82], [(74, .int 5, .index 82), (1, .int 5, .index 9)], [], [])]
def wsi1_rs : List yR := []
theorem wsi1_w : ywa wsi1_A wsi1_ss wsi1_rs = true := by decide +kernel
theorem wsi1_k : yis (yev wsi1_A 3000 60 63 [132] (124, [(2, .arg 2), (0, .index 74), (1, .index 1)], [], wsi1_O, wsi1_C, [])) wsi1_ss wsi1_rs = true := by decide +kernel
def wsi1_r (v2 : Int32) (k_ : Nat) : Value := bif Nat.beq k_ 2 then .int v2 else (.int 0)
def wsi1_s (n_ : Nat) : Nat := 0
theorem wsi1 {h_ : xH} {v2 : Int32} (hs : sHp h_) : ∃ h', ysm h_ h' ∧ (((∀ a_ j_ : Nat, bpat h' a_ j_ = bpat h_ a_ j_) ∧ (bldD 60 63 124 [(2, .int v2), (0, .index 74), (1, .index 1)] [] h_ 132 [(2, .int v2), (0, .index 74), (1, .index 1)] [.index 9, .index 82] h'))) := by
  have hA : yas wsi1_A (wsi1_r v2) (yg wsi1_s) := ⟨fun q_ hq => absurd hq List.not_mem_nil, fun q_ hq => absurd hq List.not_mem_nil, fun q_ hq => absurd hq List.not_mem_nil, fun n_ hn => yg_lo hn, fun q_ hq => absurd hq List.not_mem_nil⟩
  have Hs : ysh wsi1_A.1 (yg wsi1_s) h_ := ysh_of2 hs (fun q_ hq => absurd hq List.not_mem_nil)
  have Ho : ymem (wsi1_r v2) (yg wsi1_s) wsi1_O h_ := List.forall_mem_cons.mpr ⟨bpat_some (fxr_at hs.2 (show fxk fxl 74 5 = some 82 by decide +kernel)), List.forall_mem_cons.mpr ⟨bpat_some (fxr_at hs.2 (show fxk fxl 1 5 = some 9 by decide +kernel)), fun q_ hq => absurd hq List.not_mem_nil⟩⟩
  have HC : ∀ q_ ∈ wsi1_C, xhold (wsi1_r v2) q_ := fun q_ hq => absurd hq List.not_mem_nil
  rcases yrun (yis_ok wsi1_k) hA Hs Ho HC with ⟨q_, hq, h', K_, G_⟩ | ⟨q_, hq, h', K_, G_⟩
  · have e_ := List.mem_singleton.mp hq
    subst e_
    exact ⟨h', yfr_sm K_.2.2.2 hs K_.1 (ywa_s wsi1_w List.mem_cons_self), ⟨fun a_ j_ => yfr_bp K_.2.2.2 (fun q_ hq => absurd hq List.not_mem_nil), G_⟩⟩
  · cases hq
-- wsi2: 4 steps, 1 ends, 0 returns
def wsi2_L : List (Nat × Nat × Nat) := []
def wsi2_O : yO := [(74, .int 6, .index 84), (1, .int 6, .index 11)]
def wsi2_A : yA := (yZ wsi2_L, [], [], [], [])
def wsi2_C : List xB := []
def wsi2_ss : List yS := [(143, [(2, .arg 2), (0, .index 74), (1, .index 1)], [.index 11, .index 84], [(74, .int 6, .index 84), (1, .int 6, .index 11)], [], [])]
def wsi2_rs : List yR := []
theorem wsi2_w : ywa wsi2_A wsi2_ss wsi2_rs = true := by decide +kernel
theorem wsi2_k : yis (yev wsi2_A 3000 60 63 [143] (135, [(2, .arg 2), (0, .index 74), (1, .index 1)], [], wsi2_O, wsi2_C, [])) wsi2_ss wsi2_rs = true := by decide +kernel
def wsi2_r (v2 : Int32) (k_ : Nat) : Value := bif Nat.beq k_ 2 then .int v2 else (.int 0)
def wsi2_s (n_ : Nat) : Nat := 0
theorem wsi2 {h_ : xH} {v2 : Int32} (hs : sHp h_) : ∃ h', ysm h_ h' ∧ (((∀ a_ j_ : Nat, bpat h' a_ j_ = bpat h_ a_ j_) ∧ (bldD 60 63 135 [(2, .int v2), (0, .index 74), (1, .index 1)] [] h_ 143 [(2, .int v2), (0, .index 74), (1, .index 1)] [.index 11, .index 84] h'))) := by
  have hA : yas wsi2_A (wsi2_r v2) (yg wsi2_s) := ⟨fun q_ hq => absurd hq List.not_mem_nil, fun q_ hq => absurd hq List.not_mem_nil, fun q_ hq => absurd hq List.not_mem_nil, fun n_ hn => yg_lo hn, fun q_ hq => absurd hq List.not_mem_nil⟩
  have Hs : ysh wsi2_A.1 (yg wsi2_s) h_ := ysh_of2 hs (fun q_ hq => absurd hq List.not_mem_nil)
  have Ho : ymem (wsi2_r v2) (yg wsi2_s) wsi2_O h_ := List.forall_mem_cons.mpr ⟨bpat_some (fxr_at hs.2 (show fxk fxl 74 6 = some 84 by decide +kernel)), List.forall_mem_cons.mpr ⟨bpat_some (fxr_at hs.2 (show fxk fxl 1 6 = some 11 by decide +kernel)), fun q_ hq => absurd hq List.not_mem_nil⟩⟩
  have HC : ∀ q_ ∈ wsi2_C, xhold (wsi2_r v2) q_ := fun q_ hq => absurd hq List.not_mem_nil
  rcases yrun (yis_ok wsi2_k) hA Hs Ho HC with ⟨q_, hq, h', K_, G_⟩ | ⟨q_, hq, h', K_, G_⟩
  · have e_ := List.mem_singleton.mp hq
    subst e_
    exact ⟨h', yfr_sm K_.2.2.2 hs K_.1 (ywa_s wsi2_w List.mem_cons_self), ⟨fun a_ j_ => yfr_bp K_.2.2.2 (fun q_ hq => absurd hq List.not_mem_nil), G_⟩⟩
  · cases hq
-- wsi3: 4 steps, 1 ends, 0 returns
def wsi3_L : List (Nat × Nat × Nat) := []
def wsi3_O : yO := [(74, .int 7, .index 86), (1, .int 7, .index 13)]
def wsi3_A : yA := (yZ wsi3_L, [], [], [], [])
def wsi3_C : List xB := []
def wsi3_ss : List yS := [(154, [(2, .arg 2), (0, .index 74), (1, .index 1)], [.index 13, .index 86], [(74, .int 7, .index 86), (1, .int 7, .index 13)], [], [])]
def wsi3_rs : List yR := []
theorem wsi3_w : ywa wsi3_A wsi3_ss wsi3_rs = true := by decide +kernel
theorem wsi3_k : yis (yev wsi3_A 3000 60 63 [154] (146, [(2, .arg 2), (0, .index 74), (1, .index 1)], [], wsi3_O, wsi3_C, [])) wsi3_ss wsi3_rs = true := by decide +kernel
def wsi3_r (v2 : Int32) (k_ : Nat) : Value := bif Nat.beq k_ 2 then .int v2 else (.int 0)
def wsi3_s (n_ : Nat) : Nat := 0
theorem wsi3 {h_ : xH} {v2 : Int32} (hs : sHp h_) : ∃ h', ysm h_ h' ∧ (((∀ a_ j_ : Nat, bpat h' a_ j_ = bpat h_ a_ j_) ∧ (bldD 60 63 146 [(2, .int v2), (0, .index 74), (1, .index 1)] [] h_ 154 [(2, .int v2), (0, .index 74), (1, .index 1)] [.index 13, .index 86] h'))) := by
  have hA : yas wsi3_A (wsi3_r v2) (yg wsi3_s) := ⟨fun q_ hq => absurd hq List.not_mem_nil, fun q_ hq => absurd hq List.not_mem_nil, fun q_ hq => absurd hq List.not_mem_nil, fun n_ hn => yg_lo hn, fun q_ hq => absurd hq List.not_mem_nil⟩
  have Hs : ysh wsi3_A.1 (yg wsi3_s) h_ := ysh_of2 hs (fun q_ hq => absurd hq List.not_mem_nil)
  have Ho : ymem (wsi3_r v2) (yg wsi3_s) wsi3_O h_ := List.forall_mem_cons.mpr ⟨bpat_some (fxr_at hs.2 (show fxk fxl 74 7 = some 86 by decide +kernel)), List.forall_mem_cons.mpr ⟨bpat_some (fxr_at hs.2 (show fxk fxl 1 7 = some 13 by decide +kernel)), fun q_ hq => absurd hq List.not_mem_nil⟩⟩
  have HC : ∀ q_ ∈ wsi3_C, xhold (wsi3_r v2) q_ := fun q_ hq => absurd hq List.not_mem_nil
  rcases yrun (yis_ok wsi3_k) hA Hs Ho HC with ⟨q_, hq, h', K_, G_⟩ | ⟨q_, hq, h', K_, G_⟩
  · have e_ := List.mem_singleton.mp hq
    subst e_
    exact ⟨h', yfr_sm K_.2.2.2 hs K_.1 (ywa_s wsi3_w List.mem_cons_self), ⟨fun a_ j_ => yfr_bp K_.2.2.2 (fun q_ hq => absurd hq List.not_mem_nil), G_⟩⟩
  · cases hq
-- wsi4: 4 steps, 1 ends, 0 returns
def wsi4_L : List (Nat × Nat × Nat) := []
def wsi4_O : yO := [(74, .int 8, .index 88), (1, .int 8, .index 15)]
def wsi4_A : yA := (yZ wsi4_L, [], [], [], [])
def wsi4_C : List xB := []
def wsi4_ss : List yS := [(165, [(2, .arg 2), (0, .index 74), (1, .index 1)], [.index 15, .index 88], [(74, .int 8, .index 88), (1, .int 8, .index 15)], [], [])]
def wsi4_rs : List yR := []
theorem wsi4_w : ywa wsi4_A wsi4_ss wsi4_rs = true := by decide +kernel
theorem wsi4_k : yis (yev wsi4_A 3000 60 63 [165] (157, [(2, .arg 2), (0, .index 74), (1, .index 1)], [], wsi4_O, wsi4_C, [])) wsi4_ss wsi4_rs = true := by decide +kernel
def wsi4_r (v2 : Int32) (k_ : Nat) : Value := bif Nat.beq k_ 2 then .int v2 else (.int 0)
def wsi4_s (n_ : Nat) : Nat := 0
theorem wsi4 {h_ : xH} {v2 : Int32} (hs : sHp h_) : ∃ h', ysm h_ h' ∧ (((∀ a_ j_ : Nat, bpat h' a_ j_ = bpat h_ a_ j_) ∧ (bldD 60 63 157 [(2, .int v2), (0, .index 74), (1, .index 1)] [] h_ 165 [(2, .int v2), (0, .index 74), (1, .index 1)] [.index 15, .index 88] h'))) := by
  have hA : yas wsi4_A (wsi4_r v2) (yg wsi4_s) := ⟨fun q_ hq => absurd hq List.not_mem_nil, fun q_ hq => absurd hq List.not_mem_nil, fun q_ hq => absurd hq List.not_mem_nil, fun n_ hn => yg_lo hn, fun q_ hq => absurd hq List.not_mem_nil⟩
  have Hs : ysh wsi4_A.1 (yg wsi4_s) h_ := ysh_of2 hs (fun q_ hq => absurd hq List.not_mem_nil)
  have Ho : ymem (wsi4_r v2) (yg wsi4_s) wsi4_O h_ := List.forall_mem_cons.mpr ⟨bpat_some (fxr_at hs.2 (show fxk fxl 74 8 = some 88 by decide +kernel)), List.forall_mem_cons.mpr ⟨bpat_some (fxr_at hs.2 (show fxk fxl 1 8 = some 15 by decide +kernel)), fun q_ hq => absurd hq List.not_mem_nil⟩⟩
  have HC : ∀ q_ ∈ wsi4_C, xhold (wsi4_r v2) q_ := fun q_ hq => absurd hq List.not_mem_nil
  rcases yrun (yis_ok wsi4_k) hA Hs Ho HC with ⟨q_, hq, h', K_, G_⟩ | ⟨q_, hq, h', K_, G_⟩
  · have e_ := List.mem_singleton.mp hq
    subst e_
    exact ⟨h', yfr_sm K_.2.2.2 hs K_.1 (ywa_s wsi4_w List.mem_cons_self), ⟨fun a_ j_ => yfr_bp K_.2.2.2 (fun q_ hq => absurd hq List.not_mem_nil), G_⟩⟩
  · cases hq
-- wzi: 21 steps, 0 ends, 1 returns
def wzi_L : List (Nat × Nat × Nat) := []
def wzi_O : yO := [(1, .int 9, .arg 339), (1, .int 10, .arg 340), (1, .int 11, .arg 341), (1, .int 12, .arg 342), (1, .int 13, .arg 343)]
def wzi_A : yA := (yZ wzi_L, [], [], [], [])
def wzi_C : List xB := []
def wzi_ss : List yS := []
def wzi_rs : List yR := [(none, [(74, .int 13, .arg 343), (74, .int 12, .arg 342), (74, .int 11, .arg 341), (74, .int 10, .arg 340), (74, .int 9, .arg 339), (1, .int 9, .arg 339), (1, .int 10, .arg 340), (1, .int 11, .arg 341), (1, .int 12, .arg 342), (1, .int 13, .arg 343)], [], [(74, .int 13), (74, .int 12), (74, .int 11), (74, .int 10), (74, .int 9)])]
theorem wzi_w : ywa wzi_A wzi_ss wzi_rs = true := by decide +kernel
theorem wzi_k : yis (yev wzi_A 3000 60 63 [] (168, [(2, .arg 2), (0, .index 74), (1, .index 1)], [], wzi_O, wzi_C, [])) wzi_ss wzi_rs = true := by decide +kernel
def wzi_r (v2 v339 v340 v341 v342 v343 : Int32) (k_ : Nat) : Value := bif Nat.beq k_ 2 then .int v2 else (bif Nat.beq k_ 339 then .int v339 else (bif Nat.beq k_ 340 then .int v340 else (bif Nat.beq k_ 341 then .int v341 else (bif Nat.beq k_ 342 then .int v342 else (bif Nat.beq k_ 343 then .int v343 else (.int 0))))))
def wzi_s (n_ : Nat) : Nat := 0
theorem wzi {h_ : xH} {v2 v339 v340 v341 v342 v343 : Int32} (hs : sHp h_) (o0_ : bpat h_ 1 9 = some (.int v339)) (o1 : bpat h_ 1 10 = some (.int v340)) (o2 : bpat h_ 1 11 = some (.int v341)) (o3_ : bpat h_ 1 12 = some (.int v342)) (o4_ : bpat h_ 1 13 = some (.int v343)) : ∃ h', ysm h_ h' ∧ (((bpat h' 74 13 = some (.int v343)) ∧ (bpat h' 74 12 = some (.int v342)) ∧ (bpat h' 74 11 = some (.int v341)) ∧ (bpat h' 74 10 = some (.int v340)) ∧ (bpat h' 74 9 = some (.int v339)) ∧ (∀ a_ j_ : Nat, ¬ (a_ = 74 ∧ j_ = 13) → ¬ (a_ = 74 ∧ j_ = 12) → ¬ (a_ = 74 ∧ j_ = 11) → ¬ (a_ = 74 ∧ j_ = 10) → ¬ (a_ = 74 ∧ j_ = 9) → bpat h' a_ j_ = bpat h_ a_ j_) ∧ (∀ D_, 60 ≤ D_ → xrun D_ 63 168 [(2, .int v2), (0, .index 74), (1, .index 1)] [] h_ (none, h', [])))) := by
  have hA : yas wzi_A (wzi_r v2 v339 v340 v341 v342 v343) (yg wzi_s) := ⟨fun q_ hq => absurd hq List.not_mem_nil, fun q_ hq => absurd hq List.not_mem_nil, fun q_ hq => absurd hq List.not_mem_nil, fun n_ hn => yg_lo hn, fun q_ hq => absurd hq List.not_mem_nil⟩
  have Hs : ysh wzi_A.1 (yg wzi_s) h_ := ysh_of2 hs (fun q_ hq => absurd hq List.not_mem_nil)
  have Ho : ymem (wzi_r v2 v339 v340 v341 v342 v343) (yg wzi_s) wzi_O h_ := List.forall_mem_cons.mpr ⟨bpat_some o0_, List.forall_mem_cons.mpr ⟨bpat_some o1, List.forall_mem_cons.mpr ⟨bpat_some o2, List.forall_mem_cons.mpr ⟨bpat_some o3_, List.forall_mem_cons.mpr ⟨bpat_some o4_, fun q_ hq => absurd hq List.not_mem_nil⟩⟩⟩⟩⟩
  have HC : ∀ q_ ∈ wzi_C, xhold (wzi_r v2 v339 v340 v341 v342 v343) q_ := fun q_ hq => absurd hq List.not_mem_nil
  rcases yrun (yis_ok wzi_k) hA Hs Ho HC with ⟨q_, hq, h', K_, G_⟩ | ⟨q_, hq, h', K_, G_⟩
  · cases hq
  · have e_ := List.mem_singleton.mp hq
    subst e_
    exact ⟨h', yfr_sm K_.2.2.2 hs K_.1 (ywa_r wzi_w List.mem_cons_self), ⟨bpat_of (K_.2.1 _ List.mem_cons_self), bpat_of (K_.2.1 _ (List.mem_cons_of_mem _ List.mem_cons_self)), bpat_of (K_.2.1 _ (List.mem_cons_of_mem _ (List.mem_cons_of_mem _ List.mem_cons_self))), bpat_of (K_.2.1 _ (List.mem_cons_of_mem _ (List.mem_cons_of_mem _ (List.mem_cons_of_mem _ List.mem_cons_self)))), bpat_of (K_.2.1 _ (List.mem_cons_of_mem _ (List.mem_cons_of_mem _ (List.mem_cons_of_mem _ (List.mem_cons_of_mem _ List.mem_cons_self))))), fun a_ j_ n0_ n1_ n2_ n3_ n4_ => yfr_bp K_.2.2.2 (List.forall_mem_cons.mpr ⟨fun e_ => n0_ ⟨e_.1.symm, e_.2.symm⟩, List.forall_mem_cons.mpr ⟨fun e_ => n1_ ⟨e_.1.symm, e_.2.symm⟩, List.forall_mem_cons.mpr ⟨fun e_ => n2_ ⟨e_.1.symm, e_.2.symm⟩, List.forall_mem_cons.mpr ⟨fun e_ => n3_ ⟨e_.1.symm, e_.2.symm⟩, List.forall_mem_cons.mpr ⟨fun e_ => n4_ ⟨e_.1.symm, e_.2.symm⟩, fun q_ hq => absurd hq List.not_mem_nil⟩⟩⟩⟩⟩), G_⟩⟩
-- wjiE: 2 steps, 1 ends, 0 returns
def wjiE_L : List (Nat × Nat × Nat) := []
def wjiE_O : yO := []
def wjiE_A : yA := (yZ wjiE_L, [], [], [], [])
def wjiE_C : List xB := []
def wjiE_ss : List yS := [(2, [(2, .int 0), (0, .index 88), (1, .index 15)], [], [], [], [])]
def wjiE_rs : List yR := []
theorem wjiE_w : ywa wjiE_A wjiE_ss wjiE_rs = true := by decide +kernel
theorem wjiE_k : yis (yev wjiE_A 3000 60 14 [2] (0, [(0, .index 88), (1, .index 15)], [], wjiE_O, wjiE_C, [])) wjiE_ss wjiE_rs = true := by decide +kernel
def wjiE_r (k_ : Nat) : Value := .int 0
def wjiE_s (n_ : Nat) : Nat := 0
theorem wjiE {h_ : xH} (hs : sHp h_) : ∃ h', ysm h_ h' ∧ (((∀ a_ j_ : Nat, bpat h' a_ j_ = bpat h_ a_ j_) ∧ (bldD 60 14 0 [(0, .index 88), (1, .index 15)] [] h_ 2 [(2, .int (0 : Int32)), (0, .index 88), (1, .index 15)] [] h'))) := by
  have hA : yas wjiE_A wjiE_r (yg wjiE_s) := ⟨fun q_ hq => absurd hq List.not_mem_nil, fun q_ hq => absurd hq List.not_mem_nil, fun q_ hq => absurd hq List.not_mem_nil, fun n_ hn => yg_lo hn, fun q_ hq => absurd hq List.not_mem_nil⟩
  have Hs : ysh wjiE_A.1 (yg wjiE_s) h_ := ysh_of2 hs (fun q_ hq => absurd hq List.not_mem_nil)
  have Ho : ymem wjiE_r (yg wjiE_s) wjiE_O h_ := fun q_ hq => absurd hq List.not_mem_nil
  have HC : ∀ q_ ∈ wjiE_C, xhold wjiE_r q_ := fun q_ hq => absurd hq List.not_mem_nil
  rcases yrun (yis_ok wjiE_k) hA Hs Ho HC with ⟨q_, hq, h', K_, G_⟩ | ⟨q_, hq, h', K_, G_⟩
  · have e_ := List.mem_singleton.mp hq
    subst e_
    exact ⟨h', yfr_sm K_.2.2.2 hs K_.1 (ywa_s wjiE_w List.mem_cons_self), ⟨fun a_ j_ => yfr_bp K_.2.2.2 (fun q_ hq => absurd hq List.not_mem_nil), G_⟩⟩
  · cases hq
-- wjiA: 13 steps, 1 ends, 0 returns
def wjiA_L : List (Nat × Nat × Nat) := [(1000, 6, 2), (1001, 6, 2)]
def wjiA_O : yO := [(88, .int 0, .index 89), (89, .arg 2, .index 1000), (15, .int 0, .index 16), (16, .arg 2, .index 1001)]
def wjiA_A : yA := (yZ wjiA_L, [(.arg 2, 8)], [], [], [])
def wjiA_C : List xB := [(.lt, .arg 2, .int 8, true)]
def wjiA_ss : List yS := [(23, [(2, .arg 2), (0, .index 88), (1, .index 15)], [.index 1001, .index 1000], [(88, .int 0, .index 89), (89, .arg 2, .index 1000), (15, .int 0, .index 16), (16, .arg 2, .index 1001)], [(.lt, .arg 2, .int 8, true)], [])]
def wjiA_rs : List yR := []
theorem wjiA_w : ywa wjiA_A wjiA_ss wjiA_rs = true := by decide +kernel
theorem wjiA_k : yis (yev wjiA_A 3000 60 14 [23] (2, [(2, .arg 2), (0, .index 88), (1, .index 15)], [], wjiA_O, wjiA_C, [])) wjiA_ss wjiA_rs = true := by decide +kernel
def wjiA_r (v2 : Int32) (k_ : Nat) : Value := bif Nat.beq k_ 2 then .int v2 else (.int 0)
def wjiA_s (a1000 a1001 : Nat) (n_ : Nat) : Nat := bif Nat.beq n_ 1000 then a1000 else (bif Nat.beq n_ 1001 then a1001 else (0))
theorem wjiA {h_ : xH} {a1000 a1001 : Nat} {v2 : Int32} (hs : sHp h_) (k1000 : bcq h_ a1000 6 2) (k1001 : bcq h_ a1001 6 2) (o0_ : bpat h_ 88 0 = some (.index 89)) (o1 : bpat h_ 89 (v2).toInt.toNat = some (.index a1000)) (o2 : bpat h_ 15 0 = some (.index 16)) (o3_ : bpat h_ 16 (v2).toInt.toNat = some (.index a1001)) (b0 : 0 ≤ (v2).toInt ∧ (v2).toInt < 8) (c0_ : v2.toInt < (8 : Int32).toInt) : ∃ h', ysm h_ h' ∧ (((∀ a_ j_ : Nat, bpat h' a_ j_ = bpat h_ a_ j_) ∧ (bldD 60 14 2 [(2, .int v2), (0, .index 88), (1, .index 15)] [] h_ 23 [(2, .int v2), (0, .index 88), (1, .index 15)] [.index a1001, .index a1000] h'))) := by
  have hA : yas wjiA_A (wjiA_r v2) (yg (wjiA_s a1000 a1001)) := ⟨List.forall_mem_cons.mpr ⟨b0, fun q_ hq => absurd hq List.not_mem_nil⟩, fun q_ hq => absurd hq List.not_mem_nil, fun q_ hq => absurd hq List.not_mem_nil, fun n_ hn => yg_lo hn, fun q_ hq => absurd hq List.not_mem_nil⟩
  have Hs : ysh wjiA_A.1 (yg (wjiA_s a1000 a1001)) h_ := ysh_of2 hs (List.forall_mem_cons.mpr ⟨⟨by decide, k1000⟩, List.forall_mem_cons.mpr ⟨⟨by decide, k1001⟩, fun q_ hq => absurd hq List.not_mem_nil⟩⟩)
  have Ho : ymem (wjiA_r v2) (yg (wjiA_s a1000 a1001)) wjiA_O h_ := List.forall_mem_cons.mpr ⟨bpat_some o0_, List.forall_mem_cons.mpr ⟨bpat_some o1, List.forall_mem_cons.mpr ⟨bpat_some o2, List.forall_mem_cons.mpr ⟨bpat_some o3_, fun q_ hq => absurd hq List.not_mem_nil⟩⟩⟩⟩
  have HC : ∀ q_ ∈ wjiA_C, xhold (wjiA_r v2) q_ := List.forall_mem_cons.mpr ⟨xh_ltT c0_, fun q_ hq => absurd hq List.not_mem_nil⟩
  rcases yrun (yis_ok wjiA_k) hA Hs Ho HC with ⟨q_, hq, h', K_, G_⟩ | ⟨q_, hq, h', K_, G_⟩
  · have e_ := List.mem_singleton.mp hq
    subst e_
    exact ⟨h', yfr_sm K_.2.2.2 hs K_.1 (ywa_s wjiA_w List.mem_cons_self), ⟨fun a_ j_ => yfr_bp K_.2.2.2 (fun q_ hq => absurd hq List.not_mem_nil), G_⟩⟩
  · cases hq
-- wjiB: 2 steps, 1 ends, 0 returns
def wjiB_L : List (Nat × Nat × Nat) := []
def wjiB_O : yO := []
def wjiB_A : yA := (yZ wjiB_L, [], [], [], [])
def wjiB_C : List xB := []
def wjiB_ss : List yS := [(2, [(2, .add (.arg 2) (.int 1)), (0, .index 88), (1, .index 15)], [], [], [], [])]
def wjiB_rs : List yR := []
theorem wjiB_w : ywa wjiB_A wjiB_ss wjiB_rs = true := by decide +kernel
theorem wjiB_k : yis (yev wjiB_A 3000 60 14 [2] (26, [(2, .arg 2), (0, .index 88), (1, .index 15)], [], wjiB_O, wjiB_C, [])) wjiB_ss wjiB_rs = true := by decide +kernel
def wjiB_r (v2 : Int32) (k_ : Nat) : Value := bif Nat.beq k_ 2 then .int v2 else (.int 0)
def wjiB_s (n_ : Nat) : Nat := 0
theorem wjiB {h_ : xH} {v2 : Int32} (hs : sHp h_) : ∃ h', ysm h_ h' ∧ (((∀ a_ j_ : Nat, bpat h' a_ j_ = bpat h_ a_ j_) ∧ (bldD 60 14 26 [(2, .int v2), (0, .index 88), (1, .index 15)] [] h_ 2 [(2, .int (v2 + (1 : Int32))), (0, .index 88), (1, .index 15)] [] h'))) := by
  have hA : yas wjiB_A (wjiB_r v2) (yg wjiB_s) := ⟨fun q_ hq => absurd hq List.not_mem_nil, fun q_ hq => absurd hq List.not_mem_nil, fun q_ hq => absurd hq List.not_mem_nil, fun n_ hn => yg_lo hn, fun q_ hq => absurd hq List.not_mem_nil⟩
  have Hs : ysh wjiB_A.1 (yg wjiB_s) h_ := ysh_of2 hs (fun q_ hq => absurd hq List.not_mem_nil)
  have Ho : ymem (wjiB_r v2) (yg wjiB_s) wjiB_O h_ := fun q_ hq => absurd hq List.not_mem_nil
  have HC : ∀ q_ ∈ wjiB_C, xhold (wjiB_r v2) q_ := fun q_ hq => absurd hq List.not_mem_nil
  rcases yrun (yis_ok wjiB_k) hA Hs Ho HC with ⟨q_, hq, h', K_, G_⟩ | ⟨q_, hq, h', K_, G_⟩
  · have e_ := List.mem_singleton.mp hq
    subst e_
    exact ⟨h', yfr_sm K_.2.2.2 hs K_.1 (ywa_s wjiB_w List.mem_cons_self), ⟨fun a_ j_ => yfr_bp K_.2.2.2 (fun q_ hq => absurd hq List.not_mem_nil), G_⟩⟩
  · cases hq
-- wjiC: 14 steps, 0 ends, 1 returns
def wjiC_L : List (Nat × Nat × Nat) := []
def wjiC_O : yO := [(88, .int 0, .index 89), (15, .int 1, .arg 331), (15, .int 2, .arg 332)]
def wjiC_A : yA := (yZ wjiC_L, [], [], [], [])
def wjiC_C : List xB := [(.lt, .arg 2, .int 8, false)]
def wjiC_ss : List yS := []
def wjiC_rs : List yR := [(none, [(88, .int 2, .arg 332), (88, .int 1, .arg 331), (88, .int 0, .index 89), (15, .int 1, .arg 331), (15, .int 2, .arg 332)], [(.lt, .arg 2, .int 8, false)], [(88, .int 2), (88, .int 1)])]
theorem wjiC_w : ywa wjiC_A wjiC_ss wjiC_rs = true := by decide +kernel
theorem wjiC_k : yis (yev wjiC_A 3000 60 14 [] (2, [(2, .arg 2), (0, .index 88), (1, .index 15)], [], wjiC_O, wjiC_C, [])) wjiC_ss wjiC_rs = true := by decide +kernel
def wjiC_r (v2 v331 v332 : Int32) (k_ : Nat) : Value := bif Nat.beq k_ 2 then .int v2 else (bif Nat.beq k_ 331 then .int v331 else (bif Nat.beq k_ 332 then .int v332 else (.int 0)))
def wjiC_s (n_ : Nat) : Nat := 0
theorem wjiC {h_ : xH} {v2 v331 v332 : Int32} (hs : sHp h_) (o0_ : bpat h_ 88 0 = some (.index 89)) (o1 : bpat h_ 15 1 = some (.int v331)) (o2 : bpat h_ 15 2 = some (.int v332)) (c0_ : (8 : Int32).toInt ≤ v2.toInt) : ∃ h', ysm h_ h' ∧ (((bpat h' 88 2 = some (.int v332)) ∧ (bpat h' 88 1 = some (.int v331)) ∧ (∀ a_ j_ : Nat, ¬ (a_ = 88 ∧ j_ = 2) → ¬ (a_ = 88 ∧ j_ = 1) → bpat h' a_ j_ = bpat h_ a_ j_) ∧ (∀ D_, 60 ≤ D_ → xrun D_ 14 2 [(2, .int v2), (0, .index 88), (1, .index 15)] [] h_ (none, h', [])))) := by
  have hA : yas wjiC_A (wjiC_r v2 v331 v332) (yg wjiC_s) := ⟨fun q_ hq => absurd hq List.not_mem_nil, fun q_ hq => absurd hq List.not_mem_nil, fun q_ hq => absurd hq List.not_mem_nil, fun n_ hn => yg_lo hn, fun q_ hq => absurd hq List.not_mem_nil⟩
  have Hs : ysh wjiC_A.1 (yg wjiC_s) h_ := ysh_of2 hs (fun q_ hq => absurd hq List.not_mem_nil)
  have Ho : ymem (wjiC_r v2 v331 v332) (yg wjiC_s) wjiC_O h_ := List.forall_mem_cons.mpr ⟨bpat_some o0_, List.forall_mem_cons.mpr ⟨bpat_some o1, List.forall_mem_cons.mpr ⟨bpat_some o2, fun q_ hq => absurd hq List.not_mem_nil⟩⟩⟩
  have HC : ∀ q_ ∈ wjiC_C, xhold (wjiC_r v2 v331 v332) q_ := List.forall_mem_cons.mpr ⟨xh_ltF c0_, fun q_ hq => absurd hq List.not_mem_nil⟩
  rcases yrun (yis_ok wjiC_k) hA Hs Ho HC with ⟨q_, hq, h', K_, G_⟩ | ⟨q_, hq, h', K_, G_⟩
  · cases hq
  · have e_ := List.mem_singleton.mp hq
    subst e_
    exact ⟨h', yfr_sm K_.2.2.2 hs K_.1 (ywa_r wjiC_w List.mem_cons_self), ⟨bpat_of (K_.2.1 _ List.mem_cons_self), bpat_of (K_.2.1 _ (List.mem_cons_of_mem _ List.mem_cons_self)), fun a_ j_ n0_ n1_ => yfr_bp K_.2.2.2 (List.forall_mem_cons.mpr ⟨fun e_ => n0_ ⟨e_.1.symm, e_.2.symm⟩, List.forall_mem_cons.mpr ⟨fun e_ => n1_ ⟨e_.1.symm, e_.2.symm⟩, fun q_ hq => absurd hq List.not_mem_nil⟩⟩), G_⟩⟩
-- wcrE: 2 steps, 1 ends, 0 returns
def wcrE_L : List (Nat × Nat × Nat) := []
def wcrE_O : yO := []
def wcrE_A : yA := (yZ wcrE_L, [], [], [], [])
def wcrE_C : List xB := []
def wcrE_ss : List yS := [(2, [(2, .int 0), (0, .index 1), (1, .index 74)], [], [], [], [])]
def wcrE_rs : List yR := []
theorem wcrE_w : ywa wcrE_A wcrE_ss wcrE_rs = true := by decide +kernel
theorem wcrE_k : yis (yev wcrE_A 3000 60 63 [2] (0, [(0, .index 1), (1, .index 74)], [], wcrE_O, wcrE_C, [])) wcrE_ss wcrE_rs = true := by decide +kernel
def wcrE_r (k_ : Nat) : Value := .int 0
def wcrE_s (n_ : Nat) : Nat := 0
theorem wcrE {h_ : xH} (hs : sHp h_) : ∃ h', ysm h_ h' ∧ (((∀ a_ j_ : Nat, bpat h' a_ j_ = bpat h_ a_ j_) ∧ (bldD 60 63 0 [(0, .index 1), (1, .index 74)] [] h_ 2 [(2, .int (0 : Int32)), (0, .index 1), (1, .index 74)] [] h'))) := by
  have hA : yas wcrE_A wcrE_r (yg wcrE_s) := ⟨fun q_ hq => absurd hq List.not_mem_nil, fun q_ hq => absurd hq List.not_mem_nil, fun q_ hq => absurd hq List.not_mem_nil, fun n_ hn => yg_lo hn, fun q_ hq => absurd hq List.not_mem_nil⟩
  have Hs : ysh wcrE_A.1 (yg wcrE_s) h_ := ysh_of2 hs (fun q_ hq => absurd hq List.not_mem_nil)
  have Ho : ymem wcrE_r (yg wcrE_s) wcrE_O h_ := fun q_ hq => absurd hq List.not_mem_nil
  have HC : ∀ q_ ∈ wcrE_C, xhold wcrE_r q_ := fun q_ hq => absurd hq List.not_mem_nil
  rcases yrun (yis_ok wcrE_k) hA Hs Ho HC with ⟨q_, hq, h', K_, G_⟩ | ⟨q_, hq, h', K_, G_⟩
  · have e_ := List.mem_singleton.mp hq
    subst e_
    exact ⟨h', yfr_sm K_.2.2.2 hs K_.1 (ywa_s wcrE_w List.mem_cons_self), ⟨fun a_ j_ => yfr_bp K_.2.2.2 (fun q_ hq => absurd hq List.not_mem_nil), G_⟩⟩
  · cases hq
-- wcrA: 13 steps, 1 ends, 0 returns
def wcrA_L : List (Nat × Nat × Nat) := [(1000, 6, 2), (1001, 6, 2)]
def wcrA_O : yO := [(1, .int 0, .index 2), (2, .arg 2, .index 1000), (74, .int 0, .index 75), (75, .arg 2, .index 1001)]
def wcrA_A : yA := (yZ wcrA_L, [(.arg 2, 12)], [], [], [])
def wcrA_C : List xB := [(.lt, .arg 2, .int 12, true)]
def wcrA_ss : List yS := [(23, [(2, .arg 2), (0, .index 1), (1, .index 74)], [.index 1001, .index 1000], [(1, .int 0, .index 2), (2, .arg 2, .index 1000), (74, .int 0, .index 75), (75, .arg 2, .index 1001)], [(.lt, .arg 2, .int 12, true)], [])]
def wcrA_rs : List yR := []
theorem wcrA_w : ywa wcrA_A wcrA_ss wcrA_rs = true := by decide +kernel
theorem wcrA_k : yis (yev wcrA_A 3000 60 63 [23] (2, [(2, .arg 2), (0, .index 1), (1, .index 74)], [], wcrA_O, wcrA_C, [])) wcrA_ss wcrA_rs = true := by decide +kernel
def wcrA_r (v2 : Int32) (k_ : Nat) : Value := bif Nat.beq k_ 2 then .int v2 else (.int 0)
def wcrA_s (a1000 a1001 : Nat) (n_ : Nat) : Nat := bif Nat.beq n_ 1000 then a1000 else (bif Nat.beq n_ 1001 then a1001 else (0))
theorem wcrA {h_ : xH} {a1000 a1001 : Nat} {v2 : Int32} (hs : sHp h_) (k1000 : bcq h_ a1000 6 2) (k1001 : bcq h_ a1001 6 2) (o0_ : bpat h_ 2 (v2).toInt.toNat = some (.index a1000)) (o1 : bpat h_ 75 (v2).toInt.toNat = some (.index a1001)) (b0 : 0 ≤ (v2).toInt ∧ (v2).toInt < 12) (c0_ : v2.toInt < (12 : Int32).toInt) : ∃ h', ysm h_ h' ∧ (((∀ a_ j_ : Nat, bpat h' a_ j_ = bpat h_ a_ j_) ∧ (bldD 60 63 2 [(2, .int v2), (0, .index 1), (1, .index 74)] [] h_ 23 [(2, .int v2), (0, .index 1), (1, .index 74)] [.index a1001, .index a1000] h'))) := by
  have hA : yas wcrA_A (wcrA_r v2) (yg (wcrA_s a1000 a1001)) := ⟨List.forall_mem_cons.mpr ⟨b0, fun q_ hq => absurd hq List.not_mem_nil⟩, fun q_ hq => absurd hq List.not_mem_nil, fun q_ hq => absurd hq List.not_mem_nil, fun n_ hn => yg_lo hn, fun q_ hq => absurd hq List.not_mem_nil⟩
  have Hs : ysh wcrA_A.1 (yg (wcrA_s a1000 a1001)) h_ := ysh_of2 hs (List.forall_mem_cons.mpr ⟨⟨by decide, k1000⟩, List.forall_mem_cons.mpr ⟨⟨by decide, k1001⟩, fun q_ hq => absurd hq List.not_mem_nil⟩⟩)
  have Ho : ymem (wcrA_r v2) (yg (wcrA_s a1000 a1001)) wcrA_O h_ := List.forall_mem_cons.mpr ⟨bpat_some (fxr_at hs.2 (show fxk fxl 1 0 = some 2 by decide +kernel)), List.forall_mem_cons.mpr ⟨bpat_some o0_, List.forall_mem_cons.mpr ⟨bpat_some (fxr_at hs.2 (show fxk fxl 74 0 = some 75 by decide +kernel)), List.forall_mem_cons.mpr ⟨bpat_some o1, fun q_ hq => absurd hq List.not_mem_nil⟩⟩⟩⟩
  have HC : ∀ q_ ∈ wcrA_C, xhold (wcrA_r v2) q_ := List.forall_mem_cons.mpr ⟨xh_ltT c0_, fun q_ hq => absurd hq List.not_mem_nil⟩
  rcases yrun (yis_ok wcrA_k) hA Hs Ho HC with ⟨q_, hq, h', K_, G_⟩ | ⟨q_, hq, h', K_, G_⟩
  · have e_ := List.mem_singleton.mp hq
    subst e_
    exact ⟨h', yfr_sm K_.2.2.2 hs K_.1 (ywa_s wcrA_w List.mem_cons_self), ⟨fun a_ j_ => yfr_bp K_.2.2.2 (fun q_ hq => absurd hq List.not_mem_nil), G_⟩⟩
  · cases hq
-- wcrB: 2 steps, 1 ends, 0 returns
def wcrB_L : List (Nat × Nat × Nat) := []
def wcrB_O : yO := []
def wcrB_A : yA := (yZ wcrB_L, [], [], [], [])
def wcrB_C : List xB := []
def wcrB_ss : List yS := [(2, [(2, .add (.arg 2) (.int 1)), (0, .index 1), (1, .index 74)], [], [], [], [])]
def wcrB_rs : List yR := []
theorem wcrB_w : ywa wcrB_A wcrB_ss wcrB_rs = true := by decide +kernel
theorem wcrB_k : yis (yev wcrB_A 3000 60 63 [2] (26, [(2, .arg 2), (0, .index 1), (1, .index 74)], [], wcrB_O, wcrB_C, [])) wcrB_ss wcrB_rs = true := by decide +kernel
def wcrB_r (v2 : Int32) (k_ : Nat) : Value := bif Nat.beq k_ 2 then .int v2 else (.int 0)
def wcrB_s (n_ : Nat) : Nat := 0
theorem wcrB {h_ : xH} {v2 : Int32} (hs : sHp h_) : ∃ h', ysm h_ h' ∧ (((∀ a_ j_ : Nat, bpat h' a_ j_ = bpat h_ a_ j_) ∧ (bldD 60 63 26 [(2, .int v2), (0, .index 1), (1, .index 74)] [] h_ 2 [(2, .int (v2 + (1 : Int32))), (0, .index 1), (1, .index 74)] [] h'))) := by
  have hA : yas wcrB_A (wcrB_r v2) (yg wcrB_s) := ⟨fun q_ hq => absurd hq List.not_mem_nil, fun q_ hq => absurd hq List.not_mem_nil, fun q_ hq => absurd hq List.not_mem_nil, fun n_ hn => yg_lo hn, fun q_ hq => absurd hq List.not_mem_nil⟩
  have Hs : ysh wcrB_A.1 (yg wcrB_s) h_ := ysh_of2 hs (fun q_ hq => absurd hq List.not_mem_nil)
  have Ho : ymem (wcrB_r v2) (yg wcrB_s) wcrB_O h_ := fun q_ hq => absurd hq List.not_mem_nil
  have HC : ∀ q_ ∈ wcrB_C, xhold (wcrB_r v2) q_ := fun q_ hq => absurd hq List.not_mem_nil
  rcases yrun (yis_ok wcrB_k) hA Hs Ho HC with ⟨q_, hq, h', K_, G_⟩ | ⟨q_, hq, h', K_, G_⟩
  · have e_ := List.mem_singleton.mp hq
    subst e_
    exact ⟨h', yfr_sm K_.2.2.2 hs K_.1 (ywa_s wcrB_w List.mem_cons_self), ⟨fun a_ j_ => yfr_bp K_.2.2.2 (fun q_ hq => absurd hq List.not_mem_nil), G_⟩⟩
  · cases hq
-- wcrC: 7 steps, 1 ends, 0 returns
def wcrC_L : List (Nat × Nat × Nat) := []
def wcrC_O : yO := [(1, .int 0, .index 2)]
def wcrC_A : yA := (yZ wcrC_L, [], [], [], [])
def wcrC_C : List xB := [(.lt, .arg 2, .int 12, false)]
def wcrC_ss : List yS := [(34, [(2, .int 0), (0, .index 1), (1, .index 74)], [], [(1, .int 0, .index 2)], [(.lt, .arg 2, .int 12, false)], [])]
def wcrC_rs : List yR := []
theorem wcrC_w : ywa wcrC_A wcrC_ss wcrC_rs = true := by decide +kernel
theorem wcrC_k : yis (yev wcrC_A 3000 60 63 [34] (2, [(2, .arg 2), (0, .index 1), (1, .index 74)], [], wcrC_O, wcrC_C, [])) wcrC_ss wcrC_rs = true := by decide +kernel
def wcrC_r (v2 : Int32) (k_ : Nat) : Value := bif Nat.beq k_ 2 then .int v2 else (.int 0)
def wcrC_s (n_ : Nat) : Nat := 0
theorem wcrC {h_ : xH} {v2 : Int32} (hs : sHp h_) (c0_ : (12 : Int32).toInt ≤ v2.toInt) : ∃ h', ysm h_ h' ∧ (((∀ a_ j_ : Nat, bpat h' a_ j_ = bpat h_ a_ j_) ∧ (bldD 60 63 2 [(2, .int v2), (0, .index 1), (1, .index 74)] [] h_ 34 [(2, .int (0 : Int32)), (0, .index 1), (1, .index 74)] [] h'))) := by
  have hA : yas wcrC_A (wcrC_r v2) (yg wcrC_s) := ⟨fun q_ hq => absurd hq List.not_mem_nil, fun q_ hq => absurd hq List.not_mem_nil, fun q_ hq => absurd hq List.not_mem_nil, fun n_ hn => yg_lo hn, fun q_ hq => absurd hq List.not_mem_nil⟩
  have Hs : ysh wcrC_A.1 (yg wcrC_s) h_ := ysh_of2 hs (fun q_ hq => absurd hq List.not_mem_nil)
  have Ho : ymem (wcrC_r v2) (yg wcrC_s) wcrC_O h_ := List.forall_mem_cons.mpr ⟨bpat_some (fxr_at hs.2 (show fxk fxl 1 0 = some 2 by decide +kernel)), fun q_ hq => absurd hq List.not_mem_nil⟩
  have HC : ∀ q_ ∈ wcrC_C, xhold (wcrC_r v2) q_ := List.forall_mem_cons.mpr ⟨xh_ltF c0_, fun q_ hq => absurd hq List.not_mem_nil⟩
  rcases yrun (yis_ok wcrC_k) hA Hs Ho HC with ⟨q_, hq, h', K_, G_⟩ | ⟨q_, hq, h', K_, G_⟩
  · have e_ := List.mem_singleton.mp hq
    subst e_
    exact ⟨h', yfr_sm K_.2.2.2 hs K_.1 (ywa_s wcrC_w List.mem_cons_self), ⟨fun a_ j_ => yfr_bp K_.2.2.2 (fun q_ hq => absurd hq List.not_mem_nil), G_⟩⟩
  · cases hq
-- wrrA: 29 steps, 1 ends, 0 returns
def wrrA_L : List (Nat × Nat × Nat) := [(1000, 5, 3), (1001, 5, 3)]
def wrrA_O : yO := [(1, .int 1, .index 3), (3, .arg 2, .index 1000), (74, .int 1, .index 76), (76, .arg 2, .index 1001), (1001, .int 0, .arg 320), (1001, .int 1, .arg 321), (1001, .int 2, .arg 322)]
def wrrA_A : yA := (yZ wrrA_L, [(.arg 2, 8)], [], [(1000, 1001)], [])
def wrrA_C : List xB := [(.lt, .arg 2, .int 8, true)]
def wrrA_ss : List yS := [(34, [(2, .add (.arg 2) (.int 1)), (0, .index 1), (1, .index 74)], [], [(1000, .int 2, .arg 322), (1000, .int 1, .arg 321), (1000, .int 0, .arg 320), (1, .int 1, .index 3), (3, .arg 2, .index 1000), (74, .int 1, .index 76), (76, .arg 2, .index 1001), (1001, .int 0, .arg 320), (1001, .int 1, .arg 321), (1001, .int 2, .arg 322)], [(.lt, .arg 2, .int 8, true)], [(1000, .int 2), (1000, .int 1), (1000, .int 0)])]
def wrrA_rs : List yR := []
theorem wrrA_w : ywa wrrA_A wrrA_ss wrrA_rs = true := by decide +kernel
theorem wrrA_k : yis (yev wrrA_A 3000 60 63 [34] (34, [(2, .arg 2), (0, .index 1), (1, .index 74)], [], wrrA_O, wrrA_C, [])) wrrA_ss wrrA_rs = true := by decide +kernel
def wrrA_r (v2 v320 v321 v322 : Int32) (k_ : Nat) : Value := bif Nat.beq k_ 2 then .int v2 else (bif Nat.beq k_ 320 then .int v320 else (bif Nat.beq k_ 321 then .int v321 else (bif Nat.beq k_ 322 then .int v322 else (.int 0))))
def wrrA_s (a1000 a1001 : Nat) (n_ : Nat) : Nat := bif Nat.beq n_ 1000 then a1000 else (bif Nat.beq n_ 1001 then a1001 else (0))
theorem wrrA {h_ : xH} {a1000 a1001 : Nat} {v2 v320 v321 v322 : Int32} (hs : sHp h_) (k1000 : bcq h_ a1000 5 3) (k1001 : bcq h_ a1001 5 3) (o0_ : bpat h_ 3 (v2).toInt.toNat = some (.index a1000)) (o1 : bpat h_ 76 (v2).toInt.toNat = some (.index a1001)) (o2 : bpat h_ a1001 0 = some (.int v320)) (o3_ : bpat h_ a1001 1 = some (.int v321)) (o4_ : bpat h_ a1001 2 = some (.int v322)) (b0 : 0 ≤ (v2).toInt ∧ (v2).toInt < 8) (y0 : ¬ a1000 = a1001) (c0_ : v2.toInt < (8 : Int32).toInt) : ∃ h', ysm h_ h' ∧ (((bpat h' a1000 2 = some (.int v322)) ∧ (bpat h' a1000 1 = some (.int v321)) ∧ (bpat h' a1000 0 = some (.int v320)) ∧ (∀ a_ j_ : Nat, ¬ (a_ = a1000 ∧ j_ = 2) → ¬ (a_ = a1000 ∧ j_ = 1) → ¬ (a_ = a1000 ∧ j_ = 0) → bpat h' a_ j_ = bpat h_ a_ j_) ∧ (bldD 60 63 34 [(2, .int v2), (0, .index 1), (1, .index 74)] [] h_ 34 [(2, .int (v2 + (1 : Int32))), (0, .index 1), (1, .index 74)] [] h'))) := by
  have hA : yas wrrA_A (wrrA_r v2 v320 v321 v322) (yg (wrrA_s a1000 a1001)) := ⟨List.forall_mem_cons.mpr ⟨b0, fun q_ hq => absurd hq List.not_mem_nil⟩, fun q_ hq => absurd hq List.not_mem_nil, List.forall_mem_cons.mpr ⟨y0, fun q_ hq => absurd hq List.not_mem_nil⟩, fun n_ hn => yg_lo hn, fun q_ hq => absurd hq List.not_mem_nil⟩
  have Hs : ysh wrrA_A.1 (yg (wrrA_s a1000 a1001)) h_ := ysh_of2 hs (List.forall_mem_cons.mpr ⟨⟨by decide, k1000⟩, List.forall_mem_cons.mpr ⟨⟨by decide, k1001⟩, fun q_ hq => absurd hq List.not_mem_nil⟩⟩)
  have Ho : ymem (wrrA_r v2 v320 v321 v322) (yg (wrrA_s a1000 a1001)) wrrA_O h_ := List.forall_mem_cons.mpr ⟨bpat_some (fxr_at hs.2 (show fxk fxl 1 1 = some 3 by decide +kernel)), List.forall_mem_cons.mpr ⟨bpat_some o0_, List.forall_mem_cons.mpr ⟨bpat_some (fxr_at hs.2 (show fxk fxl 74 1 = some 76 by decide +kernel)), List.forall_mem_cons.mpr ⟨bpat_some o1, List.forall_mem_cons.mpr ⟨bpat_some o2, List.forall_mem_cons.mpr ⟨bpat_some o3_, List.forall_mem_cons.mpr ⟨bpat_some o4_, fun q_ hq => absurd hq List.not_mem_nil⟩⟩⟩⟩⟩⟩⟩
  have HC : ∀ q_ ∈ wrrA_C, xhold (wrrA_r v2 v320 v321 v322) q_ := List.forall_mem_cons.mpr ⟨xh_ltT c0_, fun q_ hq => absurd hq List.not_mem_nil⟩
  rcases yrun (yis_ok wrrA_k) hA Hs Ho HC with ⟨q_, hq, h', K_, G_⟩ | ⟨q_, hq, h', K_, G_⟩
  · have e_ := List.mem_singleton.mp hq
    subst e_
    exact ⟨h', yfr_sm K_.2.2.2 hs K_.1 (ywa_s wrrA_w List.mem_cons_self), ⟨bpat_of (K_.2.1 _ List.mem_cons_self), bpat_of (K_.2.1 _ (List.mem_cons_of_mem _ List.mem_cons_self)), bpat_of (K_.2.1 _ (List.mem_cons_of_mem _ (List.mem_cons_of_mem _ List.mem_cons_self))), fun a_ j_ n0_ n1_ n2_ => yfr_bp K_.2.2.2 (List.forall_mem_cons.mpr ⟨fun e_ => n0_ ⟨e_.1.symm, e_.2.symm⟩, List.forall_mem_cons.mpr ⟨fun e_ => n1_ ⟨e_.1.symm, e_.2.symm⟩, List.forall_mem_cons.mpr ⟨fun e_ => n2_ ⟨e_.1.symm, e_.2.symm⟩, fun q_ hq => absurd hq List.not_mem_nil⟩⟩⟩), G_⟩⟩
  · cases hq
-- wrrC: 7 steps, 1 ends, 0 returns
def wrrC_L : List (Nat × Nat × Nat) := []
def wrrC_O : yO := [(1, .int 1, .index 3)]
def wrrC_A : yA := (yZ wrrC_L, [], [], [], [])
def wrrC_C : List xB := [(.lt, .arg 2, .int 8, false)]
def wrrC_ss : List yS := [(66, [(2, .int 0), (0, .index 1), (1, .index 74)], [], [(1, .int 1, .index 3)], [(.lt, .arg 2, .int 8, false)], [])]
def wrrC_rs : List yR := []
theorem wrrC_w : ywa wrrC_A wrrC_ss wrrC_rs = true := by decide +kernel
theorem wrrC_k : yis (yev wrrC_A 3000 60 63 [66] (34, [(2, .arg 2), (0, .index 1), (1, .index 74)], [], wrrC_O, wrrC_C, [])) wrrC_ss wrrC_rs = true := by decide +kernel
def wrrC_r (v2 : Int32) (k_ : Nat) : Value := bif Nat.beq k_ 2 then .int v2 else (.int 0)
def wrrC_s (n_ : Nat) : Nat := 0
theorem wrrC {h_ : xH} {v2 : Int32} (hs : sHp h_) (c0_ : (8 : Int32).toInt ≤ v2.toInt) : ∃ h', ysm h_ h' ∧ (((∀ a_ j_ : Nat, bpat h' a_ j_ = bpat h_ a_ j_) ∧ (bldD 60 63 34 [(2, .int v2), (0, .index 1), (1, .index 74)] [] h_ 66 [(2, .int (0 : Int32)), (0, .index 1), (1, .index 74)] [] h'))) := by
  have hA : yas wrrC_A (wrrC_r v2) (yg wrrC_s) := ⟨fun q_ hq => absurd hq List.not_mem_nil, fun q_ hq => absurd hq List.not_mem_nil, fun q_ hq => absurd hq List.not_mem_nil, fun n_ hn => yg_lo hn, fun q_ hq => absurd hq List.not_mem_nil⟩
  have Hs : ysh wrrC_A.1 (yg wrrC_s) h_ := ysh_of2 hs (fun q_ hq => absurd hq List.not_mem_nil)
  have Ho : ymem (wrrC_r v2) (yg wrrC_s) wrrC_O h_ := List.forall_mem_cons.mpr ⟨bpat_some (fxr_at hs.2 (show fxk fxl 1 1 = some 3 by decide +kernel)), fun q_ hq => absurd hq List.not_mem_nil⟩
  have HC : ∀ q_ ∈ wrrC_C, xhold (wrrC_r v2) q_ := List.forall_mem_cons.mpr ⟨xh_ltF c0_, fun q_ hq => absurd hq List.not_mem_nil⟩
  rcases yrun (yis_ok wrrC_k) hA Hs Ho HC with ⟨q_, hq, h', K_, G_⟩ | ⟨q_, hq, h', K_, G_⟩
  · have e_ := List.mem_singleton.mp hq
    subst e_
    exact ⟨h', yfr_sm K_.2.2.2 hs K_.1 (ywa_s wrrC_w List.mem_cons_self), ⟨fun a_ j_ => yfr_bp K_.2.2.2 (fun q_ hq => absurd hq List.not_mem_nil), G_⟩⟩
  · cases hq
-- wtrA: 15 steps, 1 ends, 0 returns
def wtrA_L : List (Nat × Nat × Nat) := [(1000, 9, 2), (1001, 9, 2), (1002, 6, 2), (1003, 6, 2)]
def wtrA_O : yO := [(1, .int 2, .index 4), (4, .arg 2, .index 1000), (1000, .int 0, .index 1002), (74, .int 2, .index 77), (77, .arg 2, .index 1001), (1001, .int 0, .index 1003)]
def wtrA_A : yA := (yZ wtrA_L, [(.arg 2, 2)], [], [], [])
def wtrA_C : List xB := [(.lt, .arg 2, .int 2, true)]
def wtrA_ss : List yS := [(93, [(2, .arg 2), (0, .index 1), (1, .index 74)], [.index 1003, .index 1002], [(1, .int 2, .index 4), (4, .arg 2, .index 1000), (1000, .int 0, .index 1002), (74, .int 2, .index 77), (77, .arg 2, .index 1001), (1001, .int 0, .index 1003)], [(.lt, .arg 2, .int 2, true)], [])]
def wtrA_rs : List yR := []
theorem wtrA_w : ywa wtrA_A wtrA_ss wtrA_rs = true := by decide +kernel
theorem wtrA_k : yis (yev wtrA_A 3000 60 63 [93] (66, [(2, .arg 2), (0, .index 1), (1, .index 74)], [], wtrA_O, wtrA_C, [])) wtrA_ss wtrA_rs = true := by decide +kernel
def wtrA_r (v2 : Int32) (k_ : Nat) : Value := bif Nat.beq k_ 2 then .int v2 else (.int 0)
def wtrA_s (a1000 a1001 a1002 a1003 : Nat) (n_ : Nat) : Nat := bif Nat.beq n_ 1000 then a1000 else (bif Nat.beq n_ 1001 then a1001 else (bif Nat.beq n_ 1002 then a1002 else (bif Nat.beq n_ 1003 then a1003 else (0))))
theorem wtrA {h_ : xH} {a1000 a1001 a1002 a1003 : Nat} {v2 : Int32} (hs : sHp h_) (k1000 : bcq h_ a1000 9 2) (k1001 : bcq h_ a1001 9 2) (k1002 : bcq h_ a1002 6 2) (k1003 : bcq h_ a1003 6 2) (o0_ : bpat h_ 4 (v2).toInt.toNat = some (.index a1000)) (o1 : bpat h_ a1000 0 = some (.index a1002)) (o2 : bpat h_ 77 (v2).toInt.toNat = some (.index a1001)) (o3_ : bpat h_ a1001 0 = some (.index a1003)) (b0 : 0 ≤ (v2).toInt ∧ (v2).toInt < 2) (c0_ : v2.toInt < (2 : Int32).toInt) : ∃ h', ysm h_ h' ∧ (((∀ a_ j_ : Nat, bpat h' a_ j_ = bpat h_ a_ j_) ∧ (bldD 60 63 66 [(2, .int v2), (0, .index 1), (1, .index 74)] [] h_ 93 [(2, .int v2), (0, .index 1), (1, .index 74)] [.index a1003, .index a1002] h'))) := by
  have hA : yas wtrA_A (wtrA_r v2) (yg (wtrA_s a1000 a1001 a1002 a1003)) := ⟨List.forall_mem_cons.mpr ⟨b0, fun q_ hq => absurd hq List.not_mem_nil⟩, fun q_ hq => absurd hq List.not_mem_nil, fun q_ hq => absurd hq List.not_mem_nil, fun n_ hn => yg_lo hn, fun q_ hq => absurd hq List.not_mem_nil⟩
  have Hs : ysh wtrA_A.1 (yg (wtrA_s a1000 a1001 a1002 a1003)) h_ := ysh_of2 hs (List.forall_mem_cons.mpr ⟨⟨by decide, k1000⟩, List.forall_mem_cons.mpr ⟨⟨by decide, k1001⟩, List.forall_mem_cons.mpr ⟨⟨by decide, k1002⟩, List.forall_mem_cons.mpr ⟨⟨by decide, k1003⟩, fun q_ hq => absurd hq List.not_mem_nil⟩⟩⟩⟩)
  have Ho : ymem (wtrA_r v2) (yg (wtrA_s a1000 a1001 a1002 a1003)) wtrA_O h_ := List.forall_mem_cons.mpr ⟨bpat_some (fxr_at hs.2 (show fxk fxl 1 2 = some 4 by decide +kernel)), List.forall_mem_cons.mpr ⟨bpat_some o0_, List.forall_mem_cons.mpr ⟨bpat_some o1, List.forall_mem_cons.mpr ⟨bpat_some (fxr_at hs.2 (show fxk fxl 74 2 = some 77 by decide +kernel)), List.forall_mem_cons.mpr ⟨bpat_some o2, List.forall_mem_cons.mpr ⟨bpat_some o3_, fun q_ hq => absurd hq List.not_mem_nil⟩⟩⟩⟩⟩⟩
  have HC : ∀ q_ ∈ wtrA_C, xhold (wtrA_r v2) q_ := List.forall_mem_cons.mpr ⟨xh_ltT c0_, fun q_ hq => absurd hq List.not_mem_nil⟩
  rcases yrun (yis_ok wtrA_k) hA Hs Ho HC with ⟨q_, hq, h', K_, G_⟩ | ⟨q_, hq, h', K_, G_⟩
  · have e_ := List.mem_singleton.mp hq
    subst e_
    exact ⟨h', yfr_sm K_.2.2.2 hs K_.1 (ywa_s wtrA_w List.mem_cons_self), ⟨fun a_ j_ => yfr_bp K_.2.2.2 (fun q_ hq => absurd hq List.not_mem_nil), G_⟩⟩
  · cases hq
-- wtrB: 2 steps, 1 ends, 0 returns
def wtrB_L : List (Nat × Nat × Nat) := []
def wtrB_O : yO := []
def wtrB_A : yA := (yZ wtrB_L, [], [], [], [])
def wtrB_C : List xB := []
def wtrB_ss : List yS := [(66, [(2, .add (.arg 2) (.int 1)), (0, .index 1), (1, .index 74)], [], [], [], [])]
def wtrB_rs : List yR := []
theorem wtrB_w : ywa wtrB_A wtrB_ss wtrB_rs = true := by decide +kernel
theorem wtrB_k : yis (yev wtrB_A 3000 60 63 [66] (96, [(2, .arg 2), (0, .index 1), (1, .index 74)], [], wtrB_O, wtrB_C, [])) wtrB_ss wtrB_rs = true := by decide +kernel
def wtrB_r (v2 : Int32) (k_ : Nat) : Value := bif Nat.beq k_ 2 then .int v2 else (.int 0)
def wtrB_s (n_ : Nat) : Nat := 0
theorem wtrB {h_ : xH} {v2 : Int32} (hs : sHp h_) : ∃ h', ysm h_ h' ∧ (((∀ a_ j_ : Nat, bpat h' a_ j_ = bpat h_ a_ j_) ∧ (bldD 60 63 96 [(2, .int v2), (0, .index 1), (1, .index 74)] [] h_ 66 [(2, .int (v2 + (1 : Int32))), (0, .index 1), (1, .index 74)] [] h'))) := by
  have hA : yas wtrB_A (wtrB_r v2) (yg wtrB_s) := ⟨fun q_ hq => absurd hq List.not_mem_nil, fun q_ hq => absurd hq List.not_mem_nil, fun q_ hq => absurd hq List.not_mem_nil, fun n_ hn => yg_lo hn, fun q_ hq => absurd hq List.not_mem_nil⟩
  have Hs : ysh wtrB_A.1 (yg wtrB_s) h_ := ysh_of2 hs (fun q_ hq => absurd hq List.not_mem_nil)
  have Ho : ymem (wtrB_r v2) (yg wtrB_s) wtrB_O h_ := fun q_ hq => absurd hq List.not_mem_nil
  have HC : ∀ q_ ∈ wtrB_C, xhold (wtrB_r v2) q_ := fun q_ hq => absurd hq List.not_mem_nil
  rcases yrun (yis_ok wtrB_k) hA Hs Ho HC with ⟨q_, hq, h', K_, G_⟩ | ⟨q_, hq, h', K_, G_⟩
  · have e_ := List.mem_singleton.mp hq
    subst e_
    exact ⟨h', yfr_sm K_.2.2.2 hs K_.1 (ywa_s wtrB_w List.mem_cons_self), ⟨fun a_ j_ => yfr_bp K_.2.2.2 (fun q_ hq => absurd hq List.not_mem_nil), G_⟩⟩
  · cases hq
-- wtrC: 9 steps, 1 ends, 0 returns
def wtrC_L : List (Nat × Nat × Nat) := []
def wtrC_O : yO := [(1, .int 2, .index 4), (1, .int 3, .index 5), (74, .int 3, .index 78)]
def wtrC_A : yA := (yZ wtrC_L, [], [], [], [])
def wtrC_C : List xB := [(.lt, .arg 2, .int 2, false)]
def wtrC_ss : List yS := [(110, [(2, .arg 2), (0, .index 1), (1, .index 74)], [.index 78, .index 5], [(1, .int 2, .index 4), (1, .int 3, .index 5), (74, .int 3, .index 78)], [(.lt, .arg 2, .int 2, false)], [])]
def wtrC_rs : List yR := []
theorem wtrC_w : ywa wtrC_A wtrC_ss wtrC_rs = true := by decide +kernel
theorem wtrC_k : yis (yev wtrC_A 3000 60 63 [110] (66, [(2, .arg 2), (0, .index 1), (1, .index 74)], [], wtrC_O, wtrC_C, [])) wtrC_ss wtrC_rs = true := by decide +kernel
def wtrC_r (v2 : Int32) (k_ : Nat) : Value := bif Nat.beq k_ 2 then .int v2 else (.int 0)
def wtrC_s (n_ : Nat) : Nat := 0
theorem wtrC {h_ : xH} {v2 : Int32} (hs : sHp h_) (c0_ : (2 : Int32).toInt ≤ v2.toInt) : ∃ h', ysm h_ h' ∧ (((∀ a_ j_ : Nat, bpat h' a_ j_ = bpat h_ a_ j_) ∧ (bldD 60 63 66 [(2, .int v2), (0, .index 1), (1, .index 74)] [] h_ 110 [(2, .int v2), (0, .index 1), (1, .index 74)] [.index 78, .index 5] h'))) := by
  have hA : yas wtrC_A (wtrC_r v2) (yg wtrC_s) := ⟨fun q_ hq => absurd hq List.not_mem_nil, fun q_ hq => absurd hq List.not_mem_nil, fun q_ hq => absurd hq List.not_mem_nil, fun n_ hn => yg_lo hn, fun q_ hq => absurd hq List.not_mem_nil⟩
  have Hs : ysh wtrC_A.1 (yg wtrC_s) h_ := ysh_of2 hs (fun q_ hq => absurd hq List.not_mem_nil)
  have Ho : ymem (wtrC_r v2) (yg wtrC_s) wtrC_O h_ := List.forall_mem_cons.mpr ⟨bpat_some (fxr_at hs.2 (show fxk fxl 1 2 = some 4 by decide +kernel)), List.forall_mem_cons.mpr ⟨bpat_some (fxr_at hs.2 (show fxk fxl 1 3 = some 5 by decide +kernel)), List.forall_mem_cons.mpr ⟨bpat_some (fxr_at hs.2 (show fxk fxl 74 3 = some 78 by decide +kernel)), fun q_ hq => absurd hq List.not_mem_nil⟩⟩⟩
  have HC : ∀ q_ ∈ wtrC_C, xhold (wtrC_r v2) q_ := List.forall_mem_cons.mpr ⟨xh_ltF c0_, fun q_ hq => absurd hq List.not_mem_nil⟩
  rcases yrun (yis_ok wtrC_k) hA Hs Ho HC with ⟨q_, hq, h', K_, G_⟩ | ⟨q_, hq, h', K_, G_⟩
  · have e_ := List.mem_singleton.mp hq
    subst e_
    exact ⟨h', yfr_sm K_.2.2.2 hs K_.1 (ywa_s wtrC_w List.mem_cons_self), ⟨fun a_ j_ => yfr_bp K_.2.2.2 (fun q_ hq => absurd hq List.not_mem_nil), G_⟩⟩
  · cases hq
-- wsr0: 4 steps, 1 ends, 0 returns
def wsr0_L : List (Nat × Nat × Nat) := []
def wsr0_O : yO := [(1, .int 4, .index 7), (74, .int 4, .index 80)]
def wsr0_A : yA := (yZ wsr0_L, [], [], [], [])
def wsr0_C : List xB := []
def wsr0_ss : List yS := [(121, [(2, .arg 2), (0, .index 1), (1, .index 74)], [.index 80, .index 7], [(1, .int 4, .index 7), (74, .int 4, .index 80)], [], [])]
def wsr0_rs : List yR := []
theorem wsr0_w : ywa wsr0_A wsr0_ss wsr0_rs = true := by decide +kernel
theorem wsr0_k : yis (yev wsr0_A 3000 60 63 [121] (113, [(2, .arg 2), (0, .index 1), (1, .index 74)], [], wsr0_O, wsr0_C, [])) wsr0_ss wsr0_rs = true := by decide +kernel
def wsr0_r (v2 : Int32) (k_ : Nat) : Value := bif Nat.beq k_ 2 then .int v2 else (.int 0)
def wsr0_s (n_ : Nat) : Nat := 0
theorem wsr0 {h_ : xH} {v2 : Int32} (hs : sHp h_) : ∃ h', ysm h_ h' ∧ (((∀ a_ j_ : Nat, bpat h' a_ j_ = bpat h_ a_ j_) ∧ (bldD 60 63 113 [(2, .int v2), (0, .index 1), (1, .index 74)] [] h_ 121 [(2, .int v2), (0, .index 1), (1, .index 74)] [.index 80, .index 7] h'))) := by
  have hA : yas wsr0_A (wsr0_r v2) (yg wsr0_s) := ⟨fun q_ hq => absurd hq List.not_mem_nil, fun q_ hq => absurd hq List.not_mem_nil, fun q_ hq => absurd hq List.not_mem_nil, fun n_ hn => yg_lo hn, fun q_ hq => absurd hq List.not_mem_nil⟩
  have Hs : ysh wsr0_A.1 (yg wsr0_s) h_ := ysh_of2 hs (fun q_ hq => absurd hq List.not_mem_nil)
  have Ho : ymem (wsr0_r v2) (yg wsr0_s) wsr0_O h_ := List.forall_mem_cons.mpr ⟨bpat_some (fxr_at hs.2 (show fxk fxl 1 4 = some 7 by decide +kernel)), List.forall_mem_cons.mpr ⟨bpat_some (fxr_at hs.2 (show fxk fxl 74 4 = some 80 by decide +kernel)), fun q_ hq => absurd hq List.not_mem_nil⟩⟩
  have HC : ∀ q_ ∈ wsr0_C, xhold (wsr0_r v2) q_ := fun q_ hq => absurd hq List.not_mem_nil
  rcases yrun (yis_ok wsr0_k) hA Hs Ho HC with ⟨q_, hq, h', K_, G_⟩ | ⟨q_, hq, h', K_, G_⟩
  · have e_ := List.mem_singleton.mp hq
    subst e_
    exact ⟨h', yfr_sm K_.2.2.2 hs K_.1 (ywa_s wsr0_w List.mem_cons_self), ⟨fun a_ j_ => yfr_bp K_.2.2.2 (fun q_ hq => absurd hq List.not_mem_nil), G_⟩⟩
  · cases hq
-- wsr1: 4 steps, 1 ends, 0 returns
def wsr1_L : List (Nat × Nat × Nat) := []
def wsr1_O : yO := [(1, .int 5, .index 9), (74, .int 5, .index 82)]
def wsr1_A : yA := (yZ wsr1_L, [], [], [], [])
def wsr1_C : List xB := []
def wsr1_ss : List yS := [(132, [(2, .arg 2), (0, .index 1), (1, .index 74)], [.index 82, .index 9], [(1, .int 5, .index 9), (74, .int 5, .index 82)], [], [])]
def wsr1_rs : List yR := []
theorem wsr1_w : ywa wsr1_A wsr1_ss wsr1_rs = true := by decide +kernel
theorem wsr1_k : yis (yev wsr1_A 3000 60 63 [132] (124, [(2, .arg 2), (0, .index 1), (1, .index 74)], [], wsr1_O, wsr1_C, [])) wsr1_ss wsr1_rs = true := by decide +kernel
def wsr1_r (v2 : Int32) (k_ : Nat) : Value := bif Nat.beq k_ 2 then .int v2 else (.int 0)
def wsr1_s (n_ : Nat) : Nat := 0
theorem wsr1 {h_ : xH} {v2 : Int32} (hs : sHp h_) : ∃ h', ysm h_ h' ∧ (((∀ a_ j_ : Nat, bpat h' a_ j_ = bpat h_ a_ j_) ∧ (bldD 60 63 124 [(2, .int v2), (0, .index 1), (1, .index 74)] [] h_ 132 [(2, .int v2), (0, .index 1), (1, .index 74)] [.index 82, .index 9] h'))) := by
  have hA : yas wsr1_A (wsr1_r v2) (yg wsr1_s) := ⟨fun q_ hq => absurd hq List.not_mem_nil, fun q_ hq => absurd hq List.not_mem_nil, fun q_ hq => absurd hq List.not_mem_nil, fun n_ hn => yg_lo hn, fun q_ hq => absurd hq List.not_mem_nil⟩
  have Hs : ysh wsr1_A.1 (yg wsr1_s) h_ := ysh_of2 hs (fun q_ hq => absurd hq List.not_mem_nil)
  have Ho : ymem (wsr1_r v2) (yg wsr1_s) wsr1_O h_ := List.forall_mem_cons.mpr ⟨bpat_some (fxr_at hs.2 (show fxk fxl 1 5 = some 9 by decide +kernel)), List.forall_mem_cons.mpr ⟨bpat_some (fxr_at hs.2 (show fxk fxl 74 5 = some 82 by decide +kernel)), fun q_ hq => absurd hq List.not_mem_nil⟩⟩
  have HC : ∀ q_ ∈ wsr1_C, xhold (wsr1_r v2) q_ := fun q_ hq => absurd hq List.not_mem_nil
  rcases yrun (yis_ok wsr1_k) hA Hs Ho HC with ⟨q_, hq, h', K_, G_⟩ | ⟨q_, hq, h', K_, G_⟩
  · have e_ := List.mem_singleton.mp hq
    subst e_
    exact ⟨h', yfr_sm K_.2.2.2 hs K_.1 (ywa_s wsr1_w List.mem_cons_self), ⟨fun a_ j_ => yfr_bp K_.2.2.2 (fun q_ hq => absurd hq List.not_mem_nil), G_⟩⟩
  · cases hq
-- wsr2: 4 steps, 1 ends, 0 returns
def wsr2_L : List (Nat × Nat × Nat) := []
def wsr2_O : yO := [(1, .int 6, .index 11), (74, .int 6, .index 84)]
def wsr2_A : yA := (yZ wsr2_L, [], [], [], [])
def wsr2_C : List xB := []
def wsr2_ss : List yS := [(143, [(2, .arg 2), (0, .index 1), (1, .index 74)], [.index 84, .index 11], [(1, .int 6, .index 11), (74, .int 6, .index 84)], [], [])]
def wsr2_rs : List yR := []
theorem wsr2_w : ywa wsr2_A wsr2_ss wsr2_rs = true := by decide +kernel
theorem wsr2_k : yis (yev wsr2_A 3000 60 63 [143] (135, [(2, .arg 2), (0, .index 1), (1, .index 74)], [], wsr2_O, wsr2_C, [])) wsr2_ss wsr2_rs = true := by decide +kernel
def wsr2_r (v2 : Int32) (k_ : Nat) : Value := bif Nat.beq k_ 2 then .int v2 else (.int 0)
def wsr2_s (n_ : Nat) : Nat := 0
theorem wsr2 {h_ : xH} {v2 : Int32} (hs : sHp h_) : ∃ h', ysm h_ h' ∧ (((∀ a_ j_ : Nat, bpat h' a_ j_ = bpat h_ a_ j_) ∧ (bldD 60 63 135 [(2, .int v2), (0, .index 1), (1, .index 74)] [] h_ 143 [(2, .int v2), (0, .index 1), (1, .index 74)] [.index 84, .index 11] h'))) := by
  have hA : yas wsr2_A (wsr2_r v2) (yg wsr2_s) := ⟨fun q_ hq => absurd hq List.not_mem_nil, fun q_ hq => absurd hq List.not_mem_nil, fun q_ hq => absurd hq List.not_mem_nil, fun n_ hn => yg_lo hn, fun q_ hq => absurd hq List.not_mem_nil⟩
  have Hs : ysh wsr2_A.1 (yg wsr2_s) h_ := ysh_of2 hs (fun q_ hq => absurd hq List.not_mem_nil)
  have Ho : ymem (wsr2_r v2) (yg wsr2_s) wsr2_O h_ := List.forall_mem_cons.mpr ⟨bpat_some (fxr_at hs.2 (show fxk fxl 1 6 = some 11 by decide +kernel)), List.forall_mem_cons.mpr ⟨bpat_some (fxr_at hs.2 (show fxk fxl 74 6 = some 84 by decide +kernel)), fun q_ hq => absurd hq List.not_mem_nil⟩⟩
  have HC : ∀ q_ ∈ wsr2_C, xhold (wsr2_r v2) q_ := fun q_ hq => absurd hq List.not_mem_nil
  rcases yrun (yis_ok wsr2_k) hA Hs Ho HC with ⟨q_, hq, h', K_, G_⟩ | ⟨q_, hq, h', K_, G_⟩
  · have e_ := List.mem_singleton.mp hq
    subst e_
    exact ⟨h', yfr_sm K_.2.2.2 hs K_.1 (ywa_s wsr2_w List.mem_cons_self), ⟨fun a_ j_ => yfr_bp K_.2.2.2 (fun q_ hq => absurd hq List.not_mem_nil), G_⟩⟩
  · cases hq
-- wsr3: 4 steps, 1 ends, 0 returns
def wsr3_L : List (Nat × Nat × Nat) := []
def wsr3_O : yO := [(1, .int 7, .index 13), (74, .int 7, .index 86)]
def wsr3_A : yA := (yZ wsr3_L, [], [], [], [])
def wsr3_C : List xB := []
def wsr3_ss : List yS := [(154, [(2, .arg 2), (0, .index 1), (1, .index 74)], [.index 86, .index 13], [(1, .int 7, .index 13), (74, .int 7, .index 86)], [], [])]
def wsr3_rs : List yR := []
theorem wsr3_w : ywa wsr3_A wsr3_ss wsr3_rs = true := by decide +kernel
theorem wsr3_k : yis (yev wsr3_A 3000 60 63 [154] (146, [(2, .arg 2), (0, .index 1), (1, .index 74)], [], wsr3_O, wsr3_C, [])) wsr3_ss wsr3_rs = true := by decide +kernel
def wsr3_r (v2 : Int32) (k_ : Nat) : Value := bif Nat.beq k_ 2 then .int v2 else (.int 0)
def wsr3_s (n_ : Nat) : Nat := 0
theorem wsr3 {h_ : xH} {v2 : Int32} (hs : sHp h_) : ∃ h', ysm h_ h' ∧ (((∀ a_ j_ : Nat, bpat h' a_ j_ = bpat h_ a_ j_) ∧ (bldD 60 63 146 [(2, .int v2), (0, .index 1), (1, .index 74)] [] h_ 154 [(2, .int v2), (0, .index 1), (1, .index 74)] [.index 86, .index 13] h'))) := by
  have hA : yas wsr3_A (wsr3_r v2) (yg wsr3_s) := ⟨fun q_ hq => absurd hq List.not_mem_nil, fun q_ hq => absurd hq List.not_mem_nil, fun q_ hq => absurd hq List.not_mem_nil, fun n_ hn => yg_lo hn, fun q_ hq => absurd hq List.not_mem_nil⟩
  have Hs : ysh wsr3_A.1 (yg wsr3_s) h_ := ysh_of2 hs (fun q_ hq => absurd hq List.not_mem_nil)
  have Ho : ymem (wsr3_r v2) (yg wsr3_s) wsr3_O h_ := List.forall_mem_cons.mpr ⟨bpat_some (fxr_at hs.2 (show fxk fxl 1 7 = some 13 by decide +kernel)), List.forall_mem_cons.mpr ⟨bpat_some (fxr_at hs.2 (show fxk fxl 74 7 = some 86 by decide +kernel)), fun q_ hq => absurd hq List.not_mem_nil⟩⟩
  have HC : ∀ q_ ∈ wsr3_C, xhold (wsr3_r v2) q_ := fun q_ hq => absurd hq List.not_mem_nil
  rcases yrun (yis_ok wsr3_k) hA Hs Ho HC with ⟨q_, hq, h', K_, G_⟩ | ⟨q_, hq, h', K_, G_⟩
  · have e_ := List.mem_singleton.mp hq
    subst e_
    exact ⟨h', yfr_sm K_.2.2.2 hs K_.1 (ywa_s wsr3_w List.mem_cons_self), ⟨fun a_ j_ => yfr_bp K_.2.2.2 (fun q_ hq => absurd hq List.not_mem_nil), G_⟩⟩
  · cases hq
-- wsr4: 4 steps, 1 ends, 0 returns
def wsr4_L : List (Nat × Nat × Nat) := []
def wsr4_O : yO := [(1, .int 8, .index 15), (74, .int 8, .index 88)]
def wsr4_A : yA := (yZ wsr4_L, [], [], [], [])
def wsr4_C : List xB := []
def wsr4_ss : List yS := [(165, [(2, .arg 2), (0, .index 1), (1, .index 74)], [.index 88, .index 15], [(1, .int 8, .index 15), (74, .int 8, .index 88)], [], [])]
def wsr4_rs : List yR := []
theorem wsr4_w : ywa wsr4_A wsr4_ss wsr4_rs = true := by decide +kernel
theorem wsr4_k : yis (yev wsr4_A 3000 60 63 [165] (157, [(2, .arg 2), (0, .index 1), (1, .index 74)], [], wsr4_O, wsr4_C, [])) wsr4_ss wsr4_rs = true := by decide +kernel
def wsr4_r (v2 : Int32) (k_ : Nat) : Value := bif Nat.beq k_ 2 then .int v2 else (.int 0)
def wsr4_s (n_ : Nat) : Nat := 0
theorem wsr4 {h_ : xH} {v2 : Int32} (hs : sHp h_) : ∃ h', ysm h_ h' ∧ (((∀ a_ j_ : Nat, bpat h' a_ j_ = bpat h_ a_ j_) ∧ (bldD 60 63 157 [(2, .int v2), (0, .index 1), (1, .index 74)] [] h_ 165 [(2, .int v2), (0, .index 1), (1, .index 74)] [.index 88, .index 15] h'))) := by
  have hA : yas wsr4_A (wsr4_r v2) (yg wsr4_s) := ⟨fun q_ hq => absurd hq List.not_mem_nil, fun q_ hq => absurd hq List.not_mem_nil, fun q_ hq => absurd hq List.not_mem_nil, fun n_ hn => yg_lo hn, fun q_ hq => absurd hq List.not_mem_nil⟩
  have Hs : ysh wsr4_A.1 (yg wsr4_s) h_ := ysh_of2 hs (fun q_ hq => absurd hq List.not_mem_nil)
  have Ho : ymem (wsr4_r v2) (yg wsr4_s) wsr4_O h_ := List.forall_mem_cons.mpr ⟨bpat_some (fxr_at hs.2 (show fxk fxl 1 8 = some 15 by decide +kernel)), List.forall_mem_cons.mpr ⟨bpat_some (fxr_at hs.2 (show fxk fxl 74 8 = some 88 by decide +kernel)), fun q_ hq => absurd hq List.not_mem_nil⟩⟩
  have HC : ∀ q_ ∈ wsr4_C, xhold (wsr4_r v2) q_ := fun q_ hq => absurd hq List.not_mem_nil
  rcases yrun (yis_ok wsr4_k) hA Hs Ho HC with ⟨q_, hq, h', K_, G_⟩ | ⟨q_, hq, h', K_, G_⟩
  · have e_ := List.mem_singleton.mp hq
    subst e_
    exact ⟨h', yfr_sm K_.2.2.2 hs K_.1 (ywa_s wsr4_w List.mem_cons_self), ⟨fun a_ j_ => yfr_bp K_.2.2.2 (fun q_ hq => absurd hq List.not_mem_nil), G_⟩⟩
  · cases hq
-- wzr: 21 steps, 0 ends, 1 returns
def wzr_L : List (Nat × Nat × Nat) := []
def wzr_O : yO := [(74, .int 9, .arg 339), (74, .int 10, .arg 340), (74, .int 11, .arg 341), (74, .int 12, .arg 342), (74, .int 13, .arg 343)]
def wzr_A : yA := (yZ wzr_L, [], [], [], [])
def wzr_C : List xB := []
def wzr_ss : List yS := []
def wzr_rs : List yR := [(none, [(1, .int 13, .arg 343), (1, .int 12, .arg 342), (1, .int 11, .arg 341), (1, .int 10, .arg 340), (1, .int 9, .arg 339), (74, .int 9, .arg 339), (74, .int 10, .arg 340), (74, .int 11, .arg 341), (74, .int 12, .arg 342), (74, .int 13, .arg 343)], [], [(1, .int 13), (1, .int 12), (1, .int 11), (1, .int 10), (1, .int 9)])]
theorem wzr_w : ywa wzr_A wzr_ss wzr_rs = true := by decide +kernel
theorem wzr_k : yis (yev wzr_A 3000 60 63 [] (168, [(2, .arg 2), (0, .index 1), (1, .index 74)], [], wzr_O, wzr_C, [])) wzr_ss wzr_rs = true := by decide +kernel
def wzr_r (v2 v339 v340 v341 v342 v343 : Int32) (k_ : Nat) : Value := bif Nat.beq k_ 2 then .int v2 else (bif Nat.beq k_ 339 then .int v339 else (bif Nat.beq k_ 340 then .int v340 else (bif Nat.beq k_ 341 then .int v341 else (bif Nat.beq k_ 342 then .int v342 else (bif Nat.beq k_ 343 then .int v343 else (.int 0))))))
def wzr_s (n_ : Nat) : Nat := 0
theorem wzr {h_ : xH} {v2 v339 v340 v341 v342 v343 : Int32} (hs : sHp h_) (o0_ : bpat h_ 74 9 = some (.int v339)) (o1 : bpat h_ 74 10 = some (.int v340)) (o2 : bpat h_ 74 11 = some (.int v341)) (o3_ : bpat h_ 74 12 = some (.int v342)) (o4_ : bpat h_ 74 13 = some (.int v343)) : ∃ h', ysm h_ h' ∧ (((bpat h' 1 13 = some (.int v343)) ∧ (bpat h' 1 12 = some (.int v342)) ∧ (bpat h' 1 11 = some (.int v341)) ∧ (bpat h' 1 10 = some (.int v340)) ∧ (bpat h' 1 9 = some (.int v339)) ∧ (∀ a_ j_ : Nat, ¬ (a_ = 1 ∧ j_ = 13) → ¬ (a_ = 1 ∧ j_ = 12) → ¬ (a_ = 1 ∧ j_ = 11) → ¬ (a_ = 1 ∧ j_ = 10) → ¬ (a_ = 1 ∧ j_ = 9) → bpat h' a_ j_ = bpat h_ a_ j_) ∧ (∀ D_, 60 ≤ D_ → xrun D_ 63 168 [(2, .int v2), (0, .index 1), (1, .index 74)] [] h_ (none, h', [])))) := by
  have hA : yas wzr_A (wzr_r v2 v339 v340 v341 v342 v343) (yg wzr_s) := ⟨fun q_ hq => absurd hq List.not_mem_nil, fun q_ hq => absurd hq List.not_mem_nil, fun q_ hq => absurd hq List.not_mem_nil, fun n_ hn => yg_lo hn, fun q_ hq => absurd hq List.not_mem_nil⟩
  have Hs : ysh wzr_A.1 (yg wzr_s) h_ := ysh_of2 hs (fun q_ hq => absurd hq List.not_mem_nil)
  have Ho : ymem (wzr_r v2 v339 v340 v341 v342 v343) (yg wzr_s) wzr_O h_ := List.forall_mem_cons.mpr ⟨bpat_some o0_, List.forall_mem_cons.mpr ⟨bpat_some o1, List.forall_mem_cons.mpr ⟨bpat_some o2, List.forall_mem_cons.mpr ⟨bpat_some o3_, List.forall_mem_cons.mpr ⟨bpat_some o4_, fun q_ hq => absurd hq List.not_mem_nil⟩⟩⟩⟩⟩
  have HC : ∀ q_ ∈ wzr_C, xhold (wzr_r v2 v339 v340 v341 v342 v343) q_ := fun q_ hq => absurd hq List.not_mem_nil
  rcases yrun (yis_ok wzr_k) hA Hs Ho HC with ⟨q_, hq, h', K_, G_⟩ | ⟨q_, hq, h', K_, G_⟩
  · cases hq
  · have e_ := List.mem_singleton.mp hq
    subst e_
    exact ⟨h', yfr_sm K_.2.2.2 hs K_.1 (ywa_r wzr_w List.mem_cons_self), ⟨bpat_of (K_.2.1 _ List.mem_cons_self), bpat_of (K_.2.1 _ (List.mem_cons_of_mem _ List.mem_cons_self)), bpat_of (K_.2.1 _ (List.mem_cons_of_mem _ (List.mem_cons_of_mem _ List.mem_cons_self))), bpat_of (K_.2.1 _ (List.mem_cons_of_mem _ (List.mem_cons_of_mem _ (List.mem_cons_of_mem _ List.mem_cons_self)))), bpat_of (K_.2.1 _ (List.mem_cons_of_mem _ (List.mem_cons_of_mem _ (List.mem_cons_of_mem _ (List.mem_cons_of_mem _ List.mem_cons_self))))), fun a_ j_ n0_ n1_ n2_ n3_ n4_ => yfr_bp K_.2.2.2 (List.forall_mem_cons.mpr ⟨fun e_ => n0_ ⟨e_.1.symm, e_.2.symm⟩, List.forall_mem_cons.mpr ⟨fun e_ => n1_ ⟨e_.1.symm, e_.2.symm⟩, List.forall_mem_cons.mpr ⟨fun e_ => n2_ ⟨e_.1.symm, e_.2.symm⟩, List.forall_mem_cons.mpr ⟨fun e_ => n3_ ⟨e_.1.symm, e_.2.symm⟩, List.forall_mem_cons.mpr ⟨fun e_ => n4_ ⟨e_.1.symm, e_.2.symm⟩, fun q_ hq => absurd hq List.not_mem_nil⟩⟩⟩⟩⟩), G_⟩⟩
-- wjrE: 2 steps, 1 ends, 0 returns
def wjrE_L : List (Nat × Nat × Nat) := []
def wjrE_O : yO := []
def wjrE_A : yA := (yZ wjrE_L, [], [], [], [])
def wjrE_C : List xB := []
def wjrE_ss : List yS := [(2, [(2, .int 0), (0, .index 15), (1, .index 88)], [], [], [], [])]
def wjrE_rs : List yR := []
theorem wjrE_w : ywa wjrE_A wjrE_ss wjrE_rs = true := by decide +kernel
theorem wjrE_k : yis (yev wjrE_A 3000 60 14 [2] (0, [(0, .index 15), (1, .index 88)], [], wjrE_O, wjrE_C, [])) wjrE_ss wjrE_rs = true := by decide +kernel
def wjrE_r (k_ : Nat) : Value := .int 0
def wjrE_s (n_ : Nat) : Nat := 0
theorem wjrE {h_ : xH} (hs : sHp h_) : ∃ h', ysm h_ h' ∧ (((∀ a_ j_ : Nat, bpat h' a_ j_ = bpat h_ a_ j_) ∧ (bldD 60 14 0 [(0, .index 15), (1, .index 88)] [] h_ 2 [(2, .int (0 : Int32)), (0, .index 15), (1, .index 88)] [] h'))) := by
  have hA : yas wjrE_A wjrE_r (yg wjrE_s) := ⟨fun q_ hq => absurd hq List.not_mem_nil, fun q_ hq => absurd hq List.not_mem_nil, fun q_ hq => absurd hq List.not_mem_nil, fun n_ hn => yg_lo hn, fun q_ hq => absurd hq List.not_mem_nil⟩
  have Hs : ysh wjrE_A.1 (yg wjrE_s) h_ := ysh_of2 hs (fun q_ hq => absurd hq List.not_mem_nil)
  have Ho : ymem wjrE_r (yg wjrE_s) wjrE_O h_ := fun q_ hq => absurd hq List.not_mem_nil
  have HC : ∀ q_ ∈ wjrE_C, xhold wjrE_r q_ := fun q_ hq => absurd hq List.not_mem_nil
  rcases yrun (yis_ok wjrE_k) hA Hs Ho HC with ⟨q_, hq, h', K_, G_⟩ | ⟨q_, hq, h', K_, G_⟩
  · have e_ := List.mem_singleton.mp hq
    subst e_
    exact ⟨h', yfr_sm K_.2.2.2 hs K_.1 (ywa_s wjrE_w List.mem_cons_self), ⟨fun a_ j_ => yfr_bp K_.2.2.2 (fun q_ hq => absurd hq List.not_mem_nil), G_⟩⟩
  · cases hq
-- wjrA: 13 steps, 1 ends, 0 returns
def wjrA_L : List (Nat × Nat × Nat) := [(1000, 6, 2), (1001, 6, 2)]
def wjrA_O : yO := [(15, .int 0, .index 16), (16, .arg 2, .index 1000), (88, .int 0, .index 89), (89, .arg 2, .index 1001)]
def wjrA_A : yA := (yZ wjrA_L, [(.arg 2, 8)], [], [], [])
def wjrA_C : List xB := [(.lt, .arg 2, .int 8, true)]
def wjrA_ss : List yS := [(23, [(2, .arg 2), (0, .index 15), (1, .index 88)], [.index 1001, .index 1000], [(15, .int 0, .index 16), (16, .arg 2, .index 1000), (88, .int 0, .index 89), (89, .arg 2, .index 1001)], [(.lt, .arg 2, .int 8, true)], [])]
def wjrA_rs : List yR := []
theorem wjrA_w : ywa wjrA_A wjrA_ss wjrA_rs = true := by decide +kernel
theorem wjrA_k : yis (yev wjrA_A 3000 60 14 [23] (2, [(2, .arg 2), (0, .index 15), (1, .index 88)], [], wjrA_O, wjrA_C, [])) wjrA_ss wjrA_rs = true := by decide +kernel
def wjrA_r (v2 : Int32) (k_ : Nat) : Value := bif Nat.beq k_ 2 then .int v2 else (.int 0)
def wjrA_s (a1000 a1001 : Nat) (n_ : Nat) : Nat := bif Nat.beq n_ 1000 then a1000 else (bif Nat.beq n_ 1001 then a1001 else (0))
theorem wjrA {h_ : xH} {a1000 a1001 : Nat} {v2 : Int32} (hs : sHp h_) (k1000 : bcq h_ a1000 6 2) (k1001 : bcq h_ a1001 6 2) (o0_ : bpat h_ 15 0 = some (.index 16)) (o1 : bpat h_ 16 (v2).toInt.toNat = some (.index a1000)) (o2 : bpat h_ 88 0 = some (.index 89)) (o3_ : bpat h_ 89 (v2).toInt.toNat = some (.index a1001)) (b0 : 0 ≤ (v2).toInt ∧ (v2).toInt < 8) (c0_ : v2.toInt < (8 : Int32).toInt) : ∃ h', ysm h_ h' ∧ (((∀ a_ j_ : Nat, bpat h' a_ j_ = bpat h_ a_ j_) ∧ (bldD 60 14 2 [(2, .int v2), (0, .index 15), (1, .index 88)] [] h_ 23 [(2, .int v2), (0, .index 15), (1, .index 88)] [.index a1001, .index a1000] h'))) := by
  have hA : yas wjrA_A (wjrA_r v2) (yg (wjrA_s a1000 a1001)) := ⟨List.forall_mem_cons.mpr ⟨b0, fun q_ hq => absurd hq List.not_mem_nil⟩, fun q_ hq => absurd hq List.not_mem_nil, fun q_ hq => absurd hq List.not_mem_nil, fun n_ hn => yg_lo hn, fun q_ hq => absurd hq List.not_mem_nil⟩
  have Hs : ysh wjrA_A.1 (yg (wjrA_s a1000 a1001)) h_ := ysh_of2 hs (List.forall_mem_cons.mpr ⟨⟨by decide, k1000⟩, List.forall_mem_cons.mpr ⟨⟨by decide, k1001⟩, fun q_ hq => absurd hq List.not_mem_nil⟩⟩)
  have Ho : ymem (wjrA_r v2) (yg (wjrA_s a1000 a1001)) wjrA_O h_ := List.forall_mem_cons.mpr ⟨bpat_some o0_, List.forall_mem_cons.mpr ⟨bpat_some o1, List.forall_mem_cons.mpr ⟨bpat_some o2, List.forall_mem_cons.mpr ⟨bpat_some o3_, fun q_ hq => absurd hq List.not_mem_nil⟩⟩⟩⟩
  have HC : ∀ q_ ∈ wjrA_C, xhold (wjrA_r v2) q_ := List.forall_mem_cons.mpr ⟨xh_ltT c0_, fun q_ hq => absurd hq List.not_mem_nil⟩
  rcases yrun (yis_ok wjrA_k) hA Hs Ho HC with ⟨q_, hq, h', K_, G_⟩ | ⟨q_, hq, h', K_, G_⟩
  · have e_ := List.mem_singleton.mp hq
    subst e_
    exact ⟨h', yfr_sm K_.2.2.2 hs K_.1 (ywa_s wjrA_w List.mem_cons_self), ⟨fun a_ j_ => yfr_bp K_.2.2.2 (fun q_ hq => absurd hq List.not_mem_nil), G_⟩⟩
  · cases hq
-- wjrB: 2 steps, 1 ends, 0 returns
def wjrB_L : List (Nat × Nat × Nat) := []
def wjrB_O : yO := []
def wjrB_A : yA := (yZ wjrB_L, [], [], [], [])
def wjrB_C : List xB := []
def wjrB_ss : List yS := [(2, [(2, .add (.arg 2) (.int 1)), (0, .index 15), (1, .index 88)], [], [], [], [])]
def wjrB_rs : List yR := []
theorem wjrB_w : ywa wjrB_A wjrB_ss wjrB_rs = true := by decide +kernel
theorem wjrB_k : yis (yev wjrB_A 3000 60 14 [2] (26, [(2, .arg 2), (0, .index 15), (1, .index 88)], [], wjrB_O, wjrB_C, [])) wjrB_ss wjrB_rs = true := by decide +kernel
def wjrB_r (v2 : Int32) (k_ : Nat) : Value := bif Nat.beq k_ 2 then .int v2 else (.int 0)
def wjrB_s (n_ : Nat) : Nat := 0
theorem wjrB {h_ : xH} {v2 : Int32} (hs : sHp h_) : ∃ h', ysm h_ h' ∧ (((∀ a_ j_ : Nat, bpat h' a_ j_ = bpat h_ a_ j_) ∧ (bldD 60 14 26 [(2, .int v2), (0, .index 15), (1, .index 88)] [] h_ 2 [(2, .int (v2 + (1 : Int32))), (0, .index 15), (1, .index 88)] [] h'))) := by
  have hA : yas wjrB_A (wjrB_r v2) (yg wjrB_s) := ⟨fun q_ hq => absurd hq List.not_mem_nil, fun q_ hq => absurd hq List.not_mem_nil, fun q_ hq => absurd hq List.not_mem_nil, fun n_ hn => yg_lo hn, fun q_ hq => absurd hq List.not_mem_nil⟩
  have Hs : ysh wjrB_A.1 (yg wjrB_s) h_ := ysh_of2 hs (fun q_ hq => absurd hq List.not_mem_nil)
  have Ho : ymem (wjrB_r v2) (yg wjrB_s) wjrB_O h_ := fun q_ hq => absurd hq List.not_mem_nil
  have HC : ∀ q_ ∈ wjrB_C, xhold (wjrB_r v2) q_ := fun q_ hq => absurd hq List.not_mem_nil
  rcases yrun (yis_ok wjrB_k) hA Hs Ho HC with ⟨q_, hq, h', K_, G_⟩ | ⟨q_, hq, h', K_, G_⟩
  · have e_ := List.mem_singleton.mp hq
    subst e_
    exact ⟨h', yfr_sm K_.2.2.2 hs K_.1 (ywa_s wjrB_w List.mem_cons_self), ⟨fun a_ j_ => yfr_bp K_.2.2.2 (fun q_ hq => absurd hq List.not_mem_nil), G_⟩⟩
  · cases hq
-- wjrC: 14 steps, 0 ends, 1 returns
def wjrC_L : List (Nat × Nat × Nat) := []
def wjrC_O : yO := [(15, .int 0, .index 16), (88, .int 1, .arg 331), (88, .int 2, .arg 332)]
def wjrC_A : yA := (yZ wjrC_L, [], [], [], [])
def wjrC_C : List xB := [(.lt, .arg 2, .int 8, false)]
def wjrC_ss : List yS := []
def wjrC_rs : List yR := [(none, [(15, .int 2, .arg 332), (15, .int 1, .arg 331), (15, .int 0, .index 16), (88, .int 1, .arg 331), (88, .int 2, .arg 332)], [(.lt, .arg 2, .int 8, false)], [(15, .int 2), (15, .int 1)])]
theorem wjrC_w : ywa wjrC_A wjrC_ss wjrC_rs = true := by decide +kernel
theorem wjrC_k : yis (yev wjrC_A 3000 60 14 [] (2, [(2, .arg 2), (0, .index 15), (1, .index 88)], [], wjrC_O, wjrC_C, [])) wjrC_ss wjrC_rs = true := by decide +kernel
def wjrC_r (v2 v331 v332 : Int32) (k_ : Nat) : Value := bif Nat.beq k_ 2 then .int v2 else (bif Nat.beq k_ 331 then .int v331 else (bif Nat.beq k_ 332 then .int v332 else (.int 0)))
def wjrC_s (n_ : Nat) : Nat := 0
theorem wjrC {h_ : xH} {v2 v331 v332 : Int32} (hs : sHp h_) (o0_ : bpat h_ 15 0 = some (.index 16)) (o1 : bpat h_ 88 1 = some (.int v331)) (o2 : bpat h_ 88 2 = some (.int v332)) (c0_ : (8 : Int32).toInt ≤ v2.toInt) : ∃ h', ysm h_ h' ∧ (((bpat h' 15 2 = some (.int v332)) ∧ (bpat h' 15 1 = some (.int v331)) ∧ (∀ a_ j_ : Nat, ¬ (a_ = 15 ∧ j_ = 2) → ¬ (a_ = 15 ∧ j_ = 1) → bpat h' a_ j_ = bpat h_ a_ j_) ∧ (∀ D_, 60 ≤ D_ → xrun D_ 14 2 [(2, .int v2), (0, .index 15), (1, .index 88)] [] h_ (none, h', [])))) := by
  have hA : yas wjrC_A (wjrC_r v2 v331 v332) (yg wjrC_s) := ⟨fun q_ hq => absurd hq List.not_mem_nil, fun q_ hq => absurd hq List.not_mem_nil, fun q_ hq => absurd hq List.not_mem_nil, fun n_ hn => yg_lo hn, fun q_ hq => absurd hq List.not_mem_nil⟩
  have Hs : ysh wjrC_A.1 (yg wjrC_s) h_ := ysh_of2 hs (fun q_ hq => absurd hq List.not_mem_nil)
  have Ho : ymem (wjrC_r v2 v331 v332) (yg wjrC_s) wjrC_O h_ := List.forall_mem_cons.mpr ⟨bpat_some o0_, List.forall_mem_cons.mpr ⟨bpat_some o1, List.forall_mem_cons.mpr ⟨bpat_some o2, fun q_ hq => absurd hq List.not_mem_nil⟩⟩⟩
  have HC : ∀ q_ ∈ wjrC_C, xhold (wjrC_r v2 v331 v332) q_ := List.forall_mem_cons.mpr ⟨xh_ltF c0_, fun q_ hq => absurd hq List.not_mem_nil⟩
  rcases yrun (yis_ok wjrC_k) hA Hs Ho HC with ⟨q_, hq, h', K_, G_⟩ | ⟨q_, hq, h', K_, G_⟩
  · cases hq
  · have e_ := List.mem_singleton.mp hq
    subst e_
    exact ⟨h', yfr_sm K_.2.2.2 hs K_.1 (ywa_r wjrC_w List.mem_cons_self), ⟨bpat_of (K_.2.1 _ List.mem_cons_self), bpat_of (K_.2.1 _ (List.mem_cons_of_mem _ List.mem_cons_self)), fun a_ j_ n0_ n1_ => yfr_bp K_.2.2.2 (List.forall_mem_cons.mpr ⟨fun e_ => n0_ ⟨e_.1.symm, e_.2.symm⟩, List.forall_mem_cons.mpr ⟨fun e_ => n1_ ⟨e_.1.symm, e_.2.symm⟩, fun q_ hq => absurd hq List.not_mem_nil⟩⟩), G_⟩⟩
