-- ===== hear, the class
-- ehe: 2 steps, 1 ends, 0 returns
def ehe_L : List (Nat × Nat × Nat) := [(1000, 6, 2), (1002, 6, 2), (1004, 6, 2)]
def ehe_O : yO := []
def ehe_A : yA := (yZ ehe_L, [], [], [], [])
def ehe_C : List xB := []
def ehe_ss : List yS := [(2, [(0, .index 1), (1, .index 1000), (2, .index 1002), (3, .index 1004)], [.index 1000, .index 1004], [], [], [])]
def ehe_rs : List yR := []
theorem ehe_w : ywa ehe_A ehe_ss ehe_rs = true := by decide +kernel
theorem ehe_k : yis (yev ehe_A 3000 60 68 [2] (0, [(0, .index 1), (1, .index 1000), (2, .index 1002), (3, .index 1004)], [], ehe_O, ehe_C, [])) ehe_ss ehe_rs = true := by decide +kernel
def ehe_r (k_ : Nat) : Value := .int 0
def ehe_s (a1000 a1002 a1004 : Nat) (n_ : Nat) : Nat := bif Nat.beq n_ 1000 then a1000 else (bif Nat.beq n_ 1002 then a1002 else (bif Nat.beq n_ 1004 then a1004 else (0)))
theorem ehe {h_ : xH} {a1000 a1002 a1004 : Nat} (hs : sHp h_) (k1000 : bcq h_ a1000 6 2) (k1002 : bcq h_ a1002 6 2) (k1004 : bcq h_ a1004 6 2) : ∃ h', ysm h_ h' ∧ (((∀ a_ j_ : Nat, bpat h' a_ j_ = bpat h_ a_ j_) ∧ (bldD 60 68 0 [(0, .index 1), (1, .index a1000), (2, .index a1002), (3, .index a1004)] [] h_ 2 [(0, .index 1), (1, .index a1000), (2, .index a1002), (3, .index a1004)] [.index a1000, .index a1004] h'))) := by
  have hA : yas ehe_A ehe_r (yg (ehe_s a1000 a1002 a1004)) := ⟨fun q_ hq => absurd hq List.not_mem_nil, fun q_ hq => absurd hq List.not_mem_nil, fun q_ hq => absurd hq List.not_mem_nil, fun n_ hn => yg_lo hn, fun q_ hq => absurd hq List.not_mem_nil⟩
  have Hs : ysh ehe_A.1 (yg (ehe_s a1000 a1002 a1004)) h_ := ysh_of2 hs (List.forall_mem_cons.mpr ⟨⟨by decide, k1000⟩, List.forall_mem_cons.mpr ⟨⟨by decide, k1002⟩, List.forall_mem_cons.mpr ⟨⟨by decide, k1004⟩, fun q_ hq => absurd hq List.not_mem_nil⟩⟩⟩)
  have Ho : ymem ehe_r (yg (ehe_s a1000 a1002 a1004)) ehe_O h_ := fun q_ hq => absurd hq List.not_mem_nil
  have HC : ∀ q_ ∈ ehe_C, xhold ehe_r q_ := fun q_ hq => absurd hq List.not_mem_nil
  rcases yrun (yis_ok ehe_k) hA Hs Ho HC with ⟨q_, hq, h', K_, G_⟩ | ⟨q_, hq, h', K_, G_⟩
  · have e_ := List.mem_singleton.mp hq
    subst e_
    exact ⟨h', yfr_sm K_.2.2.2 hs K_.1 (ywa_s ehe_w List.mem_cons_self), ⟨fun a_ j_ => yfr_bp K_.2.2.2 (fun q_ hq => absurd hq List.not_mem_nil), G_⟩⟩
  · cases hq
-- fhe: 2 steps, 1 ends, 0 returns
def fhe_L : List (Nat × Nat × Nat) := [(1000, 6, 2), (1002, 6, 2), (1004, 6, 2)]
def fhe_O : yO := []
def fhe_A : yA := (yZ fhe_L, [], [], [], [])
def fhe_C : List xB := []
def fhe_ss : List yS := [(8, [(4, .int 0), (0, .index 1), (1, .index 1000), (2, .index 1002), (3, .index 1004)], [], [], [], [])]
def fhe_rs : List yR := []
theorem fhe_w : ywa fhe_A fhe_ss fhe_rs = true := by decide +kernel
theorem fhe_k : yis (yev fhe_A 3000 60 68 [8] (5, [(0, .index 1), (1, .index 1000), (2, .index 1002), (3, .index 1004)], [], fhe_O, fhe_C, [])) fhe_ss fhe_rs = true := by decide +kernel
def fhe_r (k_ : Nat) : Value := .int 0
def fhe_s (a1000 a1002 a1004 : Nat) (n_ : Nat) : Nat := bif Nat.beq n_ 1000 then a1000 else (bif Nat.beq n_ 1002 then a1002 else (bif Nat.beq n_ 1004 then a1004 else (0)))
theorem fhe {h_ : xH} {a1000 a1002 a1004 : Nat} (hs : sHp h_) (k1000 : bcq h_ a1000 6 2) (k1002 : bcq h_ a1002 6 2) (k1004 : bcq h_ a1004 6 2) : ∃ h', ysm h_ h' ∧ (((∀ a_ j_ : Nat, bpat h' a_ j_ = bpat h_ a_ j_) ∧ (bldD 60 68 5 [(0, .index 1), (1, .index a1000), (2, .index a1002), (3, .index a1004)] [] h_ 8 [(4, .int (0 : Int32)), (0, .index 1), (1, .index a1000), (2, .index a1002), (3, .index a1004)] [] h'))) := by
  have hA : yas fhe_A fhe_r (yg (fhe_s a1000 a1002 a1004)) := ⟨fun q_ hq => absurd hq List.not_mem_nil, fun q_ hq => absurd hq List.not_mem_nil, fun q_ hq => absurd hq List.not_mem_nil, fun n_ hn => yg_lo hn, fun q_ hq => absurd hq List.not_mem_nil⟩
  have Hs : ysh fhe_A.1 (yg (fhe_s a1000 a1002 a1004)) h_ := ysh_of2 hs (List.forall_mem_cons.mpr ⟨⟨by decide, k1000⟩, List.forall_mem_cons.mpr ⟨⟨by decide, k1002⟩, List.forall_mem_cons.mpr ⟨⟨by decide, k1004⟩, fun q_ hq => absurd hq List.not_mem_nil⟩⟩⟩)
  have Ho : ymem fhe_r (yg (fhe_s a1000 a1002 a1004)) fhe_O h_ := fun q_ hq => absurd hq List.not_mem_nil
  have HC : ∀ q_ ∈ fhe_C, xhold fhe_r q_ := fun q_ hq => absurd hq List.not_mem_nil
  rcases yrun (yis_ok fhe_k) hA Hs Ho HC with ⟨q_, hq, h', K_, G_⟩ | ⟨q_, hq, h', K_, G_⟩
  · have e_ := List.mem_singleton.mp hq
    subst e_
    exact ⟨h', yfr_sm K_.2.2.2 hs K_.1 (ywa_s fhe_w List.mem_cons_self), ⟨fun a_ j_ => yfr_bp K_.2.2.2 (fun q_ hq => absurd hq List.not_mem_nil), G_⟩⟩
  · cases hq
-- the: 13 steps, 1 ends, 0 returns
def the_L : List (Nat × Nat × Nat) := [(1000, 6, 2), (1002, 6, 2), (1003, 20, 4), (1004, 6, 2), (1006, 5, 3)]
def the_O : yO := [(1002, .int 1, .arg 300), (1, .int 1, .index 3), (1002, .int 0, .index 1003), (1003, .arg 4, .arg 302), (3, .arg 302, .index 1006)]
def the_A : yA := (yZ the_L, [(.arg 4, 4), (.arg 302, 8)], [], [], [])
def the_C : List xB := [(.lt, .arg 4, .arg 300, true)]
def the_ss : List yS := [(31, [(4, .arg 4), (0, .index 1), (1, .index 1000), (2, .index 1002), (3, .index 1004)], [.index 1004, .index 1006, .index 1], [(1002, .int 1, .arg 300), (1, .int 1, .index 3), (1002, .int 0, .index 1003), (1003, .arg 4, .arg 302), (3, .arg 302, .index 1006)], [(.lt, .arg 4, .arg 300, true)], [])]
def the_rs : List yR := []
theorem the_w : ywa the_A the_ss the_rs = true := by decide +kernel
theorem the_k : yis (yev the_A 3000 60 68 [31] (8, [(4, .arg 4), (0, .index 1), (1, .index 1000), (2, .index 1002), (3, .index 1004)], [], the_O, the_C, [])) the_ss the_rs = true := by decide +kernel
def the_r (v4_ v300 v302 : Int32) (k_ : Nat) : Value := bif Nat.beq k_ 4 then .int v4_ else (bif Nat.beq k_ 300 then .int v300 else (bif Nat.beq k_ 302 then .int v302 else (.int 0)))
def the_s (a1000 a1002 a1003 a1004 a1006 : Nat) (n_ : Nat) : Nat := bif Nat.beq n_ 1000 then a1000 else (bif Nat.beq n_ 1002 then a1002 else (bif Nat.beq n_ 1003 then a1003 else (bif Nat.beq n_ 1004 then a1004 else (bif Nat.beq n_ 1006 then a1006 else (0)))))
theorem the {h_ : xH} {a1000 a1002 a1003 a1004 a1006 : Nat} {v4_ v300 v302 : Int32} (hs : sHp h_) (k1000 : bcq h_ a1000 6 2) (k1002 : bcq h_ a1002 6 2) (k1003 : bcq h_ a1003 20 4) (k1004 : bcq h_ a1004 6 2) (k1006 : bcq h_ a1006 5 3) (o0_ : bpat h_ a1002 1 = some (.int v300)) (o1 : bpat h_ a1002 0 = some (.index a1003)) (o2 : bpat h_ a1003 (v4_).toInt.toNat = some (.int v302)) (o3_ : bpat h_ 3 (v302).toInt.toNat = some (.index a1006)) (b0 : 0 ≤ (v4_).toInt ∧ (v4_).toInt < 4) (b1 : 0 ≤ (v302).toInt ∧ (v302).toInt < 8) (c0_ : v4_.toInt < v300.toInt) : ∃ h', ysm h_ h' ∧ (((∀ a_ j_ : Nat, bpat h' a_ j_ = bpat h_ a_ j_) ∧ (bldD 60 68 8 [(4, .int v4_), (0, .index 1), (1, .index a1000), (2, .index a1002), (3, .index a1004)] [] h_ 31 [(4, .int v4_), (0, .index 1), (1, .index a1000), (2, .index a1002), (3, .index a1004)] [.index a1004, .index a1006, .index 1] h'))) := by
  have hA : yas the_A (the_r v4_ v300 v302) (yg (the_s a1000 a1002 a1003 a1004 a1006)) := ⟨List.forall_mem_cons.mpr ⟨b0, List.forall_mem_cons.mpr ⟨b1, fun q_ hq => absurd hq List.not_mem_nil⟩⟩, fun q_ hq => absurd hq List.not_mem_nil, fun q_ hq => absurd hq List.not_mem_nil, fun n_ hn => yg_lo hn, fun q_ hq => absurd hq List.not_mem_nil⟩
  have Hs : ysh the_A.1 (yg (the_s a1000 a1002 a1003 a1004 a1006)) h_ := ysh_of2 hs (List.forall_mem_cons.mpr ⟨⟨by decide, k1000⟩, List.forall_mem_cons.mpr ⟨⟨by decide, k1002⟩, List.forall_mem_cons.mpr ⟨⟨by decide, k1003⟩, List.forall_mem_cons.mpr ⟨⟨by decide, k1004⟩, List.forall_mem_cons.mpr ⟨⟨by decide, k1006⟩, fun q_ hq => absurd hq List.not_mem_nil⟩⟩⟩⟩⟩)
  have Ho : ymem (the_r v4_ v300 v302) (yg (the_s a1000 a1002 a1003 a1004 a1006)) the_O h_ := List.forall_mem_cons.mpr ⟨bpat_some o0_, List.forall_mem_cons.mpr ⟨bpat_some (fxr_at hs.2 (show fxk fxl 1 1 = some 3 by decide +kernel)), List.forall_mem_cons.mpr ⟨bpat_some o1, List.forall_mem_cons.mpr ⟨bpat_some o2, List.forall_mem_cons.mpr ⟨bpat_some o3_, fun q_ hq => absurd hq List.not_mem_nil⟩⟩⟩⟩⟩
  have HC : ∀ q_ ∈ the_C, xhold (the_r v4_ v300 v302) q_ := List.forall_mem_cons.mpr ⟨xh_ltT c0_, fun q_ hq => absurd hq List.not_mem_nil⟩
  rcases yrun (yis_ok the_k) hA Hs Ho HC with ⟨q_, hq, h', K_, G_⟩ | ⟨q_, hq, h', K_, G_⟩
  · have e_ := List.mem_singleton.mp hq
    subst e_
    exact ⟨h', yfr_sm K_.2.2.2 hs K_.1 (ywa_s the_w List.mem_cons_self), ⟨fun a_ j_ => yfr_bp K_.2.2.2 (fun q_ hq => absurd hq List.not_mem_nil), G_⟩⟩
  · cases hq
-- nhe: 2 steps, 1 ends, 0 returns
def nhe_L : List (Nat × Nat × Nat) := [(1000, 6, 2), (1002, 6, 2), (1004, 6, 2)]
def nhe_O : yO := []
def nhe_A : yA := (yZ nhe_L, [], [], [], [])
def nhe_C : List xB := []
def nhe_ss : List yS := [(8, [(4, .add (.arg 4) (.int 1)), (0, .index 1), (1, .index 1000), (2, .index 1002), (3, .index 1004)], [], [], [], [])]
def nhe_rs : List yR := []
theorem nhe_w : ywa nhe_A nhe_ss nhe_rs = true := by decide +kernel
theorem nhe_k : yis (yev nhe_A 3000 60 68 [8] (34, [(4, .arg 4), (0, .index 1), (1, .index 1000), (2, .index 1002), (3, .index 1004)], [], nhe_O, nhe_C, [])) nhe_ss nhe_rs = true := by decide +kernel
def nhe_r (v4_ : Int32) (k_ : Nat) : Value := bif Nat.beq k_ 4 then .int v4_ else (.int 0)
def nhe_s (a1000 a1002 a1004 : Nat) (n_ : Nat) : Nat := bif Nat.beq n_ 1000 then a1000 else (bif Nat.beq n_ 1002 then a1002 else (bif Nat.beq n_ 1004 then a1004 else (0)))
theorem nhe {h_ : xH} {a1000 a1002 a1004 : Nat} {v4_ : Int32} (hs : sHp h_) (k1000 : bcq h_ a1000 6 2) (k1002 : bcq h_ a1002 6 2) (k1004 : bcq h_ a1004 6 2) : ∃ h', ysm h_ h' ∧ (((∀ a_ j_ : Nat, bpat h' a_ j_ = bpat h_ a_ j_) ∧ (bldD 60 68 34 [(4, .int v4_), (0, .index 1), (1, .index a1000), (2, .index a1002), (3, .index a1004)] [] h_ 8 [(4, .int (v4_ + (1 : Int32))), (0, .index 1), (1, .index a1000), (2, .index a1002), (3, .index a1004)] [] h'))) := by
  have hA : yas nhe_A (nhe_r v4_) (yg (nhe_s a1000 a1002 a1004)) := ⟨fun q_ hq => absurd hq List.not_mem_nil, fun q_ hq => absurd hq List.not_mem_nil, fun q_ hq => absurd hq List.not_mem_nil, fun n_ hn => yg_lo hn, fun q_ hq => absurd hq List.not_mem_nil⟩
  have Hs : ysh nhe_A.1 (yg (nhe_s a1000 a1002 a1004)) h_ := ysh_of2 hs (List.forall_mem_cons.mpr ⟨⟨by decide, k1000⟩, List.forall_mem_cons.mpr ⟨⟨by decide, k1002⟩, List.forall_mem_cons.mpr ⟨⟨by decide, k1004⟩, fun q_ hq => absurd hq List.not_mem_nil⟩⟩⟩)
  have Ho : ymem (nhe_r v4_) (yg (nhe_s a1000 a1002 a1004)) nhe_O h_ := fun q_ hq => absurd hq List.not_mem_nil
  have HC : ∀ q_ ∈ nhe_C, xhold (nhe_r v4_) q_ := fun q_ hq => absurd hq List.not_mem_nil
  rcases yrun (yis_ok nhe_k) hA Hs Ho HC with ⟨q_, hq, h', K_, G_⟩ | ⟨q_, hq, h', K_, G_⟩
  · have e_ := List.mem_singleton.mp hq
    subst e_
    exact ⟨h', yfr_sm K_.2.2.2 hs K_.1 (ywa_s nhe_w List.mem_cons_self), ⟨fun a_ j_ => yfr_bp K_.2.2.2 (fun q_ hq => absurd hq List.not_mem_nil), G_⟩⟩
  · cases hq
-- rhe: 5 steps, 0 ends, 1 returns
def rhe_L : List (Nat × Nat × Nat) := [(1000, 6, 2), (1002, 6, 2), (1004, 6, 2)]
def rhe_O : yO := [(1002, .int 1, .arg 300)]
def rhe_A : yA := (yZ rhe_L, [], [], [], [])
def rhe_C : List xB := [(.lt, .arg 4, .arg 300, false)]
def rhe_ss : List yS := []
def rhe_rs : List yR := [(none, [(1002, .int 1, .arg 300)], [(.lt, .arg 4, .arg 300, false)], [])]
theorem rhe_w : ywa rhe_A rhe_ss rhe_rs = true := by decide +kernel
theorem rhe_k : yis (yev rhe_A 3000 60 68 [] (8, [(4, .arg 4), (0, .index 1), (1, .index 1000), (2, .index 1002), (3, .index 1004)], [], rhe_O, rhe_C, [])) rhe_ss rhe_rs = true := by decide +kernel
def rhe_r (v4_ v300 : Int32) (k_ : Nat) : Value := bif Nat.beq k_ 4 then .int v4_ else (bif Nat.beq k_ 300 then .int v300 else (.int 0))
def rhe_s (a1000 a1002 a1004 : Nat) (n_ : Nat) : Nat := bif Nat.beq n_ 1000 then a1000 else (bif Nat.beq n_ 1002 then a1002 else (bif Nat.beq n_ 1004 then a1004 else (0)))
theorem rhe {h_ : xH} {a1000 a1002 a1004 : Nat} {v4_ v300 : Int32} (hs : sHp h_) (k1000 : bcq h_ a1000 6 2) (k1002 : bcq h_ a1002 6 2) (k1004 : bcq h_ a1004 6 2) (o0_ : bpat h_ a1002 1 = some (.int v300)) (c0_ : v300.toInt ≤ v4_.toInt) : ∃ h', ysm h_ h' ∧ (((∀ a_ j_ : Nat, bpat h' a_ j_ = bpat h_ a_ j_) ∧ (∀ D_, 60 ≤ D_ → xrun D_ 68 8 [(4, .int v4_), (0, .index 1), (1, .index a1000), (2, .index a1002), (3, .index a1004)] [] h_ (none, h', [])))) := by
  have hA : yas rhe_A (rhe_r v4_ v300) (yg (rhe_s a1000 a1002 a1004)) := ⟨fun q_ hq => absurd hq List.not_mem_nil, fun q_ hq => absurd hq List.not_mem_nil, fun q_ hq => absurd hq List.not_mem_nil, fun n_ hn => yg_lo hn, fun q_ hq => absurd hq List.not_mem_nil⟩
  have Hs : ysh rhe_A.1 (yg (rhe_s a1000 a1002 a1004)) h_ := ysh_of2 hs (List.forall_mem_cons.mpr ⟨⟨by decide, k1000⟩, List.forall_mem_cons.mpr ⟨⟨by decide, k1002⟩, List.forall_mem_cons.mpr ⟨⟨by decide, k1004⟩, fun q_ hq => absurd hq List.not_mem_nil⟩⟩⟩)
  have Ho : ymem (rhe_r v4_ v300) (yg (rhe_s a1000 a1002 a1004)) rhe_O h_ := List.forall_mem_cons.mpr ⟨bpat_some o0_, fun q_ hq => absurd hq List.not_mem_nil⟩
  have HC : ∀ q_ ∈ rhe_C, xhold (rhe_r v4_ v300) q_ := List.forall_mem_cons.mpr ⟨xh_ltF c0_, fun q_ hq => absurd hq List.not_mem_nil⟩
  rcases yrun (yis_ok rhe_k) hA Hs Ho HC with ⟨q_, hq, h', K_, G_⟩ | ⟨q_, hq, h', K_, G_⟩
  · cases hq
  · have e_ := List.mem_singleton.mp hq
    subst e_
    exact ⟨h', yfr_sm K_.2.2.2 hs K_.1 (ywa_r rhe_w List.mem_cons_self), ⟨fun a_ j_ => yfr_bp K_.2.2.2 (fun q_ hq => absurd hq List.not_mem_nil), G_⟩⟩
-- ===== goesOver, hears: the reference
-- ego: 1 steps, 1 ends, 0 returns
def ego_L : List (Nat × Nat × Nat) := [(1001, 20, 13)]
def ego_O : yO := []
def ego_A : yA := (yZ ego_L, [], [], [], [])
def ego_C : List xB := []
def ego_ss : List yS := [(1, [(0, .index 338), (1, .arg 1), (2, .index 1001)], [.arg 1], [], [], [])]
def ego_rs : List yR := []
theorem ego_w : ywa ego_A ego_ss ego_rs = true := by decide +kernel
theorem ego_k : yis (yev ego_A 3000 60 155 [1] (0, [(0, .index 338), (1, .arg 1), (2, .index 1001)], [], ego_O, ego_C, [])) ego_ss ego_rs = true := by decide +kernel
def ego_r (v1_ : Int32) (k_ : Nat) : Value := bif Nat.beq k_ 1 then .int v1_ else (.int 0)
def ego_s (a1001 : Nat) (n_ : Nat) : Nat := bif Nat.beq n_ 1001 then a1001 else (0)
theorem ego {h_ : xH} {a1001 : Nat} {v1_ : Int32} (hs : sHp h_) (k1001 : bcq h_ a1001 20 13) : ∃ h', ysm h_ h' ∧ (((∀ a_ j_ : Nat, bpat h' a_ j_ = bpat h_ a_ j_) ∧ (bldD 60 155 0 [(0, .index 338), (1, .int v1_), (2, .index a1001)] [] h_ 1 [(0, .index 338), (1, .int v1_), (2, .index a1001)] [.int v1_] h'))) := by
  have hA : yas ego_A (ego_r v1_) (yg (ego_s a1001)) := ⟨fun q_ hq => absurd hq List.not_mem_nil, fun q_ hq => absurd hq List.not_mem_nil, fun q_ hq => absurd hq List.not_mem_nil, fun n_ hn => yg_lo hn, fun q_ hq => absurd hq List.not_mem_nil⟩
  have Hs : ysh ego_A.1 (yg (ego_s a1001)) h_ := ysh_of2 hs (List.forall_mem_cons.mpr ⟨⟨by decide, k1001⟩, fun q_ hq => absurd hq List.not_mem_nil⟩)
  have Ho : ymem (ego_r v1_) (yg (ego_s a1001)) ego_O h_ := fun q_ hq => absurd hq List.not_mem_nil
  have HC : ∀ q_ ∈ ego_C, xhold (ego_r v1_) q_ := fun q_ hq => absurd hq List.not_mem_nil
  rcases yrun (yis_ok ego_k) hA Hs Ho HC with ⟨q_, hq, h', K_, G_⟩ | ⟨q_, hq, h', K_, G_⟩
  · have e_ := List.mem_singleton.mp hq
    subst e_
    exact ⟨h', yfr_sm K_.2.2.2 hs K_.1 (ywa_s ego_w List.mem_cons_self), ⟨fun a_ j_ => yfr_bp K_.2.2.2 (fun q_ hq => absurd hq List.not_mem_nil), G_⟩⟩
  · cases hq
-- fgo: 3 steps, 1 ends, 0 returns
def fgo_L : List (Nat × Nat × Nat) := [(1001, 20, 13)]
def fgo_O : yO := []
def fgo_A : yA := (yZ fgo_L, [], [], [], [])
def fgo_C : List xB := []
def fgo_ss : List yS := [(8, [(4, .int 0), (3, .arg 300), (0, .index 338), (1, .arg 1), (2, .index 1001)], [], [], [], [])]
def fgo_rs : List yR := []
theorem fgo_w : ywa fgo_A fgo_ss fgo_rs = true := by decide +kernel
theorem fgo_k : yis (yev fgo_A 3000 60 155 [8] (4, [(0, .index 338), (1, .arg 1), (2, .index 1001)], [.arg 300], fgo_O, fgo_C, [])) fgo_ss fgo_rs = true := by decide +kernel
def fgo_r (v1_ v300 : Int32) (k_ : Nat) : Value := bif Nat.beq k_ 1 then .int v1_ else (bif Nat.beq k_ 300 then .int v300 else (.int 0))
def fgo_s (a1001 : Nat) (n_ : Nat) : Nat := bif Nat.beq n_ 1001 then a1001 else (0)
theorem fgo {h_ : xH} {a1001 : Nat} {v1_ v300 : Int32} (hs : sHp h_) (k1001 : bcq h_ a1001 20 13) : ∃ h', ysm h_ h' ∧ (((∀ a_ j_ : Nat, bpat h' a_ j_ = bpat h_ a_ j_) ∧ (bldD 60 155 4 [(0, .index 338), (1, .int v1_), (2, .index a1001)] [.int v300] h_ 8 [(4, .int (0 : Int32)), (3, .int v300), (0, .index 338), (1, .int v1_), (2, .index a1001)] [] h'))) := by
  have hA : yas fgo_A (fgo_r v1_ v300) (yg (fgo_s a1001)) := ⟨fun q_ hq => absurd hq List.not_mem_nil, fun q_ hq => absurd hq List.not_mem_nil, fun q_ hq => absurd hq List.not_mem_nil, fun n_ hn => yg_lo hn, fun q_ hq => absurd hq List.not_mem_nil⟩
  have Hs : ysh fgo_A.1 (yg (fgo_s a1001)) h_ := ysh_of2 hs (List.forall_mem_cons.mpr ⟨⟨by decide, k1001⟩, fun q_ hq => absurd hq List.not_mem_nil⟩)
  have Ho : ymem (fgo_r v1_ v300) (yg (fgo_s a1001)) fgo_O h_ := fun q_ hq => absurd hq List.not_mem_nil
  have HC : ∀ q_ ∈ fgo_C, xhold (fgo_r v1_ v300) q_ := fun q_ hq => absurd hq List.not_mem_nil
  rcases yrun (yis_ok fgo_k) hA Hs Ho HC with ⟨q_, hq, h', K_, G_⟩ | ⟨q_, hq, h', K_, G_⟩
  · have e_ := List.mem_singleton.mp hq
    subst e_
    exact ⟨h', yfr_sm K_.2.2.2 hs K_.1 (ywa_s fgo_w List.mem_cons_self), ⟨fun a_ j_ => yfr_bp K_.2.2.2 (fun q_ hq => absurd hq List.not_mem_nil), G_⟩⟩
  · cases hq
-- tgo: 6 steps, 1 ends, 0 returns
def tgo_L : List (Nat × Nat × Nat) := [(1001, 20, 13)]
def tgo_O : yO := []
def tgo_A : yA := (yZ tgo_L, [], [], [], [])
def tgo_C : List xB := [(.lt, .arg 4, .arg 3, true)]
def tgo_ss : List yS := [(18, [(4, .arg 4), (3, .arg 3), (0, .index 338), (1, .arg 1), (2, .index 1001)], [.arg 4, .arg 1, .index 338], [], [(.lt, .arg 4, .arg 3, true)], [])]
def tgo_rs : List yR := []
theorem tgo_w : ywa tgo_A tgo_ss tgo_rs = true := by decide +kernel
theorem tgo_k : yis (yev tgo_A 3000 60 155 [18] (8, [(4, .arg 4), (3, .arg 3), (0, .index 338), (1, .arg 1), (2, .index 1001)], [], tgo_O, tgo_C, [])) tgo_ss tgo_rs = true := by decide +kernel
def tgo_r (v1_ v3 v4_ : Int32) (k_ : Nat) : Value := bif Nat.beq k_ 1 then .int v1_ else (bif Nat.beq k_ 3 then .int v3 else (bif Nat.beq k_ 4 then .int v4_ else (.int 0)))
def tgo_s (a1001 : Nat) (n_ : Nat) : Nat := bif Nat.beq n_ 1001 then a1001 else (0)
theorem tgo {h_ : xH} {a1001 : Nat} {v1_ v3 v4_ : Int32} (hs : sHp h_) (k1001 : bcq h_ a1001 20 13) (c0_ : v4_.toInt < v3.toInt) : ∃ h', ysm h_ h' ∧ (((∀ a_ j_ : Nat, bpat h' a_ j_ = bpat h_ a_ j_) ∧ (bldD 60 155 8 [(4, .int v4_), (3, .int v3), (0, .index 338), (1, .int v1_), (2, .index a1001)] [] h_ 18 [(4, .int v4_), (3, .int v3), (0, .index 338), (1, .int v1_), (2, .index a1001)] [.int v4_, .int v1_, .index 338] h'))) := by
  have hA : yas tgo_A (tgo_r v1_ v3 v4_) (yg (tgo_s a1001)) := ⟨fun q_ hq => absurd hq List.not_mem_nil, fun q_ hq => absurd hq List.not_mem_nil, fun q_ hq => absurd hq List.not_mem_nil, fun n_ hn => yg_lo hn, fun q_ hq => absurd hq List.not_mem_nil⟩
  have Hs : ysh tgo_A.1 (yg (tgo_s a1001)) h_ := ysh_of2 hs (List.forall_mem_cons.mpr ⟨⟨by decide, k1001⟩, fun q_ hq => absurd hq List.not_mem_nil⟩)
  have Ho : ymem (tgo_r v1_ v3 v4_) (yg (tgo_s a1001)) tgo_O h_ := fun q_ hq => absurd hq List.not_mem_nil
  have HC : ∀ q_ ∈ tgo_C, xhold (tgo_r v1_ v3 v4_) q_ := List.forall_mem_cons.mpr ⟨xh_ltT c0_, fun q_ hq => absurd hq List.not_mem_nil⟩
  rcases yrun (yis_ok tgo_k) hA Hs Ho HC with ⟨q_, hq, h', K_, G_⟩ | ⟨q_, hq, h', K_, G_⟩
  · have e_ := List.mem_singleton.mp hq
    subst e_
    exact ⟨h', yfr_sm K_.2.2.2 hs K_.1 (ywa_s tgo_w List.mem_cons_self), ⟨fun a_ j_ => yfr_bp K_.2.2.2 (fun q_ hq => absurd hq List.not_mem_nil), G_⟩⟩
  · cases hq
-- ugo: 1 steps, 1 ends, 0 returns
def ugo_L : List (Nat × Nat × Nat) := [(1001, 20, 13)]
def ugo_O : yO := []
def ugo_A : yA := (yZ ugo_L, [], [], [], [])
def ugo_C : List xB := []
def ugo_ss : List yS := [(22, [(4, .arg 4), (3, .arg 3), (0, .index 338), (1, .arg 1), (2, .index 1001)], [.index 1001, .arg 300, .index 338], [], [], [])]
def ugo_rs : List yR := []
theorem ugo_w : ywa ugo_A ugo_ss ugo_rs = true := by decide +kernel
theorem ugo_k : yis (yev ugo_A 3000 60 155 [22] (21, [(4, .arg 4), (3, .arg 3), (0, .index 338), (1, .arg 1), (2, .index 1001)], [.arg 300, .index 338], ugo_O, ugo_C, [])) ugo_ss ugo_rs = true := by decide +kernel
def ugo_r (v1_ v3 v4_ v300 : Int32) (k_ : Nat) : Value := bif Nat.beq k_ 1 then .int v1_ else (bif Nat.beq k_ 3 then .int v3 else (bif Nat.beq k_ 4 then .int v4_ else (bif Nat.beq k_ 300 then .int v300 else (.int 0))))
def ugo_s (a1001 : Nat) (n_ : Nat) : Nat := bif Nat.beq n_ 1001 then a1001 else (0)
theorem ugo {h_ : xH} {a1001 : Nat} {v1_ v3 v4_ v300 : Int32} (hs : sHp h_) (k1001 : bcq h_ a1001 20 13) : ∃ h', ysm h_ h' ∧ (((∀ a_ j_ : Nat, bpat h' a_ j_ = bpat h_ a_ j_) ∧ (bldD 60 155 21 [(4, .int v4_), (3, .int v3), (0, .index 338), (1, .int v1_), (2, .index a1001)] [.int v300, .index 338] h_ 22 [(4, .int v4_), (3, .int v3), (0, .index 338), (1, .int v1_), (2, .index a1001)] [.index a1001, .int v300, .index 338] h'))) := by
  have hA : yas ugo_A (ugo_r v1_ v3 v4_ v300) (yg (ugo_s a1001)) := ⟨fun q_ hq => absurd hq List.not_mem_nil, fun q_ hq => absurd hq List.not_mem_nil, fun q_ hq => absurd hq List.not_mem_nil, fun n_ hn => yg_lo hn, fun q_ hq => absurd hq List.not_mem_nil⟩
  have Hs : ysh ugo_A.1 (yg (ugo_s a1001)) h_ := ysh_of2 hs (List.forall_mem_cons.mpr ⟨⟨by decide, k1001⟩, fun q_ hq => absurd hq List.not_mem_nil⟩)
  have Ho : ymem (ugo_r v1_ v3 v4_ v300) (yg (ugo_s a1001)) ugo_O h_ := fun q_ hq => absurd hq List.not_mem_nil
  have HC : ∀ q_ ∈ ugo_C, xhold (ugo_r v1_ v3 v4_ v300) q_ := fun q_ hq => absurd hq List.not_mem_nil
  rcases yrun (yis_ok ugo_k) hA Hs Ho HC with ⟨q_, hq, h', K_, G_⟩ | ⟨q_, hq, h', K_, G_⟩
  · have e_ := List.mem_singleton.mp hq
    subst e_
    exact ⟨h', yfr_sm K_.2.2.2 hs K_.1 (ywa_s ugo_w List.mem_cons_self), ⟨fun a_ j_ => yfr_bp K_.2.2.2 (fun q_ hq => absurd hq List.not_mem_nil), G_⟩⟩
  · cases hq
-- ngo: 2 steps, 1 ends, 0 returns
def ngo_L : List (Nat × Nat × Nat) := [(1001, 20, 13)]
def ngo_O : yO := []
def ngo_A : yA := (yZ ngo_L, [], [], [], [])
def ngo_C : List xB := []
def ngo_ss : List yS := [(8, [(4, .add (.arg 4) (.int 1)), (3, .arg 3), (0, .index 338), (1, .arg 1), (2, .index 1001)], [], [], [], [])]
def ngo_rs : List yR := []
theorem ngo_w : ywa ngo_A ngo_ss ngo_rs = true := by decide +kernel
theorem ngo_k : yis (yev ngo_A 3000 60 155 [8] (25, [(4, .arg 4), (3, .arg 3), (0, .index 338), (1, .arg 1), (2, .index 1001)], [], ngo_O, ngo_C, [])) ngo_ss ngo_rs = true := by decide +kernel
def ngo_r (v1_ v3 v4_ : Int32) (k_ : Nat) : Value := bif Nat.beq k_ 1 then .int v1_ else (bif Nat.beq k_ 3 then .int v3 else (bif Nat.beq k_ 4 then .int v4_ else (.int 0)))
def ngo_s (a1001 : Nat) (n_ : Nat) : Nat := bif Nat.beq n_ 1001 then a1001 else (0)
theorem ngo {h_ : xH} {a1001 : Nat} {v1_ v3 v4_ : Int32} (hs : sHp h_) (k1001 : bcq h_ a1001 20 13) : ∃ h', ysm h_ h' ∧ (((∀ a_ j_ : Nat, bpat h' a_ j_ = bpat h_ a_ j_) ∧ (bldD 60 155 25 [(4, .int v4_), (3, .int v3), (0, .index 338), (1, .int v1_), (2, .index a1001)] [] h_ 8 [(4, .int (v4_ + (1 : Int32))), (3, .int v3), (0, .index 338), (1, .int v1_), (2, .index a1001)] [] h'))) := by
  have hA : yas ngo_A (ngo_r v1_ v3 v4_) (yg (ngo_s a1001)) := ⟨fun q_ hq => absurd hq List.not_mem_nil, fun q_ hq => absurd hq List.not_mem_nil, fun q_ hq => absurd hq List.not_mem_nil, fun n_ hn => yg_lo hn, fun q_ hq => absurd hq List.not_mem_nil⟩
  have Hs : ysh ngo_A.1 (yg (ngo_s a1001)) h_ := ysh_of2 hs (List.forall_mem_cons.mpr ⟨⟨by decide, k1001⟩, fun q_ hq => absurd hq List.not_mem_nil⟩)
  have Ho : ymem (ngo_r v1_ v3 v4_) (yg (ngo_s a1001)) ngo_O h_ := fun q_ hq => absurd hq List.not_mem_nil
  have HC : ∀ q_ ∈ ngo_C, xhold (ngo_r v1_ v3 v4_) q_ := fun q_ hq => absurd hq List.not_mem_nil
  rcases yrun (yis_ok ngo_k) hA Hs Ho HC with ⟨q_, hq, h', K_, G_⟩ | ⟨q_, hq, h', K_, G_⟩
  · have e_ := List.mem_singleton.mp hq
    subst e_
    exact ⟨h', yfr_sm K_.2.2.2 hs K_.1 (ywa_s ngo_w List.mem_cons_self), ⟨fun a_ j_ => yfr_bp K_.2.2.2 (fun q_ hq => absurd hq List.not_mem_nil), G_⟩⟩
  · cases hq
-- rgo: 4 steps, 0 ends, 1 returns
def rgo_L : List (Nat × Nat × Nat) := [(1001, 20, 13)]
def rgo_O : yO := []
def rgo_A : yA := (yZ rgo_L, [], [], [], [])
def rgo_C : List xB := [(.lt, .arg 4, .arg 3, false)]
def rgo_ss : List yS := []
def rgo_rs : List yR := [(none, [], [(.lt, .arg 4, .arg 3, false)], [])]
theorem rgo_w : ywa rgo_A rgo_ss rgo_rs = true := by decide +kernel
theorem rgo_k : yis (yev rgo_A 3000 60 155 [] (8, [(4, .arg 4), (3, .arg 3), (0, .index 338), (1, .arg 1), (2, .index 1001)], [], rgo_O, rgo_C, [])) rgo_ss rgo_rs = true := by decide +kernel
def rgo_r (v1_ v3 v4_ : Int32) (k_ : Nat) : Value := bif Nat.beq k_ 1 then .int v1_ else (bif Nat.beq k_ 3 then .int v3 else (bif Nat.beq k_ 4 then .int v4_ else (.int 0)))
def rgo_s (a1001 : Nat) (n_ : Nat) : Nat := bif Nat.beq n_ 1001 then a1001 else (0)
theorem rgo {h_ : xH} {a1001 : Nat} {v1_ v3 v4_ : Int32} (hs : sHp h_) (k1001 : bcq h_ a1001 20 13) (c0_ : v3.toInt ≤ v4_.toInt) : ∃ h', ysm h_ h' ∧ (((∀ a_ j_ : Nat, bpat h' a_ j_ = bpat h_ a_ j_) ∧ (∀ D_, 60 ≤ D_ → xrun D_ 155 8 [(4, .int v4_), (3, .int v3), (0, .index 338), (1, .int v1_), (2, .index a1001)] [] h_ (none, h', [])))) := by
  have hA : yas rgo_A (rgo_r v1_ v3 v4_) (yg (rgo_s a1001)) := ⟨fun q_ hq => absurd hq List.not_mem_nil, fun q_ hq => absurd hq List.not_mem_nil, fun q_ hq => absurd hq List.not_mem_nil, fun n_ hn => yg_lo hn, fun q_ hq => absurd hq List.not_mem_nil⟩
  have Hs : ysh rgo_A.1 (yg (rgo_s a1001)) h_ := ysh_of2 hs (List.forall_mem_cons.mpr ⟨⟨by decide, k1001⟩, fun q_ hq => absurd hq List.not_mem_nil⟩)
  have Ho : ymem (rgo_r v1_ v3 v4_) (yg (rgo_s a1001)) rgo_O h_ := fun q_ hq => absurd hq List.not_mem_nil
  have HC : ∀ q_ ∈ rgo_C, xhold (rgo_r v1_ v3 v4_) q_ := List.forall_mem_cons.mpr ⟨xh_ltF c0_, fun q_ hq => absurd hq List.not_mem_nil⟩
  rcases yrun (yis_ok rgo_k) hA Hs Ho HC with ⟨q_, hq, h', K_, G_⟩ | ⟨q_, hq, h', K_, G_⟩
  · cases hq
  · have e_ := List.mem_singleton.mp hq
    subst e_
    exact ⟨h', yfr_sm K_.2.2.2 hs K_.1 (ywa_r rgo_w List.mem_cons_self), ⟨fun a_ j_ => yfr_bp K_.2.2.2 (fun q_ hq => absurd hq List.not_mem_nil), G_⟩⟩
-- ehs: 7 steps, 1 ends, 0 returns
def ehs_L : List (Nat × Nat × Nat) := [(1001, 20, 13)]
def ehs_O : yO := []
def ehs_A : yA := (yZ ehs_L, [], [], [], [])
def ehs_C : List xB := []
def ehs_ss : List yS := [(9, [(0, .index 338), (1, .arg 1), (2, .arg 2), (3, .index 1001)], [.index 1001, .add (.int 34) (.mul (.int 13) (.arg 1)), .index 338], [], [], [])]
def ehs_rs : List yR := []
theorem ehs_w : ywa ehs_A ehs_ss ehs_rs = true := by decide +kernel
theorem ehs_k : yis (yev ehs_A 3000 60 156 [9] (0, [(0, .index 338), (1, .arg 1), (2, .arg 2), (3, .index 1001)], [], ehs_O, ehs_C, [])) ehs_ss ehs_rs = true := by decide +kernel
def ehs_r (v1_ v2 : Int32) (k_ : Nat) : Value := bif Nat.beq k_ 1 then .int v1_ else (bif Nat.beq k_ 2 then .int v2 else (.int 0))
def ehs_s (a1001 : Nat) (n_ : Nat) : Nat := bif Nat.beq n_ 1001 then a1001 else (0)
theorem ehs {h_ : xH} {a1001 : Nat} {v1_ v2 : Int32} (hs : sHp h_) (k1001 : bcq h_ a1001 20 13) : ∃ h', ysm h_ h' ∧ (((∀ a_ j_ : Nat, bpat h' a_ j_ = bpat h_ a_ j_) ∧ (bldD 60 156 0 [(0, .index 338), (1, .int v1_), (2, .int v2), (3, .index a1001)] [] h_ 9 [(0, .index 338), (1, .int v1_), (2, .int v2), (3, .index a1001)] [.index a1001, .int ((34 : Int32) + ((13 : Int32) * v1_)), .index 338] h'))) := by
  have hA : yas ehs_A (ehs_r v1_ v2) (yg (ehs_s a1001)) := ⟨fun q_ hq => absurd hq List.not_mem_nil, fun q_ hq => absurd hq List.not_mem_nil, fun q_ hq => absurd hq List.not_mem_nil, fun n_ hn => yg_lo hn, fun q_ hq => absurd hq List.not_mem_nil⟩
  have Hs : ysh ehs_A.1 (yg (ehs_s a1001)) h_ := ysh_of2 hs (List.forall_mem_cons.mpr ⟨⟨by decide, k1001⟩, fun q_ hq => absurd hq List.not_mem_nil⟩)
  have Ho : ymem (ehs_r v1_ v2) (yg (ehs_s a1001)) ehs_O h_ := fun q_ hq => absurd hq List.not_mem_nil
  have HC : ∀ q_ ∈ ehs_C, xhold (ehs_r v1_ v2) q_ := fun q_ hq => absurd hq List.not_mem_nil
  rcases yrun (yis_ok ehs_k) hA Hs Ho HC with ⟨q_, hq, h', K_, G_⟩ | ⟨q_, hq, h', K_, G_⟩
  · have e_ := List.mem_singleton.mp hq
    subst e_
    exact ⟨h', yfr_sm K_.2.2.2 hs K_.1 (ywa_s ehs_w List.mem_cons_self), ⟨fun a_ j_ => yfr_bp K_.2.2.2 (fun q_ hq => absurd hq List.not_mem_nil), G_⟩⟩
  · cases hq
-- fhs: 3 steps, 1 ends, 0 returns
def fhs_L : List (Nat × Nat × Nat) := [(1001, 20, 13)]
def fhs_O : yO := []
def fhs_A : yA := (yZ fhs_L, [], [], [], [])
def fhs_C : List xB := []
def fhs_ss : List yS := [(15, [(0, .index 338), (1, .arg 1), (2, .arg 2), (3, .index 1001)], [.index 1001, .arg 2, .index 338], [], [], [])]
def fhs_rs : List yR := []
theorem fhs_w : ywa fhs_A fhs_ss fhs_rs = true := by decide +kernel
theorem fhs_k : yis (yev fhs_A 3000 60 156 [15] (12, [(0, .index 338), (1, .arg 1), (2, .arg 2), (3, .index 1001)], [], fhs_O, fhs_C, [])) fhs_ss fhs_rs = true := by decide +kernel
def fhs_r (v1_ v2 : Int32) (k_ : Nat) : Value := bif Nat.beq k_ 1 then .int v1_ else (bif Nat.beq k_ 2 then .int v2 else (.int 0))
def fhs_s (a1001 : Nat) (n_ : Nat) : Nat := bif Nat.beq n_ 1001 then a1001 else (0)
theorem fhs {h_ : xH} {a1001 : Nat} {v1_ v2 : Int32} (hs : sHp h_) (k1001 : bcq h_ a1001 20 13) : ∃ h', ysm h_ h' ∧ (((∀ a_ j_ : Nat, bpat h' a_ j_ = bpat h_ a_ j_) ∧ (bldD 60 156 12 [(0, .index 338), (1, .int v1_), (2, .int v2), (3, .index a1001)] [] h_ 15 [(0, .index 338), (1, .int v1_), (2, .int v2), (3, .index a1001)] [.index a1001, .int v2, .index 338] h'))) := by
  have hA : yas fhs_A (fhs_r v1_ v2) (yg (fhs_s a1001)) := ⟨fun q_ hq => absurd hq List.not_mem_nil, fun q_ hq => absurd hq List.not_mem_nil, fun q_ hq => absurd hq List.not_mem_nil, fun n_ hn => yg_lo hn, fun q_ hq => absurd hq List.not_mem_nil⟩
  have Hs : ysh fhs_A.1 (yg (fhs_s a1001)) h_ := ysh_of2 hs (List.forall_mem_cons.mpr ⟨⟨by decide, k1001⟩, fun q_ hq => absurd hq List.not_mem_nil⟩)
  have Ho : ymem (fhs_r v1_ v2) (yg (fhs_s a1001)) fhs_O h_ := fun q_ hq => absurd hq List.not_mem_nil
  have HC : ∀ q_ ∈ fhs_C, xhold (fhs_r v1_ v2) q_ := fun q_ hq => absurd hq List.not_mem_nil
  rcases yrun (yis_ok fhs_k) hA Hs Ho HC with ⟨q_, hq, h', K_, G_⟩ | ⟨q_, hq, h', K_, G_⟩
  · have e_ := List.mem_singleton.mp hq
    subst e_
    exact ⟨h', yfr_sm K_.2.2.2 hs K_.1 (ywa_s fhs_w List.mem_cons_self), ⟨fun a_ j_ => yfr_bp K_.2.2.2 (fun q_ hq => absurd hq List.not_mem_nil), G_⟩⟩
  · cases hq
-- rhs: 1 steps, 0 ends, 1 returns
def rhs_L : List (Nat × Nat × Nat) := [(1001, 20, 13)]
def rhs_O : yO := []
def rhs_A : yA := (yZ rhs_L, [], [], [], [])
def rhs_C : List xB := []
def rhs_ss : List yS := []
def rhs_rs : List yR := [(none, [], [], [])]
theorem rhs_w : ywa rhs_A rhs_ss rhs_rs = true := by decide +kernel
theorem rhs_k : yis (yev rhs_A 3000 60 156 [] (18, [(0, .index 338), (1, .arg 1), (2, .arg 2), (3, .index 1001)], [], rhs_O, rhs_C, [])) rhs_ss rhs_rs = true := by decide +kernel
def rhs_r (v1_ v2 : Int32) (k_ : Nat) : Value := bif Nat.beq k_ 1 then .int v1_ else (bif Nat.beq k_ 2 then .int v2 else (.int 0))
def rhs_s (a1001 : Nat) (n_ : Nat) : Nat := bif Nat.beq n_ 1001 then a1001 else (0)
theorem rhs {h_ : xH} {a1001 : Nat} {v1_ v2 : Int32} (hs : sHp h_) (k1001 : bcq h_ a1001 20 13) : ∃ h', ysm h_ h' ∧ (((∀ a_ j_ : Nat, bpat h' a_ j_ = bpat h_ a_ j_) ∧ (∀ D_, 60 ≤ D_ → xrun D_ 156 18 [(0, .index 338), (1, .int v1_), (2, .int v2), (3, .index a1001)] [] h_ (none, h', [])))) := by
  have hA : yas rhs_A (rhs_r v1_ v2) (yg (rhs_s a1001)) := ⟨fun q_ hq => absurd hq List.not_mem_nil, fun q_ hq => absurd hq List.not_mem_nil, fun q_ hq => absurd hq List.not_mem_nil, fun n_ hn => yg_lo hn, fun q_ hq => absurd hq List.not_mem_nil⟩
  have Hs : ysh rhs_A.1 (yg (rhs_s a1001)) h_ := ysh_of2 hs (List.forall_mem_cons.mpr ⟨⟨by decide, k1001⟩, fun q_ hq => absurd hq List.not_mem_nil⟩)
  have Ho : ymem (rhs_r v1_ v2) (yg (rhs_s a1001)) rhs_O h_ := fun q_ hq => absurd hq List.not_mem_nil
  have HC : ∀ q_ ∈ rhs_C, xhold (rhs_r v1_ v2) q_ := fun q_ hq => absurd hq List.not_mem_nil
  rcases yrun (yis_ok rhs_k) hA Hs Ho HC with ⟨q_, hq, h', K_, G_⟩ | ⟨q_, hq, h', K_, G_⟩
  · cases hq
  · have e_ := List.mem_singleton.mp hq
    subst e_
    exact ⟨h', yfr_sm K_.2.2.2 hs K_.1 (ywa_r rhs_w List.mem_cons_self), ⟨fun a_ j_ => yfr_bp K_.2.2.2 (fun q_ hq => absurd hq List.not_mem_nil), G_⟩⟩
