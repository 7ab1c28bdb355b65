-- ===== what is told of a row
def tldF (l : List Int32) (i_ : Int32) : Int32 := if i_.toInt = -1 then Int32.ofNat l.length else if 0 ≤ i_.toInt ∧ i_.toInt < l.length then l.getD i_.toInt.toNat 0 else Int32.ofInt (-1000001)
theorem im1_ : (Int32.ofInt (-1)).toInt = -1 := rfl
theorem tld_a {l : List Int32} {i_ : Int32} (h_ : i_.toInt = -1) : tldF l i_ = Int32.ofNat l.length := if_pos h_
theorem tld_b {l : List Int32} {i_ : Int32} (h_ : 0 ≤ i_.toInt ∧ i_.toInt < l.length) : tldF l i_ = l.getD i_.toInt.toNat 0 := (if_neg (by omega)).trans (if_pos h_)
theorem tld_c {l : List Int32} {i_ : Int32} (h1 : ¬ i_.toInt = -1) (h_ : ¬ (0 ≤ i_.toInt ∧ i_.toInt < l.length)) : tldF l i_ = Int32.ofInt (-1000001) := (if_neg h1).trans (if_neg h_)
theorem getD_a {l : List Int32} {j_ : Nat} (h_ : j_ < l.length) : l[j_]? = some (l.getD j_ 0) := by
  rw [List.getD_eq_getElem?_getD, List.getElem?_eq_getElem h_]
  rfl
-- xsoA: 6 steps, 0 ends, 1 returns
def xsoA_L : List (Nat × Nat × Nat) := [(1000, 6, 2)]
def xsoA_O : yO := [(1000, .int 1, .arg 300)]
def xsoA_A : yA := (yZ xsoA_L, [], [], [], [])
def xsoA_C : List xB := [(.eq, .arg 2, .int (Int32.ofInt (-1)), true)]
def xsoA_ss : List yS := []
def xsoA_rs : List yR := [(some (.arg 300), [(1000, .int 1, .arg 300)], [(.eq, .arg 2, .int (Int32.ofInt (-1)), true)], [])]
theorem xsoA_w : ywa xsoA_A xsoA_ss xsoA_rs = true := by decide +kernel
theorem xsoA_k : yis (yev xsoA_A 3000 60 119 [] (0, [(0, .index 0), (1, .index 1000), (2, .arg 2)], [], xsoA_O, xsoA_C, [])) xsoA_ss xsoA_rs = true := by decide +kernel
def xsoA_r (v2 v300 : Int32) (k_ : Nat) : Value := bif Nat.beq k_ 2 then .int v2 else (bif Nat.beq k_ 300 then .int v300 else (.int 0))
def xsoA_s (a1000 : Nat) (n_ : Nat) : Nat := bif Nat.beq n_ 1000 then a1000 else (0)
theorem xsoA {h_ : xH} {a1000 : Nat} {v2 v300 : Int32} (hs : sHp h_) (k1000 : bcq h_ a1000 6 2) (o0_ : bpat h_ a1000 1 = some (.int v300)) (c0_ : v2 = (Int32.ofInt (-1))) : ∃ h', ysm h_ h' ∧ (((∀ a_ j_ : Nat, bpat h' a_ j_ = bpat h_ a_ j_) ∧ (∀ D_, 60 ≤ D_ → xrun D_ 119 0 [(0, .index 0), (1, .index a1000), (2, .int v2)] [] h_ (some (.int v300), h', [])))) := by
  have hA : yas xsoA_A (xsoA_r v2 v300) (yg (xsoA_s a1000)) := ⟨fun q_ hq => absurd hq List.not_mem_nil, fun q_ hq => absurd hq List.not_mem_nil, fun q_ hq => absurd hq List.not_mem_nil, fun n_ hn => yg_lo hn, fun q_ hq => absurd hq List.not_mem_nil⟩
  have Hs : ysh xsoA_A.1 (yg (xsoA_s a1000)) h_ := ysh_of2 hs (List.forall_mem_cons.mpr ⟨⟨by decide, k1000⟩, fun q_ hq => absurd hq List.not_mem_nil⟩)
  have Ho : ymem (xsoA_r v2 v300) (yg (xsoA_s a1000)) xsoA_O h_ := List.forall_mem_cons.mpr ⟨bpat_some o0_, fun q_ hq => absurd hq List.not_mem_nil⟩
  have HC : ∀ q_ ∈ xsoA_C, xhold (xsoA_r v2 v300) q_ := List.forall_mem_cons.mpr ⟨xh_eqT2 c0_, fun q_ hq => absurd hq List.not_mem_nil⟩
  rcases yrun (yis_ok xsoA_k) hA Hs Ho HC with ⟨q_, hq, h', K_, G_⟩ | ⟨q_, hq, h', K_, G_⟩
  · cases hq
  · have e_ := List.mem_singleton.mp hq
    subst e_
    exact ⟨h', yfr_sm K_.2.2.2 hs K_.1 (ywa_r xsoA_w List.mem_cons_self), ⟨fun a_ j_ => yfr_bp K_.2.2.2 (fun q_ hq => absurd hq List.not_mem_nil), G_⟩⟩
-- xsoB: 15 steps, 0 ends, 1 returns
def xsoB_L : List (Nat × Nat × Nat) := [(1000, 6, 2), (1001, 20, 12)]
def xsoB_O : yO := [(1000, .int 1, .arg 300), (1000, .int 0, .index 1001), (1001, .arg 2, .arg 301)]
def xsoB_A : yA := (yZ xsoB_L, [(.arg 2, 12)], [], [], [])
def xsoB_C : List xB := [(.lt, .arg 2, .arg 300, true), (.lt, .arg 2, .int (Int32.ofInt (-1)), false), (.eq, .arg 2, .int (Int32.ofInt (-1)), false)]
def xsoB_ss : List yS := []
def xsoB_rs : List yR := [(some (.arg 301), [(1000, .int 1, .arg 300), (1000, .int 0, .index 1001), (1001, .arg 2, .arg 301)], [(.lt, .arg 2, .arg 300, true), (.lt, .arg 2, .int (Int32.ofInt (-1)), false), (.eq, .arg 2, .int (Int32.ofInt (-1)), false)], [])]
theorem xsoB_w : ywa xsoB_A xsoB_ss xsoB_rs = true := by decide +kernel
theorem xsoB_k : yis (yev xsoB_A 3000 60 119 [] (0, [(0, .index 0), (1, .index 1000), (2, .arg 2)], [], xsoB_O, xsoB_C, [])) xsoB_ss xsoB_rs = true := by decide +kernel
def xsoB_r (v2 v300 v301 : Int32) (k_ : Nat) : Value := bif Nat.beq k_ 2 then .int v2 else (bif Nat.beq k_ 300 then .int v300 else (bif Nat.beq k_ 301 then .int v301 else (.int 0)))
def xsoB_s (a1000 a1001 : Nat) (n_ : Nat) : Nat := bif Nat.beq n_ 1000 then a1000 else (bif Nat.beq n_ 1001 then a1001 else (0))
theorem xsoB {h_ : xH} {a1000 a1001 : Nat} {v2 v300 v301 : Int32} (hs : sHp h_) (k1000 : bcq h_ a1000 6 2) (k1001 : bcq h_ a1001 20 12) (o0_ : bpat h_ a1000 1 = some (.int v300)) (o1 : bpat h_ a1000 0 = some (.index a1001)) (o2 : bpat h_ a1001 (v2).toInt.toNat = some (.int v301)) (b0 : 0 ≤ (v2).toInt ∧ (v2).toInt < 12) (c0_ : v2.toInt < v300.toInt) (c1_ : (Int32.ofInt (-1)).toInt ≤ v2.toInt) (c2_ : ¬ v2 = (Int32.ofInt (-1))) : ∃ h', ysm h_ h' ∧ (((∀ a_ j_ : Nat, bpat h' a_ j_ = bpat h_ a_ j_) ∧ (∀ D_, 60 ≤ D_ → xrun D_ 119 0 [(0, .index 0), (1, .index a1000), (2, .int v2)] [] h_ (some (.int v301), h', [])))) := by
  have hA : yas xsoB_A (xsoB_r v2 v300 v301) (yg (xsoB_s a1000 a1001)) := ⟨List.forall_mem_cons.mpr ⟨b0, fun q_ hq => absurd hq List.not_mem_nil⟩, fun q_ hq => absurd hq List.not_mem_nil, fun q_ hq => absurd hq List.not_mem_nil, fun n_ hn => yg_lo hn, fun q_ hq => absurd hq List.not_mem_nil⟩
  have Hs : ysh xsoB_A.1 (yg (xsoB_s a1000 a1001)) h_ := ysh_of2 hs (List.forall_mem_cons.mpr ⟨⟨by decide, k1000⟩, List.forall_mem_cons.mpr ⟨⟨by decide, k1001⟩, fun q_ hq => absurd hq List.not_mem_nil⟩⟩)
  have Ho : ymem (xsoB_r v2 v300 v301) (yg (xsoB_s a1000 a1001)) xsoB_O h_ := List.forall_mem_cons.mpr ⟨bpat_some o0_, List.forall_mem_cons.mpr ⟨bpat_some o1, List.forall_mem_cons.mpr ⟨bpat_some o2, fun q_ hq => absurd hq List.not_mem_nil⟩⟩⟩
  have HC : ∀ q_ ∈ xsoB_C, xhold (xsoB_r v2 v300 v301) q_ := List.forall_mem_cons.mpr ⟨xh_ltT c0_, List.forall_mem_cons.mpr ⟨xh_ltF c1_, List.forall_mem_cons.mpr ⟨xh_eqF2 c2_, fun q_ hq => absurd hq List.not_mem_nil⟩⟩⟩
  rcases yrun (yis_ok xsoB_k) hA Hs Ho HC with ⟨q_, hq, h', K_, G_⟩ | ⟨q_, hq, h', K_, G_⟩
  · cases hq
  · have e_ := List.mem_singleton.mp hq
    subst e_
    exact ⟨h', yfr_sm K_.2.2.2 hs K_.1 (ywa_r xsoB_w List.mem_cons_self), ⟨fun a_ j_ => yfr_bp K_.2.2.2 (fun q_ hq => absurd hq List.not_mem_nil), G_⟩⟩
-- xsoC: 22 steps, 0 ends, 1 returns
def xsoC_L : List (Nat × Nat × Nat) := [(1000, 6, 2)]
def xsoC_O : yO := [(0, .int 13, .index 323), (323, .int 1, .arg 400)]
def xsoC_A : yA := (yZ xsoC_L, [], [], [], [])
def xsoC_C : List xB := [(.lt, .arg 2, .int (Int32.ofInt (-1)), true), (.eq, .arg 2, .int (Int32.ofInt (-1)), false)]
def xsoC_ss : List yS := []
def xsoC_rs : List yR := [(some (.int (Int32.ofInt (-1000001))), [(323, .int 1, .add (.arg 400) (.int 1)), (0, .int 13, .index 323)], [(.lt, .arg 2, .int (Int32.ofInt (-1)), true), (.eq, .arg 2, .int (Int32.ofInt (-1)), false)], [(323, .int 1)])]
theorem xsoC_w : ywa xsoC_A xsoC_ss xsoC_rs = true := by decide +kernel
theorem xsoC_k : yis (yev xsoC_A 3000 60 119 [] (0, [(0, .index 0), (1, .index 1000), (2, .arg 2)], [], xsoC_O, xsoC_C, [])) xsoC_ss xsoC_rs = true := by decide +kernel
def xsoC_r (v2 v400 : Int32) (k_ : Nat) : Value := bif Nat.beq k_ 2 then .int v2 else (bif Nat.beq k_ 400 then .int v400 else (.int 0))
def xsoC_s (a1000 : Nat) (n_ : Nat) : Nat := bif Nat.beq n_ 1000 then a1000 else (0)
theorem xsoC {h_ : xH} {a1000 : Nat} {v2 v400 : Int32} (hs : sHp h_) (k1000 : bcq h_ a1000 6 2) (o0_ : bpat h_ 323 1 = some (.int v400)) (c0_ : v2.toInt < (Int32.ofInt (-1)).toInt) (c1_ : ¬ v2 = (Int32.ofInt (-1))) : ∃ h', ysm h_ h' ∧ (((bpat h' 323 1 = some (.int (v400 + (1 : Int32)))) ∧ (∀ a_ j_ : Nat, ¬ (a_ = 323 ∧ j_ = 1) → bpat h' a_ j_ = bpat h_ a_ j_) ∧ (∀ D_, 60 ≤ D_ → xrun D_ 119 0 [(0, .index 0), (1, .index a1000), (2, .int v2)] [] h_ (some (.int (Int32.ofInt (-1000001))), h', [])))) := by
  have hA : yas xsoC_A (xsoC_r v2 v400) (yg (xsoC_s a1000)) := ⟨fun q_ hq => absurd hq List.not_mem_nil, fun q_ hq => absurd hq List.not_mem_nil, fun q_ hq => absurd hq List.not_mem_nil, fun n_ hn => yg_lo hn, fun q_ hq => absurd hq List.not_mem_nil⟩
  have Hs : ysh xsoC_A.1 (yg (xsoC_s a1000)) h_ := ysh_of2 hs (List.forall_mem_cons.mpr ⟨⟨by decide, k1000⟩, fun q_ hq => absurd hq List.not_mem_nil⟩)
  have Ho : ymem (xsoC_r v2 v400) (yg (xsoC_s a1000)) xsoC_O h_ := List.forall_mem_cons.mpr ⟨bpat_some (fxr_at hs.2 (show fxk fxl 0 13 = some 323 by decide +kernel)), List.forall_mem_cons.mpr ⟨bpat_some o0_, fun q_ hq => absurd hq List.not_mem_nil⟩⟩
  have HC : ∀ q_ ∈ xsoC_C, xhold (xsoC_r v2 v400) q_ := List.forall_mem_cons.mpr ⟨xh_ltT c0_, List.forall_mem_cons.mpr ⟨xh_eqF2 c1_, fun q_ hq => absurd hq List.not_mem_nil⟩⟩
  rcases yrun (yis_ok xsoC_k) hA Hs Ho HC with ⟨q_, hq, h', K_, G_⟩ | ⟨q_, hq, h', K_, G_⟩
  · cases hq
  · have e_ := List.mem_singleton.mp hq
    subst e_
    exact ⟨h', yfr_sm K_.2.2.2 hs K_.1 (ywa_r xsoC_w List.mem_cons_self), ⟨bpat_of (K_.2.1 _ List.mem_cons_self), fun a_ j_ n0_ => yfr_bp K_.2.2.2 (List.forall_mem_cons.mpr ⟨fun e_ => n0_ ⟨e_.1.symm, e_.2.symm⟩, fun q_ hq => absurd hq List.not_mem_nil⟩), G_⟩⟩
-- xsoD: 26 steps, 0 ends, 1 returns
def xsoD_L : List (Nat × Nat × Nat) := [(1000, 6, 2)]
def xsoD_O : yO := [(1000, .int 1, .arg 300), (0, .int 13, .index 323), (323, .int 1, .arg 400)]
def xsoD_A : yA := (yZ xsoD_L, [], [], [], [])
def xsoD_C : List xB := [(.lt, .arg 2, .arg 300, false), (.lt, .arg 2, .int (Int32.ofInt (-1)), false), (.eq, .arg 2, .int (Int32.ofInt (-1)), false)]
def xsoD_ss : List yS := []
def xsoD_rs : List yR := [(some (.int (Int32.ofInt (-1000001))), [(323, .int 1, .add (.arg 400) (.int 1)), (1000, .int 1, .arg 300), (0, .int 13, .index 323)], [(.lt, .arg 2, .arg 300, false), (.lt, .arg 2, .int (Int32.ofInt (-1)), false), (.eq, .arg 2, .int (Int32.ofInt (-1)), false)], [(323, .int 1)])]
theorem xsoD_w : ywa xsoD_A xsoD_ss xsoD_rs = true := by decide +kernel
theorem xsoD_k : yis (yev xsoD_A 3000 60 119 [] (0, [(0, .index 0), (1, .index 1000), (2, .arg 2)], [], xsoD_O, xsoD_C, [])) xsoD_ss xsoD_rs = true := by decide +kernel
def xsoD_r (v2 v300 v400 : Int32) (k_ : Nat) : Value := bif Nat.beq k_ 2 then .int v2 else (bif Nat.beq k_ 300 then .int v300 else (bif Nat.beq k_ 400 then .int v400 else (.int 0)))
def xsoD_s (a1000 : Nat) (n_ : Nat) : Nat := bif Nat.beq n_ 1000 then a1000 else (0)
theorem xsoD {h_ : xH} {a1000 : Nat} {v2 v300 v400 : Int32} (hs : sHp h_) (k1000 : bcq h_ a1000 6 2) (o0_ : bpat h_ a1000 1 = some (.int v300)) (o1 : bpat h_ 323 1 = some (.int v400)) (c0_ : v300.toInt ≤ v2.toInt) (c1_ : (Int32.ofInt (-1)).toInt ≤ v2.toInt) (c2_ : ¬ v2 = (Int32.ofInt (-1))) : ∃ h', ysm h_ h' ∧ (((bpat h' 323 1 = some (.int (v400 + (1 : Int32)))) ∧ (∀ a_ j_ : Nat, ¬ (a_ = 323 ∧ j_ = 1) → bpat h' a_ j_ = bpat h_ a_ j_) ∧ (∀ D_, 60 ≤ D_ → xrun D_ 119 0 [(0, .index 0), (1, .index a1000), (2, .int v2)] [] h_ (some (.int (Int32.ofInt (-1000001))), h', [])))) := by
  have hA : yas xsoD_A (xsoD_r v2 v300 v400) (yg (xsoD_s a1000)) := ⟨fun q_ hq => absurd hq List.not_mem_nil, fun q_ hq => absurd hq List.not_mem_nil, fun q_ hq => absurd hq List.not_mem_nil, fun n_ hn => yg_lo hn, fun q_ hq => absurd hq List.not_mem_nil⟩
  have Hs : ysh xsoD_A.1 (yg (xsoD_s a1000)) h_ := ysh_of2 hs (List.forall_mem_cons.mpr ⟨⟨by decide, k1000⟩, fun q_ hq => absurd hq List.not_mem_nil⟩)
  have Ho : ymem (xsoD_r v2 v300 v400) (yg (xsoD_s a1000)) xsoD_O h_ := List.forall_mem_cons.mpr ⟨bpat_some o0_, List.forall_mem_cons.mpr ⟨bpat_some (fxr_at hs.2 (show fxk fxl 0 13 = some 323 by decide +kernel)), List.forall_mem_cons.mpr ⟨bpat_some o1, fun q_ hq => absurd hq List.not_mem_nil⟩⟩⟩
  have HC : ∀ q_ ∈ xsoD_C, xhold (xsoD_r v2 v300 v400) q_ := List.forall_mem_cons.mpr ⟨xh_ltF c0_, List.forall_mem_cons.mpr ⟨xh_ltF c1_, List.forall_mem_cons.mpr ⟨xh_eqF2 c2_, fun q_ hq => absurd hq List.not_mem_nil⟩⟩⟩
  rcases yrun (yis_ok xsoD_k) hA Hs Ho HC with ⟨q_, hq, h', K_, G_⟩ | ⟨q_, hq, h', K_, G_⟩
  · cases hq
  · have e_ := List.mem_singleton.mp hq
    subst e_
    exact ⟨h', yfr_sm K_.2.2.2 hs K_.1 (ywa_r xsoD_w List.mem_cons_self), ⟨bpat_of (K_.2.1 _ List.mem_cons_self), fun a_ j_ n0_ => yfr_bp K_.2.2.2 (List.forall_mem_cons.mpr ⟨fun e_ => n0_ ⟨e_.1.symm, e_.2.symm⟩, fun q_ hq => absurd hq List.not_mem_nil⟩), G_⟩⟩
-- mtoA: 8 steps, 0 ends, 1 returns
def mtoA_L : List (Nat × Nat × Nat) := [(1000, 20, 13)]
def mtoA_O : yO := [(1000, .int 0, .arg 300)]
def mtoA_A : yA := (yZ mtoA_L, [], [], [], [])
def mtoA_C : List xB := [(.eq, .arg 2, .int (Int32.ofInt (-1)), true)]
def mtoA_ss : List yS := []
def mtoA_rs : List yR := [(some (.arg 300), [(1000, .int 0, .arg 300)], [(.eq, .arg 2, .int (Int32.ofInt (-1)), true)], [])]
theorem mtoA_w : ywa mtoA_A mtoA_ss mtoA_rs = true := by decide +kernel
theorem mtoA_k : yis (yev mtoA_A 3000 60 161 [] (0, [(0, .index 338), (1, .index 1000), (2, .arg 2)], [], mtoA_O, mtoA_C, [])) mtoA_ss mtoA_rs = true := by decide +kernel
def mtoA_r (v2 v300 : Int32) (k_ : Nat) : Value := bif Nat.beq k_ 2 then .int v2 else (bif Nat.beq k_ 300 then .int v300 else (.int 0))
def mtoA_s (a1000 : Nat) (n_ : Nat) : Nat := bif Nat.beq n_ 1000 then a1000 else (0)
theorem mtoA {h_ : xH} {a1000 : Nat} {v2 v300 : Int32} (hs : sHp h_) (k1000 : bcq h_ a1000 20 13) (o0_ : bpat h_ a1000 0 = some (.int v300)) (c0_ : v2 = (Int32.ofInt (-1))) : ∃ h', ysm h_ h' ∧ (((∀ a_ j_ : Nat, bpat h' a_ j_ = bpat h_ a_ j_) ∧ (∀ D_, 60 ≤ D_ → xrun D_ 161 0 [(0, .index 338), (1, .index a1000), (2, .int v2)] [] h_ (some (.int v300), h', [])))) := by
  have hA : yas mtoA_A (mtoA_r v2 v300) (yg (mtoA_s a1000)) := ⟨fun q_ hq => absurd hq List.not_mem_nil, fun q_ hq => absurd hq List.not_mem_nil, fun q_ hq => absurd hq List.not_mem_nil, fun n_ hn => yg_lo hn, fun q_ hq => absurd hq List.not_mem_nil⟩
  have Hs : ysh mtoA_A.1 (yg (mtoA_s a1000)) h_ := ysh_of2 hs (List.forall_mem_cons.mpr ⟨⟨by decide, k1000⟩, fun q_ hq => absurd hq List.not_mem_nil⟩)
  have Ho : ymem (mtoA_r v2 v300) (yg (mtoA_s a1000)) mtoA_O h_ := List.forall_mem_cons.mpr ⟨bpat_some o0_, fun q_ hq => absurd hq List.not_mem_nil⟩
  have HC : ∀ q_ ∈ mtoA_C, xhold (mtoA_r v2 v300) q_ := List.forall_mem_cons.mpr ⟨xh_eqT2 c0_, fun q_ hq => absurd hq List.not_mem_nil⟩
  rcases yrun (yis_ok mtoA_k) hA Hs Ho HC with ⟨q_, hq, h', K_, G_⟩ | ⟨q_, hq, h', K_, G_⟩
  · cases hq
  · have e_ := List.mem_singleton.mp hq
    subst e_
    exact ⟨h', yfr_sm K_.2.2.2 hs K_.1 (ywa_r mtoA_w List.mem_cons_self), ⟨fun a_ j_ => yfr_bp K_.2.2.2 (fun q_ hq => absurd hq List.not_mem_nil), G_⟩⟩
-- mtoB: 28 steps, 0 ends, 1 returns
def mtoB_L : List (Nat × Nat × Nat) := [(1000, 20, 13)]
def mtoB_O : yO := [(1000, .int 0, .arg 300), (1000, .add (.int 1) (.arg 2), .arg 301)]
def mtoB_A : yA := (yZ mtoB_L, [(.add (.int 1) (.arg 2), 13)], [], [], [])
def mtoB_C : List xB := [(.le, .arg 2, .sub (.arg 300) (.int 1), true), (.lt, .arg 2, .int 0, false), (.eq, .arg 2, .int (Int32.ofInt (-1)), false)]
def mtoB_ss : List yS := []
def mtoB_rs : List yR := [(some (.arg 301), [(1000, .int 0, .arg 300), (1000, .add (.int 1) (.arg 2), .arg 301)], [(.le, .arg 2, .sub (.arg 300) (.int 1), true), (.lt, .arg 2, .int 0, false), (.eq, .arg 2, .int (Int32.ofInt (-1)), false)], [])]
theorem mtoB_w : ywa mtoB_A mtoB_ss mtoB_rs = true := by decide +kernel
theorem mtoB_k : yis (yev mtoB_A 3000 60 161 [] (0, [(0, .index 338), (1, .index 1000), (2, .arg 2)], [], mtoB_O, mtoB_C, [])) mtoB_ss mtoB_rs = true := by decide +kernel
def mtoB_r (v2 v300 v301 : Int32) (k_ : Nat) : Value := bif Nat.beq k_ 2 then .int v2 else (bif Nat.beq k_ 300 then .int v300 else (bif Nat.beq k_ 301 then .int v301 else (.int 0)))
def mtoB_s (a1000 : Nat) (n_ : Nat) : Nat := bif Nat.beq n_ 1000 then a1000 else (0)
theorem mtoB {h_ : xH} {a1000 : Nat} {v2 v300 v301 : Int32} (hs : sHp h_) (k1000 : bcq h_ a1000 20 13) (o0_ : bpat h_ a1000 0 = some (.int v300)) (o1 : bpat h_ a1000 (((1 : Int32) + v2)).toInt.toNat = some (.int v301)) (b0 : 0 ≤ (((1 : Int32) + v2)).toInt ∧ (((1 : Int32) + v2)).toInt < 13) (c0_ : v2.toInt ≤ (v300 - (1 : Int32)).toInt) (c1_ : (0 : Int32).toInt ≤ v2.toInt) (c2_ : ¬ v2 = (Int32.ofInt (-1))) : ∃ h', ysm h_ h' ∧ (((∀ a_ j_ : Nat, bpat h' a_ j_ = bpat h_ a_ j_) ∧ (∀ D_, 60 ≤ D_ → xrun D_ 161 0 [(0, .index 338), (1, .index a1000), (2, .int v2)] [] h_ (some (.int v301), h', [])))) := by
  have hA : yas mtoB_A (mtoB_r v2 v300 v301) (yg (mtoB_s a1000)) := ⟨List.forall_mem_cons.mpr ⟨b0, fun q_ hq => absurd hq List.not_mem_nil⟩, fun q_ hq => absurd hq List.not_mem_nil, fun q_ hq => absurd hq List.not_mem_nil, fun n_ hn => yg_lo hn, fun q_ hq => absurd hq List.not_mem_nil⟩
  have Hs : ysh mtoB_A.1 (yg (mtoB_s a1000)) h_ := ysh_of2 hs (List.forall_mem_cons.mpr ⟨⟨by decide, k1000⟩, fun q_ hq => absurd hq List.not_mem_nil⟩)
  have Ho : ymem (mtoB_r v2 v300 v301) (yg (mtoB_s a1000)) mtoB_O h_ := List.forall_mem_cons.mpr ⟨bpat_some o0_, List.forall_mem_cons.mpr ⟨bpat_some o1, fun q_ hq => absurd hq List.not_mem_nil⟩⟩
  have HC : ∀ q_ ∈ mtoB_C, xhold (mtoB_r v2 v300 v301) q_ := List.forall_mem_cons.mpr ⟨xh_leT c0_, List.forall_mem_cons.mpr ⟨xh_ltF c1_, List.forall_mem_cons.mpr ⟨xh_eqF2 c2_, fun q_ hq => absurd hq List.not_mem_nil⟩⟩⟩
  rcases yrun (yis_ok mtoB_k) hA Hs Ho HC with ⟨q_, hq, h', K_, G_⟩ | ⟨q_, hq, h', K_, G_⟩
  · cases hq
  · have e_ := List.mem_singleton.mp hq
    subst e_
    exact ⟨h', yfr_sm K_.2.2.2 hs K_.1 (ywa_r mtoB_w List.mem_cons_self), ⟨fun a_ j_ => yfr_bp K_.2.2.2 (fun q_ hq => absurd hq List.not_mem_nil), G_⟩⟩
-- mtoC: 33 steps, 0 ends, 1 returns
def mtoC_L : List (Nat × Nat × Nat) := [(1000, 20, 13)]
def mtoC_O : yO := [(1000, .int 0, .arg 300), (338, .int 3, .index 341), (341, .int 1, .arg 400)]
def mtoC_A : yA := (yZ mtoC_L, [], [], [], [])
def mtoC_C : List xB := [(.lt, .arg 2, .int 0, true), (.eq, .arg 2, .int (Int32.ofInt (-1)), false)]
def mtoC_ss : List yS := []
def mtoC_rs : List yR := [(some (.int (Int32.ofInt (-1000001))), [(341, .int 1, .add (.arg 400) (.int 1)), (1000, .int 0, .arg 300), (338, .int 3, .index 341)], [(.lt, .arg 2, .int 0, true), (.eq, .arg 2, .int (Int32.ofInt (-1)), false)], [(341, .int 1)])]
theorem mtoC_w : ywa mtoC_A mtoC_ss mtoC_rs = true := by decide +kernel
theorem mtoC_k : yis (yev mtoC_A 3000 60 161 [] (0, [(0, .index 338), (1, .index 1000), (2, .arg 2)], [], mtoC_O, mtoC_C, [])) mtoC_ss mtoC_rs = true := by decide +kernel
def mtoC_r (v2 v300 v400 : Int32) (k_ : Nat) : Value := bif Nat.beq k_ 2 then .int v2 else (bif Nat.beq k_ 300 then .int v300 else (bif Nat.beq k_ 400 then .int v400 else (.int 0)))
def mtoC_s (a1000 : Nat) (n_ : Nat) : Nat := bif Nat.beq n_ 1000 then a1000 else (0)
theorem mtoC {h_ : xH} {a1000 : Nat} {v2 v300 v400 : Int32} (hs : sHp h_) (k1000 : bcq h_ a1000 20 13) (o0_ : bpat h_ a1000 0 = some (.int v300)) (o1 : bpat h_ 341 1 = some (.int v400)) (c0_ : v2.toInt < (0 : Int32).toInt) (c1_ : ¬ v2 = (Int32.ofInt (-1))) : ∃ h', ysm h_ h' ∧ (((bpat h' 341 1 = some (.int (v400 + (1 : Int32)))) ∧ (∀ a_ j_ : Nat, ¬ (a_ = 341 ∧ j_ = 1) → bpat h' a_ j_ = bpat h_ a_ j_) ∧ (∀ D_, 60 ≤ D_ → xrun D_ 161 0 [(0, .index 338), (1, .index a1000), (2, .int v2)] [] h_ (some (.int (Int32.ofInt (-1000001))), h', [])))) := by
  have hA : yas mtoC_A (mtoC_r v2 v300 v400) (yg (mtoC_s a1000)) := ⟨fun q_ hq => absurd hq List.not_mem_nil, fun q_ hq => absurd hq List.not_mem_nil, fun q_ hq => absurd hq List.not_mem_nil, fun n_ hn => yg_lo hn, fun q_ hq => absurd hq List.not_mem_nil⟩
  have Hs : ysh mtoC_A.1 (yg (mtoC_s a1000)) h_ := ysh_of2 hs (List.forall_mem_cons.mpr ⟨⟨by decide, k1000⟩, fun q_ hq => absurd hq List.not_mem_nil⟩)
  have Ho : ymem (mtoC_r v2 v300 v400) (yg (mtoC_s a1000)) mtoC_O h_ := List.forall_mem_cons.mpr ⟨bpat_some o0_, List.forall_mem_cons.mpr ⟨bpat_some (fxr_at hs.2 (show fxk fxl 338 3 = some 341 by decide +kernel)), List.forall_mem_cons.mpr ⟨bpat_some o1, fun q_ hq => absurd hq List.not_mem_nil⟩⟩⟩
  have HC : ∀ q_ ∈ mtoC_C, xhold (mtoC_r v2 v300 v400) q_ := List.forall_mem_cons.mpr ⟨xh_ltT c0_, List.forall_mem_cons.mpr ⟨xh_eqF2 c1_, fun q_ hq => absurd hq List.not_mem_nil⟩⟩
  rcases yrun (yis_ok mtoC_k) hA Hs Ho HC with ⟨q_, hq, h', K_, G_⟩ | ⟨q_, hq, h', K_, G_⟩
  · cases hq
  · have e_ := List.mem_singleton.mp hq
    subst e_
    exact ⟨h', yfr_sm K_.2.2.2 hs K_.1 (ywa_r mtoC_w List.mem_cons_self), ⟨bpat_of (K_.2.1 _ List.mem_cons_self), fun a_ j_ n0_ => yfr_bp K_.2.2.2 (List.forall_mem_cons.mpr ⟨fun e_ => n0_ ⟨e_.1.symm, e_.2.symm⟩, fun q_ hq => absurd hq List.not_mem_nil⟩), G_⟩⟩
-- mtoD: 36 steps, 0 ends, 1 returns
def mtoD_L : List (Nat × Nat × Nat) := [(1000, 20, 13)]
def mtoD_O : yO := [(1000, .int 0, .arg 300), (338, .int 3, .index 341), (341, .int 1, .arg 400)]
def mtoD_A : yA := (yZ mtoD_L, [], [], [], [])
def mtoD_C : List xB := [(.le, .arg 2, .sub (.arg 300) (.int 1), false), (.lt, .arg 2, .int 0, false), (.eq, .arg 2, .int (Int32.ofInt (-1)), false)]
def mtoD_ss : List yS := []
def mtoD_rs : List yR := [(some (.int (Int32.ofInt (-1000001))), [(341, .int 1, .add (.arg 400) (.int 1)), (1000, .int 0, .arg 300), (338, .int 3, .index 341)], [(.le, .arg 2, .sub (.arg 300) (.int 1), false), (.lt, .arg 2, .int 0, false), (.eq, .arg 2, .int (Int32.ofInt (-1)), false)], [(341, .int 1)])]
theorem mtoD_w : ywa mtoD_A mtoD_ss mtoD_rs = true := by decide +kernel
theorem mtoD_k : yis (yev mtoD_A 3000 60 161 [] (0, [(0, .index 338), (1, .index 1000), (2, .arg 2)], [], mtoD_O, mtoD_C, [])) mtoD_ss mtoD_rs = true := by decide +kernel
def mtoD_r (v2 v300 v400 : Int32) (k_ : Nat) : Value := bif Nat.beq k_ 2 then .int v2 else (bif Nat.beq k_ 300 then .int v300 else (bif Nat.beq k_ 400 then .int v400 else (.int 0)))
def mtoD_s (a1000 : Nat) (n_ : Nat) : Nat := bif Nat.beq n_ 1000 then a1000 else (0)
theorem mtoD {h_ : xH} {a1000 : Nat} {v2 v300 v400 : Int32} (hs : sHp h_) (k1000 : bcq h_ a1000 20 13) (o0_ : bpat h_ a1000 0 = some (.int v300)) (o1 : bpat h_ 341 1 = some (.int v400)) (c0_ : (v300 - (1 : Int32)).toInt < v2.toInt) (c1_ : (0 : Int32).toInt ≤ v2.toInt) (c2_ : ¬ v2 = (Int32.ofInt (-1))) : ∃ h', ysm h_ h' ∧ (((bpat h' 341 1 = some (.int (v400 + (1 : Int32)))) ∧ (∀ a_ j_ : Nat, ¬ (a_ = 341 ∧ j_ = 1) → bpat h' a_ j_ = bpat h_ a_ j_) ∧ (∀ D_, 60 ≤ D_ → xrun D_ 161 0 [(0, .index 338), (1, .index a1000), (2, .int v2)] [] h_ (some (.int (Int32.ofInt (-1000001))), h', [])))) := by
  have hA : yas mtoD_A (mtoD_r v2 v300 v400) (yg (mtoD_s a1000)) := ⟨fun q_ hq => absurd hq List.not_mem_nil, fun q_ hq => absurd hq List.not_mem_nil, fun q_ hq => absurd hq List.not_mem_nil, fun n_ hn => yg_lo hn, fun q_ hq => absurd hq List.not_mem_nil⟩
  have Hs : ysh mtoD_A.1 (yg (mtoD_s a1000)) h_ := ysh_of2 hs (List.forall_mem_cons.mpr ⟨⟨by decide, k1000⟩, fun q_ hq => absurd hq List.not_mem_nil⟩)
  have Ho : ymem (mtoD_r v2 v300 v400) (yg (mtoD_s a1000)) mtoD_O h_ := List.forall_mem_cons.mpr ⟨bpat_some o0_, List.forall_mem_cons.mpr ⟨bpat_some (fxr_at hs.2 (show fxk fxl 338 3 = some 341 by decide +kernel)), List.forall_mem_cons.mpr ⟨bpat_some o1, fun q_ hq => absurd hq List.not_mem_nil⟩⟩⟩
  have HC : ∀ q_ ∈ mtoD_C, xhold (mtoD_r v2 v300 v400) q_ := List.forall_mem_cons.mpr ⟨xh_leF c0_, List.forall_mem_cons.mpr ⟨xh_ltF c1_, List.forall_mem_cons.mpr ⟨xh_eqF2 c2_, fun q_ hq => absurd hq List.not_mem_nil⟩⟩⟩
  rcases yrun (yis_ok mtoD_k) hA Hs Ho HC with ⟨q_, hq, h', K_, G_⟩ | ⟨q_, hq, h', K_, G_⟩
  · cases hq
  · have e_ := List.mem_singleton.mp hq
    subst e_
    exact ⟨h', yfr_sm K_.2.2.2 hs K_.1 (ywa_r mtoD_w List.mem_cons_self), ⟨bpat_of (K_.2.1 _ List.mem_cons_self), fun a_ j_ n0_ => yfr_bp K_.2.2.2 (List.forall_mem_cons.mpr ⟨fun e_ => n0_ ⟨e_.1.symm, e_.2.symm⟩, fun q_ hq => absurd hq List.not_mem_nil⟩), G_⟩⟩
-- xsfE: 52 steps, 1 ends, 2 returns
def xsfE_L : List (Nat × Nat × Nat) := []
def xsfE_O : yO := [(0, .int 0, .index 1), (1, .int 9, .arg 310), (0, .int 13, .index 323), (323, .int 1, .arg 400)]
def xsfE_A : yA := (yZ xsfE_L, [], [], [], [])
def xsfE_C : List xB := []
def xsfE_ss : List yS := [(14, [(0, .index 0), (1, .arg 1), (2, .arg 2)], [], [(0, .int 0, .index 1), (1, .int 9, .arg 310), (0, .int 13, .index 323), (323, .int 1, .arg 400)], [(.lt, .arg 1, .arg 310, true), (.lt, .arg 1, .int 0, false)], [])]
def xsfE_rs : List yR := [(some (.int (Int32.ofInt (-1000001))), [(323, .int 1, .add (.arg 400) (.int 1)), (0, .int 0, .index 1), (1, .int 9, .arg 310), (0, .int 13, .index 323)], [(.lt, .arg 1, .int 0, true)], [(323, .int 1)]),
  (some (.int (Int32.ofInt (-1000001))), [(323, .int 1, .add (.arg 400) (.int 1)), (0, .int 0, .index 1), (1, .int 9, .arg 310), (0, .int 13, .index 323)], [(.lt, .arg 1, .arg 310, false), (.lt, .arg 1, .int 0, false)], [(323, .int 1)])]
theorem xsfE_w : ywa xsfE_A xsfE_ss xsfE_rs = true := by decide +kernel
theorem xsfE_k : yis (yev xsfE_A 3000 60 76 [14] (0, [(0, .index 0), (1, .arg 1), (2, .arg 2)], [], xsfE_O, xsfE_C, [])) xsfE_ss xsfE_rs = true := by decide +kernel
def xsfE_r (v1_ v2 v310 v400 : Int32) (k_ : Nat) : Value := bif Nat.beq k_ 1 then .int v1_ else (bif Nat.beq k_ 2 then .int v2 else (bif Nat.beq k_ 310 then .int v310 else (bif Nat.beq k_ 400 then .int v400 else (.int 0))))
def xsfE_s (n_ : Nat) : Nat := 0
theorem xsfE {h_ : xH} {v1_ v2 v310 v400 : Int32} (hs : sHp h_) (o0_ : bpat h_ 1 9 = some (.int v310)) (o1 : bpat h_ 323 1 = some (.int v400)) : ∃ h', ysm h_ h' ∧ (((v1_.toInt < v310.toInt) ∧ ((0 : Int32).toInt ≤ v1_.toInt) ∧ (∀ a_ j_ : Nat, bpat h' a_ j_ = bpat h_ a_ j_) ∧ (bldD 60 76 0 [(0, .index 0), (1, .int v1_), (2, .int v2)] [] h_ 14 [(0, .index 0), (1, .int v1_), (2, .int v2)] [] h'))
  ∨ ((v1_.toInt < (0 : Int32).toInt) ∧ (bpat h' 323 1 = some (.int (v400 + (1 : Int32)))) ∧ (∀ a_ j_ : Nat, ¬ (a_ = 323 ∧ j_ = 1) → bpat h' a_ j_ = bpat h_ a_ j_) ∧ (∀ D_, 60 ≤ D_ → xrun D_ 76 0 [(0, .index 0), (1, .int v1_), (2, .int v2)] [] h_ (some (.int (Int32.ofInt (-1000001))), h', [])))
  ∨ ((v310.toInt ≤ v1_.toInt) ∧ ((0 : Int32).toInt ≤ v1_.toInt) ∧ (bpat h' 323 1 = some (.int (v400 + (1 : Int32)))) ∧ (∀ a_ j_ : Nat, ¬ (a_ = 323 ∧ j_ = 1) → bpat h' a_ j_ = bpat h_ a_ j_) ∧ (∀ D_, 60 ≤ D_ → xrun D_ 76 0 [(0, .index 0), (1, .int v1_), (2, .int v2)] [] h_ (some (.int (Int32.ofInt (-1000001))), h', [])))) := by
  have hA : yas xsfE_A (xsfE_r v1_ v2 v310 v400) (yg xsfE_s) := ⟨fun q_ hq => absurd hq List.not_mem_nil, fun q_ hq => absurd hq List.not_mem_nil, fun q_ hq => absurd hq List.not_mem_nil, fun n_ hn => yg_lo hn, fun q_ hq => absurd hq List.not_mem_nil⟩
  have Hs : ysh xsfE_A.1 (yg xsfE_s) h_ := ysh_of2 hs (fun q_ hq => absurd hq List.not_mem_nil)
  have Ho : ymem (xsfE_r v1_ v2 v310 v400) (yg xsfE_s) xsfE_O h_ := List.forall_mem_cons.mpr ⟨bpat_some (fxr_at hs.2 (show fxk fxl 0 0 = some 1 by decide +kernel)), List.forall_mem_cons.mpr ⟨bpat_some o0_, List.forall_mem_cons.mpr ⟨bpat_some (fxr_at hs.2 (show fxk fxl 0 13 = some 323 by decide +kernel)), List.forall_mem_cons.mpr ⟨bpat_some o1, fun q_ hq => absurd hq List.not_mem_nil⟩⟩⟩⟩
  have HC : ∀ q_ ∈ xsfE_C, xhold (xsfE_r v1_ v2 v310 v400) q_ := fun q_ hq => absurd hq List.not_mem_nil
  rcases yrun (yis_ok xsfE_k) hA Hs Ho HC with ⟨q_, hq, h', K_, G_⟩ | ⟨q_, hq, h', K_, G_⟩
  · have e_ := List.mem_singleton.mp hq
    subst e_
    exact ⟨h', yfr_sm K_.2.2.2 hs K_.1 (ywa_s xsfE_w List.mem_cons_self), Or.inl (⟨xq_ltT rfl rfl (K_.2.2.1 _ List.mem_cons_self), xq_ltF rfl rfl (K_.2.2.1 _ (List.mem_cons_of_mem _ List.mem_cons_self)), fun a_ j_ => yfr_bp K_.2.2.2 (fun q_ hq => absurd hq List.not_mem_nil), G_⟩)⟩
  · rcases List.mem_cons.mp hq with e_ | hq
    · subst e_
      exact ⟨h', yfr_sm K_.2.2.2 hs K_.1 (ywa_r xsfE_w List.mem_cons_self), Or.inr (Or.inl (⟨xq_ltT rfl rfl (K_.2.2.1 _ List.mem_cons_self), bpat_of (K_.2.1 _ List.mem_cons_self), fun a_ j_ n0_ => yfr_bp K_.2.2.2 (List.forall_mem_cons.mpr ⟨fun e_ => n0_ ⟨e_.1.symm, e_.2.symm⟩, fun q_ hq => absurd hq List.not_mem_nil⟩), G_⟩))⟩
    have e_ := List.mem_singleton.mp hq
    subst e_
    exact ⟨h', yfr_sm K_.2.2.2 hs K_.1 (ywa_r xsfE_w (List.mem_cons_of_mem _ List.mem_cons_self)), Or.inr (Or.inr (⟨xq_ltF rfl rfl (K_.2.2.1 _ List.mem_cons_self), xq_ltF rfl rfl (K_.2.2.1 _ (List.mem_cons_of_mem _ List.mem_cons_self)), bpat_of (K_.2.1 _ List.mem_cons_self), fun a_ j_ n0_ => yfr_bp K_.2.2.2 (List.forall_mem_cons.mpr ⟨fun e_ => n0_ ⟨e_.1.symm, e_.2.symm⟩, fun q_ hq => absurd hq List.not_mem_nil⟩), G_⟩))⟩
-- xsfG: 7 steps, 1 ends, 0 returns
def xsfG_L : List (Nat × Nat × Nat) := [(1000, 6, 2)]
def xsfG_O : yO := [(0, .int 0, .index 1), (1, .int 0, .index 2), (2, .arg 1, .index 1000)]
def xsfG_A : yA := (yZ xsfG_L, [(.arg 1, 12)], [], [], [])
def xsfG_C : List xB := []
def xsfG_ss : List yS := [(25, [(0, .index 0), (1, .arg 1), (2, .arg 2)], [.arg 2, .index 1000, .index 0], [(0, .int 0, .index 1), (1, .int 0, .index 2), (2, .arg 1, .index 1000)], [], [])]
def xsfG_rs : List yR := []
theorem xsfG_w : ywa xsfG_A xsfG_ss xsfG_rs = true := by decide +kernel
theorem xsfG_k : yis (yev xsfG_A 3000 60 76 [25] (14, [(0, .index 0), (1, .arg 1), (2, .arg 2)], [], xsfG_O, xsfG_C, [])) xsfG_ss xsfG_rs = true := by decide +kernel
def xsfG_r (v1_ v2 : Int32) (k_ : Nat) : Value := bif Nat.beq k_ 1 then .int v1_ else (bif Nat.beq k_ 2 then .int v2 else (.int 0))
def xsfG_s (a1000 : Nat) (n_ : Nat) : Nat := bif Nat.beq n_ 1000 then a1000 else (0)
theorem xsfG {h_ : xH} {a1000 : Nat} {v1_ v2 : Int32} (hs : sHp h_) (k1000 : bcq h_ a1000 6 2) (o0_ : bpat h_ 2 (v1_).toInt.toNat = some (.index a1000)) (b0 : 0 ≤ (v1_).toInt ∧ (v1_).toInt < 12) : ∃ h', ysm h_ h' ∧ (((∀ a_ j_ : Nat, bpat h' a_ j_ = bpat h_ a_ j_) ∧ (bldD 60 76 14 [(0, .index 0), (1, .int v1_), (2, .int v2)] [] h_ 25 [(0, .index 0), (1, .int v1_), (2, .int v2)] [.int v2, .index a1000, .index 0] h'))) := by
  have hA : yas xsfG_A (xsfG_r v1_ v2) (yg (xsfG_s a1000)) := ⟨List.forall_mem_cons.mpr ⟨b0, fun q_ hq => absurd hq List.not_mem_nil⟩, fun q_ hq => absurd hq List.not_mem_nil, fun q_ hq => absurd hq List.not_mem_nil, fun n_ hn => yg_lo hn, fun q_ hq => absurd hq List.not_mem_nil⟩
  have Hs : ysh xsfG_A.1 (yg (xsfG_s a1000)) h_ := ysh_of2 hs (List.forall_mem_cons.mpr ⟨⟨by decide, k1000⟩, fun q_ hq => absurd hq List.not_mem_nil⟩)
  have Ho : ymem (xsfG_r v1_ v2) (yg (xsfG_s a1000)) xsfG_O h_ := List.forall_mem_cons.mpr ⟨bpat_some (fxr_at hs.2 (show fxk fxl 0 0 = some 1 by decide +kernel)), List.forall_mem_cons.mpr ⟨bpat_some (fxr_at hs.2 (show fxk fxl 1 0 = some 2 by decide +kernel)), List.forall_mem_cons.mpr ⟨bpat_some o0_, fun q_ hq => absurd hq List.not_mem_nil⟩⟩⟩
  have HC : ∀ q_ ∈ xsfG_C, xhold (xsfG_r v1_ v2) q_ := fun q_ hq => absurd hq List.not_mem_nil
  rcases yrun (yis_ok xsfG_k) hA Hs Ho HC with ⟨q_, hq, h', K_, G_⟩ | ⟨q_, hq, h', K_, G_⟩
  · have e_ := List.mem_singleton.mp hq
    subst e_
    exact ⟨h', yfr_sm K_.2.2.2 hs K_.1 (ywa_s xsfG_w List.mem_cons_self), ⟨fun a_ j_ => yfr_bp K_.2.2.2 (fun q_ hq => absurd hq List.not_mem_nil), G_⟩⟩
  · cases hq
-- xsfR: 1 steps, 0 ends, 1 returns
def xsfR_L : List (Nat × Nat × Nat) := []
def xsfR_O : yO := []
def xsfR_A : yA := (yZ xsfR_L, [], [], [], [])
def xsfR_C : List xB := []
def xsfR_ss : List yS := []
def xsfR_rs : List yR := [(some (.arg 5), [], [], [])]
theorem xsfR_w : ywa xsfR_A xsfR_ss xsfR_rs = true := by decide +kernel
theorem xsfR_k : yis (yev xsfR_A 3000 60 76 [] (28, [(0, .index 0), (1, .arg 1), (2, .arg 2)], [.arg 5], xsfR_O, xsfR_C, [])) xsfR_ss xsfR_rs = true := by decide +kernel
def xsfR_r (v1_ v2 v5 : Int32) (k_ : Nat) : Value := bif Nat.beq k_ 1 then .int v1_ else (bif Nat.beq k_ 2 then .int v2 else (bif Nat.beq k_ 5 then .int v5 else (.int 0)))
def xsfR_s (n_ : Nat) : Nat := 0
theorem xsfR {h_ : xH} {v1_ v2 v5 : Int32} (hs : sHp h_) : ∃ h', ysm h_ h' ∧ (((∀ a_ j_ : Nat, bpat h' a_ j_ = bpat h_ a_ j_) ∧ (∀ D_, 60 ≤ D_ → xrun D_ 76 28 [(0, .index 0), (1, .int v1_), (2, .int v2)] [.int v5] h_ (some (.int v5), h', [])))) := by
  have hA : yas xsfR_A (xsfR_r v1_ v2 v5) (yg xsfR_s) := ⟨fun q_ hq => absurd hq List.not_mem_nil, fun q_ hq => absurd hq List.not_mem_nil, fun q_ hq => absurd hq List.not_mem_nil, fun n_ hn => yg_lo hn, fun q_ hq => absurd hq List.not_mem_nil⟩
  have Hs : ysh xsfR_A.1 (yg xsfR_s) h_ := ysh_of2 hs (fun q_ hq => absurd hq List.not_mem_nil)
  have Ho : ymem (xsfR_r v1_ v2 v5) (yg xsfR_s) xsfR_O h_ := fun q_ hq => absurd hq List.not_mem_nil
  have HC : ∀ q_ ∈ xsfR_C, xhold (xsfR_r v1_ v2 v5) q_ := fun q_ hq => absurd hq List.not_mem_nil
  rcases yrun (yis_ok xsfR_k) hA Hs Ho HC with ⟨q_, hq, h', K_, G_⟩ | ⟨q_, hq, h', K_, G_⟩
  · cases hq
  · have e_ := List.mem_singleton.mp hq
    subst e_
    exact ⟨h', yfr_sm K_.2.2.2 hs K_.1 (ywa_r xsfR_w List.mem_cons_self), ⟨fun a_ j_ => yfr_bp K_.2.2.2 (fun q_ hq => absurd hq List.not_mem_nil), G_⟩⟩
-- msfE: 63 steps, 1 ends, 2 returns
def msfE_L : List (Nat × Nat × Nat) := []
def msfE_O : yO := [(338, .int 0, .index 339), (339, .int 0, .arg 310), (338, .int 3, .index 341), (341, .int 1, .arg 400)]
def msfE_A : yA := (yZ msfE_L, [], [], [], [])
def msfE_C : List xB := []
def msfE_ss : List yS := [(14, [(0, .index 338), (1, .arg 1), (2, .arg 2)], [], [(338, .int 0, .index 339), (339, .int 0, .arg 310), (338, .int 3, .index 341), (341, .int 1, .arg 400)], [(.le, .arg 1, .sub (.arg 310) (.int 1), true), (.lt, .arg 1, .int 0, false)], [])]
def msfE_rs : List yR := [(some (.int (Int32.ofInt (-1000001))), [(341, .int 1, .add (.arg 400) (.int 1)), (338, .int 0, .index 339), (339, .int 0, .arg 310), (338, .int 3, .index 341)], [(.lt, .arg 1, .int 0, true)], [(341, .int 1)]),
  (some (.int (Int32.ofInt (-1000001))), [(341, .int 1, .add (.arg 400) (.int 1)), (338, .int 0, .index 339), (339, .int 0, .arg 310), (338, .int 3, .index 341)], [(.le, .arg 1, .sub (.arg 310) (.int 1), false), (.lt, .arg 1, .int 0, false)], [(341, .int 1)])]
theorem msfE_w : ywa msfE_A msfE_ss msfE_rs = true := by decide +kernel
theorem msfE_k : yis (yev msfE_A 3000 60 162 [14] (0, [(0, .index 338), (1, .arg 1), (2, .arg 2)], [], msfE_O, msfE_C, [])) msfE_ss msfE_rs = true := by decide +kernel
def msfE_r (v1_ v2 v310 v400 : Int32) (k_ : Nat) : Value := bif Nat.beq k_ 1 then .int v1_ else (bif Nat.beq k_ 2 then .int v2 else (bif Nat.beq k_ 310 then .int v310 else (bif Nat.beq k_ 400 then .int v400 else (.int 0))))
def msfE_s (n_ : Nat) : Nat := 0
theorem msfE {h_ : xH} {v1_ v2 v310 v400 : Int32} (hs : sHp h_) (o0_ : bpat h_ 339 0 = some (.int v310)) (o1 : bpat h_ 341 1 = some (.int v400)) : ∃ h', ysm h_ h' ∧ (((v1_.toInt ≤ (v310 - (1 : Int32)).toInt) ∧ ((0 : Int32).toInt ≤ v1_.toInt) ∧ (∀ a_ j_ : Nat, bpat h' a_ j_ = bpat h_ a_ j_) ∧ (bldD 60 162 0 [(0, .index 338), (1, .int v1_), (2, .int v2)] [] h_ 14 [(0, .index 338), (1, .int v1_), (2, .int v2)] [] h'))
  ∨ ((v1_.toInt < (0 : Int32).toInt) ∧ (bpat h' 341 1 = some (.int (v400 + (1 : Int32)))) ∧ (∀ a_ j_ : Nat, ¬ (a_ = 341 ∧ j_ = 1) → bpat h' a_ j_ = bpat h_ a_ j_) ∧ (∀ D_, 60 ≤ D_ → xrun D_ 162 0 [(0, .index 338), (1, .int v1_), (2, .int v2)] [] h_ (some (.int (Int32.ofInt (-1000001))), h', [])))
  ∨ (((v310 - (1 : Int32)).toInt < v1_.toInt) ∧ ((0 : Int32).toInt ≤ v1_.toInt) ∧ (bpat h' 341 1 = some (.int (v400 + (1 : Int32)))) ∧ (∀ a_ j_ : Nat, ¬ (a_ = 341 ∧ j_ = 1) → bpat h' a_ j_ = bpat h_ a_ j_) ∧ (∀ D_, 60 ≤ D_ → xrun D_ 162 0 [(0, .index 338), (1, .int v1_), (2, .int v2)] [] h_ (some (.int (Int32.ofInt (-1000001))), h', [])))) := by
  have hA : yas msfE_A (msfE_r v1_ v2 v310 v400) (yg msfE_s) := ⟨fun q_ hq => absurd hq List.not_mem_nil, fun q_ hq => absurd hq List.not_mem_nil, fun q_ hq => absurd hq List.not_mem_nil, fun n_ hn => yg_lo hn, fun q_ hq => absurd hq List.not_mem_nil⟩
  have Hs : ysh msfE_A.1 (yg msfE_s) h_ := ysh_of2 hs (fun q_ hq => absurd hq List.not_mem_nil)
  have Ho : ymem (msfE_r v1_ v2 v310 v400) (yg msfE_s) msfE_O h_ := List.forall_mem_cons.mpr ⟨bpat_some (fxr_at hs.2 (show fxk fxl 338 0 = some 339 by decide +kernel)), List.forall_mem_cons.mpr ⟨bpat_some o0_, List.forall_mem_cons.mpr ⟨bpat_some (fxr_at hs.2 (show fxk fxl 338 3 = some 341 by decide +kernel)), List.forall_mem_cons.mpr ⟨bpat_some o1, fun q_ hq => absurd hq List.not_mem_nil⟩⟩⟩⟩
  have HC : ∀ q_ ∈ msfE_C, xhold (msfE_r v1_ v2 v310 v400) q_ := fun q_ hq => absurd hq List.not_mem_nil
  rcases yrun (yis_ok msfE_k) hA Hs Ho HC with ⟨q_, hq, h', K_, G_⟩ | ⟨q_, hq, h', K_, G_⟩
  · have e_ := List.mem_singleton.mp hq
    subst e_
    exact ⟨h', yfr_sm K_.2.2.2 hs K_.1 (ywa_s msfE_w List.mem_cons_self), Or.inl (⟨xq_leT rfl (yv_sub2 rfl rfl) (K_.2.2.1 _ List.mem_cons_self), xq_ltF rfl rfl (K_.2.2.1 _ (List.mem_cons_of_mem _ List.mem_cons_self)), fun a_ j_ => yfr_bp K_.2.2.2 (fun q_ hq => absurd hq List.not_mem_nil), G_⟩)⟩
  · rcases List.mem_cons.mp hq with e_ | hq
    · subst e_
      exact ⟨h', yfr_sm K_.2.2.2 hs K_.1 (ywa_r msfE_w List.mem_cons_self), Or.inr (Or.inl (⟨xq_ltT rfl rfl (K_.2.2.1 _ List.mem_cons_self), bpat_of (K_.2.1 _ List.mem_cons_self), fun a_ j_ n0_ => yfr_bp K_.2.2.2 (List.forall_mem_cons.mpr ⟨fun e_ => n0_ ⟨e_.1.symm, e_.2.symm⟩, fun q_ hq => absurd hq List.not_mem_nil⟩), G_⟩))⟩
    have e_ := List.mem_singleton.mp hq
    subst e_
    exact ⟨h', yfr_sm K_.2.2.2 hs K_.1 (ywa_r msfE_w (List.mem_cons_of_mem _ List.mem_cons_self)), Or.inr (Or.inr (⟨xq_leF rfl (yv_sub2 rfl rfl) (K_.2.2.1 _ List.mem_cons_self), xq_ltF rfl rfl (K_.2.2.1 _ (List.mem_cons_of_mem _ List.mem_cons_self)), bpat_of (K_.2.1 _ List.mem_cons_self), fun a_ j_ n0_ => yfr_bp K_.2.2.2 (List.forall_mem_cons.mpr ⟨fun e_ => n0_ ⟨e_.1.symm, e_.2.symm⟩, fun q_ hq => absurd hq List.not_mem_nil⟩), G_⟩))⟩
-- msfG: 8 steps, 1 ends, 0 returns
def msfG_L : List (Nat × Nat × Nat) := []
def msfG_O : yO := [(338, .int 4, .index 342)]
def msfG_A : yA := (yZ msfG_L, [], [], [], [])
def msfG_C : List xB := []
def msfG_ss : List yS := [(26, [(0, .index 338), (1, .arg 1), (2, .arg 2)], [.index 342, .add (.int 34) (.mul (.int 13) (.arg 1)), .index 338], [(338, .int 4, .index 342)], [], [])]
def msfG_rs : List yR := []
theorem msfG_w : ywa msfG_A msfG_ss msfG_rs = true := by decide +kernel
theorem msfG_k : yis (yev msfG_A 3000 60 162 [26] (14, [(0, .index 338), (1, .arg 1), (2, .arg 2)], [], msfG_O, msfG_C, [])) msfG_ss msfG_rs = true := by decide +kernel
def msfG_r (v1_ v2 : Int32) (k_ : Nat) : Value := bif Nat.beq k_ 1 then .int v1_ else (bif Nat.beq k_ 2 then .int v2 else (.int 0))
def msfG_s (n_ : Nat) : Nat := 0
theorem msfG {h_ : xH} {v1_ v2 : Int32} (hs : sHp h_) : ∃ h', ysm h_ h' ∧ (((∀ a_ j_ : Nat, bpat h' a_ j_ = bpat h_ a_ j_) ∧ (bldD 60 162 14 [(0, .index 338), (1, .int v1_), (2, .int v2)] [] h_ 26 [(0, .index 338), (1, .int v1_), (2, .int v2)] [.index 342, .int ((34 : Int32) + ((13 : Int32) * v1_)), .index 338] h'))) := by
  have hA : yas msfG_A (msfG_r v1_ v2) (yg msfG_s) := ⟨fun q_ hq => absurd hq List.not_mem_nil, fun q_ hq => absurd hq List.not_mem_nil, fun q_ hq => absurd hq List.not_mem_nil, fun n_ hn => yg_lo hn, fun q_ hq => absurd hq List.not_mem_nil⟩
  have Hs : ysh msfG_A.1 (yg msfG_s) h_ := ysh_of2 hs (fun q_ hq => absurd hq List.not_mem_nil)
  have Ho : ymem (msfG_r v1_ v2) (yg msfG_s) msfG_O h_ := List.forall_mem_cons.mpr ⟨bpat_some (fxr_at hs.2 (show fxk fxl 338 4 = some 342 by decide +kernel)), fun q_ hq => absurd hq List.not_mem_nil⟩
  have HC : ∀ q_ ∈ msfG_C, xhold (msfG_r v1_ v2) q_ := fun q_ hq => absurd hq List.not_mem_nil
  rcases yrun (yis_ok msfG_k) hA Hs Ho HC with ⟨q_, hq, h', K_, G_⟩ | ⟨q_, hq, h', K_, G_⟩
  · have e_ := List.mem_singleton.mp hq
    subst e_
    exact ⟨h', yfr_sm K_.2.2.2 hs K_.1 (ywa_s msfG_w List.mem_cons_self), ⟨fun a_ j_ => yfr_bp K_.2.2.2 (fun q_ hq => absurd hq List.not_mem_nil), G_⟩⟩
  · cases hq
-- msfH: 4 steps, 1 ends, 0 returns
def msfH_L : List (Nat × Nat × Nat) := []
def msfH_O : yO := [(338, .int 4, .index 342)]
def msfH_A : yA := (yZ msfH_L, [], [], [], [])
def msfH_C : List xB := []
def msfH_ss : List yS := [(35, [(0, .index 338), (1, .arg 1), (2, .arg 2)], [.arg 2, .index 342, .index 338], [(338, .int 4, .index 342)], [], [])]
def msfH_rs : List yR := []
theorem msfH_w : ywa msfH_A msfH_ss msfH_rs = true := by decide +kernel
theorem msfH_k : yis (yev msfH_A 3000 60 162 [35] (29, [(0, .index 338), (1, .arg 1), (2, .arg 2)], [], msfH_O, msfH_C, [])) msfH_ss msfH_rs = true := by decide +kernel
def msfH_r (v1_ v2 : Int32) (k_ : Nat) : Value := bif Nat.beq k_ 1 then .int v1_ else (bif Nat.beq k_ 2 then .int v2 else (.int 0))
def msfH_s (n_ : Nat) : Nat := 0
theorem msfH {h_ : xH} {v1_ v2 : Int32} (hs : sHp h_) : ∃ h', ysm h_ h' ∧ (((∀ a_ j_ : Nat, bpat h' a_ j_ = bpat h_ a_ j_) ∧ (bldD 60 162 29 [(0, .index 338), (1, .int v1_), (2, .int v2)] [] h_ 35 [(0, .index 338), (1, .int v1_), (2, .int v2)] [.int v2, .index 342, .index 338] h'))) := by
  have hA : yas msfH_A (msfH_r v1_ v2) (yg msfH_s) := ⟨fun q_ hq => absurd hq List.not_mem_nil, fun q_ hq => absurd hq List.not_mem_nil, fun q_ hq => absurd hq List.not_mem_nil, fun n_ hn => yg_lo hn, fun q_ hq => absurd hq List.not_mem_nil⟩
  have Hs : ysh msfH_A.1 (yg msfH_s) h_ := ysh_of2 hs (fun q_ hq => absurd hq List.not_mem_nil)
  have Ho : ymem (msfH_r v1_ v2) (yg msfH_s) msfH_O h_ := List.forall_mem_cons.mpr ⟨bpat_some (fxr_at hs.2 (show fxk fxl 338 4 = some 342 by decide +kernel)), fun q_ hq => absurd hq List.not_mem_nil⟩
  have HC : ∀ q_ ∈ msfH_C, xhold (msfH_r v1_ v2) q_ := fun q_ hq => absurd hq List.not_mem_nil
  rcases yrun (yis_ok msfH_k) hA Hs Ho HC with ⟨q_, hq, h', K_, G_⟩ | ⟨q_, hq, h', K_, G_⟩
  · have e_ := List.mem_singleton.mp hq
    subst e_
    exact ⟨h', yfr_sm K_.2.2.2 hs K_.1 (ywa_s msfH_w List.mem_cons_self), ⟨fun a_ j_ => yfr_bp K_.2.2.2 (fun q_ hq => absurd hq List.not_mem_nil), G_⟩⟩
  · cases hq
-- msfR: 1 steps, 0 ends, 1 returns
def msfR_L : List (Nat × Nat × Nat) := []
def msfR_O : yO := []
def msfR_A : yA := (yZ msfR_L, [], [], [], [])
def msfR_C : List xB := []
def msfR_ss : List yS := []
def msfR_rs : List yR := [(some (.arg 5), [], [], [])]
theorem msfR_w : ywa msfR_A msfR_ss msfR_rs = true := by decide +kernel
theorem msfR_k : yis (yev msfR_A 3000 60 162 [] (38, [(0, .index 338), (1, .arg 1), (2, .arg 2)], [.arg 5], msfR_O, msfR_C, [])) msfR_ss msfR_rs = true := by decide +kernel
def msfR_r (v1_ v2 v5 : Int32) (k_ : Nat) : Value := bif Nat.beq k_ 1 then .int v1_ else (bif Nat.beq k_ 2 then .int v2 else (bif Nat.beq k_ 5 then .int v5 else (.int 0)))
def msfR_s (n_ : Nat) : Nat := 0
theorem msfR {h_ : xH} {v1_ v2 v5 : Int32} (hs : sHp h_) : ∃ h', ysm h_ h' ∧ (((∀ a_ j_ : Nat, bpat h' a_ j_ = bpat h_ a_ j_) ∧ (∀ D_, 60 ≤ D_ → xrun D_ 162 38 [(0, .index 338), (1, .int v1_), (2, .int v2)] [.int v5] h_ (some (.int v5), h', [])))) := by
  have hA : yas msfR_A (msfR_r v1_ v2 v5) (yg msfR_s) := ⟨fun q_ hq => absurd hq List.not_mem_nil, fun q_ hq => absurd hq List.not_mem_nil, fun q_ hq => absurd hq List.not_mem_nil, fun n_ hn => yg_lo hn, fun q_ hq => absurd hq List.not_mem_nil⟩
  have Hs : ysh msfR_A.1 (yg msfR_s) h_ := ysh_of2 hs (fun q_ hq => absurd hq List.not_mem_nil)
  have Ho : ymem (msfR_r v1_ v2 v5) (yg msfR_s) msfR_O h_ := fun q_ hq => absurd hq List.not_mem_nil
  have HC : ∀ q_ ∈ msfR_C, xhold (msfR_r v1_ v2 v5) q_ := fun q_ hq => absurd hq List.not_mem_nil
  rcases yrun (yis_ok msfR_k) hA Hs Ho HC with ⟨q_, hq, h', K_, G_⟩ | ⟨q_, hq, h', K_, G_⟩
  · cases hq
  · have e_ := List.mem_singleton.mp hq
    subst e_
    exact ⟨h', yfr_sm K_.2.2.2 hs K_.1 (ywa_r msfR_w List.mem_cons_self), ⟨fun a_ j_ => yfr_bp K_.2.2.2 (fun q_ hq => absurd hq List.not_mem_nil), G_⟩⟩
-- xhdE: 57 steps, 1 ends, 2 returns
def xhdE_L : List (Nat × Nat × Nat) := []
def xhdE_O : yO := [(0, .int 0, .index 1), (1, .int 9, .arg 310), (0, .int 13, .index 323), (323, .int 1, .arg 400), (0, .int 8, .index 314)]
def xhdE_A : yA := (yZ xhdE_L, [], [], [], [])
def xhdE_C : List xB := []
def xhdE_ss : List yS := [(17, [(0, .index 0), (1, .arg 1), (2, .arg 2), (3, .arg 3)], [.index 314, .arg 2, .index 1], [(0, .int 0, .index 1), (1, .int 9, .arg 310), (0, .int 13, .index 323), (323, .int 1, .arg 400), (0, .int 8, .index 314)], [(.lt, .arg 1, .arg 310, true), (.lt, .arg 1, .int 0, false)], [])]
def xhdE_rs : List yR := [(some (.int (Int32.ofInt (-1000001))), [(323, .int 1, .add (.arg 400) (.int 1)), (0, .int 0, .index 1), (1, .int 9, .arg 310), (0, .int 13, .index 323), (0, .int 8, .index 314)], [(.lt, .arg 1, .int 0, true)], [(323, .int 1)]),
  (some (.int (Int32.ofInt (-1000001))), [(323, .int 1, .add (.arg 400) (.int 1)), (0, .int 0, .index 1), (1, .int 9, .arg 310), (0, .int 13, .index 323), (0, .int 8, .index 314)], [(.lt, .arg 1, .arg 310, false), (.lt, .arg 1, .int 0, false)], [(323, .int 1)])]
theorem xhdE_w : ywa xhdE_A xhdE_ss xhdE_rs = true := by decide +kernel
theorem xhdE_k : yis (yev xhdE_A 3000 60 87 [17] (0, [(0, .index 0), (1, .arg 1), (2, .arg 2), (3, .arg 3)], [], xhdE_O, xhdE_C, [])) xhdE_ss xhdE_rs = true := by decide +kernel
def xhdE_r (v1_ v2 v3 v310 v400 : Int32) (k_ : Nat) : Value := bif Nat.beq k_ 1 then .int v1_ else (bif Nat.beq k_ 2 then .int v2 else (bif Nat.beq k_ 3 then .int v3 else (bif Nat.beq k_ 310 then .int v310 else (bif Nat.beq k_ 400 then .int v400 else (.int 0)))))
def xhdE_s (n_ : Nat) : Nat := 0
theorem xhdE {h_ : xH} {v1_ v2 v3 v310 v400 : Int32} (hs : sHp h_) (o0_ : bpat h_ 1 9 = some (.int v310)) (o1 : bpat h_ 323 1 = some (.int v400)) : ∃ h', ysm h_ h' ∧ (((v1_.toInt < v310.toInt) ∧ ((0 : Int32).toInt ≤ v1_.toInt) ∧ (∀ a_ j_ : Nat, bpat h' a_ j_ = bpat h_ a_ j_) ∧ (bldD 60 87 0 [(0, .index 0), (1, .int v1_), (2, .int v2), (3, .int v3)] [] h_ 17 [(0, .index 0), (1, .int v1_), (2, .int v2), (3, .int v3)] [.index 314, .int v2, .index 1] h'))
  ∨ ((v1_.toInt < (0 : Int32).toInt) ∧ (bpat h' 323 1 = some (.int (v400 + (1 : Int32)))) ∧ (∀ a_ j_ : Nat, ¬ (a_ = 323 ∧ j_ = 1) → bpat h' a_ j_ = bpat h_ a_ j_) ∧ (∀ D_, 60 ≤ D_ → xrun D_ 87 0 [(0, .index 0), (1, .int v1_), (2, .int v2), (3, .int v3)] [] h_ (some (.int (Int32.ofInt (-1000001))), h', [])))
  ∨ ((v310.toInt ≤ v1_.toInt) ∧ ((0 : Int32).toInt ≤ v1_.toInt) ∧ (bpat h' 323 1 = some (.int (v400 + (1 : Int32)))) ∧ (∀ a_ j_ : Nat, ¬ (a_ = 323 ∧ j_ = 1) → bpat h' a_ j_ = bpat h_ a_ j_) ∧ (∀ D_, 60 ≤ D_ → xrun D_ 87 0 [(0, .index 0), (1, .int v1_), (2, .int v2), (3, .int v3)] [] h_ (some (.int (Int32.ofInt (-1000001))), h', [])))) := by
  have hA : yas xhdE_A (xhdE_r v1_ v2 v3 v310 v400) (yg xhdE_s) := ⟨fun q_ hq => absurd hq List.not_mem_nil, fun q_ hq => absurd hq List.not_mem_nil, fun q_ hq => absurd hq List.not_mem_nil, fun n_ hn => yg_lo hn, fun q_ hq => absurd hq List.not_mem_nil⟩
  have Hs : ysh xhdE_A.1 (yg xhdE_s) h_ := ysh_of2 hs (fun q_ hq => absurd hq List.not_mem_nil)
  have Ho : ymem (xhdE_r v1_ v2 v3 v310 v400) (yg xhdE_s) xhdE_O h_ := List.forall_mem_cons.mpr ⟨bpat_some (fxr_at hs.2 (show fxk fxl 0 0 = some 1 by decide +kernel)), List.forall_mem_cons.mpr ⟨bpat_some o0_, List.forall_mem_cons.mpr ⟨bpat_some (fxr_at hs.2 (show fxk fxl 0 13 = some 323 by decide +kernel)), List.forall_mem_cons.mpr ⟨bpat_some o1, List.forall_mem_cons.mpr ⟨bpat_some (fxr_at hs.2 (show fxk fxl 0 8 = some 314 by decide +kernel)), fun q_ hq => absurd hq List.not_mem_nil⟩⟩⟩⟩⟩
  have HC : ∀ q_ ∈ xhdE_C, xhold (xhdE_r v1_ v2 v3 v310 v400) q_ := fun q_ hq => absurd hq List.not_mem_nil
  rcases yrun (yis_ok xhdE_k) hA Hs Ho HC with ⟨q_, hq, h', K_, G_⟩ | ⟨q_, hq, h', K_, G_⟩
  · have e_ := List.mem_singleton.mp hq
    subst e_
    exact ⟨h', yfr_sm K_.2.2.2 hs K_.1 (ywa_s xhdE_w List.mem_cons_self), Or.inl (⟨xq_ltT rfl rfl (K_.2.2.1 _ List.mem_cons_self), xq_ltF rfl rfl (K_.2.2.1 _ (List.mem_cons_of_mem _ List.mem_cons_self)), fun a_ j_ => yfr_bp K_.2.2.2 (fun q_ hq => absurd hq List.not_mem_nil), G_⟩)⟩
  · rcases List.mem_cons.mp hq with e_ | hq
    · subst e_
      exact ⟨h', yfr_sm K_.2.2.2 hs K_.1 (ywa_r xhdE_w List.mem_cons_self), Or.inr (Or.inl (⟨xq_ltT rfl rfl (K_.2.2.1 _ List.mem_cons_self), bpat_of (K_.2.1 _ List.mem_cons_self), fun a_ j_ n0_ => yfr_bp K_.2.2.2 (List.forall_mem_cons.mpr ⟨fun e_ => n0_ ⟨e_.1.symm, e_.2.symm⟩, fun q_ hq => absurd hq List.not_mem_nil⟩), G_⟩))⟩
    have e_ := List.mem_singleton.mp hq
    subst e_
    exact ⟨h', yfr_sm K_.2.2.2 hs K_.1 (ywa_r xhdE_w (List.mem_cons_of_mem _ List.mem_cons_self)), Or.inr (Or.inr (⟨xq_ltF rfl rfl (K_.2.2.1 _ List.mem_cons_self), xq_ltF rfl rfl (K_.2.2.1 _ (List.mem_cons_of_mem _ List.mem_cons_self)), bpat_of (K_.2.1 _ List.mem_cons_self), fun a_ j_ n0_ => yfr_bp K_.2.2.2 (List.forall_mem_cons.mpr ⟨fun e_ => n0_ ⟨e_.1.symm, e_.2.symm⟩, fun q_ hq => absurd hq List.not_mem_nil⟩), G_⟩))⟩
-- xhdF: 17 steps, 0 ends, 1 returns
def xhdF_L : List (Nat × Nat × Nat) := []
def xhdF_O : yO := [(0, .int 13, .index 323), (323, .int 1, .arg 400)]
def xhdF_A : yA := (yZ xhdF_L, [], [], [], [])
def xhdF_C : List xB := []
def xhdF_ss : List yS := []
def xhdF_rs : List yR := [(some (.int (Int32.ofInt (-1000001))), [(323, .int 1, .add (.arg 400) (.int 1)), (0, .int 13, .index 323)], [], [(323, .int 1)])]
theorem xhdF_w : ywa xhdF_A xhdF_ss xhdF_rs = true := by decide +kernel
theorem xhdF_k : yis (yev xhdF_A 3000 60 87 [] (20, [(0, .index 0), (1, .arg 1), (2, .arg 2), (3, .arg 3)], [.int 0], xhdF_O, xhdF_C, [])) xhdF_ss xhdF_rs = true := by decide +kernel
def xhdF_r (v1_ v2 v3 v400 : Int32) (k_ : Nat) : Value := bif Nat.beq k_ 1 then .int v1_ else (bif Nat.beq k_ 2 then .int v2 else (bif Nat.beq k_ 3 then .int v3 else (bif Nat.beq k_ 400 then .int v400 else (.int 0))))
def xhdF_s (n_ : Nat) : Nat := 0
theorem xhdF {h_ : xH} {v1_ v2 v3 v400 : Int32} (hs : sHp h_) (o0_ : bpat h_ 323 1 = some (.int v400)) : ∃ h', ysm h_ h' ∧ (((bpat h' 323 1 = some (.int (v400 + (1 : Int32)))) ∧ (∀ a_ j_ : Nat, ¬ (a_ = 323 ∧ j_ = 1) → bpat h' a_ j_ = bpat h_ a_ j_) ∧ (∀ D_, 60 ≤ D_ → xrun D_ 87 20 [(0, .index 0), (1, .int v1_), (2, .int v2), (3, .int v3)] [.int (0 : Int32)] h_ (some (.int (Int32.ofInt (-1000001))), h', [])))) := by
  have hA : yas xhdF_A (xhdF_r v1_ v2 v3 v400) (yg xhdF_s) := ⟨fun q_ hq => absurd hq List.not_mem_nil, fun q_ hq => absurd hq List.not_mem_nil, fun q_ hq => absurd hq List.not_mem_nil, fun n_ hn => yg_lo hn, fun q_ hq => absurd hq List.not_mem_nil⟩
  have Hs : ysh xhdF_A.1 (yg xhdF_s) h_ := ysh_of2 hs (fun q_ hq => absurd hq List.not_mem_nil)
  have Ho : ymem (xhdF_r v1_ v2 v3 v400) (yg xhdF_s) xhdF_O h_ := List.forall_mem_cons.mpr ⟨bpat_some (fxr_at hs.2 (show fxk fxl 0 13 = some 323 by decide +kernel)), List.forall_mem_cons.mpr ⟨bpat_some o0_, fun q_ hq => absurd hq List.not_mem_nil⟩⟩
  have HC : ∀ q_ ∈ xhdF_C, xhold (xhdF_r v1_ v2 v3 v400) q_ := fun q_ hq => absurd hq List.not_mem_nil
  rcases yrun (yis_ok xhdF_k) hA Hs Ho HC with ⟨q_, hq, h', K_, G_⟩ | ⟨q_, hq, h', K_, G_⟩
  · cases hq
  · have e_ := List.mem_singleton.mp hq
    subst e_
    exact ⟨h', yfr_sm K_.2.2.2 hs K_.1 (ywa_r xhdF_w List.mem_cons_self), ⟨bpat_of (K_.2.1 _ List.mem_cons_self), fun a_ j_ n0_ => yfr_bp K_.2.2.2 (List.forall_mem_cons.mpr ⟨fun e_ => n0_ ⟨e_.1.symm, e_.2.symm⟩, fun q_ hq => absurd hq List.not_mem_nil⟩), G_⟩⟩
-- xhdG: 12 steps, 1 ends, 0 returns
def xhdG_L : List (Nat × Nat × Nat) := [(1000, 6, 2)]
def xhdG_O : yO := [(0, .int 0, .index 1), (1, .int 0, .index 2), (2, .arg 1, .index 1000), (0, .int 8, .index 314), (0, .int 10, .index 318)]
def xhdG_A : yA := (yZ xhdG_L, [(.arg 1, 12)], [], [], [])
def xhdG_C : List xB := []
def xhdG_ss : List yS := [(50, [(0, .index 0), (1, .arg 1), (2, .arg 2), (3, .arg 3)], [.index 318, .index 314, .index 1000, .index 1], [(0, .int 0, .index 1), (1, .int 0, .index 2), (2, .arg 1, .index 1000), (0, .int 8, .index 314), (0, .int 10, .index 318)], [], [])]
def xhdG_rs : List yR := []
theorem xhdG_w : ywa xhdG_A xhdG_ss xhdG_rs = true := by decide +kernel
theorem xhdG_k : yis (yev xhdG_A 3000 60 87 [50] (20, [(0, .index 0), (1, .arg 1), (2, .arg 2), (3, .arg 3)], [.int 1], xhdG_O, xhdG_C, [])) xhdG_ss xhdG_rs = true := by decide +kernel
def xhdG_r (v1_ v2 v3 : Int32) (k_ : Nat) : Value := bif Nat.beq k_ 1 then .int v1_ else (bif Nat.beq k_ 2 then .int v2 else (bif Nat.beq k_ 3 then .int v3 else (.int 0)))
def xhdG_s (a1000 : Nat) (n_ : Nat) : Nat := bif Nat.beq n_ 1000 then a1000 else (0)
theorem xhdG {h_ : xH} {a1000 : Nat} {v1_ v2 v3 : Int32} (hs : sHp h_) (k1000 : bcq h_ a1000 6 2) (o0_ : bpat h_ 2 (v1_).toInt.toNat = some (.index a1000)) (b0 : 0 ≤ (v1_).toInt ∧ (v1_).toInt < 12) : ∃ h', ysm h_ h' ∧ (((∀ a_ j_ : Nat, bpat h' a_ j_ = bpat h_ a_ j_) ∧ (bldD 60 87 20 [(0, .index 0), (1, .int v1_), (2, .int v2), (3, .int v3)] [.int (1 : Int32)] h_ 50 [(0, .index 0), (1, .int v1_), (2, .int v2), (3, .int v3)] [.index 318, .index 314, .index a1000, .index 1] h'))) := by
  have hA : yas xhdG_A (xhdG_r v1_ v2 v3) (yg (xhdG_s a1000)) := ⟨List.forall_mem_cons.mpr ⟨b0, fun q_ hq => absurd hq List.not_mem_nil⟩, fun q_ hq => absurd hq List.not_mem_nil, fun q_ hq => absurd hq List.not_mem_nil, fun n_ hn => yg_lo hn, fun q_ hq => absurd hq List.not_mem_nil⟩
  have Hs : ysh xhdG_A.1 (yg (xhdG_s a1000)) h_ := ysh_of2 hs (List.forall_mem_cons.mpr ⟨⟨by decide, k1000⟩, fun q_ hq => absurd hq List.not_mem_nil⟩)
  have Ho : ymem (xhdG_r v1_ v2 v3) (yg (xhdG_s a1000)) xhdG_O h_ := List.forall_mem_cons.mpr ⟨bpat_some (fxr_at hs.2 (show fxk fxl 0 0 = some 1 by decide +kernel)), List.forall_mem_cons.mpr ⟨bpat_some (fxr_at hs.2 (show fxk fxl 1 0 = some 2 by decide +kernel)), List.forall_mem_cons.mpr ⟨bpat_some o0_, List.forall_mem_cons.mpr ⟨bpat_some (fxr_at hs.2 (show fxk fxl 0 8 = some 314 by decide +kernel)), List.forall_mem_cons.mpr ⟨bpat_some (fxr_at hs.2 (show fxk fxl 0 10 = some 318 by decide +kernel)), fun q_ hq => absurd hq List.not_mem_nil⟩⟩⟩⟩⟩
  have HC : ∀ q_ ∈ xhdG_C, xhold (xhdG_r v1_ v2 v3) q_ := fun q_ hq => absurd hq List.not_mem_nil
  rcases yrun (yis_ok xhdG_k) hA Hs Ho HC with ⟨q_, hq, h', K_, G_⟩ | ⟨q_, hq, h', K_, G_⟩
  · have e_ := List.mem_singleton.mp hq
    subst e_
    exact ⟨h', yfr_sm K_.2.2.2 hs K_.1 (ywa_s xhdG_w List.mem_cons_self), ⟨fun a_ j_ => yfr_bp K_.2.2.2 (fun q_ hq => absurd hq List.not_mem_nil), G_⟩⟩
  · cases hq
-- xhdH: 4 steps, 1 ends, 0 returns
def xhdH_L : List (Nat × Nat × Nat) := []
def xhdH_O : yO := [(0, .int 10, .index 318)]
def xhdH_A : yA := (yZ xhdH_L, [], [], [], [])
def xhdH_C : List xB := []
def xhdH_ss : List yS := [(59, [(0, .index 0), (1, .arg 1), (2, .arg 2), (3, .arg 3)], [.arg 3, .index 318, .index 0], [(0, .int 10, .index 318)], [], [])]
def xhdH_rs : List yR := []
theorem xhdH_w : ywa xhdH_A xhdH_ss xhdH_rs = true := by decide +kernel
theorem xhdH_k : yis (yev xhdH_A 3000 60 87 [59] (53, [(0, .index 0), (1, .arg 1), (2, .arg 2), (3, .arg 3)], [], xhdH_O, xhdH_C, [])) xhdH_ss xhdH_rs = true := by decide +kernel
def xhdH_r (v1_ v2 v3 : Int32) (k_ : Nat) : Value := bif Nat.beq k_ 1 then .int v1_ else (bif Nat.beq k_ 2 then .int v2 else (bif Nat.beq k_ 3 then .int v3 else (.int 0)))
def xhdH_s (n_ : Nat) : Nat := 0
theorem xhdH {h_ : xH} {v1_ v2 v3 : Int32} (hs : sHp h_) : ∃ h', ysm h_ h' ∧ (((∀ a_ j_ : Nat, bpat h' a_ j_ = bpat h_ a_ j_) ∧ (bldD 60 87 53 [(0, .index 0), (1, .int v1_), (2, .int v2), (3, .int v3)] [] h_ 59 [(0, .index 0), (1, .int v1_), (2, .int v2), (3, .int v3)] [.int v3, .index 318, .index 0] h'))) := by
  have hA : yas xhdH_A (xhdH_r v1_ v2 v3) (yg xhdH_s) := ⟨fun q_ hq => absurd hq List.not_mem_nil, fun q_ hq => absurd hq List.not_mem_nil, fun q_ hq => absurd hq List.not_mem_nil, fun n_ hn => yg_lo hn, fun q_ hq => absurd hq List.not_mem_nil⟩
  have Hs : ysh xhdH_A.1 (yg xhdH_s) h_ := ysh_of2 hs (fun q_ hq => absurd hq List.not_mem_nil)
  have Ho : ymem (xhdH_r v1_ v2 v3) (yg xhdH_s) xhdH_O h_ := List.forall_mem_cons.mpr ⟨bpat_some (fxr_at hs.2 (show fxk fxl 0 10 = some 318 by decide +kernel)), fun q_ hq => absurd hq List.not_mem_nil⟩
  have HC : ∀ q_ ∈ xhdH_C, xhold (xhdH_r v1_ v2 v3) q_ := fun q_ hq => absurd hq List.not_mem_nil
  rcases yrun (yis_ok xhdH_k) hA Hs Ho HC with ⟨q_, hq, h', K_, G_⟩ | ⟨q_, hq, h', K_, G_⟩
  · have e_ := List.mem_singleton.mp hq
    subst e_
    exact ⟨h', yfr_sm K_.2.2.2 hs K_.1 (ywa_s xhdH_w List.mem_cons_self), ⟨fun a_ j_ => yfr_bp K_.2.2.2 (fun q_ hq => absurd hq List.not_mem_nil), G_⟩⟩
  · cases hq
-- xhdR: 1 steps, 0 ends, 1 returns
def xhdR_L : List (Nat × Nat × Nat) := []
def xhdR_O : yO := []
def xhdR_A : yA := (yZ xhdR_L, [], [], [], [])
def xhdR_C : List xB := []
def xhdR_ss : List yS := []
def xhdR_rs : List yR := [(some (.arg 5), [], [], [])]
theorem xhdR_w : ywa xhdR_A xhdR_ss xhdR_rs = true := by decide +kernel
theorem xhdR_k : yis (yev xhdR_A 3000 60 87 [] (62, [(0, .index 0), (1, .arg 1), (2, .arg 2), (3, .arg 3)], [.arg 5], xhdR_O, xhdR_C, [])) xhdR_ss xhdR_rs = true := by decide +kernel
def xhdR_r (v1_ v2 v3 v5 : Int32) (k_ : Nat) : Value := bif Nat.beq k_ 1 then .int v1_ else (bif Nat.beq k_ 2 then .int v2 else (bif Nat.beq k_ 3 then .int v3 else (bif Nat.beq k_ 5 then .int v5 else (.int 0))))
def xhdR_s (n_ : Nat) : Nat := 0
theorem xhdR {h_ : xH} {v1_ v2 v3 v5 : Int32} (hs : sHp h_) : ∃ h', ysm h_ h' ∧ (((∀ a_ j_ : Nat, bpat h' a_ j_ = bpat h_ a_ j_) ∧ (∀ D_, 60 ≤ D_ → xrun D_ 87 62 [(0, .index 0), (1, .int v1_), (2, .int v2), (3, .int v3)] [.int v5] h_ (some (.int v5), h', [])))) := by
  have hA : yas xhdR_A (xhdR_r v1_ v2 v3 v5) (yg xhdR_s) := ⟨fun q_ hq => absurd hq List.not_mem_nil, fun q_ hq => absurd hq List.not_mem_nil, fun q_ hq => absurd hq List.not_mem_nil, fun n_ hn => yg_lo hn, fun q_ hq => absurd hq List.not_mem_nil⟩
  have Hs : ysh xhdR_A.1 (yg xhdR_s) h_ := ysh_of2 hs (fun q_ hq => absurd hq List.not_mem_nil)
  have Ho : ymem (xhdR_r v1_ v2 v3 v5) (yg xhdR_s) xhdR_O h_ := fun q_ hq => absurd hq List.not_mem_nil
  have HC : ∀ q_ ∈ xhdR_C, xhold (xhdR_r v1_ v2 v3 v5) q_ := fun q_ hq => absurd hq List.not_mem_nil
  rcases yrun (yis_ok xhdR_k) hA Hs Ho HC with ⟨q_, hq, h', K_, G_⟩ | ⟨q_, hq, h', K_, G_⟩
  · cases hq
  · have e_ := List.mem_singleton.mp hq
    subst e_
    exact ⟨h', yfr_sm K_.2.2.2 hs K_.1 (ywa_r xhdR_w List.mem_cons_self), ⟨fun a_ j_ => yfr_bp K_.2.2.2 (fun q_ hq => absurd hq List.not_mem_nil), G_⟩⟩
-- mhdE: 65 steps, 1 ends, 2 returns
def mhdE_L : List (Nat × Nat × Nat) := []
def mhdE_O : yO := [(338, .int 0, .index 339), (339, .int 0, .arg 310), (338, .int 3, .index 341), (341, .int 1, .arg 400)]
def mhdE_A : yA := (yZ mhdE_L, [], [], [], [])
def mhdE_C : List xB := []
def mhdE_ss : List yS := [(10, [(0, .index 338), (1, .arg 1), (2, .arg 2), (3, .arg 3)], [.arg 2, .index 338], [(338, .int 0, .index 339), (339, .int 0, .arg 310), (338, .int 3, .index 341), (341, .int 1, .arg 400)], [(.le, .arg 1, .sub (.arg 310) (.int 1), true), (.lt, .arg 1, .int 0, false)], [])]
def mhdE_rs : List yR := [(some (.int (Int32.ofInt (-1000001))), [(341, .int 1, .add (.arg 400) (.int 1)), (338, .int 0, .index 339), (339, .int 0, .arg 310), (338, .int 3, .index 341)], [(.lt, .arg 1, .int 0, true)], [(341, .int 1)]),
  (some (.int (Int32.ofInt (-1000001))), [(341, .int 1, .add (.arg 400) (.int 1)), (338, .int 0, .index 339), (339, .int 0, .arg 310), (338, .int 3, .index 341)], [(.le, .arg 1, .sub (.arg 310) (.int 1), false), (.lt, .arg 1, .int 0, false)], [(341, .int 1)])]
theorem mhdE_w : ywa mhdE_A mhdE_ss mhdE_rs = true := by decide +kernel
theorem mhdE_k : yis (yev mhdE_A 3000 60 188 [10] (0, [(0, .index 338), (1, .arg 1), (2, .arg 2), (3, .arg 3)], [], mhdE_O, mhdE_C, [])) mhdE_ss mhdE_rs = true := by decide +kernel
def mhdE_r (v1_ v2 v3 v310 v400 : Int32) (k_ : Nat) : Value := bif Nat.beq k_ 1 then .int v1_ else (bif Nat.beq k_ 2 then .int v2 else (bif Nat.beq k_ 3 then .int v3 else (bif Nat.beq k_ 310 then .int v310 else (bif Nat.beq k_ 400 then .int v400 else (.int 0)))))
def mhdE_s (n_ : Nat) : Nat := 0
theorem mhdE {h_ : xH} {v1_ v2 v3 v310 v400 : Int32} (hs : sHp h_) (o0_ : bpat h_ 339 0 = some (.int v310)) (o1 : bpat h_ 341 1 = some (.int v400)) : ∃ h', ysm h_ h' ∧ (((v1_.toInt ≤ (v310 - (1 : Int32)).toInt) ∧ ((0 : Int32).toInt ≤ v1_.toInt) ∧ (∀ a_ j_ : Nat, bpat h' a_ j_ = bpat h_ a_ j_) ∧ (bldD 60 188 0 [(0, .index 338), (1, .int v1_), (2, .int v2), (3, .int v3)] [] h_ 10 [(0, .index 338), (1, .int v1_), (2, .int v2), (3, .int v3)] [.int v2, .index 338] h'))
  ∨ ((v1_.toInt < (0 : Int32).toInt) ∧ (bpat h' 341 1 = some (.int (v400 + (1 : Int32)))) ∧ (∀ a_ j_ : Nat, ¬ (a_ = 341 ∧ j_ = 1) → bpat h' a_ j_ = bpat h_ a_ j_) ∧ (∀ D_, 60 ≤ D_ → xrun D_ 188 0 [(0, .index 338), (1, .int v1_), (2, .int v2), (3, .int v3)] [] h_ (some (.int (Int32.ofInt (-1000001))), h', [])))
  ∨ (((v310 - (1 : Int32)).toInt < v1_.toInt) ∧ ((0 : Int32).toInt ≤ v1_.toInt) ∧ (bpat h' 341 1 = some (.int (v400 + (1 : Int32)))) ∧ (∀ a_ j_ : Nat, ¬ (a_ = 341 ∧ j_ = 1) → bpat h' a_ j_ = bpat h_ a_ j_) ∧ (∀ D_, 60 ≤ D_ → xrun D_ 188 0 [(0, .index 338), (1, .int v1_), (2, .int v2), (3, .int v3)] [] h_ (some (.int (Int32.ofInt (-1000001))), h', [])))) := by
  have hA : yas mhdE_A (mhdE_r v1_ v2 v3 v310 v400) (yg mhdE_s) := ⟨fun q_ hq => absurd hq List.not_mem_nil, fun q_ hq => absurd hq List.not_mem_nil, fun q_ hq => absurd hq List.not_mem_nil, fun n_ hn => yg_lo hn, fun q_ hq => absurd hq List.not_mem_nil⟩
  have Hs : ysh mhdE_A.1 (yg mhdE_s) h_ := ysh_of2 hs (fun q_ hq => absurd hq List.not_mem_nil)
  have Ho : ymem (mhdE_r v1_ v2 v3 v310 v400) (yg mhdE_s) mhdE_O h_ := List.forall_mem_cons.mpr ⟨bpat_some (fxr_at hs.2 (show fxk fxl 338 0 = some 339 by decide +kernel)), List.forall_mem_cons.mpr ⟨bpat_some o0_, List.forall_mem_cons.mpr ⟨bpat_some (fxr_at hs.2 (show fxk fxl 338 3 = some 341 by decide +kernel)), List.forall_mem_cons.mpr ⟨bpat_some o1, fun q_ hq => absurd hq List.not_mem_nil⟩⟩⟩⟩
  have HC : ∀ q_ ∈ mhdE_C, xhold (mhdE_r v1_ v2 v3 v310 v400) q_ := fun q_ hq => absurd hq List.not_mem_nil
  rcases yrun (yis_ok mhdE_k) hA Hs Ho HC with ⟨q_, hq, h', K_, G_⟩ | ⟨q_, hq, h', K_, G_⟩
  · have e_ := List.mem_singleton.mp hq
    subst e_
    exact ⟨h', yfr_sm K_.2.2.2 hs K_.1 (ywa_s mhdE_w List.mem_cons_self), Or.inl (⟨xq_leT rfl (yv_sub2 rfl rfl) (K_.2.2.1 _ List.mem_cons_self), xq_ltF rfl rfl (K_.2.2.1 _ (List.mem_cons_of_mem _ List.mem_cons_self)), fun a_ j_ => yfr_bp K_.2.2.2 (fun q_ hq => absurd hq List.not_mem_nil), G_⟩)⟩
  · rcases List.mem_cons.mp hq with e_ | hq
    · subst e_
      exact ⟨h', yfr_sm K_.2.2.2 hs K_.1 (ywa_r mhdE_w List.mem_cons_self), Or.inr (Or.inl (⟨xq_ltT rfl rfl (K_.2.2.1 _ List.mem_cons_self), bpat_of (K_.2.1 _ List.mem_cons_self), fun a_ j_ n0_ => yfr_bp K_.2.2.2 (List.forall_mem_cons.mpr ⟨fun e_ => n0_ ⟨e_.1.symm, e_.2.symm⟩, fun q_ hq => absurd hq List.not_mem_nil⟩), G_⟩))⟩
    have e_ := List.mem_singleton.mp hq
    subst e_
    exact ⟨h', yfr_sm K_.2.2.2 hs K_.1 (ywa_r mhdE_w (List.mem_cons_of_mem _ List.mem_cons_self)), Or.inr (Or.inr (⟨xq_leF rfl (yv_sub2 rfl rfl) (K_.2.2.1 _ List.mem_cons_self), xq_ltF rfl rfl (K_.2.2.1 _ (List.mem_cons_of_mem _ List.mem_cons_self)), bpat_of (K_.2.1 _ List.mem_cons_self), fun a_ j_ n0_ => yfr_bp K_.2.2.2 (List.forall_mem_cons.mpr ⟨fun e_ => n0_ ⟨e_.1.symm, e_.2.symm⟩, fun q_ hq => absurd hq List.not_mem_nil⟩), G_⟩))⟩
-- mhdF: 17 steps, 0 ends, 1 returns
def mhdF_L : List (Nat × Nat × Nat) := []
def mhdF_O : yO := [(338, .int 3, .index 341), (341, .int 1, .arg 400)]
def mhdF_A : yA := (yZ mhdF_L, [], [], [], [])
def mhdF_C : List xB := []
def mhdF_ss : List yS := []
def mhdF_rs : List yR := [(some (.int (Int32.ofInt (-1000001))), [(341, .int 1, .add (.arg 400) (.int 1)), (338, .int 3, .index 341)], [], [(341, .int 1)])]
theorem mhdF_w : ywa mhdF_A mhdF_ss mhdF_rs = true := by decide +kernel
theorem mhdF_k : yis (yev mhdF_A 3000 60 188 [] (13, [(0, .index 338), (1, .arg 1), (2, .arg 2), (3, .arg 3)], [.int 0], mhdF_O, mhdF_C, [])) mhdF_ss mhdF_rs = true := by decide +kernel
def mhdF_r (v1_ v2 v3 v400 : Int32) (k_ : Nat) : Value := bif Nat.beq k_ 1 then .int v1_ else (bif Nat.beq k_ 2 then .int v2 else (bif Nat.beq k_ 3 then .int v3 else (bif Nat.beq k_ 400 then .int v400 else (.int 0))))
def mhdF_s (n_ : Nat) : Nat := 0
theorem mhdF {h_ : xH} {v1_ v2 v3 v400 : Int32} (hs : sHp h_) (o0_ : bpat h_ 341 1 = some (.int v400)) : ∃ h', ysm h_ h' ∧ (((bpat h' 341 1 = some (.int (v400 + (1 : Int32)))) ∧ (∀ a_ j_ : Nat, ¬ (a_ = 341 ∧ j_ = 1) → bpat h' a_ j_ = bpat h_ a_ j_) ∧ (∀ D_, 60 ≤ D_ → xrun D_ 188 13 [(0, .index 338), (1, .int v1_), (2, .int v2), (3, .int v3)] [.int (0 : Int32)] h_ (some (.int (Int32.ofInt (-1000001))), h', [])))) := by
  have hA : yas mhdF_A (mhdF_r v1_ v2 v3 v400) (yg mhdF_s) := ⟨fun q_ hq => absurd hq List.not_mem_nil, fun q_ hq => absurd hq List.not_mem_nil, fun q_ hq => absurd hq List.not_mem_nil, fun n_ hn => yg_lo hn, fun q_ hq => absurd hq List.not_mem_nil⟩
  have Hs : ysh mhdF_A.1 (yg mhdF_s) h_ := ysh_of2 hs (fun q_ hq => absurd hq List.not_mem_nil)
  have Ho : ymem (mhdF_r v1_ v2 v3 v400) (yg mhdF_s) mhdF_O h_ := List.forall_mem_cons.mpr ⟨bpat_some (fxr_at hs.2 (show fxk fxl 338 3 = some 341 by decide +kernel)), List.forall_mem_cons.mpr ⟨bpat_some o0_, fun q_ hq => absurd hq List.not_mem_nil⟩⟩
  have HC : ∀ q_ ∈ mhdF_C, xhold (mhdF_r v1_ v2 v3 v400) q_ := fun q_ hq => absurd hq List.not_mem_nil
  rcases yrun (yis_ok mhdF_k) hA Hs Ho HC with ⟨q_, hq, h', K_, G_⟩ | ⟨q_, hq, h', K_, G_⟩
  · cases hq
  · have e_ := List.mem_singleton.mp hq
    subst e_
    exact ⟨h', yfr_sm K_.2.2.2 hs K_.1 (ywa_r mhdF_w List.mem_cons_self), ⟨bpat_of (K_.2.1 _ List.mem_cons_self), fun a_ j_ n0_ => yfr_bp K_.2.2.2 (List.forall_mem_cons.mpr ⟨fun e_ => n0_ ⟨e_.1.symm, e_.2.symm⟩, fun q_ hq => absurd hq List.not_mem_nil⟩), G_⟩⟩
-- mhdI: 20 steps, 0 ends, 1 returns
def mhdI_L : List (Nat × Nat × Nat) := []
def mhdI_O : yO := [(338, .int 3, .index 341), (341, .int 1, .arg 400)]
def mhdI_A : yA := (yZ mhdI_L, [], [], [], [])
def mhdI_C : List xB := [(.lt, .arg 3, .int (Int32.ofInt (-1)), true)]
def mhdI_ss : List yS := []
def mhdI_rs : List yR := [(some (.int (Int32.ofInt (-1000001))), [(341, .int 1, .add (.arg 400) (.int 1)), (338, .int 3, .index 341)], [(.lt, .arg 3, .int (Int32.ofInt (-1)), true)], [(341, .int 1)])]
theorem mhdI_w : ywa mhdI_A mhdI_ss mhdI_rs = true := by decide +kernel
theorem mhdI_k : yis (yev mhdI_A 3000 60 188 [] (13, [(0, .index 338), (1, .arg 1), (2, .arg 2), (3, .arg 3)], [.int 1], mhdI_O, mhdI_C, [])) mhdI_ss mhdI_rs = true := by decide +kernel
def mhdI_r (v1_ v2 v3 v400 : Int32) (k_ : Nat) : Value := bif Nat.beq k_ 1 then .int v1_ else (bif Nat.beq k_ 2 then .int v2 else (bif Nat.beq k_ 3 then .int v3 else (bif Nat.beq k_ 400 then .int v400 else (.int 0))))
def mhdI_s (n_ : Nat) : Nat := 0
theorem mhdI {h_ : xH} {v1_ v2 v3 v400 : Int32} (hs : sHp h_) (o0_ : bpat h_ 341 1 = some (.int v400)) (c0_ : v3.toInt < (Int32.ofInt (-1)).toInt) : ∃ h', ysm h_ h' ∧ (((bpat h' 341 1 = some (.int (v400 + (1 : Int32)))) ∧ (∀ a_ j_ : Nat, ¬ (a_ = 341 ∧ j_ = 1) → bpat h' a_ j_ = bpat h_ a_ j_) ∧ (∀ D_, 60 ≤ D_ → xrun D_ 188 13 [(0, .index 338), (1, .int v1_), (2, .int v2), (3, .int v3)] [.int (1 : Int32)] h_ (some (.int (Int32.ofInt (-1000001))), h', [])))) := by
  have hA : yas mhdI_A (mhdI_r v1_ v2 v3 v400) (yg mhdI_s) := ⟨fun q_ hq => absurd hq List.not_mem_nil, fun q_ hq => absurd hq List.not_mem_nil, fun q_ hq => absurd hq List.not_mem_nil, fun n_ hn => yg_lo hn, fun q_ hq => absurd hq List.not_mem_nil⟩
  have Hs : ysh mhdI_A.1 (yg mhdI_s) h_ := ysh_of2 hs (fun q_ hq => absurd hq List.not_mem_nil)
  have Ho : ymem (mhdI_r v1_ v2 v3 v400) (yg mhdI_s) mhdI_O h_ := List.forall_mem_cons.mpr ⟨bpat_some (fxr_at hs.2 (show fxk fxl 338 3 = some 341 by decide +kernel)), List.forall_mem_cons.mpr ⟨bpat_some o0_, fun q_ hq => absurd hq List.not_mem_nil⟩⟩
  have HC : ∀ q_ ∈ mhdI_C, xhold (mhdI_r v1_ v2 v3 v400) q_ := List.forall_mem_cons.mpr ⟨xh_ltT c0_, fun q_ hq => absurd hq List.not_mem_nil⟩
  rcases yrun (yis_ok mhdI_k) hA Hs Ho HC with ⟨q_, hq, h', K_, G_⟩ | ⟨q_, hq, h', K_, G_⟩
  · cases hq
  · have e_ := List.mem_singleton.mp hq
    subst e_
    exact ⟨h', yfr_sm K_.2.2.2 hs K_.1 (ywa_r mhdI_w List.mem_cons_self), ⟨bpat_of (K_.2.1 _ List.mem_cons_self), fun a_ j_ n0_ => yfr_bp K_.2.2.2 (List.forall_mem_cons.mpr ⟨fun e_ => n0_ ⟨e_.1.symm, e_.2.symm⟩, fun q_ hq => absurd hq List.not_mem_nil⟩), G_⟩⟩
-- mhdG: 9 steps, 1 ends, 0 returns
def mhdG_L : List (Nat × Nat × Nat) := []
def mhdG_O : yO := [(338, .int 4, .index 342)]
def mhdG_A : yA := (yZ mhdG_L, [], [], [], [])
def mhdG_C : List xB := [(.lt, .arg 3, .int (Int32.ofInt (-1)), false)]
def mhdG_ss : List yS := [(34, [(0, .index 338), (1, .arg 1), (2, .arg 2), (3, .arg 3)], [.index 342, .arg 2, .arg 1, .index 338], [(338, .int 4, .index 342)], [(.lt, .arg 3, .int (Int32.ofInt (-1)), false)], [])]
def mhdG_rs : List yR := []
theorem mhdG_w : ywa mhdG_A mhdG_ss mhdG_rs = true := by decide +kernel
theorem mhdG_k : yis (yev mhdG_A 3000 60 188 [34] (13, [(0, .index 338), (1, .arg 1), (2, .arg 2), (3, .arg 3)], [.int 1], mhdG_O, mhdG_C, [])) mhdG_ss mhdG_rs = true := by decide +kernel
def mhdG_r (v1_ v2 v3 : Int32) (k_ : Nat) : Value := bif Nat.beq k_ 1 then .int v1_ else (bif Nat.beq k_ 2 then .int v2 else (bif Nat.beq k_ 3 then .int v3 else (.int 0)))
def mhdG_s (n_ : Nat) : Nat := 0
theorem mhdG {h_ : xH} {v1_ v2 v3 : Int32} (hs : sHp h_) (c0_ : (Int32.ofInt (-1)).toInt ≤ v3.toInt) : ∃ h', ysm h_ h' ∧ (((∀ a_ j_ : Nat, bpat h' a_ j_ = bpat h_ a_ j_) ∧ (bldD 60 188 13 [(0, .index 338), (1, .int v1_), (2, .int v2), (3, .int v3)] [.int (1 : Int32)] h_ 34 [(0, .index 338), (1, .int v1_), (2, .int v2), (3, .int v3)] [.index 342, .int v2, .int v1_, .index 338] h'))) := by
  have hA : yas mhdG_A (mhdG_r v1_ v2 v3) (yg mhdG_s) := ⟨fun q_ hq => absurd hq List.not_mem_nil, fun q_ hq => absurd hq List.not_mem_nil, fun q_ hq => absurd hq List.not_mem_nil, fun n_ hn => yg_lo hn, fun q_ hq => absurd hq List.not_mem_nil⟩
  have Hs : ysh mhdG_A.1 (yg mhdG_s) h_ := ysh_of2 hs (fun q_ hq => absurd hq List.not_mem_nil)
  have Ho : ymem (mhdG_r v1_ v2 v3) (yg mhdG_s) mhdG_O h_ := List.forall_mem_cons.mpr ⟨bpat_some (fxr_at hs.2 (show fxk fxl 338 4 = some 342 by decide +kernel)), fun q_ hq => absurd hq List.not_mem_nil⟩
  have HC : ∀ q_ ∈ mhdG_C, xhold (mhdG_r v1_ v2 v3) q_ := List.forall_mem_cons.mpr ⟨xh_ltF c0_, fun q_ hq => absurd hq List.not_mem_nil⟩
  rcases yrun (yis_ok mhdG_k) hA Hs Ho HC with ⟨q_, hq, h', K_, G_⟩ | ⟨q_, hq, h', K_, G_⟩
  · have e_ := List.mem_singleton.mp hq
    subst e_
    exact ⟨h', yfr_sm K_.2.2.2 hs K_.1 (ywa_s mhdG_w List.mem_cons_self), ⟨fun a_ j_ => yfr_bp K_.2.2.2 (fun q_ hq => absurd hq List.not_mem_nil), G_⟩⟩
  · cases hq
-- mhdH: 4 steps, 1 ends, 0 returns
def mhdH_L : List (Nat × Nat × Nat) := []
def mhdH_O : yO := [(338, .int 4, .index 342)]
def mhdH_A : yA := (yZ mhdH_L, [], [], [], [])
def mhdH_C : List xB := []
def mhdH_ss : List yS := [(43, [(0, .index 338), (1, .arg 1), (2, .arg 2), (3, .arg 3)], [.arg 3, .index 342, .index 338], [(338, .int 4, .index 342)], [], [])]
def mhdH_rs : List yR := []
theorem mhdH_w : ywa mhdH_A mhdH_ss mhdH_rs = true := by decide +kernel
theorem mhdH_k : yis (yev mhdH_A 3000 60 188 [43] (37, [(0, .index 338), (1, .arg 1), (2, .arg 2), (3, .arg 3)], [], mhdH_O, mhdH_C, [])) mhdH_ss mhdH_rs = true := by decide +kernel
def mhdH_r (v1_ v2 v3 : Int32) (k_ : Nat) : Value := bif Nat.beq k_ 1 then .int v1_ else (bif Nat.beq k_ 2 then .int v2 else (bif Nat.beq k_ 3 then .int v3 else (.int 0)))
def mhdH_s (n_ : Nat) : Nat := 0
theorem mhdH {h_ : xH} {v1_ v2 v3 : Int32} (hs : sHp h_) : ∃ h', ysm h_ h' ∧ (((∀ a_ j_ : Nat, bpat h' a_ j_ = bpat h_ a_ j_) ∧ (bldD 60 188 37 [(0, .index 338), (1, .int v1_), (2, .int v2), (3, .int v3)] [] h_ 43 [(0, .index 338), (1, .int v1_), (2, .int v2), (3, .int v3)] [.int v3, .index 342, .index 338] h'))) := by
  have hA : yas mhdH_A (mhdH_r v1_ v2 v3) (yg mhdH_s) := ⟨fun q_ hq => absurd hq List.not_mem_nil, fun q_ hq => absurd hq List.not_mem_nil, fun q_ hq => absurd hq List.not_mem_nil, fun n_ hn => yg_lo hn, fun q_ hq => absurd hq List.not_mem_nil⟩
  have Hs : ysh mhdH_A.1 (yg mhdH_s) h_ := ysh_of2 hs (fun q_ hq => absurd hq List.not_mem_nil)
  have Ho : ymem (mhdH_r v1_ v2 v3) (yg mhdH_s) mhdH_O h_ := List.forall_mem_cons.mpr ⟨bpat_some (fxr_at hs.2 (show fxk fxl 338 4 = some 342 by decide +kernel)), fun q_ hq => absurd hq List.not_mem_nil⟩
  have HC : ∀ q_ ∈ mhdH_C, xhold (mhdH_r v1_ v2 v3) q_ := fun q_ hq => absurd hq List.not_mem_nil
  rcases yrun (yis_ok mhdH_k) hA Hs Ho HC with ⟨q_, hq, h', K_, G_⟩ | ⟨q_, hq, h', K_, G_⟩
  · have e_ := List.mem_singleton.mp hq
    subst e_
    exact ⟨h', yfr_sm K_.2.2.2 hs K_.1 (ywa_s mhdH_w List.mem_cons_self), ⟨fun a_ j_ => yfr_bp K_.2.2.2 (fun q_ hq => absurd hq List.not_mem_nil), G_⟩⟩
  · cases hq
-- mhdR: 1 steps, 0 ends, 1 returns
def mhdR_L : List (Nat × Nat × Nat) := []
def mhdR_O : yO := []
def mhdR_A : yA := (yZ mhdR_L, [], [], [], [])
def mhdR_C : List xB := []
def mhdR_ss : List yS := []
def mhdR_rs : List yR := [(some (.arg 5), [], [], [])]
theorem mhdR_w : ywa mhdR_A mhdR_ss mhdR_rs = true := by decide +kernel
theorem mhdR_k : yis (yev mhdR_A 3000 60 188 [] (46, [(0, .index 338), (1, .arg 1), (2, .arg 2), (3, .arg 3)], [.arg 5], mhdR_O, mhdR_C, [])) mhdR_ss mhdR_rs = true := by decide +kernel
def mhdR_r (v1_ v2 v3 v5 : Int32) (k_ : Nat) : Value := bif Nat.beq k_ 1 then .int v1_ else (bif Nat.beq k_ 2 then .int v2 else (bif Nat.beq k_ 3 then .int v3 else (bif Nat.beq k_ 5 then .int v5 else (.int 0))))
def mhdR_s (n_ : Nat) : Nat := 0
theorem mhdR {h_ : xH} {v1_ v2 v3 v5 : Int32} (hs : sHp h_) : ∃ h', ysm h_ h' ∧ (((∀ a_ j_ : Nat, bpat h' a_ j_ = bpat h_ a_ j_) ∧ (∀ D_, 60 ≤ D_ → xrun D_ 188 46 [(0, .index 338), (1, .int v1_), (2, .int v2), (3, .int v3)] [.int v5] h_ (some (.int v5), h', [])))) := by
  have hA : yas mhdR_A (mhdR_r v1_ v2 v3 v5) (yg mhdR_s) := ⟨fun q_ hq => absurd hq List.not_mem_nil, fun q_ hq => absurd hq List.not_mem_nil, fun q_ hq => absurd hq List.not_mem_nil, fun n_ hn => yg_lo hn, fun q_ hq => absurd hq List.not_mem_nil⟩
  have Hs : ysh mhdR_A.1 (yg mhdR_s) h_ := ysh_of2 hs (fun q_ hq => absurd hq List.not_mem_nil)
  have Ho : ymem (mhdR_r v1_ v2 v3 v5) (yg mhdR_s) mhdR_O h_ := fun q_ hq => absurd hq List.not_mem_nil
  have HC : ∀ q_ ∈ mhdR_C, xhold (mhdR_r v1_ v2 v3 v5) q_ := fun q_ hq => absurd hq List.not_mem_nil
  rcases yrun (yis_ok mhdR_k) hA Hs Ho HC with ⟨q_, hq, h', K_, G_⟩ | ⟨q_, hq, h', K_, G_⟩
  · cases hq
  · have e_ := List.mem_singleton.mp hq
    subst e_
    exact ⟨h', yfr_sm K_.2.2.2 hs K_.1 (ywa_r mhdR_w List.mem_cons_self), ⟨fun a_ j_ => yfr_bp K_.2.2.2 (fun q_ hq => absurd hq List.not_mem_nil), G_⟩⟩
theorem sosX {a_ b_ : Nat} {l : List Int32} {i_ y_ : Int32} {h_ : xH} (hs : sHp h_) (R_ : rwx h_ a_ b_ 12 l) (oy : bpat h_ 323 1 = some (.int y_)) : ∃ h', ysm h_ h' ∧ ((∀ c_ j_, ¬ (c_ = 323 ∧ j_ = 1) → bpat h' c_ j_ = bpat h_ c_ j_) ∧ ∀ D_, 60 ≤ D_ → xrun D_ 119 0 [(0, .index 0), (1, .index a_), (2, .int i_)] [] h_ (some (.int (tldF l i_)), h', [])) := by
  have l12 : l.length ≤ 12 := R_.2.2.1
  have il := i32n (i_ := l.length) (by omega)
  have zm := im1_
  by_cases g_ : i_.toInt = -1
  · rw [tld_a g_]
    obtain ⟨h1, m_, f_, r_⟩ := xsoA (v2 := i_) (v300 := Int32.ofNat l.length) hs R_.1.1 R_.2.1.2 (Int32.toInt_inj.mp g_)
    exact ⟨h1, m_, fun c_ j_ _ => f_ c_ j_, r_⟩
  have gn : ¬ i_ = Int32.ofInt (-1) := fun q_ => g_ (by rw [q_]; rfl)
  by_cases g2 : 0 ≤ i_.toInt ∧ i_.toInt < l.length
  · rw [tld_b g2]
    obtain ⟨h1, m_, f_, r_⟩ := xsoB (v2 := i_) (v300 := Int32.ofNat l.length) hs R_.1.1 R_.1.2 R_.2.1.2 R_.2.1.1 (R_.2.2.2 _ _ (getD_a (by omega))) ⟨by omega, by omega⟩ (by omega) (by omega) gn
    exact ⟨h1, m_, fun c_ j_ _ => f_ c_ j_, r_⟩
  rw [tld_c g_ g2]
  by_cases g3_ : i_.toInt < -1
  · obtain ⟨h1, m_, w0_, f_, r_⟩ := xsoC (v2 := i_) hs R_.1.1 oy (by omega) gn
    exact ⟨h1, m_, f_, r_⟩
  · obtain ⟨h1, m_, w0_, f_, r_⟩ := xsoD (v2 := i_) (v300 := Int32.ofNat l.length) hs R_.1.1 R_.2.1.2 oy (by omega) (by omega) gn
    exact ⟨h1, m_, f_, r_⟩
theorem tldM {b_ : Nat} {l : List Int32} {i_ y_ : Int32} {h_ : xH} (R_ : rM b_ h_ l) (oy : bpat h_ 341 1 = some (.int y_)) : ∃ h', ysm h_ h' ∧ ((∀ c_ j_, ¬ (c_ = 341 ∧ j_ = 1) → bpat h' c_ j_ = bpat h_ c_ j_) ∧ ∀ D_, 60 ≤ D_ → xrun D_ 161 0 [(0, .index 338), (1, .index b_), (2, .int i_)] [] h_ (some (.int (tldF l i_)), h', [])) := by
  have l12 : l.length ≤ 12 := R_.2.2
  have il := i32n (i_ := l.length) (by omega)
  have zm := im1_
  have z0 := z0_
  have sb_ : (Int32.ofNat l.length - 1).toInt = (l.length : Int) - 1 := by
    rw [i32j _ (by omega) (by omega), il]
  by_cases g_ : i_.toInt = -1
  · rw [tld_a g_]
    obtain ⟨h1, m_, f_, r_⟩ := mtoA (v2 := i_) (v300 := Int32.ofNat l.length) R_.1 R_.2.1.1 R_.2.1.2.1 (Int32.toInt_inj.mp g_)
    exact ⟨h1, m_, fun c_ j_ _ => f_ c_ j_, r_⟩
  have gn : ¬ i_ = Int32.ofInt (-1) := fun q_ => g_ (by rw [q_]; rfl)
  by_cases g2 : 0 ≤ i_.toInt ∧ i_.toInt < l.length
  · rw [tld_b g2]
    have e1_ : (1 : Int32) + i_ = Int32.ofNat (1 + i_.toInt.toNat) := by
      have e_ : i_ = Int32.ofNat i_.toInt.toNat := Int32.toInt_inj.mp (by rw [i32n (by omega)]; omega)
      have e2_ := i32p 1 i_.toInt.toNat
      rw [← e_] at e2_
      exact e2_
    have t1_ : ((1 : Int32) + i_).toInt = ((1 + i_.toInt.toNat : Nat) : Int) := by rw [e1_]; exact i32n (by omega)
    obtain ⟨h1, m_, f_, r_⟩ := mtoB (v2 := i_) (v300 := Int32.ofNat l.length) R_.1 R_.2.1.1 R_.2.1.2.1 (by rw [t1_]; have z_ := R_.2.1.2.2 i_.toInt.toNat _ (getD_a (by omega)); rw [Nat.zero_add] at z_; exact z_) ⟨by omega, by omega⟩ (by omega) (by omega) gn
    exact ⟨h1, m_, fun c_ j_ _ => f_ c_ j_, r_⟩
  rw [tld_c g_ g2]
  by_cases g3_ : i_.toInt < 0
  · obtain ⟨h1, m_, w0_, f_, r_⟩ := mtoC (v2 := i_) R_.1 R_.2.1.1 R_.2.1.2.1 oy (by omega) gn
    exact ⟨h1, m_, f_, r_⟩
  · obtain ⟨h1, m_, w0_, f_, r_⟩ := mtoD (v2 := i_) (v300 := Int32.ofNat l.length) R_.1 R_.2.1.1 R_.2.1.2.1 oy (by omega) (by omega) gn
    exact ⟨h1, m_, f_, r_⟩
-- ===== soundOf
def soundOfF (W_ : Nat → List Int32) (V : Nat → Int32) (z_ i_ : Int32) : (Nat → List Int32) × (Nat → Int32) × Int32 := if 0 ≤ z_.toInt ∧ z_.toInt < (V 0).toInt then (W_, V, tldF (W_ z_.toInt.toNat) i_) else (W_, V, Int32.ofInt (-1000001))
theorem x_soundOf {W_ : Nat → List Int32} {V : Nat → Int32} {h_ : xH} {z_ i_ : Int32} (B_ : bInv bZ bIj h_) (K_ : okS W_ V) (H_ : SX W_ V h_) : ∃ h', ysm h_ h' ∧ (SX (soundOfF W_ V z_ i_).1 (soundOfF W_ V z_ i_).2.1 h' ∧ ∀ D_, 62 ≤ D_ → xrun D_ 76 0 [(0, .index 0), (1, .int z_), (2, .int i_)] [] h_ (some (.int (soundOfF W_ V z_ i_).2.2), h', [])) := by
  obtain ⟨y_, oy⟩ := xerr (k_ := 1) B_ (by omega)
  have zz := z0_
  unfold soundOfF
  obtain ⟨h0, m0_, e_⟩ := xsfE (v1_ := z_) (v2 := i_) H_.1 (xNc H_) oy
  rcases e_ with ⟨g1, g2, f_, r_⟩ | ⟨g1, w0_, f_, r_⟩ | ⟨g1, g2, w0_, f_, r_⟩
  rotate_left
  · rw [if_neg (fun q_ => by omega)]; exact ⟨h0, m0_, SX_e H_ m0_ f_, fun D_ hD => r_ D_ (by omega)⟩
  · rw [if_neg (fun q_ => by omega)]; exact ⟨h0, m0_, SX_e H_ m0_ f_, fun D_ hD => r_ D_ (by omega)⟩
  have H0 := SX_fr H_ m0_ (fun c_ j_ _ => f_ c_ j_)
  rw [if_pos ⟨by omega, by omega⟩]
  obtain ⟨c_, hc_, hN_, rfl, ec⟩ := isC_n (z_ := z_) K_ ⟨by omega, by omega⟩
  obtain ⟨s1_, s2_, s3_⟩ := cl_s H0.1 hc_
  rw [ec]
  obtain ⟨h1, m1_, f1_, ld1⟩ := xsfG (v1_ := Int32.ofNat c_) (v2 := i_) H0.1 s2_ (by rw [ec]; exact s1_) ⟨by omega, by omega⟩
  have H1_ := SX_fr H0 m1_ (fun c_ j_ _ => f1_ c_ j_)
  have RC := SX_w H1_ (cl_x hc_)
  obtain ⟨h2, m2_, f2_, r2⟩ := sosX (i_ := i_) H1_.1 RC ((f1_ _ _).trans ((f_ _ _).trans oy))
  have ld2 := ycv (mi := 76) (pc := 25) (cm := 119) (lo_ := [(0, .index 0), (1, .int (Int32.ofNat c_)), (2, .int i_)]) (st_ := [.int i_, .index (34 + 2 * c_), .index 0]) (as_ := [.index (34 + 2 * c_), .int i_]) (s' := []) rfl rfl (bcq_of (n_ := 0) (z_ := (11, 15)) H1_.1 rfl) rfl (xcc_l (List.forall_mem_cons.mpr ⟨xidx_i (bcq_lt (bcq_of (n_ := 0) (z_ := (11, 15)) H1_.1 rfl)), List.forall_mem_cons.mpr ⟨rfl, List.forall_mem_cons.mpr ⟨rfl, fun q_ hq => absurd hq List.not_mem_nil⟩⟩⟩) (fun t_ ht => absurd ht List.not_mem_nil) (Nat.le_of_ble_eq_true rfl)) r2
  obtain ⟨h3, m3_, f3_, r3⟩ := xsfR (v1_ := Int32.ofNat c_) (v2 := i_) (v5 := tldF (W_ c_) i_) m2_.1
  exact ⟨h3, ysm_tr m0_ (ysm_tr m1_ (ysm_tr m2_ m3_)), SX_fr (SX_e H1_ m2_ f2_) m3_ (fun c_ j_ _ => f3_ c_ j_), fun D_ hD => r_ D_ (by omega) _ (ld1 D_ (by omega) _ (ld2 D_ (by omega) _ (r3 D_ (by omega))))⟩
theorem i34e {c_ : Nat} (hc_ : c_ < 12) : (34 : Int32) + 13 * Int32.ofNat c_ = Int32.ofNat (34 + 13 * c_) := by
  have k_ : (List.range 12).all (fun c_ => decide ((34 : Int32) + 13 * Int32.ofNat c_ = Int32.ofNat (34 + 13 * c_))) = true := by decide +kernel
  exact of_decide_eq_true (List.all_eq_true.mp k_ c_ (List.mem_range.mpr hc_))
/-- a CALL's row is taken, the reference -/
theorem c_take {W_ : Nat → List Int32} {V : Nat → Int32} {h_ : xH} {mi pc idx ln p0_ a1_ b1 d1_ b_ c_ : Nat} {lo_ : xL} {s' : List Jvm.Term} (hcd : xcd mi pc = some (.invokevirtual idx, ln, [p0_, 145, a1_, b1, d1_])) (hcc : xcc h_.length lo_ s' = true) (K_ : okS W_ V) (H_ : SM W_ V h_) (hr : mrC b_) (hc_ : c_ < 12) (hz : ∀ j_, j_ < 768 → ∃ y_ : Int32, bpat h_ 339 j_ = some (.int y_)) : ∃ h', (SM W_ V h' ∧ frb b_ h_ h') ∧ (rM b_ h' (W_ c_) ∧ bldD 61 mi pc lo_ (.index b_ :: .int (Int32.ofNat (34 + 13 * c_)) :: .index 338 :: s') h_ (pc + 3) lo_ s' h') := by
  obtain ⟨k1_, x1_⟩ := mrC_s H_.1 hr
  have Tq : bcq h_ 338 12 26 := bcq_of (n_ := 338) (z_ := (12, 26)) H_.1 rfl
  have Q_ : bcq h_ 339 20 768 := bcq_of (n_ := 339) (z_ := (20, 768)) H_.1 rfl
  have kc_ := K_.1.2.2.1 c_ hc_
  rw [Nat.zero_add] at kc_
  have nb : ¬ b_ = 339 := by rcases hr with rfl | rfl | rfl <;> omega
  obtain ⟨h', R_, F_, r_⟩ := takeM (b_ := b_) (q_ := 34 + 13 * c_) nb (by omega) H_.1 k1_ kc_.1 (fun j_ hj => hz _ (by omega)) (rwm_q Q_ (by have R_ := SM_w H_ (cl_m hc_); rw [show 35 + 13 * c_ = 34 + 13 * c_ + 1 by omega] at R_; exact R_))
  exact ⟨h', ⟨SM_fr H_ F_.1 (fun c2_ j_ hc2 => F_.2 c2_ j_ (fun q_ => by rw [q_, x1_] at hc2; cases hc2)), F_⟩, R_, ycv (as_ := [.int (Int32.ofNat (34 + 13 * c_)), .index b_]) hcd rfl Tq rfl hcc r_⟩
theorem m_soundOf {W_ : Nat → List Int32} {V : Nat → Int32} {h_ : xH} {z_ i_ : Int32} (B_ : bInv bZ bIj h_) (K_ : okS W_ V) (H_ : SM W_ V h_) : ∃ h', ysm h_ h' ∧ (SM (soundOfF W_ V z_ i_).1 (soundOfF W_ V z_ i_).2.1 h' ∧ ∀ D_, 62 ≤ D_ → xrun D_ 162 0 [(0, .index 338), (1, .int z_), (2, .int i_)] [] h_ (some (.int (soundOfF W_ V z_ i_).2.2), h', [])) := by
  obtain ⟨y_, oy⟩ := merr (k_ := 1) B_ (by omega)
  have zz := z0_
  have kN_ := okN K_
  have n1_ := i32j (V 0) kN_.1 (by omega)
  have hz := m339 B_
  unfold soundOfF
  obtain ⟨h0, m0_, e_⟩ := msfE (v1_ := z_) (v2 := i_) H_.1 (mNc H_) oy
  rcases e_ with ⟨g1, g2, f_, r_⟩ | ⟨g1, w0_, f_, r_⟩ | ⟨g1, g2, w0_, f_, r_⟩
  rotate_left
  · rw [if_neg (fun q_ => by omega)]; exact ⟨h0, m0_, SM_e H_ m0_ f_, fun D_ hD => r_ D_ (by omega)⟩
  · rw [if_neg (fun q_ => by omega)]; exact ⟨h0, m0_, SM_e H_ m0_ f_, fun D_ hD => r_ D_ (by omega)⟩
  have H0 := SM_fr H_ m0_ (fun c_ j_ _ => f_ c_ j_)
  rw [if_pos ⟨by omega, by omega⟩]
  obtain ⟨c_, hc_, hN_, rfl, ec⟩ := isC_n (z_ := z_) K_ ⟨by omega, by omega⟩
  rw [ec]
  obtain ⟨h1, m1_, f1_, ld1⟩ := msfG (v1_ := Int32.ofNat c_) (v2 := i_) H0.1
  rw [i34e hc_] at ld1
  have H1_ := SM_fr H0 m1_ (fun c_ j_ _ => f1_ c_ j_)
  obtain ⟨h2, ⟨H2_, F2⟩, R2, ld2⟩ := c_take (mi := 162) (pc := 26) (lo_ := [(0, .index 338), (1, .int (Int32.ofNat c_)), (2, .int i_)]) (b_ := 342) (s' := []) rfl (xcc_l (List.forall_mem_cons.mpr ⟨xidx_i (bcq_lt (bcq_of (n_ := 338) (z_ := (12, 26)) H1_.1 rfl)), List.forall_mem_cons.mpr ⟨rfl, List.forall_mem_cons.mpr ⟨rfl, fun q_ hq => absurd hq List.not_mem_nil⟩⟩⟩) (fun t_ ht => absurd ht List.not_mem_nil) (Nat.le_of_ble_eq_true rfl)) K_ H1_ (Or.inl rfl) hc_ (fun j_ hj => by rw [f1_, f_]; exact hz j_ hj)
  obtain ⟨h3, m3_, f3_, ld3⟩ := msfH (v1_ := Int32.ofNat c_) (v2 := i_) H2_.1
  have H3 := SM_fr H2_ m3_ (fun c_ j_ _ => f3_ c_ j_)
  have R3 := rM_all R2 m3_ f3_
  obtain ⟨h4, m4_, f4_, r4⟩ := tldM (i_ := i_) R3 ((f3_ _ _).trans ((F2.2 _ _ (by omega)).trans ((f1_ _ _).trans ((f_ _ _).trans oy))))
  have ld4 := ycv (mi := 162) (pc := 35) (cm := 161) (lo_ := [(0, .index 338), (1, .int (Int32.ofNat c_)), (2, .int i_)]) (st_ := [.int i_, .index 342, .index 338]) (as_ := [.index 342, .int i_]) (s' := []) rfl rfl (bcq_of (n_ := 338) (z_ := (12, 26)) H3.1 rfl) rfl (xcc_l (List.forall_mem_cons.mpr ⟨xidx_i (bcq_lt (bcq_of (n_ := 338) (z_ := (12, 26)) H3.1 rfl)), List.forall_mem_cons.mpr ⟨rfl, List.forall_mem_cons.mpr ⟨rfl, fun q_ hq => absurd hq List.not_mem_nil⟩⟩⟩) (fun t_ ht => absurd ht List.not_mem_nil) (Nat.le_of_ble_eq_true rfl)) r4
  obtain ⟨h5, m5_, f5_, r5_⟩ := msfR (v1_ := Int32.ofNat c_) (v2 := i_) (v5 := tldF (W_ c_) i_) m4_.1
  exact ⟨h5, ysm_tr m0_ (ysm_tr m1_ (ysm_tr F2.1 (ysm_tr m3_ (ysm_tr m4_ m5_)))), SM_fr (SM_e H3 m4_ f4_) m5_ (fun c_ j_ _ => f5_ c_ j_), fun D_ hD => r_ D_ (by omega) _ (ld1 D_ (by omega) _ (ld2 D_ (by omega) _ (ld3 D_ (by omega) _ (ld4 D_ (by omega) _ (r5_ D_ (by omega))))))⟩
-- ===== heard
noncomputable def heardF (W_ : Nat → List Int32) (V : Nat → Int32) (z_ d_ i_ : Int32) : (Nat → List Int32) × (Nat → Int32) × Int32 := pif ((0 ≤ z_.toInt ∧ z_.toInt < (V 0).toInt) ∧ isW (nR V) d_) (W_, V, tldF (hrd W_ V d_ (W_ z_.toInt.toNat)) i_) (W_, V, Int32.ofInt (-1000001))
theorem x_heard {W_ : Nat → List Int32} {V : Nat → Int32} {h_ : xH} {z_ d_ i_ : Int32} (B_ : bInv bZ bIj h_) (K_ : okS W_ V) (H_ : SX W_ V h_) : ∃ h', ysm h_ h' ∧ (SX (heardF W_ V z_ d_ i_).1 (heardF W_ V z_ d_ i_).2.1 h' ∧ ∀ D_, 70 ≤ D_ → xrun D_ 87 0 [(0, .index 0), (1, .int z_), (2, .int d_), (3, .int i_)] [] h_ (some (.int (heardF W_ V z_ d_ i_).2.2), h', [])) := by
  obtain ⟨y_, oy⟩ := xerr (k_ := 1) B_ (by omega)
  have zz := z0_
  unfold heardF
  obtain ⟨h0, m0_, e_⟩ := xhdE (v1_ := z_) (v2 := d_) (v3 := i_) H_.1 (xNc H_) oy
  rcases e_ with ⟨g1, g2, f_, r_⟩ | ⟨g1, w0_, f_, r_⟩ | ⟨g1, g2, w0_, f_, r_⟩
  rotate_left
  · rw [pif_f (fun q_ => by omega)]; exact ⟨h0, m0_, SX_e H_ m0_ f_, fun D_ hD => r_ D_ (by omega)⟩
  · rw [pif_f (fun q_ => by omega)]; exact ⟨h0, m0_, SX_e H_ m0_ f_, fun D_ hD => r_ D_ (by omega)⟩
  have H0 := SX_fr H_ m0_ (fun c_ j_ _ => f_ c_ j_)
  obtain ⟨c_, hc_, hN_, rfl, ec⟩ := isC_n (z_ := z_) K_ ⟨by omega, by omega⟩
  obtain ⟨h1, ⟨H1_, F1_⟩, e1_⟩ := c_rdw (mi := 87) (pc := 17) (lo_ := [(0, .index 0), (1, .int (Int32.ofNat c_)), (2, .int d_), (3, .int i_)]) (z_ := d_) (s' := []) rfl (xcc_l (List.forall_mem_cons.mpr ⟨xidx_i (bcq_lt (bcq_of (n_ := 0) (z_ := (11, 15)) H0.1 rfl)), List.forall_mem_cons.mpr ⟨rfl, List.forall_mem_cons.mpr ⟨rfl, List.forall_mem_cons.mpr ⟨rfl, fun q_ hq => absurd hq List.not_mem_nil⟩⟩⟩⟩) (fun t_ ht => absurd ht List.not_mem_nil) (Nat.le_of_ble_eq_true rfl)) K_ H0 (Or.inl ⟨rfl, rfl⟩)
  have fy : bpat h1 323 1 = some (.int y_) := (F1_.2 _ _ (by omega) (by omega)).trans ((f_ _ _).trans oy)
  rcases e1_ with ⟨gw, RW, ld1⟩ | ⟨gw, ld1⟩
  · rw [pif_t ⟨⟨by omega, by omega⟩, gw⟩, ec]
    obtain ⟨s1_, s2_, s3_⟩ := cl_s H1_.1 hc_
    obtain ⟨h2, m2_, f2_, ld2⟩ := xhdG (v1_ := Int32.ofNat c_) (v2 := d_) (v3 := i_) H1_.1 s2_ (by rw [ec]; exact s1_) ⟨by omega, by omega⟩
    have H2_ := SX_fr H1_ m2_ (fun c_ j_ _ => f2_ c_ j_)
    obtain ⟨h3, ⟨H3, F3⟩, R3, ld3⟩ := c_hear (mi := 87) (pc := 50) (lo_ := [(0, .index 0), (1, .int (Int32.ofNat c_)), (2, .int d_), (3, .int i_)]) (s' := []) rfl (xcc_l (List.forall_mem_cons.mpr ⟨xidx_i (bcq_lt (bcq_of (n_ := 0) (z_ := (11, 15)) H2_.1 rfl)), List.forall_mem_cons.mpr ⟨rfl, List.forall_mem_cons.mpr ⟨rfl, List.forall_mem_cons.mpr ⟨rfl, fun q_ hq => absurd hq List.not_mem_nil⟩⟩⟩⟩) (fun t_ ht => absurd ht List.not_mem_nil) (Nat.le_of_ble_eq_true rfl)) K_ H2_ (Or.inl ⟨rfl, rfl⟩) (Or.inl ⟨rfl, rfl⟩) hc_ gw (rwx_keep RW m2_ (fun c_ j_ _ => f2_ c_ j_))
    obtain ⟨h4, m4_, f4_, ld4⟩ := xhdH (v1_ := Int32.ofNat c_) (v2 := d_) (v3 := i_) H3.1
    have H4 := SX_fr H3 m4_ (fun c_ j_ _ => f4_ c_ j_)
    have R4 := rW_all R3 m4_ f4_
    have gy : bpat h4 323 1 = some (.int y_) := (f4_ _ _).trans ((F3.2 _ _ (by omega) (by omega) (by omega) (by omega)).trans ((f2_ _ _).trans fy))
    obtain ⟨h5, m5_, f5_, r5_⟩ := sosX (i_ := i_) H4.1 R4.2.1 gy
    have ld5 := ycv (mi := 87) (pc := 59) (cm := 119) (lo_ := [(0, .index 0), (1, .int (Int32.ofNat c_)), (2, .int d_), (3, .int i_)]) (st_ := [.int i_, .index 318, .index 0]) (as_ := [.index 318, .int i_]) (s' := []) rfl rfl (bcq_of (n_ := 0) (z_ := (11, 15)) H4.1 rfl) rfl (xcc_l (List.forall_mem_cons.mpr ⟨xidx_i (bcq_lt (bcq_of (n_ := 0) (z_ := (11, 15)) H4.1 rfl)), List.forall_mem_cons.mpr ⟨rfl, List.forall_mem_cons.mpr ⟨rfl, List.forall_mem_cons.mpr ⟨rfl, fun q_ hq => absurd hq List.not_mem_nil⟩⟩⟩⟩) (fun t_ ht => absurd ht List.not_mem_nil) (Nat.le_of_ble_eq_true rfl)) r5_
    obtain ⟨h6, m6_, f6_, r6⟩ := xhdR (v1_ := Int32.ofNat c_) (v2 := d_) (v3 := i_) (v5 := tldF (hrd W_ V d_ (W_ c_)) i_) m5_.1
    exact ⟨h6, ysm_tr m0_ (ysm_tr F1_.1 (ysm_tr m2_ (ysm_tr F3.1 (ysm_tr m4_ (ysm_tr m5_ m6_))))), SX_fr (SX_e H4 m5_ f5_) m6_ (fun c_ j_ _ => f6_ c_ j_), fun D_ hD => r_ D_ (by omega) _ (ld1 D_ (by omega) _ (ld2 D_ (by omega) _ (ld3 D_ (by omega) _ (ld4 D_ (by omega) _ (ld5 D_ (by omega) _ (r6 D_ (by omega)))))))⟩
  · rw [pif_f (fun q_ => gw q_.2)]
    obtain ⟨h2, m2_, w0_, f2_, r2⟩ := xhdF (v1_ := Int32.ofNat c_) (v2 := d_) (v3 := i_) H1_.1 fy
    exact ⟨h2, ysm_tr m0_ (ysm_tr F1_.1 m2_), SX_e H1_ m2_ f2_, fun D_ hD => r_ D_ (by omega) _ (ld1 D_ (by omega) _ (r2 D_ (by omega)))⟩
theorem m_heard {W_ : Nat → List Int32} {V : Nat → Int32} {h_ : xH} {z_ d_ i_ : Int32} (B_ : bInv bZ bIj h_) (K_ : okS W_ V) (H_ : SM W_ V h_) : ∃ h', ysm h_ h' ∧ (SM (heardF W_ V z_ d_ i_).1 (heardF W_ V z_ d_ i_).2.1 h' ∧ ∀ D_, 70 ≤ D_ → xrun D_ 188 0 [(0, .index 338), (1, .int z_), (2, .int d_), (3, .int i_)] [] h_ (some (.int (heardF W_ V z_ d_ i_).2.2), h', [])) := by
  obtain ⟨y_, oy⟩ := merr (k_ := 1) B_ (by omega)
  have zz := z0_
  have zm := im1_
  have kN_ := okN K_
  have n1_ := i32j (V 0) kN_.1 (by omega)
  have hz := m339 B_
  unfold heardF
  obtain ⟨h0, m0_, e_⟩ := mhdE (v1_ := z_) (v2 := d_) (v3 := i_) H_.1 (mNc H_) oy
  rcases e_ with ⟨g1, g2, f_, r_⟩ | ⟨g1, w0_, f_, r_⟩ | ⟨g1, g2, w0_, f_, r_⟩
  rotate_left
  · rw [pif_f (fun q_ => by omega)]; exact ⟨h0, m0_, SM_e H_ m0_ f_, fun D_ hD => r_ D_ (by omega)⟩
  · rw [pif_f (fun q_ => by omega)]; exact ⟨h0, m0_, SM_e H_ m0_ f_, fun D_ hD => r_ D_ (by omega)⟩
  have H0 := SM_fr H_ m0_ (fun c_ j_ _ => f_ c_ j_)
  obtain ⟨c_, hc_, hN_, rfl, ec⟩ := isC_n (z_ := z_) K_ ⟨by omega, by omega⟩
  obtain ⟨h1, ⟨H1_, F1_⟩, e1_⟩ := c_isw (mi := 188) (pc := 10) (lo_ := [(0, .index 338), (1, .int (Int32.ofNat c_)), (2, .int d_), (3, .int i_)]) (z_ := d_) (s' := []) rfl (xcc_l (List.forall_mem_cons.mpr ⟨xidx_i (bcq_lt (bcq_of (n_ := 338) (z_ := (12, 26)) H0.1 rfl)), List.forall_mem_cons.mpr ⟨rfl, List.forall_mem_cons.mpr ⟨rfl, List.forall_mem_cons.mpr ⟨rfl, fun q_ hq => absurd hq List.not_mem_nil⟩⟩⟩⟩) (fun t_ ht => absurd ht List.not_mem_nil) (Nat.le_of_ble_eq_true rfl)) K_ H0
  have fy : bpat h1 341 1 = some (.int y_) := (F1_.2 _ _).trans ((f_ _ _).trans oy)
  rcases e1_ with ⟨gw, ld1⟩ | ⟨gw, ld1⟩
  · rw [pif_t ⟨⟨by omega, by omega⟩, gw⟩, ec]
    by_cases gi : i_.toInt < -1
    · rw [tld_c (by omega) (by omega)]
      obtain ⟨h2, m2_, w0_, f2_, r2⟩ := mhdI (v1_ := Int32.ofNat c_) (v2 := d_) (v3 := i_) H1_.1 fy (by omega)
      exact ⟨h2, ysm_tr m0_ (ysm_tr F1_.1 m2_), SM_e H1_ m2_ f2_, fun D_ hD => r_ D_ (by omega) _ (ld1 D_ (by omega) _ (r2 D_ (by omega)))⟩
    obtain ⟨h2, m2_, f2_, ld2⟩ := mhdG (v1_ := Int32.ofNat c_) (v2 := d_) (v3 := i_) H1_.1 (by omega)
    have H2_ := SM_fr H1_ m2_ (fun c_ j_ _ => f2_ c_ j_)
    obtain ⟨h3, ⟨H3, F3⟩, R3, ld3⟩ := c_hears (mi := 188) (pc := 34) (lo_ := [(0, .index 338), (1, .int (Int32.ofNat c_)), (2, .int d_), (3, .int i_)]) (b_ := 342) (s' := []) rfl (xcc_l (List.forall_mem_cons.mpr ⟨xidx_i (bcq_lt (bcq_of (n_ := 338) (z_ := (12, 26)) H2_.1 rfl)), List.forall_mem_cons.mpr ⟨rfl, List.forall_mem_cons.mpr ⟨rfl, List.forall_mem_cons.mpr ⟨rfl, fun q_ hq => absurd hq List.not_mem_nil⟩⟩⟩⟩) (fun t_ ht => absurd ht List.not_mem_nil) (Nat.le_of_ble_eq_true rfl)) K_ H2_ (Or.inl rfl) hc_ gw (fun j_ hj => by rw [f2_, F1_.2, f_]; exact hz j_ hj)
    obtain ⟨h4, m4_, f4_, ld4⟩ := mhdH (v1_ := Int32.ofNat c_) (v2 := d_) (v3 := i_) H3.1
    have H4 := SM_fr H3 m4_ (fun c_ j_ _ => f4_ c_ j_)
    have R4 := rM_all R3 m4_ f4_
    have gy : bpat h4 341 1 = some (.int y_) := (f4_ _ _).trans ((F3.2 _ _ (by omega) (by omega) (by omega)).trans ((f2_ _ _).trans fy))
    obtain ⟨h5, m5_, f5_, r5_⟩ := tldM (i_ := i_) R4 gy
    have ld5 := ycv (mi := 188) (pc := 43) (cm := 161) (lo_ := [(0, .index 338), (1, .int (Int32.ofNat c_)), (2, .int d_), (3, .int i_)]) (st_ := [.int i_, .index 342, .index 338]) (as_ := [.index 342, .int i_]) (s' := []) rfl rfl (bcq_of (n_ := 338) (z_ := (12, 26)) H4.1 rfl) rfl (xcc_l (List.forall_mem_cons.mpr ⟨xidx_i (bcq_lt (bcq_of (n_ := 338) (z_ := (12, 26)) H4.1 rfl)), List.forall_mem_cons.mpr ⟨rfl, List.forall_mem_cons.mpr ⟨rfl, List.forall_mem_cons.mpr ⟨rfl, fun q_ hq => absurd hq List.not_mem_nil⟩⟩⟩⟩) (fun t_ ht => absurd ht List.not_mem_nil) (Nat.le_of_ble_eq_true rfl)) r5_
    obtain ⟨h6, m6_, f6_, r6⟩ := mhdR (v1_ := Int32.ofNat c_) (v2 := d_) (v3 := i_) (v5 := tldF (hrd W_ V d_ (W_ c_)) i_) m5_.1
    exact ⟨h6, ysm_tr m0_ (ysm_tr F1_.1 (ysm_tr m2_ (ysm_tr F3.1 (ysm_tr m4_ (ysm_tr m5_ m6_))))), SM_fr (SM_e H4 m5_ f5_) m6_ (fun c_ j_ _ => f6_ c_ j_), fun D_ hD => r_ D_ (by omega) _ (ld1 D_ (by omega) _ (ld2 D_ (by omega) _ (ld3 D_ (by omega) _ (ld4 D_ (by omega) _ (ld5 D_ (by omega) _ (r6 D_ (by omega)))))))⟩
  · rw [pif_f (fun q_ => gw q_.2)]
    obtain ⟨h2, m2_, w0_, f2_, r2⟩ := mhdF (v1_ := Int32.ofNat c_) (v2 := d_) (v3 := i_) H1_.1 fy
    exact ⟨h2, ysm_tr m0_ (ysm_tr F1_.1 m2_), SM_e H1_ m2_ f2_, fun D_ hD => r_ D_ (by omega) _ (ld1 D_ (by omega) _ (r2 D_ (by omega)))⟩
theorem ok_soundOf {W_ : Nat → List Int32} {V : Nat → Int32} (K_ : okS W_ V) (z_ i_ : Int32) : okS (soundOfF W_ V z_ i_).1 (soundOfF W_ V z_ i_).2.1 := by
  unfold soundOfF
  split <;> exact K_
theorem ok_heard {W_ : Nat → List Int32} {V : Nat → Int32} (K_ : okS W_ V) (z_ d_ i_ : Int32) : okS (heardF W_ V z_ d_ i_).1 (heardF W_ V z_ d_ i_).2.1 := by
  unfold heardF pif
  split <;> exact K_
