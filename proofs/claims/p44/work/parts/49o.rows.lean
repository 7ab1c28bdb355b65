-- ===== the reference's rows
def rM (b_ : Nat) (h_ : xH) (l : List Int32) : Prop := sHp h_ ∧ (rwm h_ b_ 0 13 l ∧ l.length ≤ 12)
def dny (_ : Nat) (x_ : Int32) : Int32 := if x_.toInt < 60 then pmC_F x_ else x_
def dn1 (j_ : Nat) (x_ : Int32) : Int32 := if j_ % 2 = 1 then dny j_ x_ else x_
def lsm (_ : Nat) (x_ : Int32) : Int32 := if x_.toInt < 60 then x_ else pmC_F x_
theorem i32p (i_ k_ : Nat) : Int32.ofNat i_ + Int32.ofNat k_ = Int32.ofNat (i_ + k_) := (Int32.ofNat_add i_ k_).symm
theorem i60 : (60 : Int32).toInt = 60 := by decide
-- tD1_v0: 32 steps, 2 ends, 0 returns
def tD1_v0_L : List (Nat × Nat × Nat) := [(1001, 20, 13)]
def tD1_v0_O : yO := [(1001, .int 0, .arg 300), (1001, .arg 3, .arg 301)]
def tD1_v0_A : yA := (yZ tD1_v0_L, [(.arg 3, 13)], [], [], [(143, [.arg 301], .arg 502)])
def tD1_v0_C : List xB := [(.le, .arg 3, .arg 300, true)]
def tD1_v0_ss : List yS := [(2, [(3, .add (.arg 3) (.int 1)), (0, .index 1001), (1, .int 1), (2, .int 1)], [], [(1001, .arg 3, .arg 301)], [(.lt, .arg 301, .int 60, false), (.le, .arg 3, .arg 300, true)], [(1001, .arg 3)]),
  (2, [(3, .add (.arg 3) (.int 1)), (0, .index 1001), (1, .int 1), (2, .int 1)], [], [(1001, .arg 3, .arg 502)], [(.lt, .arg 301, .int 60, true), (.le, .arg 3, .arg 300, true)], [(1001, .arg 3)])]
def tD1_v0_rs : List yR := []
theorem tD1_v0_w : ywa tD1_v0_A tD1_v0_ss tD1_v0_rs = true := by decide +kernel
theorem tD1_v0_k : yis (yev tD1_v0_A 3000 60 148 [2] (2, [(3, .arg 3), (0, .index 1001), (1, .int 1), (2, .int 1)], [], tD1_v0_O, tD1_v0_C, [])) tD1_v0_ss tD1_v0_rs = true := by decide +kernel
def tD1_v0_r (v3 v300 v301 v502 : Int32) (k_ : Nat) : Value := bif Nat.beq k_ 3 then .int v3 else (bif Nat.beq k_ 300 then .int v300 else (bif Nat.beq k_ 301 then .int v301 else (bif Nat.beq k_ 502 then .int v502 else (.int 0))))
def tD1_v0_s (a1001 : Nat) (n_ : Nat) : Nat := bif Nat.beq n_ 1001 then a1001 else (0)
theorem tD1_v0 {h_ : xH} {a1001 : Nat} {v3 v300 v301 v502 : Int32} (hs : sHp h_) (k1001 : bcq h_ a1001 20 13) (o0_ : bpat h_ a1001 0 = some (.int v300)) (o1 : bpat h_ a1001 (v3).toInt.toNat = some (.int v301)) (b0 : 0 ≤ (v3).toInt ∧ (v3).toInt < 13) (p0_ : ∀ (h_ : xH) (D_ : Nat), 5 ≤ D_ → xrun D_ 143 0 [(0, .int v301)] [] h_ (some (.int v502), h_, [])) (c0_ : v3.toInt ≤ v300.toInt) : ∃ h', ysm h_ h' ∧ ((((60 : Int32).toInt ≤ v301.toInt) ∧ (bpat h' a1001 (v3).toInt.toNat = some (.int v301)) ∧ (∀ a_ j_ : Nat, ¬ (a_ = a1001 ∧ j_ = (v3).toInt.toNat) → bpat h' a_ j_ = bpat h_ a_ j_) ∧ (bldD 60 148 2 [(3, .int v3), (0, .index a1001), (1, .int (1 : Int32)), (2, .int (1 : Int32))] [] h_ 2 [(3, .int (v3 + (1 : Int32))), (0, .index a1001), (1, .int (1 : Int32)), (2, .int (1 : Int32))] [] h'))
  ∨ ((v301.toInt < (60 : Int32).toInt) ∧ (bpat h' a1001 (v3).toInt.toNat = some (.int v502)) ∧ (∀ a_ j_ : Nat, ¬ (a_ = a1001 ∧ j_ = (v3).toInt.toNat) → bpat h' a_ j_ = bpat h_ a_ j_) ∧ (bldD 60 148 2 [(3, .int v3), (0, .index a1001), (1, .int (1 : Int32)), (2, .int (1 : Int32))] [] h_ 2 [(3, .int (v3 + (1 : Int32))), (0, .index a1001), (1, .int (1 : Int32)), (2, .int (1 : Int32))] [] h'))) := by
  have hA : yas tD1_v0_A (tD1_v0_r v3 v300 v301 v502) (yg (tD1_v0_s a1001)) := ⟨List.forall_mem_cons.mpr ⟨b0, fun q_ hq => absurd hq List.not_mem_nil⟩, fun q_ hq => absurd hq List.not_mem_nil, fun q_ hq => absurd hq List.not_mem_nil, fun n_ hn => yg_lo hn, List.forall_mem_cons.mpr ⟨p0_, fun q_ hq => absurd hq List.not_mem_nil⟩⟩
  have Hs : ysh tD1_v0_A.1 (yg (tD1_v0_s a1001)) h_ := ysh_of2 hs (List.forall_mem_cons.mpr ⟨⟨by decide, k1001⟩, fun q_ hq => absurd hq List.not_mem_nil⟩)
  have Ho : ymem (tD1_v0_r v3 v300 v301 v502) (yg (tD1_v0_s a1001)) tD1_v0_O h_ := List.forall_mem_cons.mpr ⟨bpat_some o0_, List.forall_mem_cons.mpr ⟨bpat_some o1, fun q_ hq => absurd hq List.not_mem_nil⟩⟩
  have HC : ∀ q_ ∈ tD1_v0_C, xhold (tD1_v0_r v3 v300 v301 v502) q_ := List.forall_mem_cons.mpr ⟨xh_leT c0_, fun q_ hq => absurd hq List.not_mem_nil⟩
  rcases yrun (yis_ok tD1_v0_k) hA Hs Ho HC with ⟨q_, hq, h', K_, G_⟩ | ⟨q_, hq, h', K_, G_⟩
  · rcases List.mem_cons.mp hq with e_ | hq
    · subst e_
      exact ⟨h', yfr_sm K_.2.2.2 hs K_.1 (ywa_s tD1_v0_w List.mem_cons_self), Or.inl (⟨xq_ltF rfl rfl (K_.2.2.1 _ List.mem_cons_self), bpat_of (K_.2.1 _ List.mem_cons_self), fun a_ j_ n0_ => yfr_bp K_.2.2.2 (List.forall_mem_cons.mpr ⟨fun e_ => n0_ ⟨e_.1.symm, e_.2.symm⟩, fun q_ hq => absurd hq List.not_mem_nil⟩), G_⟩)⟩
    have e_ := List.mem_singleton.mp hq
    subst e_
    exact ⟨h', yfr_sm K_.2.2.2 hs K_.1 (ywa_s tD1_v0_w (List.mem_cons_of_mem _ List.mem_cons_self)), Or.inr (⟨xq_ltT rfl rfl (K_.2.2.1 _ List.mem_cons_self), bpat_of (K_.2.1 _ List.mem_cons_self), fun a_ j_ n0_ => yfr_bp K_.2.2.2 (List.forall_mem_cons.mpr ⟨fun e_ => n0_ ⟨e_.1.symm, e_.2.symm⟩, fun q_ hq => absurd hq List.not_mem_nil⟩), G_⟩)⟩
  · cases hq
def tD1_hd (a1001 : Nat) (p1_ p2_ p3_ : Int32) (lo_ : xL) : Prop := (lo_ = [(3, .int p3_), (0, .index a1001), (1, .int p1_), (2, .int p2_)])
theorem tD1 {h_ : xH} {a1001 : Nat} {v3 v300 v301 v502 : Int32} {lo_ : xL} (hs : sHp h_) (k1001 : bcq h_ a1001 20 13) (o0_ : bpat h_ a1001 0 = some (.int v300)) (o1 : bpat h_ a1001 (v3).toInt.toNat = some (.int v301)) (b0 : 0 ≤ (v3).toInt ∧ (v3).toInt < 13) (p0_ : ∀ (h_ : xH) (D_ : Nat), 5 ≤ D_ → xrun D_ 143 0 [(0, .int v301)] [] h_ (some (.int v502), h_, [])) (c0_ : v3.toInt ≤ v300.toInt) (H_ : tD1_hd a1001 (1 : Int32) (1 : Int32) v3 lo_) : ∃ h', ysm h_ h' ∧ ((((60 : Int32).toInt ≤ v301.toInt) ∧ (bpat h' a1001 (v3).toInt.toNat = some (.int v301)) ∧ (∀ a_ j_ : Nat, ¬ (a_ = a1001 ∧ j_ = (v3).toInt.toNat) → bpat h' a_ j_ = bpat h_ a_ j_) ∧ (∃ lo', tD1_hd a1001 (1 : Int32) (1 : Int32) (v3 + (1 : Int32)) lo' ∧ bldD 60 148 2 lo_ [] h_ 2 lo' [] h'))
  ∨ ((v301.toInt < (60 : Int32).toInt) ∧ (bpat h' a1001 (v3).toInt.toNat = some (.int v502)) ∧ (∀ a_ j_ : Nat, ¬ (a_ = a1001 ∧ j_ = (v3).toInt.toNat) → bpat h' a_ j_ = bpat h_ a_ j_) ∧ (∃ lo', tD1_hd a1001 (1 : Int32) (1 : Int32) (v3 + (1 : Int32)) lo' ∧ bldD 60 148 2 lo_ [] h_ 2 lo' [] h'))) := by
  rcases H_ with rfl
  · obtain ⟨h', m_, e_⟩ := tD1_v0 hs k1001 o0_ o1 b0 p0_ c0_
    refine ⟨h', m_, ?_⟩
    rcases e_ with e_ | e_
    · obtain ⟨g0, g1, g2, g3_⟩ := e_
      exact Or.inl ⟨g0, g1, g2, ⟨_, rfl, g3_⟩⟩
    · obtain ⟨g0, g1, g2, g3_⟩ := e_
      exact Or.inr (⟨g0, g1, g2, ⟨_, rfl, g3_⟩⟩)
-- xD1_v0: 6 steps, 0 ends, 1 returns
def xD1_v0_L : List (Nat × Nat × Nat) := [(1001, 20, 13)]
def xD1_v0_O : yO := [(1001, .int 0, .arg 300)]
def xD1_v0_A : yA := (yZ xD1_v0_L, [], [], [], [])
def xD1_v0_C : List xB := [(.le, .arg 3, .arg 300, false)]
def xD1_v0_ss : List yS := []
def xD1_v0_rs : List yR := [(none, [(1001, .int 0, .arg 300)], [(.le, .arg 3, .arg 300, false)], [])]
theorem xD1_v0_w : ywa xD1_v0_A xD1_v0_ss xD1_v0_rs = true := by decide +kernel
theorem xD1_v0_k : yis (yev xD1_v0_A 3000 60 148 [2] (2, [(3, .arg 3), (0, .index 1001), (1, .int 1), (2, .int 1)], [], xD1_v0_O, xD1_v0_C, [])) xD1_v0_ss xD1_v0_rs = true := by decide +kernel
def xD1_v0_r (v3 v300 : Int32) (k_ : Nat) : Value := bif Nat.beq k_ 3 then .int v3 else (bif Nat.beq k_ 300 then .int v300 else (.int 0))
def xD1_v0_s (a1001 : Nat) (n_ : Nat) : Nat := bif Nat.beq n_ 1001 then a1001 else (0)
theorem xD1_v0 {h_ : xH} {a1001 : Nat} {v3 v300 : Int32} (hs : sHp h_) (k1001 : bcq h_ a1001 20 13) (o0_ : bpat h_ a1001 0 = some (.int v300)) (c0_ : v300.toInt < v3.toInt) : ∃ h', ysm h_ h' ∧ (((∀ a_ j_ : Nat, bpat h' a_ j_ = bpat h_ a_ j_) ∧ (∀ D_, 60 ≤ D_ → xrun D_ 148 2 [(3, .int v3), (0, .index a1001), (1, .int (1 : Int32)), (2, .int (1 : Int32))] [] h_ (none, h', [])))) := by
  have hA : yas xD1_v0_A (xD1_v0_r v3 v300) (yg (xD1_v0_s a1001)) := ⟨fun q_ hq => absurd hq List.not_mem_nil, fun q_ hq => absurd hq List.not_mem_nil, fun q_ hq => absurd hq List.not_mem_nil, fun n_ hn => yg_lo hn, fun q_ hq => absurd hq List.not_mem_nil⟩
  have Hs : ysh xD1_v0_A.1 (yg (xD1_v0_s a1001)) h_ := ysh_of2 hs (List.forall_mem_cons.mpr ⟨⟨by decide, k1001⟩, fun q_ hq => absurd hq List.not_mem_nil⟩)
  have Ho : ymem (xD1_v0_r v3 v300) (yg (xD1_v0_s a1001)) xD1_v0_O h_ := List.forall_mem_cons.mpr ⟨bpat_some o0_, fun q_ hq => absurd hq List.not_mem_nil⟩
  have HC : ∀ q_ ∈ xD1_v0_C, xhold (xD1_v0_r v3 v300) q_ := List.forall_mem_cons.mpr ⟨xh_leF c0_, fun q_ hq => absurd hq List.not_mem_nil⟩
  rcases yrun (yis_ok xD1_v0_k) hA Hs Ho HC with ⟨q_, hq, h', K_, G_⟩ | ⟨q_, hq, h', K_, G_⟩
  · cases hq
  · have e_ := List.mem_singleton.mp hq
    subst e_
    exact ⟨h', yfr_sm K_.2.2.2 hs K_.1 (ywa_r xD1_v0_w List.mem_cons_self), ⟨fun a_ j_ => yfr_bp K_.2.2.2 (fun q_ hq => absurd hq List.not_mem_nil), G_⟩⟩
theorem xD1 {h_ : xH} {a1001 : Nat} {v3 v300 : Int32} {lo_ : xL} (hs : sHp h_) (k1001 : bcq h_ a1001 20 13) (o0_ : bpat h_ a1001 0 = some (.int v300)) (c0_ : v300.toInt < v3.toInt) (H_ : tD1_hd a1001 (1 : Int32) (1 : Int32) v3 lo_) : ∃ h', ysm h_ h' ∧ (((∀ a_ j_ : Nat, bpat h' a_ j_ = bpat h_ a_ j_) ∧ (∀ D_, 60 ≤ D_ → xrun D_ 148 2 lo_ [] h_ (none, h', [])))) := by
  rcases H_ with rfl
  · obtain ⟨h', m_, e_⟩ := xD1_v0 hs k1001 o0_ c0_
    refine ⟨h', m_, ?_⟩
    obtain ⟨g0, g1⟩ := e_
    exact ⟨g0, g1⟩
/-- NAY, the reference: from its head on -/
theorem lD1 {b_ : Nat} {l : List Int32} {h_ : xH} {lo_ : xL} (R_ : rM b_ h_ l) (H_ : tD1_hd b_ 1 1 (Int32.ofNat 1) lo_) : ∃ h', rM b_ h' (mpf dny 0 l) ∧ frb b_ h_ h' ∧ eRet 148 2 lo_ h_ h' := by
  refine map_loop (mi := 148) (pc := 2) (d_ := 1) (HD := fun i_ lo_ => (i_ ≤ 14 ∧ True) ∧ tD1_hd b_ 1 1 (Int32.ofNat (i_ + 1)) lo_) (RW := rM b_) (FR := frb b_) (f_ := dny) (E_ := eRet 148 2) (by omega) (fun i_ lo_ H_ e_ y_ h1 h2 => by omega) frb_tr eRet_led (by
    intro i_ l h_ lo_ x_ R_ hx H_
    obtain ⟨hb_, H_⟩ := H_
    obtain ⟨Rs_, ⟨R1, R2, R3⟩, R7⟩ := R_
    have hi_ := (List.getElem?_eq_some_iff.mp hx).1
    have e6_ : bpat h_ b_ (Int32.ofNat (i_ + 1)).toInt.toNat = some (.int x_) := by
      rw [i32t (by omega), show i_ + 1 = 0 + 1 + i_ by omega]
      exact R3 i_ x_ hx
    obtain ⟨h1, m1_, e_⟩ := tD1 Rs_ R1 R2 e6_ ⟨by rw [i32n (by omega)]; omega, by rw [i32n (by omega)]; omega⟩ (pmC x_) (by rw [i32n (by omega), i32n (by omega)]; omega) H_
    have R_ : rwm h_ b_ 0 13 l := ⟨R1, R2, R3⟩
    rw [show (1 : Int32) = Int32.ofNat 1 from rfl, i32p, i32t (i_ := i_ + 1) (by omega), i60] at e_
    rcases e_ with ⟨g0, e1_, f1_, lo', H', ld⟩ | ⟨g0, e1_, f1_, lo', H', ld⟩
    · have en : dny i_ x_ = x_ := if_neg (by omega)
      refine ⟨h1, lo', ⟨m1_.1, ?_, by rw [List.length_set]; exact R7⟩, ⟨m1_, fun c_ j_ n_ => f1_ c_ j_ (fun q_ => n_ q_.1)⟩, ⟨⟨by omega, trivial⟩, H'⟩, ld⟩
      rw [en]
      exact rwm_set R_ m1_ hi_ (by rw [show 0 + 1 + i_ = i_ + 1 by omega]; exact e1_) (fun c_ j_ n_ => f1_ c_ j_ (by rw [show 0 + 1 + i_ = i_ + 1 by omega] at n_; exact n_))
    · have en : dny i_ x_ = pmC_F x_ := if_pos g0
      refine ⟨h1, lo', ⟨m1_.1, ?_, by rw [List.length_set]; exact R7⟩, ⟨m1_, fun c_ j_ n_ => f1_ c_ j_ (fun q_ => n_ q_.1)⟩, ⟨⟨by omega, trivial⟩, H'⟩, ld⟩
      rw [en]
      exact rwm_set R_ m1_ hi_ (by rw [show 0 + 1 + i_ = i_ + 1 by omega]; exact e1_) (fun c_ j_ n_ => f1_ c_ j_ (by rw [show 0 + 1 + i_ = i_ + 1 by omega] at n_; exact n_))) (by
    intro i_ l h_ lo_ R_ hl H_
    obtain ⟨hb_, H_⟩ := H_
    obtain ⟨Rs_, ⟨R1, R2, R3⟩, R7⟩ := R_
    obtain ⟨h1, m1_, f1_, e1_⟩ := xD1 Rs_ R1 R2 (by rw [i32n (by omega), i32n (by omega)]; omega) H_
    exact ⟨h1, ⟨m1_.1, rwm_keep ⟨R1, R2, R3⟩ m1_ (fun j_ _ _ => f1_ b_ j_), R7⟩, ⟨m1_, fun c_ j_ _ => f1_ c_ j_⟩, e1_⟩) l.length 0 l h_ _ (by omega) R_ ⟨⟨by omega, trivial⟩, H_⟩
-- tD2_v0: 32 steps, 2 ends, 0 returns
def tD2_v0_L : List (Nat × Nat × Nat) := [(1001, 20, 13)]
def tD2_v0_O : yO := [(1001, .int 0, .arg 300), (1001, .arg 3, .arg 301)]
def tD2_v0_A : yA := (yZ tD2_v0_L, [(.arg 3, 13)], [], [], [(143, [.arg 301], .arg 502)])
def tD2_v0_C : List xB := [(.le, .arg 3, .arg 300, true)]
def tD2_v0_ss : List yS := [(2, [(3, .add (.arg 3) (.int 2)), (0, .index 1001), (1, .int 2), (2, .int 2)], [], [(1001, .arg 3, .arg 301)], [(.lt, .arg 301, .int 60, false), (.le, .arg 3, .arg 300, true)], [(1001, .arg 3)]),
  (2, [(3, .add (.arg 3) (.int 2)), (0, .index 1001), (1, .int 2), (2, .int 2)], [], [(1001, .arg 3, .arg 502)], [(.lt, .arg 301, .int 60, true), (.le, .arg 3, .arg 300, true)], [(1001, .arg 3)])]
def tD2_v0_rs : List yR := []
theorem tD2_v0_w : ywa tD2_v0_A tD2_v0_ss tD2_v0_rs = true := by decide +kernel
theorem tD2_v0_k : yis (yev tD2_v0_A 3000 60 148 [2] (2, [(3, .arg 3), (0, .index 1001), (1, .int 2), (2, .int 2)], [], tD2_v0_O, tD2_v0_C, [])) tD2_v0_ss tD2_v0_rs = true := by decide +kernel
def tD2_v0_r (v3 v300 v301 v502 : Int32) (k_ : Nat) : Value := bif Nat.beq k_ 3 then .int v3 else (bif Nat.beq k_ 300 then .int v300 else (bif Nat.beq k_ 301 then .int v301 else (bif Nat.beq k_ 502 then .int v502 else (.int 0))))
def tD2_v0_s (a1001 : Nat) (n_ : Nat) : Nat := bif Nat.beq n_ 1001 then a1001 else (0)
theorem tD2_v0 {h_ : xH} {a1001 : Nat} {v3 v300 v301 v502 : Int32} (hs : sHp h_) (k1001 : bcq h_ a1001 20 13) (o0_ : bpat h_ a1001 0 = some (.int v300)) (o1 : bpat h_ a1001 (v3).toInt.toNat = some (.int v301)) (b0 : 0 ≤ (v3).toInt ∧ (v3).toInt < 13) (p0_ : ∀ (h_ : xH) (D_ : Nat), 5 ≤ D_ → xrun D_ 143 0 [(0, .int v301)] [] h_ (some (.int v502), h_, [])) (c0_ : v3.toInt ≤ v300.toInt) : ∃ h', ysm h_ h' ∧ ((((60 : Int32).toInt ≤ v301.toInt) ∧ (bpat h' a1001 (v3).toInt.toNat = some (.int v301)) ∧ (∀ a_ j_ : Nat, ¬ (a_ = a1001 ∧ j_ = (v3).toInt.toNat) → bpat h' a_ j_ = bpat h_ a_ j_) ∧ (bldD 60 148 2 [(3, .int v3), (0, .index a1001), (1, .int (2 : Int32)), (2, .int (2 : Int32))] [] h_ 2 [(3, .int (v3 + (2 : Int32))), (0, .index a1001), (1, .int (2 : Int32)), (2, .int (2 : Int32))] [] h'))
  ∨ ((v301.toInt < (60 : Int32).toInt) ∧ (bpat h' a1001 (v3).toInt.toNat = some (.int v502)) ∧ (∀ a_ j_ : Nat, ¬ (a_ = a1001 ∧ j_ = (v3).toInt.toNat) → bpat h' a_ j_ = bpat h_ a_ j_) ∧ (bldD 60 148 2 [(3, .int v3), (0, .index a1001), (1, .int (2 : Int32)), (2, .int (2 : Int32))] [] h_ 2 [(3, .int (v3 + (2 : Int32))), (0, .index a1001), (1, .int (2 : Int32)), (2, .int (2 : Int32))] [] h'))) := by
  have hA : yas tD2_v0_A (tD2_v0_r v3 v300 v301 v502) (yg (tD2_v0_s a1001)) := ⟨List.forall_mem_cons.mpr ⟨b0, fun q_ hq => absurd hq List.not_mem_nil⟩, fun q_ hq => absurd hq List.not_mem_nil, fun q_ hq => absurd hq List.not_mem_nil, fun n_ hn => yg_lo hn, List.forall_mem_cons.mpr ⟨p0_, fun q_ hq => absurd hq List.not_mem_nil⟩⟩
  have Hs : ysh tD2_v0_A.1 (yg (tD2_v0_s a1001)) h_ := ysh_of2 hs (List.forall_mem_cons.mpr ⟨⟨by decide, k1001⟩, fun q_ hq => absurd hq List.not_mem_nil⟩)
  have Ho : ymem (tD2_v0_r v3 v300 v301 v502) (yg (tD2_v0_s a1001)) tD2_v0_O h_ := List.forall_mem_cons.mpr ⟨bpat_some o0_, List.forall_mem_cons.mpr ⟨bpat_some o1, fun q_ hq => absurd hq List.not_mem_nil⟩⟩
  have HC : ∀ q_ ∈ tD2_v0_C, xhold (tD2_v0_r v3 v300 v301 v502) q_ := List.forall_mem_cons.mpr ⟨xh_leT c0_, fun q_ hq => absurd hq List.not_mem_nil⟩
  rcases yrun (yis_ok tD2_v0_k) hA Hs Ho HC with ⟨q_, hq, h', K_, G_⟩ | ⟨q_, hq, h', K_, G_⟩
  · rcases List.mem_cons.mp hq with e_ | hq
    · subst e_
      exact ⟨h', yfr_sm K_.2.2.2 hs K_.1 (ywa_s tD2_v0_w List.mem_cons_self), Or.inl (⟨xq_ltF rfl rfl (K_.2.2.1 _ List.mem_cons_self), bpat_of (K_.2.1 _ List.mem_cons_self), fun a_ j_ n0_ => yfr_bp K_.2.2.2 (List.forall_mem_cons.mpr ⟨fun e_ => n0_ ⟨e_.1.symm, e_.2.symm⟩, fun q_ hq => absurd hq List.not_mem_nil⟩), G_⟩)⟩
    have e_ := List.mem_singleton.mp hq
    subst e_
    exact ⟨h', yfr_sm K_.2.2.2 hs K_.1 (ywa_s tD2_v0_w (List.mem_cons_of_mem _ List.mem_cons_self)), Or.inr (⟨xq_ltT rfl rfl (K_.2.2.1 _ List.mem_cons_self), bpat_of (K_.2.1 _ List.mem_cons_self), fun a_ j_ n0_ => yfr_bp K_.2.2.2 (List.forall_mem_cons.mpr ⟨fun e_ => n0_ ⟨e_.1.symm, e_.2.symm⟩, fun q_ hq => absurd hq List.not_mem_nil⟩), G_⟩)⟩
  · cases hq
def tD2_hd (a1001 : Nat) (p1_ p2_ p3_ : Int32) (lo_ : xL) : Prop := (lo_ = [(3, .int p3_), (0, .index a1001), (1, .int p1_), (2, .int p2_)])
theorem tD2 {h_ : xH} {a1001 : Nat} {v3 v300 v301 v502 : Int32} {lo_ : xL} (hs : sHp h_) (k1001 : bcq h_ a1001 20 13) (o0_ : bpat h_ a1001 0 = some (.int v300)) (o1 : bpat h_ a1001 (v3).toInt.toNat = some (.int v301)) (b0 : 0 ≤ (v3).toInt ∧ (v3).toInt < 13) (p0_ : ∀ (h_ : xH) (D_ : Nat), 5 ≤ D_ → xrun D_ 143 0 [(0, .int v301)] [] h_ (some (.int v502), h_, [])) (c0_ : v3.toInt ≤ v300.toInt) (H_ : tD2_hd a1001 (2 : Int32) (2 : Int32) v3 lo_) : ∃ h', ysm h_ h' ∧ ((((60 : Int32).toInt ≤ v301.toInt) ∧ (bpat h' a1001 (v3).toInt.toNat = some (.int v301)) ∧ (∀ a_ j_ : Nat, ¬ (a_ = a1001 ∧ j_ = (v3).toInt.toNat) → bpat h' a_ j_ = bpat h_ a_ j_) ∧ (∃ lo', tD2_hd a1001 (2 : Int32) (2 : Int32) (v3 + (2 : Int32)) lo' ∧ bldD 60 148 2 lo_ [] h_ 2 lo' [] h'))
  ∨ ((v301.toInt < (60 : Int32).toInt) ∧ (bpat h' a1001 (v3).toInt.toNat = some (.int v502)) ∧ (∀ a_ j_ : Nat, ¬ (a_ = a1001 ∧ j_ = (v3).toInt.toNat) → bpat h' a_ j_ = bpat h_ a_ j_) ∧ (∃ lo', tD2_hd a1001 (2 : Int32) (2 : Int32) (v3 + (2 : Int32)) lo' ∧ bldD 60 148 2 lo_ [] h_ 2 lo' [] h'))) := by
  rcases H_ with rfl
  · obtain ⟨h', m_, e_⟩ := tD2_v0 hs k1001 o0_ o1 b0 p0_ c0_
    refine ⟨h', m_, ?_⟩
    rcases e_ with e_ | e_
    · obtain ⟨g0, g1, g2, g3_⟩ := e_
      exact Or.inl ⟨g0, g1, g2, ⟨_, rfl, g3_⟩⟩
    · obtain ⟨g0, g1, g2, g3_⟩ := e_
      exact Or.inr (⟨g0, g1, g2, ⟨_, rfl, g3_⟩⟩)
-- xD2_v0: 6 steps, 0 ends, 1 returns
def xD2_v0_L : List (Nat × Nat × Nat) := [(1001, 20, 13)]
def xD2_v0_O : yO := [(1001, .int 0, .arg 300)]
def xD2_v0_A : yA := (yZ xD2_v0_L, [], [], [], [])
def xD2_v0_C : List xB := [(.le, .arg 3, .arg 300, false)]
def xD2_v0_ss : List yS := []
def xD2_v0_rs : List yR := [(none, [(1001, .int 0, .arg 300)], [(.le, .arg 3, .arg 300, false)], [])]
theorem xD2_v0_w : ywa xD2_v0_A xD2_v0_ss xD2_v0_rs = true := by decide +kernel
theorem xD2_v0_k : yis (yev xD2_v0_A 3000 60 148 [2] (2, [(3, .arg 3), (0, .index 1001), (1, .int 2), (2, .int 2)], [], xD2_v0_O, xD2_v0_C, [])) xD2_v0_ss xD2_v0_rs = true := by decide +kernel
def xD2_v0_r (v3 v300 : Int32) (k_ : Nat) : Value := bif Nat.beq k_ 3 then .int v3 else (bif Nat.beq k_ 300 then .int v300 else (.int 0))
def xD2_v0_s (a1001 : Nat) (n_ : Nat) : Nat := bif Nat.beq n_ 1001 then a1001 else (0)
theorem xD2_v0 {h_ : xH} {a1001 : Nat} {v3 v300 : Int32} (hs : sHp h_) (k1001 : bcq h_ a1001 20 13) (o0_ : bpat h_ a1001 0 = some (.int v300)) (c0_ : v300.toInt < v3.toInt) : ∃ h', ysm h_ h' ∧ (((∀ a_ j_ : Nat, bpat h' a_ j_ = bpat h_ a_ j_) ∧ (∀ D_, 60 ≤ D_ → xrun D_ 148 2 [(3, .int v3), (0, .index a1001), (1, .int (2 : Int32)), (2, .int (2 : Int32))] [] h_ (none, h', [])))) := by
  have hA : yas xD2_v0_A (xD2_v0_r v3 v300) (yg (xD2_v0_s a1001)) := ⟨fun q_ hq => absurd hq List.not_mem_nil, fun q_ hq => absurd hq List.not_mem_nil, fun q_ hq => absurd hq List.not_mem_nil, fun n_ hn => yg_lo hn, fun q_ hq => absurd hq List.not_mem_nil⟩
  have Hs : ysh xD2_v0_A.1 (yg (xD2_v0_s a1001)) h_ := ysh_of2 hs (List.forall_mem_cons.mpr ⟨⟨by decide, k1001⟩, fun q_ hq => absurd hq List.not_mem_nil⟩)
  have Ho : ymem (xD2_v0_r v3 v300) (yg (xD2_v0_s a1001)) xD2_v0_O h_ := List.forall_mem_cons.mpr ⟨bpat_some o0_, fun q_ hq => absurd hq List.not_mem_nil⟩
  have HC : ∀ q_ ∈ xD2_v0_C, xhold (xD2_v0_r v3 v300) q_ := List.forall_mem_cons.mpr ⟨xh_leF c0_, fun q_ hq => absurd hq List.not_mem_nil⟩
  rcases yrun (yis_ok xD2_v0_k) hA Hs Ho HC with ⟨q_, hq, h', K_, G_⟩ | ⟨q_, hq, h', K_, G_⟩
  · cases hq
  · have e_ := List.mem_singleton.mp hq
    subst e_
    exact ⟨h', yfr_sm K_.2.2.2 hs K_.1 (ywa_r xD2_v0_w List.mem_cons_self), ⟨fun a_ j_ => yfr_bp K_.2.2.2 (fun q_ hq => absurd hq List.not_mem_nil), G_⟩⟩
theorem xD2 {h_ : xH} {a1001 : Nat} {v3 v300 : Int32} {lo_ : xL} (hs : sHp h_) (k1001 : bcq h_ a1001 20 13) (o0_ : bpat h_ a1001 0 = some (.int v300)) (c0_ : v300.toInt < v3.toInt) (H_ : tD2_hd a1001 (2 : Int32) (2 : Int32) v3 lo_) : ∃ h', ysm h_ h' ∧ (((∀ a_ j_ : Nat, bpat h' a_ j_ = bpat h_ a_ j_) ∧ (∀ D_, 60 ≤ D_ → xrun D_ 148 2 lo_ [] h_ (none, h', [])))) := by
  rcases H_ with rfl
  · obtain ⟨h', m_, e_⟩ := xD2_v0 hs k1001 o0_ c0_
    refine ⟨h', m_, ?_⟩
    obtain ⟨g0, g1⟩ := e_
    exact ⟨g0, g1⟩
/-- SECOND, the reference: from its head on -/
theorem lDd2 {b_ : Nat} {l : List Int32} {h_ : xH} {lo_ : xL} (R_ : rM b_ h_ l) (H_ : tD2_hd b_ 2 2 (Int32.ofNat 2) lo_) : ∃ h', rM b_ h' (mpf dn1 1 l) ∧ frb b_ h_ h' ∧ eRet 148 2 lo_ h_ h' := by
  refine map_loop (mi := 148) (pc := 2) (d_ := 2) (HD := fun i_ lo_ => (i_ ≤ 14 ∧ i_ % 2 = 1) ∧ tD2_hd b_ 2 2 (Int32.ofNat (i_ + 1)) lo_) (RW := rM b_) (FR := frb b_) (f_ := dn1) (E_ := eRet 148 2) (by omega) (fun i_ lo_ H_ e_ y_ h1 h2 => if_neg (by have := H_.1.2; omega)) frb_tr eRet_led (by
    intro i_ l h_ lo_ x_ R_ hx H_
    obtain ⟨hb_, H_⟩ := H_
    obtain ⟨Rs_, ⟨R1, R2, R3⟩, R7⟩ := R_
    have hi_ := (List.getElem?_eq_some_iff.mp hx).1
    have e6_ : bpat h_ b_ (Int32.ofNat (i_ + 1)).toInt.toNat = some (.int x_) := by
      rw [i32t (by omega), show i_ + 1 = 0 + 1 + i_ by omega]
      exact R3 i_ x_ hx
    obtain ⟨h1, m1_, e_⟩ := tD2 Rs_ R1 R2 e6_ ⟨by rw [i32n (by omega)]; omega, by rw [i32n (by omega)]; omega⟩ (pmC x_) (by rw [i32n (by omega), i32n (by omega)]; omega) H_
    have R_ : rwm h_ b_ 0 13 l := ⟨R1, R2, R3⟩
    rw [show (2 : Int32) = Int32.ofNat 2 from rfl, i32p, i32t (i_ := i_ + 1) (by omega), i60] at e_
    rcases e_ with ⟨g0, e1_, f1_, lo', H', ld⟩ | ⟨g0, e1_, f1_, lo', H', ld⟩
    · have en : dn1 i_ x_ = x_ := (if_pos hb_.2).trans (if_neg (by omega))
      refine ⟨h1, lo', ⟨m1_.1, ?_, by rw [List.length_set]; exact R7⟩, ⟨m1_, fun c_ j_ n_ => f1_ c_ j_ (fun q_ => n_ q_.1)⟩, ⟨⟨by omega, by omega⟩, H'⟩, ld⟩
      rw [en]
      exact rwm_set R_ m1_ hi_ (by rw [show 0 + 1 + i_ = i_ + 1 by omega]; exact e1_) (fun c_ j_ n_ => f1_ c_ j_ (by rw [show 0 + 1 + i_ = i_ + 1 by omega] at n_; exact n_))
    · have en : dn1 i_ x_ = pmC_F x_ := (if_pos hb_.2).trans (if_pos g0)
      refine ⟨h1, lo', ⟨m1_.1, ?_, by rw [List.length_set]; exact R7⟩, ⟨m1_, fun c_ j_ n_ => f1_ c_ j_ (fun q_ => n_ q_.1)⟩, ⟨⟨by omega, by omega⟩, H'⟩, ld⟩
      rw [en]
      exact rwm_set R_ m1_ hi_ (by rw [show 0 + 1 + i_ = i_ + 1 by omega]; exact e1_) (fun c_ j_ n_ => f1_ c_ j_ (by rw [show 0 + 1 + i_ = i_ + 1 by omega] at n_; exact n_))) (by
    intro i_ l h_ lo_ R_ hl H_
    obtain ⟨hb_, H_⟩ := H_
    obtain ⟨Rs_, ⟨R1, R2, R3⟩, R7⟩ := R_
    obtain ⟨h1, m1_, f1_, e1_⟩ := xD2 Rs_ R1 R2 (by rw [i32n (by omega), i32n (by omega)]; omega) H_
    exact ⟨h1, ⟨m1_.1, rwm_keep ⟨R1, R2, R3⟩ m1_ (fun j_ _ _ => f1_ b_ j_), R7⟩, ⟨m1_, fun c_ j_ _ => f1_ c_ j_⟩, e1_⟩) l.length 1 l h_ _ (by omega) R_ ⟨⟨by omega, by omega⟩, H_⟩
-- tLS_v0: 26 steps, 2 ends, 0 returns
def tLS_v0_L : List (Nat × Nat × Nat) := [(1001, 20, 13)]
def tLS_v0_O : yO := [(1001, .int 0, .arg 300), (1001, .arg 3, .arg 301)]
def tLS_v0_A : yA := (yZ tLS_v0_L, [(.arg 3, 13)], [], [], [(143, [.arg 301], .arg 502)])
def tLS_v0_C : List xB := [(.le, .arg 3, .arg 300, true)]
def tLS_v0_ss : List yS := [(64, [(3, .add (.arg 3) (.int 1)), (0, .index 338), (1, .arg 1), (2, .index 1001)], [], [(1001, .arg 3, .arg 301)], [(.lt, .arg 301, .int 60, true), (.le, .arg 3, .arg 300, true)], [(1001, .arg 3)]),
  (64, [(3, .add (.arg 3) (.int 1)), (0, .index 338), (1, .arg 1), (2, .index 1001)], [], [(1001, .arg 3, .arg 502)], [(.lt, .arg 301, .int 60, false), (.le, .arg 3, .arg 300, true)], [(1001, .arg 3)])]
def tLS_v0_rs : List yR := []
theorem tLS_v0_w : ywa tLS_v0_A tLS_v0_ss tLS_v0_rs = true := by decide +kernel
theorem tLS_v0_k : yis (yev tLS_v0_A 3000 60 151 [64] (64, [(3, .arg 3), (0, .index 338), (1, .arg 1), (2, .index 1001)], [], tLS_v0_O, tLS_v0_C, [])) tLS_v0_ss tLS_v0_rs = true := by decide +kernel
def tLS_v0_r (v1_ v3 v300 v301 v502 : Int32) (k_ : Nat) : Value := bif Nat.beq k_ 1 then .int v1_ else (bif Nat.beq k_ 3 then .int v3 else (bif Nat.beq k_ 300 then .int v300 else (bif Nat.beq k_ 301 then .int v301 else (bif Nat.beq k_ 502 then .int v502 else (.int 0)))))
def tLS_v0_s (a1001 : Nat) (n_ : Nat) : Nat := bif Nat.beq n_ 1001 then a1001 else (0)
theorem tLS_v0 {h_ : xH} {a1001 : Nat} {v1_ v3 v300 v301 v502 : Int32} (hs : sHp h_) (k1001 : bcq h_ a1001 20 13) (o0_ : bpat h_ a1001 0 = some (.int v300)) (o1 : bpat h_ a1001 (v3).toInt.toNat = some (.int v301)) (b0 : 0 ≤ (v3).toInt ∧ (v3).toInt < 13) (p0_ : ∀ (h_ : xH) (D_ : Nat), 5 ≤ D_ → xrun D_ 143 0 [(0, .int v301)] [] h_ (some (.int v502), h_, [])) (c0_ : v3.toInt ≤ v300.toInt) : ∃ h', ysm h_ h' ∧ (((v301.toInt < (60 : Int32).toInt) ∧ (bpat h' a1001 (v3).toInt.toNat = some (.int v301)) ∧ (∀ a_ j_ : Nat, ¬ (a_ = a1001 ∧ j_ = (v3).toInt.toNat) → bpat h' a_ j_ = bpat h_ a_ j_) ∧ (bldD 60 151 64 [(3, .int v3), (0, .index 338), (1, .int v1_), (2, .index a1001)] [] h_ 64 [(3, .int (v3 + (1 : Int32))), (0, .index 338), (1, .int v1_), (2, .index a1001)] [] h'))
  ∨ (((60 : Int32).toInt ≤ v301.toInt) ∧ (bpat h' a1001 (v3).toInt.toNat = some (.int v502)) ∧ (∀ a_ j_ : Nat, ¬ (a_ = a1001 ∧ j_ = (v3).toInt.toNat) → bpat h' a_ j_ = bpat h_ a_ j_) ∧ (bldD 60 151 64 [(3, .int v3), (0, .index 338), (1, .int v1_), (2, .index a1001)] [] h_ 64 [(3, .int (v3 + (1 : Int32))), (0, .index 338), (1, .int v1_), (2, .index a1001)] [] h'))) := by
  have hA : yas tLS_v0_A (tLS_v0_r v1_ v3 v300 v301 v502) (yg (tLS_v0_s a1001)) := ⟨List.forall_mem_cons.mpr ⟨b0, fun q_ hq => absurd hq List.not_mem_nil⟩, fun q_ hq => absurd hq List.not_mem_nil, fun q_ hq => absurd hq List.not_mem_nil, fun n_ hn => yg_lo hn, List.forall_mem_cons.mpr ⟨p0_, fun q_ hq => absurd hq List.not_mem_nil⟩⟩
  have Hs : ysh tLS_v0_A.1 (yg (tLS_v0_s a1001)) h_ := ysh_of2 hs (List.forall_mem_cons.mpr ⟨⟨by decide, k1001⟩, fun q_ hq => absurd hq List.not_mem_nil⟩)
  have Ho : ymem (tLS_v0_r v1_ v3 v300 v301 v502) (yg (tLS_v0_s a1001)) tLS_v0_O h_ := List.forall_mem_cons.mpr ⟨bpat_some o0_, List.forall_mem_cons.mpr ⟨bpat_some o1, fun q_ hq => absurd hq List.not_mem_nil⟩⟩
  have HC : ∀ q_ ∈ tLS_v0_C, xhold (tLS_v0_r v1_ v3 v300 v301 v502) q_ := List.forall_mem_cons.mpr ⟨xh_leT c0_, fun q_ hq => absurd hq List.not_mem_nil⟩
  rcases yrun (yis_ok tLS_v0_k) hA Hs Ho HC with ⟨q_, hq, h', K_, G_⟩ | ⟨q_, hq, h', K_, G_⟩
  · rcases List.mem_cons.mp hq with e_ | hq
    · subst e_
      exact ⟨h', yfr_sm K_.2.2.2 hs K_.1 (ywa_s tLS_v0_w List.mem_cons_self), Or.inl (⟨xq_ltT rfl rfl (K_.2.2.1 _ List.mem_cons_self), bpat_of (K_.2.1 _ List.mem_cons_self), fun a_ j_ n0_ => yfr_bp K_.2.2.2 (List.forall_mem_cons.mpr ⟨fun e_ => n0_ ⟨e_.1.symm, e_.2.symm⟩, fun q_ hq => absurd hq List.not_mem_nil⟩), G_⟩)⟩
    have e_ := List.mem_singleton.mp hq
    subst e_
    exact ⟨h', yfr_sm K_.2.2.2 hs K_.1 (ywa_s tLS_v0_w (List.mem_cons_of_mem _ List.mem_cons_self)), Or.inr (⟨xq_ltF rfl rfl (K_.2.2.1 _ List.mem_cons_self), bpat_of (K_.2.1 _ List.mem_cons_self), fun a_ j_ n0_ => yfr_bp K_.2.2.2 (List.forall_mem_cons.mpr ⟨fun e_ => n0_ ⟨e_.1.symm, e_.2.symm⟩, fun q_ hq => absurd hq List.not_mem_nil⟩), G_⟩)⟩
  · cases hq
def tLS_hd (a1001 : Nat) (p1_ p3_ : Int32) (lo_ : xL) : Prop := (lo_ = [(3, .int p3_), (0, .index 338), (1, .int p1_), (2, .index a1001)])
theorem tLS {h_ : xH} {a1001 : Nat} {v1_ v3 v300 v301 v502 : Int32} {lo_ : xL} (hs : sHp h_) (k1001 : bcq h_ a1001 20 13) (o0_ : bpat h_ a1001 0 = some (.int v300)) (o1 : bpat h_ a1001 (v3).toInt.toNat = some (.int v301)) (b0 : 0 ≤ (v3).toInt ∧ (v3).toInt < 13) (p0_ : ∀ (h_ : xH) (D_ : Nat), 5 ≤ D_ → xrun D_ 143 0 [(0, .int v301)] [] h_ (some (.int v502), h_, [])) (c0_ : v3.toInt ≤ v300.toInt) (H_ : tLS_hd a1001 v1_ v3 lo_) : ∃ h', ysm h_ h' ∧ (((v301.toInt < (60 : Int32).toInt) ∧ (bpat h' a1001 (v3).toInt.toNat = some (.int v301)) ∧ (∀ a_ j_ : Nat, ¬ (a_ = a1001 ∧ j_ = (v3).toInt.toNat) → bpat h' a_ j_ = bpat h_ a_ j_) ∧ (∃ lo', tLS_hd a1001 v1_ (v3 + (1 : Int32)) lo' ∧ bldD 60 151 64 lo_ [] h_ 64 lo' [] h'))
  ∨ (((60 : Int32).toInt ≤ v301.toInt) ∧ (bpat h' a1001 (v3).toInt.toNat = some (.int v502)) ∧ (∀ a_ j_ : Nat, ¬ (a_ = a1001 ∧ j_ = (v3).toInt.toNat) → bpat h' a_ j_ = bpat h_ a_ j_) ∧ (∃ lo', tLS_hd a1001 v1_ (v3 + (1 : Int32)) lo' ∧ bldD 60 151 64 lo_ [] h_ 64 lo' [] h'))) := by
  rcases H_ with rfl
  · obtain ⟨h', m_, e_⟩ := tLS_v0 hs k1001 o0_ o1 b0 p0_ c0_
    refine ⟨h', m_, ?_⟩
    rcases e_ with e_ | e_
    · obtain ⟨g0, g1, g2, g3_⟩ := e_
      exact Or.inl ⟨g0, g1, g2, ⟨_, rfl, g3_⟩⟩
    · obtain ⟨g0, g1, g2, g3_⟩ := e_
      exact Or.inr (⟨g0, g1, g2, ⟨_, rfl, g3_⟩⟩)
-- xLS_v0: 7 steps, 0 ends, 1 returns
def xLS_v0_L : List (Nat × Nat × Nat) := [(1001, 20, 13)]
def xLS_v0_O : yO := [(1001, .int 0, .arg 300)]
def xLS_v0_A : yA := (yZ xLS_v0_L, [], [], [], [])
def xLS_v0_C : List xB := [(.le, .arg 3, .arg 300, false)]
def xLS_v0_ss : List yS := []
def xLS_v0_rs : List yR := [(none, [(1001, .int 0, .arg 300)], [(.le, .arg 3, .arg 300, false)], [])]
theorem xLS_v0_w : ywa xLS_v0_A xLS_v0_ss xLS_v0_rs = true := by decide +kernel
theorem xLS_v0_k : yis (yev xLS_v0_A 3000 60 151 [64] (64, [(3, .arg 3), (0, .index 338), (1, .arg 1), (2, .index 1001)], [], xLS_v0_O, xLS_v0_C, [])) xLS_v0_ss xLS_v0_rs = true := by decide +kernel
def xLS_v0_r (v1_ v3 v300 : Int32) (k_ : Nat) : Value := bif Nat.beq k_ 1 then .int v1_ else (bif Nat.beq k_ 3 then .int v3 else (bif Nat.beq k_ 300 then .int v300 else (.int 0)))
def xLS_v0_s (a1001 : Nat) (n_ : Nat) : Nat := bif Nat.beq n_ 1001 then a1001 else (0)
theorem xLS_v0 {h_ : xH} {a1001 : Nat} {v1_ v3 v300 : Int32} (hs : sHp h_) (k1001 : bcq h_ a1001 20 13) (o0_ : bpat h_ a1001 0 = some (.int v300)) (c0_ : v300.toInt < v3.toInt) : ∃ h', ysm h_ h' ∧ (((∀ a_ j_ : Nat, bpat h' a_ j_ = bpat h_ a_ j_) ∧ (∀ D_, 60 ≤ D_ → xrun D_ 151 64 [(3, .int v3), (0, .index 338), (1, .int v1_), (2, .index a1001)] [] h_ (none, h', [])))) := by
  have hA : yas xLS_v0_A (xLS_v0_r v1_ v3 v300) (yg (xLS_v0_s a1001)) := ⟨fun q_ hq => absurd hq List.not_mem_nil, fun q_ hq => absurd hq List.not_mem_nil, fun q_ hq => absurd hq List.not_mem_nil, fun n_ hn => yg_lo hn, fun q_ hq => absurd hq List.not_mem_nil⟩
  have Hs : ysh xLS_v0_A.1 (yg (xLS_v0_s a1001)) h_ := ysh_of2 hs (List.forall_mem_cons.mpr ⟨⟨by decide, k1001⟩, fun q_ hq => absurd hq List.not_mem_nil⟩)
  have Ho : ymem (xLS_v0_r v1_ v3 v300) (yg (xLS_v0_s a1001)) xLS_v0_O h_ := List.forall_mem_cons.mpr ⟨bpat_some o0_, fun q_ hq => absurd hq List.not_mem_nil⟩
  have HC : ∀ q_ ∈ xLS_v0_C, xhold (xLS_v0_r v1_ v3 v300) q_ := List.forall_mem_cons.mpr ⟨xh_leF c0_, fun q_ hq => absurd hq List.not_mem_nil⟩
  rcases yrun (yis_ok xLS_v0_k) hA Hs Ho HC with ⟨q_, hq, h', K_, G_⟩ | ⟨q_, hq, h', K_, G_⟩
  · cases hq
  · have e_ := List.mem_singleton.mp hq
    subst e_
    exact ⟨h', yfr_sm K_.2.2.2 hs K_.1 (ywa_r xLS_v0_w List.mem_cons_self), ⟨fun a_ j_ => yfr_bp K_.2.2.2 (fun q_ hq => absurd hq List.not_mem_nil), G_⟩⟩
theorem xLS {h_ : xH} {a1001 : Nat} {v1_ v3 v300 : Int32} {lo_ : xL} (hs : sHp h_) (k1001 : bcq h_ a1001 20 13) (o0_ : bpat h_ a1001 0 = some (.int v300)) (c0_ : v300.toInt < v3.toInt) (H_ : tLS_hd a1001 v1_ v3 lo_) : ∃ h', ysm h_ h' ∧ (((∀ a_ j_ : Nat, bpat h' a_ j_ = bpat h_ a_ j_) ∧ (∀ D_, 60 ≤ D_ → xrun D_ 151 64 lo_ [] h_ (none, h', [])))) := by
  rcases H_ with rfl
  · obtain ⟨h', m_, e_⟩ := xLS_v0 hs k1001 o0_ c0_
    refine ⟨h', m_, ?_⟩
    obtain ⟨g0, g1⟩ := e_
    exact ⟨g0, g1⟩
/-- LESS, the reference: from its head on -/
theorem lLS {b_ : Nat} {R1_ : Int32} {l : List Int32} {h_ : xH} {lo_ : xL} (R_ : rM b_ h_ l) (H_ : tLS_hd b_ R1_ (Int32.ofNat 1) lo_) : ∃ h', rM b_ h' (mpf lsm 0 l) ∧ frb b_ h_ h' ∧ eRet 151 64 lo_ h_ h' := by
  refine map_loop (mi := 151) (pc := 64) (d_ := 1) (HD := fun i_ lo_ => (i_ ≤ 14 ∧ True) ∧ tLS_hd b_ R1_ (Int32.ofNat (i_ + 1)) lo_) (RW := rM b_) (FR := frb b_) (f_ := lsm) (E_ := eRet 151 64) (by omega) (fun i_ lo_ H_ e_ y_ h1 h2 => by omega) frb_tr eRet_led (by
    intro i_ l h_ lo_ x_ R_ hx H_
    obtain ⟨hb_, H_⟩ := H_
    obtain ⟨Rs_, ⟨R1, R2, R3⟩, R7⟩ := R_
    have hi_ := (List.getElem?_eq_some_iff.mp hx).1
    have e6_ : bpat h_ b_ (Int32.ofNat (i_ + 1)).toInt.toNat = some (.int x_) := by
      rw [i32t (by omega), show i_ + 1 = 0 + 1 + i_ by omega]
      exact R3 i_ x_ hx
    obtain ⟨h1, m1_, e_⟩ := tLS Rs_ R1 R2 e6_ ⟨by rw [i32n (by omega)]; omega, by rw [i32n (by omega)]; omega⟩ (pmC x_) (by rw [i32n (by omega), i32n (by omega)]; omega) H_
    have R_ : rwm h_ b_ 0 13 l := ⟨R1, R2, R3⟩
    rw [show (1 : Int32) = Int32.ofNat 1 from rfl, i32p, i32t (i_ := i_ + 1) (by omega), i60] at e_
    rcases e_ with ⟨g0, e1_, f1_, lo', H', ld⟩ | ⟨g0, e1_, f1_, lo', H', ld⟩
    · have en : lsm i_ x_ = x_ := if_pos g0
      refine ⟨h1, lo', ⟨m1_.1, ?_, by rw [List.length_set]; exact R7⟩, ⟨m1_, fun c_ j_ n_ => f1_ c_ j_ (fun q_ => n_ q_.1)⟩, ⟨⟨by omega, trivial⟩, H'⟩, ld⟩
      rw [en]
      exact rwm_set R_ m1_ hi_ (by rw [show 0 + 1 + i_ = i_ + 1 by omega]; exact e1_) (fun c_ j_ n_ => f1_ c_ j_ (by rw [show 0 + 1 + i_ = i_ + 1 by omega] at n_; exact n_))
    · have en : lsm i_ x_ = pmC_F x_ := if_neg (by omega)
      refine ⟨h1, lo', ⟨m1_.1, ?_, by rw [List.length_set]; exact R7⟩, ⟨m1_, fun c_ j_ n_ => f1_ c_ j_ (fun q_ => n_ q_.1)⟩, ⟨⟨by omega, trivial⟩, H'⟩, ld⟩
      rw [en]
      exact rwm_set R_ m1_ hi_ (by rw [show 0 + 1 + i_ = i_ + 1 by omega]; exact e1_) (fun c_ j_ n_ => f1_ c_ j_ (by rw [show 0 + 1 + i_ = i_ + 1 by omega] at n_; exact n_))) (by
    intro i_ l h_ lo_ R_ hl H_
    obtain ⟨hb_, H_⟩ := H_
    obtain ⟨Rs_, ⟨R1, R2, R3⟩, R7⟩ := R_
    obtain ⟨h1, m1_, f1_, e1_⟩ := xLS Rs_ R1 R2 (by rw [i32n (by omega), i32n (by omega)]; omega) H_
    exact ⟨h1, ⟨m1_.1, rwm_keep ⟨R1, R2, R3⟩ m1_ (fun j_ _ _ => f1_ b_ j_), R7⟩, ⟨m1_, fun c_ j_ _ => f1_ c_ j_⟩, e1_⟩) l.length 0 l h_ _ (by omega) R_ ⟨⟨by omega, trivial⟩, H_⟩
-- eD1: 2 steps, 1 ends, 0 returns
def eD1_L : List (Nat × Nat × Nat) := [(1001, 20, 13)]
def eD1_O : yO := []
def eD1_A : yA := (yZ eD1_L, [], [], [], [])
def eD1_C : List xB := []
def eD1_ss : List yS := [(2, [(3, .int 1), (0, .index 1001), (1, .int 1), (2, .int 1)], [], [], [], [])]
def eD1_rs : List yR := []
theorem eD1_w : ywa eD1_A eD1_ss eD1_rs = true := by decide +kernel
theorem eD1_k : yis (yev eD1_A 3000 60 148 [2] (0, [(0, .index 1001), (1, .int 1), (2, .int 1)], [], eD1_O, eD1_C, [])) eD1_ss eD1_rs = true := by decide +kernel
def eD1_r (k_ : Nat) : Value := .int 0
def eD1_s (a1001 : Nat) (n_ : Nat) : Nat := bif Nat.beq n_ 1001 then a1001 else (0)
theorem eD1 {h_ : xH} {a1001 : Nat} (hs : sHp h_) (k1001 : bcq h_ a1001 20 13) : ∃ h', ysm h_ h' ∧ (((∀ a_ j_ : Nat, bpat h' a_ j_ = bpat h_ a_ j_) ∧ (bldD 60 148 0 [(0, .index a1001), (1, .int (1 : Int32)), (2, .int (1 : Int32))] [] h_ 2 [(3, .int (1 : Int32)), (0, .index a1001), (1, .int (1 : Int32)), (2, .int (1 : Int32))] [] h'))) := by
  have hA : yas eD1_A eD1_r (yg (eD1_s a1001)) := ⟨fun q_ hq => absurd hq List.not_mem_nil, fun q_ hq => absurd hq List.not_mem_nil, fun q_ hq => absurd hq List.not_mem_nil, fun n_ hn => yg_lo hn, fun q_ hq => absurd hq List.not_mem_nil⟩
  have Hs : ysh eD1_A.1 (yg (eD1_s a1001)) h_ := ysh_of2 hs (List.forall_mem_cons.mpr ⟨⟨by decide, k1001⟩, fun q_ hq => absurd hq List.not_mem_nil⟩)
  have Ho : ymem eD1_r (yg (eD1_s a1001)) eD1_O h_ := fun q_ hq => absurd hq List.not_mem_nil
  have HC : ∀ q_ ∈ eD1_C, xhold eD1_r q_ := fun q_ hq => absurd hq List.not_mem_nil
  rcases yrun (yis_ok eD1_k) hA Hs Ho HC with ⟨q_, hq, h', K_, G_⟩ | ⟨q_, hq, h', K_, G_⟩
  · have e_ := List.mem_singleton.mp hq
    subst e_
    exact ⟨h', yfr_sm K_.2.2.2 hs K_.1 (ywa_s eD1_w List.mem_cons_self), ⟨fun a_ j_ => yfr_bp K_.2.2.2 (fun q_ hq => absurd hq List.not_mem_nil), G_⟩⟩
  · cases hq
theorem denies1 {b_ : Nat} {l : List Int32} {h_ : xH} (R_ : rM b_ h_ l) : ∃ h', rM b_ h' (mpf dny 0 l) ∧ frb b_ h_ h' ∧ eRet 148 0 [(0, .index b_), (1, .int 1), (2, .int 1)] h_ h' := by
  obtain ⟨h0, m0_, f0_, ld0⟩ := eD1 R_.1 R_.2.1.1
  have R0_ : rM b_ h0 l := ⟨m0_.1, rwm_keep R_.2.1 m0_ (fun j_ _ _ => f0_ b_ j_), R_.2.2⟩
  obtain ⟨h', R', F', E'_⟩ := lD1 R0_ rfl
  exact ⟨h', R', frb_tr _ _ _ ⟨m0_, fun c_ j_ _ => f0_ c_ j_⟩ F', fun D_ hD => ld0 D_ hD _ (E'_ D_ hD)⟩
-- eD2: 2 steps, 1 ends, 0 returns
def eD2_L : List (Nat × Nat × Nat) := [(1001, 20, 13)]
def eD2_O : yO := []
def eD2_A : yA := (yZ eD2_L, [], [], [], [])
def eD2_C : List xB := []
def eD2_ss : List yS := [(2, [(3, .int 2), (0, .index 1001), (1, .int 2), (2, .int 2)], [], [], [], [])]
def eD2_rs : List yR := []
theorem eD2_w : ywa eD2_A eD2_ss eD2_rs = true := by decide +kernel
theorem eD2_k : yis (yev eD2_A 3000 60 148 [2] (0, [(0, .index 1001), (1, .int 2), (2, .int 2)], [], eD2_O, eD2_C, [])) eD2_ss eD2_rs = true := by decide +kernel
def eD2_r (k_ : Nat) : Value := .int 0
def eD2_s (a1001 : Nat) (n_ : Nat) : Nat := bif Nat.beq n_ 1001 then a1001 else (0)
theorem eD2 {h_ : xH} {a1001 : Nat} (hs : sHp h_) (k1001 : bcq h_ a1001 20 13) : ∃ h', ysm h_ h' ∧ (((∀ a_ j_ : Nat, bpat h' a_ j_ = bpat h_ a_ j_) ∧ (bldD 60 148 0 [(0, .index a1001), (1, .int (2 : Int32)), (2, .int (2 : Int32))] [] h_ 2 [(3, .int (2 : Int32)), (0, .index a1001), (1, .int (2 : Int32)), (2, .int (2 : Int32))] [] h'))) := by
  have hA : yas eD2_A eD2_r (yg (eD2_s a1001)) := ⟨fun q_ hq => absurd hq List.not_mem_nil, fun q_ hq => absurd hq List.not_mem_nil, fun q_ hq => absurd hq List.not_mem_nil, fun n_ hn => yg_lo hn, fun q_ hq => absurd hq List.not_mem_nil⟩
  have Hs : ysh eD2_A.1 (yg (eD2_s a1001)) h_ := ysh_of2 hs (List.forall_mem_cons.mpr ⟨⟨by decide, k1001⟩, fun q_ hq => absurd hq List.not_mem_nil⟩)
  have Ho : ymem eD2_r (yg (eD2_s a1001)) eD2_O h_ := fun q_ hq => absurd hq List.not_mem_nil
  have HC : ∀ q_ ∈ eD2_C, xhold eD2_r q_ := fun q_ hq => absurd hq List.not_mem_nil
  rcases yrun (yis_ok eD2_k) hA Hs Ho HC with ⟨q_, hq, h', K_, G_⟩ | ⟨q_, hq, h', K_, G_⟩
  · have e_ := List.mem_singleton.mp hq
    subst e_
    exact ⟨h', yfr_sm K_.2.2.2 hs K_.1 (ywa_s eD2_w List.mem_cons_self), ⟨fun a_ j_ => yfr_bp K_.2.2.2 (fun q_ hq => absurd hq List.not_mem_nil), G_⟩⟩
  · cases hq
theorem denies2 {b_ : Nat} {l : List Int32} {h_ : xH} (R_ : rM b_ h_ l) : ∃ h', rM b_ h' (mpf dn1 1 l) ∧ frb b_ h_ h' ∧ eRet 148 0 [(0, .index b_), (1, .int 2), (2, .int 2)] h_ h' := by
  obtain ⟨h0, m0_, f0_, ld0⟩ := eD2 R_.1 R_.2.1.1
  have R0_ : rM b_ h0 l := ⟨m0_.1, rwm_keep R_.2.1 m0_ (fun j_ _ _ => f0_ b_ j_), R_.2.2⟩
  obtain ⟨h', R', F', E'_⟩ := lDd2 R0_ rfl
  exact ⟨h', R', frb_tr _ _ _ ⟨m0_, fun c_ j_ _ => f0_ c_ j_⟩ F', fun D_ hD => ld0 D_ hD _ (E'_ D_ hD)⟩
-- tTU_v0: 20 steps, 1 ends, 0 returns
def tTU_v0_L : List (Nat × Nat × Nat) := [(1001, 20, 13)]
def tTU_v0_O : yO := [(1001, .arg 2, .arg 301), (1001, .arg 3, .arg 302)]
def tTU_v0_A : yA := (yZ tTU_v0_L, [(.arg 2, 13), (.arg 3, 13)], [(.arg 2, .arg 3)], [], [])
def tTU_v0_C : List xB := [(.lt, .arg 2, .arg 3, true)]
def tTU_v0_ss : List yS := [(6, [(3, .add (.arg 3) (.int (Int32.ofInt (-1)))), (2, .add (.arg 2) (.int 1)), (4, .arg 301), (0, .index 338), (1, .index 1001)], [], [(1001, .arg 3, .arg 301), (1001, .arg 2, .arg 302)], [(.lt, .arg 2, .arg 3, true)], [(1001, .arg 3), (1001, .arg 2)])]
def tTU_v0_rs : List yR := []
theorem tTU_v0_w : ywa tTU_v0_A tTU_v0_ss tTU_v0_rs = true := by decide +kernel
theorem tTU_v0_k : yis (yev tTU_v0_A 3000 60 147 [6] (6, [(3, .arg 3), (2, .arg 2), (0, .index 338), (1, .index 1001)], [], tTU_v0_O, tTU_v0_C, [])) tTU_v0_ss tTU_v0_rs = true := by decide +kernel
def tTU_v0_r (v2 v3 v301 v302 : Int32) (k_ : Nat) : Value := bif Nat.beq k_ 2 then .int v2 else (bif Nat.beq k_ 3 then .int v3 else (bif Nat.beq k_ 301 then .int v301 else (bif Nat.beq k_ 302 then .int v302 else (.int 0))))
def tTU_v0_s (a1001 : Nat) (n_ : Nat) : Nat := bif Nat.beq n_ 1001 then a1001 else (0)
theorem tTU_v0 {h_ : xH} {a1001 : Nat} {v2 v3 v301 v302 : Int32} (hs : sHp h_) (k1001 : bcq h_ a1001 20 13) (o0_ : bpat h_ a1001 (v2).toInt.toNat = some (.int v301)) (o1 : bpat h_ a1001 (v3).toInt.toNat = some (.int v302)) (b0 : 0 ≤ (v2).toInt ∧ (v2).toInt < 13) (b1 : 0 ≤ (v3).toInt ∧ (v3).toInt < 13) (x0_ : ¬ (v2).toInt.toNat = (v3).toInt.toNat) (c0_ : v2.toInt < v3.toInt) : ∃ h', ysm h_ h' ∧ (((bpat h' a1001 (v3).toInt.toNat = some (.int v301)) ∧ (bpat h' a1001 (v2).toInt.toNat = some (.int v302)) ∧ (∀ a_ j_ : Nat, ¬ (a_ = a1001 ∧ j_ = (v3).toInt.toNat) → ¬ (a_ = a1001 ∧ j_ = (v2).toInt.toNat) → bpat h' a_ j_ = bpat h_ a_ j_) ∧ (bldD 60 147 6 [(3, .int v3), (2, .int v2), (0, .index 338), (1, .index a1001)] [] h_ 6 [(3, .int (v3 + (Int32.ofInt (-1)))), (2, .int (v2 + (1 : Int32))), (4, .int v301), (0, .index 338), (1, .index a1001)] [] h'))) := by
  have hA : yas tTU_v0_A (tTU_v0_r v2 v3 v301 v302) (yg (tTU_v0_s a1001)) := ⟨List.forall_mem_cons.mpr ⟨b0, List.forall_mem_cons.mpr ⟨b1, fun q_ hq => absurd hq List.not_mem_nil⟩⟩, List.forall_mem_cons.mpr ⟨x0_, fun q_ hq => absurd hq List.not_mem_nil⟩, fun q_ hq => absurd hq List.not_mem_nil, fun n_ hn => yg_lo hn, fun q_ hq => absurd hq List.not_mem_nil⟩
  have Hs : ysh tTU_v0_A.1 (yg (tTU_v0_s a1001)) h_ := ysh_of2 hs (List.forall_mem_cons.mpr ⟨⟨by decide, k1001⟩, fun q_ hq => absurd hq List.not_mem_nil⟩)
  have Ho : ymem (tTU_v0_r v2 v3 v301 v302) (yg (tTU_v0_s a1001)) tTU_v0_O h_ := List.forall_mem_cons.mpr ⟨bpat_some o0_, List.forall_mem_cons.mpr ⟨bpat_some o1, fun q_ hq => absurd hq List.not_mem_nil⟩⟩
  have HC : ∀ q_ ∈ tTU_v0_C, xhold (tTU_v0_r v2 v3 v301 v302) q_ := List.forall_mem_cons.mpr ⟨xh_ltT c0_, fun q_ hq => absurd hq List.not_mem_nil⟩
  rcases yrun (yis_ok tTU_v0_k) hA Hs Ho HC with ⟨q_, hq, h', K_, G_⟩ | ⟨q_, hq, h', K_, G_⟩
  · have e_ := List.mem_singleton.mp hq
    subst e_
    exact ⟨h', yfr_sm K_.2.2.2 hs K_.1 (ywa_s tTU_v0_w List.mem_cons_self), ⟨bpat_of (K_.2.1 _ List.mem_cons_self), bpat_of (K_.2.1 _ (List.mem_cons_of_mem _ List.mem_cons_self)), fun a_ j_ n0_ n1_ => yfr_bp K_.2.2.2 (List.forall_mem_cons.mpr ⟨fun e_ => n0_ ⟨e_.1.symm, e_.2.symm⟩, List.forall_mem_cons.mpr ⟨fun e_ => n1_ ⟨e_.1.symm, e_.2.symm⟩, fun q_ hq => absurd hq List.not_mem_nil⟩⟩), G_⟩⟩
  · cases hq
-- tTU_v1: 20 steps, 1 ends, 0 returns
def tTU_v1_L : List (Nat × Nat × Nat) := [(1001, 20, 13)]
def tTU_v1_O : yO := [(1001, .arg 2, .arg 301), (1001, .arg 3, .arg 302)]
def tTU_v1_A : yA := (yZ tTU_v1_L, [(.arg 2, 13), (.arg 3, 13)], [(.arg 2, .arg 3)], [], [])
def tTU_v1_C : List xB := [(.lt, .arg 2, .arg 3, true)]
def tTU_v1_ss : List yS := [(6, [(3, .add (.arg 3) (.int (Int32.ofInt (-1)))), (2, .add (.arg 2) (.int 1)), (4, .arg 301), (0, .index 338), (1, .index 1001)], [], [(1001, .arg 3, .arg 301), (1001, .arg 2, .arg 302)], [(.lt, .arg 2, .arg 3, true)], [(1001, .arg 3), (1001, .arg 2)])]
def tTU_v1_rs : List yR := []
theorem tTU_v1_w : ywa tTU_v1_A tTU_v1_ss tTU_v1_rs = true := by decide +kernel
theorem tTU_v1_k : yis (yev tTU_v1_A 3000 60 147 [6] (6, [(3, .arg 3), (2, .arg 2), (4, .arg 904), (0, .index 338), (1, .index 1001)], [], tTU_v1_O, tTU_v1_C, [])) tTU_v1_ss tTU_v1_rs = true := by decide +kernel
def tTU_v1_r (v2 v3 v301 v302 v904 : Int32) (k_ : Nat) : Value := bif Nat.beq k_ 2 then .int v2 else (bif Nat.beq k_ 3 then .int v3 else (bif Nat.beq k_ 301 then .int v301 else (bif Nat.beq k_ 302 then .int v302 else (bif Nat.beq k_ 904 then .int v904 else (.int 0)))))
def tTU_v1_s (a1001 : Nat) (n_ : Nat) : Nat := bif Nat.beq n_ 1001 then a1001 else (0)
theorem tTU_v1 {h_ : xH} {a1001 : Nat} {v2 v3 v301 v302 v904 : Int32} (hs : sHp h_) (k1001 : bcq h_ a1001 20 13) (o0_ : bpat h_ a1001 (v2).toInt.toNat = some (.int v301)) (o1 : bpat h_ a1001 (v3).toInt.toNat = some (.int v302)) (b0 : 0 ≤ (v2).toInt ∧ (v2).toInt < 13) (b1 : 0 ≤ (v3).toInt ∧ (v3).toInt < 13) (x0_ : ¬ (v2).toInt.toNat = (v3).toInt.toNat) (c0_ : v2.toInt < v3.toInt) : ∃ h', ysm h_ h' ∧ (((bpat h' a1001 (v3).toInt.toNat = some (.int v301)) ∧ (bpat h' a1001 (v2).toInt.toNat = some (.int v302)) ∧ (∀ a_ j_ : Nat, ¬ (a_ = a1001 ∧ j_ = (v3).toInt.toNat) → ¬ (a_ = a1001 ∧ j_ = (v2).toInt.toNat) → bpat h' a_ j_ = bpat h_ a_ j_) ∧ (bldD 60 147 6 [(3, .int v3), (2, .int v2), (4, .int v904), (0, .index 338), (1, .index a1001)] [] h_ 6 [(3, .int (v3 + (Int32.ofInt (-1)))), (2, .int (v2 + (1 : Int32))), (4, .int v301), (0, .index 338), (1, .index a1001)] [] h'))) := by
  have hA : yas tTU_v1_A (tTU_v1_r v2 v3 v301 v302 v904) (yg (tTU_v1_s a1001)) := ⟨List.forall_mem_cons.mpr ⟨b0, List.forall_mem_cons.mpr ⟨b1, fun q_ hq => absurd hq List.not_mem_nil⟩⟩, List.forall_mem_cons.mpr ⟨x0_, fun q_ hq => absurd hq List.not_mem_nil⟩, fun q_ hq => absurd hq List.not_mem_nil, fun n_ hn => yg_lo hn, fun q_ hq => absurd hq List.not_mem_nil⟩
  have Hs : ysh tTU_v1_A.1 (yg (tTU_v1_s a1001)) h_ := ysh_of2 hs (List.forall_mem_cons.mpr ⟨⟨by decide, k1001⟩, fun q_ hq => absurd hq List.not_mem_nil⟩)
  have Ho : ymem (tTU_v1_r v2 v3 v301 v302 v904) (yg (tTU_v1_s a1001)) tTU_v1_O h_ := List.forall_mem_cons.mpr ⟨bpat_some o0_, List.forall_mem_cons.mpr ⟨bpat_some o1, fun q_ hq => absurd hq List.not_mem_nil⟩⟩
  have HC : ∀ q_ ∈ tTU_v1_C, xhold (tTU_v1_r v2 v3 v301 v302 v904) q_ := List.forall_mem_cons.mpr ⟨xh_ltT c0_, fun q_ hq => absurd hq List.not_mem_nil⟩
  rcases yrun (yis_ok tTU_v1_k) hA Hs Ho HC with ⟨q_, hq, h', K_, G_⟩ | ⟨q_, hq, h', K_, G_⟩
  · have e_ := List.mem_singleton.mp hq
    subst e_
    exact ⟨h', yfr_sm K_.2.2.2 hs K_.1 (ywa_s tTU_v1_w List.mem_cons_self), ⟨bpat_of (K_.2.1 _ List.mem_cons_self), bpat_of (K_.2.1 _ (List.mem_cons_of_mem _ List.mem_cons_self)), fun a_ j_ n0_ n1_ => yfr_bp K_.2.2.2 (List.forall_mem_cons.mpr ⟨fun e_ => n0_ ⟨e_.1.symm, e_.2.symm⟩, List.forall_mem_cons.mpr ⟨fun e_ => n1_ ⟨e_.1.symm, e_.2.symm⟩, fun q_ hq => absurd hq List.not_mem_nil⟩⟩), G_⟩⟩
  · cases hq
def tTU_hd (a1001 : Nat) (p2_ p3_ : Int32) (lo_ : xL) : Prop := (lo_ = [(3, .int p3_), (2, .int p2_), (0, .index 338), (1, .index a1001)]) ∨ (∃ y4 : Int32, lo_ = [(3, .int p3_), (2, .int p2_), (4, .int y4), (0, .index 338), (1, .index a1001)])
theorem tTU {h_ : xH} {a1001 : Nat} {v2 v3 v301 v302 : Int32} {lo_ : xL} (hs : sHp h_) (k1001 : bcq h_ a1001 20 13) (o0_ : bpat h_ a1001 (v2).toInt.toNat = some (.int v301)) (o1 : bpat h_ a1001 (v3).toInt.toNat = some (.int v302)) (b0 : 0 ≤ (v2).toInt ∧ (v2).toInt < 13) (b1 : 0 ≤ (v3).toInt ∧ (v3).toInt < 13) (x0_ : ¬ (v2).toInt.toNat = (v3).toInt.toNat) (c0_ : v2.toInt < v3.toInt) (H_ : tTU_hd a1001 v2 v3 lo_) : ∃ h', ysm h_ h' ∧ (((bpat h' a1001 (v3).toInt.toNat = some (.int v301)) ∧ (bpat h' a1001 (v2).toInt.toNat = some (.int v302)) ∧ (∀ a_ j_ : Nat, ¬ (a_ = a1001 ∧ j_ = (v3).toInt.toNat) → ¬ (a_ = a1001 ∧ j_ = (v2).toInt.toNat) → bpat h' a_ j_ = bpat h_ a_ j_) ∧ (∃ lo', tTU_hd a1001 (v2 + (1 : Int32)) (v3 + (Int32.ofInt (-1))) lo' ∧ bldD 60 147 6 lo_ [] h_ 6 lo' [] h'))) := by
  rcases H_ with rfl | ⟨y4, rfl⟩
  · obtain ⟨h', m_, e_⟩ := tTU_v0 hs k1001 o0_ o1 b0 b1 x0_ c0_
    refine ⟨h', m_, ?_⟩
    obtain ⟨g0, g1, g2, g3_⟩ := e_
    exact ⟨g0, g1, g2, ⟨_, Or.inr (⟨_, rfl⟩), g3_⟩⟩
  · obtain ⟨h', m_, e_⟩ := tTU_v1 hs k1001 o0_ o1 b0 b1 x0_ c0_
    refine ⟨h', m_, ?_⟩
    obtain ⟨g0, g1, g2, g3_⟩ := e_
    exact ⟨g0, g1, g2, ⟨_, Or.inr (⟨_, rfl⟩), g3_⟩⟩
-- xTU_v0: 4 steps, 0 ends, 1 returns
def xTU_v0_L : List (Nat × Nat × Nat) := [(1001, 20, 13)]
def xTU_v0_O : yO := []
def xTU_v0_A : yA := (yZ xTU_v0_L, [], [], [], [])
def xTU_v0_C : List xB := [(.lt, .arg 2, .arg 3, false)]
def xTU_v0_ss : List yS := []
def xTU_v0_rs : List yR := [(none, [], [(.lt, .arg 2, .arg 3, false)], [])]
theorem xTU_v0_w : ywa xTU_v0_A xTU_v0_ss xTU_v0_rs = true := by decide +kernel
theorem xTU_v0_k : yis (yev xTU_v0_A 3000 60 147 [6] (6, [(3, .arg 3), (2, .arg 2), (0, .index 338), (1, .index 1001)], [], xTU_v0_O, xTU_v0_C, [])) xTU_v0_ss xTU_v0_rs = true := by decide +kernel
def xTU_v0_r (v2 v3 : Int32) (k_ : Nat) : Value := bif Nat.beq k_ 2 then .int v2 else (bif Nat.beq k_ 3 then .int v3 else (.int 0))
def xTU_v0_s (a1001 : Nat) (n_ : Nat) : Nat := bif Nat.beq n_ 1001 then a1001 else (0)
theorem xTU_v0 {h_ : xH} {a1001 : Nat} {v2 v3 : Int32} (hs : sHp h_) (k1001 : bcq h_ a1001 20 13) (c0_ : v3.toInt ≤ v2.toInt) : ∃ h', ysm h_ h' ∧ (((∀ a_ j_ : Nat, bpat h' a_ j_ = bpat h_ a_ j_) ∧ (∀ D_, 60 ≤ D_ → xrun D_ 147 6 [(3, .int v3), (2, .int v2), (0, .index 338), (1, .index a1001)] [] h_ (none, h', [])))) := by
  have hA : yas xTU_v0_A (xTU_v0_r v2 v3) (yg (xTU_v0_s a1001)) := ⟨fun q_ hq => absurd hq List.not_mem_nil, fun q_ hq => absurd hq List.not_mem_nil, fun q_ hq => absurd hq List.not_mem_nil, fun n_ hn => yg_lo hn, fun q_ hq => absurd hq List.not_mem_nil⟩
  have Hs : ysh xTU_v0_A.1 (yg (xTU_v0_s a1001)) h_ := ysh_of2 hs (List.forall_mem_cons.mpr ⟨⟨by decide, k1001⟩, fun q_ hq => absurd hq List.not_mem_nil⟩)
  have Ho : ymem (xTU_v0_r v2 v3) (yg (xTU_v0_s a1001)) xTU_v0_O h_ := fun q_ hq => absurd hq List.not_mem_nil
  have HC : ∀ q_ ∈ xTU_v0_C, xhold (xTU_v0_r v2 v3) q_ := List.forall_mem_cons.mpr ⟨xh_ltF c0_, fun q_ hq => absurd hq List.not_mem_nil⟩
  rcases yrun (yis_ok xTU_v0_k) hA Hs Ho HC with ⟨q_, hq, h', K_, G_⟩ | ⟨q_, hq, h', K_, G_⟩
  · cases hq
  · have e_ := List.mem_singleton.mp hq
    subst e_
    exact ⟨h', yfr_sm K_.2.2.2 hs K_.1 (ywa_r xTU_v0_w List.mem_cons_self), ⟨fun a_ j_ => yfr_bp K_.2.2.2 (fun q_ hq => absurd hq List.not_mem_nil), G_⟩⟩
-- xTU_v1: 4 steps, 0 ends, 1 returns
def xTU_v1_L : List (Nat × Nat × Nat) := [(1001, 20, 13)]
def xTU_v1_O : yO := []
def xTU_v1_A : yA := (yZ xTU_v1_L, [], [], [], [])
def xTU_v1_C : List xB := [(.lt, .arg 2, .arg 3, false)]
def xTU_v1_ss : List yS := []
def xTU_v1_rs : List yR := [(none, [], [(.lt, .arg 2, .arg 3, false)], [])]
theorem xTU_v1_w : ywa xTU_v1_A xTU_v1_ss xTU_v1_rs = true := by decide +kernel
theorem xTU_v1_k : yis (yev xTU_v1_A 3000 60 147 [6] (6, [(3, .arg 3), (2, .arg 2), (4, .arg 904), (0, .index 338), (1, .index 1001)], [], xTU_v1_O, xTU_v1_C, [])) xTU_v1_ss xTU_v1_rs = true := by decide +kernel
def xTU_v1_r (v2 v3 v904 : Int32) (k_ : Nat) : Value := bif Nat.beq k_ 2 then .int v2 else (bif Nat.beq k_ 3 then .int v3 else (bif Nat.beq k_ 904 then .int v904 else (.int 0)))
def xTU_v1_s (a1001 : Nat) (n_ : Nat) : Nat := bif Nat.beq n_ 1001 then a1001 else (0)
theorem xTU_v1 {h_ : xH} {a1001 : Nat} {v2 v3 v904 : Int32} (hs : sHp h_) (k1001 : bcq h_ a1001 20 13) (c0_ : v3.toInt ≤ v2.toInt) : ∃ h', ysm h_ h' ∧ (((∀ a_ j_ : Nat, bpat h' a_ j_ = bpat h_ a_ j_) ∧ (∀ D_, 60 ≤ D_ → xrun D_ 147 6 [(3, .int v3), (2, .int v2), (4, .int v904), (0, .index 338), (1, .index a1001)] [] h_ (none, h', [])))) := by
  have hA : yas xTU_v1_A (xTU_v1_r v2 v3 v904) (yg (xTU_v1_s a1001)) := ⟨fun q_ hq => absurd hq List.not_mem_nil, fun q_ hq => absurd hq List.not_mem_nil, fun q_ hq => absurd hq List.not_mem_nil, fun n_ hn => yg_lo hn, fun q_ hq => absurd hq List.not_mem_nil⟩
  have Hs : ysh xTU_v1_A.1 (yg (xTU_v1_s a1001)) h_ := ysh_of2 hs (List.forall_mem_cons.mpr ⟨⟨by decide, k1001⟩, fun q_ hq => absurd hq List.not_mem_nil⟩)
  have Ho : ymem (xTU_v1_r v2 v3 v904) (yg (xTU_v1_s a1001)) xTU_v1_O h_ := fun q_ hq => absurd hq List.not_mem_nil
  have HC : ∀ q_ ∈ xTU_v1_C, xhold (xTU_v1_r v2 v3 v904) q_ := List.forall_mem_cons.mpr ⟨xh_ltF c0_, fun q_ hq => absurd hq List.not_mem_nil⟩
  rcases yrun (yis_ok xTU_v1_k) hA Hs Ho HC with ⟨q_, hq, h', K_, G_⟩ | ⟨q_, hq, h', K_, G_⟩
  · cases hq
  · have e_ := List.mem_singleton.mp hq
    subst e_
    exact ⟨h', yfr_sm K_.2.2.2 hs K_.1 (ywa_r xTU_v1_w List.mem_cons_self), ⟨fun a_ j_ => yfr_bp K_.2.2.2 (fun q_ hq => absurd hq List.not_mem_nil), G_⟩⟩
theorem xTU {h_ : xH} {a1001 : Nat} {v2 v3 : Int32} {lo_ : xL} (hs : sHp h_) (k1001 : bcq h_ a1001 20 13) (c0_ : v3.toInt ≤ v2.toInt) (H_ : tTU_hd a1001 v2 v3 lo_) : ∃ h', ysm h_ h' ∧ (((∀ a_ j_ : Nat, bpat h' a_ j_ = bpat h_ a_ j_) ∧ (∀ D_, 60 ≤ D_ → xrun D_ 147 6 lo_ [] h_ (none, h', [])))) := by
  rcases H_ with rfl | ⟨y4, rfl⟩
  · obtain ⟨h', m_, e_⟩ := xTU_v0 hs k1001 c0_
    refine ⟨h', m_, ?_⟩
    obtain ⟨g0, g1⟩ := e_
    exact ⟨g0, g1⟩
  · obtain ⟨h', m_, e_⟩ := xTU_v1 hs k1001 c0_
    refine ⟨h', m_, ?_⟩
    obtain ⟨g0, g1⟩ := e_
    exact ⟨g0, g1⟩
-- eTU: 6 steps, 1 ends, 0 returns
def eTU_L : List (Nat × Nat × Nat) := [(1001, 20, 13)]
def eTU_O : yO := [(1001, .int 0, .arg 300)]
def eTU_A : yA := (yZ eTU_L, [], [], [], [])
def eTU_C : List xB := []
def eTU_ss : List yS := [(6, [(3, .arg 300), (2, .int 1), (0, .index 338), (1, .index 1001)], [], [(1001, .int 0, .arg 300)], [], [])]
def eTU_rs : List yR := []
theorem eTU_w : ywa eTU_A eTU_ss eTU_rs = true := by decide +kernel
theorem eTU_k : yis (yev eTU_A 3000 60 147 [6] (0, [(0, .index 338), (1, .index 1001)], [], eTU_O, eTU_C, [])) eTU_ss eTU_rs = true := by decide +kernel
def eTU_r (v300 : Int32) (k_ : Nat) : Value := bif Nat.beq k_ 300 then .int v300 else (.int 0)
def eTU_s (a1001 : Nat) (n_ : Nat) : Nat := bif Nat.beq n_ 1001 then a1001 else (0)
theorem eTU {h_ : xH} {a1001 : Nat} {v300 : Int32} (hs : sHp h_) (k1001 : bcq h_ a1001 20 13) (o0_ : bpat h_ a1001 0 = some (.int v300)) : ∃ h', ysm h_ h' ∧ (((∀ a_ j_ : Nat, bpat h' a_ j_ = bpat h_ a_ j_) ∧ (bldD 60 147 0 [(0, .index 338), (1, .index a1001)] [] h_ 6 [(3, .int v300), (2, .int (1 : Int32)), (0, .index 338), (1, .index a1001)] [] h'))) := by
  have hA : yas eTU_A (eTU_r v300) (yg (eTU_s a1001)) := ⟨fun q_ hq => absurd hq List.not_mem_nil, fun q_ hq => absurd hq List.not_mem_nil, fun q_ hq => absurd hq List.not_mem_nil, fun n_ hn => yg_lo hn, fun q_ hq => absurd hq List.not_mem_nil⟩
  have Hs : ysh eTU_A.1 (yg (eTU_s a1001)) h_ := ysh_of2 hs (List.forall_mem_cons.mpr ⟨⟨by decide, k1001⟩, fun q_ hq => absurd hq List.not_mem_nil⟩)
  have Ho : ymem (eTU_r v300) (yg (eTU_s a1001)) eTU_O h_ := List.forall_mem_cons.mpr ⟨bpat_some o0_, fun q_ hq => absurd hq List.not_mem_nil⟩
  have HC : ∀ q_ ∈ eTU_C, xhold (eTU_r v300) q_ := fun q_ hq => absurd hq List.not_mem_nil
  rcases yrun (yis_ok eTU_k) hA Hs Ho HC with ⟨q_, hq, h', K_, G_⟩ | ⟨q_, hq, h', K_, G_⟩
  · have e_ := List.mem_singleton.mp hq
    subst e_
    exact ⟨h', yfr_sm K_.2.2.2 hs K_.1 (ywa_s eTU_w List.mem_cons_self), ⟨fun a_ j_ => yfr_bp K_.2.2.2 (fun q_ hq => absurd hq List.not_mem_nil), G_⟩⟩
  · cases hq
theorem rwm_swp {h_ h' : xH} {b_ q_ n_ i_ j_ : Nat} {l : List Int32} {x_ y_ : Int32} (R_ : rwm h_ b_ q_ n_ l) (hm_ : ysm h_ h') (hx : l[i_]? = some x_) (hy : l[j_]? = some y_) (ne_ : ¬ i_ = j_) (e1_ : bpat h' b_ (q_ + 1 + i_) = some (.int y_)) (e2_ : bpat h' b_ (q_ + 1 + j_) = some (.int x_)) (f_ : ∀ k_, ¬ k_ = q_ + 1 + i_ → ¬ k_ = q_ + 1 + j_ → bpat h' b_ k_ = bpat h_ b_ k_) : rwm h' b_ q_ n_ ((l.set i_ y_).set j_ x_) := by
  obtain ⟨R1, R2, R3⟩ := R_
  have hi_ := (List.getElem?_eq_some_iff.mp hx).1
  have hj := (List.getElem?_eq_some_iff.mp hy).1
  refine ⟨hm_.2 _ _ _ R1, ?_, fun k_ z_ hz => ?_⟩
  · rw [List.length_set, List.length_set]
    exact (f_ q_ (by omega) (by omega)).trans R2
  · by_cases u_ : k_ = j_
    · subst u_
      rw [List.getElem?_set_self (by rw [List.length_set]; exact hj)] at hz
      cases hz
      exact e2_
    · rw [List.getElem?_set_ne (fun z_ => u_ z_.symm)] at hz
      by_cases p_ : k_ = i_
      · subst p_
        rw [List.getElem?_set_self hi_] at hz
        cases hz
        exact e1_
      · rw [List.getElem?_set_ne (fun z_ => p_ z_.symm)] at hz
        exact (f_ _ (by omega) (by omega)).trans (R3 k_ z_ hz)
theorem i32m2 (j_ : Int) (h1 : 0 ≤ j_) (h2 : j_ ≤ 100) : Int32.ofInt j_ + Int32.ofInt (-1) = Int32.ofInt (j_ - 1) := by
  refine Int32.toInt_inj.mp ?_
  have e1_ : (Int32.ofInt (-1)).toInt = -1 := by decide
  rw [Int32.toInt_add, i32z (by omega) (by omega), e1_, i32z (by omega) (by omega), xbm32 (by omega) (by omega)]
  omega
/-- BACK, the reference -/
theorem turnsM {b_ : Nat} {l : List Int32} {h_ : xH} (R_ : rM b_ h_ l) : ∃ h', rM b_ h' (rvf 12 0 ((l.length : Int) - 1) l) ∧ frb b_ h_ h' ∧ eRet 147 0 [(0, .index 338), (1, .index b_)] h_ h' := by
  obtain ⟨h0, m0_, f0_, ld0⟩ := eTU R_.1 R_.2.1.1 R_.2.1.2.1
  have R0_ : rM b_ h0 l := ⟨m0_.1, rwm_keep R_.2.1 m0_ (fun j_ _ _ => f0_ b_ j_), R_.2.2⟩
  have hl := R_.2.2
  have es : Int32.ofNat l.length = Int32.ofInt ((l.length : Int) - 1 + 1) := by
    rw [show (l.length : Int) - 1 + 1 = (l.length : Int) by omega]
    rfl
  rw [es] at ld0
  obtain ⟨h', R', F', E'_⟩ := swap_loop (mi := 147) (pc := 6) (HD := fun i_ j_ lo_ => (-1 ≤ j_ ∧ i_ ≤ 12) ∧ tTU_hd b_ (Int32.ofNat (i_ + 1)) (Int32.ofInt (j_ + 1)) lo_) (RW := rM b_) (FR := frb b_) (E_ := eRet 147 6) frb_tr eRet_led (by
    intro i_ j_ l h_ lo_ x_ y_ R_ hx hy hij H_
    obtain ⟨Rs_, ⟨R1, R2, R3⟩, R7⟩ := R_
    have hi_ := (List.getElem?_eq_some_iff.mp hx).1
    have hj := (List.getElem?_eq_some_iff.mp hy).1
    have e6_ : bpat h_ b_ (Int32.ofNat (i_ + 1)).toInt.toNat = some (.int x_) := by
      rw [i32t (by omega), show i_ + 1 = 0 + 1 + i_ by omega]
      exact R3 i_ x_ hx
    have ej : Int32.ofInt ((j_ : Int) + 1) = Int32.ofNat (j_ + 1) := rfl
    have e7_ : bpat h_ b_ (Int32.ofNat (j_ + 1)).toInt.toNat = some (.int y_) := by
      rw [i32t (by omega), show j_ + 1 = 0 + 1 + j_ by omega]
      exact R3 j_ y_ hy
    obtain ⟨hb_, H_⟩ := H_
    rw [ej] at H_
    obtain ⟨h1, m1_, e1_, e2_, f1_, lo', H', ld⟩ := tTU Rs_ R1 (by assumption) (by assumption) ⟨by rw [i32n (by omega)]; omega, by rw [i32n (by omega)]; omega⟩ ⟨by rw [i32n (by omega)]; omega, by rw [i32n (by omega)]; omega⟩ (by rw [i32t (by omega), i32t (by omega)]; omega) (by rw [i32n (by omega), i32n (by omega)]; omega) H_
    rw [i32t (by omega)] at e1_ e2_
    rw [i32s, i32m (j_ + 1) (by omega)] at H'
    have f2_ : ∀ c_ k_, ¬ (c_ = b_ ∧ k_ = i_ + 1) → ¬ (c_ = b_ ∧ k_ = j_ + 1) → bpat h1 c_ k_ = bpat h_ c_ k_ := by
      intro c_ k_ n1_ n2_
      exact f1_ c_ k_ (by rw [i32t (by omega)]; exact n2_) (by rw [i32t (by omega)]; exact n1_)
    refine ⟨h1, lo', ⟨m1_.1, rwm_swp ⟨R1, R2, R3⟩ m1_ hx hy (by omega) (by rw [show 0 + 1 + i_ = i_ + 1 by omega]; exact e2_) (by rw [show 0 + 1 + j_ = j_ + 1 by omega]; exact e1_) (fun k_ n1_ n2_ => f2_ b_ k_ (by omega) (by omega)), by rw [List.length_set, List.length_set]; exact R7⟩, ⟨m1_, fun c_ k_ n_ => f2_ c_ k_ (fun q_ => n_ q_.1) (fun q_ => n_ q_.1)⟩, ⟨⟨by omega, by omega⟩, ?_⟩, ld⟩
    rw [show (j_ : Int) - 1 + 1 = ((j_ + 1 : Nat) : Int) - 1 by omega]
    exact H') (by
    intro i_ j_ l h_ lo_ R_ hl H_
    obtain ⟨Rs_, R_, R7⟩ := R_
    obtain ⟨hb_, H_⟩ := H_
    obtain ⟨h1, m1_, f1_, e1_⟩ := xTU Rs_ R_.1 (by rw [i32n (by omega), i32z (by omega) (by omega)]; omega) H_
    exact ⟨h1, ⟨m1_.1, rwm_keep R_ m1_ (fun j_ _ _ => f1_ b_ j_), R7⟩, ⟨m1_, fun c_ j_ _ => f1_ c_ j_⟩, e1_⟩) 12 0 ((l.length : Int) - 1) l h0 _ (by omega) (by omega) R0_ ⟨⟨by omega, by omega⟩, Or.inl rfl⟩
  exact ⟨h', R', frb_tr _ _ _ ⟨m0_, fun c_ j_ _ => f0_ c_ j_⟩ F', fun D_ hD => ld0 D_ hD _ (E'_ D_ hD)⟩
-- tLO_v0: 23 steps, 2 ends, 0 returns
def tLO_v0_L : List (Nat × Nat × Nat) := [(1000, 6, 2), (1001, 20, 12)]
def tLO_v0_O : yO := [(1000, .int 1, .arg 300), (1000, .int 0, .index 1001), (1001, .arg 4, .arg 301)]
def tLO_v0_A : yA := (yZ tLO_v0_L, [(.arg 4, 12), (.arg 2, 12)], [], [], [])
def tLO_v0_C : List xB := [(.lt, .arg 4, .arg 300, true)]
def tLO_v0_ss : List yS := [(7, [(4, .add (.arg 4) (.int 1)), (2, .add (.arg 2) (.int 1)), (3, .add (.arg 3) (.int (Int32.ofInt (-1)))), (0, .index 1000), (1, .arg 1)], [], [(1001, .arg 2, .arg 301), (1000, .int 1, .arg 300), (1000, .int 0, .index 1001)], [(.le, .add (.arg 3) (.int (Int32.ofInt (-1))), .int 0, false), (.lt, .arg 4, .arg 300, true)], [(1001, .arg 2)]),
  (7, [(4, .add (.arg 4) (.int 1)), (3, .arg 1), (2, .arg 2), (0, .index 1000), (1, .arg 1)], [], [(1000, .int 1, .arg 300), (1000, .int 0, .index 1001), (1001, .arg 4, .arg 301)], [(.le, .add (.arg 3) (.int (Int32.ofInt (-1))), .int 0, true), (.lt, .arg 4, .arg 300, true)], [])]
def tLO_v0_rs : List yR := []
theorem tLO_v0_w : ywa tLO_v0_A tLO_v0_ss tLO_v0_rs = true := by decide +kernel
theorem tLO_v0_k : yis (yev tLO_v0_A 3000 60 46 [7] (7, [(4, .arg 4), (3, .arg 3), (2, .arg 2), (0, .index 1000), (1, .arg 1)], [], tLO_v0_O, tLO_v0_C, [])) tLO_v0_ss tLO_v0_rs = true := by decide +kernel
def tLO_v0_r (v1_ v2 v3 v4_ v300 v301 : Int32) (k_ : Nat) : Value := bif Nat.beq k_ 1 then .int v1_ else (bif Nat.beq k_ 2 then .int v2 else (bif Nat.beq k_ 3 then .int v3 else (bif Nat.beq k_ 4 then .int v4_ else (bif Nat.beq k_ 300 then .int v300 else (bif Nat.beq k_ 301 then .int v301 else (.int 0))))))
def tLO_v0_s (a1000 a1001 : Nat) (n_ : Nat) : Nat := bif Nat.beq n_ 1000 then a1000 else (bif Nat.beq n_ 1001 then a1001 else (0))
theorem tLO_v0 {h_ : xH} {a1000 a1001 : Nat} {v1_ v2 v3 v4_ v300 v301 : Int32} (hs : sHp h_) (k1000 : bcq h_ a1000 6 2) (k1001 : bcq h_ a1001 20 12) (o0_ : bpat h_ a1000 1 = some (.int v300)) (o1 : bpat h_ a1000 0 = some (.index a1001)) (o2 : bpat h_ a1001 (v4_).toInt.toNat = some (.int v301)) (b0 : 0 ≤ (v4_).toInt ∧ (v4_).toInt < 12) (b1 : 0 ≤ (v2).toInt ∧ (v2).toInt < 12) (c0_ : v4_.toInt < v300.toInt) : ∃ h', ysm h_ h' ∧ ((((0 : Int32).toInt < (v3 + (Int32.ofInt (-1))).toInt) ∧ (bpat h' a1001 (v2).toInt.toNat = some (.int v301)) ∧ (∀ a_ j_ : Nat, ¬ (a_ = a1001 ∧ j_ = (v2).toInt.toNat) → bpat h' a_ j_ = bpat h_ a_ j_) ∧ (bldD 60 46 7 [(4, .int v4_), (3, .int v3), (2, .int v2), (0, .index a1000), (1, .int v1_)] [] h_ 7 [(4, .int (v4_ + (1 : Int32))), (2, .int (v2 + (1 : Int32))), (3, .int (v3 + (Int32.ofInt (-1)))), (0, .index a1000), (1, .int v1_)] [] h'))
  ∨ (((v3 + (Int32.ofInt (-1))).toInt ≤ (0 : Int32).toInt) ∧ (∀ a_ j_ : Nat, bpat h' a_ j_ = bpat h_ a_ j_) ∧ (bldD 60 46 7 [(4, .int v4_), (3, .int v3), (2, .int v2), (0, .index a1000), (1, .int v1_)] [] h_ 7 [(4, .int (v4_ + (1 : Int32))), (3, .int v1_), (2, .int v2), (0, .index a1000), (1, .int v1_)] [] h'))) := by
  have hA : yas tLO_v0_A (tLO_v0_r v1_ v2 v3 v4_ v300 v301) (yg (tLO_v0_s a1000 a1001)) := ⟨List.forall_mem_cons.mpr ⟨b0, List.forall_mem_cons.mpr ⟨b1, fun q_ hq => absurd hq List.not_mem_nil⟩⟩, fun q_ hq => absurd hq List.not_mem_nil, fun q_ hq => absurd hq List.not_mem_nil, fun n_ hn => yg_lo hn, fun q_ hq => absurd hq List.not_mem_nil⟩
  have Hs : ysh tLO_v0_A.1 (yg (tLO_v0_s a1000 a1001)) h_ := ysh_of2 hs (List.forall_mem_cons.mpr ⟨⟨by decide, k1000⟩, List.forall_mem_cons.mpr ⟨⟨by decide, k1001⟩, fun q_ hq => absurd hq List.not_mem_nil⟩⟩)
  have Ho : ymem (tLO_v0_r v1_ v2 v3 v4_ v300 v301) (yg (tLO_v0_s a1000 a1001)) tLO_v0_O h_ := List.forall_mem_cons.mpr ⟨bpat_some o0_, List.forall_mem_cons.mpr ⟨bpat_some o1, List.forall_mem_cons.mpr ⟨bpat_some o2, fun q_ hq => absurd hq List.not_mem_nil⟩⟩⟩
  have HC : ∀ q_ ∈ tLO_v0_C, xhold (tLO_v0_r v1_ v2 v3 v4_ v300 v301) q_ := List.forall_mem_cons.mpr ⟨xh_ltT c0_, fun q_ hq => absurd hq List.not_mem_nil⟩
  rcases yrun (yis_ok tLO_v0_k) hA Hs Ho HC with ⟨q_, hq, h', K_, G_⟩ | ⟨q_, hq, h', K_, G_⟩
  · rcases List.mem_cons.mp hq with e_ | hq
    · subst e_
      exact ⟨h', yfr_sm K_.2.2.2 hs K_.1 (ywa_s tLO_v0_w List.mem_cons_self), Or.inl (⟨xq_leF (yv_add2 rfl rfl) rfl (K_.2.2.1 _ List.mem_cons_self), bpat_of (K_.2.1 _ List.mem_cons_self), fun a_ j_ n0_ => yfr_bp K_.2.2.2 (List.forall_mem_cons.mpr ⟨fun e_ => n0_ ⟨e_.1.symm, e_.2.symm⟩, fun q_ hq => absurd hq List.not_mem_nil⟩), G_⟩)⟩
    have e_ := List.mem_singleton.mp hq
    subst e_
    exact ⟨h', yfr_sm K_.2.2.2 hs K_.1 (ywa_s tLO_v0_w (List.mem_cons_of_mem _ List.mem_cons_self)), Or.inr (⟨xq_leT (yv_add2 rfl rfl) rfl (K_.2.2.1 _ List.mem_cons_self), fun a_ j_ => yfr_bp K_.2.2.2 (fun q_ hq => absurd hq List.not_mem_nil), G_⟩)⟩
  · cases hq
-- tLO_v1: 23 steps, 2 ends, 0 returns
def tLO_v1_L : List (Nat × Nat × Nat) := [(1000, 6, 2), (1001, 20, 12)]
def tLO_v1_O : yO := [(1000, .int 1, .arg 300), (1000, .int 0, .index 1001), (1001, .arg 4, .arg 301)]
def tLO_v1_A : yA := (yZ tLO_v1_L, [(.arg 4, 12), (.arg 2, 12)], [], [], [])
def tLO_v1_C : List xB := [(.lt, .arg 4, .arg 300, true)]
def tLO_v1_ss : List yS := [(7, [(4, .add (.arg 4) (.int 1)), (2, .add (.arg 2) (.int 1)), (3, .add (.arg 3) (.int (Int32.ofInt (-1)))), (0, .index 1000), (1, .arg 1)], [], [(1001, .arg 2, .arg 301), (1000, .int 1, .arg 300), (1000, .int 0, .index 1001)], [(.le, .add (.arg 3) (.int (Int32.ofInt (-1))), .int 0, false), (.lt, .arg 4, .arg 300, true)], [(1001, .arg 2)]),
  (7, [(4, .add (.arg 4) (.int 1)), (3, .arg 1), (2, .arg 2), (0, .index 1000), (1, .arg 1)], [], [(1000, .int 1, .arg 300), (1000, .int 0, .index 1001), (1001, .arg 4, .arg 301)], [(.le, .add (.arg 3) (.int (Int32.ofInt (-1))), .int 0, true), (.lt, .arg 4, .arg 300, true)], [])]
def tLO_v1_rs : List yR := []
theorem tLO_v1_w : ywa tLO_v1_A tLO_v1_ss tLO_v1_rs = true := by decide +kernel
theorem tLO_v1_k : yis (yev tLO_v1_A 3000 60 46 [7] (7, [(4, .arg 4), (2, .arg 2), (3, .arg 3), (0, .index 1000), (1, .arg 1)], [], tLO_v1_O, tLO_v1_C, [])) tLO_v1_ss tLO_v1_rs = true := by decide +kernel
def tLO_v1_r (v1_ v2 v3 v4_ v300 v301 : Int32) (k_ : Nat) : Value := bif Nat.beq k_ 1 then .int v1_ else (bif Nat.beq k_ 2 then .int v2 else (bif Nat.beq k_ 3 then .int v3 else (bif Nat.beq k_ 4 then .int v4_ else (bif Nat.beq k_ 300 then .int v300 else (bif Nat.beq k_ 301 then .int v301 else (.int 0))))))
def tLO_v1_s (a1000 a1001 : Nat) (n_ : Nat) : Nat := bif Nat.beq n_ 1000 then a1000 else (bif Nat.beq n_ 1001 then a1001 else (0))
theorem tLO_v1 {h_ : xH} {a1000 a1001 : Nat} {v1_ v2 v3 v4_ v300 v301 : Int32} (hs : sHp h_) (k1000 : bcq h_ a1000 6 2) (k1001 : bcq h_ a1001 20 12) (o0_ : bpat h_ a1000 1 = some (.int v300)) (o1 : bpat h_ a1000 0 = some (.index a1001)) (o2 : bpat h_ a1001 (v4_).toInt.toNat = some (.int v301)) (b0 : 0 ≤ (v4_).toInt ∧ (v4_).toInt < 12) (b1 : 0 ≤ (v2).toInt ∧ (v2).toInt < 12) (c0_ : v4_.toInt < v300.toInt) : ∃ h', ysm h_ h' ∧ ((((0 : Int32).toInt < (v3 + (Int32.ofInt (-1))).toInt) ∧ (bpat h' a1001 (v2).toInt.toNat = some (.int v301)) ∧ (∀ a_ j_ : Nat, ¬ (a_ = a1001 ∧ j_ = (v2).toInt.toNat) → bpat h' a_ j_ = bpat h_ a_ j_) ∧ (bldD 60 46 7 [(4, .int v4_), (2, .int v2), (3, .int v3), (0, .index a1000), (1, .int v1_)] [] h_ 7 [(4, .int (v4_ + (1 : Int32))), (2, .int (v2 + (1 : Int32))), (3, .int (v3 + (Int32.ofInt (-1)))), (0, .index a1000), (1, .int v1_)] [] h'))
  ∨ (((v3 + (Int32.ofInt (-1))).toInt ≤ (0 : Int32).toInt) ∧ (∀ a_ j_ : Nat, bpat h' a_ j_ = bpat h_ a_ j_) ∧ (bldD 60 46 7 [(4, .int v4_), (2, .int v2), (3, .int v3), (0, .index a1000), (1, .int v1_)] [] h_ 7 [(4, .int (v4_ + (1 : Int32))), (3, .int v1_), (2, .int v2), (0, .index a1000), (1, .int v1_)] [] h'))) := by
  have hA : yas tLO_v1_A (tLO_v1_r v1_ v2 v3 v4_ v300 v301) (yg (tLO_v1_s a1000 a1001)) := ⟨List.forall_mem_cons.mpr ⟨b0, List.forall_mem_cons.mpr ⟨b1, fun q_ hq => absurd hq List.not_mem_nil⟩⟩, fun q_ hq => absurd hq List.not_mem_nil, fun q_ hq => absurd hq List.not_mem_nil, fun n_ hn => yg_lo hn, fun q_ hq => absurd hq List.not_mem_nil⟩
  have Hs : ysh tLO_v1_A.1 (yg (tLO_v1_s a1000 a1001)) h_ := ysh_of2 hs (List.forall_mem_cons.mpr ⟨⟨by decide, k1000⟩, List.forall_mem_cons.mpr ⟨⟨by decide, k1001⟩, fun q_ hq => absurd hq List.not_mem_nil⟩⟩)
  have Ho : ymem (tLO_v1_r v1_ v2 v3 v4_ v300 v301) (yg (tLO_v1_s a1000 a1001)) tLO_v1_O h_ := List.forall_mem_cons.mpr ⟨bpat_some o0_, List.forall_mem_cons.mpr ⟨bpat_some o1, List.forall_mem_cons.mpr ⟨bpat_some o2, fun q_ hq => absurd hq List.not_mem_nil⟩⟩⟩
  have HC : ∀ q_ ∈ tLO_v1_C, xhold (tLO_v1_r v1_ v2 v3 v4_ v300 v301) q_ := List.forall_mem_cons.mpr ⟨xh_ltT c0_, fun q_ hq => absurd hq List.not_mem_nil⟩
  rcases yrun (yis_ok tLO_v1_k) hA Hs Ho HC with ⟨q_, hq, h', K_, G_⟩ | ⟨q_, hq, h', K_, G_⟩
  · rcases List.mem_cons.mp hq with e_ | hq
    · subst e_
      exact ⟨h', yfr_sm K_.2.2.2 hs K_.1 (ywa_s tLO_v1_w List.mem_cons_self), Or.inl (⟨xq_leF (yv_add2 rfl rfl) rfl (K_.2.2.1 _ List.mem_cons_self), bpat_of (K_.2.1 _ List.mem_cons_self), fun a_ j_ n0_ => yfr_bp K_.2.2.2 (List.forall_mem_cons.mpr ⟨fun e_ => n0_ ⟨e_.1.symm, e_.2.symm⟩, fun q_ hq => absurd hq List.not_mem_nil⟩), G_⟩)⟩
    have e_ := List.mem_singleton.mp hq
    subst e_
    exact ⟨h', yfr_sm K_.2.2.2 hs K_.1 (ywa_s tLO_v1_w (List.mem_cons_of_mem _ List.mem_cons_self)), Or.inr (⟨xq_leT (yv_add2 rfl rfl) rfl (K_.2.2.1 _ List.mem_cons_self), fun a_ j_ => yfr_bp K_.2.2.2 (fun q_ hq => absurd hq List.not_mem_nil), G_⟩)⟩
  · cases hq
def tLO_hd (a1000 : Nat) (p1_ p2_ p3_ p4_ : Int32) (lo_ : xL) : Prop := (lo_ = [(4, .int p4_), (3, .int p3_), (2, .int p2_), (0, .index a1000), (1, .int p1_)]) ∨ (lo_ = [(4, .int p4_), (2, .int p2_), (3, .int p3_), (0, .index a1000), (1, .int p1_)])
theorem tLO {h_ : xH} {a1000 a1001 : Nat} {v1_ v2 v3 v4_ v300 v301 : Int32} {lo_ : xL} (hs : sHp h_) (k1000 : bcq h_ a1000 6 2) (k1001 : bcq h_ a1001 20 12) (o0_ : bpat h_ a1000 1 = some (.int v300)) (o1 : bpat h_ a1000 0 = some (.index a1001)) (o2 : bpat h_ a1001 (v4_).toInt.toNat = some (.int v301)) (b0 : 0 ≤ (v4_).toInt ∧ (v4_).toInt < 12) (b1 : 0 ≤ (v2).toInt ∧ (v2).toInt < 12) (c0_ : v4_.toInt < v300.toInt) (H_ : tLO_hd a1000 v1_ v2 v3 v4_ lo_) : ∃ h', ysm h_ h' ∧ ((((0 : Int32).toInt < (v3 + (Int32.ofInt (-1))).toInt) ∧ (bpat h' a1001 (v2).toInt.toNat = some (.int v301)) ∧ (∀ a_ j_ : Nat, ¬ (a_ = a1001 ∧ j_ = (v2).toInt.toNat) → bpat h' a_ j_ = bpat h_ a_ j_) ∧ (∃ lo', tLO_hd a1000 v1_ (v2 + (1 : Int32)) (v3 + (Int32.ofInt (-1))) (v4_ + (1 : Int32)) lo' ∧ bldD 60 46 7 lo_ [] h_ 7 lo' [] h'))
  ∨ (((v3 + (Int32.ofInt (-1))).toInt ≤ (0 : Int32).toInt) ∧ (∀ a_ j_ : Nat, bpat h' a_ j_ = bpat h_ a_ j_) ∧ (∃ lo', tLO_hd a1000 v1_ v2 v1_ (v4_ + (1 : Int32)) lo' ∧ bldD 60 46 7 lo_ [] h_ 7 lo' [] h'))) := by
  rcases H_ with rfl | rfl
  · obtain ⟨h', m_, e_⟩ := tLO_v0 hs k1000 k1001 o0_ o1 o2 b0 b1 c0_
    refine ⟨h', m_, ?_⟩
    rcases e_ with e_ | e_
    · obtain ⟨g0, g1, g2, g3_⟩ := e_
      exact Or.inl ⟨g0, g1, g2, ⟨_, Or.inr (rfl), g3_⟩⟩
    · obtain ⟨g0, g1, g2⟩ := e_
      exact Or.inr (⟨g0, g1, ⟨_, Or.inl (rfl), g2⟩⟩)
  · obtain ⟨h', m_, e_⟩ := tLO_v1 hs k1000 k1001 o0_ o1 o2 b0 b1 c0_
    refine ⟨h', m_, ?_⟩
    rcases e_ with e_ | e_
    · obtain ⟨g0, g1, g2, g3_⟩ := e_
      exact Or.inl ⟨g0, g1, g2, ⟨_, Or.inr (rfl), g3_⟩⟩
    · obtain ⟨g0, g1, g2⟩ := e_
      exact Or.inr (⟨g0, g1, ⟨_, Or.inl (rfl), g2⟩⟩)
-- xLO_v0: 8 steps, 0 ends, 1 returns
def xLO_v0_L : List (Nat × Nat × Nat) := [(1000, 6, 2), (1001, 20, 12)]
def xLO_v0_O : yO := [(1000, .int 1, .arg 300)]
def xLO_v0_A : yA := (yZ xLO_v0_L, [], [], [], [])
def xLO_v0_C : List xB := [(.lt, .arg 4, .arg 300, false)]
def xLO_v0_ss : List yS := []
def xLO_v0_rs : List yR := [(none, [(1000, .int 1, .arg 2)], [(.lt, .arg 4, .arg 300, false)], [(1000, .int 1)])]
theorem xLO_v0_w : ywa xLO_v0_A xLO_v0_ss xLO_v0_rs = true := by decide +kernel
theorem xLO_v0_k : yis (yev xLO_v0_A 3000 60 46 [7] (7, [(4, .arg 4), (3, .arg 3), (2, .arg 2), (0, .index 1000), (1, .arg 1)], [], xLO_v0_O, xLO_v0_C, [])) xLO_v0_ss xLO_v0_rs = true := by decide +kernel
def xLO_v0_r (v1_ v2 v3 v4_ v300 : Int32) (k_ : Nat) : Value := bif Nat.beq k_ 1 then .int v1_ else (bif Nat.beq k_ 2 then .int v2 else (bif Nat.beq k_ 3 then .int v3 else (bif Nat.beq k_ 4 then .int v4_ else (bif Nat.beq k_ 300 then .int v300 else (.int 0)))))
def xLO_v0_s (a1000 a1001 : Nat) (n_ : Nat) : Nat := bif Nat.beq n_ 1000 then a1000 else (bif Nat.beq n_ 1001 then a1001 else (0))
theorem xLO_v0 {h_ : xH} {a1000 a1001 : Nat} {v1_ v2 v3 v4_ v300 : Int32} (hs : sHp h_) (k1000 : bcq h_ a1000 6 2) (k1001 : bcq h_ a1001 20 12) (o0_ : bpat h_ a1000 1 = some (.int v300)) (c0_ : v300.toInt ≤ v4_.toInt) : ∃ h', ysm h_ h' ∧ (((bpat h' a1000 1 = some (.int v2)) ∧ (∀ a_ j_ : Nat, ¬ (a_ = a1000 ∧ j_ = 1) → bpat h' a_ j_ = bpat h_ a_ j_) ∧ (∀ D_, 60 ≤ D_ → xrun D_ 46 7 [(4, .int v4_), (3, .int v3), (2, .int v2), (0, .index a1000), (1, .int v1_)] [] h_ (none, h', [])))) := by
  have hA : yas xLO_v0_A (xLO_v0_r v1_ v2 v3 v4_ v300) (yg (xLO_v0_s a1000 a1001)) := ⟨fun q_ hq => absurd hq List.not_mem_nil, fun q_ hq => absurd hq List.not_mem_nil, fun q_ hq => absurd hq List.not_mem_nil, fun n_ hn => yg_lo hn, fun q_ hq => absurd hq List.not_mem_nil⟩
  have Hs : ysh xLO_v0_A.1 (yg (xLO_v0_s a1000 a1001)) h_ := ysh_of2 hs (List.forall_mem_cons.mpr ⟨⟨by decide, k1000⟩, List.forall_mem_cons.mpr ⟨⟨by decide, k1001⟩, fun q_ hq => absurd hq List.not_mem_nil⟩⟩)
  have Ho : ymem (xLO_v0_r v1_ v2 v3 v4_ v300) (yg (xLO_v0_s a1000 a1001)) xLO_v0_O h_ := List.forall_mem_cons.mpr ⟨bpat_some o0_, fun q_ hq => absurd hq List.not_mem_nil⟩
  have HC : ∀ q_ ∈ xLO_v0_C, xhold (xLO_v0_r v1_ v2 v3 v4_ v300) q_ := List.forall_mem_cons.mpr ⟨xh_ltF c0_, fun q_ hq => absurd hq List.not_mem_nil⟩
  rcases yrun (yis_ok xLO_v0_k) hA Hs Ho HC with ⟨q_, hq, h', K_, G_⟩ | ⟨q_, hq, h', K_, G_⟩
  · cases hq
  · have e_ := List.mem_singleton.mp hq
    subst e_
    exact ⟨h', yfr_sm K_.2.2.2 hs K_.1 (ywa_r xLO_v0_w List.mem_cons_self), ⟨bpat_of (K_.2.1 _ List.mem_cons_self), fun a_ j_ n0_ => yfr_bp K_.2.2.2 (List.forall_mem_cons.mpr ⟨fun e_ => n0_ ⟨e_.1.symm, e_.2.symm⟩, fun q_ hq => absurd hq List.not_mem_nil⟩), G_⟩⟩
-- xLO_v1: 8 steps, 0 ends, 1 returns
def xLO_v1_L : List (Nat × Nat × Nat) := [(1000, 6, 2), (1001, 20, 12)]
def xLO_v1_O : yO := [(1000, .int 1, .arg 300)]
def xLO_v1_A : yA := (yZ xLO_v1_L, [], [], [], [])
def xLO_v1_C : List xB := [(.lt, .arg 4, .arg 300, false)]
def xLO_v1_ss : List yS := []
def xLO_v1_rs : List yR := [(none, [(1000, .int 1, .arg 2)], [(.lt, .arg 4, .arg 300, false)], [(1000, .int 1)])]
theorem xLO_v1_w : ywa xLO_v1_A xLO_v1_ss xLO_v1_rs = true := by decide +kernel
theorem xLO_v1_k : yis (yev xLO_v1_A 3000 60 46 [7] (7, [(4, .arg 4), (2, .arg 2), (3, .arg 3), (0, .index 1000), (1, .arg 1)], [], xLO_v1_O, xLO_v1_C, [])) xLO_v1_ss xLO_v1_rs = true := by decide +kernel
def xLO_v1_r (v1_ v2 v3 v4_ v300 : Int32) (k_ : Nat) : Value := bif Nat.beq k_ 1 then .int v1_ else (bif Nat.beq k_ 2 then .int v2 else (bif Nat.beq k_ 3 then .int v3 else (bif Nat.beq k_ 4 then .int v4_ else (bif Nat.beq k_ 300 then .int v300 else (.int 0)))))
def xLO_v1_s (a1000 a1001 : Nat) (n_ : Nat) : Nat := bif Nat.beq n_ 1000 then a1000 else (bif Nat.beq n_ 1001 then a1001 else (0))
theorem xLO_v1 {h_ : xH} {a1000 a1001 : Nat} {v1_ v2 v3 v4_ v300 : Int32} (hs : sHp h_) (k1000 : bcq h_ a1000 6 2) (k1001 : bcq h_ a1001 20 12) (o0_ : bpat h_ a1000 1 = some (.int v300)) (c0_ : v300.toInt ≤ v4_.toInt) : ∃ h', ysm h_ h' ∧ (((bpat h' a1000 1 = some (.int v2)) ∧ (∀ a_ j_ : Nat, ¬ (a_ = a1000 ∧ j_ = 1) → bpat h' a_ j_ = bpat h_ a_ j_) ∧ (∀ D_, 60 ≤ D_ → xrun D_ 46 7 [(4, .int v4_), (2, .int v2), (3, .int v3), (0, .index a1000), (1, .int v1_)] [] h_ (none, h', [])))) := by
  have hA : yas xLO_v1_A (xLO_v1_r v1_ v2 v3 v4_ v300) (yg (xLO_v1_s a1000 a1001)) := ⟨fun q_ hq => absurd hq List.not_mem_nil, fun q_ hq => absurd hq List.not_mem_nil, fun q_ hq => absurd hq List.not_mem_nil, fun n_ hn => yg_lo hn, fun q_ hq => absurd hq List.not_mem_nil⟩
  have Hs : ysh xLO_v1_A.1 (yg (xLO_v1_s a1000 a1001)) h_ := ysh_of2 hs (List.forall_mem_cons.mpr ⟨⟨by decide, k1000⟩, List.forall_mem_cons.mpr ⟨⟨by decide, k1001⟩, fun q_ hq => absurd hq List.not_mem_nil⟩⟩)
  have Ho : ymem (xLO_v1_r v1_ v2 v3 v4_ v300) (yg (xLO_v1_s a1000 a1001)) xLO_v1_O h_ := List.forall_mem_cons.mpr ⟨bpat_some o0_, fun q_ hq => absurd hq List.not_mem_nil⟩
  have HC : ∀ q_ ∈ xLO_v1_C, xhold (xLO_v1_r v1_ v2 v3 v4_ v300) q_ := List.forall_mem_cons.mpr ⟨xh_ltF c0_, fun q_ hq => absurd hq List.not_mem_nil⟩
  rcases yrun (yis_ok xLO_v1_k) hA Hs Ho HC with ⟨q_, hq, h', K_, G_⟩ | ⟨q_, hq, h', K_, G_⟩
  · cases hq
  · have e_ := List.mem_singleton.mp hq
    subst e_
    exact ⟨h', yfr_sm K_.2.2.2 hs K_.1 (ywa_r xLO_v1_w List.mem_cons_self), ⟨bpat_of (K_.2.1 _ List.mem_cons_self), fun a_ j_ n0_ => yfr_bp K_.2.2.2 (List.forall_mem_cons.mpr ⟨fun e_ => n0_ ⟨e_.1.symm, e_.2.symm⟩, fun q_ hq => absurd hq List.not_mem_nil⟩), G_⟩⟩
theorem xLO {h_ : xH} {a1000 a1001 : Nat} {v1_ v2 v3 v4_ v300 : Int32} {lo_ : xL} (hs : sHp h_) (k1000 : bcq h_ a1000 6 2) (k1001 : bcq h_ a1001 20 12) (o0_ : bpat h_ a1000 1 = some (.int v300)) (c0_ : v300.toInt ≤ v4_.toInt) (H_ : tLO_hd a1000 v1_ v2 v3 v4_ lo_) : ∃ h', ysm h_ h' ∧ (((bpat h' a1000 1 = some (.int v2)) ∧ (∀ a_ j_ : Nat, ¬ (a_ = a1000 ∧ j_ = 1) → bpat h' a_ j_ = bpat h_ a_ j_) ∧ (∀ D_, 60 ≤ D_ → xrun D_ 46 7 lo_ [] h_ (none, h', [])))) := by
  rcases H_ with rfl | rfl
  · obtain ⟨h', m_, e_⟩ := xLO_v0 hs k1000 k1001 o0_ c0_
    refine ⟨h', m_, ?_⟩
    obtain ⟨g0, g1, g2⟩ := e_
    exact ⟨g0, g1, g2⟩
  · obtain ⟨h', m_, e_⟩ := xLO_v1 hs k1000 k1001 o0_ c0_
    refine ⟨h', m_, ?_⟩
    obtain ⟨g0, g1, g2⟩ := e_
    exact ⟨g0, g1, g2⟩
-- eLO: 6 steps, 1 ends, 0 returns
def eLO_L : List (Nat × Nat × Nat) := [(1000, 6, 2)]
def eLO_O : yO := []
def eLO_A : yA := (yZ eLO_L, [], [], [], [])
def eLO_C : List xB := []
def eLO_ss : List yS := [(7, [(4, .int 0), (3, .arg 1), (2, .int 0), (0, .index 1000), (1, .arg 1)], [], [], [], [])]
def eLO_rs : List yR := []
theorem eLO_w : ywa eLO_A eLO_ss eLO_rs = true := by decide +kernel
theorem eLO_k : yis (yev eLO_A 3000 60 46 [7] (0, [(0, .index 1000), (1, .arg 1)], [], eLO_O, eLO_C, [])) eLO_ss eLO_rs = true := by decide +kernel
def eLO_r (v1_ : Int32) (k_ : Nat) : Value := bif Nat.beq k_ 1 then .int v1_ else (.int 0)
def eLO_s (a1000 : Nat) (n_ : Nat) : Nat := bif Nat.beq n_ 1000 then a1000 else (0)
theorem eLO {h_ : xH} {a1000 : Nat} {v1_ : Int32} (hs : sHp h_) (k1000 : bcq h_ a1000 6 2) : ∃ h', ysm h_ h' ∧ (((∀ a_ j_ : Nat, bpat h' a_ j_ = bpat h_ a_ j_) ∧ (bldD 60 46 0 [(0, .index a1000), (1, .int v1_)] [] h_ 7 [(4, .int (0 : Int32)), (3, .int v1_), (2, .int (0 : Int32)), (0, .index a1000), (1, .int v1_)] [] h'))) := by
  have hA : yas eLO_A (eLO_r v1_) (yg (eLO_s a1000)) := ⟨fun q_ hq => absurd hq List.not_mem_nil, fun q_ hq => absurd hq List.not_mem_nil, fun q_ hq => absurd hq List.not_mem_nil, fun n_ hn => yg_lo hn, fun q_ hq => absurd hq List.not_mem_nil⟩
  have Hs : ysh eLO_A.1 (yg (eLO_s a1000)) h_ := ysh_of2 hs (List.forall_mem_cons.mpr ⟨⟨by decide, k1000⟩, fun q_ hq => absurd hq List.not_mem_nil⟩)
  have Ho : ymem (eLO_r v1_) (yg (eLO_s a1000)) eLO_O h_ := fun q_ hq => absurd hq List.not_mem_nil
  have HC : ∀ q_ ∈ eLO_C, xhold (eLO_r v1_) q_ := fun q_ hq => absurd hq List.not_mem_nil
  rcases yrun (yis_ok eLO_k) hA Hs Ho HC with ⟨q_, hq, h', K_, G_⟩ | ⟨q_, hq, h', K_, G_⟩
  · have e_ := List.mem_singleton.mp hq
    subst e_
    exact ⟨h', yfr_sm K_.2.2.2 hs K_.1 (ywa_s eLO_w List.mem_cons_self), ⟨fun a_ j_ => yfr_bp K_.2.2.2 (fun q_ hq => absurd hq List.not_mem_nil), G_⟩⟩
  · cases hq
-- tSW_v0: 22 steps, 2 ends, 0 returns
def tSW_v0_L : List (Nat × Nat × Nat) := [(1001, 20, 13)]
def tSW_v0_O : yO := [(1001, .int 0, .arg 300), (1001, .arg 4, .arg 301)]
def tSW_v0_A : yA := (yZ tSW_v0_L, [(.arg 4, 13), (.add (.arg 3) (.int 1), 13)], [], [], [])
def tSW_v0_C : List xB := [(.le, .arg 4, .arg 300, true), (.eq, .add (.arg 2) (.int 1), .int 0, false)]
def tSW_v0_ss : List yS := [(5, [(4, .add (.arg 4) (.int 1)), (3, .arg 3), (0, .index 338), (1, .index 1001), (2, .arg 2)], [], [(1001, .int 0, .arg 300), (1001, .arg 4, .arg 301)], [(.eq, .rem (.arg 4) (.add (.arg 2) (.int 1)), .int 0, true), (.le, .arg 4, .arg 300, true), (.eq, .add (.arg 2) (.int 1), .int 0, false)], []),
  (5, [(4, .add (.arg 4) (.int 1)), (3, .add (.arg 3) (.int 1)), (0, .index 338), (1, .index 1001), (2, .arg 2)], [], [(1001, .add (.arg 3) (.int 1), .arg 301)], [(.eq, .rem (.arg 4) (.add (.arg 2) (.int 1)), .int 0, false), (.le, .arg 4, .arg 300, true), (.eq, .add (.arg 2) (.int 1), .int 0, false)], [(1001, .add (.arg 3) (.int 1))])]
def tSW_v0_rs : List yR := []
theorem tSW_v0_w : ywa tSW_v0_A tSW_v0_ss tSW_v0_rs = true := by decide +kernel
theorem tSW_v0_k : yis (yev tSW_v0_A 3000 60 149 [5] (5, [(4, .arg 4), (3, .arg 3), (0, .index 338), (1, .index 1001), (2, .arg 2)], [], tSW_v0_O, tSW_v0_C, [])) tSW_v0_ss tSW_v0_rs = true := by decide +kernel
def tSW_v0_r (v2 v3 v4_ v300 v301 : Int32) (k_ : Nat) : Value := bif Nat.beq k_ 2 then .int v2 else (bif Nat.beq k_ 3 then .int v3 else (bif Nat.beq k_ 4 then .int v4_ else (bif Nat.beq k_ 300 then .int v300 else (bif Nat.beq k_ 301 then .int v301 else (.int 0)))))
def tSW_v0_s (a1001 : Nat) (n_ : Nat) : Nat := bif Nat.beq n_ 1001 then a1001 else (0)
theorem tSW_v0 {h_ : xH} {a1001 : Nat} {v2 v3 v4_ v300 v301 : Int32} (hs : sHp h_) (k1001 : bcq h_ a1001 20 13) (o0_ : bpat h_ a1001 0 = some (.int v300)) (o1 : bpat h_ a1001 (v4_).toInt.toNat = some (.int v301)) (b0 : 0 ≤ (v4_).toInt ∧ (v4_).toInt < 13) (b1 : 0 ≤ ((v3 + (1 : Int32))).toInt ∧ ((v3 + (1 : Int32))).toInt < 13) (c0_ : v4_.toInt ≤ v300.toInt) (c1_ : ¬ (v2 + (1 : Int32)) = (0 : Int32)) : ∃ h', ysm h_ h' ∧ ((((v4_ - v4_ / (v2 + (1 : Int32)) * (v2 + (1 : Int32))) = (0 : Int32)) ∧ (∀ a_ j_ : Nat, bpat h' a_ j_ = bpat h_ a_ j_) ∧ (bldD 60 149 5 [(4, .int v4_), (3, .int v3), (0, .index 338), (1, .index a1001), (2, .int v2)] [] h_ 5 [(4, .int (v4_ + (1 : Int32))), (3, .int v3), (0, .index 338), (1, .index a1001), (2, .int v2)] [] h'))
  ∨ ((¬ (v4_ - v4_ / (v2 + (1 : Int32)) * (v2 + (1 : Int32))) = (0 : Int32)) ∧ (bpat h' a1001 ((v3 + (1 : Int32))).toInt.toNat = some (.int v301)) ∧ (∀ a_ j_ : Nat, ¬ (a_ = a1001 ∧ j_ = ((v3 + (1 : Int32))).toInt.toNat) → bpat h' a_ j_ = bpat h_ a_ j_) ∧ (bldD 60 149 5 [(4, .int v4_), (3, .int v3), (0, .index 338), (1, .index a1001), (2, .int v2)] [] h_ 5 [(4, .int (v4_ + (1 : Int32))), (3, .int (v3 + (1 : Int32))), (0, .index 338), (1, .index a1001), (2, .int v2)] [] h'))) := by
  have hA : yas tSW_v0_A (tSW_v0_r v2 v3 v4_ v300 v301) (yg (tSW_v0_s a1001)) := ⟨List.forall_mem_cons.mpr ⟨b0, List.forall_mem_cons.mpr ⟨b1, fun q_ hq => absurd hq List.not_mem_nil⟩⟩, fun q_ hq => absurd hq List.not_mem_nil, fun q_ hq => absurd hq List.not_mem_nil, fun n_ hn => yg_lo hn, fun q_ hq => absurd hq List.not_mem_nil⟩
  have Hs : ysh tSW_v0_A.1 (yg (tSW_v0_s a1001)) h_ := ysh_of2 hs (List.forall_mem_cons.mpr ⟨⟨by decide, k1001⟩, fun q_ hq => absurd hq List.not_mem_nil⟩)
  have Ho : ymem (tSW_v0_r v2 v3 v4_ v300 v301) (yg (tSW_v0_s a1001)) tSW_v0_O h_ := List.forall_mem_cons.mpr ⟨bpat_some o0_, List.forall_mem_cons.mpr ⟨bpat_some o1, fun q_ hq => absurd hq List.not_mem_nil⟩⟩
  have HC : ∀ q_ ∈ tSW_v0_C, xhold (tSW_v0_r v2 v3 v4_ v300 v301) q_ := List.forall_mem_cons.mpr ⟨xh_leT c0_, List.forall_mem_cons.mpr ⟨xh_eqF2 c1_, fun q_ hq => absurd hq List.not_mem_nil⟩⟩
  rcases yrun (yis_ok tSW_v0_k) hA Hs Ho HC with ⟨q_, hq, h', K_, G_⟩ | ⟨q_, hq, h', K_, G_⟩
  · rcases List.mem_cons.mp hq with e_ | hq
    · subst e_
      exact ⟨h', yfr_sm K_.2.2.2 hs K_.1 (ywa_s tSW_v0_w List.mem_cons_self), Or.inl (⟨xq_eqT rfl rfl (K_.2.2.1 _ List.mem_cons_self), fun a_ j_ => yfr_bp K_.2.2.2 (fun q_ hq => absurd hq List.not_mem_nil), G_⟩)⟩
    have e_ := List.mem_singleton.mp hq
    subst e_
    exact ⟨h', yfr_sm K_.2.2.2 hs K_.1 (ywa_s tSW_v0_w (List.mem_cons_of_mem _ List.mem_cons_self)), Or.inr (⟨xq_eqF rfl rfl (K_.2.2.1 _ List.mem_cons_self), bpat_of (K_.2.1 _ List.mem_cons_self), fun a_ j_ n0_ => yfr_bp K_.2.2.2 (List.forall_mem_cons.mpr ⟨fun e_ => n0_ ⟨e_.1.symm, e_.2.symm⟩, fun q_ hq => absurd hq List.not_mem_nil⟩), G_⟩)⟩
  · cases hq
def tSW_hd (a1001 : Nat) (p2_ p3_ p4_ : Int32) (lo_ : xL) : Prop := (lo_ = [(4, .int p4_), (3, .int p3_), (0, .index 338), (1, .index a1001), (2, .int p2_)])
theorem tSW {h_ : xH} {a1001 : Nat} {v2 v3 v4_ v300 v301 : Int32} {lo_ : xL} (hs : sHp h_) (k1001 : bcq h_ a1001 20 13) (o0_ : bpat h_ a1001 0 = some (.int v300)) (o1 : bpat h_ a1001 (v4_).toInt.toNat = some (.int v301)) (b0 : 0 ≤ (v4_).toInt ∧ (v4_).toInt < 13) (b1 : 0 ≤ ((v3 + (1 : Int32))).toInt ∧ ((v3 + (1 : Int32))).toInt < 13) (c0_ : v4_.toInt ≤ v300.toInt) (c1_ : ¬ (v2 + (1 : Int32)) = (0 : Int32)) (H_ : tSW_hd a1001 v2 v3 v4_ lo_) : ∃ h', ysm h_ h' ∧ ((((v4_ - v4_ / (v2 + (1 : Int32)) * (v2 + (1 : Int32))) = (0 : Int32)) ∧ (∀ a_ j_ : Nat, bpat h' a_ j_ = bpat h_ a_ j_) ∧ (∃ lo', tSW_hd a1001 v2 v3 (v4_ + (1 : Int32)) lo' ∧ bldD 60 149 5 lo_ [] h_ 5 lo' [] h'))
  ∨ ((¬ (v4_ - v4_ / (v2 + (1 : Int32)) * (v2 + (1 : Int32))) = (0 : Int32)) ∧ (bpat h' a1001 ((v3 + (1 : Int32))).toInt.toNat = some (.int v301)) ∧ (∀ a_ j_ : Nat, ¬ (a_ = a1001 ∧ j_ = ((v3 + (1 : Int32))).toInt.toNat) → bpat h' a_ j_ = bpat h_ a_ j_) ∧ (∃ lo', tSW_hd a1001 v2 (v3 + (1 : Int32)) (v4_ + (1 : Int32)) lo' ∧ bldD 60 149 5 lo_ [] h_ 5 lo' [] h'))) := by
  rcases H_ with rfl
  · obtain ⟨h', m_, e_⟩ := tSW_v0 hs k1001 o0_ o1 b0 b1 c0_ c1_
    refine ⟨h', m_, ?_⟩
    rcases e_ with e_ | e_
    · obtain ⟨g0, g1, g2⟩ := e_
      exact Or.inl ⟨g0, g1, ⟨_, rfl, g2⟩⟩
    · obtain ⟨g0, g1, g2, g3_⟩ := e_
      exact Or.inr (⟨g0, g1, g2, ⟨_, rfl, g3_⟩⟩)
-- xSW_v0: 10 steps, 0 ends, 1 returns
def xSW_v0_L : List (Nat × Nat × Nat) := [(1001, 20, 13)]
def xSW_v0_O : yO := [(1001, .int 0, .arg 300)]
def xSW_v0_A : yA := (yZ xSW_v0_L, [], [], [], [])
def xSW_v0_C : List xB := [(.le, .arg 4, .arg 300, false)]
def xSW_v0_ss : List yS := []
def xSW_v0_rs : List yR := [(none, [(1001, .int 0, .arg 3)], [(.le, .arg 4, .arg 300, false)], [(1001, .int 0)])]
theorem xSW_v0_w : ywa xSW_v0_A xSW_v0_ss xSW_v0_rs = true := by decide +kernel
theorem xSW_v0_k : yis (yev xSW_v0_A 3000 60 149 [5] (5, [(4, .arg 4), (3, .arg 3), (0, .index 338), (1, .index 1001), (2, .arg 2)], [], xSW_v0_O, xSW_v0_C, [])) xSW_v0_ss xSW_v0_rs = true := by decide +kernel
def xSW_v0_r (v2 v3 v4_ v300 : Int32) (k_ : Nat) : Value := bif Nat.beq k_ 2 then .int v2 else (bif Nat.beq k_ 3 then .int v3 else (bif Nat.beq k_ 4 then .int v4_ else (bif Nat.beq k_ 300 then .int v300 else (.int 0))))
def xSW_v0_s (a1001 : Nat) (n_ : Nat) : Nat := bif Nat.beq n_ 1001 then a1001 else (0)
theorem xSW_v0 {h_ : xH} {a1001 : Nat} {v2 v3 v4_ v300 : Int32} (hs : sHp h_) (k1001 : bcq h_ a1001 20 13) (o0_ : bpat h_ a1001 0 = some (.int v300)) (c0_ : v300.toInt < v4_.toInt) : ∃ h', ysm h_ h' ∧ (((bpat h' a1001 0 = some (.int v3)) ∧ (∀ a_ j_ : Nat, ¬ (a_ = a1001 ∧ j_ = 0) → bpat h' a_ j_ = bpat h_ a_ j_) ∧ (∀ D_, 60 ≤ D_ → xrun D_ 149 5 [(4, .int v4_), (3, .int v3), (0, .index 338), (1, .index a1001), (2, .int v2)] [] h_ (none, h', [])))) := by
  have hA : yas xSW_v0_A (xSW_v0_r v2 v3 v4_ v300) (yg (xSW_v0_s a1001)) := ⟨fun q_ hq => absurd hq List.not_mem_nil, fun q_ hq => absurd hq List.not_mem_nil, fun q_ hq => absurd hq List.not_mem_nil, fun n_ hn => yg_lo hn, fun q_ hq => absurd hq List.not_mem_nil⟩
  have Hs : ysh xSW_v0_A.1 (yg (xSW_v0_s a1001)) h_ := ysh_of2 hs (List.forall_mem_cons.mpr ⟨⟨by decide, k1001⟩, fun q_ hq => absurd hq List.not_mem_nil⟩)
  have Ho : ymem (xSW_v0_r v2 v3 v4_ v300) (yg (xSW_v0_s a1001)) xSW_v0_O h_ := List.forall_mem_cons.mpr ⟨bpat_some o0_, fun q_ hq => absurd hq List.not_mem_nil⟩
  have HC : ∀ q_ ∈ xSW_v0_C, xhold (xSW_v0_r v2 v3 v4_ v300) q_ := List.forall_mem_cons.mpr ⟨xh_leF c0_, fun q_ hq => absurd hq List.not_mem_nil⟩
  rcases yrun (yis_ok xSW_v0_k) hA Hs Ho HC with ⟨q_, hq, h', K_, G_⟩ | ⟨q_, hq, h', K_, G_⟩
  · cases hq
  · have e_ := List.mem_singleton.mp hq
    subst e_
    exact ⟨h', yfr_sm K_.2.2.2 hs K_.1 (ywa_r xSW_v0_w List.mem_cons_self), ⟨bpat_of (K_.2.1 _ List.mem_cons_self), fun a_ j_ n0_ => yfr_bp K_.2.2.2 (List.forall_mem_cons.mpr ⟨fun e_ => n0_ ⟨e_.1.symm, e_.2.symm⟩, fun q_ hq => absurd hq List.not_mem_nil⟩), G_⟩⟩
theorem xSW {h_ : xH} {a1001 : Nat} {v2 v3 v4_ v300 : Int32} {lo_ : xL} (hs : sHp h_) (k1001 : bcq h_ a1001 20 13) (o0_ : bpat h_ a1001 0 = some (.int v300)) (c0_ : v300.toInt < v4_.toInt) (H_ : tSW_hd a1001 v2 v3 v4_ lo_) : ∃ h', ysm h_ h' ∧ (((bpat h' a1001 0 = some (.int v3)) ∧ (∀ a_ j_ : Nat, ¬ (a_ = a1001 ∧ j_ = 0) → bpat h' a_ j_ = bpat h_ a_ j_) ∧ (∀ D_, 60 ≤ D_ → xrun D_ 149 5 lo_ [] h_ (none, h', [])))) := by
  rcases H_ with rfl
  · obtain ⟨h', m_, e_⟩ := xSW_v0 hs k1001 o0_ c0_
    refine ⟨h', m_, ?_⟩
    obtain ⟨g0, g1, g2⟩ := e_
    exact ⟨g0, g1, g2⟩
-- eSW: 4 steps, 1 ends, 0 returns
def eSW_L : List (Nat × Nat × Nat) := [(1001, 20, 13)]
def eSW_O : yO := []
def eSW_A : yA := (yZ eSW_L, [], [], [], [])
def eSW_C : List xB := []
def eSW_ss : List yS := [(5, [(4, .int 1), (3, .int 0), (0, .index 338), (1, .index 1001), (2, .arg 2)], [], [], [], [])]
def eSW_rs : List yR := []
theorem eSW_w : ywa eSW_A eSW_ss eSW_rs = true := by decide +kernel
theorem eSW_k : yis (yev eSW_A 3000 60 149 [5] (0, [(0, .index 338), (1, .index 1001), (2, .arg 2)], [], eSW_O, eSW_C, [])) eSW_ss eSW_rs = true := by decide +kernel
def eSW_r (v2 : Int32) (k_ : Nat) : Value := bif Nat.beq k_ 2 then .int v2 else (.int 0)
def eSW_s (a1001 : Nat) (n_ : Nat) : Nat := bif Nat.beq n_ 1001 then a1001 else (0)
theorem eSW {h_ : xH} {a1001 : Nat} {v2 : Int32} (hs : sHp h_) (k1001 : bcq h_ a1001 20 13) : ∃ h', ysm h_ h' ∧ (((∀ a_ j_ : Nat, bpat h' a_ j_ = bpat h_ a_ j_) ∧ (bldD 60 149 0 [(0, .index 338), (1, .index a1001), (2, .int v2)] [] h_ 5 [(4, .int (1 : Int32)), (3, .int (0 : Int32)), (0, .index 338), (1, .index a1001), (2, .int v2)] [] h'))) := by
  have hA : yas eSW_A (eSW_r v2) (yg (eSW_s a1001)) := ⟨fun q_ hq => absurd hq List.not_mem_nil, fun q_ hq => absurd hq List.not_mem_nil, fun q_ hq => absurd hq List.not_mem_nil, fun n_ hn => yg_lo hn, fun q_ hq => absurd hq List.not_mem_nil⟩
  have Hs : ysh eSW_A.1 (yg (eSW_s a1001)) h_ := ysh_of2 hs (List.forall_mem_cons.mpr ⟨⟨by decide, k1001⟩, fun q_ hq => absurd hq List.not_mem_nil⟩)
  have Ho : ymem (eSW_r v2) (yg (eSW_s a1001)) eSW_O h_ := fun q_ hq => absurd hq List.not_mem_nil
  have HC : ∀ q_ ∈ eSW_C, xhold (eSW_r v2) q_ := fun q_ hq => absurd hq List.not_mem_nil
  rcases yrun (yis_ok eSW_k) hA Hs Ho HC with ⟨q_, hq, h', K_, G_⟩ | ⟨q_, hq, h', K_, G_⟩
  · have e_ := List.mem_singleton.mp hq
    subst e_
    exact ⟨h', yfr_sm K_.2.2.2 hs K_.1 (ywa_s eSW_w List.mem_cons_self), ⟨fun a_ j_ => yfr_bp K_.2.2.2 (fun q_ hq => absurd hq List.not_mem_nil), G_⟩⟩
  · cases hq
-- ===== each n-th left out
def kpt (n_ : Nat) (l : List Int32) (i_ : Nat) : List Int32 := match i_ with
  | 0 => []
  | i_ + 1 => if (i_ + 1) % n_ = 0 then kpt n_ l i_ else kpt n_ l i_ ++ [l.getD i_ 0]
theorem kpt_len {n_ : Nat} {l : List Int32} {i_ : Nat} : (kpt n_ l i_).length ≤ i_ := by
  induction i_ with
  | zero => exact Nat.le_refl _
  | succ i_ ih_ =>
    unfold kpt
    split
    · omega
    · rw [List.length_append]
      show (kpt n_ l i_).length + 1 ≤ i_ + 1
      omega
/-- kept so far from place q on, the rest as it was -/
def kps (h_ : xH) (b_ q_ n_ i_ : Nat) (l : List Int32) : Prop := (∀ j_ x_, (kpt n_ l i_)[j_]? = some x_ → bpat h_ b_ (q_ + j_) = some (.int x_)) ∧ ∀ j_ x_, i_ ≤ j_ → l[j_]? = some x_ → bpat h_ b_ (q_ + j_) = some (.int x_)
theorem kps_drop {h_ h' : xH} {b_ q_ n_ i_ : Nat} {l : List Int32} (K_ : kps h_ b_ q_ n_ i_ l) (f_ : ∀ j_, bpat h' b_ j_ = bpat h_ b_ j_) (hd_ : (i_ + 1) % n_ = 0) : kps h' b_ q_ n_ (i_ + 1) l := by
  refine ⟨fun j_ x_ hx => ?_, fun j_ x_ hj hx => (f_ _).trans (K_.2 j_ x_ (by omega) hx)⟩
  have e_ : kpt n_ l (i_ + 1) = kpt n_ l i_ := if_pos hd_
  rw [e_] at hx
  exact (f_ _).trans (K_.1 j_ x_ hx)
theorem kps_keep {h_ h' : xH} {b_ q_ n_ i_ : Nat} {l : List Int32} {x_ : Int32} (K_ : kps h_ b_ q_ n_ i_ l) (hx : l[i_]? = some x_) (e_ : bpat h' b_ (q_ + (kpt n_ l i_).length) = some (.int x_)) (f_ : ∀ j_, ¬ j_ = q_ + (kpt n_ l i_).length → bpat h' b_ j_ = bpat h_ b_ j_) (hd_ : ¬ (i_ + 1) % n_ = 0) : kps h' b_ q_ n_ (i_ + 1) l := by
  have hl := kpt_len (n_ := n_) (l := l) (i_ := i_)
  refine ⟨fun j_ y_ hy => ?_, fun j_ y_ hj hy => (f_ _ (by omega)).trans (K_.2 j_ y_ (by omega) hy)⟩
  have e1_ : kpt n_ l (i_ + 1) = kpt n_ l i_ ++ [l.getD i_ 0] := if_neg hd_
  rw [e1_] at hy
  by_cases u_ : j_ < (kpt n_ l i_).length
  · rw [List.getElem?_append_left u_] at hy
    exact (f_ _ (by omega)).trans (K_.1 j_ y_ hy)
  · rw [List.getElem?_append_right (by omega)] at hy
    have hj := (List.getElem?_eq_some_iff.mp hy).1
    have hj : j_ - (kpt n_ l i_).length < 1 := hj
    have ej : j_ = (kpt n_ l i_).length := by omega
    subst ej
    rw [Nat.sub_self] at hy
    have gy : l.getD i_ 0 = y_ := Option.some.inj hy
    have gx : l.getD i_ 0 = x_ := by
      rw [List.getD_eq_getElem?_getD, hx]
      rfl
    rw [← gy, gx]
    exact e_
theorem kpt_one {n_ : Nat} {l : List Int32} {i_ : Nat} (hd_ : ¬ (i_ + 1) % n_ = 0) : (kpt n_ l (i_ + 1)).length = (kpt n_ l i_).length + 1 := by
  have e1_ : kpt n_ l (i_ + 1) = kpt n_ l i_ ++ [l.getD i_ 0] := if_neg hd_
  rw [e1_, List.length_append]
  rfl
/-- how many are to go until one is left out -/
def lft (n_ i_ : Nat) : Int := (n_ : Int) - ((i_ % n_ : Nat) : Int)
theorem lft_k : (List.range 11).all (fun n_ => Nat.beq n_ 0 || (List.range 14).all (fun i_ => decide (lft n_ i_ - 1 ≤ 0 ↔ (i_ + 1) % n_ = 0) && (decide ((i_ + 1) % n_ = 0 → lft n_ (i_ + 1) = (n_ : Int)) && (decide (¬ (i_ + 1) % n_ = 0 → lft n_ (i_ + 1) = lft n_ i_ - 1) && (decide (1 ≤ lft n_ i_) && decide (lft n_ i_ ≤ 10)))))) = true := by decide +kernel
theorem lft_ok {n_ i_ : Nat} (h1 : 1 ≤ n_) (h2 : n_ ≤ 10) (hi_ : i_ < 14) : (lft n_ i_ - 1 ≤ 0 ↔ (i_ + 1) % n_ = 0) ∧ ((i_ + 1) % n_ = 0 → lft n_ (i_ + 1) = (n_ : Int)) ∧ (¬ (i_ + 1) % n_ = 0 → lft n_ (i_ + 1) = lft n_ i_ - 1) ∧ 1 ≤ lft n_ i_ ∧ lft n_ i_ ≤ 10 := by
  have k_ := List.all_eq_true.mp lft_k n_ (List.mem_range.mpr (by omega))
  simp only [Bool.or_eq_true] at k_
  rcases k_ with k_ | k_
  · have := Nat.eq_of_beq_eq_true k_
    omega
  · have k_ := List.all_eq_true.mp k_ i_ (List.mem_range.mpr hi_)
    simp only [Bool.and_eq_true, decide_eq_true_eq] at k_
    exact k_
def frr (a_ b_ : Nat) (h_ h' : xH) : Prop := ysm h_ h' ∧ ∀ c_ j_, ¬ c_ = a_ → ¬ c_ = b_ → bpat h' c_ j_ = bpat h_ c_ j_
/-- SWALLOW, the class: from its head on -/
theorem lLO {a_ b_ n_ : Nat} {l : List Int32} (h1 : 1 ≤ n_) (h2 : n_ ≤ 10) (hl : l.length ≤ 12) : ∀ (k_ i_ : Nat) (h_ : xH) (lo_ : xL), l.length ≤ i_ + k_ → i_ ≤ 12 → sHp h_ → bcq h_ a_ 6 2 → bcq h_ b_ 20 12 → bpat h_ a_ 0 = some (.index b_) → bpat h_ a_ 1 = some (.int (Int32.ofNat l.length)) → kps h_ b_ 0 n_ i_ l → tLO_hd a_ (Int32.ofNat n_) (Int32.ofNat (kpt n_ l i_).length) (Int32.ofInt (lft n_ i_)) (Int32.ofNat i_) lo_ → i_ ≤ l.length → ∃ h', rW a_ b_ h' (kpt n_ l l.length) ∧ frr a_ b_ h_ h' ∧ eRet 46 7 lo_ h_ h' := by
  intro k_
  induction k_ with
  | zero =>
    intro i_ h_ lo_ hk hi_ hs R1 R2 R3 R4 K_ H_ hil
    have e_ : i_ = l.length := by omega
    subst e_
    have kl := kpt_len (n_ := n_) (l := l) (i_ := l.length)
    obtain ⟨h', m1_, e1_, f1_, r1_⟩ := xLO hs R1 R2 R4 (by rw [i32n (by omega)]; omega) H_
    have ne_ : ¬ a_ = b_ := bcq_ne R1 R2 (by decide)
    refine ⟨h', ⟨m1_.1, ⟨⟨m1_.2 _ _ _ R1, m1_.2 _ _ _ R2⟩, ⟨(f1_ a_ 0 (by omega)).trans R3, e1_⟩, by omega, fun j_ x_ hx => (f1_ b_ j_ (fun q_ => ne_ q_.1.symm)).trans ?_⟩, by omega⟩, ⟨m1_, fun c_ j_ n1_ _ => f1_ c_ j_ (fun q_ => n1_ q_.1)⟩, r1_⟩
    have z_ := K_.1 j_ x_ hx
    rw [Nat.zero_add] at z_
    exact z_
  | succ k_ ih_ =>
    intro i_ h_ lo_ hk hi_ hs R1 R2 R3 R4 K_ H_ hil
    by_cases g_ : i_ = l.length
    · subst g_
      have kl := kpt_len (n_ := n_) (l := l) (i_ := l.length)
      obtain ⟨h', m1_, e1_, f1_, r1_⟩ := xLO hs R1 R2 R4 (by rw [i32n (by omega)]; omega) H_
      have ne_ : ¬ a_ = b_ := bcq_ne R1 R2 (by decide)
      refine ⟨h', ⟨m1_.1, ⟨⟨m1_.2 _ _ _ R1, m1_.2 _ _ _ R2⟩, ⟨(f1_ a_ 0 (by omega)).trans R3, e1_⟩, by omega, fun j_ x_ hx => (f1_ b_ j_ (fun q_ => ne_ q_.1.symm)).trans ?_⟩, by omega⟩, ⟨m1_, fun c_ j_ n1_ _ => f1_ c_ j_ (fun q_ => n1_ q_.1)⟩, r1_⟩
      have z_ := K_.1 j_ x_ hx
      rw [Nat.zero_add] at z_
      exact z_
    · have hlt : i_ < l.length := by omega
      have hx := List.getElem?_eq_getElem hlt
      have kl := kpt_len (n_ := n_) (l := l) (i_ := i_)
      obtain ⟨w1_, w2_, w3_, w4_, w5⟩ := lft_ok h1 h2 (show i_ < 14 by omega)
      have ne_ : ¬ a_ = b_ := bcq_ne R1 R2 (by decide)
      have e6_ : bpat h_ b_ (Int32.ofNat i_).toInt.toNat = some (.int l[i_]) := by
        rw [i32t (by omega)]
        have z_ := K_.2 i_ _ (Nat.le_refl _) hx
        rw [Nat.zero_add] at z_
        exact z_
      obtain ⟨h', m1_, e_⟩ := tLO hs R1 R2 R4 R3 e6_ ⟨by rw [i32n (by omega)]; omega, by rw [i32n (by omega)]; omega⟩ ⟨by rw [i32n (by omega)]; omega, by rw [i32n (by omega)]; omega⟩ (by rw [i32n (by omega), i32n (by omega)]; omega) H_
      have z0 : (0 : Int32).toInt = 0 := rfl
      rw [i32m2 _ (by omega) (by omega), i32s, i32s, z0, i32z (by omega) (by omega), i32t (by omega)] at e_
      rcases e_ with ⟨g0, e1_, f1_, lo', H', ld⟩ | ⟨g0, f1_, lo', H', ld⟩
      · have hd_ : ¬ (i_ + 1) % n_ = 0 := fun q_ => by
          have := w1_.mpr q_
          omega
        have K' : kps h' b_ 0 n_ (i_ + 1) l := kps_keep K_ hx (by rw [Nat.zero_add]; exact e1_) (fun j_ nj => f1_ b_ j_ (fun q_ => nj (by omega))) hd_
        rw [← kpt_one hd_, ← w3_ hd_] at H'
        obtain ⟨h2, S_, F_, E_⟩ := ih_ (i_ + 1) h' lo' (by omega) (by omega) m1_.1 (m1_.2 _ _ _ R1) (m1_.2 _ _ _ R2) ((f1_ a_ 0 (fun q_ => ne_ q_.1)).trans R3) ((f1_ a_ 1 (fun q_ => ne_ q_.1)).trans R4) K' H' (by omega)
        exact ⟨h2, S_, ⟨ysm_tr m1_ F_.1, fun c_ j_ n1_ n2_ => (F_.2 c_ j_ n1_ n2_).trans (f1_ c_ j_ (fun q_ => n2_ q_.1))⟩, eRet_led _ _ _ _ _ ld E_⟩
      · have hd_ : (i_ + 1) % n_ = 0 := w1_.mp g0
        have K' : kps h' b_ 0 n_ (i_ + 1) l := kps_drop K_ (fun j_ => f1_ b_ j_) hd_
        have e2_ : kpt n_ l (i_ + 1) = kpt n_ l i_ := if_pos hd_
        rw [← e2_] at H'
        have e3_ : Int32.ofNat n_ = Int32.ofInt (lft n_ (i_ + 1)) := by
          rw [w2_ hd_]
          rfl
        have H2_ : tLO_hd a_ (Int32.ofNat n_) (Int32.ofNat (kpt n_ l (i_ + 1)).length) (Int32.ofInt (lft n_ (i_ + 1))) (Int32.ofNat (i_ + 1)) lo' := by
          rw [← e3_]
          exact H'
        obtain ⟨h2, S_, F_, E_⟩ := ih_ (i_ + 1) h' lo' (by omega) (by omega) m1_.1 (m1_.2 _ _ _ R1) (m1_.2 _ _ _ R2) ((f1_ a_ 0).trans R3) ((f1_ a_ 1).trans R4) K' H2_ (by omega)
        exact ⟨h2, S_, ⟨ysm_tr m1_ F_.1, fun c_ j_ n1_ n2_ => (F_.2 c_ j_ n1_ n2_).trans (f1_ c_ j_)⟩, eRet_led _ _ _ _ _ ld E_⟩
/-- SWALLOW, the class -/
theorem leaveOutEach {a_ b_ n_ : Nat} {l : List Int32} {h_ : xH} (h1 : 1 ≤ n_) (h2 : n_ ≤ 10) (R_ : rW a_ b_ h_ l) : ∃ h', rW a_ b_ h' (kpt n_ l l.length) ∧ frr a_ b_ h_ h' ∧ eRet 46 0 [(0, .index a_), (1, .int (Int32.ofNat n_))] h_ h' := by
  obtain ⟨Rs_, ⟨⟨R1, R2⟩, ⟨R3, R4⟩, R5, R6⟩, R7⟩ := R_
  obtain ⟨h0, m0_, f0_, ld0⟩ := eLO (v1_ := Int32.ofNat n_) Rs_ R1
  have e0_ : lft n_ 0 = (n_ : Int) := by
    unfold lft
    rw [Nat.zero_mod]
    omega
  obtain ⟨h', S_, F_, E_⟩ := lLO (a_ := a_) (b_ := b_) h1 h2 R7 l.length 0 h0 _ (by omega) (by omega) m0_.1 (m0_.2 _ _ _ R1) (m0_.2 _ _ _ R2) ((f0_ a_ 0).trans R3) ((f0_ a_ 1).trans R4) ⟨fun j_ x_ hx => (by cases hx), fun j_ x_ _ hx => (f0_ b_ _).trans (by rw [Nat.zero_add]; exact R6 j_ x_ hx)⟩ (by rw [e0_]; exact Or.inl rfl) (by omega)
  exact ⟨h', S_, ⟨ysm_tr m0_ F_.1, fun c_ j_ n1_ n2_ => (F_.2 c_ j_ n1_ n2_).trans (f0_ c_ j_)⟩, fun D_ hD => ld0 D_ hD _ (E_ D_ hD)⟩
theorem rem_k : (List.range 11).all (fun n_ => Nat.beq n_ 0 || (List.range 14).all (fun i_ => decide (Int32.ofNat (i_ + 1) - Int32.ofNat (i_ + 1) / Int32.ofNat n_ * Int32.ofNat n_ = 0 ↔ (i_ + 1) % n_ = 0))) = true := by decide +kernel
theorem rem_ok {n_ i_ : Nat} (h1 : 1 ≤ n_) (h2 : n_ ≤ 10) (hi_ : i_ < 14) : Int32.ofNat (i_ + 1) - Int32.ofNat (i_ + 1) / Int32.ofNat n_ * Int32.ofNat n_ = 0 ↔ (i_ + 1) % n_ = 0 := by
  have k_ := List.all_eq_true.mp rem_k n_ (List.mem_range.mpr (by omega))
  simp only [Bool.or_eq_true] at k_
  rcases k_ with k_ | k_
  · have := Nat.eq_of_beq_eq_true k_
    omega
  · exact of_decide_eq_true (List.all_eq_true.mp k_ i_ (List.mem_range.mpr hi_))
/-- SWALLOW, the reference: from its head on -/
theorem lSW {b_ m_ : Nat} {l : List Int32} (h2 : m_ ≤ 9) (hl : l.length ≤ 12) : ∀ (k_ i_ : Nat) (h_ : xH) (lo_ : xL), l.length ≤ i_ + k_ → i_ ≤ 12 → sHp h_ → bcq h_ b_ 20 13 → bpat h_ b_ 0 = some (.int (Int32.ofNat l.length)) → kps h_ b_ 1 (m_ + 1) i_ l → tSW_hd b_ (Int32.ofNat m_) (Int32.ofNat (kpt (m_ + 1) l i_).length) (Int32.ofNat (i_ + 1)) lo_ → i_ ≤ l.length → ∃ h', rM b_ h' (kpt (m_ + 1) l l.length) ∧ frb b_ h_ h' ∧ eRet 149 5 lo_ h_ h' := by
  intro k_
  have last_ : ∀ (h_ : xH) (lo_ : xL), sHp h_ → bcq h_ b_ 20 13 → bpat h_ b_ 0 = some (.int (Int32.ofNat l.length)) → kps h_ b_ 1 (m_ + 1) l.length l → tSW_hd b_ (Int32.ofNat m_) (Int32.ofNat (kpt (m_ + 1) l l.length).length) (Int32.ofNat (l.length + 1)) lo_ → ∃ h', rM b_ h' (kpt (m_ + 1) l l.length) ∧ frb b_ h_ h' ∧ eRet 149 5 lo_ h_ h' := by
    intro h_ lo_ hs R1 R2 K_ H_
    have kl := kpt_len (n_ := m_ + 1) (l := l) (i_ := l.length)
    obtain ⟨h', m1_, e1_, f1_, r1_⟩ := xSW hs R1 R2 (by rw [i32n (by omega), i32n (by omega)]; omega) H_
    refine ⟨h', ⟨m1_.1, ⟨m1_.2 _ _ _ R1, e1_, fun j_ x_ hx => (f1_ b_ _ (by omega)).trans ?_⟩, by omega⟩, ⟨m1_, fun c_ j_ n1_ => f1_ c_ j_ (fun q_ => n1_ q_.1)⟩, r1_⟩
    have z_ := K_.1 j_ x_ hx
    rw [show 0 + 1 + j_ = 1 + j_ by omega]
    exact z_
  induction k_ with
  | zero =>
    intro i_ h_ lo_ hk hi_ hs R1 R2 K_ H_ hil
    have e_ : i_ = l.length := by omega
    subst e_
    exact last_ h_ lo_ hs R1 R2 K_ H_
  | succ k_ ih_ =>
    intro i_ h_ lo_ hk hi_ hs R1 R2 K_ H_ hil
    by_cases g_ : i_ = l.length
    · subst g_
      exact last_ h_ lo_ hs R1 R2 K_ H_
    · have hlt : i_ < l.length := by omega
      have hx := List.getElem?_eq_getElem hlt
      have kl := kpt_len (n_ := m_ + 1) (l := l) (i_ := i_)
      have rk := rem_ok (n_ := m_ + 1) (i_ := i_) (by omega) (by omega) (by omega)
      have e6_ : bpat h_ b_ (Int32.ofNat (i_ + 1)).toInt.toNat = some (.int l[i_]) := by
        rw [i32t (by omega), show i_ + 1 = 1 + i_ by omega]
        exact K_.2 i_ _ (Nat.le_refl _) hx
      obtain ⟨h', m1_, e_⟩ := tSW hs R1 R2 e6_ ⟨by rw [i32n (by omega)]; omega, by rw [i32n (by omega)]; omega⟩ ⟨by rw [i32s, i32n (by omega)]; omega, by rw [i32s, i32n (by omega)]; omega⟩ (by rw [i32n (by omega), i32n (by omega)]; omega) (by
        rw [i32s]
        intro q_
        have q_ := congrArg Int32.toInt q_
        rw [i32n (by omega)] at q_
        have z0 : (0 : Int32).toInt = 0 := rfl
        omega) H_
      rw [i32s, i32s, i32s, i32t (by omega)] at e_
      rcases e_ with ⟨g0, f1_, lo', H', ld⟩ | ⟨g0, e1_, f1_, lo', H', ld⟩
      · have hd_ : (i_ + 1) % (m_ + 1) = 0 := rk.mp g0
        have K' : kps h' b_ 1 (m_ + 1) (i_ + 1) l := kps_drop K_ (fun j_ => f1_ b_ j_) hd_
        have e2_ : kpt (m_ + 1) l (i_ + 1) = kpt (m_ + 1) l i_ := if_pos hd_
        rw [← e2_] at H'
        obtain ⟨h2, S_, F_, E_⟩ := ih_ (i_ + 1) h' lo' (by omega) (by omega) m1_.1 (m1_.2 _ _ _ R1) ((f1_ b_ 0).trans R2) K' H' (by omega)
        exact ⟨h2, S_, frb_tr _ _ _ ⟨m1_, fun c_ j_ _ => f1_ c_ j_⟩ F_, eRet_led _ _ _ _ _ ld E_⟩
      · have hd_ : ¬ (i_ + 1) % (m_ + 1) = 0 := fun q_ => g0 (rk.mpr q_)
        have K' : kps h' b_ 1 (m_ + 1) (i_ + 1) l := kps_keep K_ hx (by rw [show 1 + (kpt (m_ + 1) l i_).length = (kpt (m_ + 1) l i_).length + 1 by omega]; exact e1_) (fun j_ nj => f1_ b_ j_ (fun q_ => nj (by omega))) hd_
        rw [← kpt_one hd_] at H'
        obtain ⟨h2, S_, F_, E_⟩ := ih_ (i_ + 1) h' lo' (by omega) (by omega) m1_.1 (m1_.2 _ _ _ R1) ((f1_ b_ 0 (by omega)).trans R2) K' H' (by omega)
        exact ⟨h2, S_, frb_tr _ _ _ ⟨m1_, fun c_ j_ n1_ => f1_ c_ j_ (fun q_ => n1_ q_.1)⟩ F_, eRet_led _ _ _ _ _ ld E_⟩
/-- SWALLOW, the reference -/
theorem swallowsM {b_ m_ : Nat} {l : List Int32} {h_ : xH} (h2 : m_ ≤ 9) (R_ : rM b_ h_ l) : ∃ h', rM b_ h' (kpt (m_ + 1) l l.length) ∧ frb b_ h_ h' ∧ eRet 149 0 [(0, .index 338), (1, .index b_), (2, .int (Int32.ofNat m_))] h_ h' := by
  obtain ⟨Rs_, ⟨R1, R2, R3⟩, R7⟩ := R_
  obtain ⟨h0, m0_, f0_, ld0⟩ := eSW (v2 := Int32.ofNat m_) Rs_ R1
  obtain ⟨h', S_, F_, E_⟩ := lSW (b_ := b_) h2 R7 l.length 0 h0 _ (by omega) (by omega) m0_.1 (m0_.2 _ _ _ R1) ((f0_ b_ 0).trans R2) ⟨fun j_ x_ hx => (by cases hx), fun j_ x_ _ hx => (f0_ b_ _).trans (by rw [show 1 + j_ = 0 + 1 + j_ by omega]; exact R3 j_ x_ hx)⟩ rfl (by omega)
  exact ⟨h', S_, frb_tr _ _ _ ⟨m0_, fun c_ j_ _ => f0_ c_ j_⟩ F_, fun D_ hD => ld0 D_ hD _ (E_ D_ hD)⟩
