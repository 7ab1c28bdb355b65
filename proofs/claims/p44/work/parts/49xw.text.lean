-- ===== text, the class
-- xtf0: 19 steps, 1 ends, 0 returns
def xtf0_L : List (Nat × Nat × Nat) := []
def xtf0_O : yO := [(147, .int 0, .index 148)]
def xtf0_A : yA := (yZ xtf0_L, [], [], [], [])
def xtf0_C : List xB := []
def xtf0_ss : List yS := [(25, [(0, .index 147), (1, .index 5), (2, .arg 102)], [.int 0, .int 0, .index 147], [(148, .int 1, .int 0), (147, .int 3, .int 0), (147, .int 2, .arg 102), (147, .int 1, .index 5), (147, .int 0, .index 148)], [], [(148, .int 1), (147, .int 3), (147, .int 2), (147, .int 1)])]
def xtf0_rs : List yR := []
theorem xtf0_w : ywa xtf0_A xtf0_ss xtf0_rs = true := by decide +kernel
theorem xtf0_k : yis (yev xtf0_A 3000 60 22 [25] (0, [(0, .index 147), (1, .index 5), (2, .arg 102)], [], xtf0_O, xtf0_C, [])) xtf0_ss xtf0_rs = true := by decide +kernel
def xtf0_r (k_ : Nat) : Value := .int 0
def xtf0_s (n_ : Nat) : Nat := 0
theorem xtf0 {h_ : xH} (hs : sHp h_) : ∃ h', ysm h_ h' ∧ (((bpat h' 148 1 = some (.int (0 : Int32))) ∧ (bpat h' 147 3 = some (.int (0 : Int32))) ∧ (bpat h' 147 2 = some (.arg 102)) ∧ (bpat h' 147 1 = some (.index 5)) ∧ (∀ a_ j_ : Nat, ¬ (a_ = 148 ∧ j_ = 1) → ¬ (a_ = 147 ∧ j_ = 3) → ¬ (a_ = 147 ∧ j_ = 2) → ¬ (a_ = 147 ∧ j_ = 1) → bpat h' a_ j_ = bpat h_ a_ j_) ∧ (bldD 60 22 0 [(0, .index 147), (1, .index 5), (2, .arg 102)] [] h_ 25 [(0, .index 147), (1, .index 5), (2, .arg 102)] [.int (0 : Int32), .int (0 : Int32), .index 147] h'))) := by
  have hA : yas xtf0_A xtf0_r (yg xtf0_s) := ⟨fun q_ hq => absurd hq List.not_mem_nil, fun q_ hq => absurd hq List.not_mem_nil, fun q_ hq => absurd hq List.not_mem_nil, fun n_ hn => yg_lo hn, fun q_ hq => absurd hq List.not_mem_nil⟩
  have Hs : ysh xtf0_A.1 (yg xtf0_s) h_ := ysh_of2 hs (fun q_ hq => absurd hq List.not_mem_nil)
  have Ho : ymem xtf0_r (yg xtf0_s) xtf0_O h_ := List.forall_mem_cons.mpr ⟨bpat_some (fxr_at hs.2 (show fxk fxl 147 0 = some 148 by decide +kernel)), fun q_ hq => absurd hq List.not_mem_nil⟩
  have HC : ∀ q_ ∈ xtf0_C, xhold xtf0_r q_ := fun q_ hq => absurd hq List.not_mem_nil
  rcases yrun (yis_ok xtf0_k) hA Hs Ho HC with ⟨q_, hq, h', K_, G_⟩ | ⟨q_, hq, h', K_, G_⟩
  · have e_ := List.mem_singleton.mp hq
    subst e_
    exact ⟨h', yfr_sm K_.2.2.2 hs K_.1 (ywa_s xtf0_w List.mem_cons_self), ⟨bpat_of (K_.2.1 _ List.mem_cons_self), bpat_of (K_.2.1 _ (List.mem_cons_of_mem _ List.mem_cons_self)), bpat_of (K_.2.1 _ (List.mem_cons_of_mem _ (List.mem_cons_of_mem _ List.mem_cons_self))), bpat_of (K_.2.1 _ (List.mem_cons_of_mem _ (List.mem_cons_of_mem _ (List.mem_cons_of_mem _ List.mem_cons_self)))), fun a_ j_ n0_ n1_ n2_ n3_ => yfr_bp K_.2.2.2 (List.forall_mem_cons.mpr ⟨fun e_ => n0_ ⟨e_.1.symm, e_.2.symm⟩, List.forall_mem_cons.mpr ⟨fun e_ => n1_ ⟨e_.1.symm, e_.2.symm⟩, List.forall_mem_cons.mpr ⟨fun e_ => n2_ ⟨e_.1.symm, e_.2.symm⟩, List.forall_mem_cons.mpr ⟨fun e_ => n3_ ⟨e_.1.symm, e_.2.symm⟩, fun q_ hq => absurd hq List.not_mem_nil⟩⟩⟩⟩), G_⟩⟩
  · cases hq
-- xtf1: 19 steps, 1 ends, 0 returns
def xtf1_L : List (Nat × Nat × Nat) := []
def xtf1_O : yO := [(147, .int 0, .index 148)]
def xtf1_A : yA := (yZ xtf1_L, [], [], [], [])
def xtf1_C : List xB := []
def xtf1_ss : List yS := [(25, [(0, .index 147), (1, .index 5), (2, .arg 103)], [.int 0, .int 0, .index 147], [(148, .int 1, .int 0), (147, .int 3, .int 0), (147, .int 2, .arg 103), (147, .int 1, .index 5), (147, .int 0, .index 148)], [], [(148, .int 1), (147, .int 3), (147, .int 2), (147, .int 1)])]
def xtf1_rs : List yR := []
theorem xtf1_w : ywa xtf1_A xtf1_ss xtf1_rs = true := by decide +kernel
theorem xtf1_k : yis (yev xtf1_A 3000 60 22 [25] (0, [(0, .index 147), (1, .index 5), (2, .arg 103)], [], xtf1_O, xtf1_C, [])) xtf1_ss xtf1_rs = true := by decide +kernel
def xtf1_r (k_ : Nat) : Value := .int 0
def xtf1_s (n_ : Nat) : Nat := 0
theorem xtf1 {h_ : xH} (hs : sHp h_) : ∃ h', ysm h_ h' ∧ (((bpat h' 148 1 = some (.int (0 : Int32))) ∧ (bpat h' 147 3 = some (.int (0 : Int32))) ∧ (bpat h' 147 2 = some (.arg 103)) ∧ (bpat h' 147 1 = some (.index 5)) ∧ (∀ a_ j_ : Nat, ¬ (a_ = 148 ∧ j_ = 1) → ¬ (a_ = 147 ∧ j_ = 3) → ¬ (a_ = 147 ∧ j_ = 2) → ¬ (a_ = 147 ∧ j_ = 1) → bpat h' a_ j_ = bpat h_ a_ j_) ∧ (bldD 60 22 0 [(0, .index 147), (1, .index 5), (2, .arg 103)] [] h_ 25 [(0, .index 147), (1, .index 5), (2, .arg 103)] [.int (0 : Int32), .int (0 : Int32), .index 147] h'))) := by
  have hA : yas xtf1_A xtf1_r (yg xtf1_s) := ⟨fun q_ hq => absurd hq List.not_mem_nil, fun q_ hq => absurd hq List.not_mem_nil, fun q_ hq => absurd hq List.not_mem_nil, fun n_ hn => yg_lo hn, fun q_ hq => absurd hq List.not_mem_nil⟩
  have Hs : ysh xtf1_A.1 (yg xtf1_s) h_ := ysh_of2 hs (fun q_ hq => absurd hq List.not_mem_nil)
  have Ho : ymem xtf1_r (yg xtf1_s) xtf1_O h_ := List.forall_mem_cons.mpr ⟨bpat_some (fxr_at hs.2 (show fxk fxl 147 0 = some 148 by decide +kernel)), fun q_ hq => absurd hq List.not_mem_nil⟩
  have HC : ∀ q_ ∈ xtf1_C, xhold xtf1_r q_ := fun q_ hq => absurd hq List.not_mem_nil
  rcases yrun (yis_ok xtf1_k) hA Hs Ho HC with ⟨q_, hq, h', K_, G_⟩ | ⟨q_, hq, h', K_, G_⟩
  · have e_ := List.mem_singleton.mp hq
    subst e_
    exact ⟨h', yfr_sm K_.2.2.2 hs K_.1 (ywa_s xtf1_w List.mem_cons_self), ⟨bpat_of (K_.2.1 _ List.mem_cons_self), bpat_of (K_.2.1 _ (List.mem_cons_of_mem _ List.mem_cons_self)), bpat_of (K_.2.1 _ (List.mem_cons_of_mem _ (List.mem_cons_of_mem _ List.mem_cons_self))), bpat_of (K_.2.1 _ (List.mem_cons_of_mem _ (List.mem_cons_of_mem _ (List.mem_cons_of_mem _ List.mem_cons_self)))), fun a_ j_ n0_ n1_ n2_ n3_ => yfr_bp K_.2.2.2 (List.forall_mem_cons.mpr ⟨fun e_ => n0_ ⟨e_.1.symm, e_.2.symm⟩, List.forall_mem_cons.mpr ⟨fun e_ => n1_ ⟨e_.1.symm, e_.2.symm⟩, List.forall_mem_cons.mpr ⟨fun e_ => n2_ ⟨e_.1.symm, e_.2.symm⟩, List.forall_mem_cons.mpr ⟨fun e_ => n3_ ⟨e_.1.symm, e_.2.symm⟩, fun q_ hq => absurd hq List.not_mem_nil⟩⟩⟩⟩), G_⟩⟩
  · cases hq
-- xtfo0: 8 steps, 0 ends, 1 returns
def xtfo0_L : List (Nat × Nat × Nat) := []
def xtfo0_O : yO := [(147, .int 3, .arg 300)]
def xtfo0_A : yA := (yZ xtfo0_L, [], [], [], [])
def xtfo0_C : List xB := [(.eq, .arg 3, .int 0, true)]
def xtfo0_ss : List yS := []
def xtfo0_rs : List yR := [(some (.arg 300), [(147, .int 3, .arg 300)], [(.eq, .arg 3, .int 0, true)], [])]
theorem xtfo0_w : ywa xtfo0_A xtfo0_ss xtfo0_rs = true := by decide +kernel
theorem xtfo0_k : yis (yev xtfo0_A 3000 60 22 [] (28, [(0, .index 147), (1, .index 5), (2, .arg 102)], [.arg 3], xtfo0_O, xtfo0_C, [])) xtfo0_ss xtfo0_rs = true := by decide +kernel
def xtfo0_r (v3 v300 : Int32) (k_ : Nat) : Value := bif Nat.beq k_ 3 then .int v3 else (bif Nat.beq k_ 300 then .int v300 else (.int 0))
def xtfo0_s (n_ : Nat) : Nat := 0
theorem xtfo0 {h_ : xH} {v3 v300 : Int32} (hs : sHp h_) (o0_ : bpat h_ 147 3 = some (.int v300)) (c0_ : v3 = (0 : Int32)) : ∃ h', ysm h_ h' ∧ (((∀ a_ j_ : Nat, bpat h' a_ j_ = bpat h_ a_ j_) ∧ (∀ D_, 60 ≤ D_ → xrun D_ 22 28 [(0, .index 147), (1, .index 5), (2, .arg 102)] [.int v3] h_ (some (.int v300), h', [])))) := by
  have hA : yas xtfo0_A (xtfo0_r v3 v300) (yg xtfo0_s) := ⟨fun q_ hq => absurd hq List.not_mem_nil, fun q_ hq => absurd hq List.not_mem_nil, fun q_ hq => absurd hq List.not_mem_nil, fun n_ hn => yg_lo hn, fun q_ hq => absurd hq List.not_mem_nil⟩
  have Hs : ysh xtfo0_A.1 (yg xtfo0_s) h_ := ysh_of2 hs (fun q_ hq => absurd hq List.not_mem_nil)
  have Ho : ymem (xtfo0_r v3 v300) (yg xtfo0_s) xtfo0_O h_ := List.forall_mem_cons.mpr ⟨bpat_some o0_, fun q_ hq => absurd hq List.not_mem_nil⟩
  have HC : ∀ q_ ∈ xtfo0_C, xhold (xtfo0_r v3 v300) q_ := List.forall_mem_cons.mpr ⟨xh_eqT2 c0_, fun q_ hq => absurd hq List.not_mem_nil⟩
  rcases yrun (yis_ok xtfo0_k) hA Hs Ho HC with ⟨q_, hq, h', K_, G_⟩ | ⟨q_, hq, h', K_, G_⟩
  · cases hq
  · have e_ := List.mem_singleton.mp hq
    subst e_
    exact ⟨h', yfr_sm K_.2.2.2 hs K_.1 (ywa_r xtfo0_w List.mem_cons_self), ⟨fun a_ j_ => yfr_bp K_.2.2.2 (fun q_ hq => absurd hq List.not_mem_nil), G_⟩⟩
-- xtfe0: 15 steps, 0 ends, 1 returns
def xtfe0_L : List (Nat × Nat × Nat) := []
def xtfe0_O : yO := [(147, .int 3, .arg 300), (147, .int 1, .index 5), (5, .int 1, .arg 301)]
def xtfe0_A : yA := (yZ xtfe0_L, [], [], [], [])
def xtfe0_C : List xB := [(.eq, .arg 3, .int 0, false), (.eq, .arg 300, .arg 301, true)]
def xtfe0_ss : List yS := []
def xtfe0_rs : List yR := [(some (.int (Int32.ofInt (-1))), [(147, .int 3, .arg 300), (147, .int 1, .index 5), (5, .int 1, .arg 301)], [(.eq, .arg 3, .int 0, false), (.eq, .arg 300, .arg 301, true)], [])]
theorem xtfe0_w : ywa xtfe0_A xtfe0_ss xtfe0_rs = true := by decide +kernel
theorem xtfe0_k : yis (yev xtfe0_A 3000 60 22 [] (28, [(0, .index 147), (1, .index 5), (2, .arg 102)], [.arg 3], xtfe0_O, xtfe0_C, [])) xtfe0_ss xtfe0_rs = true := by decide +kernel
def xtfe0_r (v3 v300 v301 : Int32) (k_ : Nat) : Value := bif Nat.beq k_ 3 then .int v3 else (bif Nat.beq k_ 300 then .int v300 else (bif Nat.beq k_ 301 then .int v301 else (.int 0)))
def xtfe0_s (n_ : Nat) : Nat := 0
theorem xtfe0 {h_ : xH} {v3 v300 v301 : Int32} (hs : sHp h_) (o0_ : bpat h_ 147 3 = some (.int v300)) (o1 : bpat h_ 147 1 = some (.index 5)) (o2 : bpat h_ 5 1 = some (.int v301)) (c0_ : ¬ v3 = (0 : Int32)) (c1_ : v300 = v301) : ∃ h', ysm h_ h' ∧ (((∀ a_ j_ : Nat, bpat h' a_ j_ = bpat h_ a_ j_) ∧ (∀ D_, 60 ≤ D_ → xrun D_ 22 28 [(0, .index 147), (1, .index 5), (2, .arg 102)] [.int v3] h_ (some (.int (Int32.ofInt (-1))), h', [])))) := by
  have hA : yas xtfe0_A (xtfe0_r v3 v300 v301) (yg xtfe0_s) := ⟨fun q_ hq => absurd hq List.not_mem_nil, fun q_ hq => absurd hq List.not_mem_nil, fun q_ hq => absurd hq List.not_mem_nil, fun n_ hn => yg_lo hn, fun q_ hq => absurd hq List.not_mem_nil⟩
  have Hs : ysh xtfe0_A.1 (yg xtfe0_s) h_ := ysh_of2 hs (fun q_ hq => absurd hq List.not_mem_nil)
  have Ho : ymem (xtfe0_r v3 v300 v301) (yg xtfe0_s) xtfe0_O h_ := List.forall_mem_cons.mpr ⟨bpat_some o0_, List.forall_mem_cons.mpr ⟨bpat_some o1, List.forall_mem_cons.mpr ⟨bpat_some o2, fun q_ hq => absurd hq List.not_mem_nil⟩⟩⟩
  have HC : ∀ q_ ∈ xtfe0_C, xhold (xtfe0_r v3 v300 v301) q_ := List.forall_mem_cons.mpr ⟨xh_eqF2 c0_, List.forall_mem_cons.mpr ⟨xh_eqT2 c1_, fun q_ hq => absurd hq List.not_mem_nil⟩⟩
  rcases yrun (yis_ok xtfe0_k) hA Hs Ho HC with ⟨q_, hq, h', K_, G_⟩ | ⟨q_, hq, h', K_, G_⟩
  · cases hq
  · have e_ := List.mem_singleton.mp hq
    subst e_
    exact ⟨h', yfr_sm K_.2.2.2 hs K_.1 (ywa_r xtfe0_w List.mem_cons_self), ⟨fun a_ j_ => yfr_bp K_.2.2.2 (fun q_ hq => absurd hq List.not_mem_nil), G_⟩⟩
-- xtfn0: 14 steps, 0 ends, 1 returns
def xtfn0_L : List (Nat × Nat × Nat) := []
def xtfn0_O : yO := [(147, .int 3, .arg 300), (147, .int 1, .index 5), (5, .int 1, .arg 301)]
def xtfn0_A : yA := (yZ xtfn0_L, [], [], [], [])
def xtfn0_C : List xB := [(.eq, .arg 3, .int 0, false), (.eq, .arg 300, .arg 301, false)]
def xtfn0_ss : List yS := []
def xtfn0_rs : List yR := [(some (.arg 300), [(147, .int 3, .arg 300), (147, .int 1, .index 5), (5, .int 1, .arg 301)], [(.eq, .arg 3, .int 0, false), (.eq, .arg 300, .arg 301, false)], [])]
theorem xtfn0_w : ywa xtfn0_A xtfn0_ss xtfn0_rs = true := by decide +kernel
theorem xtfn0_k : yis (yev xtfn0_A 3000 60 22 [] (28, [(0, .index 147), (1, .index 5), (2, .arg 102)], [.arg 3], xtfn0_O, xtfn0_C, [])) xtfn0_ss xtfn0_rs = true := by decide +kernel
def xtfn0_r (v3 v300 v301 : Int32) (k_ : Nat) : Value := bif Nat.beq k_ 3 then .int v3 else (bif Nat.beq k_ 300 then .int v300 else (bif Nat.beq k_ 301 then .int v301 else (.int 0)))
def xtfn0_s (n_ : Nat) : Nat := 0
theorem xtfn0 {h_ : xH} {v3 v300 v301 : Int32} (hs : sHp h_) (o0_ : bpat h_ 147 3 = some (.int v300)) (o1 : bpat h_ 147 1 = some (.index 5)) (o2 : bpat h_ 5 1 = some (.int v301)) (c0_ : ¬ v3 = (0 : Int32)) (c1_ : ¬ v300 = v301) : ∃ h', ysm h_ h' ∧ (((∀ a_ j_ : Nat, bpat h' a_ j_ = bpat h_ a_ j_) ∧ (∀ D_, 60 ≤ D_ → xrun D_ 22 28 [(0, .index 147), (1, .index 5), (2, .arg 102)] [.int v3] h_ (some (.int v300), h', [])))) := by
  have hA : yas xtfn0_A (xtfn0_r v3 v300 v301) (yg xtfn0_s) := ⟨fun q_ hq => absurd hq List.not_mem_nil, fun q_ hq => absurd hq List.not_mem_nil, fun q_ hq => absurd hq List.not_mem_nil, fun n_ hn => yg_lo hn, fun q_ hq => absurd hq List.not_mem_nil⟩
  have Hs : ysh xtfn0_A.1 (yg xtfn0_s) h_ := ysh_of2 hs (fun q_ hq => absurd hq List.not_mem_nil)
  have Ho : ymem (xtfn0_r v3 v300 v301) (yg xtfn0_s) xtfn0_O h_ := List.forall_mem_cons.mpr ⟨bpat_some o0_, List.forall_mem_cons.mpr ⟨bpat_some o1, List.forall_mem_cons.mpr ⟨bpat_some o2, fun q_ hq => absurd hq List.not_mem_nil⟩⟩⟩
  have HC : ∀ q_ ∈ xtfn0_C, xhold (xtfn0_r v3 v300 v301) q_ := List.forall_mem_cons.mpr ⟨xh_eqF2 c0_, List.forall_mem_cons.mpr ⟨xh_eqF2 c1_, fun q_ hq => absurd hq List.not_mem_nil⟩⟩
  rcases yrun (yis_ok xtfn0_k) hA Hs Ho HC with ⟨q_, hq, h', K_, G_⟩ | ⟨q_, hq, h', K_, G_⟩
  · cases hq
  · have e_ := List.mem_singleton.mp hq
    subst e_
    exact ⟨h', yfr_sm K_.2.2.2 hs K_.1 (ywa_r xtfn0_w List.mem_cons_self), ⟨fun a_ j_ => yfr_bp K_.2.2.2 (fun q_ hq => absurd hq List.not_mem_nil), G_⟩⟩
-- xtfo1: 8 steps, 0 ends, 1 returns
def xtfo1_L : List (Nat × Nat × Nat) := []
def xtfo1_O : yO := [(147, .int 3, .arg 300)]
def xtfo1_A : yA := (yZ xtfo1_L, [], [], [], [])
def xtfo1_C : List xB := [(.eq, .arg 3, .int 0, true)]
def xtfo1_ss : List yS := []
def xtfo1_rs : List yR := [(some (.arg 300), [(147, .int 3, .arg 300)], [(.eq, .arg 3, .int 0, true)], [])]
theorem xtfo1_w : ywa xtfo1_A xtfo1_ss xtfo1_rs = true := by decide +kernel
theorem xtfo1_k : yis (yev xtfo1_A 3000 60 22 [] (28, [(0, .index 147), (1, .index 5), (2, .arg 103)], [.arg 3], xtfo1_O, xtfo1_C, [])) xtfo1_ss xtfo1_rs = true := by decide +kernel
def xtfo1_r (v3 v300 : Int32) (k_ : Nat) : Value := bif Nat.beq k_ 3 then .int v3 else (bif Nat.beq k_ 300 then .int v300 else (.int 0))
def xtfo1_s (n_ : Nat) : Nat := 0
theorem xtfo1 {h_ : xH} {v3 v300 : Int32} (hs : sHp h_) (o0_ : bpat h_ 147 3 = some (.int v300)) (c0_ : v3 = (0 : Int32)) : ∃ h', ysm h_ h' ∧ (((∀ a_ j_ : Nat, bpat h' a_ j_ = bpat h_ a_ j_) ∧ (∀ D_, 60 ≤ D_ → xrun D_ 22 28 [(0, .index 147), (1, .index 5), (2, .arg 103)] [.int v3] h_ (some (.int v300), h', [])))) := by
  have hA : yas xtfo1_A (xtfo1_r v3 v300) (yg xtfo1_s) := ⟨fun q_ hq => absurd hq List.not_mem_nil, fun q_ hq => absurd hq List.not_mem_nil, fun q_ hq => absurd hq List.not_mem_nil, fun n_ hn => yg_lo hn, fun q_ hq => absurd hq List.not_mem_nil⟩
  have Hs : ysh xtfo1_A.1 (yg xtfo1_s) h_ := ysh_of2 hs (fun q_ hq => absurd hq List.not_mem_nil)
  have Ho : ymem (xtfo1_r v3 v300) (yg xtfo1_s) xtfo1_O h_ := List.forall_mem_cons.mpr ⟨bpat_some o0_, fun q_ hq => absurd hq List.not_mem_nil⟩
  have HC : ∀ q_ ∈ xtfo1_C, xhold (xtfo1_r v3 v300) q_ := List.forall_mem_cons.mpr ⟨xh_eqT2 c0_, fun q_ hq => absurd hq List.not_mem_nil⟩
  rcases yrun (yis_ok xtfo1_k) hA Hs Ho HC with ⟨q_, hq, h', K_, G_⟩ | ⟨q_, hq, h', K_, G_⟩
  · cases hq
  · have e_ := List.mem_singleton.mp hq
    subst e_
    exact ⟨h', yfr_sm K_.2.2.2 hs K_.1 (ywa_r xtfo1_w List.mem_cons_self), ⟨fun a_ j_ => yfr_bp K_.2.2.2 (fun q_ hq => absurd hq List.not_mem_nil), G_⟩⟩
-- xtfe1: 15 steps, 0 ends, 1 returns
def xtfe1_L : List (Nat × Nat × Nat) := []
def xtfe1_O : yO := [(147, .int 3, .arg 300), (147, .int 1, .index 5), (5, .int 1, .arg 301)]
def xtfe1_A : yA := (yZ xtfe1_L, [], [], [], [])
def xtfe1_C : List xB := [(.eq, .arg 3, .int 0, false), (.eq, .arg 300, .arg 301, true)]
def xtfe1_ss : List yS := []
def xtfe1_rs : List yR := [(some (.int (Int32.ofInt (-1))), [(147, .int 3, .arg 300), (147, .int 1, .index 5), (5, .int 1, .arg 301)], [(.eq, .arg 3, .int 0, false), (.eq, .arg 300, .arg 301, true)], [])]
theorem xtfe1_w : ywa xtfe1_A xtfe1_ss xtfe1_rs = true := by decide +kernel
theorem xtfe1_k : yis (yev xtfe1_A 3000 60 22 [] (28, [(0, .index 147), (1, .index 5), (2, .arg 103)], [.arg 3], xtfe1_O, xtfe1_C, [])) xtfe1_ss xtfe1_rs = true := by decide +kernel
def xtfe1_r (v3 v300 v301 : Int32) (k_ : Nat) : Value := bif Nat.beq k_ 3 then .int v3 else (bif Nat.beq k_ 300 then .int v300 else (bif Nat.beq k_ 301 then .int v301 else (.int 0)))
def xtfe1_s (n_ : Nat) : Nat := 0
theorem xtfe1 {h_ : xH} {v3 v300 v301 : Int32} (hs : sHp h_) (o0_ : bpat h_ 147 3 = some (.int v300)) (o1 : bpat h_ 147 1 = some (.index 5)) (o2 : bpat h_ 5 1 = some (.int v301)) (c0_ : ¬ v3 = (0 : Int32)) (c1_ : v300 = v301) : ∃ h', ysm h_ h' ∧ (((∀ a_ j_ : Nat, bpat h' a_ j_ = bpat h_ a_ j_) ∧ (∀ D_, 60 ≤ D_ → xrun D_ 22 28 [(0, .index 147), (1, .index 5), (2, .arg 103)] [.int v3] h_ (some (.int (Int32.ofInt (-1))), h', [])))) := by
  have hA : yas xtfe1_A (xtfe1_r v3 v300 v301) (yg xtfe1_s) := ⟨fun q_ hq => absurd hq List.not_mem_nil, fun q_ hq => absurd hq List.not_mem_nil, fun q_ hq => absurd hq List.not_mem_nil, fun n_ hn => yg_lo hn, fun q_ hq => absurd hq List.not_mem_nil⟩
  have Hs : ysh xtfe1_A.1 (yg xtfe1_s) h_ := ysh_of2 hs (fun q_ hq => absurd hq List.not_mem_nil)
  have Ho : ymem (xtfe1_r v3 v300 v301) (yg xtfe1_s) xtfe1_O h_ := List.forall_mem_cons.mpr ⟨bpat_some o0_, List.forall_mem_cons.mpr ⟨bpat_some o1, List.forall_mem_cons.mpr ⟨bpat_some o2, fun q_ hq => absurd hq List.not_mem_nil⟩⟩⟩
  have HC : ∀ q_ ∈ xtfe1_C, xhold (xtfe1_r v3 v300 v301) q_ := List.forall_mem_cons.mpr ⟨xh_eqF2 c0_, List.forall_mem_cons.mpr ⟨xh_eqT2 c1_, fun q_ hq => absurd hq List.not_mem_nil⟩⟩
  rcases yrun (yis_ok xtfe1_k) hA Hs Ho HC with ⟨q_, hq, h', K_, G_⟩ | ⟨q_, hq, h', K_, G_⟩
  · cases hq
  · have e_ := List.mem_singleton.mp hq
    subst e_
    exact ⟨h', yfr_sm K_.2.2.2 hs K_.1 (ywa_r xtfe1_w List.mem_cons_self), ⟨fun a_ j_ => yfr_bp K_.2.2.2 (fun q_ hq => absurd hq List.not_mem_nil), G_⟩⟩
-- xtfn1: 14 steps, 0 ends, 1 returns
def xtfn1_L : List (Nat × Nat × Nat) := []
def xtfn1_O : yO := [(147, .int 3, .arg 300), (147, .int 1, .index 5), (5, .int 1, .arg 301)]
def xtfn1_A : yA := (yZ xtfn1_L, [], [], [], [])
def xtfn1_C : List xB := [(.eq, .arg 3, .int 0, false), (.eq, .arg 300, .arg 301, false)]
def xtfn1_ss : List yS := []
def xtfn1_rs : List yR := [(some (.arg 300), [(147, .int 3, .arg 300), (147, .int 1, .index 5), (5, .int 1, .arg 301)], [(.eq, .arg 3, .int 0, false), (.eq, .arg 300, .arg 301, false)], [])]
theorem xtfn1_w : ywa xtfn1_A xtfn1_ss xtfn1_rs = true := by decide +kernel
theorem xtfn1_k : yis (yev xtfn1_A 3000 60 22 [] (28, [(0, .index 147), (1, .index 5), (2, .arg 103)], [.arg 3], xtfn1_O, xtfn1_C, [])) xtfn1_ss xtfn1_rs = true := by decide +kernel
def xtfn1_r (v3 v300 v301 : Int32) (k_ : Nat) : Value := bif Nat.beq k_ 3 then .int v3 else (bif Nat.beq k_ 300 then .int v300 else (bif Nat.beq k_ 301 then .int v301 else (.int 0)))
def xtfn1_s (n_ : Nat) : Nat := 0
theorem xtfn1 {h_ : xH} {v3 v300 v301 : Int32} (hs : sHp h_) (o0_ : bpat h_ 147 3 = some (.int v300)) (o1 : bpat h_ 147 1 = some (.index 5)) (o2 : bpat h_ 5 1 = some (.int v301)) (c0_ : ¬ v3 = (0 : Int32)) (c1_ : ¬ v300 = v301) : ∃ h', ysm h_ h' ∧ (((∀ a_ j_ : Nat, bpat h' a_ j_ = bpat h_ a_ j_) ∧ (∀ D_, 60 ≤ D_ → xrun D_ 22 28 [(0, .index 147), (1, .index 5), (2, .arg 103)] [.int v3] h_ (some (.int v300), h', [])))) := by
  have hA : yas xtfn1_A (xtfn1_r v3 v300 v301) (yg xtfn1_s) := ⟨fun q_ hq => absurd hq List.not_mem_nil, fun q_ hq => absurd hq List.not_mem_nil, fun q_ hq => absurd hq List.not_mem_nil, fun n_ hn => yg_lo hn, fun q_ hq => absurd hq List.not_mem_nil⟩
  have Hs : ysh xtfn1_A.1 (yg xtfn1_s) h_ := ysh_of2 hs (fun q_ hq => absurd hq List.not_mem_nil)
  have Ho : ymem (xtfn1_r v3 v300 v301) (yg xtfn1_s) xtfn1_O h_ := List.forall_mem_cons.mpr ⟨bpat_some o0_, List.forall_mem_cons.mpr ⟨bpat_some o1, List.forall_mem_cons.mpr ⟨bpat_some o2, fun q_ hq => absurd hq List.not_mem_nil⟩⟩⟩
  have HC : ∀ q_ ∈ xtfn1_C, xhold (xtfn1_r v3 v300 v301) q_ := List.forall_mem_cons.mpr ⟨xh_eqF2 c0_, List.forall_mem_cons.mpr ⟨xh_eqF2 c1_, fun q_ hq => absurd hq List.not_mem_nil⟩⟩
  rcases yrun (yis_ok xtfn1_k) hA Hs Ho HC with ⟨q_, hq, h', K_, G_⟩ | ⟨q_, hq, h', K_, G_⟩
  · cases hq
  · have e_ := List.mem_singleton.mp hq
    subst e_
    exact ⟨h', yfr_sm K_.2.2.2 hs K_.1 (ywa_r xtfn1_w List.mem_cons_self), ⟨fun a_ j_ => yfr_bp K_.2.2.2 (fun q_ hq => absurd hq List.not_mem_nil), G_⟩⟩
-- xtwE: 49 steps, 1 ends, 2 returns
def xtwE_L : List (Nat × Nat × Nat) := []
def xtwE_O : yO := [(0, .int 13, .index 323), (323, .int 1, .arg 400)]
def xtwE_A : yA := (yZ xtwE_L, [], [], [], [])
def xtwE_C : List xB := []
def xtwE_ss : List yS := [(13, [(0, .index 0), (1, .arg 1)], [], [(0, .int 13, .index 323), (323, .int 1, .arg 400)], [(.lt, .arg 1, .int 2, true), (.lt, .arg 1, .int 0, false)], [])]
def xtwE_rs : List yR := [(some (.int (Int32.ofInt (-1000001))), [(323, .int 1, .add (.arg 400) (.int 1)), (0, .int 13, .index 323)], [(.lt, .arg 1, .int 0, true)], [(323, .int 1)]),
  (some (.int (Int32.ofInt (-1000001))), [(323, .int 1, .add (.arg 400) (.int 1)), (0, .int 13, .index 323)], [(.lt, .arg 1, .int 2, false), (.lt, .arg 1, .int 0, false)], [(323, .int 1)])]
theorem xtwE_w : ywa xtwE_A xtwE_ss xtwE_rs = true := by decide +kernel
theorem xtwE_k : yis (yev xtwE_A 3000 60 85 [13] (0, [(0, .index 0), (1, .arg 1)], [], xtwE_O, xtwE_C, [])) xtwE_ss xtwE_rs = true := by decide +kernel
def xtwE_r (v1_ v400 : Int32) (k_ : Nat) : Value := bif Nat.beq k_ 1 then .int v1_ else (bif Nat.beq k_ 400 then .int v400 else (.int 0))
def xtwE_s (n_ : Nat) : Nat := 0
theorem xtwE {h_ : xH} {v1_ v400 : Int32} (hs : sHp h_) (o0_ : bpat h_ 323 1 = some (.int v400)) : ∃ h', ysm h_ h' ∧ (((v1_.toInt < (2 : Int32).toInt) ∧ ((0 : Int32).toInt ≤ v1_.toInt) ∧ (∀ a_ j_ : Nat, bpat h' a_ j_ = bpat h_ a_ j_) ∧ (bldD 60 85 0 [(0, .index 0), (1, .int v1_)] [] h_ 13 [(0, .index 0), (1, .int v1_)] [] h'))
  ∨ ((v1_.toInt < (0 : Int32).toInt) ∧ (bpat h' 323 1 = some (.int (v400 + (1 : Int32)))) ∧ (∀ a_ j_ : Nat, ¬ (a_ = 323 ∧ j_ = 1) → bpat h' a_ j_ = bpat h_ a_ j_) ∧ (∀ D_, 60 ≤ D_ → xrun D_ 85 0 [(0, .index 0), (1, .int v1_)] [] h_ (some (.int (Int32.ofInt (-1000001))), h', [])))
  ∨ (((2 : Int32).toInt ≤ v1_.toInt) ∧ ((0 : Int32).toInt ≤ v1_.toInt) ∧ (bpat h' 323 1 = some (.int (v400 + (1 : Int32)))) ∧ (∀ a_ j_ : Nat, ¬ (a_ = 323 ∧ j_ = 1) → bpat h' a_ j_ = bpat h_ a_ j_) ∧ (∀ D_, 60 ≤ D_ → xrun D_ 85 0 [(0, .index 0), (1, .int v1_)] [] h_ (some (.int (Int32.ofInt (-1000001))), h', [])))) := by
  have hA : yas xtwE_A (xtwE_r v1_ v400) (yg xtwE_s) := ⟨fun q_ hq => absurd hq List.not_mem_nil, fun q_ hq => absurd hq List.not_mem_nil, fun q_ hq => absurd hq List.not_mem_nil, fun n_ hn => yg_lo hn, fun q_ hq => absurd hq List.not_mem_nil⟩
  have Hs : ysh xtwE_A.1 (yg xtwE_s) h_ := ysh_of2 hs (fun q_ hq => absurd hq List.not_mem_nil)
  have Ho : ymem (xtwE_r v1_ v400) (yg xtwE_s) xtwE_O h_ := List.forall_mem_cons.mpr ⟨bpat_some (fxr_at hs.2 (show fxk fxl 0 13 = some 323 by decide +kernel)), List.forall_mem_cons.mpr ⟨bpat_some o0_, fun q_ hq => absurd hq List.not_mem_nil⟩⟩
  have HC : ∀ q_ ∈ xtwE_C, xhold (xtwE_r v1_ v400) q_ := fun q_ hq => absurd hq List.not_mem_nil
  rcases yrun (yis_ok xtwE_k) hA Hs Ho HC with ⟨q_, hq, h', K_, G_⟩ | ⟨q_, hq, h', K_, G_⟩
  · have e_ := List.mem_singleton.mp hq
    subst e_
    exact ⟨h', yfr_sm K_.2.2.2 hs K_.1 (ywa_s xtwE_w List.mem_cons_self), Or.inl (⟨xq_ltT rfl rfl (K_.2.2.1 _ List.mem_cons_self), xq_ltF rfl rfl (K_.2.2.1 _ (List.mem_cons_of_mem _ List.mem_cons_self)), fun a_ j_ => yfr_bp K_.2.2.2 (fun q_ hq => absurd hq List.not_mem_nil), G_⟩)⟩
  · rcases List.mem_cons.mp hq with e_ | hq
    · subst e_
      exact ⟨h', yfr_sm K_.2.2.2 hs K_.1 (ywa_r xtwE_w List.mem_cons_self), Or.inr (Or.inl (⟨xq_ltT rfl rfl (K_.2.2.1 _ List.mem_cons_self), bpat_of (K_.2.1 _ List.mem_cons_self), fun a_ j_ n0_ => yfr_bp K_.2.2.2 (List.forall_mem_cons.mpr ⟨fun e_ => n0_ ⟨e_.1.symm, e_.2.symm⟩, fun q_ hq => absurd hq List.not_mem_nil⟩), G_⟩))⟩
    have e_ := List.mem_singleton.mp hq
    subst e_
    exact ⟨h', yfr_sm K_.2.2.2 hs K_.1 (ywa_r xtwE_w (List.mem_cons_of_mem _ List.mem_cons_self)), Or.inr (Or.inr (⟨xq_ltF rfl rfl (K_.2.2.1 _ List.mem_cons_self), xq_ltF rfl rfl (K_.2.2.1 _ (List.mem_cons_of_mem _ List.mem_cons_self)), bpat_of (K_.2.1 _ List.mem_cons_self), fun a_ j_ n0_ => yfr_bp K_.2.2.2 (List.forall_mem_cons.mpr ⟨fun e_ => n0_ ⟨e_.1.symm, e_.2.symm⟩, fun q_ hq => absurd hq List.not_mem_nil⟩), G_⟩))⟩
-- xtx0: 9 steps, 1 ends, 0 returns
def xtx0_L : List (Nat × Nat × Nat) := []
def xtx0_O : yO := [(0, .int 2, .index 147), (0, .int 0, .index 1), (1, .int 3, .index 5)]
def xtx0_A : yA := (yZ xtx0_L, [], [], [], [])
def xtx0_C : List xB := []
def xtx0_ss : List yS := [(35, [(0, .index 0), (1, .int 0)], [.arg 102, .index 5, .index 147], [(0, .int 2, .index 147), (0, .int 0, .index 1), (1, .int 3, .index 5)], [], [])]
def xtx0_rs : List yR := []
theorem xtx0_w : ywa xtx0_A xtx0_ss xtx0_rs = true := by decide +kernel
theorem xtx0_k : yis (yev xtx0_A 3000 60 85 [35] (13, [(0, .index 0), (1, .int 0)], [], xtx0_O, xtx0_C, [])) xtx0_ss xtx0_rs = true := by decide +kernel
def xtx0_r (k_ : Nat) : Value := .int 0
def xtx0_s (n_ : Nat) : Nat := 0
theorem xtx0 {h_ : xH} (hs : sHp h_) : ∃ h', ysm h_ h' ∧ (((∀ a_ j_ : Nat, bpat h' a_ j_ = bpat h_ a_ j_) ∧ (bldD 60 85 13 [(0, .index 0), (1, .int (0 : Int32))] [] h_ 35 [(0, .index 0), (1, .int (0 : Int32))] [.arg 102, .index 5, .index 147] h'))) := by
  have hA : yas xtx0_A xtx0_r (yg xtx0_s) := ⟨fun q_ hq => absurd hq List.not_mem_nil, fun q_ hq => absurd hq List.not_mem_nil, fun q_ hq => absurd hq List.not_mem_nil, fun n_ hn => yg_lo hn, fun q_ hq => absurd hq List.not_mem_nil⟩
  have Hs : ysh xtx0_A.1 (yg xtx0_s) h_ := ysh_of2 hs (fun q_ hq => absurd hq List.not_mem_nil)
  have Ho : ymem xtx0_r (yg xtx0_s) xtx0_O h_ := List.forall_mem_cons.mpr ⟨bpat_some (fxr_at hs.2 (show fxk fxl 0 2 = some 147 by decide +kernel)), List.forall_mem_cons.mpr ⟨bpat_some (fxr_at hs.2 (show fxk fxl 0 0 = some 1 by decide +kernel)), List.forall_mem_cons.mpr ⟨bpat_some (fxr_at hs.2 (show fxk fxl 1 3 = some 5 by decide +kernel)), fun q_ hq => absurd hq List.not_mem_nil⟩⟩⟩
  have HC : ∀ q_ ∈ xtx0_C, xhold xtx0_r q_ := fun q_ hq => absurd hq List.not_mem_nil
  rcases yrun (yis_ok xtx0_k) hA Hs Ho HC with ⟨q_, hq, h', K_, G_⟩ | ⟨q_, hq, h', K_, G_⟩
  · have e_ := List.mem_singleton.mp hq
    subst e_
    exact ⟨h', yfr_sm K_.2.2.2 hs K_.1 (ywa_s xtx0_w List.mem_cons_self), ⟨fun a_ j_ => yfr_bp K_.2.2.2 (fun q_ hq => absurd hq List.not_mem_nil), G_⟩⟩
  · cases hq
-- xtx1: 8 steps, 1 ends, 0 returns
def xtx1_L : List (Nat × Nat × Nat) := []
def xtx1_O : yO := [(0, .int 2, .index 147), (0, .int 0, .index 1), (1, .int 3, .index 5)]
def xtx1_A : yA := (yZ xtx1_L, [], [], [], [])
def xtx1_C : List xB := []
def xtx1_ss : List yS := [(35, [(0, .index 0), (1, .int 1)], [.arg 103, .index 5, .index 147], [(0, .int 2, .index 147), (0, .int 0, .index 1), (1, .int 3, .index 5)], [], [])]
def xtx1_rs : List yR := []
theorem xtx1_w : ywa xtx1_A xtx1_ss xtx1_rs = true := by decide +kernel
theorem xtx1_k : yis (yev xtx1_A 3000 60 85 [35] (13, [(0, .index 0), (1, .int 1)], [], xtx1_O, xtx1_C, [])) xtx1_ss xtx1_rs = true := by decide +kernel
def xtx1_r (k_ : Nat) : Value := .int 0
def xtx1_s (n_ : Nat) : Nat := 0
theorem xtx1 {h_ : xH} (hs : sHp h_) : ∃ h', ysm h_ h' ∧ (((∀ a_ j_ : Nat, bpat h' a_ j_ = bpat h_ a_ j_) ∧ (bldD 60 85 13 [(0, .index 0), (1, .int (1 : Int32))] [] h_ 35 [(0, .index 0), (1, .int (1 : Int32))] [.arg 103, .index 5, .index 147] h'))) := by
  have hA : yas xtx1_A xtx1_r (yg xtx1_s) := ⟨fun q_ hq => absurd hq List.not_mem_nil, fun q_ hq => absurd hq List.not_mem_nil, fun q_ hq => absurd hq List.not_mem_nil, fun n_ hn => yg_lo hn, fun q_ hq => absurd hq List.not_mem_nil⟩
  have Hs : ysh xtx1_A.1 (yg xtx1_s) h_ := ysh_of2 hs (fun q_ hq => absurd hq List.not_mem_nil)
  have Ho : ymem xtx1_r (yg xtx1_s) xtx1_O h_ := List.forall_mem_cons.mpr ⟨bpat_some (fxr_at hs.2 (show fxk fxl 0 2 = some 147 by decide +kernel)), List.forall_mem_cons.mpr ⟨bpat_some (fxr_at hs.2 (show fxk fxl 0 0 = some 1 by decide +kernel)), List.forall_mem_cons.mpr ⟨bpat_some (fxr_at hs.2 (show fxk fxl 1 3 = some 5 by decide +kernel)), fun q_ hq => absurd hq List.not_mem_nil⟩⟩⟩
  have HC : ∀ q_ ∈ xtx1_C, xhold xtx1_r q_ := fun q_ hq => absurd hq List.not_mem_nil
  rcases yrun (yis_ok xtx1_k) hA Hs Ho HC with ⟨q_, hq, h', K_, G_⟩ | ⟨q_, hq, h', K_, G_⟩
  · have e_ := List.mem_singleton.mp hq
    subst e_
    exact ⟨h', yfr_sm K_.2.2.2 hs K_.1 (ywa_s xtx1_w List.mem_cons_self), ⟨fun a_ j_ => yfr_bp K_.2.2.2 (fun q_ hq => absurd hq List.not_mem_nil), G_⟩⟩
  · cases hq
-- xty0: 15 steps, 0 ends, 1 returns
def xty0_L : List (Nat × Nat × Nat) := []
def xty0_O : yO := [(0, .int 0, .index 1), (1, .int 3, .index 5)]
def xty0_A : yA := (yZ xty0_L, [], [], [], [])
def xty0_C : List xB := [(.lt, .arg 2, .int 0, false)]
def xty0_ss : List yS := []
def xty0_rs : List yR := [(some (.sub (.int (Int32.ofInt (-10))) (.arg 2)), [(5, .int 1, .int 0), (0, .int 0, .index 1), (1, .int 3, .index 5)], [(.lt, .arg 2, .int 0, false)], [(5, .int 1)])]
theorem xty0_w : ywa xty0_A xty0_ss xty0_rs = true := by decide +kernel
theorem xty0_k : yis (yev xty0_A 3000 60 85 [] (38, [(0, .index 0), (1, .int 0)], [.arg 2], xty0_O, xty0_C, [])) xty0_ss xty0_rs = true := by decide +kernel
def xty0_r (v2 : Int32) (k_ : Nat) : Value := bif Nat.beq k_ 2 then .int v2 else (.int 0)
def xty0_s (n_ : Nat) : Nat := 0
theorem xty0 {h_ : xH} {v2 : Int32} (hs : sHp h_) (c0_ : (0 : Int32).toInt ≤ v2.toInt) : ∃ h', ysm h_ h' ∧ (((bpat h' 5 1 = some (.int (0 : Int32))) ∧ (∀ a_ j_ : Nat, ¬ (a_ = 5 ∧ j_ = 1) → bpat h' a_ j_ = bpat h_ a_ j_) ∧ (∀ D_, 60 ≤ D_ → xrun D_ 85 38 [(0, .index 0), (1, .int (0 : Int32))] [.int v2] h_ (some (.int ((Int32.ofInt (-10)) - v2)), h', [])))) := by
  have hA : yas xty0_A (xty0_r v2) (yg xty0_s) := ⟨fun q_ hq => absurd hq List.not_mem_nil, fun q_ hq => absurd hq List.not_mem_nil, fun q_ hq => absurd hq List.not_mem_nil, fun n_ hn => yg_lo hn, fun q_ hq => absurd hq List.not_mem_nil⟩
  have Hs : ysh xty0_A.1 (yg xty0_s) h_ := ysh_of2 hs (fun q_ hq => absurd hq List.not_mem_nil)
  have Ho : ymem (xty0_r v2) (yg xty0_s) xty0_O h_ := List.forall_mem_cons.mpr ⟨bpat_some (fxr_at hs.2 (show fxk fxl 0 0 = some 1 by decide +kernel)), List.forall_mem_cons.mpr ⟨bpat_some (fxr_at hs.2 (show fxk fxl 1 3 = some 5 by decide +kernel)), fun q_ hq => absurd hq List.not_mem_nil⟩⟩
  have HC : ∀ q_ ∈ xty0_C, xhold (xty0_r v2) q_ := List.forall_mem_cons.mpr ⟨xh_ltF c0_, fun q_ hq => absurd hq List.not_mem_nil⟩
  rcases yrun (yis_ok xty0_k) hA Hs Ho HC with ⟨q_, hq, h', K_, G_⟩ | ⟨q_, hq, h', K_, G_⟩
  · cases hq
  · have e_ := List.mem_singleton.mp hq
    subst e_
    exact ⟨h', yfr_sm K_.2.2.2 hs K_.1 (ywa_r xty0_w List.mem_cons_self), ⟨bpat_of (K_.2.1 _ List.mem_cons_self), fun a_ j_ n0_ => yfr_bp K_.2.2.2 (List.forall_mem_cons.mpr ⟨fun e_ => n0_ ⟨e_.1.symm, e_.2.symm⟩, fun q_ hq => absurd hq List.not_mem_nil⟩), G_⟩⟩
-- xtz0: 20 steps, 1 ends, 0 returns
def xtz0_L : List (Nat × Nat × Nat) := []
def xtz0_O : yO := [(0, .int 0, .index 1), (1, .int 3, .index 5), (1, .int 2, .index 4), (4, .int 0, .index 66), (66, .int 0, .index 67), (0, .int 2, .index 147), (147, .int 0, .index 148)]
def xtz0_A : yA := (yZ xtz0_L, [], [], [], [])
def xtz0_C : List xB := [(.lt, .arg 2, .int 0, true)]
def xtz0_ss : List yS := [(77, [(2, .arg 2), (0, .index 0), (1, .int 0)], [.index 148, .index 67], [(5, .int 1, .int 0), (0, .int 0, .index 1), (1, .int 3, .index 5), (1, .int 2, .index 4), (4, .int 0, .index 66), (66, .int 0, .index 67), (0, .int 2, .index 147), (147, .int 0, .index 148)], [(.lt, .arg 2, .int 0, true)], [(5, .int 1)])]
def xtz0_rs : List yR := []
theorem xtz0_w : ywa xtz0_A xtz0_ss xtz0_rs = true := by decide +kernel
theorem xtz0_k : yis (yev xtz0_A 3000 60 85 [77] (38, [(0, .index 0), (1, .int 0)], [.arg 2], xtz0_O, xtz0_C, [])) xtz0_ss xtz0_rs = true := by decide +kernel
def xtz0_r (v2 : Int32) (k_ : Nat) : Value := bif Nat.beq k_ 2 then .int v2 else (.int 0)
def xtz0_s (n_ : Nat) : Nat := 0
theorem xtz0 {h_ : xH} {v2 : Int32} (hs : sHp h_) (c0_ : v2.toInt < (0 : Int32).toInt) : ∃ h', ysm h_ h' ∧ (((bpat h' 5 1 = some (.int (0 : Int32))) ∧ (∀ a_ j_ : Nat, ¬ (a_ = 5 ∧ j_ = 1) → bpat h' a_ j_ = bpat h_ a_ j_) ∧ (bldD 60 85 38 [(0, .index 0), (1, .int (0 : Int32))] [.int v2] h_ 77 [(2, .int v2), (0, .index 0), (1, .int (0 : Int32))] [.index 148, .index 67] h'))) := by
  have hA : yas xtz0_A (xtz0_r v2) (yg xtz0_s) := ⟨fun q_ hq => absurd hq List.not_mem_nil, fun q_ hq => absurd hq List.not_mem_nil, fun q_ hq => absurd hq List.not_mem_nil, fun n_ hn => yg_lo hn, fun q_ hq => absurd hq List.not_mem_nil⟩
  have Hs : ysh xtz0_A.1 (yg xtz0_s) h_ := ysh_of2 hs (fun q_ hq => absurd hq List.not_mem_nil)
  have Ho : ymem (xtz0_r v2) (yg xtz0_s) xtz0_O h_ := List.forall_mem_cons.mpr ⟨bpat_some (fxr_at hs.2 (show fxk fxl 0 0 = some 1 by decide +kernel)), List.forall_mem_cons.mpr ⟨bpat_some (fxr_at hs.2 (show fxk fxl 1 3 = some 5 by decide +kernel)), List.forall_mem_cons.mpr ⟨bpat_some (fxr_at hs.2 (show fxk fxl 1 2 = some 4 by decide +kernel)), List.forall_mem_cons.mpr ⟨bpat_some (fxr_at hs.2 (show fxk fxl 4 0 = some 66 by decide +kernel)), List.forall_mem_cons.mpr ⟨bpat_some (fxr_at hs.2 (show fxk fxl 66 0 = some 67 by decide +kernel)), List.forall_mem_cons.mpr ⟨bpat_some (fxr_at hs.2 (show fxk fxl 0 2 = some 147 by decide +kernel)), List.forall_mem_cons.mpr ⟨bpat_some (fxr_at hs.2 (show fxk fxl 147 0 = some 148 by decide +kernel)), fun q_ hq => absurd hq List.not_mem_nil⟩⟩⟩⟩⟩⟩⟩
  have HC : ∀ q_ ∈ xtz0_C, xhold (xtz0_r v2) q_ := List.forall_mem_cons.mpr ⟨xh_ltT c0_, fun q_ hq => absurd hq List.not_mem_nil⟩
  rcases yrun (yis_ok xtz0_k) hA Hs Ho HC with ⟨q_, hq, h', K_, G_⟩ | ⟨q_, hq, h', K_, G_⟩
  · have e_ := List.mem_singleton.mp hq
    subst e_
    exact ⟨h', yfr_sm K_.2.2.2 hs K_.1 (ywa_s xtz0_w List.mem_cons_self), ⟨bpat_of (K_.2.1 _ List.mem_cons_self), fun a_ j_ n0_ => yfr_bp K_.2.2.2 (List.forall_mem_cons.mpr ⟨fun e_ => n0_ ⟨e_.1.symm, e_.2.symm⟩, fun q_ hq => absurd hq List.not_mem_nil⟩), G_⟩⟩
  · cases hq
-- xty1: 15 steps, 0 ends, 1 returns
def xty1_L : List (Nat × Nat × Nat) := []
def xty1_O : yO := [(0, .int 0, .index 1), (1, .int 3, .index 5)]
def xty1_A : yA := (yZ xty1_L, [], [], [], [])
def xty1_C : List xB := [(.lt, .arg 2, .int 0, false)]
def xty1_ss : List yS := []
def xty1_rs : List yR := [(some (.sub (.int (Int32.ofInt (-10))) (.arg 2)), [(5, .int 1, .int 0), (0, .int 0, .index 1), (1, .int 3, .index 5)], [(.lt, .arg 2, .int 0, false)], [(5, .int 1)])]
theorem xty1_w : ywa xty1_A xty1_ss xty1_rs = true := by decide +kernel
theorem xty1_k : yis (yev xty1_A 3000 60 85 [] (38, [(0, .index 0), (1, .int 1)], [.arg 2], xty1_O, xty1_C, [])) xty1_ss xty1_rs = true := by decide +kernel
def xty1_r (v2 : Int32) (k_ : Nat) : Value := bif Nat.beq k_ 2 then .int v2 else (.int 0)
def xty1_s (n_ : Nat) : Nat := 0
theorem xty1 {h_ : xH} {v2 : Int32} (hs : sHp h_) (c0_ : (0 : Int32).toInt ≤ v2.toInt) : ∃ h', ysm h_ h' ∧ (((bpat h' 5 1 = some (.int (0 : Int32))) ∧ (∀ a_ j_ : Nat, ¬ (a_ = 5 ∧ j_ = 1) → bpat h' a_ j_ = bpat h_ a_ j_) ∧ (∀ D_, 60 ≤ D_ → xrun D_ 85 38 [(0, .index 0), (1, .int (1 : Int32))] [.int v2] h_ (some (.int ((Int32.ofInt (-10)) - v2)), h', [])))) := by
  have hA : yas xty1_A (xty1_r v2) (yg xty1_s) := ⟨fun q_ hq => absurd hq List.not_mem_nil, fun q_ hq => absurd hq List.not_mem_nil, fun q_ hq => absurd hq List.not_mem_nil, fun n_ hn => yg_lo hn, fun q_ hq => absurd hq List.not_mem_nil⟩
  have Hs : ysh xty1_A.1 (yg xty1_s) h_ := ysh_of2 hs (fun q_ hq => absurd hq List.not_mem_nil)
  have Ho : ymem (xty1_r v2) (yg xty1_s) xty1_O h_ := List.forall_mem_cons.mpr ⟨bpat_some (fxr_at hs.2 (show fxk fxl 0 0 = some 1 by decide +kernel)), List.forall_mem_cons.mpr ⟨bpat_some (fxr_at hs.2 (show fxk fxl 1 3 = some 5 by decide +kernel)), fun q_ hq => absurd hq List.not_mem_nil⟩⟩
  have HC : ∀ q_ ∈ xty1_C, xhold (xty1_r v2) q_ := List.forall_mem_cons.mpr ⟨xh_ltF c0_, fun q_ hq => absurd hq List.not_mem_nil⟩
  rcases yrun (yis_ok xty1_k) hA Hs Ho HC with ⟨q_, hq, h', K_, G_⟩ | ⟨q_, hq, h', K_, G_⟩
  · cases hq
  · have e_ := List.mem_singleton.mp hq
    subst e_
    exact ⟨h', yfr_sm K_.2.2.2 hs K_.1 (ywa_r xty1_w List.mem_cons_self), ⟨bpat_of (K_.2.1 _ List.mem_cons_self), fun a_ j_ n0_ => yfr_bp K_.2.2.2 (List.forall_mem_cons.mpr ⟨fun e_ => n0_ ⟨e_.1.symm, e_.2.symm⟩, fun q_ hq => absurd hq List.not_mem_nil⟩), G_⟩⟩
-- xtz1: 20 steps, 1 ends, 0 returns
def xtz1_L : List (Nat × Nat × Nat) := []
def xtz1_O : yO := [(0, .int 0, .index 1), (1, .int 3, .index 5), (1, .int 2, .index 4), (4, .int 1, .index 70), (70, .int 0, .index 71), (0, .int 2, .index 147), (147, .int 0, .index 148)]
def xtz1_A : yA := (yZ xtz1_L, [], [], [], [])
def xtz1_C : List xB := [(.lt, .arg 2, .int 0, true)]
def xtz1_ss : List yS := [(77, [(2, .arg 2), (0, .index 0), (1, .int 1)], [.index 148, .index 71], [(5, .int 1, .int 0), (0, .int 0, .index 1), (1, .int 3, .index 5), (1, .int 2, .index 4), (4, .int 1, .index 70), (70, .int 0, .index 71), (0, .int 2, .index 147), (147, .int 0, .index 148)], [(.lt, .arg 2, .int 0, true)], [(5, .int 1)])]
def xtz1_rs : List yR := []
theorem xtz1_w : ywa xtz1_A xtz1_ss xtz1_rs = true := by decide +kernel
theorem xtz1_k : yis (yev xtz1_A 3000 60 85 [77] (38, [(0, .index 0), (1, .int 1)], [.arg 2], xtz1_O, xtz1_C, [])) xtz1_ss xtz1_rs = true := by decide +kernel
def xtz1_r (v2 : Int32) (k_ : Nat) : Value := bif Nat.beq k_ 2 then .int v2 else (.int 0)
def xtz1_s (n_ : Nat) : Nat := 0
theorem xtz1 {h_ : xH} {v2 : Int32} (hs : sHp h_) (c0_ : v2.toInt < (0 : Int32).toInt) : ∃ h', ysm h_ h' ∧ (((bpat h' 5 1 = some (.int (0 : Int32))) ∧ (∀ a_ j_ : Nat, ¬ (a_ = 5 ∧ j_ = 1) → bpat h' a_ j_ = bpat h_ a_ j_) ∧ (bldD 60 85 38 [(0, .index 0), (1, .int (1 : Int32))] [.int v2] h_ 77 [(2, .int v2), (0, .index 0), (1, .int (1 : Int32))] [.index 148, .index 71] h'))) := by
  have hA : yas xtz1_A (xtz1_r v2) (yg xtz1_s) := ⟨fun q_ hq => absurd hq List.not_mem_nil, fun q_ hq => absurd hq List.not_mem_nil, fun q_ hq => absurd hq List.not_mem_nil, fun n_ hn => yg_lo hn, fun q_ hq => absurd hq List.not_mem_nil⟩
  have Hs : ysh xtz1_A.1 (yg xtz1_s) h_ := ysh_of2 hs (fun q_ hq => absurd hq List.not_mem_nil)
  have Ho : ymem (xtz1_r v2) (yg xtz1_s) xtz1_O h_ := List.forall_mem_cons.mpr ⟨bpat_some (fxr_at hs.2 (show fxk fxl 0 0 = some 1 by decide +kernel)), List.forall_mem_cons.mpr ⟨bpat_some (fxr_at hs.2 (show fxk fxl 1 3 = some 5 by decide +kernel)), List.forall_mem_cons.mpr ⟨bpat_some (fxr_at hs.2 (show fxk fxl 1 2 = some 4 by decide +kernel)), List.forall_mem_cons.mpr ⟨bpat_some (fxr_at hs.2 (show fxk fxl 4 1 = some 70 by decide +kernel)), List.forall_mem_cons.mpr ⟨bpat_some (fxr_at hs.2 (show fxk fxl 70 0 = some 71 by decide +kernel)), List.forall_mem_cons.mpr ⟨bpat_some (fxr_at hs.2 (show fxk fxl 0 2 = some 147 by decide +kernel)), List.forall_mem_cons.mpr ⟨bpat_some (fxr_at hs.2 (show fxk fxl 147 0 = some 148 by decide +kernel)), fun q_ hq => absurd hq List.not_mem_nil⟩⟩⟩⟩⟩⟩⟩
  have HC : ∀ q_ ∈ xtz1_C, xhold (xtz1_r v2) q_ := List.forall_mem_cons.mpr ⟨xh_ltT c0_, fun q_ hq => absurd hq List.not_mem_nil⟩
  rcases yrun (yis_ok xtz1_k) hA Hs Ho HC with ⟨q_, hq, h', K_, G_⟩ | ⟨q_, hq, h', K_, G_⟩
  · have e_ := List.mem_singleton.mp hq
    subst e_
    exact ⟨h', yfr_sm K_.2.2.2 hs K_.1 (ywa_s xtz1_w List.mem_cons_self), ⟨bpat_of (K_.2.1 _ List.mem_cons_self), fun a_ j_ n0_ => yfr_bp K_.2.2.2 (List.forall_mem_cons.mpr ⟨fun e_ => n0_ ⟨e_.1.symm, e_.2.symm⟩, fun q_ hq => absurd hq List.not_mem_nil⟩), G_⟩⟩
  · cases hq
-- xtwR: 2 steps, 0 ends, 1 returns
def xtwR_L : List (Nat × Nat × Nat) := []
def xtwR_O : yO := []
def xtwR_A : yA := (yZ xtwR_L, [], [], [], [])
def xtwR_C : List xB := []
def xtwR_ss : List yS := []
def xtwR_rs : List yR := [(some (.int 1), [], [], [])]
theorem xtwR_w : ywa xtwR_A xtwR_ss xtwR_rs = true := by decide +kernel
theorem xtwR_k : yis (yev xtwR_A 3000 60 85 [] (80, [(2, .arg 2), (0, .index 0), (1, .arg 1)], [], xtwR_O, xtwR_C, [])) xtwR_ss xtwR_rs = true := by decide +kernel
def xtwR_r (v1_ v2 : Int32) (k_ : Nat) : Value := bif Nat.beq k_ 1 then .int v1_ else (bif Nat.beq k_ 2 then .int v2 else (.int 0))
def xtwR_s (n_ : Nat) : Nat := 0
theorem xtwR {h_ : xH} {v1_ v2 : Int32} (hs : sHp h_) : ∃ h', ysm h_ h' ∧ (((∀ a_ j_ : Nat, bpat h' a_ j_ = bpat h_ a_ j_) ∧ (∀ D_, 60 ≤ D_ → xrun D_ 85 80 [(2, .int v2), (0, .index 0), (1, .int v1_)] [] h_ (some (.int (1 : Int32)), h', [])))) := by
  have hA : yas xtwR_A (xtwR_r v1_ v2) (yg xtwR_s) := ⟨fun q_ hq => absurd hq List.not_mem_nil, fun q_ hq => absurd hq List.not_mem_nil, fun q_ hq => absurd hq List.not_mem_nil, fun n_ hn => yg_lo hn, fun q_ hq => absurd hq List.not_mem_nil⟩
  have Hs : ysh xtwR_A.1 (yg xtwR_s) h_ := ysh_of2 hs (fun q_ hq => absurd hq List.not_mem_nil)
  have Ho : ymem (xtwR_r v1_ v2) (yg xtwR_s) xtwR_O h_ := fun q_ hq => absurd hq List.not_mem_nil
  have HC : ∀ q_ ∈ xtwR_C, xhold (xtwR_r v1_ v2) q_ := fun q_ hq => absurd hq List.not_mem_nil
  rcases yrun (yis_ok xtwR_k) hA Hs Ho HC with ⟨q_, hq, h', K_, G_⟩ | ⟨q_, hq, h', K_, G_⟩
  · cases hq
  · have e_ := List.mem_singleton.mp hq
    subst e_
    exact ⟨h', yfr_sm K_.2.2.2 hs K_.1 (ywa_r xtwR_w List.mem_cons_self), ⟨fun a_ j_ => yfr_bp K_.2.2.2 (fun q_ hq => absurd hq List.not_mem_nil), G_⟩⟩
def txF : Nat := 1300
def txO (W_ : Nat → List Int32) (V : Nat → Int32) (u_ : Nat) (r_ : Option (Bool × (Nat × List Int32))) : (Nat → List Int32) × (Nat → Int32) × Int32 := match r_ with
  | none => (W_, V, 0)
  | some (true, (a_, c_)) => if a_ = (W_ 20).length then (upR (upR W_ 20 []) (23 + u_) c_, V, 1) else (upR W_ 20 [], V, Int32.ofInt (-10) - Int32.ofNat a_)
  | some (false, (a_, _)) => (upR W_ 20 [], V, Int32.ofInt (-10) - Int32.ofNat a_)
def textF (W_ : Nat → List Int32) (V : Nat → Int32) (z_ : Int32) : (Nat → List Int32) × (Nat → Int32) × Int32 := if 0 ≤ z_.toInt ∧ z_.toInt < 2 then txO W_ V z_.toInt.toNat (prs (W_ 20) z_.toInt.toNat txF 0 0 0 []) else (W_, V, Int32.ofInt (-1000001))
section
variable {W_ : Nat → List Int32} {V : Nat → Int32} {h_ h' : xH}
theorem byt_S (K_ : okS W_ V) : byts (W_ 20) := ⟨K_.1.2.2.2.1.1, fun x_ hx => K_.1.2.2.2.1.2 x_ hx⟩
theorem tx_t (K_ : okS W_ V) (u_ : Nat) : ∃ b_ a_ c_, prs (W_ 20) u_ txF 0 0 0 [] = some (b_, (a_, c_)) := by
  obtain ⟨⟨b_, a_, c_⟩, P_⟩ := prs_t (W_ 20) (byt_S K_).1 u_ txF 0 0 0 [] (Or.inl (by omega)) (Nat.zero_le _) (by rw [prk_l (by omega)]; decide)
  exact ⟨b_, a_, c_, P_⟩
theorem SX_D (H_ : SX W_ V h_) (F_ : frD h_ h') : SX W_ V h' := SX_fr H_ F_.1 (fun c_ j_ hc_ => F_.2 c_ j_ (fun q_ => by rw [q_] at hc_; exact absurd hc_ (by decide)) (fun q_ => by rw [q_] at hc_; exact absurd hc_ (by decide)) (fun q_ => by rw [q_] at hc_; exact absurd hc_ (by decide)))
theorem i10n {a_ : Nat} (h_ : a_ ≤ 1000) : ¬ (Int32.ofNat a_).toInt < (0 : Int32).toInt := by
  rw [i32n (by omega), z0_]
  omega
theorem x_flt0 (K_ : okS W_ V) (H_ : SX W_ V h_) {b_ : Bool} {a_ : Nat} {c_ : List Int32} (P_ : prs (W_ 20) 0 txF 0 0 0 [] = some (b_, (a_, c_))) : ∃ h', (SX W_ V h' ∧ frD h_ h') ∧ (((b_ = true ∧ a_ = (W_ 20).length) ∧ (rwx h' 148 149 60 c_ ∧ ∀ D_, 130 ≤ D_ → xrun D_ 22 0 [(0, .index 147), (1, .index 5), (2, .arg 102)] [] h_ (some (.int (-1)), h', []))) ∨ (¬ (b_ = true ∧ a_ = (W_ 20).length) ∧ ∀ D_, 130 ≤ D_ → xrun D_ 22 0 [(0, .index 147), (1, .index 5), (2, .arg 102)] [] h_ (some (.int (Int32.ofNat a_)), h', []))) := by
  have hT_ := byt_S K_
  have l60 := hT_.1
  have RT := SX_w H_ (show (5, 6, 60, 20) ∈ wrX by decide)
  have pa := (prs_b (W_ 20) 0 txF 0 0 0 [] b_ a_ c_ (Or.inl (by omega)) (Nat.zero_le _) P_).1.2
  obtain ⟨h2, m2_, w1_, w2_, w3_, w4_, f2_, ld2⟩ := xtf0 H_.1
  have F2 : frD h_ h2 := ⟨m2_, fun c_ j_ n1_ n2_ _ => f2_ c_ j_ (by omega) (by omega) (by omega) (by omega)⟩
  have R2 : RX 0 (W_ 20) h2 0 [] := ⟨m2_.1, ⟨⟨bcq_of (n_ := 148) (z_ := (6, 2)) m2_.1 rfl, bcq_of (n_ := 149) (z_ := (20, 60)) m2_.1 rfl⟩, ⟨fxr_at m2_.1.2 (show fxk fxl 148 0 = some 149 by decide +kernel), w1_⟩, Nat.zero_le _, fun j_ y_ hy => absurd hy (by simp)⟩, w2_, w4_, w3_, rwx_keep RT m2_ (fun c_ j_ hc_ => f2_ c_ j_ (by omega) (by omega) (by omega) (by omega))⟩
  obtain ⟨h3, c3_, ⟨⟨R3, F3⟩, ec3⟩, r3⟩ := (rdr (u_ := 0) (by omega) hT_ txF).1 0 0 0 [] b_ a_ c_ h2 (by omega) (by omega) (Nat.zero_le _) (Nat.zero_le _) R2 P_
  have ld3 := ycv (d_ := 126) (mi := 22) (pc := 25) (cm := 25) (lo_ := [(0, .index 147), (1, .index 5), (2, .arg 102)]) (st_ := [.int 0, .int 0, .index 147]) (as_ := [.int 0, .int 0]) (s' := []) rfl rfl (R147 R2) rfl (xcc_l (List.forall_mem_cons.mpr ⟨xidx_i (bcq_lt (bcq_of (n_ := 147) (z_ := (4, 4)) R2.1 rfl)), List.forall_mem_cons.mpr ⟨xidx_i (bcq_lt (bcq_of (n_ := 5) (z_ := (6, 2)) R2.1 rfl)), List.forall_mem_cons.mpr ⟨rfl, fun q_ hq => absurd hq List.not_mem_nil⟩⟩⟩) (fun t_ ht => absurd ht List.not_mem_nil) (Nat.le_of_ble_eq_true rfl)) r3
  cases b_ with
  | false =>
    obtain ⟨h4, m4_, f4_, r4⟩ := xtfo0 (v3 := bI false) (v300 := Int32.ofNat a_) R3.1 R3.2.2.1 rfl
    have F_ := frD_tr F2 (frD_tr F3 (frD_all m4_ f4_))
    exact ⟨h4, ⟨SX_D H_ F_, F_⟩, Or.inr ⟨fun q_ => (by cases q_.1), fun D_ hD => ld2 D_ (by omega) _ (ld3 D_ (by omega) _ (r4 D_ (by omega)))⟩⟩
  | true =>
    have ec3 := ec3 rfl
    subst ec3
    by_cases ga : a_ = (W_ 20).length
    · subst ga
      obtain ⟨h4, m4_, f4_, r4⟩ := xtfe0 (v3 := bI true) (v300 := Int32.ofNat (W_ 20).length) (v301 := Int32.ofNat (W_ 20).length) R3.1 R3.2.2.1 R3.2.2.2.1 R3.2.2.2.2.2.2.1.2 (by decide) rfl
      rw [i32_m1] at r4
      have F_ := frD_tr F2 (frD_tr F3 (frD_all m4_ f4_))
      exact ⟨h4, ⟨SX_D H_ F_, F_⟩, Or.inl ⟨⟨rfl, rfl⟩, rwx_keep R3.2.1 m4_ (fun c_ j_ _ => f4_ c_ j_), fun D_ hD => ld2 D_ (by omega) _ (ld3 D_ (by omega) _ (r4 D_ (by omega)))⟩⟩
    · obtain ⟨h4, m4_, f4_, r4⟩ := xtfn0 (v3 := bI true) (v300 := Int32.ofNat a_) (v301 := Int32.ofNat (W_ 20).length) R3.1 R3.2.2.1 R3.2.2.2.1 R3.2.2.2.2.2.2.1.2 (by decide) (fun q_ => ga (by have q_ := congrArg Int32.toInt q_; rw [i32n (by omega), i32n (by omega)] at q_; omega))
      have F_ := frD_tr F2 (frD_tr F3 (frD_all m4_ f4_))
      exact ⟨h4, ⟨SX_D H_ F_, F_⟩, Or.inr ⟨fun q_ => ga q_.2, fun D_ hD => ld2 D_ (by omega) _ (ld3 D_ (by omega) _ (r4 D_ (by omega)))⟩⟩
theorem x_tx0 (K_ : okS W_ V) (H0 : SX W_ V h_) : ∃ h', ysm h_ h' ∧ (SX (txO W_ V 0 (prs (W_ 20) 0 txF 0 0 0 [])).1 (txO W_ V 0 (prs (W_ 20) 0 txF 0 0 0 [])).2.1 h' ∧ ∀ D_, 140 ≤ D_ → xrun D_ 85 13 [(0, .index 0), (1, .int (0 : Int32))] [] h_ (some (.int (txO W_ V 0 (prs (W_ 20) 0 txF 0 0 0 [])).2.2), h', [])) := by
  obtain ⟨b_, a_, c_, P_⟩ := tx_t K_ 0
  rw [P_]
  have l60 := (byt_S K_).1
  have pa := (prs_b (W_ 20) 0 txF 0 0 0 [] b_ a_ c_ (Or.inl (by omega)) (Nat.zero_le _) P_).1.2
  obtain ⟨h1, m1_, f1_, ld1⟩ := xtx0 H0.1
  have H1_ := SX_fr H0 m1_ (fun c_ j_ _ => f1_ c_ j_)
  obtain ⟨h2, ⟨H2_, F2⟩, e_⟩ := x_flt0 K_ H1_ P_
  have k5_ : (5, 6, 60, 20) ∈ wrX := by decide
  have T2 := SX_w H2_ k5_
  have M2_ := ysm_tr m1_ F2.1
  rcases e_ with ⟨⟨rfl, rfl⟩, RD, r2⟩ | ⟨nb, r2⟩
  · have ld2 := ycv (d_ := 130) (mi := 85) (pc := 35) (cm := 22) (lo_ := [(0, .index 0), (1, .int (0 : Int32))]) (st_ := [.arg 102, .index 5, .index 147]) (as_ := [.index 5, .arg 102]) (s' := []) rfl rfl (bcq_of (n_ := 147) (z_ := (4, 4)) H1_.1 rfl) rfl (xcc_l (List.forall_mem_cons.mpr ⟨xidx_i (bcq_lt (bcq_of (n_ := 0) (z_ := (11, 15)) H1_.1 rfl)), List.forall_mem_cons.mpr ⟨rfl, fun q_ hq => absurd hq List.not_mem_nil⟩⟩) (fun t_ ht => absurd ht List.not_mem_nil) (Nat.le_of_ble_eq_true rfl)) r2
    obtain ⟨h3, m3_, e3_, f3_, ld3⟩ := xtz0 (v2 := -1) H2_.1 (by decide)
    have H3 := SX_r (l := []) H2_ m3_ k5_ (rwx_nil T2 m3_ e3_ (fun j_ n_ => f3_ _ j_ (fun q_ => n_ q_.2))) (fun c2_ j_ _ n1_ _ => f3_ c2_ j_ (fun q_ => n1_ q_.1))
    have kt : (67, 68, 60, 23 + 0) ∈ wrX := by decide
    have RT := SX_w H3 kt
    have R3 := rwx_keep RD m3_ (fun c_ j_ hc_ => f3_ c_ j_ (by omega))
    obtain ⟨h4, S4, R4, m4_, f4_, r4⟩ := copyFrom60 H3.1 RT.1.1 RT.1.2 RT.2.1.1 R3.2.2.1 R3
    have ld4 := ycv (d_ := 60) (mi := 85) (pc := 77) (cm := 39) (lo_ := [(2, .int (-1)), (0, .index 0), (1, .int (0 : Int32))]) (st_ := [.index 148, .index 67]) (as_ := [.index 148]) (s' := []) rfl rfl RT.1.1 rfl (xcc_l (List.forall_mem_cons.mpr ⟨rfl, List.forall_mem_cons.mpr ⟨xidx_i (bcq_lt (bcq_of (n_ := 0) (z_ := (11, 15)) m3_.1 rfl)), List.forall_mem_cons.mpr ⟨rfl, fun q_ hq => absurd hq List.not_mem_nil⟩⟩⟩) (fun t_ ht => absurd ht List.not_mem_nil) (Nat.le_of_ble_eq_true rfl)) r4
    obtain ⟨h5, m5_, f5_, r5_⟩ := xtwR (v1_ := 0) (v2 := -1) S4
    have MM := ysm_tr m4_ m5_
    show ∃ h', ysm h_ h' ∧ (SX (if (W_ 20).length = (W_ 20).length then (upR (upR W_ 20 []) (23 + 0) c_, V, 1) else (upR W_ 20 [], V, Int32.ofInt (-10) - Int32.ofNat (W_ 20).length) : (Nat → List Int32) × (Nat → Int32) × Int32).1 (if (W_ 20).length = (W_ 20).length then (upR (upR W_ 20 []) (23 + 0) c_, V, 1) else (upR W_ 20 [], V, Int32.ofInt (-10) - Int32.ofNat (W_ 20).length) : (Nat → List Int32) × (Nat → Int32) × Int32).2.1 h' ∧ ∀ D_, 140 ≤ D_ → xrun D_ 85 13 [(0, .index 0), (1, .int (0 : Int32))] [] h_ (some (.int (if (W_ 20).length = (W_ 20).length then (upR (upR W_ 20 []) (23 + 0) c_, V, 1) else (upR W_ 20 [], V, Int32.ofInt (-10) - Int32.ofNat (W_ 20).length) : (Nat → List Int32) × (Nat → Int32) × Int32).2.2), h', []))
    rw [if_pos rfl]
    exact ⟨h5, ysm_tr M2_ (ysm_tr m3_ MM), SX_r H3 MM kt (rwx_keep R4 m5_ (fun c_ j_ _ => f5_ c_ j_)) (fun c_ j_ _ n1_ n2_ => (f5_ c_ j_).trans (f4_ c_ j_ n1_ n2_)), fun D_ hD => ld1 D_ (by omega) _ (ld2 D_ (by omega) _ (ld3 D_ (by omega) _ (ld4 D_ (by omega) _ (r5_ D_ (by omega)))))⟩
  · have ld2 := ycv (d_ := 130) (mi := 85) (pc := 35) (cm := 22) (lo_ := [(0, .index 0), (1, .int (0 : Int32))]) (st_ := [.arg 102, .index 5, .index 147]) (as_ := [.index 5, .arg 102]) (s' := []) rfl rfl (bcq_of (n_ := 147) (z_ := (4, 4)) H1_.1 rfl) rfl (xcc_l (List.forall_mem_cons.mpr ⟨xidx_i (bcq_lt (bcq_of (n_ := 0) (z_ := (11, 15)) H1_.1 rfl)), List.forall_mem_cons.mpr ⟨rfl, fun q_ hq => absurd hq List.not_mem_nil⟩⟩) (fun t_ ht => absurd ht List.not_mem_nil) (Nat.le_of_ble_eq_true rfl)) r2
    obtain ⟨h3, m3_, e3_, f3_, r3⟩ := xty0 (v2 := Int32.ofNat a_) H2_.1 (by rw [i32n (by omega), z0_]; omega)
    have H3 := SX_r (l := []) H2_ m3_ k5_ (rwx_nil T2 m3_ e3_ (fun j_ n_ => f3_ _ j_ (fun q_ => n_ q_.2))) (fun c2_ j_ _ n1_ _ => f3_ c2_ j_ (fun q_ => n1_ q_.1))
    have ee : txO W_ V 0 (some (b_, (a_, c_))) = (upR W_ 20 [], V, Int32.ofInt (-10) - Int32.ofNat a_) := by
      cases b_ with
      | false => rfl
      | true => exact if_neg (fun q_ => nb ⟨rfl, q_⟩)
    rw [ee]
    exact ⟨h3, ysm_tr M2_ m3_, H3, fun D_ hD => ld1 D_ (by omega) _ (ld2 D_ (by omega) _ (r3 D_ (by omega)))⟩
theorem x_flt1 (K_ : okS W_ V) (H_ : SX W_ V h_) {b_ : Bool} {a_ : Nat} {c_ : List Int32} (P_ : prs (W_ 20) 1 txF 0 0 0 [] = some (b_, (a_, c_))) : ∃ h', (SX W_ V h' ∧ frD h_ h') ∧ (((b_ = true ∧ a_ = (W_ 20).length) ∧ (rwx h' 148 149 60 c_ ∧ ∀ D_, 130 ≤ D_ → xrun D_ 22 0 [(0, .index 147), (1, .index 5), (2, .arg 103)] [] h_ (some (.int (-1)), h', []))) ∨ (¬ (b_ = true ∧ a_ = (W_ 20).length) ∧ ∀ D_, 130 ≤ D_ → xrun D_ 22 0 [(0, .index 147), (1, .index 5), (2, .arg 103)] [] h_ (some (.int (Int32.ofNat a_)), h', []))) := by
  have hT_ := byt_S K_
  have l60 := hT_.1
  have RT := SX_w H_ (show (5, 6, 60, 20) ∈ wrX by decide)
  have pa := (prs_b (W_ 20) 1 txF 0 0 0 [] b_ a_ c_ (Or.inl (by omega)) (Nat.zero_le _) P_).1.2
  obtain ⟨h2, m2_, w1_, w2_, w3_, w4_, f2_, ld2⟩ := xtf1 H_.1
  have F2 : frD h_ h2 := ⟨m2_, fun c_ j_ n1_ n2_ _ => f2_ c_ j_ (by omega) (by omega) (by omega) (by omega)⟩
  have R2 : RX 1 (W_ 20) h2 0 [] := ⟨m2_.1, ⟨⟨bcq_of (n_ := 148) (z_ := (6, 2)) m2_.1 rfl, bcq_of (n_ := 149) (z_ := (20, 60)) m2_.1 rfl⟩, ⟨fxr_at m2_.1.2 (show fxk fxl 148 0 = some 149 by decide +kernel), w1_⟩, Nat.zero_le _, fun j_ y_ hy => absurd hy (by simp)⟩, w2_, w4_, w3_, rwx_keep RT m2_ (fun c_ j_ hc_ => f2_ c_ j_ (by omega) (by omega) (by omega) (by omega))⟩
  obtain ⟨h3, c3_, ⟨⟨R3, F3⟩, ec3⟩, r3⟩ := (rdr (u_ := 1) (by omega) hT_ txF).1 0 0 0 [] b_ a_ c_ h2 (by omega) (by omega) (Nat.zero_le _) (Nat.zero_le _) R2 P_
  have ld3 := ycv (d_ := 126) (mi := 22) (pc := 25) (cm := 25) (lo_ := [(0, .index 147), (1, .index 5), (2, .arg 103)]) (st_ := [.int 0, .int 0, .index 147]) (as_ := [.int 0, .int 0]) (s' := []) rfl rfl (R147 R2) rfl (xcc_l (List.forall_mem_cons.mpr ⟨xidx_i (bcq_lt (bcq_of (n_ := 147) (z_ := (4, 4)) R2.1 rfl)), List.forall_mem_cons.mpr ⟨xidx_i (bcq_lt (bcq_of (n_ := 5) (z_ := (6, 2)) R2.1 rfl)), List.forall_mem_cons.mpr ⟨rfl, fun q_ hq => absurd hq List.not_mem_nil⟩⟩⟩) (fun t_ ht => absurd ht List.not_mem_nil) (Nat.le_of_ble_eq_true rfl)) r3
  cases b_ with
  | false =>
    obtain ⟨h4, m4_, f4_, r4⟩ := xtfo1 (v3 := bI false) (v300 := Int32.ofNat a_) R3.1 R3.2.2.1 rfl
    have F_ := frD_tr F2 (frD_tr F3 (frD_all m4_ f4_))
    exact ⟨h4, ⟨SX_D H_ F_, F_⟩, Or.inr ⟨fun q_ => (by cases q_.1), fun D_ hD => ld2 D_ (by omega) _ (ld3 D_ (by omega) _ (r4 D_ (by omega)))⟩⟩
  | true =>
    have ec3 := ec3 rfl
    subst ec3
    by_cases ga : a_ = (W_ 20).length
    · subst ga
      obtain ⟨h4, m4_, f4_, r4⟩ := xtfe1 (v3 := bI true) (v300 := Int32.ofNat (W_ 20).length) (v301 := Int32.ofNat (W_ 20).length) R3.1 R3.2.2.1 R3.2.2.2.1 R3.2.2.2.2.2.2.1.2 (by decide) rfl
      rw [i32_m1] at r4
      have F_ := frD_tr F2 (frD_tr F3 (frD_all m4_ f4_))
      exact ⟨h4, ⟨SX_D H_ F_, F_⟩, Or.inl ⟨⟨rfl, rfl⟩, rwx_keep R3.2.1 m4_ (fun c_ j_ _ => f4_ c_ j_), fun D_ hD => ld2 D_ (by omega) _ (ld3 D_ (by omega) _ (r4 D_ (by omega)))⟩⟩
    · obtain ⟨h4, m4_, f4_, r4⟩ := xtfn1 (v3 := bI true) (v300 := Int32.ofNat a_) (v301 := Int32.ofNat (W_ 20).length) R3.1 R3.2.2.1 R3.2.2.2.1 R3.2.2.2.2.2.2.1.2 (by decide) (fun q_ => ga (by have q_ := congrArg Int32.toInt q_; rw [i32n (by omega), i32n (by omega)] at q_; omega))
      have F_ := frD_tr F2 (frD_tr F3 (frD_all m4_ f4_))
      exact ⟨h4, ⟨SX_D H_ F_, F_⟩, Or.inr ⟨fun q_ => ga q_.2, fun D_ hD => ld2 D_ (by omega) _ (ld3 D_ (by omega) _ (r4 D_ (by omega)))⟩⟩
theorem x_tx1 (K_ : okS W_ V) (H0 : SX W_ V h_) : ∃ h', ysm h_ h' ∧ (SX (txO W_ V 1 (prs (W_ 20) 1 txF 0 0 0 [])).1 (txO W_ V 1 (prs (W_ 20) 1 txF 0 0 0 [])).2.1 h' ∧ ∀ D_, 140 ≤ D_ → xrun D_ 85 13 [(0, .index 0), (1, .int (1 : Int32))] [] h_ (some (.int (txO W_ V 1 (prs (W_ 20) 1 txF 0 0 0 [])).2.2), h', [])) := by
  obtain ⟨b_, a_, c_, P_⟩ := tx_t K_ 1
  rw [P_]
  have l60 := (byt_S K_).1
  have pa := (prs_b (W_ 20) 1 txF 0 0 0 [] b_ a_ c_ (Or.inl (by omega)) (Nat.zero_le _) P_).1.2
  obtain ⟨h1, m1_, f1_, ld1⟩ := xtx1 H0.1
  have H1_ := SX_fr H0 m1_ (fun c_ j_ _ => f1_ c_ j_)
  obtain ⟨h2, ⟨H2_, F2⟩, e_⟩ := x_flt1 K_ H1_ P_
  have k5_ : (5, 6, 60, 20) ∈ wrX := by decide
  have T2 := SX_w H2_ k5_
  have M2_ := ysm_tr m1_ F2.1
  rcases e_ with ⟨⟨rfl, rfl⟩, RD, r2⟩ | ⟨nb, r2⟩
  · have ld2 := ycv (d_ := 130) (mi := 85) (pc := 35) (cm := 22) (lo_ := [(0, .index 0), (1, .int (1 : Int32))]) (st_ := [.arg 103, .index 5, .index 147]) (as_ := [.index 5, .arg 103]) (s' := []) rfl rfl (bcq_of (n_ := 147) (z_ := (4, 4)) H1_.1 rfl) rfl (xcc_l (List.forall_mem_cons.mpr ⟨xidx_i (bcq_lt (bcq_of (n_ := 0) (z_ := (11, 15)) H1_.1 rfl)), List.forall_mem_cons.mpr ⟨rfl, fun q_ hq => absurd hq List.not_mem_nil⟩⟩) (fun t_ ht => absurd ht List.not_mem_nil) (Nat.le_of_ble_eq_true rfl)) r2
    obtain ⟨h3, m3_, e3_, f3_, ld3⟩ := xtz1 (v2 := -1) H2_.1 (by decide)
    have H3 := SX_r (l := []) H2_ m3_ k5_ (rwx_nil T2 m3_ e3_ (fun j_ n_ => f3_ _ j_ (fun q_ => n_ q_.2))) (fun c2_ j_ _ n1_ _ => f3_ c2_ j_ (fun q_ => n1_ q_.1))
    have kt : (71, 72, 60, 23 + 1) ∈ wrX := by decide
    have RT := SX_w H3 kt
    have R3 := rwx_keep RD m3_ (fun c_ j_ hc_ => f3_ c_ j_ (by omega))
    obtain ⟨h4, S4, R4, m4_, f4_, r4⟩ := copyFrom60 H3.1 RT.1.1 RT.1.2 RT.2.1.1 R3.2.2.1 R3
    have ld4 := ycv (d_ := 60) (mi := 85) (pc := 77) (cm := 39) (lo_ := [(2, .int (-1)), (0, .index 0), (1, .int (1 : Int32))]) (st_ := [.index 148, .index 71]) (as_ := [.index 148]) (s' := []) rfl rfl RT.1.1 rfl (xcc_l (List.forall_mem_cons.mpr ⟨rfl, List.forall_mem_cons.mpr ⟨xidx_i (bcq_lt (bcq_of (n_ := 0) (z_ := (11, 15)) m3_.1 rfl)), List.forall_mem_cons.mpr ⟨rfl, fun q_ hq => absurd hq List.not_mem_nil⟩⟩⟩) (fun t_ ht => absurd ht List.not_mem_nil) (Nat.le_of_ble_eq_true rfl)) r4
    obtain ⟨h5, m5_, f5_, r5_⟩ := xtwR (v1_ := 1) (v2 := -1) S4
    have MM := ysm_tr m4_ m5_
    show ∃ h', ysm h_ h' ∧ (SX (if (W_ 20).length = (W_ 20).length then (upR (upR W_ 20 []) (23 + 1) c_, V, 1) else (upR W_ 20 [], V, Int32.ofInt (-10) - Int32.ofNat (W_ 20).length) : (Nat → List Int32) × (Nat → Int32) × Int32).1 (if (W_ 20).length = (W_ 20).length then (upR (upR W_ 20 []) (23 + 1) c_, V, 1) else (upR W_ 20 [], V, Int32.ofInt (-10) - Int32.ofNat (W_ 20).length) : (Nat → List Int32) × (Nat → Int32) × Int32).2.1 h' ∧ ∀ D_, 140 ≤ D_ → xrun D_ 85 13 [(0, .index 0), (1, .int (1 : Int32))] [] h_ (some (.int (if (W_ 20).length = (W_ 20).length then (upR (upR W_ 20 []) (23 + 1) c_, V, 1) else (upR W_ 20 [], V, Int32.ofInt (-10) - Int32.ofNat (W_ 20).length) : (Nat → List Int32) × (Nat → Int32) × Int32).2.2), h', []))
    rw [if_pos rfl]
    exact ⟨h5, ysm_tr M2_ (ysm_tr m3_ MM), SX_r H3 MM kt (rwx_keep R4 m5_ (fun c_ j_ _ => f5_ c_ j_)) (fun c_ j_ _ n1_ n2_ => (f5_ c_ j_).trans (f4_ c_ j_ n1_ n2_)), fun D_ hD => ld1 D_ (by omega) _ (ld2 D_ (by omega) _ (ld3 D_ (by omega) _ (ld4 D_ (by omega) _ (r5_ D_ (by omega)))))⟩
  · have ld2 := ycv (d_ := 130) (mi := 85) (pc := 35) (cm := 22) (lo_ := [(0, .index 0), (1, .int (1 : Int32))]) (st_ := [.arg 103, .index 5, .index 147]) (as_ := [.index 5, .arg 103]) (s' := []) rfl rfl (bcq_of (n_ := 147) (z_ := (4, 4)) H1_.1 rfl) rfl (xcc_l (List.forall_mem_cons.mpr ⟨xidx_i (bcq_lt (bcq_of (n_ := 0) (z_ := (11, 15)) H1_.1 rfl)), List.forall_mem_cons.mpr ⟨rfl, fun q_ hq => absurd hq List.not_mem_nil⟩⟩) (fun t_ ht => absurd ht List.not_mem_nil) (Nat.le_of_ble_eq_true rfl)) r2
    obtain ⟨h3, m3_, e3_, f3_, r3⟩ := xty1 (v2 := Int32.ofNat a_) H2_.1 (by rw [i32n (by omega), z0_]; omega)
    have H3 := SX_r (l := []) H2_ m3_ k5_ (rwx_nil T2 m3_ e3_ (fun j_ n_ => f3_ _ j_ (fun q_ => n_ q_.2))) (fun c2_ j_ _ n1_ _ => f3_ c2_ j_ (fun q_ => n1_ q_.1))
    have ee : txO W_ V 1 (some (b_, (a_, c_))) = (upR W_ 20 [], V, Int32.ofInt (-10) - Int32.ofNat a_) := by
      cases b_ with
      | false => rfl
      | true => exact if_neg (fun q_ => nb ⟨rfl, q_⟩)
    rw [ee]
    exact ⟨h3, ysm_tr M2_ m3_, H3, fun D_ hD => ld1 D_ (by omega) _ (ld2 D_ (by omega) _ (r3 D_ (by omega)))⟩
end
theorem x_text {W_ : Nat → List Int32} {V : Nat → Int32} {h_ : xH} {z_ : Int32} (B_ : bInv bZ bIj h_) (K_ : okS W_ V) (H_ : SX W_ V h_) : ∃ h', ysm h_ h' ∧ (SX (textF W_ V z_).1 (textF W_ V z_).2.1 h' ∧ ∀ D_, 142 ≤ D_ → xrun D_ 85 0 [(0, .index 0), (1, .int z_)] [] h_ (some (.int (textF W_ V z_).2.2), h', [])) := by
  obtain ⟨y_, oy⟩ := xerr (k_ := 1) B_ (by omega)
  have zz := z0_
  have z2 := i2_
  unfold textF
  obtain ⟨h0, m0_, e_⟩ := xtwE (v1_ := z_) H_.1 oy
  rcases e_ with ⟨g1, g2, f_, r_⟩ | ⟨g1, w0_, f_, r_⟩ | ⟨g1, g2, w0_, f_, r_⟩
  rotate_left
  · rw [if_neg (fun q_ => by omega)]; exact ⟨h0, m0_, SX_e H_ m0_ f_, fun D_ hD => r_ D_ (by omega)⟩
  · rw [if_neg (fun q_ => by omega)]; exact ⟨h0, m0_, SX_e H_ m0_ f_, fun D_ hD => r_ D_ (by omega)⟩
  have H0 := SX_fr H_ m0_ (fun c_ j_ _ => f_ c_ j_)
  rw [if_pos ⟨by omega, by omega⟩]
  have cz : z_ = 0 ∨ z_ = 1 := by
    have z1 : (1 : Int32).toInt = 1 := rfl
    by_cases g0 : z_.toInt = 0
    · exact Or.inl (Int32.toInt_inj.mp (by omega))
    · exact Or.inr (Int32.toInt_inj.mp (by omega))
  rcases cz with rfl | rfl
  · obtain ⟨h1, m1_, S_, r1_⟩ := x_tx0 K_ H0
    exact ⟨h1, ysm_tr m0_ m1_, S_, fun D_ hD => r_ D_ (by omega) _ (r1_ D_ (by omega))⟩
  · obtain ⟨h1, m1_, S_, r1_⟩ := x_tx1 K_ H0
    exact ⟨h1, ysm_tr m0_ m1_, S_, fun D_ hD => r_ D_ (by omega) _ (r1_ D_ (by omega))⟩
