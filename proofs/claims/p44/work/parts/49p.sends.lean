-- ===== calls, by what is known of them
theorem bcq_lt {h_ : xH} {a_ k_ l : Nat} (H_ : bcq h_ a_ k_ l) : a_ < h_.length := by
  obtain ⟨c_, c1_, -⟩ := H_
  exact (List.getElem?_eq_some_iff.mp c1_).1
theorem xidx_i {n_ a_ : Nat} (h_ : a_ < n_) : xidx n_ (.index a_) = true := Nat.ble_eq_true_of_le h_
theorem xcc_l {n_ : Nat} {lo_ : xL} {s_ : List Jvm.Term} (h1 : ∀ q_ ∈ lo_, xidx n_ q_.2 = true) (h2 : ∀ t_ ∈ s_, xidx n_ t_ = true ∧ xG t_ = false) (h3 : s_.length ≤ 6) : xcc n_ lo_ s_ = true := by
  unfold xcc
  simp only [Bool.and_eq_true]
  refine ⟨Nat.ble_eq_true_of_le h3, List.all_eq_true.mpr (fun t_ ht => ?_), List.all_eq_true.mpr h1, List.all_eq_true.mpr (fun t_ ht => (h2 t_ ht).1)⟩
  rw [(h2 t_ ht).2]
  rfl
theorem ycv {mi pc cm idx ln p0_ a1_ b1 d1_ d_ a_ k_ l : Nat} {lo_ : xL} {st_ as_ s' : List Jvm.Term} {h_ h1 : xH} {v_ : Option Jvm.Term} (hcd : xcd mi pc = some (.invokevirtual idx, ln, [p0_, cm, a1_, b1, d1_])) (htk : xtk (xn cm) st_ [] = some (as_, .index a_ :: s')) (hb_ : bcq h_ a_ k_ l) (hk : (Nat.beq k_ (xo cm) && (Nat.ble k_ 12 && Nat.ble (xasz (.index a_ :: as_)) (xm cm))) = true) (hcc : xcc h_.length lo_ s' = true) (H_ : ∀ D_, d_ ≤ D_ → xrun D_ cm 0 (xal 0 (.index a_ :: as_)) [] h_ (v_, h1, [])) : bldD (d_ + 1) mi pc lo_ st_ h_ (pc + 3) lo_ (xpr v_ s') h1 := by
  obtain ⟨c_, c1_, c2_, -⟩ := hb_
  intro D_ hD o z_
  obtain ⟨D', rfl⟩ : ∃ D', D_ = D' + 1 := ⟨D_ - 1, by omega⟩
  simp only [Bool.and_eq_true] at hk
  refine xrun_virtual hcd htk c1_ ?_ (H_ D' (by omega)) z_
  simp only [Bool.and_eq_true]
  rw [c2_]
  exact ⟨hk.1, hk.2.1, hk.2.2, hcc⟩
theorem ycs {mi pc cm idx ln p0_ a1_ b1 d_ : Nat} {lo_ : xL} {st_ as_ s' : List Jvm.Term} {h_ h1 : xH} {v_ : Option Jvm.Term} (hcd : xcd mi pc = some (.invokestatic idx, ln, [p0_, cm, a1_, b1])) (htk : xtk (xn cm) st_ [] = some (as_, s')) (hk : Nat.ble (xasz as_) (xm cm) = true) (hcc : xcc h_.length lo_ s' = true) (H_ : ∀ D_, d_ ≤ D_ → xrun D_ cm 0 (xal 0 as_) [] h_ (v_, h1, [])) : bldD (d_ + 1) mi pc lo_ st_ h_ (pc + 3) lo_ (xpr v_ s') h1 := by
  intro D_ hD o z_
  obtain ⟨D', rfl⟩ : ∃ D', D_ = D' + 1 := ⟨D_ - 1, by omega⟩
  refine xrun_static hcd htk ?_ (H_ D' (by omega)) z_
  simp only [Bool.and_eq_true]
  exact ⟨hk, hcc⟩
theorem bldD_le {d_ d' mi pc pc' : Nat} {lo_ lo' : xL} {st_ st' : List Jvm.Term} {h_ h' : xH} (l : d_ ≤ d') (H_ : bldD d_ mi pc lo_ st_ h_ pc' lo' st' h') : bldD d' mi pc lo_ st_ h_ pc' lo' st' h' := fun D_ hD => H_ D_ (by omega)
theorem bldD_tr {d_ d1_ d2_ mi pc pc1 pc2 : Nat} {lo_ lo1 lo2 : xL} {st_ st1 st2 : List Jvm.Term} {h_ h1 h2 : xH} (l1 : d1_ ≤ d_) (l2 : d2_ ≤ d_) (H1_ : bldD d1_ mi pc lo_ st_ h_ pc1 lo1 st1 h1) (H2_ : bldD d2_ mi pc1 lo1 st1 h1 pc2 lo2 st2 h2) : bldD d_ mi pc lo_ st_ h_ pc2 lo2 st2 h2 := fun D_ hD o z_ => H1_ D_ (by omega) o (H2_ D_ (by omega) o z_)
theorem frb_fr {b_ : Nat} (a_ : Nat) {h_ h' : xH} (H_ : frb b_ h_ h') : frr a_ b_ h_ h' := ⟨H_.1, fun c_ j_ _ n_ => H_.2 c_ j_ n_⟩
theorem frr_tr {a_ b_ : Nat} {x_ y_ z_ : xH} (h1 : frr a_ b_ x_ y_) (h2 : frr a_ b_ y_ z_) : frr a_ b_ x_ z_ := ⟨ysm_tr h1.1 h2.1, fun c_ j_ n1_ n2_ => (h2.2 c_ j_ n1_ n2_).trans (h1.2 c_ j_ n1_ n2_)⟩
theorem frr_all {a_ b_ : Nat} {h_ h' : xH} (m_ : ysm h_ h') (f_ : ∀ c_ j_, bpat h' c_ j_ = bpat h_ c_ j_) : frr a_ b_ h_ h' := ⟨m_, fun c_ j_ _ _ => f_ c_ j_⟩
theorem rW_all {a_ b_ : Nat} {h_ h' : xH} {l : List Int32} (R_ : rW a_ b_ h_ l) (m_ : ysm h_ h') (f_ : ∀ c_ j_, bpat h' c_ j_ = bpat h_ c_ j_) : rW a_ b_ h' l := ⟨m_.1, rwx_keep R_.2.1 m_ (fun c_ j_ _ => f_ c_ j_), R_.2.2⟩
theorem rM_all {b_ : Nat} {h_ h' : xH} {l : List Int32} (R_ : rM b_ h_ l) (m_ : ysm h_ h') (f_ : ∀ c_ j_, bpat h' c_ j_ = bpat h_ c_ j_) : rM b_ h' l := ⟨m_.1, rwm_keep R_.2.1 m_ (fun j_ _ _ => f_ b_ j_), R_.2.2⟩
-- ===== the class: sendBack, by KINDS
-- esb0: 4 steps, 0 ends, 1 returns
def esb0_L : List (Nat × Nat × Nat) := [(1000, 6, 2), (1002, 5, 3), (1003, 10, 15)]
def esb0_O : yO := [(1002, .int 0, .int 0)]
def esb0_A : yA := (yZ esb0_L, [], [], [], [])
def esb0_C : List xB := []
def esb0_ss : List yS := []
def esb0_rs : List yR := [(none, [(1002, .int 0, .int 0)], [], [])]
theorem esb0_w : ywa esb0_A esb0_ss esb0_rs = true := by decide +kernel
theorem esb0_k : yis (yev esb0_A 3000 60 66 [] (0, [(0, .index 1003), (1, .index 1002), (2, .index 1000)], [], esb0_O, esb0_C, [])) esb0_ss esb0_rs = true := by decide +kernel
def esb0_r (k_ : Nat) : Value := .int 0
def esb0_s (a1000 a1002 a1003 : Nat) (n_ : Nat) : Nat := bif Nat.beq n_ 1000 then a1000 else (bif Nat.beq n_ 1002 then a1002 else (bif Nat.beq n_ 1003 then a1003 else (0)))
theorem esb0 {h_ : xH} {a1000 a1002 a1003 : Nat} (hs : sHp h_) (k1000 : bcq h_ a1000 6 2) (k1002 : bcq h_ a1002 5 3) (k1003 : bcq h_ a1003 10 15) (o0_ : bpat h_ a1002 0 = some (.int (0 : Int32))) : ∃ h', ysm h_ h' ∧ (((∀ a_ j_ : Nat, bpat h' a_ j_ = bpat h_ a_ j_) ∧ (∀ D_, 60 ≤ D_ → xrun D_ 66 0 [(0, .index a1003), (1, .index a1002), (2, .index a1000)] [] h_ (none, h', [])))) := by
  have hA : yas esb0_A esb0_r (yg (esb0_s a1000 a1002 a1003)) := ⟨fun q_ hq => absurd hq List.not_mem_nil, fun q_ hq => absurd hq List.not_mem_nil, fun q_ hq => absurd hq List.not_mem_nil, fun n_ hn => yg_lo hn, fun q_ hq => absurd hq List.not_mem_nil⟩
  have Hs : ysh esb0_A.1 (yg (esb0_s a1000 a1002 a1003)) h_ := ysh_of2 hs (List.forall_mem_cons.mpr ⟨⟨by decide, k1000⟩, List.forall_mem_cons.mpr ⟨⟨by decide, k1002⟩, List.forall_mem_cons.mpr ⟨⟨by decide, k1003⟩, fun q_ hq => absurd hq List.not_mem_nil⟩⟩⟩)
  have Ho : ymem esb0_r (yg (esb0_s a1000 a1002 a1003)) esb0_O h_ := List.forall_mem_cons.mpr ⟨bpat_some o0_, fun q_ hq => absurd hq List.not_mem_nil⟩
  have HC : ∀ q_ ∈ esb0_C, xhold esb0_r q_ := fun q_ hq => absurd hq List.not_mem_nil
  rcases yrun (yis_ok esb0_k) hA Hs Ho HC with ⟨q_, hq, h', K_, G_⟩ | ⟨q_, hq, h', K_, G_⟩
  · cases hq
  · have e_ := List.mem_singleton.mp hq
    subst e_
    exact ⟨h', yfr_sm K_.2.2.2 hs K_.1 (ywa_r esb0_w List.mem_cons_self), ⟨fun a_ j_ => yfr_bp K_.2.2.2 (fun q_ hq => absurd hq List.not_mem_nil), G_⟩⟩
-- esb1: 5 steps, 1 ends, 0 returns
def esb1_L : List (Nat × Nat × Nat) := [(1000, 6, 2), (1002, 5, 3), (1003, 10, 15)]
def esb1_O : yO := [(1002, .int 0, .int 1)]
def esb1_A : yA := (yZ esb1_L, [], [], [], [])
def esb1_C : List xB := []
def esb1_ss : List yS := [(46, [(0, .index 1003), (1, .index 1002), (2, .index 1000)], [.int 0, .index 1000], [(1002, .int 0, .int 1)], [], [])]
def esb1_rs : List yR := []
theorem esb1_w : ywa esb1_A esb1_ss esb1_rs = true := by decide +kernel
theorem esb1_k : yis (yev esb1_A 3000 60 66 [46] (0, [(0, .index 1003), (1, .index 1002), (2, .index 1000)], [], esb1_O, esb1_C, [])) esb1_ss esb1_rs = true := by decide +kernel
def esb1_r (k_ : Nat) : Value := .int 0
def esb1_s (a1000 a1002 a1003 : Nat) (n_ : Nat) : Nat := bif Nat.beq n_ 1000 then a1000 else (bif Nat.beq n_ 1002 then a1002 else (bif Nat.beq n_ 1003 then a1003 else (0)))
theorem esb1 {h_ : xH} {a1000 a1002 a1003 : Nat} (hs : sHp h_) (k1000 : bcq h_ a1000 6 2) (k1002 : bcq h_ a1002 5 3) (k1003 : bcq h_ a1003 10 15) (o0_ : bpat h_ a1002 0 = some (.int (1 : Int32))) : ∃ h', ysm h_ h' ∧ (((∀ a_ j_ : Nat, bpat h' a_ j_ = bpat h_ a_ j_) ∧ (bldD 60 66 0 [(0, .index a1003), (1, .index a1002), (2, .index a1000)] [] h_ 46 [(0, .index a1003), (1, .index a1002), (2, .index a1000)] [.int (0 : Int32), .index a1000] h'))) := by
  have hA : yas esb1_A esb1_r (yg (esb1_s a1000 a1002 a1003)) := ⟨fun q_ hq => absurd hq List.not_mem_nil, fun q_ hq => absurd hq List.not_mem_nil, fun q_ hq => absurd hq List.not_mem_nil, fun n_ hn => yg_lo hn, fun q_ hq => absurd hq List.not_mem_nil⟩
  have Hs : ysh esb1_A.1 (yg (esb1_s a1000 a1002 a1003)) h_ := ysh_of2 hs (List.forall_mem_cons.mpr ⟨⟨by decide, k1000⟩, List.forall_mem_cons.mpr ⟨⟨by decide, k1002⟩, List.forall_mem_cons.mpr ⟨⟨by decide, k1003⟩, fun q_ hq => absurd hq List.not_mem_nil⟩⟩⟩)
  have Ho : ymem esb1_r (yg (esb1_s a1000 a1002 a1003)) esb1_O h_ := List.forall_mem_cons.mpr ⟨bpat_some o0_, fun q_ hq => absurd hq List.not_mem_nil⟩
  have HC : ∀ q_ ∈ esb1_C, xhold esb1_r q_ := fun q_ hq => absurd hq List.not_mem_nil
  rcases yrun (yis_ok esb1_k) hA Hs Ho HC with ⟨q_, hq, h', K_, G_⟩ | ⟨q_, hq, h', K_, G_⟩
  · have e_ := List.mem_singleton.mp hq
    subst e_
    exact ⟨h', yfr_sm K_.2.2.2 hs K_.1 (ywa_s esb1_w List.mem_cons_self), ⟨fun a_ j_ => yfr_bp K_.2.2.2 (fun q_ hq => absurd hq List.not_mem_nil), G_⟩⟩
  · cases hq
-- esb2: 5 steps, 1 ends, 0 returns
def esb2_L : List (Nat × Nat × Nat) := [(1000, 6, 2), (1002, 5, 3), (1003, 10, 15)]
def esb2_O : yO := [(1002, .int 0, .int 2)]
def esb2_A : yA := (yZ esb2_L, [], [], [], [])
def esb2_C : List xB := []
def esb2_ss : List yS := [(54, [(0, .index 1003), (1, .index 1002), (2, .index 1000)], [.int 1, .index 1000], [(1002, .int 0, .int 2)], [], [])]
def esb2_rs : List yR := []
theorem esb2_w : ywa esb2_A esb2_ss esb2_rs = true := by decide +kernel
theorem esb2_k : yis (yev esb2_A 3000 60 66 [54] (0, [(0, .index 1003), (1, .index 1002), (2, .index 1000)], [], esb2_O, esb2_C, [])) esb2_ss esb2_rs = true := by decide +kernel
def esb2_r (k_ : Nat) : Value := .int 0
def esb2_s (a1000 a1002 a1003 : Nat) (n_ : Nat) : Nat := bif Nat.beq n_ 1000 then a1000 else (bif Nat.beq n_ 1002 then a1002 else (bif Nat.beq n_ 1003 then a1003 else (0)))
theorem esb2 {h_ : xH} {a1000 a1002 a1003 : Nat} (hs : sHp h_) (k1000 : bcq h_ a1000 6 2) (k1002 : bcq h_ a1002 5 3) (k1003 : bcq h_ a1003 10 15) (o0_ : bpat h_ a1002 0 = some (.int (2 : Int32))) : ∃ h', ysm h_ h' ∧ (((∀ a_ j_ : Nat, bpat h' a_ j_ = bpat h_ a_ j_) ∧ (bldD 60 66 0 [(0, .index a1003), (1, .index a1002), (2, .index a1000)] [] h_ 54 [(0, .index a1003), (1, .index a1002), (2, .index a1000)] [.int (1 : Int32), .index a1000] h'))) := by
  have hA : yas esb2_A esb2_r (yg (esb2_s a1000 a1002 a1003)) := ⟨fun q_ hq => absurd hq List.not_mem_nil, fun q_ hq => absurd hq List.not_mem_nil, fun q_ hq => absurd hq List.not_mem_nil, fun n_ hn => yg_lo hn, fun q_ hq => absurd hq List.not_mem_nil⟩
  have Hs : ysh esb2_A.1 (yg (esb2_s a1000 a1002 a1003)) h_ := ysh_of2 hs (List.forall_mem_cons.mpr ⟨⟨by decide, k1000⟩, List.forall_mem_cons.mpr ⟨⟨by decide, k1002⟩, List.forall_mem_cons.mpr ⟨⟨by decide, k1003⟩, fun q_ hq => absurd hq List.not_mem_nil⟩⟩⟩)
  have Ho : ymem esb2_r (yg (esb2_s a1000 a1002 a1003)) esb2_O h_ := List.forall_mem_cons.mpr ⟨bpat_some o0_, fun q_ hq => absurd hq List.not_mem_nil⟩
  have HC : ∀ q_ ∈ esb2_C, xhold esb2_r q_ := fun q_ hq => absurd hq List.not_mem_nil
  rcases yrun (yis_ok esb2_k) hA Hs Ho HC with ⟨q_, hq, h', K_, G_⟩ | ⟨q_, hq, h', K_, G_⟩
  · have e_ := List.mem_singleton.mp hq
    subst e_
    exact ⟨h', yfr_sm K_.2.2.2 hs K_.1 (ywa_s esb2_w List.mem_cons_self), ⟨fun a_ j_ => yfr_bp K_.2.2.2 (fun q_ hq => absurd hq List.not_mem_nil), G_⟩⟩
  · cases hq
-- esb3: 4 steps, 1 ends, 0 returns
def esb3_L : List (Nat × Nat × Nat) := [(1000, 6, 2), (1002, 5, 3), (1003, 10, 15)]
def esb3_O : yO := [(1002, .int 0, .int 3)]
def esb3_A : yA := (yZ esb3_L, [], [], [], [])
def esb3_C : List xB := []
def esb3_ss : List yS := [(61, [(0, .index 1003), (1, .index 1002), (2, .index 1000)], [.index 1000], [(1002, .int 0, .int 3)], [], [])]
def esb3_rs : List yR := []
theorem esb3_w : ywa esb3_A esb3_ss esb3_rs = true := by decide +kernel
theorem esb3_k : yis (yev esb3_A 3000 60 66 [61] (0, [(0, .index 1003), (1, .index 1002), (2, .index 1000)], [], esb3_O, esb3_C, [])) esb3_ss esb3_rs = true := by decide +kernel
def esb3_r (k_ : Nat) : Value := .int 0
def esb3_s (a1000 a1002 a1003 : Nat) (n_ : Nat) : Nat := bif Nat.beq n_ 1000 then a1000 else (bif Nat.beq n_ 1002 then a1002 else (bif Nat.beq n_ 1003 then a1003 else (0)))
theorem esb3 {h_ : xH} {a1000 a1002 a1003 : Nat} (hs : sHp h_) (k1000 : bcq h_ a1000 6 2) (k1002 : bcq h_ a1002 5 3) (k1003 : bcq h_ a1003 10 15) (o0_ : bpat h_ a1002 0 = some (.int (3 : Int32))) : ∃ h', ysm h_ h' ∧ (((∀ a_ j_ : Nat, bpat h' a_ j_ = bpat h_ a_ j_) ∧ (bldD 60 66 0 [(0, .index a1003), (1, .index a1002), (2, .index a1000)] [] h_ 61 [(0, .index a1003), (1, .index a1002), (2, .index a1000)] [.index a1000] h'))) := by
  have hA : yas esb3_A esb3_r (yg (esb3_s a1000 a1002 a1003)) := ⟨fun q_ hq => absurd hq List.not_mem_nil, fun q_ hq => absurd hq List.not_mem_nil, fun q_ hq => absurd hq List.not_mem_nil, fun n_ hn => yg_lo hn, fun q_ hq => absurd hq List.not_mem_nil⟩
  have Hs : ysh esb3_A.1 (yg (esb3_s a1000 a1002 a1003)) h_ := ysh_of2 hs (List.forall_mem_cons.mpr ⟨⟨by decide, k1000⟩, List.forall_mem_cons.mpr ⟨⟨by decide, k1002⟩, List.forall_mem_cons.mpr ⟨⟨by decide, k1003⟩, fun q_ hq => absurd hq List.not_mem_nil⟩⟩⟩)
  have Ho : ymem esb3_r (yg (esb3_s a1000 a1002 a1003)) esb3_O h_ := List.forall_mem_cons.mpr ⟨bpat_some o0_, fun q_ hq => absurd hq List.not_mem_nil⟩
  have HC : ∀ q_ ∈ esb3_C, xhold esb3_r q_ := fun q_ hq => absurd hq List.not_mem_nil
  rcases yrun (yis_ok esb3_k) hA Hs Ho HC with ⟨q_, hq, h', K_, G_⟩ | ⟨q_, hq, h', K_, G_⟩
  · have e_ := List.mem_singleton.mp hq
    subst e_
    exact ⟨h', yfr_sm K_.2.2.2 hs K_.1 (ywa_s esb3_w List.mem_cons_self), ⟨fun a_ j_ => yfr_bp K_.2.2.2 (fun q_ hq => absurd hq List.not_mem_nil), G_⟩⟩
  · cases hq
-- esb4: 4 steps, 1 ends, 0 returns
def esb4_L : List (Nat × Nat × Nat) := [(1000, 6, 2), (1002, 5, 3), (1003, 10, 15)]
def esb4_O : yO := [(1002, .int 0, .int 4)]
def esb4_A : yA := (yZ esb4_L, [], [], [], [])
def esb4_C : List xB := []
def esb4_ss : List yS := [(68, [(0, .index 1003), (1, .index 1002), (2, .index 1000)], [.index 1000], [(1002, .int 0, .int 4)], [], [])]
def esb4_rs : List yR := []
theorem esb4_w : ywa esb4_A esb4_ss esb4_rs = true := by decide +kernel
theorem esb4_k : yis (yev esb4_A 3000 60 66 [68] (0, [(0, .index 1003), (1, .index 1002), (2, .index 1000)], [], esb4_O, esb4_C, [])) esb4_ss esb4_rs = true := by decide +kernel
def esb4_r (k_ : Nat) : Value := .int 0
def esb4_s (a1000 a1002 a1003 : Nat) (n_ : Nat) : Nat := bif Nat.beq n_ 1000 then a1000 else (bif Nat.beq n_ 1002 then a1002 else (bif Nat.beq n_ 1003 then a1003 else (0)))
theorem esb4 {h_ : xH} {a1000 a1002 a1003 : Nat} (hs : sHp h_) (k1000 : bcq h_ a1000 6 2) (k1002 : bcq h_ a1002 5 3) (k1003 : bcq h_ a1003 10 15) (o0_ : bpat h_ a1002 0 = some (.int (4 : Int32))) : ∃ h', ysm h_ h' ∧ (((∀ a_ j_ : Nat, bpat h' a_ j_ = bpat h_ a_ j_) ∧ (bldD 60 66 0 [(0, .index a1003), (1, .index a1002), (2, .index a1000)] [] h_ 68 [(0, .index a1003), (1, .index a1002), (2, .index a1000)] [.index a1000] h'))) := by
  have hA : yas esb4_A esb4_r (yg (esb4_s a1000 a1002 a1003)) := ⟨fun q_ hq => absurd hq List.not_mem_nil, fun q_ hq => absurd hq List.not_mem_nil, fun q_ hq => absurd hq List.not_mem_nil, fun n_ hn => yg_lo hn, fun q_ hq => absurd hq List.not_mem_nil⟩
  have Hs : ysh esb4_A.1 (yg (esb4_s a1000 a1002 a1003)) h_ := ysh_of2 hs (List.forall_mem_cons.mpr ⟨⟨by decide, k1000⟩, List.forall_mem_cons.mpr ⟨⟨by decide, k1002⟩, List.forall_mem_cons.mpr ⟨⟨by decide, k1003⟩, fun q_ hq => absurd hq List.not_mem_nil⟩⟩⟩)
  have Ho : ymem esb4_r (yg (esb4_s a1000 a1002 a1003)) esb4_O h_ := List.forall_mem_cons.mpr ⟨bpat_some o0_, fun q_ hq => absurd hq List.not_mem_nil⟩
  have HC : ∀ q_ ∈ esb4_C, xhold esb4_r q_ := fun q_ hq => absurd hq List.not_mem_nil
  rcases yrun (yis_ok esb4_k) hA Hs Ho HC with ⟨q_, hq, h', K_, G_⟩ | ⟨q_, hq, h', K_, G_⟩
  · have e_ := List.mem_singleton.mp hq
    subst e_
    exact ⟨h', yfr_sm K_.2.2.2 hs K_.1 (ywa_s esb4_w List.mem_cons_self), ⟨fun a_ j_ => yfr_bp K_.2.2.2 (fun q_ hq => absurd hq List.not_mem_nil), G_⟩⟩
  · cases hq
-- esb5: 4 steps, 1 ends, 0 returns
def esb5_L : List (Nat × Nat × Nat) := [(1000, 6, 2), (1002, 5, 3), (1003, 10, 15)]
def esb5_O : yO := [(1002, .int 0, .int 5)]
def esb5_A : yA := (yZ esb5_L, [], [], [], [])
def esb5_C : List xB := []
def esb5_ss : List yS := [(75, [(0, .index 1003), (1, .index 1002), (2, .index 1000)], [.index 1000], [(1002, .int 0, .int 5)], [], [])]
def esb5_rs : List yR := []
theorem esb5_w : ywa esb5_A esb5_ss esb5_rs = true := by decide +kernel
theorem esb5_k : yis (yev esb5_A 3000 60 66 [75] (0, [(0, .index 1003), (1, .index 1002), (2, .index 1000)], [], esb5_O, esb5_C, [])) esb5_ss esb5_rs = true := by decide +kernel
def esb5_r (k_ : Nat) : Value := .int 0
def esb5_s (a1000 a1002 a1003 : Nat) (n_ : Nat) : Nat := bif Nat.beq n_ 1000 then a1000 else (bif Nat.beq n_ 1002 then a1002 else (bif Nat.beq n_ 1003 then a1003 else (0)))
theorem esb5 {h_ : xH} {a1000 a1002 a1003 : Nat} (hs : sHp h_) (k1000 : bcq h_ a1000 6 2) (k1002 : bcq h_ a1002 5 3) (k1003 : bcq h_ a1003 10 15) (o0_ : bpat h_ a1002 0 = some (.int (5 : Int32))) : ∃ h', ysm h_ h' ∧ (((∀ a_ j_ : Nat, bpat h' a_ j_ = bpat h_ a_ j_) ∧ (bldD 60 66 0 [(0, .index a1003), (1, .index a1002), (2, .index a1000)] [] h_ 75 [(0, .index a1003), (1, .index a1002), (2, .index a1000)] [.index a1000] h'))) := by
  have hA : yas esb5_A esb5_r (yg (esb5_s a1000 a1002 a1003)) := ⟨fun q_ hq => absurd hq List.not_mem_nil, fun q_ hq => absurd hq List.not_mem_nil, fun q_ hq => absurd hq List.not_mem_nil, fun n_ hn => yg_lo hn, fun q_ hq => absurd hq List.not_mem_nil⟩
  have Hs : ysh esb5_A.1 (yg (esb5_s a1000 a1002 a1003)) h_ := ysh_of2 hs (List.forall_mem_cons.mpr ⟨⟨by decide, k1000⟩, List.forall_mem_cons.mpr ⟨⟨by decide, k1002⟩, List.forall_mem_cons.mpr ⟨⟨by decide, k1003⟩, fun q_ hq => absurd hq List.not_mem_nil⟩⟩⟩)
  have Ho : ymem esb5_r (yg (esb5_s a1000 a1002 a1003)) esb5_O h_ := List.forall_mem_cons.mpr ⟨bpat_some o0_, fun q_ hq => absurd hq List.not_mem_nil⟩
  have HC : ∀ q_ ∈ esb5_C, xhold esb5_r q_ := fun q_ hq => absurd hq List.not_mem_nil
  rcases yrun (yis_ok esb5_k) hA Hs Ho HC with ⟨q_, hq, h', K_, G_⟩ | ⟨q_, hq, h', K_, G_⟩
  · have e_ := List.mem_singleton.mp hq
    subst e_
    exact ⟨h', yfr_sm K_.2.2.2 hs K_.1 (ywa_s esb5_w List.mem_cons_self), ⟨fun a_ j_ => yfr_bp K_.2.2.2 (fun q_ hq => absurd hq List.not_mem_nil), G_⟩⟩
  · cases hq
-- esb6: 5 steps, 1 ends, 0 returns
def esb6_L : List (Nat × Nat × Nat) := [(1000, 6, 2), (1002, 5, 3), (1003, 10, 15)]
def esb6_O : yO := [(1002, .int 0, .int 6)]
def esb6_A : yA := (yZ esb6_L, [], [], [], [])
def esb6_C : List xB := []
def esb6_ss : List yS := [(93, [(0, .index 1003), (1, .index 1002), (2, .index 1000)], [.int 0, .index 1000], [(1002, .int 0, .int 6)], [], [])]
def esb6_rs : List yR := []
theorem esb6_w : ywa esb6_A esb6_ss esb6_rs = true := by decide +kernel
theorem esb6_k : yis (yev esb6_A 3000 60 66 [93] (0, [(0, .index 1003), (1, .index 1002), (2, .index 1000)], [], esb6_O, esb6_C, [])) esb6_ss esb6_rs = true := by decide +kernel
def esb6_r (k_ : Nat) : Value := .int 0
def esb6_s (a1000 a1002 a1003 : Nat) (n_ : Nat) : Nat := bif Nat.beq n_ 1000 then a1000 else (bif Nat.beq n_ 1002 then a1002 else (bif Nat.beq n_ 1003 then a1003 else (0)))
theorem esb6 {h_ : xH} {a1000 a1002 a1003 : Nat} (hs : sHp h_) (k1000 : bcq h_ a1000 6 2) (k1002 : bcq h_ a1002 5 3) (k1003 : bcq h_ a1003 10 15) (o0_ : bpat h_ a1002 0 = some (.int (6 : Int32))) : ∃ h', ysm h_ h' ∧ (((∀ a_ j_ : Nat, bpat h' a_ j_ = bpat h_ a_ j_) ∧ (bldD 60 66 0 [(0, .index a1003), (1, .index a1002), (2, .index a1000)] [] h_ 93 [(0, .index a1003), (1, .index a1002), (2, .index a1000)] [.int (0 : Int32), .index a1000] h'))) := by
  have hA : yas esb6_A esb6_r (yg (esb6_s a1000 a1002 a1003)) := ⟨fun q_ hq => absurd hq List.not_mem_nil, fun q_ hq => absurd hq List.not_mem_nil, fun q_ hq => absurd hq List.not_mem_nil, fun n_ hn => yg_lo hn, fun q_ hq => absurd hq List.not_mem_nil⟩
  have Hs : ysh esb6_A.1 (yg (esb6_s a1000 a1002 a1003)) h_ := ysh_of2 hs (List.forall_mem_cons.mpr ⟨⟨by decide, k1000⟩, List.forall_mem_cons.mpr ⟨⟨by decide, k1002⟩, List.forall_mem_cons.mpr ⟨⟨by decide, k1003⟩, fun q_ hq => absurd hq List.not_mem_nil⟩⟩⟩)
  have Ho : ymem esb6_r (yg (esb6_s a1000 a1002 a1003)) esb6_O h_ := List.forall_mem_cons.mpr ⟨bpat_some o0_, fun q_ hq => absurd hq List.not_mem_nil⟩
  have HC : ∀ q_ ∈ esb6_C, xhold esb6_r q_ := fun q_ hq => absurd hq List.not_mem_nil
  rcases yrun (yis_ok esb6_k) hA Hs Ho HC with ⟨q_, hq, h', K_, G_⟩ | ⟨q_, hq, h', K_, G_⟩
  · have e_ := List.mem_singleton.mp hq
    subst e_
    exact ⟨h', yfr_sm K_.2.2.2 hs K_.1 (ywa_s esb6_w List.mem_cons_self), ⟨fun a_ j_ => yfr_bp K_.2.2.2 (fun q_ hq => absurd hq List.not_mem_nil), G_⟩⟩
  · cases hq
-- xsb1: 2 steps, 0 ends, 1 returns
def xsb1_L : List (Nat × Nat × Nat) := [(1000, 6, 2), (1002, 5, 3), (1003, 10, 15)]
def xsb1_O : yO := []
def xsb1_A : yA := (yZ xsb1_L, [], [], [], [])
def xsb1_C : List xB := []
def xsb1_ss : List yS := []
def xsb1_rs : List yR := [(none, [], [], [])]
theorem xsb1_w : ywa xsb1_A xsb1_ss xsb1_rs = true := by decide +kernel
theorem xsb1_k : yis (yev xsb1_A 3000 60 66 [] (49, [(0, .index 1003), (1, .index 1002), (2, .index 1000)], [], xsb1_O, xsb1_C, [])) xsb1_ss xsb1_rs = true := by decide +kernel
def xsb1_r (k_ : Nat) : Value := .int 0
def xsb1_s (a1000 a1002 a1003 : Nat) (n_ : Nat) : Nat := bif Nat.beq n_ 1000 then a1000 else (bif Nat.beq n_ 1002 then a1002 else (bif Nat.beq n_ 1003 then a1003 else (0)))
theorem xsb1 {h_ : xH} {a1000 a1002 a1003 : Nat} (hs : sHp h_) (k1000 : bcq h_ a1000 6 2) (k1002 : bcq h_ a1002 5 3) (k1003 : bcq h_ a1003 10 15) : ∃ h', ysm h_ h' ∧ (((∀ a_ j_ : Nat, bpat h' a_ j_ = bpat h_ a_ j_) ∧ (∀ D_, 60 ≤ D_ → xrun D_ 66 49 [(0, .index a1003), (1, .index a1002), (2, .index a1000)] [] h_ (none, h', [])))) := by
  have hA : yas xsb1_A xsb1_r (yg (xsb1_s a1000 a1002 a1003)) := ⟨fun q_ hq => absurd hq List.not_mem_nil, fun q_ hq => absurd hq List.not_mem_nil, fun q_ hq => absurd hq List.not_mem_nil, fun n_ hn => yg_lo hn, fun q_ hq => absurd hq List.not_mem_nil⟩
  have Hs : ysh xsb1_A.1 (yg (xsb1_s a1000 a1002 a1003)) h_ := ysh_of2 hs (List.forall_mem_cons.mpr ⟨⟨by decide, k1000⟩, List.forall_mem_cons.mpr ⟨⟨by decide, k1002⟩, List.forall_mem_cons.mpr ⟨⟨by decide, k1003⟩, fun q_ hq => absurd hq List.not_mem_nil⟩⟩⟩)
  have Ho : ymem xsb1_r (yg (xsb1_s a1000 a1002 a1003)) xsb1_O h_ := fun q_ hq => absurd hq List.not_mem_nil
  have HC : ∀ q_ ∈ xsb1_C, xhold xsb1_r q_ := fun q_ hq => absurd hq List.not_mem_nil
  rcases yrun (yis_ok xsb1_k) hA Hs Ho HC with ⟨q_, hq, h', K_, G_⟩ | ⟨q_, hq, h', K_, G_⟩
  · cases hq
  · have e_ := List.mem_singleton.mp hq
    subst e_
    exact ⟨h', yfr_sm K_.2.2.2 hs K_.1 (ywa_r xsb1_w List.mem_cons_self), ⟨fun a_ j_ => yfr_bp K_.2.2.2 (fun q_ hq => absurd hq List.not_mem_nil), G_⟩⟩
-- xsb2: 2 steps, 0 ends, 1 returns
def xsb2_L : List (Nat × Nat × Nat) := [(1000, 6, 2), (1002, 5, 3), (1003, 10, 15)]
def xsb2_O : yO := []
def xsb2_A : yA := (yZ xsb2_L, [], [], [], [])
def xsb2_C : List xB := []
def xsb2_ss : List yS := []
def xsb2_rs : List yR := [(none, [], [], [])]
theorem xsb2_w : ywa xsb2_A xsb2_ss xsb2_rs = true := by decide +kernel
theorem xsb2_k : yis (yev xsb2_A 3000 60 66 [] (57, [(0, .index 1003), (1, .index 1002), (2, .index 1000)], [], xsb2_O, xsb2_C, [])) xsb2_ss xsb2_rs = true := by decide +kernel
def xsb2_r (k_ : Nat) : Value := .int 0
def xsb2_s (a1000 a1002 a1003 : Nat) (n_ : Nat) : Nat := bif Nat.beq n_ 1000 then a1000 else (bif Nat.beq n_ 1002 then a1002 else (bif Nat.beq n_ 1003 then a1003 else (0)))
theorem xsb2 {h_ : xH} {a1000 a1002 a1003 : Nat} (hs : sHp h_) (k1000 : bcq h_ a1000 6 2) (k1002 : bcq h_ a1002 5 3) (k1003 : bcq h_ a1003 10 15) : ∃ h', ysm h_ h' ∧ (((∀ a_ j_ : Nat, bpat h' a_ j_ = bpat h_ a_ j_) ∧ (∀ D_, 60 ≤ D_ → xrun D_ 66 57 [(0, .index a1003), (1, .index a1002), (2, .index a1000)] [] h_ (none, h', [])))) := by
  have hA : yas xsb2_A xsb2_r (yg (xsb2_s a1000 a1002 a1003)) := ⟨fun q_ hq => absurd hq List.not_mem_nil, fun q_ hq => absurd hq List.not_mem_nil, fun q_ hq => absurd hq List.not_mem_nil, fun n_ hn => yg_lo hn, fun q_ hq => absurd hq List.not_mem_nil⟩
  have Hs : ysh xsb2_A.1 (yg (xsb2_s a1000 a1002 a1003)) h_ := ysh_of2 hs (List.forall_mem_cons.mpr ⟨⟨by decide, k1000⟩, List.forall_mem_cons.mpr ⟨⟨by decide, k1002⟩, List.forall_mem_cons.mpr ⟨⟨by decide, k1003⟩, fun q_ hq => absurd hq List.not_mem_nil⟩⟩⟩)
  have Ho : ymem xsb2_r (yg (xsb2_s a1000 a1002 a1003)) xsb2_O h_ := fun q_ hq => absurd hq List.not_mem_nil
  have HC : ∀ q_ ∈ xsb2_C, xhold xsb2_r q_ := fun q_ hq => absurd hq List.not_mem_nil
  rcases yrun (yis_ok xsb2_k) hA Hs Ho HC with ⟨q_, hq, h', K_, G_⟩ | ⟨q_, hq, h', K_, G_⟩
  · cases hq
  · have e_ := List.mem_singleton.mp hq
    subst e_
    exact ⟨h', yfr_sm K_.2.2.2 hs K_.1 (ywa_r xsb2_w List.mem_cons_self), ⟨fun a_ j_ => yfr_bp K_.2.2.2 (fun q_ hq => absurd hq List.not_mem_nil), G_⟩⟩
-- xsb3: 2 steps, 0 ends, 1 returns
def xsb3_L : List (Nat × Nat × Nat) := [(1000, 6, 2), (1002, 5, 3), (1003, 10, 15)]
def xsb3_O : yO := []
def xsb3_A : yA := (yZ xsb3_L, [], [], [], [])
def xsb3_C : List xB := []
def xsb3_ss : List yS := []
def xsb3_rs : List yR := [(none, [], [], [])]
theorem xsb3_w : ywa xsb3_A xsb3_ss xsb3_rs = true := by decide +kernel
theorem xsb3_k : yis (yev xsb3_A 3000 60 66 [] (64, [(0, .index 1003), (1, .index 1002), (2, .index 1000)], [], xsb3_O, xsb3_C, [])) xsb3_ss xsb3_rs = true := by decide +kernel
def xsb3_r (k_ : Nat) : Value := .int 0
def xsb3_s (a1000 a1002 a1003 : Nat) (n_ : Nat) : Nat := bif Nat.beq n_ 1000 then a1000 else (bif Nat.beq n_ 1002 then a1002 else (bif Nat.beq n_ 1003 then a1003 else (0)))
theorem xsb3 {h_ : xH} {a1000 a1002 a1003 : Nat} (hs : sHp h_) (k1000 : bcq h_ a1000 6 2) (k1002 : bcq h_ a1002 5 3) (k1003 : bcq h_ a1003 10 15) : ∃ h', ysm h_ h' ∧ (((∀ a_ j_ : Nat, bpat h' a_ j_ = bpat h_ a_ j_) ∧ (∀ D_, 60 ≤ D_ → xrun D_ 66 64 [(0, .index a1003), (1, .index a1002), (2, .index a1000)] [] h_ (none, h', [])))) := by
  have hA : yas xsb3_A xsb3_r (yg (xsb3_s a1000 a1002 a1003)) := ⟨fun q_ hq => absurd hq List.not_mem_nil, fun q_ hq => absurd hq List.not_mem_nil, fun q_ hq => absurd hq List.not_mem_nil, fun n_ hn => yg_lo hn, fun q_ hq => absurd hq List.not_mem_nil⟩
  have Hs : ysh xsb3_A.1 (yg (xsb3_s a1000 a1002 a1003)) h_ := ysh_of2 hs (List.forall_mem_cons.mpr ⟨⟨by decide, k1000⟩, List.forall_mem_cons.mpr ⟨⟨by decide, k1002⟩, List.forall_mem_cons.mpr ⟨⟨by decide, k1003⟩, fun q_ hq => absurd hq List.not_mem_nil⟩⟩⟩)
  have Ho : ymem xsb3_r (yg (xsb3_s a1000 a1002 a1003)) xsb3_O h_ := fun q_ hq => absurd hq List.not_mem_nil
  have HC : ∀ q_ ∈ xsb3_C, xhold xsb3_r q_ := fun q_ hq => absurd hq List.not_mem_nil
  rcases yrun (yis_ok xsb3_k) hA Hs Ho HC with ⟨q_, hq, h', K_, G_⟩ | ⟨q_, hq, h', K_, G_⟩
  · cases hq
  · have e_ := List.mem_singleton.mp hq
    subst e_
    exact ⟨h', yfr_sm K_.2.2.2 hs K_.1 (ywa_r xsb3_w List.mem_cons_self), ⟨fun a_ j_ => yfr_bp K_.2.2.2 (fun q_ hq => absurd hq List.not_mem_nil), G_⟩⟩
-- xsb4: 2 steps, 0 ends, 1 returns
def xsb4_L : List (Nat × Nat × Nat) := [(1000, 6, 2), (1002, 5, 3), (1003, 10, 15)]
def xsb4_O : yO := []
def xsb4_A : yA := (yZ xsb4_L, [], [], [], [])
def xsb4_C : List xB := []
def xsb4_ss : List yS := []
def xsb4_rs : List yR := [(none, [], [], [])]
theorem xsb4_w : ywa xsb4_A xsb4_ss xsb4_rs = true := by decide +kernel
theorem xsb4_k : yis (yev xsb4_A 3000 60 66 [] (71, [(0, .index 1003), (1, .index 1002), (2, .index 1000)], [], xsb4_O, xsb4_C, [])) xsb4_ss xsb4_rs = true := by decide +kernel
def xsb4_r (k_ : Nat) : Value := .int 0
def xsb4_s (a1000 a1002 a1003 : Nat) (n_ : Nat) : Nat := bif Nat.beq n_ 1000 then a1000 else (bif Nat.beq n_ 1002 then a1002 else (bif Nat.beq n_ 1003 then a1003 else (0)))
theorem xsb4 {h_ : xH} {a1000 a1002 a1003 : Nat} (hs : sHp h_) (k1000 : bcq h_ a1000 6 2) (k1002 : bcq h_ a1002 5 3) (k1003 : bcq h_ a1003 10 15) : ∃ h', ysm h_ h' ∧ (((∀ a_ j_ : Nat, bpat h' a_ j_ = bpat h_ a_ j_) ∧ (∀ D_, 60 ≤ D_ → xrun D_ 66 71 [(0, .index a1003), (1, .index a1002), (2, .index a1000)] [] h_ (none, h', [])))) := by
  have hA : yas xsb4_A xsb4_r (yg (xsb4_s a1000 a1002 a1003)) := ⟨fun q_ hq => absurd hq List.not_mem_nil, fun q_ hq => absurd hq List.not_mem_nil, fun q_ hq => absurd hq List.not_mem_nil, fun n_ hn => yg_lo hn, fun q_ hq => absurd hq List.not_mem_nil⟩
  have Hs : ysh xsb4_A.1 (yg (xsb4_s a1000 a1002 a1003)) h_ := ysh_of2 hs (List.forall_mem_cons.mpr ⟨⟨by decide, k1000⟩, List.forall_mem_cons.mpr ⟨⟨by decide, k1002⟩, List.forall_mem_cons.mpr ⟨⟨by decide, k1003⟩, fun q_ hq => absurd hq List.not_mem_nil⟩⟩⟩)
  have Ho : ymem xsb4_r (yg (xsb4_s a1000 a1002 a1003)) xsb4_O h_ := fun q_ hq => absurd hq List.not_mem_nil
  have HC : ∀ q_ ∈ xsb4_C, xhold xsb4_r q_ := fun q_ hq => absurd hq List.not_mem_nil
  rcases yrun (yis_ok xsb4_k) hA Hs Ho HC with ⟨q_, hq, h', K_, G_⟩ | ⟨q_, hq, h', K_, G_⟩
  · cases hq
  · have e_ := List.mem_singleton.mp hq
    subst e_
    exact ⟨h', yfr_sm K_.2.2.2 hs K_.1 (ywa_r xsb4_w List.mem_cons_self), ⟨fun a_ j_ => yfr_bp K_.2.2.2 (fun q_ hq => absurd hq List.not_mem_nil), G_⟩⟩
-- xsb5: 2 steps, 0 ends, 1 returns
def xsb5_L : List (Nat × Nat × Nat) := [(1000, 6, 2), (1002, 5, 3), (1003, 10, 15)]
def xsb5_O : yO := []
def xsb5_A : yA := (yZ xsb5_L, [], [], [], [])
def xsb5_C : List xB := []
def xsb5_ss : List yS := []
def xsb5_rs : List yR := [(none, [], [], [])]
theorem xsb5_w : ywa xsb5_A xsb5_ss xsb5_rs = true := by decide +kernel
theorem xsb5_k : yis (yev xsb5_A 3000 60 66 [] (88, [(0, .index 1003), (1, .index 1002), (2, .index 1000)], [], xsb5_O, xsb5_C, [])) xsb5_ss xsb5_rs = true := by decide +kernel
def xsb5_r (k_ : Nat) : Value := .int 0
def xsb5_s (a1000 a1002 a1003 : Nat) (n_ : Nat) : Nat := bif Nat.beq n_ 1000 then a1000 else (bif Nat.beq n_ 1002 then a1002 else (bif Nat.beq n_ 1003 then a1003 else (0)))
theorem xsb5 {h_ : xH} {a1000 a1002 a1003 : Nat} (hs : sHp h_) (k1000 : bcq h_ a1000 6 2) (k1002 : bcq h_ a1002 5 3) (k1003 : bcq h_ a1003 10 15) : ∃ h', ysm h_ h' ∧ (((∀ a_ j_ : Nat, bpat h' a_ j_ = bpat h_ a_ j_) ∧ (∀ D_, 60 ≤ D_ → xrun D_ 66 88 [(0, .index a1003), (1, .index a1002), (2, .index a1000)] [] h_ (none, h', [])))) := by
  have hA : yas xsb5_A xsb5_r (yg (xsb5_s a1000 a1002 a1003)) := ⟨fun q_ hq => absurd hq List.not_mem_nil, fun q_ hq => absurd hq List.not_mem_nil, fun q_ hq => absurd hq List.not_mem_nil, fun n_ hn => yg_lo hn, fun q_ hq => absurd hq List.not_mem_nil⟩
  have Hs : ysh xsb5_A.1 (yg (xsb5_s a1000 a1002 a1003)) h_ := ysh_of2 hs (List.forall_mem_cons.mpr ⟨⟨by decide, k1000⟩, List.forall_mem_cons.mpr ⟨⟨by decide, k1002⟩, List.forall_mem_cons.mpr ⟨⟨by decide, k1003⟩, fun q_ hq => absurd hq List.not_mem_nil⟩⟩⟩)
  have Ho : ymem xsb5_r (yg (xsb5_s a1000 a1002 a1003)) xsb5_O h_ := fun q_ hq => absurd hq List.not_mem_nil
  have HC : ∀ q_ ∈ xsb5_C, xhold xsb5_r q_ := fun q_ hq => absurd hq List.not_mem_nil
  rcases yrun (yis_ok xsb5_k) hA Hs Ho HC with ⟨q_, hq, h', K_, G_⟩ | ⟨q_, hq, h', K_, G_⟩
  · cases hq
  · have e_ := List.mem_singleton.mp hq
    subst e_
    exact ⟨h', yfr_sm K_.2.2.2 hs K_.1 (ywa_r xsb5_w List.mem_cons_self), ⟨fun a_ j_ => yfr_bp K_.2.2.2 (fun q_ hq => absurd hq List.not_mem_nil), G_⟩⟩
-- xsb6: 2 steps, 0 ends, 1 returns
def xsb6_L : List (Nat × Nat × Nat) := [(1000, 6, 2), (1002, 5, 3), (1003, 10, 15)]
def xsb6_O : yO := []
def xsb6_A : yA := (yZ xsb6_L, [], [], [], [])
def xsb6_C : List xB := []
def xsb6_ss : List yS := []
def xsb6_rs : List yR := [(none, [], [], [])]
theorem xsb6_w : ywa xsb6_A xsb6_ss xsb6_rs = true := by decide +kernel
theorem xsb6_k : yis (yev xsb6_A 3000 60 66 [] (105, [(0, .index 1003), (1, .index 1002), (2, .index 1000)], [], xsb6_O, xsb6_C, [])) xsb6_ss xsb6_rs = true := by decide +kernel
def xsb6_r (k_ : Nat) : Value := .int 0
def xsb6_s (a1000 a1002 a1003 : Nat) (n_ : Nat) : Nat := bif Nat.beq n_ 1000 then a1000 else (bif Nat.beq n_ 1002 then a1002 else (bif Nat.beq n_ 1003 then a1003 else (0)))
theorem xsb6 {h_ : xH} {a1000 a1002 a1003 : Nat} (hs : sHp h_) (k1000 : bcq h_ a1000 6 2) (k1002 : bcq h_ a1002 5 3) (k1003 : bcq h_ a1003 10 15) : ∃ h', ysm h_ h' ∧ (((∀ a_ j_ : Nat, bpat h' a_ j_ = bpat h_ a_ j_) ∧ (∀ D_, 60 ≤ D_ → xrun D_ 66 105 [(0, .index a1003), (1, .index a1002), (2, .index a1000)] [] h_ (none, h', [])))) := by
  have hA : yas xsb6_A xsb6_r (yg (xsb6_s a1000 a1002 a1003)) := ⟨fun q_ hq => absurd hq List.not_mem_nil, fun q_ hq => absurd hq List.not_mem_nil, fun q_ hq => absurd hq List.not_mem_nil, fun n_ hn => yg_lo hn, fun q_ hq => absurd hq List.not_mem_nil⟩
  have Hs : ysh xsb6_A.1 (yg (xsb6_s a1000 a1002 a1003)) h_ := ysh_of2 hs (List.forall_mem_cons.mpr ⟨⟨by decide, k1000⟩, List.forall_mem_cons.mpr ⟨⟨by decide, k1002⟩, List.forall_mem_cons.mpr ⟨⟨by decide, k1003⟩, fun q_ hq => absurd hq List.not_mem_nil⟩⟩⟩)
  have Ho : ymem xsb6_r (yg (xsb6_s a1000 a1002 a1003)) xsb6_O h_ := fun q_ hq => absurd hq List.not_mem_nil
  have HC : ∀ q_ ∈ xsb6_C, xhold xsb6_r q_ := fun q_ hq => absurd hq List.not_mem_nil
  rcases yrun (yis_ok xsb6_k) hA Hs Ho HC with ⟨q_, hq, h', K_, G_⟩ | ⟨q_, hq, h', K_, G_⟩
  · cases hq
  · have e_ := List.mem_singleton.mp hq
    subst e_
    exact ⟨h', yfr_sm K_.2.2.2 hs K_.1 (ywa_r xsb6_w List.mem_cons_self), ⟨fun a_ j_ => yfr_bp K_.2.2.2 (fun q_ hq => absurd hq List.not_mem_nil), G_⟩⟩
-- msb5: 5 steps, 1 ends, 0 returns
def msb5_L : List (Nat × Nat × Nat) := [(1000, 6, 2), (1002, 5, 3), (1003, 10, 15)]
def msb5_O : yO := [(1002, .int 1, .arg 302)]
def msb5_A : yA := (yZ msb5_L, [], [], [], [])
def msb5_C : List xB := []
def msb5_ss : List yS := [(85, [(0, .index 1003), (1, .index 1002), (2, .index 1000)], [.add (.arg 302) (.int 1), .index 1000], [(1002, .int 1, .arg 302)], [], [])]
def msb5_rs : List yR := []
theorem msb5_w : ywa msb5_A msb5_ss msb5_rs = true := by decide +kernel
theorem msb5_k : yis (yev msb5_A 3000 60 66 [85] (78, [(0, .index 1003), (1, .index 1002), (2, .index 1000)], [], msb5_O, msb5_C, [])) msb5_ss msb5_rs = true := by decide +kernel
def msb5_r (v302 : Int32) (k_ : Nat) : Value := bif Nat.beq k_ 302 then .int v302 else (.int 0)
def msb5_s (a1000 a1002 a1003 : Nat) (n_ : Nat) : Nat := bif Nat.beq n_ 1000 then a1000 else (bif Nat.beq n_ 1002 then a1002 else (bif Nat.beq n_ 1003 then a1003 else (0)))
theorem msb5 {h_ : xH} {a1000 a1002 a1003 : Nat} {v302 : Int32} (hs : sHp h_) (k1000 : bcq h_ a1000 6 2) (k1002 : bcq h_ a1002 5 3) (k1003 : bcq h_ a1003 10 15) (o0_ : bpat h_ a1002 1 = some (.int v302)) : ∃ h', ysm h_ h' ∧ (((∀ a_ j_ : Nat, bpat h' a_ j_ = bpat h_ a_ j_) ∧ (bldD 60 66 78 [(0, .index a1003), (1, .index a1002), (2, .index a1000)] [] h_ 85 [(0, .index a1003), (1, .index a1002), (2, .index a1000)] [.int (v302 + (1 : Int32)), .index a1000] h'))) := by
  have hA : yas msb5_A (msb5_r v302) (yg (msb5_s a1000 a1002 a1003)) := ⟨fun q_ hq => absurd hq List.not_mem_nil, fun q_ hq => absurd hq List.not_mem_nil, fun q_ hq => absurd hq List.not_mem_nil, fun n_ hn => yg_lo hn, fun q_ hq => absurd hq List.not_mem_nil⟩
  have Hs : ysh msb5_A.1 (yg (msb5_s a1000 a1002 a1003)) h_ := ysh_of2 hs (List.forall_mem_cons.mpr ⟨⟨by decide, k1000⟩, List.forall_mem_cons.mpr ⟨⟨by decide, k1002⟩, List.forall_mem_cons.mpr ⟨⟨by decide, k1003⟩, fun q_ hq => absurd hq List.not_mem_nil⟩⟩⟩)
  have Ho : ymem (msb5_r v302) (yg (msb5_s a1000 a1002 a1003)) msb5_O h_ := List.forall_mem_cons.mpr ⟨bpat_some o0_, fun q_ hq => absurd hq List.not_mem_nil⟩
  have HC : ∀ q_ ∈ msb5_C, xhold (msb5_r v302) q_ := fun q_ hq => absurd hq List.not_mem_nil
  rcases yrun (yis_ok msb5_k) hA Hs Ho HC with ⟨q_, hq, h', K_, G_⟩ | ⟨q_, hq, h', K_, G_⟩
  · have e_ := List.mem_singleton.mp hq
    subst e_
    exact ⟨h', yfr_sm K_.2.2.2 hs K_.1 (ywa_s msb5_w List.mem_cons_self), ⟨fun a_ j_ => yfr_bp K_.2.2.2 (fun q_ hq => absurd hq List.not_mem_nil), G_⟩⟩
  · cases hq
-- msb6: 4 steps, 1 ends, 0 returns
def msb6_L : List (Nat × Nat × Nat) := [(1000, 6, 2), (1002, 5, 3), (1003, 10, 15)]
def msb6_O : yO := [(1002, .int 1, .arg 302)]
def msb6_A : yA := (yZ msb6_L, [], [], [], [])
def msb6_C : List xB := []
def msb6_ss : List yS := [(102, [(0, .index 1003), (1, .index 1002), (2, .index 1000)], [.arg 302, .index 1000, .index 1003], [(1002, .int 1, .arg 302)], [], [])]
def msb6_rs : List yR := []
theorem msb6_w : ywa msb6_A msb6_ss msb6_rs = true := by decide +kernel
theorem msb6_k : yis (yev msb6_A 3000 60 66 [102] (96, [(0, .index 1003), (1, .index 1002), (2, .index 1000)], [], msb6_O, msb6_C, [])) msb6_ss msb6_rs = true := by decide +kernel
def msb6_r (v302 : Int32) (k_ : Nat) : Value := bif Nat.beq k_ 302 then .int v302 else (.int 0)
def msb6_s (a1000 a1002 a1003 : Nat) (n_ : Nat) : Nat := bif Nat.beq n_ 1000 then a1000 else (bif Nat.beq n_ 1002 then a1002 else (bif Nat.beq n_ 1003 then a1003 else (0)))
theorem msb6 {h_ : xH} {a1000 a1002 a1003 : Nat} {v302 : Int32} (hs : sHp h_) (k1000 : bcq h_ a1000 6 2) (k1002 : bcq h_ a1002 5 3) (k1003 : bcq h_ a1003 10 15) (o0_ : bpat h_ a1002 1 = some (.int v302)) : ∃ h', ysm h_ h' ∧ (((∀ a_ j_ : Nat, bpat h' a_ j_ = bpat h_ a_ j_) ∧ (bldD 60 66 96 [(0, .index a1003), (1, .index a1002), (2, .index a1000)] [] h_ 102 [(0, .index a1003), (1, .index a1002), (2, .index a1000)] [.int v302, .index a1000, .index a1003] h'))) := by
  have hA : yas msb6_A (msb6_r v302) (yg (msb6_s a1000 a1002 a1003)) := ⟨fun q_ hq => absurd hq List.not_mem_nil, fun q_ hq => absurd hq List.not_mem_nil, fun q_ hq => absurd hq List.not_mem_nil, fun n_ hn => yg_lo hn, fun q_ hq => absurd hq List.not_mem_nil⟩
  have Hs : ysh msb6_A.1 (yg (msb6_s a1000 a1002 a1003)) h_ := ysh_of2 hs (List.forall_mem_cons.mpr ⟨⟨by decide, k1000⟩, List.forall_mem_cons.mpr ⟨⟨by decide, k1002⟩, List.forall_mem_cons.mpr ⟨⟨by decide, k1003⟩, fun q_ hq => absurd hq List.not_mem_nil⟩⟩⟩)
  have Ho : ymem (msb6_r v302) (yg (msb6_s a1000 a1002 a1003)) msb6_O h_ := List.forall_mem_cons.mpr ⟨bpat_some o0_, fun q_ hq => absurd hq List.not_mem_nil⟩
  have HC : ∀ q_ ∈ msb6_C, xhold (msb6_r v302) q_ := fun q_ hq => absurd hq List.not_mem_nil
  rcases yrun (yis_ok msb6_k) hA Hs Ho HC with ⟨q_, hq, h', K_, G_⟩ | ⟨q_, hq, h', K_, G_⟩
  · have e_ := List.mem_singleton.mp hq
    subst e_
    exact ⟨h', yfr_sm K_.2.2.2 hs K_.1 (ywa_s msb6_w List.mem_cons_self), ⟨fun a_ j_ => yfr_bp K_.2.2.2 (fun q_ hq => absurd hq List.not_mem_nil), G_⟩⟩
  · cases hq
theorem sb0 {w_ r_ a_ b_ : Nat} {l : List Int32} {h_ : xH} (W_ : bcq h_ w_ 10 15) (K_ : bcq h_ r_ 5 3) (o0_ : bpat h_ r_ 0 = some (.int 0)) (R_ : rW a_ b_ h_ l) : ∃ h', rW a_ b_ h' l ∧ frr a_ b_ h_ h' ∧ ∀ D_, 63 ≤ D_ → xrun D_ 66 0 [(0, .index w_), (1, .index r_), (2, .index a_)] [] h_ (none, h', []) := by
  obtain ⟨h0, m0_, f0_, r0⟩ := esb0 R_.1 R_.2.1.1.1 K_ W_ o0_
  exact ⟨h0, rW_all R_ m0_ f0_, frr_all m0_ f0_, fun D_ hD => r0 D_ (by omega)⟩
theorem sb1 {w_ r_ a_ b_ : Nat} {l : List Int32} {h_ : xH} (W_ : bcq h_ w_ 10 15) (K_ : bcq h_ r_ 5 3) (o0_ : bpat h_ r_ 0 = some (.int 1)) (R_ : rW a_ b_ h_ l) : ∃ h', rW a_ b_ h' (mpf nay0 0 l) ∧ frr a_ b_ h_ h' ∧ ∀ D_, 63 ≤ D_ → xrun D_ 66 0 [(0, .index w_), (1, .index r_), (2, .index a_)] [] h_ (none, h', []) := by
  obtain ⟨h0, m0_, f0_, ld0⟩ := esb1 R_.1 R_.2.1.1.1 K_ W_ o0_
  have R0_ := rW_all R_ m0_ f0_
  obtain ⟨h1, R1, F1_, E1_⟩ := sayNay0 R0_
  have W1_ := m0_.2 _ _ _ W_
  have K1 := m0_.2 _ _ _ K_
  have A1 := m0_.2 _ _ _ R_.2.1.1.1
  have c1_ := ycv (mi := 66) (pc := 46) (cm := 43) (lo_ := [(0, .index w_), (1, .index r_), (2, .index a_)]) (st_ := [.int 0, .index a_]) (as_ := [.int 0]) (s' := []) rfl rfl A1 rfl (xcc_l (List.forall_mem_cons.mpr ⟨xidx_i (bcq_lt W1_), List.forall_mem_cons.mpr ⟨xidx_i (bcq_lt K1), List.forall_mem_cons.mpr ⟨xidx_i (bcq_lt A1), fun q_ hq => absurd hq List.not_mem_nil⟩⟩⟩) (fun t_ ht => absurd ht List.not_mem_nil) (by decide)) E1_
  obtain ⟨h2, m2_, f2_, r2⟩ := xsb1 R1.1 R1.2.1.1.1 (F1_.1.2 _ _ _ K1) (F1_.1.2 _ _ _ W1_)
  exact ⟨h2, rW_all R1 m2_ f2_, frr_tr (frr_all m0_ f0_) (frr_tr (frb_fr a_ F1_) (frr_all m2_ f2_)), fun D_ hD => ld0 D_ (by omega) _ (c1_ D_ (by omega) _ (r2 D_ (by omega)))⟩
theorem sb2 {w_ r_ a_ b_ : Nat} {l : List Int32} {h_ : xH} (W_ : bcq h_ w_ 10 15) (K_ : bcq h_ r_ 5 3) (o0_ : bpat h_ r_ 0 = some (.int 2)) (R_ : rW a_ b_ h_ l) : ∃ h', rW a_ b_ h' (mpf nay1 0 l) ∧ frr a_ b_ h_ h' ∧ ∀ D_, 63 ≤ D_ → xrun D_ 66 0 [(0, .index w_), (1, .index r_), (2, .index a_)] [] h_ (none, h', []) := by
  obtain ⟨h0, m0_, f0_, ld0⟩ := esb2 R_.1 R_.2.1.1.1 K_ W_ o0_
  have R0_ := rW_all R_ m0_ f0_
  obtain ⟨h1, R1, F1_, E1_⟩ := sayNay1 R0_
  have W1_ := m0_.2 _ _ _ W_
  have K1 := m0_.2 _ _ _ K_
  have A1 := m0_.2 _ _ _ R_.2.1.1.1
  have c1_ := ycv (mi := 66) (pc := 54) (cm := 43) (lo_ := [(0, .index w_), (1, .index r_), (2, .index a_)]) (st_ := [.int 1, .index a_]) (as_ := [.int 1]) (s' := []) rfl rfl A1 rfl (xcc_l (List.forall_mem_cons.mpr ⟨xidx_i (bcq_lt W1_), List.forall_mem_cons.mpr ⟨xidx_i (bcq_lt K1), List.forall_mem_cons.mpr ⟨xidx_i (bcq_lt A1), fun q_ hq => absurd hq List.not_mem_nil⟩⟩⟩) (fun t_ ht => absurd ht List.not_mem_nil) (by decide)) E1_
  obtain ⟨h2, m2_, f2_, r2⟩ := xsb2 R1.1 R1.2.1.1.1 (F1_.1.2 _ _ _ K1) (F1_.1.2 _ _ _ W1_)
  exact ⟨h2, rW_all R1 m2_ f2_, frr_tr (frr_all m0_ f0_) (frr_tr (frb_fr a_ F1_) (frr_all m2_ f2_)), fun D_ hD => ld0 D_ (by omega) _ (c1_ D_ (by omega) _ (r2 D_ (by omega)))⟩
theorem sb3 {w_ r_ a_ b_ : Nat} {l : List Int32} {h_ : xH} (W_ : bcq h_ w_ 10 15) (K_ : bcq h_ r_ 5 3) (o0_ : bpat h_ r_ 0 = some (.int 3)) (R_ : rW a_ b_ h_ l) : ∃ h', rW a_ b_ h' (mpf les0 0 l) ∧ frr a_ b_ h_ h' ∧ ∀ D_, 63 ≤ D_ → xrun D_ 66 0 [(0, .index w_), (1, .index r_), (2, .index a_)] [] h_ (none, h', []) := by
  obtain ⟨h0, m0_, f0_, ld0⟩ := esb3 R_.1 R_.2.1.1.1 K_ W_ o0_
  have R0_ := rW_all R_ m0_ f0_
  obtain ⟨h1, R1, F1_, E1_⟩ := turnNumbers R0_
  have W1_ := m0_.2 _ _ _ W_
  have K1 := m0_.2 _ _ _ K_
  have A1 := m0_.2 _ _ _ R_.2.1.1.1
  have c1_ := ycv (mi := 66) (pc := 61) (cm := 44) (lo_ := [(0, .index w_), (1, .index r_), (2, .index a_)]) (st_ := [.index a_]) (as_ := []) (s' := []) rfl rfl A1 rfl (xcc_l (List.forall_mem_cons.mpr ⟨xidx_i (bcq_lt W1_), List.forall_mem_cons.mpr ⟨xidx_i (bcq_lt K1), List.forall_mem_cons.mpr ⟨xidx_i (bcq_lt A1), fun q_ hq => absurd hq List.not_mem_nil⟩⟩⟩) (fun t_ ht => absurd ht List.not_mem_nil) (by decide)) E1_
  obtain ⟨h2, m2_, f2_, r2⟩ := xsb3 R1.1 R1.2.1.1.1 (F1_.1.2 _ _ _ K1) (F1_.1.2 _ _ _ W1_)
  exact ⟨h2, rW_all R1 m2_ f2_, frr_tr (frr_all m0_ f0_) (frr_tr (frb_fr a_ F1_) (frr_all m2_ f2_)), fun D_ hD => ld0 D_ (by omega) _ (c1_ D_ (by omega) _ (r2 D_ (by omega)))⟩
theorem sb4 {w_ r_ a_ b_ : Nat} {l : List Int32} {h_ : xH} (W_ : bcq h_ w_ 10 15) (K_ : bcq h_ r_ 5 3) (o0_ : bpat h_ r_ 0 = some (.int 4)) (R_ : rW a_ b_ h_ l) : ∃ h', rW a_ b_ h' (rvf 12 0 ((l.length : Int) - 1) l) ∧ frr a_ b_ h_ h' ∧ ∀ D_, 63 ≤ D_ → xrun D_ 66 0 [(0, .index w_), (1, .index r_), (2, .index a_)] [] h_ (none, h', []) := by
  obtain ⟨h0, m0_, f0_, ld0⟩ := esb4 R_.1 R_.2.1.1.1 K_ W_ o0_
  have R0_ := rW_all R_ m0_ f0_
  obtain ⟨h1, R1, F1_, E1_⟩ := turnRound R0_
  have W1_ := m0_.2 _ _ _ W_
  have K1 := m0_.2 _ _ _ K_
  have A1 := m0_.2 _ _ _ R_.2.1.1.1
  have c1_ := ycv (mi := 66) (pc := 68) (cm := 45) (lo_ := [(0, .index w_), (1, .index r_), (2, .index a_)]) (st_ := [.index a_]) (as_ := []) (s' := []) rfl rfl A1 rfl (xcc_l (List.forall_mem_cons.mpr ⟨xidx_i (bcq_lt W1_), List.forall_mem_cons.mpr ⟨xidx_i (bcq_lt K1), List.forall_mem_cons.mpr ⟨xidx_i (bcq_lt A1), fun q_ hq => absurd hq List.not_mem_nil⟩⟩⟩) (fun t_ ht => absurd ht List.not_mem_nil) (by decide)) E1_
  obtain ⟨h2, m2_, f2_, r2⟩ := xsb4 R1.1 R1.2.1.1.1 (F1_.1.2 _ _ _ K1) (F1_.1.2 _ _ _ W1_)
  exact ⟨h2, rW_all R1 m2_ f2_, frr_tr (frr_all m0_ f0_) (frr_tr (frb_fr a_ F1_) (frr_all m2_ f2_)), fun D_ hD => ld0 D_ (by omega) _ (c1_ D_ (by omega) _ (r2 D_ (by omega)))⟩
theorem sb5 {w_ r_ a_ b_ m_ : Nat} {l : List Int32} {h_ : xH} (hm_ : m_ ≤ 9) (W_ : bcq h_ w_ 10 15) (K_ : bcq h_ r_ 5 3) (o0_ : bpat h_ r_ 0 = some (.int 5)) (o1 : bpat h_ r_ 1 = some (.int (Int32.ofNat m_))) (nr : ¬ r_ = b_) (R_ : rW a_ b_ h_ l) : ∃ h', rW a_ b_ h' (kpt (m_ + 1) (rvf 12 0 ((l.length : Int) - 1) l) (rvf 12 0 ((l.length : Int) - 1) l).length) ∧ frr a_ b_ h_ h' ∧ ∀ D_, 63 ≤ D_ → xrun D_ 66 0 [(0, .index w_), (1, .index r_), (2, .index a_)] [] h_ (none, h', []) := by
  obtain ⟨h0, m0_, f0_, ld0⟩ := esb5 R_.1 R_.2.1.1.1 K_ W_ o0_
  have R0_ := rW_all R_ m0_ f0_
  obtain ⟨h1, R1, F1_, E1_⟩ := turnRound R0_
  have W1_ := m0_.2 _ _ _ W_
  have K1 := m0_.2 _ _ _ K_
  have A1 := m0_.2 _ _ _ R_.2.1.1.1
  have c1_ := ycv (mi := 66) (pc := 75) (cm := 45) (lo_ := [(0, .index w_), (1, .index r_), (2, .index a_)]) (st_ := [.index a_]) (as_ := []) (s' := []) rfl rfl A1 rfl (xcc_l (List.forall_mem_cons.mpr ⟨xidx_i (bcq_lt W1_), List.forall_mem_cons.mpr ⟨xidx_i (bcq_lt K1), List.forall_mem_cons.mpr ⟨xidx_i (bcq_lt A1), fun q_ hq => absurd hq List.not_mem_nil⟩⟩⟩) (fun t_ ht => absurd ht List.not_mem_nil) (by decide)) E1_
  have W2_ := F1_.1.2 _ _ _ W1_
  have K2 := F1_.1.2 _ _ _ K1
  obtain ⟨h2, m2_, f2_, ld2⟩ := msb5 R1.1 R1.2.1.1.1 K2 W2_ ((F1_.2 r_ 1 nr).trans ((f0_ r_ 1).trans o1))
  have R2 := rW_all R1 m2_ f2_
  rw [i32s] at ld2
  obtain ⟨h3, R3, F3, E3⟩ := leaveOutEach (n_ := m_ + 1) (by omega) (by omega) R2
  have W3 := m2_.2 _ _ _ W2_
  have K3 := m2_.2 _ _ _ K2
  have A3 := R2.2.1.1.1
  have c3_ := ycv (mi := 66) (pc := 85) (cm := 46) (lo_ := [(0, .index w_), (1, .index r_), (2, .index a_)]) (st_ := [.int (Int32.ofNat (m_ + 1)), .index a_]) (as_ := [.int (Int32.ofNat (m_ + 1))]) (s' := []) rfl rfl A3 rfl (xcc_l (List.forall_mem_cons.mpr ⟨xidx_i (bcq_lt W3), List.forall_mem_cons.mpr ⟨xidx_i (bcq_lt K3), List.forall_mem_cons.mpr ⟨xidx_i (bcq_lt A3), fun q_ hq => absurd hq List.not_mem_nil⟩⟩⟩) (fun t_ ht => absurd ht List.not_mem_nil) (by decide)) E3
  obtain ⟨h4, m4_, f4_, r4⟩ := xsb5 R3.1 R3.2.1.1.1 (F3.1.2 _ _ _ K3) (F3.1.2 _ _ _ W3)
  exact ⟨h4, rW_all R3 m4_ f4_, frr_tr (frr_all m0_ f0_) (frr_tr (frb_fr a_ F1_) (frr_tr (frr_all m2_ f2_) (frr_tr F3 (frr_all m4_ f4_)))), fun D_ hD => ld0 D_ (by omega) _ (c1_ D_ (by omega) _ (ld2 D_ (by omega) _ (c3_ D_ (by omega) _ (r4 D_ (by omega)))))⟩
-- ===== the reference: sends, by KINDS
-- ese0: 17 steps, 0 ends, 1 returns
def ese0_L : List (Nat × Nat × Nat) := [(1001, 20, 13)]
def ese0_O : yO := [(338, .int 0, .index 339), (339, .add (.add (.int 10) (.mul (.int 3) (.arg 1))) (.int 0), .int 0)]
def ese0_A : yA := (yZ ese0_L, [(.add (.add (.int 10) (.mul (.int 3) (.arg 1))) (.int 0), 768)], [], [], [])
def ese0_C : List xB := []
def ese0_ss : List yS := []
def ese0_rs : List yR := [(none, [(338, .int 0, .index 339), (339, .add (.add (.int 10) (.mul (.int 3) (.arg 1))) (.int 0), .int 0)], [], [])]
theorem ese0_w : ywa ese0_A ese0_ss ese0_rs = true := by decide +kernel
theorem ese0_k : yis (yev ese0_A 3000 60 151 [] (0, [(0, .index 338), (1, .arg 1), (2, .index 1001)], [], ese0_O, ese0_C, [])) ese0_ss ese0_rs = true := by decide +kernel
def ese0_r (v1_ : Int32) (k_ : Nat) : Value := bif Nat.beq k_ 1 then .int v1_ else (.int 0)
def ese0_s (a1001 : Nat) (n_ : Nat) : Nat := bif Nat.beq n_ 1001 then a1001 else (0)
theorem ese0 {h_ : xH} {a1001 : Nat} {v1_ : Int32} (hs : sHp h_) (k1001 : bcq h_ a1001 20 13) (o0_ : bpat h_ 339 ((((10 : Int32) + ((3 : Int32) * v1_)) + (0 : Int32))).toInt.toNat = some (.int (0 : Int32))) (b0 : 0 ≤ ((((10 : Int32) + ((3 : Int32) * v1_)) + (0 : Int32))).toInt ∧ ((((10 : Int32) + ((3 : Int32) * v1_)) + (0 : Int32))).toInt < 768) : ∃ h', ysm h_ h' ∧ (((∀ a_ j_ : Nat, bpat h' a_ j_ = bpat h_ a_ j_) ∧ (∀ D_, 60 ≤ D_ → xrun D_ 151 0 [(0, .index 338), (1, .int v1_), (2, .index a1001)] [] h_ (none, h', [])))) := by
  have hA : yas ese0_A (ese0_r v1_) (yg (ese0_s a1001)) := ⟨List.forall_mem_cons.mpr ⟨b0, fun q_ hq => absurd hq List.not_mem_nil⟩, fun q_ hq => absurd hq List.not_mem_nil, fun q_ hq => absurd hq List.not_mem_nil, fun n_ hn => yg_lo hn, fun q_ hq => absurd hq List.not_mem_nil⟩
  have Hs : ysh ese0_A.1 (yg (ese0_s a1001)) h_ := ysh_of2 hs (List.forall_mem_cons.mpr ⟨⟨by decide, k1001⟩, fun q_ hq => absurd hq List.not_mem_nil⟩)
  have Ho : ymem (ese0_r v1_) (yg (ese0_s a1001)) ese0_O h_ := List.forall_mem_cons.mpr ⟨bpat_some (fxr_at hs.2 (show fxk fxl 338 0 = some 339 by decide +kernel)), List.forall_mem_cons.mpr ⟨bpat_some o0_, fun q_ hq => absurd hq List.not_mem_nil⟩⟩
  have HC : ∀ q_ ∈ ese0_C, xhold (ese0_r v1_) q_ := fun q_ hq => absurd hq List.not_mem_nil
  rcases yrun (yis_ok ese0_k) hA Hs Ho HC with ⟨q_, hq, h', K_, G_⟩ | ⟨q_, hq, h', K_, G_⟩
  · cases hq
  · have e_ := List.mem_singleton.mp hq
    subst e_
    exact ⟨h', yfr_sm K_.2.2.2 hs K_.1 (ywa_r ese0_w List.mem_cons_self), ⟨fun a_ j_ => yfr_bp K_.2.2.2 (fun q_ hq => absurd hq List.not_mem_nil), G_⟩⟩
-- ese1: 19 steps, 1 ends, 0 returns
def ese1_L : List (Nat × Nat × Nat) := [(1001, 20, 13)]
def ese1_O : yO := [(338, .int 0, .index 339), (339, .add (.add (.int 10) (.mul (.int 3) (.arg 1))) (.int 0), .int 1)]
def ese1_A : yA := (yZ ese1_L, [(.add (.add (.int 10) (.mul (.int 3) (.arg 1))) (.int 0), 768)], [], [], [])
def ese1_C : List xB := []
def ese1_ss : List yS := [(47, [(0, .index 338), (1, .arg 1), (2, .index 1001)], [.int 1, .int 1, .index 1001], [(338, .int 0, .index 339), (339, .add (.add (.int 10) (.mul (.int 3) (.arg 1))) (.int 0), .int 1)], [], [])]
def ese1_rs : List yR := []
theorem ese1_w : ywa ese1_A ese1_ss ese1_rs = true := by decide +kernel
theorem ese1_k : yis (yev ese1_A 3000 60 151 [47] (0, [(0, .index 338), (1, .arg 1), (2, .index 1001)], [], ese1_O, ese1_C, [])) ese1_ss ese1_rs = true := by decide +kernel
def ese1_r (v1_ : Int32) (k_ : Nat) : Value := bif Nat.beq k_ 1 then .int v1_ else (.int 0)
def ese1_s (a1001 : Nat) (n_ : Nat) : Nat := bif Nat.beq n_ 1001 then a1001 else (0)
theorem ese1 {h_ : xH} {a1001 : Nat} {v1_ : Int32} (hs : sHp h_) (k1001 : bcq h_ a1001 20 13) (o0_ : bpat h_ 339 ((((10 : Int32) + ((3 : Int32) * v1_)) + (0 : Int32))).toInt.toNat = some (.int (1 : Int32))) (b0 : 0 ≤ ((((10 : Int32) + ((3 : Int32) * v1_)) + (0 : Int32))).toInt ∧ ((((10 : Int32) + ((3 : Int32) * v1_)) + (0 : Int32))).toInt < 768) : ∃ h', ysm h_ h' ∧ (((∀ a_ j_ : Nat, bpat h' a_ j_ = bpat h_ a_ j_) ∧ (bldD 60 151 0 [(0, .index 338), (1, .int v1_), (2, .index a1001)] [] h_ 47 [(0, .index 338), (1, .int v1_), (2, .index a1001)] [.int (1 : Int32), .int (1 : Int32), .index a1001] h'))) := by
  have hA : yas ese1_A (ese1_r v1_) (yg (ese1_s a1001)) := ⟨List.forall_mem_cons.mpr ⟨b0, fun q_ hq => absurd hq List.not_mem_nil⟩, fun q_ hq => absurd hq List.not_mem_nil, fun q_ hq => absurd hq List.not_mem_nil, fun n_ hn => yg_lo hn, fun q_ hq => absurd hq List.not_mem_nil⟩
  have Hs : ysh ese1_A.1 (yg (ese1_s a1001)) h_ := ysh_of2 hs (List.forall_mem_cons.mpr ⟨⟨by decide, k1001⟩, fun q_ hq => absurd hq List.not_mem_nil⟩)
  have Ho : ymem (ese1_r v1_) (yg (ese1_s a1001)) ese1_O h_ := List.forall_mem_cons.mpr ⟨bpat_some (fxr_at hs.2 (show fxk fxl 338 0 = some 339 by decide +kernel)), List.forall_mem_cons.mpr ⟨bpat_some o0_, fun q_ hq => absurd hq List.not_mem_nil⟩⟩
  have HC : ∀ q_ ∈ ese1_C, xhold (ese1_r v1_) q_ := fun q_ hq => absurd hq List.not_mem_nil
  rcases yrun (yis_ok ese1_k) hA Hs Ho HC with ⟨q_, hq, h', K_, G_⟩ | ⟨q_, hq, h', K_, G_⟩
  · have e_ := List.mem_singleton.mp hq
    subst e_
    exact ⟨h', yfr_sm K_.2.2.2 hs K_.1 (ywa_s ese1_w List.mem_cons_self), ⟨fun a_ j_ => yfr_bp K_.2.2.2 (fun q_ hq => absurd hq List.not_mem_nil), G_⟩⟩
  · cases hq
-- ese2: 19 steps, 1 ends, 0 returns
def ese2_L : List (Nat × Nat × Nat) := [(1001, 20, 13)]
def ese2_O : yO := [(338, .int 0, .index 339), (339, .add (.add (.int 10) (.mul (.int 3) (.arg 1))) (.int 0), .int 2)]
def ese2_A : yA := (yZ ese2_L, [(.add (.add (.int 10) (.mul (.int 3) (.arg 1))) (.int 0), 768)], [], [], [])
def ese2_C : List xB := []
def ese2_ss : List yS := [(56, [(0, .index 338), (1, .arg 1), (2, .index 1001)], [.int 2, .int 2, .index 1001], [(338, .int 0, .index 339), (339, .add (.add (.int 10) (.mul (.int 3) (.arg 1))) (.int 0), .int 2)], [], [])]
def ese2_rs : List yR := []
theorem ese2_w : ywa ese2_A ese2_ss ese2_rs = true := by decide +kernel
theorem ese2_k : yis (yev ese2_A 3000 60 151 [56] (0, [(0, .index 338), (1, .arg 1), (2, .index 1001)], [], ese2_O, ese2_C, [])) ese2_ss ese2_rs = true := by decide +kernel
def ese2_r (v1_ : Int32) (k_ : Nat) : Value := bif Nat.beq k_ 1 then .int v1_ else (.int 0)
def ese2_s (a1001 : Nat) (n_ : Nat) : Nat := bif Nat.beq n_ 1001 then a1001 else (0)
theorem ese2 {h_ : xH} {a1001 : Nat} {v1_ : Int32} (hs : sHp h_) (k1001 : bcq h_ a1001 20 13) (o0_ : bpat h_ 339 ((((10 : Int32) + ((3 : Int32) * v1_)) + (0 : Int32))).toInt.toNat = some (.int (2 : Int32))) (b0 : 0 ≤ ((((10 : Int32) + ((3 : Int32) * v1_)) + (0 : Int32))).toInt ∧ ((((10 : Int32) + ((3 : Int32) * v1_)) + (0 : Int32))).toInt < 768) : ∃ h', ysm h_ h' ∧ (((∀ a_ j_ : Nat, bpat h' a_ j_ = bpat h_ a_ j_) ∧ (bldD 60 151 0 [(0, .index 338), (1, .int v1_), (2, .index a1001)] [] h_ 56 [(0, .index 338), (1, .int v1_), (2, .index a1001)] [.int (2 : Int32), .int (2 : Int32), .index a1001] h'))) := by
  have hA : yas ese2_A (ese2_r v1_) (yg (ese2_s a1001)) := ⟨List.forall_mem_cons.mpr ⟨b0, fun q_ hq => absurd hq List.not_mem_nil⟩, fun q_ hq => absurd hq List.not_mem_nil, fun q_ hq => absurd hq List.not_mem_nil, fun n_ hn => yg_lo hn, fun q_ hq => absurd hq List.not_mem_nil⟩
  have Hs : ysh ese2_A.1 (yg (ese2_s a1001)) h_ := ysh_of2 hs (List.forall_mem_cons.mpr ⟨⟨by decide, k1001⟩, fun q_ hq => absurd hq List.not_mem_nil⟩)
  have Ho : ymem (ese2_r v1_) (yg (ese2_s a1001)) ese2_O h_ := List.forall_mem_cons.mpr ⟨bpat_some (fxr_at hs.2 (show fxk fxl 338 0 = some 339 by decide +kernel)), List.forall_mem_cons.mpr ⟨bpat_some o0_, fun q_ hq => absurd hq List.not_mem_nil⟩⟩
  have HC : ∀ q_ ∈ ese2_C, xhold (ese2_r v1_) q_ := fun q_ hq => absurd hq List.not_mem_nil
  rcases yrun (yis_ok ese2_k) hA Hs Ho HC with ⟨q_, hq, h', K_, G_⟩ | ⟨q_, hq, h', K_, G_⟩
  · have e_ := List.mem_singleton.mp hq
    subst e_
    exact ⟨h', yfr_sm K_.2.2.2 hs K_.1 (ywa_s ese2_w List.mem_cons_self), ⟨fun a_ j_ => yfr_bp K_.2.2.2 (fun q_ hq => absurd hq List.not_mem_nil), G_⟩⟩
  · cases hq
-- ese3: 18 steps, 1 ends, 0 returns
def ese3_L : List (Nat × Nat × Nat) := [(1001, 20, 13)]
def ese3_O : yO := [(338, .int 0, .index 339), (339, .add (.add (.int 10) (.mul (.int 3) (.arg 1))) (.int 0), .int 3)]
def ese3_A : yA := (yZ ese3_L, [(.add (.add (.int 10) (.mul (.int 3) (.arg 1))) (.int 0), 768)], [], [], [])
def ese3_C : List xB := []
def ese3_ss : List yS := [(64, [(3, .int 1), (0, .index 338), (1, .arg 1), (2, .index 1001)], [], [(338, .int 0, .index 339), (339, .add (.add (.int 10) (.mul (.int 3) (.arg 1))) (.int 0), .int 3)], [], [])]
def ese3_rs : List yR := []
theorem ese3_w : ywa ese3_A ese3_ss ese3_rs = true := by decide +kernel
theorem ese3_k : yis (yev ese3_A 3000 60 151 [64] (0, [(0, .index 338), (1, .arg 1), (2, .index 1001)], [], ese3_O, ese3_C, [])) ese3_ss ese3_rs = true := by decide +kernel
def ese3_r (v1_ : Int32) (k_ : Nat) : Value := bif Nat.beq k_ 1 then .int v1_ else (.int 0)
def ese3_s (a1001 : Nat) (n_ : Nat) : Nat := bif Nat.beq n_ 1001 then a1001 else (0)
theorem ese3 {h_ : xH} {a1001 : Nat} {v1_ : Int32} (hs : sHp h_) (k1001 : bcq h_ a1001 20 13) (o0_ : bpat h_ 339 ((((10 : Int32) + ((3 : Int32) * v1_)) + (0 : Int32))).toInt.toNat = some (.int (3 : Int32))) (b0 : 0 ≤ ((((10 : Int32) + ((3 : Int32) * v1_)) + (0 : Int32))).toInt ∧ ((((10 : Int32) + ((3 : Int32) * v1_)) + (0 : Int32))).toInt < 768) : ∃ h', ysm h_ h' ∧ (((∀ a_ j_ : Nat, bpat h' a_ j_ = bpat h_ a_ j_) ∧ (bldD 60 151 0 [(0, .index 338), (1, .int v1_), (2, .index a1001)] [] h_ 64 [(3, .int (1 : Int32)), (0, .index 338), (1, .int v1_), (2, .index a1001)] [] h'))) := by
  have hA : yas ese3_A (ese3_r v1_) (yg (ese3_s a1001)) := ⟨List.forall_mem_cons.mpr ⟨b0, fun q_ hq => absurd hq List.not_mem_nil⟩, fun q_ hq => absurd hq List.not_mem_nil, fun q_ hq => absurd hq List.not_mem_nil, fun n_ hn => yg_lo hn, fun q_ hq => absurd hq List.not_mem_nil⟩
  have Hs : ysh ese3_A.1 (yg (ese3_s a1001)) h_ := ysh_of2 hs (List.forall_mem_cons.mpr ⟨⟨by decide, k1001⟩, fun q_ hq => absurd hq List.not_mem_nil⟩)
  have Ho : ymem (ese3_r v1_) (yg (ese3_s a1001)) ese3_O h_ := List.forall_mem_cons.mpr ⟨bpat_some (fxr_at hs.2 (show fxk fxl 338 0 = some 339 by decide +kernel)), List.forall_mem_cons.mpr ⟨bpat_some o0_, fun q_ hq => absurd hq List.not_mem_nil⟩⟩
  have HC : ∀ q_ ∈ ese3_C, xhold (ese3_r v1_) q_ := fun q_ hq => absurd hq List.not_mem_nil
  rcases yrun (yis_ok ese3_k) hA Hs Ho HC with ⟨q_, hq, h', K_, G_⟩ | ⟨q_, hq, h', K_, G_⟩
  · have e_ := List.mem_singleton.mp hq
    subst e_
    exact ⟨h', yfr_sm K_.2.2.2 hs K_.1 (ywa_s ese3_w List.mem_cons_self), ⟨fun a_ j_ => yfr_bp K_.2.2.2 (fun q_ hq => absurd hq List.not_mem_nil), G_⟩⟩
  · cases hq
-- ese4: 18 steps, 1 ends, 0 returns
def ese4_L : List (Nat × Nat × Nat) := [(1001, 20, 13)]
def ese4_O : yO := [(338, .int 0, .index 339), (339, .add (.add (.int 10) (.mul (.int 3) (.arg 1))) (.int 0), .int 4)]
def ese4_A : yA := (yZ ese4_L, [(.add (.add (.int 10) (.mul (.int 3) (.arg 1))) (.int 0), 768)], [], [], [])
def ese4_C : List xB := []
def ese4_ss : List yS := [(105, [(0, .index 338), (1, .arg 1), (2, .index 1001)], [.index 1001, .index 338], [(338, .int 0, .index 339), (339, .add (.add (.int 10) (.mul (.int 3) (.arg 1))) (.int 0), .int 4)], [], [])]
def ese4_rs : List yR := []
theorem ese4_w : ywa ese4_A ese4_ss ese4_rs = true := by decide +kernel
theorem ese4_k : yis (yev ese4_A 3000 60 151 [105] (0, [(0, .index 338), (1, .arg 1), (2, .index 1001)], [], ese4_O, ese4_C, [])) ese4_ss ese4_rs = true := by decide +kernel
def ese4_r (v1_ : Int32) (k_ : Nat) : Value := bif Nat.beq k_ 1 then .int v1_ else (.int 0)
def ese4_s (a1001 : Nat) (n_ : Nat) : Nat := bif Nat.beq n_ 1001 then a1001 else (0)
theorem ese4 {h_ : xH} {a1001 : Nat} {v1_ : Int32} (hs : sHp h_) (k1001 : bcq h_ a1001 20 13) (o0_ : bpat h_ 339 ((((10 : Int32) + ((3 : Int32) * v1_)) + (0 : Int32))).toInt.toNat = some (.int (4 : Int32))) (b0 : 0 ≤ ((((10 : Int32) + ((3 : Int32) * v1_)) + (0 : Int32))).toInt ∧ ((((10 : Int32) + ((3 : Int32) * v1_)) + (0 : Int32))).toInt < 768) : ∃ h', ysm h_ h' ∧ (((∀ a_ j_ : Nat, bpat h' a_ j_ = bpat h_ a_ j_) ∧ (bldD 60 151 0 [(0, .index 338), (1, .int v1_), (2, .index a1001)] [] h_ 105 [(0, .index 338), (1, .int v1_), (2, .index a1001)] [.index a1001, .index 338] h'))) := by
  have hA : yas ese4_A (ese4_r v1_) (yg (ese4_s a1001)) := ⟨List.forall_mem_cons.mpr ⟨b0, fun q_ hq => absurd hq List.not_mem_nil⟩, fun q_ hq => absurd hq List.not_mem_nil, fun q_ hq => absurd hq List.not_mem_nil, fun n_ hn => yg_lo hn, fun q_ hq => absurd hq List.not_mem_nil⟩
  have Hs : ysh ese4_A.1 (yg (ese4_s a1001)) h_ := ysh_of2 hs (List.forall_mem_cons.mpr ⟨⟨by decide, k1001⟩, fun q_ hq => absurd hq List.not_mem_nil⟩)
  have Ho : ymem (ese4_r v1_) (yg (ese4_s a1001)) ese4_O h_ := List.forall_mem_cons.mpr ⟨bpat_some (fxr_at hs.2 (show fxk fxl 338 0 = some 339 by decide +kernel)), List.forall_mem_cons.mpr ⟨bpat_some o0_, fun q_ hq => absurd hq List.not_mem_nil⟩⟩
  have HC : ∀ q_ ∈ ese4_C, xhold (ese4_r v1_) q_ := fun q_ hq => absurd hq List.not_mem_nil
  rcases yrun (yis_ok ese4_k) hA Hs Ho HC with ⟨q_, hq, h', K_, G_⟩ | ⟨q_, hq, h', K_, G_⟩
  · have e_ := List.mem_singleton.mp hq
    subst e_
    exact ⟨h', yfr_sm K_.2.2.2 hs K_.1 (ywa_s ese4_w List.mem_cons_self), ⟨fun a_ j_ => yfr_bp K_.2.2.2 (fun q_ hq => absurd hq List.not_mem_nil), G_⟩⟩
  · cases hq
-- ese5: 18 steps, 1 ends, 0 returns
def ese5_L : List (Nat × Nat × Nat) := [(1001, 20, 13)]
def ese5_O : yO := [(338, .int 0, .index 339), (339, .add (.add (.int 10) (.mul (.int 3) (.arg 1))) (.int 0), .int 5)]
def ese5_A : yA := (yZ ese5_L, [(.add (.add (.int 10) (.mul (.int 3) (.arg 1))) (.int 0), 768)], [], [], [])
def ese5_C : List xB := []
def ese5_ss : List yS := [(113, [(0, .index 338), (1, .arg 1), (2, .index 1001)], [.index 1001, .index 338], [(338, .int 0, .index 339), (339, .add (.add (.int 10) (.mul (.int 3) (.arg 1))) (.int 0), .int 5)], [], [])]
def ese5_rs : List yR := []
theorem ese5_w : ywa ese5_A ese5_ss ese5_rs = true := by decide +kernel
theorem ese5_k : yis (yev ese5_A 3000 60 151 [113] (0, [(0, .index 338), (1, .arg 1), (2, .index 1001)], [], ese5_O, ese5_C, [])) ese5_ss ese5_rs = true := by decide +kernel
def ese5_r (v1_ : Int32) (k_ : Nat) : Value := bif Nat.beq k_ 1 then .int v1_ else (.int 0)
def ese5_s (a1001 : Nat) (n_ : Nat) : Nat := bif Nat.beq n_ 1001 then a1001 else (0)
theorem ese5 {h_ : xH} {a1001 : Nat} {v1_ : Int32} (hs : sHp h_) (k1001 : bcq h_ a1001 20 13) (o0_ : bpat h_ 339 ((((10 : Int32) + ((3 : Int32) * v1_)) + (0 : Int32))).toInt.toNat = some (.int (5 : Int32))) (b0 : 0 ≤ ((((10 : Int32) + ((3 : Int32) * v1_)) + (0 : Int32))).toInt ∧ ((((10 : Int32) + ((3 : Int32) * v1_)) + (0 : Int32))).toInt < 768) : ∃ h', ysm h_ h' ∧ (((∀ a_ j_ : Nat, bpat h' a_ j_ = bpat h_ a_ j_) ∧ (bldD 60 151 0 [(0, .index 338), (1, .int v1_), (2, .index a1001)] [] h_ 113 [(0, .index 338), (1, .int v1_), (2, .index a1001)] [.index a1001, .index 338] h'))) := by
  have hA : yas ese5_A (ese5_r v1_) (yg (ese5_s a1001)) := ⟨List.forall_mem_cons.mpr ⟨b0, fun q_ hq => absurd hq List.not_mem_nil⟩, fun q_ hq => absurd hq List.not_mem_nil, fun q_ hq => absurd hq List.not_mem_nil, fun n_ hn => yg_lo hn, fun q_ hq => absurd hq List.not_mem_nil⟩
  have Hs : ysh ese5_A.1 (yg (ese5_s a1001)) h_ := ysh_of2 hs (List.forall_mem_cons.mpr ⟨⟨by decide, k1001⟩, fun q_ hq => absurd hq List.not_mem_nil⟩)
  have Ho : ymem (ese5_r v1_) (yg (ese5_s a1001)) ese5_O h_ := List.forall_mem_cons.mpr ⟨bpat_some (fxr_at hs.2 (show fxk fxl 338 0 = some 339 by decide +kernel)), List.forall_mem_cons.mpr ⟨bpat_some o0_, fun q_ hq => absurd hq List.not_mem_nil⟩⟩
  have HC : ∀ q_ ∈ ese5_C, xhold (ese5_r v1_) q_ := fun q_ hq => absurd hq List.not_mem_nil
  rcases yrun (yis_ok ese5_k) hA Hs Ho HC with ⟨q_, hq, h', K_, G_⟩ | ⟨q_, hq, h', K_, G_⟩
  · have e_ := List.mem_singleton.mp hq
    subst e_
    exact ⟨h', yfr_sm K_.2.2.2 hs K_.1 (ywa_s ese5_w List.mem_cons_self), ⟨fun a_ j_ => yfr_bp K_.2.2.2 (fun q_ hq => absurd hq List.not_mem_nil), G_⟩⟩
  · cases hq
-- ese6: 19 steps, 1 ends, 0 returns
def ese6_L : List (Nat × Nat × Nat) := [(1001, 20, 13)]
def ese6_O : yO := [(338, .int 0, .index 339), (339, .add (.add (.int 10) (.mul (.int 3) (.arg 1))) (.int 0), .int 6)]
def ese6_A : yA := (yZ ese6_L, [(.add (.add (.int 10) (.mul (.int 3) (.arg 1))) (.int 0), 768)], [], [], [])
def ese6_C : List xB := []
def ese6_ss : List yS := [(133, [(0, .index 338), (1, .arg 1), (2, .index 1001)], [.int 1, .int 1, .index 1001], [(338, .int 0, .index 339), (339, .add (.add (.int 10) (.mul (.int 3) (.arg 1))) (.int 0), .int 6)], [], [])]
def ese6_rs : List yR := []
theorem ese6_w : ywa ese6_A ese6_ss ese6_rs = true := by decide +kernel
theorem ese6_k : yis (yev ese6_A 3000 60 151 [133] (0, [(0, .index 338), (1, .arg 1), (2, .index 1001)], [], ese6_O, ese6_C, [])) ese6_ss ese6_rs = true := by decide +kernel
def ese6_r (v1_ : Int32) (k_ : Nat) : Value := bif Nat.beq k_ 1 then .int v1_ else (.int 0)
def ese6_s (a1001 : Nat) (n_ : Nat) : Nat := bif Nat.beq n_ 1001 then a1001 else (0)
theorem ese6 {h_ : xH} {a1001 : Nat} {v1_ : Int32} (hs : sHp h_) (k1001 : bcq h_ a1001 20 13) (o0_ : bpat h_ 339 ((((10 : Int32) + ((3 : Int32) * v1_)) + (0 : Int32))).toInt.toNat = some (.int (6 : Int32))) (b0 : 0 ≤ ((((10 : Int32) + ((3 : Int32) * v1_)) + (0 : Int32))).toInt ∧ ((((10 : Int32) + ((3 : Int32) * v1_)) + (0 : Int32))).toInt < 768) : ∃ h', ysm h_ h' ∧ (((∀ a_ j_ : Nat, bpat h' a_ j_ = bpat h_ a_ j_) ∧ (bldD 60 151 0 [(0, .index 338), (1, .int v1_), (2, .index a1001)] [] h_ 133 [(0, .index 338), (1, .int v1_), (2, .index a1001)] [.int (1 : Int32), .int (1 : Int32), .index a1001] h'))) := by
  have hA : yas ese6_A (ese6_r v1_) (yg (ese6_s a1001)) := ⟨List.forall_mem_cons.mpr ⟨b0, fun q_ hq => absurd hq List.not_mem_nil⟩, fun q_ hq => absurd hq List.not_mem_nil, fun q_ hq => absurd hq List.not_mem_nil, fun n_ hn => yg_lo hn, fun q_ hq => absurd hq List.not_mem_nil⟩
  have Hs : ysh ese6_A.1 (yg (ese6_s a1001)) h_ := ysh_of2 hs (List.forall_mem_cons.mpr ⟨⟨by decide, k1001⟩, fun q_ hq => absurd hq List.not_mem_nil⟩)
  have Ho : ymem (ese6_r v1_) (yg (ese6_s a1001)) ese6_O h_ := List.forall_mem_cons.mpr ⟨bpat_some (fxr_at hs.2 (show fxk fxl 338 0 = some 339 by decide +kernel)), List.forall_mem_cons.mpr ⟨bpat_some o0_, fun q_ hq => absurd hq List.not_mem_nil⟩⟩
  have HC : ∀ q_ ∈ ese6_C, xhold (ese6_r v1_) q_ := fun q_ hq => absurd hq List.not_mem_nil
  rcases yrun (yis_ok ese6_k) hA Hs Ho HC with ⟨q_, hq, h', K_, G_⟩ | ⟨q_, hq, h', K_, G_⟩
  · have e_ := List.mem_singleton.mp hq
    subst e_
    exact ⟨h', yfr_sm K_.2.2.2 hs K_.1 (ywa_s ese6_w List.mem_cons_self), ⟨fun a_ j_ => yfr_bp K_.2.2.2 (fun q_ hq => absurd hq List.not_mem_nil), G_⟩⟩
  · cases hq
-- xse1: 2 steps, 0 ends, 1 returns
def xse1_L : List (Nat × Nat × Nat) := [(1001, 20, 13)]
def xse1_O : yO := []
def xse1_A : yA := (yZ xse1_L, [], [], [], [])
def xse1_C : List xB := []
def xse1_ss : List yS := []
def xse1_rs : List yR := [(none, [], [], [])]
theorem xse1_w : ywa xse1_A xse1_ss xse1_rs = true := by decide +kernel
theorem xse1_k : yis (yev xse1_A 3000 60 151 [] (50, [(0, .index 338), (1, .arg 1), (2, .index 1001)], [], xse1_O, xse1_C, [])) xse1_ss xse1_rs = true := by decide +kernel
def xse1_r (v1_ : Int32) (k_ : Nat) : Value := bif Nat.beq k_ 1 then .int v1_ else (.int 0)
def xse1_s (a1001 : Nat) (n_ : Nat) : Nat := bif Nat.beq n_ 1001 then a1001 else (0)
theorem xse1 {h_ : xH} {a1001 : Nat} {v1_ : Int32} (hs : sHp h_) (k1001 : bcq h_ a1001 20 13) : ∃ h', ysm h_ h' ∧ (((∀ a_ j_ : Nat, bpat h' a_ j_ = bpat h_ a_ j_) ∧ (∀ D_, 60 ≤ D_ → xrun D_ 151 50 [(0, .index 338), (1, .int v1_), (2, .index a1001)] [] h_ (none, h', [])))) := by
  have hA : yas xse1_A (xse1_r v1_) (yg (xse1_s a1001)) := ⟨fun q_ hq => absurd hq List.not_mem_nil, fun q_ hq => absurd hq List.not_mem_nil, fun q_ hq => absurd hq List.not_mem_nil, fun n_ hn => yg_lo hn, fun q_ hq => absurd hq List.not_mem_nil⟩
  have Hs : ysh xse1_A.1 (yg (xse1_s a1001)) h_ := ysh_of2 hs (List.forall_mem_cons.mpr ⟨⟨by decide, k1001⟩, fun q_ hq => absurd hq List.not_mem_nil⟩)
  have Ho : ymem (xse1_r v1_) (yg (xse1_s a1001)) xse1_O h_ := fun q_ hq => absurd hq List.not_mem_nil
  have HC : ∀ q_ ∈ xse1_C, xhold (xse1_r v1_) q_ := fun q_ hq => absurd hq List.not_mem_nil
  rcases yrun (yis_ok xse1_k) hA Hs Ho HC with ⟨q_, hq, h', K_, G_⟩ | ⟨q_, hq, h', K_, G_⟩
  · cases hq
  · have e_ := List.mem_singleton.mp hq
    subst e_
    exact ⟨h', yfr_sm K_.2.2.2 hs K_.1 (ywa_r xse1_w List.mem_cons_self), ⟨fun a_ j_ => yfr_bp K_.2.2.2 (fun q_ hq => absurd hq List.not_mem_nil), G_⟩⟩
-- xse2: 2 steps, 0 ends, 1 returns
def xse2_L : List (Nat × Nat × Nat) := [(1001, 20, 13)]
def xse2_O : yO := []
def xse2_A : yA := (yZ xse2_L, [], [], [], [])
def xse2_C : List xB := []
def xse2_ss : List yS := []
def xse2_rs : List yR := [(none, [], [], [])]
theorem xse2_w : ywa xse2_A xse2_ss xse2_rs = true := by decide +kernel
theorem xse2_k : yis (yev xse2_A 3000 60 151 [] (59, [(0, .index 338), (1, .arg 1), (2, .index 1001)], [], xse2_O, xse2_C, [])) xse2_ss xse2_rs = true := by decide +kernel
def xse2_r (v1_ : Int32) (k_ : Nat) : Value := bif Nat.beq k_ 1 then .int v1_ else (.int 0)
def xse2_s (a1001 : Nat) (n_ : Nat) : Nat := bif Nat.beq n_ 1001 then a1001 else (0)
theorem xse2 {h_ : xH} {a1001 : Nat} {v1_ : Int32} (hs : sHp h_) (k1001 : bcq h_ a1001 20 13) : ∃ h', ysm h_ h' ∧ (((∀ a_ j_ : Nat, bpat h' a_ j_ = bpat h_ a_ j_) ∧ (∀ D_, 60 ≤ D_ → xrun D_ 151 59 [(0, .index 338), (1, .int v1_), (2, .index a1001)] [] h_ (none, h', [])))) := by
  have hA : yas xse2_A (xse2_r v1_) (yg (xse2_s a1001)) := ⟨fun q_ hq => absurd hq List.not_mem_nil, fun q_ hq => absurd hq List.not_mem_nil, fun q_ hq => absurd hq List.not_mem_nil, fun n_ hn => yg_lo hn, fun q_ hq => absurd hq List.not_mem_nil⟩
  have Hs : ysh xse2_A.1 (yg (xse2_s a1001)) h_ := ysh_of2 hs (List.forall_mem_cons.mpr ⟨⟨by decide, k1001⟩, fun q_ hq => absurd hq List.not_mem_nil⟩)
  have Ho : ymem (xse2_r v1_) (yg (xse2_s a1001)) xse2_O h_ := fun q_ hq => absurd hq List.not_mem_nil
  have HC : ∀ q_ ∈ xse2_C, xhold (xse2_r v1_) q_ := fun q_ hq => absurd hq List.not_mem_nil
  rcases yrun (yis_ok xse2_k) hA Hs Ho HC with ⟨q_, hq, h', K_, G_⟩ | ⟨q_, hq, h', K_, G_⟩
  · cases hq
  · have e_ := List.mem_singleton.mp hq
    subst e_
    exact ⟨h', yfr_sm K_.2.2.2 hs K_.1 (ywa_r xse2_w List.mem_cons_self), ⟨fun a_ j_ => yfr_bp K_.2.2.2 (fun q_ hq => absurd hq List.not_mem_nil), G_⟩⟩
-- xse4: 2 steps, 0 ends, 1 returns
def xse4_L : List (Nat × Nat × Nat) := [(1001, 20, 13)]
def xse4_O : yO := []
def xse4_A : yA := (yZ xse4_L, [], [], [], [])
def xse4_C : List xB := []
def xse4_ss : List yS := []
def xse4_rs : List yR := [(none, [], [], [])]
theorem xse4_w : ywa xse4_A xse4_ss xse4_rs = true := by decide +kernel
theorem xse4_k : yis (yev xse4_A 3000 60 151 [] (108, [(0, .index 338), (1, .arg 1), (2, .index 1001)], [], xse4_O, xse4_C, [])) xse4_ss xse4_rs = true := by decide +kernel
def xse4_r (v1_ : Int32) (k_ : Nat) : Value := bif Nat.beq k_ 1 then .int v1_ else (.int 0)
def xse4_s (a1001 : Nat) (n_ : Nat) : Nat := bif Nat.beq n_ 1001 then a1001 else (0)
theorem xse4 {h_ : xH} {a1001 : Nat} {v1_ : Int32} (hs : sHp h_) (k1001 : bcq h_ a1001 20 13) : ∃ h', ysm h_ h' ∧ (((∀ a_ j_ : Nat, bpat h' a_ j_ = bpat h_ a_ j_) ∧ (∀ D_, 60 ≤ D_ → xrun D_ 151 108 [(0, .index 338), (1, .int v1_), (2, .index a1001)] [] h_ (none, h', [])))) := by
  have hA : yas xse4_A (xse4_r v1_) (yg (xse4_s a1001)) := ⟨fun q_ hq => absurd hq List.not_mem_nil, fun q_ hq => absurd hq List.not_mem_nil, fun q_ hq => absurd hq List.not_mem_nil, fun n_ hn => yg_lo hn, fun q_ hq => absurd hq List.not_mem_nil⟩
  have Hs : ysh xse4_A.1 (yg (xse4_s a1001)) h_ := ysh_of2 hs (List.forall_mem_cons.mpr ⟨⟨by decide, k1001⟩, fun q_ hq => absurd hq List.not_mem_nil⟩)
  have Ho : ymem (xse4_r v1_) (yg (xse4_s a1001)) xse4_O h_ := fun q_ hq => absurd hq List.not_mem_nil
  have HC : ∀ q_ ∈ xse4_C, xhold (xse4_r v1_) q_ := fun q_ hq => absurd hq List.not_mem_nil
  rcases yrun (yis_ok xse4_k) hA Hs Ho HC with ⟨q_, hq, h', K_, G_⟩ | ⟨q_, hq, h', K_, G_⟩
  · cases hq
  · have e_ := List.mem_singleton.mp hq
    subst e_
    exact ⟨h', yfr_sm K_.2.2.2 hs K_.1 (ywa_r xse4_w List.mem_cons_self), ⟨fun a_ j_ => yfr_bp K_.2.2.2 (fun q_ hq => absurd hq List.not_mem_nil), G_⟩⟩
-- xse5: 2 steps, 0 ends, 1 returns
def xse5_L : List (Nat × Nat × Nat) := [(1001, 20, 13)]
def xse5_O : yO := []
def xse5_A : yA := (yZ xse5_L, [], [], [], [])
def xse5_C : List xB := []
def xse5_ss : List yS := []
def xse5_rs : List yR := [(none, [], [], [])]
theorem xse5_w : ywa xse5_A xse5_ss xse5_rs = true := by decide +kernel
theorem xse5_k : yis (yev xse5_A 3000 60 151 [] (127, [(0, .index 338), (1, .arg 1), (2, .index 1001)], [], xse5_O, xse5_C, [])) xse5_ss xse5_rs = true := by decide +kernel
def xse5_r (v1_ : Int32) (k_ : Nat) : Value := bif Nat.beq k_ 1 then .int v1_ else (.int 0)
def xse5_s (a1001 : Nat) (n_ : Nat) : Nat := bif Nat.beq n_ 1001 then a1001 else (0)
theorem xse5 {h_ : xH} {a1001 : Nat} {v1_ : Int32} (hs : sHp h_) (k1001 : bcq h_ a1001 20 13) : ∃ h', ysm h_ h' ∧ (((∀ a_ j_ : Nat, bpat h' a_ j_ = bpat h_ a_ j_) ∧ (∀ D_, 60 ≤ D_ → xrun D_ 151 127 [(0, .index 338), (1, .int v1_), (2, .index a1001)] [] h_ (none, h', [])))) := by
  have hA : yas xse5_A (xse5_r v1_) (yg (xse5_s a1001)) := ⟨fun q_ hq => absurd hq List.not_mem_nil, fun q_ hq => absurd hq List.not_mem_nil, fun q_ hq => absurd hq List.not_mem_nil, fun n_ hn => yg_lo hn, fun q_ hq => absurd hq List.not_mem_nil⟩
  have Hs : ysh xse5_A.1 (yg (xse5_s a1001)) h_ := ysh_of2 hs (List.forall_mem_cons.mpr ⟨⟨by decide, k1001⟩, fun q_ hq => absurd hq List.not_mem_nil⟩)
  have Ho : ymem (xse5_r v1_) (yg (xse5_s a1001)) xse5_O h_ := fun q_ hq => absurd hq List.not_mem_nil
  have HC : ∀ q_ ∈ xse5_C, xhold (xse5_r v1_) q_ := fun q_ hq => absurd hq List.not_mem_nil
  rcases yrun (yis_ok xse5_k) hA Hs Ho HC with ⟨q_, hq, h', K_, G_⟩ | ⟨q_, hq, h', K_, G_⟩
  · cases hq
  · have e_ := List.mem_singleton.mp hq
    subst e_
    exact ⟨h', yfr_sm K_.2.2.2 hs K_.1 (ywa_r xse5_w List.mem_cons_self), ⟨fun a_ j_ => yfr_bp K_.2.2.2 (fun q_ hq => absurd hq List.not_mem_nil), G_⟩⟩
-- xse6: 2 steps, 0 ends, 1 returns
def xse6_L : List (Nat × Nat × Nat) := [(1001, 20, 13)]
def xse6_O : yO := []
def xse6_A : yA := (yZ xse6_L, [], [], [], [])
def xse6_C : List xB := []
def xse6_ss : List yS := []
def xse6_rs : List yR := [(none, [], [], [])]
theorem xse6_w : ywa xse6_A xse6_ss xse6_rs = true := by decide +kernel
theorem xse6_k : yis (yev xse6_A 3000 60 151 [] (147, [(0, .index 338), (1, .arg 1), (2, .index 1001)], [], xse6_O, xse6_C, [])) xse6_ss xse6_rs = true := by decide +kernel
def xse6_r (v1_ : Int32) (k_ : Nat) : Value := bif Nat.beq k_ 1 then .int v1_ else (.int 0)
def xse6_s (a1001 : Nat) (n_ : Nat) : Nat := bif Nat.beq n_ 1001 then a1001 else (0)
theorem xse6 {h_ : xH} {a1001 : Nat} {v1_ : Int32} (hs : sHp h_) (k1001 : bcq h_ a1001 20 13) : ∃ h', ysm h_ h' ∧ (((∀ a_ j_ : Nat, bpat h' a_ j_ = bpat h_ a_ j_) ∧ (∀ D_, 60 ≤ D_ → xrun D_ 151 147 [(0, .index 338), (1, .int v1_), (2, .index a1001)] [] h_ (none, h', [])))) := by
  have hA : yas xse6_A (xse6_r v1_) (yg (xse6_s a1001)) := ⟨fun q_ hq => absurd hq List.not_mem_nil, fun q_ hq => absurd hq List.not_mem_nil, fun q_ hq => absurd hq List.not_mem_nil, fun n_ hn => yg_lo hn, fun q_ hq => absurd hq List.not_mem_nil⟩
  have Hs : ysh xse6_A.1 (yg (xse6_s a1001)) h_ := ysh_of2 hs (List.forall_mem_cons.mpr ⟨⟨by decide, k1001⟩, fun q_ hq => absurd hq List.not_mem_nil⟩)
  have Ho : ymem (xse6_r v1_) (yg (xse6_s a1001)) xse6_O h_ := fun q_ hq => absurd hq List.not_mem_nil
  have HC : ∀ q_ ∈ xse6_C, xhold (xse6_r v1_) q_ := fun q_ hq => absurd hq List.not_mem_nil
  rcases yrun (yis_ok xse6_k) hA Hs Ho HC with ⟨q_, hq, h', K_, G_⟩ | ⟨q_, hq, h', K_, G_⟩
  · cases hq
  · have e_ := List.mem_singleton.mp hq
    subst e_
    exact ⟨h', yfr_sm K_.2.2.2 hs K_.1 (ywa_r xse6_w List.mem_cons_self), ⟨fun a_ j_ => yfr_bp K_.2.2.2 (fun q_ hq => absurd hq List.not_mem_nil), G_⟩⟩
-- mse5: 17 steps, 1 ends, 0 returns
def mse5_L : List (Nat × Nat × Nat) := [(1001, 20, 13)]
def mse5_O : yO := [(338, .int 0, .index 339), (339, .add (.add (.int 10) (.mul (.int 3) (.arg 1))) (.int 1), .arg 302)]
def mse5_A : yA := (yZ mse5_L, [(.add (.add (.int 10) (.mul (.int 3) (.arg 1))) (.int 1), 768)], [], [], [])
def mse5_C : List xB := []
def mse5_ss : List yS := [(124, [(0, .index 338), (1, .arg 1), (2, .index 1001)], [.arg 302, .index 1001, .index 338], [(338, .int 0, .index 339), (339, .add (.add (.int 10) (.mul (.int 3) (.arg 1))) (.int 1), .arg 302)], [], [])]
def mse5_rs : List yR := []
theorem mse5_w : ywa mse5_A mse5_ss mse5_rs = true := by decide +kernel
theorem mse5_k : yis (yev mse5_A 3000 60 151 [124] (116, [(0, .index 338), (1, .arg 1), (2, .index 1001)], [], mse5_O, mse5_C, [])) mse5_ss mse5_rs = true := by decide +kernel
def mse5_r (v1_ v302 : Int32) (k_ : Nat) : Value := bif Nat.beq k_ 1 then .int v1_ else (bif Nat.beq k_ 302 then .int v302 else (.int 0))
def mse5_s (a1001 : Nat) (n_ : Nat) : Nat := bif Nat.beq n_ 1001 then a1001 else (0)
theorem mse5 {h_ : xH} {a1001 : Nat} {v1_ v302 : Int32} (hs : sHp h_) (k1001 : bcq h_ a1001 20 13) (o0_ : bpat h_ 339 ((((10 : Int32) + ((3 : Int32) * v1_)) + (1 : Int32))).toInt.toNat = some (.int v302)) (b0 : 0 ≤ ((((10 : Int32) + ((3 : Int32) * v1_)) + (1 : Int32))).toInt ∧ ((((10 : Int32) + ((3 : Int32) * v1_)) + (1 : Int32))).toInt < 768) : ∃ h', ysm h_ h' ∧ (((∀ a_ j_ : Nat, bpat h' a_ j_ = bpat h_ a_ j_) ∧ (bldD 60 151 116 [(0, .index 338), (1, .int v1_), (2, .index a1001)] [] h_ 124 [(0, .index 338), (1, .int v1_), (2, .index a1001)] [.int v302, .index a1001, .index 338] h'))) := by
  have hA : yas mse5_A (mse5_r v1_ v302) (yg (mse5_s a1001)) := ⟨List.forall_mem_cons.mpr ⟨b0, fun q_ hq => absurd hq List.not_mem_nil⟩, fun q_ hq => absurd hq List.not_mem_nil, fun q_ hq => absurd hq List.not_mem_nil, fun n_ hn => yg_lo hn, fun q_ hq => absurd hq List.not_mem_nil⟩
  have Hs : ysh mse5_A.1 (yg (mse5_s a1001)) h_ := ysh_of2 hs (List.forall_mem_cons.mpr ⟨⟨by decide, k1001⟩, fun q_ hq => absurd hq List.not_mem_nil⟩)
  have Ho : ymem (mse5_r v1_ v302) (yg (mse5_s a1001)) mse5_O h_ := List.forall_mem_cons.mpr ⟨bpat_some (fxr_at hs.2 (show fxk fxl 338 0 = some 339 by decide +kernel)), List.forall_mem_cons.mpr ⟨bpat_some o0_, fun q_ hq => absurd hq List.not_mem_nil⟩⟩
  have HC : ∀ q_ ∈ mse5_C, xhold (mse5_r v1_ v302) q_ := fun q_ hq => absurd hq List.not_mem_nil
  rcases yrun (yis_ok mse5_k) hA Hs Ho HC with ⟨q_, hq, h', K_, G_⟩ | ⟨q_, hq, h', K_, G_⟩
  · have e_ := List.mem_singleton.mp hq
    subst e_
    exact ⟨h', yfr_sm K_.2.2.2 hs K_.1 (ywa_s mse5_w List.mem_cons_self), ⟨fun a_ j_ => yfr_bp K_.2.2.2 (fun q_ hq => absurd hq List.not_mem_nil), G_⟩⟩
  · cases hq
-- mse6: 17 steps, 1 ends, 0 returns
def mse6_L : List (Nat × Nat × Nat) := [(1001, 20, 13)]
def mse6_O : yO := [(338, .int 0, .index 339), (339, .add (.add (.int 10) (.mul (.int 3) (.arg 1))) (.int 1), .arg 302)]
def mse6_A : yA := (yZ mse6_L, [(.add (.add (.int 10) (.mul (.int 3) (.arg 1))) (.int 1), 768)], [], [], [])
def mse6_C : List xB := []
def mse6_ss : List yS := [(144, [(0, .index 338), (1, .arg 1), (2, .index 1001)], [.arg 302, .index 1001, .index 338], [(338, .int 0, .index 339), (339, .add (.add (.int 10) (.mul (.int 3) (.arg 1))) (.int 1), .arg 302)], [], [])]
def mse6_rs : List yR := []
theorem mse6_w : ywa mse6_A mse6_ss mse6_rs = true := by decide +kernel
theorem mse6_k : yis (yev mse6_A 3000 60 151 [144] (136, [(0, .index 338), (1, .arg 1), (2, .index 1001)], [], mse6_O, mse6_C, [])) mse6_ss mse6_rs = true := by decide +kernel
def mse6_r (v1_ v302 : Int32) (k_ : Nat) : Value := bif Nat.beq k_ 1 then .int v1_ else (bif Nat.beq k_ 302 then .int v302 else (.int 0))
def mse6_s (a1001 : Nat) (n_ : Nat) : Nat := bif Nat.beq n_ 1001 then a1001 else (0)
theorem mse6 {h_ : xH} {a1001 : Nat} {v1_ v302 : Int32} (hs : sHp h_) (k1001 : bcq h_ a1001 20 13) (o0_ : bpat h_ 339 ((((10 : Int32) + ((3 : Int32) * v1_)) + (1 : Int32))).toInt.toNat = some (.int v302)) (b0 : 0 ≤ ((((10 : Int32) + ((3 : Int32) * v1_)) + (1 : Int32))).toInt ∧ ((((10 : Int32) + ((3 : Int32) * v1_)) + (1 : Int32))).toInt < 768) : ∃ h', ysm h_ h' ∧ (((∀ a_ j_ : Nat, bpat h' a_ j_ = bpat h_ a_ j_) ∧ (bldD 60 151 136 [(0, .index 338), (1, .int v1_), (2, .index a1001)] [] h_ 144 [(0, .index 338), (1, .int v1_), (2, .index a1001)] [.int v302, .index a1001, .index 338] h'))) := by
  have hA : yas mse6_A (mse6_r v1_ v302) (yg (mse6_s a1001)) := ⟨List.forall_mem_cons.mpr ⟨b0, fun q_ hq => absurd hq List.not_mem_nil⟩, fun q_ hq => absurd hq List.not_mem_nil, fun q_ hq => absurd hq List.not_mem_nil, fun n_ hn => yg_lo hn, fun q_ hq => absurd hq List.not_mem_nil⟩
  have Hs : ysh mse6_A.1 (yg (mse6_s a1001)) h_ := ysh_of2 hs (List.forall_mem_cons.mpr ⟨⟨by decide, k1001⟩, fun q_ hq => absurd hq List.not_mem_nil⟩)
  have Ho : ymem (mse6_r v1_ v302) (yg (mse6_s a1001)) mse6_O h_ := List.forall_mem_cons.mpr ⟨bpat_some (fxr_at hs.2 (show fxk fxl 338 0 = some 339 by decide +kernel)), List.forall_mem_cons.mpr ⟨bpat_some o0_, fun q_ hq => absurd hq List.not_mem_nil⟩⟩
  have HC : ∀ q_ ∈ mse6_C, xhold (mse6_r v1_ v302) q_ := fun q_ hq => absurd hq List.not_mem_nil
  rcases yrun (yis_ok mse6_k) hA Hs Ho HC with ⟨q_, hq, h', K_, G_⟩ | ⟨q_, hq, h', K_, G_⟩
  · have e_ := List.mem_singleton.mp hq
    subst e_
    exact ⟨h', yfr_sm K_.2.2.2 hs K_.1 (ywa_s mse6_w List.mem_cons_self), ⟨fun a_ j_ => yfr_bp K_.2.2.2 (fun q_ hq => absurd hq List.not_mem_nil), G_⟩⟩
  · cases hq
theorem ik_k : (List.range 8).all (fun k_ => (List.range 3).all (fun j_ => decide (((10 : Int32) + 3 * Int32.ofNat k_ + Int32.ofNat j_).toInt = ((10 + 3 * k_ + j_ : Nat) : Int)))) = true := by decide +kernel
theorem ik_ok {k_ j_ : Nat} (hk : k_ < 8) (hj : j_ < 3) : ((10 : Int32) + 3 * Int32.ofNat k_ + Int32.ofNat j_).toInt = ((10 + 3 * k_ + j_ : Nat) : Int) := of_decide_eq_true (List.all_eq_true.mp (List.all_eq_true.mp ik_k k_ (List.mem_range.mpr hk)) j_ (List.mem_range.mpr hj))
/-- a ROCK's KIND, number, DELAY at the reference -/
def rkm (h_ : xH) (k_ j_ : Nat) (x_ : Int32) : Prop := bpat h_ 339 (10 + 3 * k_ + j_) = some (.int x_)
theorem rkm_at {h_ : xH} {k_ j_ : Nat} {x_ : Int32} (hk : k_ < 8) (hj : j_ < 3) (H_ : rkm h_ k_ j_ x_) : bpat h_ 339 ((10 : Int32) + 3 * Int32.ofNat k_ + Int32.ofNat j_).toInt.toNat = some (.int x_) ∧ (0 ≤ ((10 : Int32) + 3 * Int32.ofNat k_ + Int32.ofNat j_).toInt ∧ ((10 : Int32) + 3 * Int32.ofNat k_ + Int32.ofNat j_).toInt < 768) := by
  have e_ := ik_ok hk hj
  refine ⟨?_, by omega, by omega⟩
  rw [e_]
  exact H_
theorem se0 {b_ k_ : Nat} {l : List Int32} {h_ : xH} (hk : k_ < 8) (o0_ : rkm h_ k_ 0 0) (R_ : rM b_ h_ l) : ∃ h', rM b_ h' (l) ∧ frb b_ h_ h' ∧ ∀ D_, 63 ≤ D_ → xrun D_ 151 0 [(0, .index 338), (1, .int (Int32.ofNat k_)), (2, .index b_)] [] h_ (none, h', []) := by
  have T := bcq_of (n_ := 338) (z_ := (12, 26)) R_.1 rfl
  obtain ⟨q0, q1_⟩ := rkm_at hk (by omega) o0_
  obtain ⟨h0, m0_, f0_, ld0⟩ := ese0 (v1_ := Int32.ofNat k_) R_.1 R_.2.1.1 q0 q1_
  have R0_ := rM_all R_ m0_ f0_
  exact ⟨h0, R0_, ⟨m0_, fun c_ j_ _ => f0_ c_ j_⟩, fun D_ hD => ld0 D_ (by omega)⟩
theorem se1 {b_ k_ : Nat} {l : List Int32} {h_ : xH} (hk : k_ < 8) (o0_ : rkm h_ k_ 0 1) (R_ : rM b_ h_ l) : ∃ h', rM b_ h' (mpf dny 0 l) ∧ frb b_ h_ h' ∧ ∀ D_, 63 ≤ D_ → xrun D_ 151 0 [(0, .index 338), (1, .int (Int32.ofNat k_)), (2, .index b_)] [] h_ (none, h', []) := by
  have T := bcq_of (n_ := 338) (z_ := (12, 26)) R_.1 rfl
  obtain ⟨q0, q1_⟩ := rkm_at hk (by omega) o0_
  obtain ⟨h0, m0_, f0_, ld0⟩ := ese1 (v1_ := Int32.ofNat k_) R_.1 R_.2.1.1 q0 q1_
  have R0_ := rM_all R_ m0_ f0_
  obtain ⟨h1, R1, F1_, E1_⟩ := denies1 R0_
  have T1 := m0_.2 _ _ _ T
  have B1 := m0_.2 _ _ _ R_.2.1.1
  have c1_ := ycs (mi := 151) (pc := 47) (cm := 148) (lo_ := [(0, .index 338), (1, .int (Int32.ofNat k_)), (2, .index b_)]) (st_ := [.int 1, .int 1, .index b_]) (as_ := [.index b_, .int 1, .int 1]) (s' := []) rfl rfl rfl (xcc_l (List.forall_mem_cons.mpr ⟨xidx_i (bcq_lt T1), List.forall_mem_cons.mpr ⟨rfl, List.forall_mem_cons.mpr ⟨xidx_i (bcq_lt B1), fun q_ hq => absurd hq List.not_mem_nil⟩⟩⟩) (fun t_ ht => absurd ht List.not_mem_nil) (by decide)) E1_
  obtain ⟨h2, m2_, f2_, r2⟩ := xse1 (v1_ := Int32.ofNat k_) R1.1 R1.2.1.1
  exact ⟨h2, rM_all R1 m2_ f2_, frb_tr _ _ _ ⟨m0_, fun c_ j_ _ => f0_ c_ j_⟩ (frb_tr _ _ _ F1_ ⟨m2_, fun c_ j_ _ => f2_ c_ j_⟩), fun D_ hD => ld0 D_ (by omega) _ (c1_ D_ (by omega) _ (r2 D_ (by omega)))⟩
theorem se2 {b_ k_ : Nat} {l : List Int32} {h_ : xH} (hk : k_ < 8) (o0_ : rkm h_ k_ 0 2) (R_ : rM b_ h_ l) : ∃ h', rM b_ h' (mpf dn1 1 l) ∧ frb b_ h_ h' ∧ ∀ D_, 63 ≤ D_ → xrun D_ 151 0 [(0, .index 338), (1, .int (Int32.ofNat k_)), (2, .index b_)] [] h_ (none, h', []) := by
  have T := bcq_of (n_ := 338) (z_ := (12, 26)) R_.1 rfl
  obtain ⟨q0, q1_⟩ := rkm_at hk (by omega) o0_
  obtain ⟨h0, m0_, f0_, ld0⟩ := ese2 (v1_ := Int32.ofNat k_) R_.1 R_.2.1.1 q0 q1_
  have R0_ := rM_all R_ m0_ f0_
  obtain ⟨h1, R1, F1_, E1_⟩ := denies2 R0_
  have T1 := m0_.2 _ _ _ T
  have B1 := m0_.2 _ _ _ R_.2.1.1
  have c1_ := ycs (mi := 151) (pc := 56) (cm := 148) (lo_ := [(0, .index 338), (1, .int (Int32.ofNat k_)), (2, .index b_)]) (st_ := [.int 2, .int 2, .index b_]) (as_ := [.index b_, .int 2, .int 2]) (s' := []) rfl rfl rfl (xcc_l (List.forall_mem_cons.mpr ⟨xidx_i (bcq_lt T1), List.forall_mem_cons.mpr ⟨rfl, List.forall_mem_cons.mpr ⟨xidx_i (bcq_lt B1), fun q_ hq => absurd hq List.not_mem_nil⟩⟩⟩) (fun t_ ht => absurd ht List.not_mem_nil) (by decide)) E1_
  obtain ⟨h2, m2_, f2_, r2⟩ := xse2 (v1_ := Int32.ofNat k_) R1.1 R1.2.1.1
  exact ⟨h2, rM_all R1 m2_ f2_, frb_tr _ _ _ ⟨m0_, fun c_ j_ _ => f0_ c_ j_⟩ (frb_tr _ _ _ F1_ ⟨m2_, fun c_ j_ _ => f2_ c_ j_⟩), fun D_ hD => ld0 D_ (by omega) _ (c1_ D_ (by omega) _ (r2 D_ (by omega)))⟩
theorem se3 {b_ k_ : Nat} {l : List Int32} {h_ : xH} (hk : k_ < 8) (o0_ : rkm h_ k_ 0 3) (R_ : rM b_ h_ l) : ∃ h', rM b_ h' (mpf lsm 0 l) ∧ frb b_ h_ h' ∧ ∀ D_, 63 ≤ D_ → xrun D_ 151 0 [(0, .index 338), (1, .int (Int32.ofNat k_)), (2, .index b_)] [] h_ (none, h', []) := by
  have T := bcq_of (n_ := 338) (z_ := (12, 26)) R_.1 rfl
  obtain ⟨q0, q1_⟩ := rkm_at hk (by omega) o0_
  obtain ⟨h0, m0_, f0_, ld0⟩ := ese3 (v1_ := Int32.ofNat k_) R_.1 R_.2.1.1 q0 q1_
  have R0_ := rM_all R_ m0_ f0_
  obtain ⟨h1, R1, F1_, E1_⟩ := lLS (R1_ := Int32.ofNat k_) R0_ rfl
  exact ⟨h1, R1, frb_tr _ _ _ ⟨m0_, fun c_ j_ _ => f0_ c_ j_⟩ F1_, fun D_ hD => ld0 D_ (by omega) _ (E1_ D_ (by omega))⟩
theorem se4 {b_ k_ : Nat} {l : List Int32} {h_ : xH} (hk : k_ < 8) (o0_ : rkm h_ k_ 0 4) (R_ : rM b_ h_ l) : ∃ h', rM b_ h' (rvf 12 0 ((l.length : Int) - 1) l) ∧ frb b_ h_ h' ∧ ∀ D_, 63 ≤ D_ → xrun D_ 151 0 [(0, .index 338), (1, .int (Int32.ofNat k_)), (2, .index b_)] [] h_ (none, h', []) := by
  have T := bcq_of (n_ := 338) (z_ := (12, 26)) R_.1 rfl
  obtain ⟨q0, q1_⟩ := rkm_at hk (by omega) o0_
  obtain ⟨h0, m0_, f0_, ld0⟩ := ese4 (v1_ := Int32.ofNat k_) R_.1 R_.2.1.1 q0 q1_
  have R0_ := rM_all R_ m0_ f0_
  obtain ⟨h1, R1, F1_, E1_⟩ := turnsM R0_
  have T1 := m0_.2 _ _ _ T
  have B1 := m0_.2 _ _ _ R_.2.1.1
  have c1_ := ycv (mi := 151) (pc := 105) (cm := 147) (lo_ := [(0, .index 338), (1, .int (Int32.ofNat k_)), (2, .index b_)]) (st_ := [.index b_, .index 338]) (as_ := [.index b_]) (s' := []) rfl rfl T1 rfl (xcc_l (List.forall_mem_cons.mpr ⟨xidx_i (bcq_lt T1), List.forall_mem_cons.mpr ⟨rfl, List.forall_mem_cons.mpr ⟨xidx_i (bcq_lt B1), fun q_ hq => absurd hq List.not_mem_nil⟩⟩⟩) (fun t_ ht => absurd ht List.not_mem_nil) (by decide)) E1_
  obtain ⟨h2, m2_, f2_, r2⟩ := xse4 (v1_ := Int32.ofNat k_) R1.1 R1.2.1.1
  exact ⟨h2, rM_all R1 m2_ f2_, frb_tr _ _ _ ⟨m0_, fun c_ j_ _ => f0_ c_ j_⟩ (frb_tr _ _ _ F1_ ⟨m2_, fun c_ j_ _ => f2_ c_ j_⟩), fun D_ hD => ld0 D_ (by omega) _ (c1_ D_ (by omega) _ (r2 D_ (by omega)))⟩
theorem se5 {b_ k_ m_ : Nat} {l : List Int32} {h_ : xH} (hk : k_ < 8) (o0_ : rkm h_ k_ 0 5) (hm_ : m_ ≤ 9) (o1 : rkm h_ k_ 1 (Int32.ofNat m_)) (nb : ¬ b_ = 339) (R_ : rM b_ h_ l) : ∃ h', rM b_ h' (kpt (m_ + 1) (rvf 12 0 ((l.length : Int) - 1) l) (rvf 12 0 ((l.length : Int) - 1) l).length) ∧ frb b_ h_ h' ∧ ∀ D_, 63 ≤ D_ → xrun D_ 151 0 [(0, .index 338), (1, .int (Int32.ofNat k_)), (2, .index b_)] [] h_ (none, h', []) := by
  have T := bcq_of (n_ := 338) (z_ := (12, 26)) R_.1 rfl
  obtain ⟨q0, q1_⟩ := rkm_at hk (by omega) o0_
  obtain ⟨h0, m0_, f0_, ld0⟩ := ese5 (v1_ := Int32.ofNat k_) R_.1 R_.2.1.1 q0 q1_
  have R0_ := rM_all R_ m0_ f0_
  obtain ⟨h1, R1, F1_, E1_⟩ := turnsM R0_
  have T1 := m0_.2 _ _ _ T
  have B1 := m0_.2 _ _ _ R_.2.1.1
  have c1_ := ycv (mi := 151) (pc := 113) (cm := 147) (lo_ := [(0, .index 338), (1, .int (Int32.ofNat k_)), (2, .index b_)]) (st_ := [.index b_, .index 338]) (as_ := [.index b_]) (s' := []) rfl rfl T1 rfl (xcc_l (List.forall_mem_cons.mpr ⟨xidx_i (bcq_lt T1), List.forall_mem_cons.mpr ⟨rfl, List.forall_mem_cons.mpr ⟨xidx_i (bcq_lt B1), fun q_ hq => absurd hq List.not_mem_nil⟩⟩⟩) (fun t_ ht => absurd ht List.not_mem_nil) (by decide)) E1_
  have o2 : rkm h1 k_ 1 (Int32.ofNat m_) := (F1_.2 339 _ (fun q_ => nb q_.symm)).trans ((f0_ 339 _).trans o1)
  obtain ⟨q2_, q3_⟩ := rkm_at hk (by omega) o2
  obtain ⟨h2, m2_, f2_, ld2⟩ := mse5 (v1_ := Int32.ofNat k_) R1.1 R1.2.1.1 q2_ q3_
  have R2 := rM_all R1 m2_ f2_
  obtain ⟨h3, R3, F3, E3⟩ := swallowsM hm_ R2
  have T3 := m2_.2 _ _ _ (F1_.1.2 _ _ _ T1)
  have B3 := R2.2.1.1
  have c3_ := ycv (mi := 151) (pc := 124) (cm := 149) (lo_ := [(0, .index 338), (1, .int (Int32.ofNat k_)), (2, .index b_)]) (st_ := [.int (Int32.ofNat m_), .index b_, .index 338]) (as_ := [.index b_, .int (Int32.ofNat m_)]) (s' := []) rfl rfl T3 rfl (xcc_l (List.forall_mem_cons.mpr ⟨xidx_i (bcq_lt T3), List.forall_mem_cons.mpr ⟨rfl, List.forall_mem_cons.mpr ⟨xidx_i (bcq_lt B3), fun q_ hq => absurd hq List.not_mem_nil⟩⟩⟩) (fun t_ ht => absurd ht List.not_mem_nil) (by decide)) E3
  obtain ⟨h4, m4_, f4_, r4⟩ := xse5 (v1_ := Int32.ofNat k_) R3.1 R3.2.1.1
  exact ⟨h4, rM_all R3 m4_ f4_, frb_tr _ _ _ ⟨m0_, fun c_ j_ _ => f0_ c_ j_⟩ (frb_tr _ _ _ F1_ (frb_tr _ _ _ ⟨m2_, fun c_ j_ _ => f2_ c_ j_⟩ (frb_tr _ _ _ F3 ⟨m4_, fun c_ j_ _ => f4_ c_ j_⟩))), fun D_ hD => ld0 D_ (by omega) _ (c1_ D_ (by omega) _ (ld2 D_ (by omega) _ (c3_ D_ (by omega) _ (r4 D_ (by omega)))))⟩
-- ===== both sides make the same of a row of SOUNDS
def sds (l : List Int32) : Prop := ∀ x_ ∈ l, 0 ≤ x_.toInt ∧ x_.toInt < 100
theorem puN_s {x_ : Int32} (h1 : 0 ≤ x_.toInt) (h2 : x_.toInt < 100) : puN_F x_ = 0 ↔ x_.toInt < 60 := by
  have k_ : (List.range 100).all (fun n_ => decide (puN_F (Int32.ofNat n_) = 0 ↔ (Int32.ofNat n_).toInt < 60)) = true := by decide +kernel
  have e_ : x_ = Int32.ofNat x_.toInt.toNat := by
    refine Int32.toInt_inj.mp ?_
    rw [Int32.toInt_ofNat_of_lt (by omega)]
    omega
  rw [e_]
  exact of_decide_eq_true (List.all_eq_true.mp k_ _ (List.mem_range.mpr (by omega)))
theorem puC_s {x_ : Int32} (h1 : 0 ≤ x_.toInt) (h2 : x_.toInt < 100) : 0 ≤ (puC_F x_).toInt ∧ (puC_F x_).toInt < 100 := by
  have k_ : (List.range 100).all (fun n_ => decide (0 ≤ (puC_F (Int32.ofNat n_)).toInt) && decide ((puC_F (Int32.ofNat n_)).toInt < 100)) = true := by decide +kernel
  have e_ : x_ = Int32.ofNat x_.toInt.toNat := by
    refine Int32.toInt_inj.mp ?_
    rw [Int32.toInt_ofNat_of_lt (by omega)]
    omega
  rw [e_]
  have q_ := List.all_eq_true.mp k_ x_.toInt.toNat (List.mem_range.mpr (by omega))
  simp only [Bool.and_eq_true, decide_eq_true_eq] at q_
  exact q_
theorem i2d_k : (List.range 14).all (fun j_ => decide (Int32.ofNat j_ - Int32.ofNat j_ / 2 * 2 = 0 ↔ j_ % 2 = 0)) = true := by decide +kernel
theorem mpf_eq {f_ g_ : Nat → Int32 → Int32} {i_ k_ : Nat} {l : List Int32} (hl : l.length ≤ 14) (h_ : ∀ j_ x_, j_ < 14 → x_ ∈ l → (if i_ ≤ j_ then f_ j_ x_ else x_) = if k_ ≤ j_ then g_ j_ x_ else x_) : mpf f_ i_ l = mpf g_ k_ l := by
  refine List.ext_getElem? (fun j_ => ?_)
  unfold mpf
  rw [List.getElem?_mapIdx, List.getElem?_mapIdx]
  cases e_ : l[j_]? with
  | none => rfl
  | some x_ =>
    have hj := (List.getElem?_eq_some_iff.mp e_).1
    exact congrArg some (h_ j_ x_ (by omega) (List.mem_of_getElem? e_))
theorem nay_eq {l : List Int32} (S_ : sds l) (hl : l.length ≤ 12) : mpf dny 0 l = mpf nay0 0 l := mpf_eq (by omega) (fun j_ x_ _ hx => by
  obtain ⟨s1_, s2_⟩ := S_ x_ hx
  rw [if_pos (by omega), if_pos (by omega)]
  have k_ := puN_s s1_ s2_
  unfold dny nay0
  by_cases g_ : x_.toInt < 60
  · rw [if_pos g_, if_pos (k_.mpr g_), pu_C s1_ s2_]
  · rw [if_neg g_, if_neg (fun q_ => g_ (k_.mp q_))])
theorem sec_eq {l : List Int32} (S_ : sds l) (hl : l.length ≤ 12) : mpf dn1 1 l = mpf nay1 0 l := mpf_eq (by omega) (fun j_ x_ hj hx => by
  obtain ⟨s1_, s2_⟩ := S_ x_ hx
  have k_ := puN_s s1_ s2_
  have d_ := of_decide_eq_true (List.all_eq_true.mp i2d_k j_ (List.mem_range.mpr hj))
  rw [if_pos (show 0 ≤ j_ by omega)]
  unfold dn1 dny nay1
  by_cases p_ : j_ % 2 = 1
  · rw [if_pos (by omega), if_pos p_]
    by_cases g_ : x_.toInt < 60
    · rw [if_pos g_, if_pos (k_.mpr g_), if_neg (fun q_ => by have := d_.mp q_; omega), pu_C s1_ s2_]
    · rw [if_neg g_, if_neg (fun q_ => g_ (k_.mp q_))]
  · have e0_ := d_.mpr (show j_ % 2 = 0 by omega)
    rw [if_neg p_, e0_, if_pos rfl]
    by_cases g_ : x_.toInt < 60
    · rw [if_pos (k_.mpr g_)]
      split <;> rfl
    · rw [if_neg (fun q_ => g_ (k_.mp q_))]
      split <;> rfl)
theorem les_eq {l : List Int32} (S_ : sds l) (hl : l.length ≤ 12) : mpf lsm 0 l = mpf les0 0 l := mpf_eq (by omega) (fun j_ x_ _ hx => by
  obtain ⟨s1_, s2_⟩ := S_ x_ hx
  rw [if_pos (by omega), if_pos (by omega)]
  have k_ := puN_s s1_ s2_
  unfold lsm les0
  by_cases g_ : x_.toInt < 60
  · rw [if_pos g_, if_pos (k_.mpr g_)]
  · rw [if_neg g_, if_neg (fun q_ => g_ (k_.mp q_)), pu_C s1_ s2_])
theorem sds_mpf {f_ : Nat → Int32 → Int32} {i_ : Nat} {l : List Int32} (S_ : sds l) (hf : ∀ j_ x_, 0 ≤ x_.toInt → x_.toInt < 100 → 0 ≤ (f_ j_ x_).toInt ∧ (f_ j_ x_).toInt < 100) : sds (mpf f_ i_ l) := by
  intro x_ hx
  obtain ⟨j_, hj⟩ := List.mem_iff_getElem?.mp hx
  unfold mpf at hj
  rw [List.getElem?_mapIdx] at hj
  cases e_ : l[j_]? with
  | none => rw [e_] at hj; cases hj
  | some y_ =>
    rw [e_] at hj
    have hj : (if i_ ≤ j_ then f_ j_ y_ else y_) = x_ := Option.some.inj hj
    obtain ⟨s1_, s2_⟩ := S_ y_ (List.mem_of_getElem? e_)
    rw [← hj]
    split
    · exact hf j_ y_ s1_ s2_
    · exact ⟨s1_, s2_⟩
theorem sds_swp {i_ j_ : Nat} {l : List Int32} (S_ : sds l) : sds (swp i_ j_ l) := by
  unfold swp
  split
  · exact S_
  · rename_i x_ hx
    split
    · exact S_
    · rename_i y_ hy
      intro z_ hz
      rcases List.mem_or_eq_of_mem_set hz with hz | hz
      · rcases List.mem_or_eq_of_mem_set hz with hz | hz
        · exact S_ z_ hz
        · rw [hz]
          exact S_ y_ (List.mem_of_getElem? hy)
      · rw [hz]
        exact S_ x_ (List.mem_of_getElem? hx)
theorem sds_rvf : ∀ {k_ i_ : Nat} {j_ : Int} {l : List Int32}, sds l → sds (rvf k_ i_ j_ l) := by
  intro k_
  induction k_ with
  | zero => intro i_ j_ l S_; exact S_
  | succ k_ ih_ =>
    intro i_ j_ l S_
    unfold rvf
    split
    · exact ih_ (sds_swp S_)
    · exact S_
theorem sds_kpt {n_ : Nat} {l : List Int32} : ∀ {i_ : Nat}, i_ ≤ l.length → sds l → sds (kpt n_ l i_) := by
  intro i_
  induction i_ with
  | zero => intro _ S_ x_ hx; cases hx
  | succ i_ ih_ =>
    intro hi_ S_
    unfold kpt
    split
    · exact ih_ (by omega) S_
    · intro x_ hx
      rcases List.mem_append.mp hx with hx | hx
      · exact ih_ (by omega) S_ x_ hx
      · rw [List.mem_singleton.mp hx, List.getD_eq_getElem?_getD, List.getElem?_eq_getElem (show i_ < l.length by omega)]
        exact S_ _ (List.getElem_mem _)
