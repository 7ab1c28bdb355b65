-- ===== rows that grow, TEXTS that go
theorem rwx_one {h_ h' : xH} {a_ b_ n_ : Nat} {l : List Int32} {z_ : Int32} (R_ : rwx h_ a_ b_ n_ l) (hl : l.length < n_) (m_ : ysm h_ h') (e1_ : bpat h' a_ 1 = some (.int (Int32.ofNat l.length + 1))) (e2_ : bpat h' b_ (Int32.ofNat l.length).toInt.toNat = some (.int z_)) (hn : n_ ≤ 1000) (f_ : ∀ c_ j_, ¬ (c_ = a_ ∧ j_ = 1) → ¬ (c_ = b_ ∧ j_ = (Int32.ofNat l.length).toInt.toNat) → bpat h' c_ j_ = bpat h_ c_ j_) : rwx h' a_ b_ n_ (l ++ [z_]) := by
  rw [i32t (by omega)] at e2_ f_
  rw [i32s] at e1_
  exact rwx_add R_ hl m_ e1_ e2_ f_
theorem rwq_one {h_ h' : xH} {b_ s_ t_ d_ n_ : Nat} {l : List Int32} {z_ : Int32} (R_ : rwq h_ b_ s_ t_ d_ l) (hl : l.length < n_) (e1_ : bpat h' b_ s_ = some (.int (Int32.ofNat (l.length + 1)))) (e2_ : bpat h' b_ (t_ + d_ * l.length) = some (.int z_)) (f_ : ∀ j_, j_ < l.length → bpat h' b_ (t_ + d_ * j_) = bpat h_ b_ (t_ + d_ * j_)) : rwq h' b_ s_ t_ d_ (l ++ [z_]) := by
  refine ⟨by rw [List.length_append]; exact e1_, fun j_ y_ hy => ?_⟩
  rcases Nat.lt_or_ge j_ l.length with g_ | g_
  · rw [List.getElem?_append_left g_] at hy
    exact (f_ j_ g_).trans (R_.2 j_ y_ hy)
  · rw [List.getElem?_append_right g_] at hy
    have lj := (List.getElem?_eq_some_iff.mp hy).1
    have ej : j_ = l.length := by
      rw [List.length_singleton] at lj
      omega
    subst ej
    rw [Nat.sub_self] at hy
    cases hy
    exact e2_
theorem SM_t {W_ : Nat → List Int32} {V : Nat → Int32} {h_ h' : xH} {u_ : Nat} {l : List Int32} (H_ : SM W_ V h_) (K_ : lenS W_) (m_ : ysm h_ h') (hu : u_ < 2) (T : txq h' 339 (434 + 125 * u_) u_ l) (f_ : ∀ c_ j_, smc c_ j_ = true → ¬ (c_ = 339 ∧ smo j_ = 1023 + u_) → bpat h' c_ j_ = bpat h_ c_ j_) : SM (upR W_ (23 + u_) l) V h' := by
  refine SM_up (D_ := fun o => o = 1023 + u_) H_ K_ m_ (fun c_ j_ hc_ n_ => f_ c_ j_ hc_ (fun q_ => n_ q_.1)) (fun j_ _ n_ => f_ 339 j_ rfl (fun q_ => n_ q_.2)) (fun _ _ => rfl) (fun j_ n_ => upR_ne (fun q_ => n_ (by show 1000 + j_ = 1023 + u_; omega))) (fun j_ hj => ⟨upR_ne (by omega), rfl⟩) (fun p_ hp d_ => ?_) (fun d_ => absurd d_ (by omega)) (fun p_ hp d_ => ?_) (fun u2_ hu2 d_ => ?_)
  · have v1_ : wvM.all (fun p_ => Nat.ble (p_.2 + 1) 40) = true := by decide +kernel
    have v2 := Nat.le_of_ble_eq_true (List.all_eq_true.mp v1_ p_ hp)
    have d_ : p_.2 = 1023 + u_ := d_
    omega
  · have v1_ : wrM.all (fun p_ => !(Nat.beq p_.2.2.2.2 23) && !(Nat.beq p_.2.2.2.2 24)) = true := by decide +kernel
    have v2 := List.all_eq_true.mp v1_ p_ hp
    rw [Bool.and_eq_true] at v2
    have d_ : 1000 + p_.2.2.2.2 = 1023 + u_ := d_
    have u3 : u_ = 0 ∨ u_ = 1 := by omega
    rcases u3 with rfl | rfl
    · rw [show p_.2.2.2.2 = 23 by omega] at v2
      exact absurd v2.1 Bool.false_ne_true
    · rw [show p_.2.2.2.2 = 24 by omega] at v2
      exact absurd v2.2 Bool.false_ne_true
  · have d_ : 1023 + u2_ = 1023 + u_ := d_
    have e_ : u2_ = u_ := by omega
    subst e_
    rw [upR_eq]
    exact T
theorem i32e {x_ y_ : Int32} (h_ : ¬ x_ = y_) : ¬ x_.toInt = y_.toInt := fun e_ => h_ (Int32.toInt_inj.mp e_)
theorem i12_ : (12 : Int32).toInt = 12 := rfl
theorem i24_ : (24 : Int32).toInt = 24 := rfl
theorem iSO : (1048575 : Int32).toInt = 1048575 := rfl
theorem n34 {n_ : Int32} (h0 : 0 ≤ n_.toInt) (h1 : n_.toInt ≤ 12) : ∃ c_ : Nat, c_ ≤ 12 ∧ ((c_ : Int) = n_.toInt ∧ n_ = Int32.ofNat c_) := by
  refine ⟨n_.toInt.toNat, by omega, by omega, ?_⟩
  refine Int32.toInt_inj.mp ?_
  rw [i32n (by omega)]
  omega
-- ===== call
-- xclE: 21 steps, 0 ends, 1 returns
def xclE_L : List (Nat × Nat × Nat) := []
def xclE_O : yO := [(0, .int 0, .index 1), (1, .int 9, .arg 310), (0, .int 13, .index 323), (323, .int 4, .arg 400)]
def xclE_A : yA := (yZ xclE_L, [], [], [], [])
def xclE_C : List xB := [(.lt, .arg 310, .int 12, false)]
def xclE_ss : List yS := []
def xclE_rs : List yR := [(some (.int (Int32.ofInt (-1000004))), [(323, .int 4, .add (.arg 400) (.int 1)), (0, .int 0, .index 1), (1, .int 9, .arg 310), (0, .int 13, .index 323)], [(.lt, .arg 310, .int 12, false)], [(323, .int 4)])]
theorem xclE_w : ywa xclE_A xclE_ss xclE_rs = true := by decide +kernel
theorem xclE_k : yis (yev xclE_A 3000 60 74 [] (0, [(0, .index 0)], [], xclE_O, xclE_C, [])) xclE_ss xclE_rs = true := by decide +kernel
def xclE_r (v310 v400 : Int32) (k_ : Nat) : Value := bif Nat.beq k_ 310 then .int v310 else (bif Nat.beq k_ 400 then .int v400 else (.int 0))
def xclE_s (n_ : Nat) : Nat := 0
theorem xclE {h_ : xH} {v310 v400 : Int32} (hs : sHp h_) (o0_ : bpat h_ 1 9 = some (.int v310)) (o1 : bpat h_ 323 4 = some (.int v400)) (c0_ : (12 : Int32).toInt ≤ v310.toInt) : ∃ h', ysm h_ h' ∧ (((bpat h' 323 4 = some (.int (v400 + (1 : Int32)))) ∧ (∀ a_ j_ : Nat, ¬ (a_ = 323 ∧ j_ = 4) → bpat h' a_ j_ = bpat h_ a_ j_) ∧ (∀ D_, 60 ≤ D_ → xrun D_ 74 0 [(0, .index 0)] [] h_ (some (.int (Int32.ofInt (-1000004))), h', [])))) := by
  have hA : yas xclE_A (xclE_r v310 v400) (yg xclE_s) := ⟨fun q_ hq => absurd hq List.not_mem_nil, fun q_ hq => absurd hq List.not_mem_nil, fun q_ hq => absurd hq List.not_mem_nil, fun n_ hn => yg_lo hn, fun q_ hq => absurd hq List.not_mem_nil⟩
  have Hs : ysh xclE_A.1 (yg xclE_s) h_ := ysh_of2 hs (fun q_ hq => absurd hq List.not_mem_nil)
  have Ho : ymem (xclE_r v310 v400) (yg xclE_s) xclE_O h_ := List.forall_mem_cons.mpr ⟨bpat_some (fxr_at hs.2 (show fxk fxl 0 0 = some 1 by decide +kernel)), List.forall_mem_cons.mpr ⟨bpat_some o0_, List.forall_mem_cons.mpr ⟨bpat_some (fxr_at hs.2 (show fxk fxl 0 13 = some 323 by decide +kernel)), List.forall_mem_cons.mpr ⟨bpat_some o1, fun q_ hq => absurd hq List.not_mem_nil⟩⟩⟩⟩
  have HC : ∀ q_ ∈ xclE_C, xhold (xclE_r v310 v400) q_ := List.forall_mem_cons.mpr ⟨xh_ltF c0_, fun q_ hq => absurd hq List.not_mem_nil⟩
  rcases yrun (yis_ok xclE_k) hA Hs Ho HC with ⟨q_, hq, h', K_, G_⟩ | ⟨q_, hq, h', K_, G_⟩
  · cases hq
  · have e_ := List.mem_singleton.mp hq
    subst e_
    exact ⟨h', yfr_sm K_.2.2.2 hs K_.1 (ywa_r xclE_w List.mem_cons_self), ⟨bpat_of (K_.2.1 _ List.mem_cons_self), fun a_ j_ n0_ => yfr_bp K_.2.2.2 (List.forall_mem_cons.mpr ⟨fun e_ => n0_ ⟨e_.1.symm, e_.2.symm⟩, fun q_ hq => absurd hq List.not_mem_nil⟩), G_⟩⟩
-- xclO: 30 steps, 0 ends, 1 returns
def xclO_L : List (Nat × Nat × Nat) := [(1000, 6, 2)]
def xclO_O : yO := [(0, .int 0, .index 1), (1, .int 9, .arg 310), (1, .int 0, .index 2), (2, .arg 310, .index 1000)]
def xclO_A : yA := (yZ xclO_L, [(.arg 310, 12)], [], [], [])
def xclO_C : List xB := [(.lt, .arg 310, .int 12, true)]
def xclO_ss : List yS := []
def xclO_rs : List yR := [(some (.sub (.add (.arg 310) (.int 1)) (.int 1)), [(1, .int 9, .add (.arg 310) (.int 1)), (1000, .int 1, .int 0), (0, .int 0, .index 1), (1, .int 0, .index 2), (2, .arg 310, .index 1000)], [(.lt, .arg 310, .int 12, true)], [(1, .int 9), (1000, .int 1)])]
theorem xclO_w : ywa xclO_A xclO_ss xclO_rs = true := by decide +kernel
theorem xclO_k : yis (yev xclO_A 3000 60 74 [] (0, [(0, .index 0)], [], xclO_O, xclO_C, [])) xclO_ss xclO_rs = true := by decide +kernel
def xclO_r (v310 : Int32) (k_ : Nat) : Value := bif Nat.beq k_ 310 then .int v310 else (.int 0)
def xclO_s (a1000 : Nat) (n_ : Nat) : Nat := bif Nat.beq n_ 1000 then a1000 else (0)
theorem xclO {h_ : xH} {a1000 : Nat} {v310 : Int32} (hs : sHp h_) (k1000 : bcq h_ a1000 6 2) (o0_ : bpat h_ 1 9 = some (.int v310)) (o1 : bpat h_ 2 (v310).toInt.toNat = some (.index a1000)) (b0 : 0 ≤ (v310).toInt ∧ (v310).toInt < 12) (c0_ : v310.toInt < (12 : Int32).toInt) : ∃ h', ysm h_ h' ∧ (((bpat h' 1 9 = some (.int (v310 + (1 : Int32)))) ∧ (bpat h' a1000 1 = some (.int (0 : Int32))) ∧ (∀ a_ j_ : Nat, ¬ (a_ = 1 ∧ j_ = 9) → ¬ (a_ = a1000 ∧ j_ = 1) → bpat h' a_ j_ = bpat h_ a_ j_) ∧ (∀ D_, 60 ≤ D_ → xrun D_ 74 0 [(0, .index 0)] [] h_ (some (.int ((v310 + (1 : Int32)) - (1 : Int32))), h', [])))) := by
  have hA : yas xclO_A (xclO_r v310) (yg (xclO_s a1000)) := ⟨List.forall_mem_cons.mpr ⟨b0, fun q_ hq => absurd hq List.not_mem_nil⟩, fun q_ hq => absurd hq List.not_mem_nil, fun q_ hq => absurd hq List.not_mem_nil, fun n_ hn => yg_lo hn, fun q_ hq => absurd hq List.not_mem_nil⟩
  have Hs : ysh xclO_A.1 (yg (xclO_s a1000)) h_ := ysh_of2 hs (List.forall_mem_cons.mpr ⟨⟨by decide, k1000⟩, fun q_ hq => absurd hq List.not_mem_nil⟩)
  have Ho : ymem (xclO_r v310) (yg (xclO_s a1000)) xclO_O h_ := List.forall_mem_cons.mpr ⟨bpat_some (fxr_at hs.2 (show fxk fxl 0 0 = some 1 by decide +kernel)), List.forall_mem_cons.mpr ⟨bpat_some o0_, List.forall_mem_cons.mpr ⟨bpat_some (fxr_at hs.2 (show fxk fxl 1 0 = some 2 by decide +kernel)), List.forall_mem_cons.mpr ⟨bpat_some o1, fun q_ hq => absurd hq List.not_mem_nil⟩⟩⟩⟩
  have HC : ∀ q_ ∈ xclO_C, xhold (xclO_r v310) q_ := List.forall_mem_cons.mpr ⟨xh_ltT c0_, fun q_ hq => absurd hq List.not_mem_nil⟩
  rcases yrun (yis_ok xclO_k) hA Hs Ho HC with ⟨q_, hq, h', K_, G_⟩ | ⟨q_, hq, h', K_, G_⟩
  · cases hq
  · have e_ := List.mem_singleton.mp hq
    subst e_
    exact ⟨h', yfr_sm K_.2.2.2 hs K_.1 (ywa_r xclO_w List.mem_cons_self), ⟨bpat_of (K_.2.1 _ List.mem_cons_self), bpat_of (K_.2.1 _ (List.mem_cons_of_mem _ List.mem_cons_self)), fun a_ j_ n0_ n1_ => yfr_bp K_.2.2.2 (List.forall_mem_cons.mpr ⟨fun e_ => n0_ ⟨e_.1.symm, e_.2.symm⟩, List.forall_mem_cons.mpr ⟨fun e_ => n1_ ⟨e_.1.symm, e_.2.symm⟩, fun q_ hq => absurd hq List.not_mem_nil⟩⟩), G_⟩⟩
-- mclE: 22 steps, 0 ends, 1 returns
def mclE_L : List (Nat × Nat × Nat) := []
def mclE_O : yO := [(338, .int 0, .index 339), (339, .int 0, .arg 310), (338, .int 3, .index 341), (341, .int 4, .arg 400)]
def mclE_A : yA := (yZ mclE_L, [], [], [], [])
def mclE_C : List xB := [(.eq, .arg 310, .int 12, true)]
def mclE_ss : List yS := []
def mclE_rs : List yR := [(some (.int (Int32.ofInt (-1000004))), [(341, .int 4, .add (.arg 400) (.int 1)), (338, .int 0, .index 339), (339, .int 0, .arg 310), (338, .int 3, .index 341)], [(.eq, .arg 310, .int 12, true)], [(341, .int 4)])]
theorem mclE_w : ywa mclE_A mclE_ss mclE_rs = true := by decide +kernel
theorem mclE_k : yis (yev mclE_A 3000 60 159 [] (0, [(0, .index 338)], [], mclE_O, mclE_C, [])) mclE_ss mclE_rs = true := by decide +kernel
def mclE_r (v310 v400 : Int32) (k_ : Nat) : Value := bif Nat.beq k_ 310 then .int v310 else (bif Nat.beq k_ 400 then .int v400 else (.int 0))
def mclE_s (n_ : Nat) : Nat := 0
theorem mclE {h_ : xH} {v310 v400 : Int32} (hs : sHp h_) (o0_ : bpat h_ 339 0 = some (.int v310)) (o1 : bpat h_ 341 4 = some (.int v400)) (c0_ : v310 = (12 : Int32)) : ∃ h', ysm h_ h' ∧ (((bpat h' 341 4 = some (.int (v400 + (1 : Int32)))) ∧ (∀ a_ j_ : Nat, ¬ (a_ = 341 ∧ j_ = 4) → bpat h' a_ j_ = bpat h_ a_ j_) ∧ (∀ D_, 60 ≤ D_ → xrun D_ 159 0 [(0, .index 338)] [] h_ (some (.int (Int32.ofInt (-1000004))), h', [])))) := by
  have hA : yas mclE_A (mclE_r v310 v400) (yg mclE_s) := ⟨fun q_ hq => absurd hq List.not_mem_nil, fun q_ hq => absurd hq List.not_mem_nil, fun q_ hq => absurd hq List.not_mem_nil, fun n_ hn => yg_lo hn, fun q_ hq => absurd hq List.not_mem_nil⟩
  have Hs : ysh mclE_A.1 (yg mclE_s) h_ := ysh_of2 hs (fun q_ hq => absurd hq List.not_mem_nil)
  have Ho : ymem (mclE_r v310 v400) (yg mclE_s) mclE_O h_ := List.forall_mem_cons.mpr ⟨bpat_some (fxr_at hs.2 (show fxk fxl 338 0 = some 339 by decide +kernel)), List.forall_mem_cons.mpr ⟨bpat_some o0_, List.forall_mem_cons.mpr ⟨bpat_some (fxr_at hs.2 (show fxk fxl 338 3 = some 341 by decide +kernel)), List.forall_mem_cons.mpr ⟨bpat_some o1, fun q_ hq => absurd hq List.not_mem_nil⟩⟩⟩⟩
  have HC : ∀ q_ ∈ mclE_C, xhold (mclE_r v310 v400) q_ := List.forall_mem_cons.mpr ⟨xh_eqT2 c0_, fun q_ hq => absurd hq List.not_mem_nil⟩
  rcases yrun (yis_ok mclE_k) hA Hs Ho HC with ⟨q_, hq, h', K_, G_⟩ | ⟨q_, hq, h', K_, G_⟩
  · cases hq
  · have e_ := List.mem_singleton.mp hq
    subst e_
    exact ⟨h', yfr_sm K_.2.2.2 hs K_.1 (ywa_r mclE_w List.mem_cons_self), ⟨bpat_of (K_.2.1 _ List.mem_cons_self), fun a_ j_ n0_ => yfr_bp K_.2.2.2 (List.forall_mem_cons.mpr ⟨fun e_ => n0_ ⟨e_.1.symm, e_.2.symm⟩, fun q_ hq => absurd hq List.not_mem_nil⟩), G_⟩⟩
-- mclO: 33 steps, 0 ends, 1 returns
def mclO_L : List (Nat × Nat × Nat) := []
def mclO_O : yO := [(338, .int 0, .index 339), (339, .int 0, .arg 310)]
def mclO_A : yA := (yZ mclO_L, [(.add (.int 34) (.mul (.int 13) (.arg 310)), 768)], [(.add (.int 34) (.mul (.int 13) (.arg 310)), .int 0)], [], [])
def mclO_C : List xB := [(.eq, .arg 310, .int 12, false)]
def mclO_ss : List yS := []
def mclO_rs : List yR := [(some (.sub (.add (.arg 310) (.int 1)) (.int 1)), [(339, .int 0, .add (.arg 310) (.int 1)), (339, .add (.int 34) (.mul (.int 13) (.arg 310)), .int 0), (338, .int 0, .index 339)], [(.eq, .arg 310, .int 12, false)], [(339, .int 0), (339, .add (.int 34) (.mul (.int 13) (.arg 310)))])]
theorem mclO_w : ywa mclO_A mclO_ss mclO_rs = true := by decide +kernel
theorem mclO_k : yis (yev mclO_A 3000 60 159 [] (0, [(0, .index 338)], [], mclO_O, mclO_C, [])) mclO_ss mclO_rs = true := by decide +kernel
def mclO_r (v310 : Int32) (k_ : Nat) : Value := bif Nat.beq k_ 310 then .int v310 else (.int 0)
def mclO_s (n_ : Nat) : Nat := 0
theorem mclO {h_ : xH} {v310 : Int32} (hs : sHp h_) (o0_ : bpat h_ 339 0 = some (.int v310)) (b0 : 0 ≤ (((34 : Int32) + ((13 : Int32) * v310))).toInt ∧ (((34 : Int32) + ((13 : Int32) * v310))).toInt < 768) (x0_ : ¬ (((34 : Int32) + ((13 : Int32) * v310))).toInt.toNat = 0) (c0_ : ¬ v310 = (12 : Int32)) : ∃ h', ysm h_ h' ∧ (((bpat h' 339 0 = some (.int (v310 + (1 : Int32)))) ∧ (bpat h' 339 (((34 : Int32) + ((13 : Int32) * v310))).toInt.toNat = some (.int (0 : Int32))) ∧ (∀ a_ j_ : Nat, ¬ (a_ = 339 ∧ j_ = 0) → ¬ (a_ = 339 ∧ j_ = (((34 : Int32) + ((13 : Int32) * v310))).toInt.toNat) → bpat h' a_ j_ = bpat h_ a_ j_) ∧ (∀ D_, 60 ≤ D_ → xrun D_ 159 0 [(0, .index 338)] [] h_ (some (.int ((v310 + (1 : Int32)) - (1 : Int32))), h', [])))) := by
  have hA : yas mclO_A (mclO_r v310) (yg mclO_s) := ⟨List.forall_mem_cons.mpr ⟨b0, fun q_ hq => absurd hq List.not_mem_nil⟩, List.forall_mem_cons.mpr ⟨x0_, fun q_ hq => absurd hq List.not_mem_nil⟩, fun q_ hq => absurd hq List.not_mem_nil, fun n_ hn => yg_lo hn, fun q_ hq => absurd hq List.not_mem_nil⟩
  have Hs : ysh mclO_A.1 (yg mclO_s) h_ := ysh_of2 hs (fun q_ hq => absurd hq List.not_mem_nil)
  have Ho : ymem (mclO_r v310) (yg mclO_s) mclO_O h_ := List.forall_mem_cons.mpr ⟨bpat_some (fxr_at hs.2 (show fxk fxl 338 0 = some 339 by decide +kernel)), List.forall_mem_cons.mpr ⟨bpat_some o0_, fun q_ hq => absurd hq List.not_mem_nil⟩⟩
  have HC : ∀ q_ ∈ mclO_C, xhold (mclO_r v310) q_ := List.forall_mem_cons.mpr ⟨xh_eqF2 c0_, fun q_ hq => absurd hq List.not_mem_nil⟩
  rcases yrun (yis_ok mclO_k) hA Hs Ho HC with ⟨q_, hq, h', K_, G_⟩ | ⟨q_, hq, h', K_, G_⟩
  · cases hq
  · have e_ := List.mem_singleton.mp hq
    subst e_
    exact ⟨h', yfr_sm K_.2.2.2 hs K_.1 (ywa_r mclO_w List.mem_cons_self), ⟨bpat_of (K_.2.1 _ List.mem_cons_self), bpat_of (K_.2.1 _ (List.mem_cons_of_mem _ List.mem_cons_self)), fun a_ j_ n0_ n1_ => yfr_bp K_.2.2.2 (List.forall_mem_cons.mpr ⟨fun e_ => n0_ ⟨e_.1.symm, e_.2.symm⟩, List.forall_mem_cons.mpr ⟨fun e_ => n1_ ⟨e_.1.symm, e_.2.symm⟩, fun q_ hq => absurd hq List.not_mem_nil⟩⟩), G_⟩⟩
def callF (W_ : Nat → List Int32) (V : Nat → Int32) : (Nat → List Int32) × (Nat → Int32) × Int32 := if (V 0).toInt < 12 then (upR W_ (V 0).toInt.toNat [], upI V 0 (V 0 + 1), V 0 + 1 - 1) else (W_, V, Int32.ofInt (-1000004))
theorem x_call {W_ : Nat → List Int32} {V : Nat → Int32} {h_ : xH} (B_ : bInv bZ bIj h_) (K_ : okS W_ V) (H_ : SX W_ V h_) : ∃ h', ysm h_ h' ∧ (SX (callF W_ V).1 (callF W_ V).2.1 h' ∧ ∀ D_, 60 ≤ D_ → xrun D_ 74 0 [(0, .index 0)] [] h_ (some (.int (callF W_ V).2.2), h', [])) := by
  obtain ⟨y_, oy⟩ := xerr (k_ := 4) B_ (by omega)
  have zz := i12_
  have kN_ := okN K_
  unfold callF
  by_cases g_ : (V 0).toInt < 12
  · rw [if_pos g_]
    obtain ⟨c_, hc_, ec, en⟩ := n34 kN_.1 kN_.2
    have hc2 : c_ < 12 := by omega
    have eq_ : (V 0).toInt.toNat = c_ := by omega
    obtain ⟨s1_, s2_, s3_⟩ := cl_s H_.1 hc2
    have R_ := SX_w H_ (cl_x hc2)
    obtain ⟨h1, m_, e1_, e2_, f_, r_⟩ := xclO H_.1 s2_ (xNc H_) (by rw [eq_]; exact s1_) ⟨by omega, by omega⟩ (by omega)
    rw [eq_]
    exact ⟨h1, m_, SX_ir H_ m_ (show ((1, 9), 0) ∈ wvX by decide) (cl_x hc2) e1_ (rwx_nil R_ m_ e2_ (fun j_ n_ => f_ _ j_ (fun q_ => absurd q_.1 (by omega)) (fun q_ => n_ q_.2))) (fun c2_ j_ _ n1_ n2_ _ => f_ c2_ j_ n1_ (fun q_ => n2_ q_.1)), r_⟩
  · rw [if_neg g_]
    obtain ⟨h1, m_, w0_, f_, r_⟩ := xclE H_.1 (xNc H_) oy (by omega)
    exact ⟨h1, m_, SX_e H_ m_ f_, r_⟩
theorem m_call {W_ : Nat → List Int32} {V : Nat → Int32} {h_ : xH} (B_ : bInv bZ bIj h_) (K_ : okS W_ V) (H_ : SM W_ V h_) : ∃ h', ysm h_ h' ∧ (SM (callF W_ V).1 (callF W_ V).2.1 h' ∧ ∀ D_, 60 ≤ D_ → xrun D_ 159 0 [(0, .index 338)] [] h_ (some (.int (callF W_ V).2.2), h', [])) := by
  obtain ⟨y_, oy⟩ := merr (k_ := 4) B_ (by omega)
  have zz := i12_
  have kN_ := okN K_
  unfold callF
  by_cases g_ : (V 0).toInt < 12
  · rw [if_pos g_]
    obtain ⟨c_, hc_, ec, en⟩ := n34 kN_.1 kN_.2
    have hc2 : c_ < 12 := by omega
    have eq_ : (V 0).toInt.toNat = c_ := by omega
    obtain ⟨ix, b1⟩ := i34 hc2
    rw [← en] at ix b1
    obtain ⟨h1, m_, e1_, e2_, f_, r_⟩ := mclO H_.1 (mNc H_) b1 (by rw [ix]; show ¬ 34 + 13 * c_ = 0; omega) (fun q_ => by rw [q_] at g_; omega)
    rw [ix] at e2_ f_
    rw [eq_]
    exact ⟨h1, m_, SM_ir H_ (lenS_ok K_) m_ (show (0, 0) ∈ (8, 4) :: wvM by decide) (cl_m hc2) e1_ (rwq_nil e2_) (fun c2_ j_ _ n2_ n3_ => f_ c2_ j_ n2_ (fun q_ => n3_ ⟨q_.1, by rw [q_.2]; exact smo_c (j_ := 0) hc2 (by omega)⟩)), r_⟩
  · rw [if_neg g_]
    obtain ⟨h1, m_, w0_, f_, r_⟩ := mclE H_.1 (mNc H_) oy (Int32.toInt_inj.mp (by omega))
    exact ⟨h1, m_, SM_e H_ m_ f_, r_⟩
-- ===== sound
-- xsoE: 71 steps, 1 ends, 3 returns
def xsoE_L : List (Nat × Nat × Nat) := []
def xsoE_O : yO := [(0, .int 0, .index 1), (1, .int 9, .arg 310), (0, .int 13, .index 323), (323, .int 1, .arg 400)]
def xsoE_A : yA := (yZ xsoE_L, [], [], [], [(130, [.arg 2], .arg 500)])
def xsoE_C : List xB := []
def xsoE_ss : List yS := [(21, [(0, .index 0), (1, .arg 1), (2, .arg 2)], [], [(0, .int 0, .index 1), (1, .int 9, .arg 310), (0, .int 13, .index 323), (323, .int 1, .arg 400)], [(.eq, .arg 500, .int 0, false), (.lt, .arg 1, .arg 310, true), (.lt, .arg 1, .int 0, false)], [])]
def xsoE_rs : List yR := [(some (.int (Int32.ofInt (-1000001))), [(323, .int 1, .add (.arg 400) (.int 1)), (0, .int 0, .index 1), (1, .int 9, .arg 310), (0, .int 13, .index 323)], [(.lt, .arg 1, .int 0, true)], [(323, .int 1)]),
  (some (.int (Int32.ofInt (-1000001))), [(323, .int 1, .add (.arg 400) (.int 1)), (0, .int 0, .index 1), (1, .int 9, .arg 310), (0, .int 13, .index 323)], [(.lt, .arg 1, .arg 310, false), (.lt, .arg 1, .int 0, false)], [(323, .int 1)]),
  (some (.int (Int32.ofInt (-1000001))), [(323, .int 1, .add (.arg 400) (.int 1)), (0, .int 0, .index 1), (1, .int 9, .arg 310), (0, .int 13, .index 323)], [(.eq, .arg 500, .int 0, true), (.lt, .arg 1, .arg 310, true), (.lt, .arg 1, .int 0, false)], [(323, .int 1)])]
theorem xsoE_w : ywa xsoE_A xsoE_ss xsoE_rs = true := by decide +kernel
theorem xsoE_k : yis (yev xsoE_A 3000 60 75 [21] (0, [(0, .index 0), (1, .arg 1), (2, .arg 2)], [], xsoE_O, xsoE_C, [])) xsoE_ss xsoE_rs = true := by decide +kernel
def xsoE_r (v1_ v2 v310 v400 v500 : Int32) (k_ : Nat) : Value := bif Nat.beq k_ 1 then .int v1_ else (bif Nat.beq k_ 2 then .int v2 else (bif Nat.beq k_ 310 then .int v310 else (bif Nat.beq k_ 400 then .int v400 else (bif Nat.beq k_ 500 then .int v500 else (.int 0)))))
def xsoE_s (n_ : Nat) : Nat := 0
theorem xsoE {h_ : xH} {v1_ v2 v310 v400 v500 : Int32} (hs : sHp h_) (o0_ : bpat h_ 1 9 = some (.int v310)) (o1 : bpat h_ 323 1 = some (.int v400)) (p0_ : ∀ (h_ : xH) (D_ : Nat), 5 ≤ D_ → xrun D_ 130 0 [(0, .int v2)] [] h_ (some (.int v500), h_, [])) : ∃ h', ysm h_ h' ∧ (((¬ v500 = (0 : Int32)) ∧ (v1_.toInt < v310.toInt) ∧ ((0 : Int32).toInt ≤ v1_.toInt) ∧ (∀ a_ j_ : Nat, bpat h' a_ j_ = bpat h_ a_ j_) ∧ (bldD 60 75 0 [(0, .index 0), (1, .int v1_), (2, .int v2)] [] h_ 21 [(0, .index 0), (1, .int v1_), (2, .int v2)] [] h'))
  ∨ ((v1_.toInt < (0 : Int32).toInt) ∧ (bpat h' 323 1 = some (.int (v400 + (1 : Int32)))) ∧ (∀ a_ j_ : Nat, ¬ (a_ = 323 ∧ j_ = 1) → bpat h' a_ j_ = bpat h_ a_ j_) ∧ (∀ D_, 60 ≤ D_ → xrun D_ 75 0 [(0, .index 0), (1, .int v1_), (2, .int v2)] [] h_ (some (.int (Int32.ofInt (-1000001))), h', [])))
  ∨ ((v310.toInt ≤ v1_.toInt) ∧ ((0 : Int32).toInt ≤ v1_.toInt) ∧ (bpat h' 323 1 = some (.int (v400 + (1 : Int32)))) ∧ (∀ a_ j_ : Nat, ¬ (a_ = 323 ∧ j_ = 1) → bpat h' a_ j_ = bpat h_ a_ j_) ∧ (∀ D_, 60 ≤ D_ → xrun D_ 75 0 [(0, .index 0), (1, .int v1_), (2, .int v2)] [] h_ (some (.int (Int32.ofInt (-1000001))), h', [])))
  ∨ ((v500 = (0 : Int32)) ∧ (v1_.toInt < v310.toInt) ∧ ((0 : Int32).toInt ≤ v1_.toInt) ∧ (bpat h' 323 1 = some (.int (v400 + (1 : Int32)))) ∧ (∀ a_ j_ : Nat, ¬ (a_ = 323 ∧ j_ = 1) → bpat h' a_ j_ = bpat h_ a_ j_) ∧ (∀ D_, 60 ≤ D_ → xrun D_ 75 0 [(0, .index 0), (1, .int v1_), (2, .int v2)] [] h_ (some (.int (Int32.ofInt (-1000001))), h', [])))) := by
  have hA : yas xsoE_A (xsoE_r v1_ v2 v310 v400 v500) (yg xsoE_s) := ⟨fun q_ hq => absurd hq List.not_mem_nil, fun q_ hq => absurd hq List.not_mem_nil, fun q_ hq => absurd hq List.not_mem_nil, fun n_ hn => yg_lo hn, List.forall_mem_cons.mpr ⟨p0_, fun q_ hq => absurd hq List.not_mem_nil⟩⟩
  have Hs : ysh xsoE_A.1 (yg xsoE_s) h_ := ysh_of2 hs (fun q_ hq => absurd hq List.not_mem_nil)
  have Ho : ymem (xsoE_r v1_ v2 v310 v400 v500) (yg xsoE_s) xsoE_O h_ := List.forall_mem_cons.mpr ⟨bpat_some (fxr_at hs.2 (show fxk fxl 0 0 = some 1 by decide +kernel)), List.forall_mem_cons.mpr ⟨bpat_some o0_, List.forall_mem_cons.mpr ⟨bpat_some (fxr_at hs.2 (show fxk fxl 0 13 = some 323 by decide +kernel)), List.forall_mem_cons.mpr ⟨bpat_some o1, fun q_ hq => absurd hq List.not_mem_nil⟩⟩⟩⟩
  have HC : ∀ q_ ∈ xsoE_C, xhold (xsoE_r v1_ v2 v310 v400 v500) q_ := fun q_ hq => absurd hq List.not_mem_nil
  rcases yrun (yis_ok xsoE_k) hA Hs Ho HC with ⟨q_, hq, h', K_, G_⟩ | ⟨q_, hq, h', K_, G_⟩
  · have e_ := List.mem_singleton.mp hq
    subst e_
    exact ⟨h', yfr_sm K_.2.2.2 hs K_.1 (ywa_s xsoE_w List.mem_cons_self), Or.inl (⟨xq_eqF rfl rfl (K_.2.2.1 _ List.mem_cons_self), xq_ltT rfl rfl (K_.2.2.1 _ (List.mem_cons_of_mem _ List.mem_cons_self)), xq_ltF rfl rfl (K_.2.2.1 _ (List.mem_cons_of_mem _ (List.mem_cons_of_mem _ List.mem_cons_self))), fun a_ j_ => yfr_bp K_.2.2.2 (fun q_ hq => absurd hq List.not_mem_nil), G_⟩)⟩
  · rcases List.mem_cons.mp hq with e_ | hq
    · subst e_
      exact ⟨h', yfr_sm K_.2.2.2 hs K_.1 (ywa_r xsoE_w List.mem_cons_self), Or.inr (Or.inl (⟨xq_ltT rfl rfl (K_.2.2.1 _ List.mem_cons_self), bpat_of (K_.2.1 _ List.mem_cons_self), fun a_ j_ n0_ => yfr_bp K_.2.2.2 (List.forall_mem_cons.mpr ⟨fun e_ => n0_ ⟨e_.1.symm, e_.2.symm⟩, fun q_ hq => absurd hq List.not_mem_nil⟩), G_⟩))⟩
    rcases List.mem_cons.mp hq with e_ | hq
    · subst e_
      exact ⟨h', yfr_sm K_.2.2.2 hs K_.1 (ywa_r xsoE_w (List.mem_cons_of_mem _ List.mem_cons_self)), Or.inr (Or.inr (Or.inl (⟨xq_ltF rfl rfl (K_.2.2.1 _ List.mem_cons_self), xq_ltF rfl rfl (K_.2.2.1 _ (List.mem_cons_of_mem _ List.mem_cons_self)), bpat_of (K_.2.1 _ List.mem_cons_self), fun a_ j_ n0_ => yfr_bp K_.2.2.2 (List.forall_mem_cons.mpr ⟨fun e_ => n0_ ⟨e_.1.symm, e_.2.symm⟩, fun q_ hq => absurd hq List.not_mem_nil⟩), G_⟩)))⟩
    have e_ := List.mem_singleton.mp hq
    subst e_
    exact ⟨h', yfr_sm K_.2.2.2 hs K_.1 (ywa_r xsoE_w (List.mem_cons_of_mem _ (List.mem_cons_of_mem _ List.mem_cons_self))), Or.inr (Or.inr (Or.inr (⟨xq_eqT rfl rfl (K_.2.2.1 _ List.mem_cons_self), xq_ltT rfl rfl (K_.2.2.1 _ (List.mem_cons_of_mem _ List.mem_cons_self)), xq_ltF rfl rfl (K_.2.2.1 _ (List.mem_cons_of_mem _ (List.mem_cons_of_mem _ List.mem_cons_self))), bpat_of (K_.2.1 _ List.mem_cons_self), fun a_ j_ n0_ => yfr_bp K_.2.2.2 (List.forall_mem_cons.mpr ⟨fun e_ => n0_ ⟨e_.1.symm, e_.2.symm⟩, fun q_ hq => absurd hq List.not_mem_nil⟩), G_⟩)))⟩
-- xsoO: 50 steps, 0 ends, 1 returns
def xsoO_L : List (Nat × Nat × Nat) := [(1000, 6, 2), (1001, 20, 12)]
def xsoO_O : yO := [(0, .int 0, .index 1), (1, .int 9, .arg 310), (1, .int 0, .index 2), (2, .arg 1, .index 1000), (1000, .int 1, .arg 311), (1000, .int 0, .index 1001)]
def xsoO_A : yA := (yZ xsoO_L, [(.arg 1, 12), (.arg 311, 12)], [], [], [(130, [.arg 2], .arg 500)])
def xsoO_C : List xB := [(.lt, .arg 311, .int 12, true), (.eq, .arg 500, .int 0, false), (.lt, .arg 1, .arg 310, true), (.lt, .arg 1, .int 0, false)]
def xsoO_ss : List yS := []
def xsoO_rs : List yR := [(some (.add (.arg 311) (.int 1)), [(1000, .int 1, .add (.arg 311) (.int 1)), (1001, .arg 311, .arg 2), (0, .int 0, .index 1), (1, .int 9, .arg 310), (1, .int 0, .index 2), (2, .arg 1, .index 1000), (1000, .int 0, .index 1001)], [(.lt, .arg 311, .int 12, true), (.eq, .arg 500, .int 0, false), (.lt, .arg 1, .arg 310, true), (.lt, .arg 1, .int 0, false)], [(1000, .int 1), (1001, .arg 311)])]
theorem xsoO_w : ywa xsoO_A xsoO_ss xsoO_rs = true := by decide +kernel
theorem xsoO_k : yis (yev xsoO_A 3000 60 75 [] (0, [(0, .index 0), (1, .arg 1), (2, .arg 2)], [], xsoO_O, xsoO_C, [])) xsoO_ss xsoO_rs = true := by decide +kernel
def xsoO_r (v1_ v2 v310 v311 v500 : Int32) (k_ : Nat) : Value := bif Nat.beq k_ 1 then .int v1_ else (bif Nat.beq k_ 2 then .int v2 else (bif Nat.beq k_ 310 then .int v310 else (bif Nat.beq k_ 311 then .int v311 else (bif Nat.beq k_ 500 then .int v500 else (.int 0)))))
def xsoO_s (a1000 a1001 : Nat) (n_ : Nat) : Nat := bif Nat.beq n_ 1000 then a1000 else (bif Nat.beq n_ 1001 then a1001 else (0))
theorem xsoO {h_ : xH} {a1000 a1001 : Nat} {v1_ v2 v310 v311 v500 : Int32} (hs : sHp h_) (k1000 : bcq h_ a1000 6 2) (k1001 : bcq h_ a1001 20 12) (o0_ : bpat h_ 1 9 = some (.int v310)) (o1 : bpat h_ 2 (v1_).toInt.toNat = some (.index a1000)) (o2 : bpat h_ a1000 1 = some (.int v311)) (o3_ : bpat h_ a1000 0 = some (.index a1001)) (b0 : 0 ≤ (v1_).toInt ∧ (v1_).toInt < 12) (b1 : 0 ≤ (v311).toInt ∧ (v311).toInt < 12) (p0_ : ∀ (h_ : xH) (D_ : Nat), 5 ≤ D_ → xrun D_ 130 0 [(0, .int v2)] [] h_ (some (.int v500), h_, [])) (c0_ : v311.toInt < (12 : Int32).toInt) (c1_ : ¬ v500 = (0 : Int32)) (c2_ : v1_.toInt < v310.toInt) (c3_ : (0 : Int32).toInt ≤ v1_.toInt) : ∃ h', ysm h_ h' ∧ (((bpat h' a1000 1 = some (.int (v311 + (1 : Int32)))) ∧ (bpat h' a1001 (v311).toInt.toNat = some (.int v2)) ∧ (∀ a_ j_ : Nat, ¬ (a_ = a1000 ∧ j_ = 1) → ¬ (a_ = a1001 ∧ j_ = (v311).toInt.toNat) → bpat h' a_ j_ = bpat h_ a_ j_) ∧ (∀ D_, 60 ≤ D_ → xrun D_ 75 0 [(0, .index 0), (1, .int v1_), (2, .int v2)] [] h_ (some (.int (v311 + (1 : Int32))), h', [])))) := by
  have hA : yas xsoO_A (xsoO_r v1_ v2 v310 v311 v500) (yg (xsoO_s a1000 a1001)) := ⟨List.forall_mem_cons.mpr ⟨b0, List.forall_mem_cons.mpr ⟨b1, fun q_ hq => absurd hq List.not_mem_nil⟩⟩, fun q_ hq => absurd hq List.not_mem_nil, fun q_ hq => absurd hq List.not_mem_nil, fun n_ hn => yg_lo hn, List.forall_mem_cons.mpr ⟨p0_, fun q_ hq => absurd hq List.not_mem_nil⟩⟩
  have Hs : ysh xsoO_A.1 (yg (xsoO_s a1000 a1001)) h_ := ysh_of2 hs (List.forall_mem_cons.mpr ⟨⟨by decide, k1000⟩, List.forall_mem_cons.mpr ⟨⟨by decide, k1001⟩, fun q_ hq => absurd hq List.not_mem_nil⟩⟩)
  have Ho : ymem (xsoO_r v1_ v2 v310 v311 v500) (yg (xsoO_s a1000 a1001)) xsoO_O h_ := List.forall_mem_cons.mpr ⟨bpat_some (fxr_at hs.2 (show fxk fxl 0 0 = some 1 by decide +kernel)), List.forall_mem_cons.mpr ⟨bpat_some o0_, List.forall_mem_cons.mpr ⟨bpat_some (fxr_at hs.2 (show fxk fxl 1 0 = some 2 by decide +kernel)), List.forall_mem_cons.mpr ⟨bpat_some o1, List.forall_mem_cons.mpr ⟨bpat_some o2, List.forall_mem_cons.mpr ⟨bpat_some o3_, fun q_ hq => absurd hq List.not_mem_nil⟩⟩⟩⟩⟩⟩
  have HC : ∀ q_ ∈ xsoO_C, xhold (xsoO_r v1_ v2 v310 v311 v500) q_ := List.forall_mem_cons.mpr ⟨xh_ltT c0_, List.forall_mem_cons.mpr ⟨xh_eqF2 c1_, List.forall_mem_cons.mpr ⟨xh_ltT c2_, List.forall_mem_cons.mpr ⟨xh_ltF c3_, fun q_ hq => absurd hq List.not_mem_nil⟩⟩⟩⟩
  rcases yrun (yis_ok xsoO_k) hA Hs Ho HC with ⟨q_, hq, h', K_, G_⟩ | ⟨q_, hq, h', K_, G_⟩
  · cases hq
  · have e_ := List.mem_singleton.mp hq
    subst e_
    exact ⟨h', yfr_sm K_.2.2.2 hs K_.1 (ywa_r xsoO_w List.mem_cons_self), ⟨bpat_of (K_.2.1 _ List.mem_cons_self), bpat_of (K_.2.1 _ (List.mem_cons_of_mem _ List.mem_cons_self)), fun a_ j_ n0_ n1_ => yfr_bp K_.2.2.2 (List.forall_mem_cons.mpr ⟨fun e_ => n0_ ⟨e_.1.symm, e_.2.symm⟩, List.forall_mem_cons.mpr ⟨fun e_ => n1_ ⟨e_.1.symm, e_.2.symm⟩, fun q_ hq => absurd hq List.not_mem_nil⟩⟩), G_⟩⟩
-- xsoF: 51 steps, 0 ends, 1 returns
def xsoF_L : List (Nat × Nat × Nat) := [(1000, 6, 2), (1001, 20, 12)]
def xsoF_O : yO := [(0, .int 0, .index 1), (1, .int 9, .arg 310), (1, .int 0, .index 2), (2, .arg 1, .index 1000), (1000, .int 1, .arg 311), (1000, .int 0, .index 1001), (0, .int 13, .index 323), (323, .int 4, .arg 400)]
def xsoF_A : yA := (yZ xsoF_L, [(.arg 1, 12)], [], [], [(130, [.arg 2], .arg 500)])
def xsoF_C : List xB := [(.lt, .arg 311, .int 12, false), (.eq, .arg 500, .int 0, false), (.lt, .arg 1, .arg 310, true), (.lt, .arg 1, .int 0, false)]
def xsoF_ss : List yS := []
def xsoF_rs : List yR := [(some (.int (Int32.ofInt (-1000004))), [(323, .int 4, .add (.arg 400) (.int 1)), (0, .int 0, .index 1), (1, .int 9, .arg 310), (1, .int 0, .index 2), (2, .arg 1, .index 1000), (1000, .int 1, .arg 311), (1000, .int 0, .index 1001), (0, .int 13, .index 323)], [(.lt, .arg 311, .int 12, false), (.eq, .arg 500, .int 0, false), (.lt, .arg 1, .arg 310, true), (.lt, .arg 1, .int 0, false)], [(323, .int 4)])]
theorem xsoF_w : ywa xsoF_A xsoF_ss xsoF_rs = true := by decide +kernel
theorem xsoF_k : yis (yev xsoF_A 3000 60 75 [] (0, [(0, .index 0), (1, .arg 1), (2, .arg 2)], [], xsoF_O, xsoF_C, [])) xsoF_ss xsoF_rs = true := by decide +kernel
def xsoF_r (v1_ v2 v310 v311 v400 v500 : Int32) (k_ : Nat) : Value := bif Nat.beq k_ 1 then .int v1_ else (bif Nat.beq k_ 2 then .int v2 else (bif Nat.beq k_ 310 then .int v310 else (bif Nat.beq k_ 311 then .int v311 else (bif Nat.beq k_ 400 then .int v400 else (bif Nat.beq k_ 500 then .int v500 else (.int 0))))))
def xsoF_s (a1000 a1001 : Nat) (n_ : Nat) : Nat := bif Nat.beq n_ 1000 then a1000 else (bif Nat.beq n_ 1001 then a1001 else (0))
theorem xsoF {h_ : xH} {a1000 a1001 : Nat} {v1_ v2 v310 v311 v400 v500 : Int32} (hs : sHp h_) (k1000 : bcq h_ a1000 6 2) (k1001 : bcq h_ a1001 20 12) (o0_ : bpat h_ 1 9 = some (.int v310)) (o1 : bpat h_ 2 (v1_).toInt.toNat = some (.index a1000)) (o2 : bpat h_ a1000 1 = some (.int v311)) (o3_ : bpat h_ a1000 0 = some (.index a1001)) (o4_ : bpat h_ 323 4 = some (.int v400)) (b0 : 0 ≤ (v1_).toInt ∧ (v1_).toInt < 12) (p0_ : ∀ (h_ : xH) (D_ : Nat), 5 ≤ D_ → xrun D_ 130 0 [(0, .int v2)] [] h_ (some (.int v500), h_, [])) (c0_ : (12 : Int32).toInt ≤ v311.toInt) (c1_ : ¬ v500 = (0 : Int32)) (c2_ : v1_.toInt < v310.toInt) (c3_ : (0 : Int32).toInt ≤ v1_.toInt) : ∃ h', ysm h_ h' ∧ (((bpat h' 323 4 = some (.int (v400 + (1 : Int32)))) ∧ (∀ a_ j_ : Nat, ¬ (a_ = 323 ∧ j_ = 4) → bpat h' a_ j_ = bpat h_ a_ j_) ∧ (∀ D_, 60 ≤ D_ → xrun D_ 75 0 [(0, .index 0), (1, .int v1_), (2, .int v2)] [] h_ (some (.int (Int32.ofInt (-1000004))), h', [])))) := by
  have hA : yas xsoF_A (xsoF_r v1_ v2 v310 v311 v400 v500) (yg (xsoF_s a1000 a1001)) := ⟨List.forall_mem_cons.mpr ⟨b0, fun q_ hq => absurd hq List.not_mem_nil⟩, fun q_ hq => absurd hq List.not_mem_nil, fun q_ hq => absurd hq List.not_mem_nil, fun n_ hn => yg_lo hn, List.forall_mem_cons.mpr ⟨p0_, fun q_ hq => absurd hq List.not_mem_nil⟩⟩
  have Hs : ysh xsoF_A.1 (yg (xsoF_s a1000 a1001)) h_ := ysh_of2 hs (List.forall_mem_cons.mpr ⟨⟨by decide, k1000⟩, List.forall_mem_cons.mpr ⟨⟨by decide, k1001⟩, fun q_ hq => absurd hq List.not_mem_nil⟩⟩)
  have Ho : ymem (xsoF_r v1_ v2 v310 v311 v400 v500) (yg (xsoF_s a1000 a1001)) xsoF_O h_ := List.forall_mem_cons.mpr ⟨bpat_some (fxr_at hs.2 (show fxk fxl 0 0 = some 1 by decide +kernel)), List.forall_mem_cons.mpr ⟨bpat_some o0_, List.forall_mem_cons.mpr ⟨bpat_some (fxr_at hs.2 (show fxk fxl 1 0 = some 2 by decide +kernel)), List.forall_mem_cons.mpr ⟨bpat_some o1, List.forall_mem_cons.mpr ⟨bpat_some o2, List.forall_mem_cons.mpr ⟨bpat_some o3_, List.forall_mem_cons.mpr ⟨bpat_some (fxr_at hs.2 (show fxk fxl 0 13 = some 323 by decide +kernel)), List.forall_mem_cons.mpr ⟨bpat_some o4_, fun q_ hq => absurd hq List.not_mem_nil⟩⟩⟩⟩⟩⟩⟩⟩
  have HC : ∀ q_ ∈ xsoF_C, xhold (xsoF_r v1_ v2 v310 v311 v400 v500) q_ := List.forall_mem_cons.mpr ⟨xh_ltF c0_, List.forall_mem_cons.mpr ⟨xh_eqF2 c1_, List.forall_mem_cons.mpr ⟨xh_ltT c2_, List.forall_mem_cons.mpr ⟨xh_ltF c3_, fun q_ hq => absurd hq List.not_mem_nil⟩⟩⟩⟩
  rcases yrun (yis_ok xsoF_k) hA Hs Ho HC with ⟨q_, hq, h', K_, G_⟩ | ⟨q_, hq, h', K_, G_⟩
  · cases hq
  · have e_ := List.mem_singleton.mp hq
    subst e_
    exact ⟨h', yfr_sm K_.2.2.2 hs K_.1 (ywa_r xsoF_w List.mem_cons_self), ⟨bpat_of (K_.2.1 _ List.mem_cons_self), fun a_ j_ n0_ => yfr_bp K_.2.2.2 (List.forall_mem_cons.mpr ⟨fun e_ => n0_ ⟨e_.1.symm, e_.2.symm⟩, fun q_ hq => absurd hq List.not_mem_nil⟩), G_⟩⟩
-- msoE: 82 steps, 1 ends, 3 returns
def msoE_L : List (Nat × Nat × Nat) := []
def msoE_O : yO := [(338, .int 0, .index 339), (339, .int 0, .arg 310), (338, .int 3, .index 341), (341, .int 1, .arg 400)]
def msoE_A : yA := (yZ msoE_L, [], [], [], [(142, [.arg 2], .arg 500)])
def msoE_C : List xB := []
def msoE_ss : List yS := [(21, [(0, .index 338), (1, .arg 1), (2, .arg 2)], [], [(338, .int 0, .index 339), (339, .int 0, .arg 310), (338, .int 3, .index 341), (341, .int 1, .arg 400)], [(.eq, .arg 500, .int 0, false), (.le, .arg 1, .sub (.arg 310) (.int 1), true), (.lt, .arg 1, .int 0, false)], [])]
def msoE_rs : List yR := [(some (.int (Int32.ofInt (-1000001))), [(341, .int 1, .add (.arg 400) (.int 1)), (338, .int 0, .index 339), (339, .int 0, .arg 310), (338, .int 3, .index 341)], [(.lt, .arg 1, .int 0, true)], [(341, .int 1)]),
  (some (.int (Int32.ofInt (-1000001))), [(341, .int 1, .add (.arg 400) (.int 1)), (338, .int 0, .index 339), (339, .int 0, .arg 310), (338, .int 3, .index 341)], [(.le, .arg 1, .sub (.arg 310) (.int 1), false), (.lt, .arg 1, .int 0, false)], [(341, .int 1)]),
  (some (.int (Int32.ofInt (-1000001))), [(341, .int 1, .add (.arg 400) (.int 1)), (338, .int 0, .index 339), (339, .int 0, .arg 310), (338, .int 3, .index 341)], [(.eq, .arg 500, .int 0, true), (.le, .arg 1, .sub (.arg 310) (.int 1), true), (.lt, .arg 1, .int 0, false)], [(341, .int 1)])]
theorem msoE_w : ywa msoE_A msoE_ss msoE_rs = true := by decide +kernel
theorem msoE_k : yis (yev msoE_A 3000 60 160 [21] (0, [(0, .index 338), (1, .arg 1), (2, .arg 2)], [], msoE_O, msoE_C, [])) msoE_ss msoE_rs = true := by decide +kernel
def msoE_r (v1_ v2 v310 v400 v500 : Int32) (k_ : Nat) : Value := bif Nat.beq k_ 1 then .int v1_ else (bif Nat.beq k_ 2 then .int v2 else (bif Nat.beq k_ 310 then .int v310 else (bif Nat.beq k_ 400 then .int v400 else (bif Nat.beq k_ 500 then .int v500 else (.int 0)))))
def msoE_s (n_ : Nat) : Nat := 0
theorem msoE {h_ : xH} {v1_ v2 v310 v400 v500 : Int32} (hs : sHp h_) (o0_ : bpat h_ 339 0 = some (.int v310)) (o1 : bpat h_ 341 1 = some (.int v400)) (p0_ : ∀ (h_ : xH) (D_ : Nat), 5 ≤ D_ → xrun D_ 142 0 [(0, .int v2)] [] h_ (some (.int v500), h_, [])) : ∃ h', ysm h_ h' ∧ (((¬ v500 = (0 : Int32)) ∧ (v1_.toInt ≤ (v310 - (1 : Int32)).toInt) ∧ ((0 : Int32).toInt ≤ v1_.toInt) ∧ (∀ a_ j_ : Nat, bpat h' a_ j_ = bpat h_ a_ j_) ∧ (bldD 60 160 0 [(0, .index 338), (1, .int v1_), (2, .int v2)] [] h_ 21 [(0, .index 338), (1, .int v1_), (2, .int v2)] [] h'))
  ∨ ((v1_.toInt < (0 : Int32).toInt) ∧ (bpat h' 341 1 = some (.int (v400 + (1 : Int32)))) ∧ (∀ a_ j_ : Nat, ¬ (a_ = 341 ∧ j_ = 1) → bpat h' a_ j_ = bpat h_ a_ j_) ∧ (∀ D_, 60 ≤ D_ → xrun D_ 160 0 [(0, .index 338), (1, .int v1_), (2, .int v2)] [] h_ (some (.int (Int32.ofInt (-1000001))), h', [])))
  ∨ (((v310 - (1 : Int32)).toInt < v1_.toInt) ∧ ((0 : Int32).toInt ≤ v1_.toInt) ∧ (bpat h' 341 1 = some (.int (v400 + (1 : Int32)))) ∧ (∀ a_ j_ : Nat, ¬ (a_ = 341 ∧ j_ = 1) → bpat h' a_ j_ = bpat h_ a_ j_) ∧ (∀ D_, 60 ≤ D_ → xrun D_ 160 0 [(0, .index 338), (1, .int v1_), (2, .int v2)] [] h_ (some (.int (Int32.ofInt (-1000001))), h', [])))
  ∨ ((v500 = (0 : Int32)) ∧ (v1_.toInt ≤ (v310 - (1 : Int32)).toInt) ∧ ((0 : Int32).toInt ≤ v1_.toInt) ∧ (bpat h' 341 1 = some (.int (v400 + (1 : Int32)))) ∧ (∀ a_ j_ : Nat, ¬ (a_ = 341 ∧ j_ = 1) → bpat h' a_ j_ = bpat h_ a_ j_) ∧ (∀ D_, 60 ≤ D_ → xrun D_ 160 0 [(0, .index 338), (1, .int v1_), (2, .int v2)] [] h_ (some (.int (Int32.ofInt (-1000001))), h', [])))) := by
  have hA : yas msoE_A (msoE_r v1_ v2 v310 v400 v500) (yg msoE_s) := ⟨fun q_ hq => absurd hq List.not_mem_nil, fun q_ hq => absurd hq List.not_mem_nil, fun q_ hq => absurd hq List.not_mem_nil, fun n_ hn => yg_lo hn, List.forall_mem_cons.mpr ⟨p0_, fun q_ hq => absurd hq List.not_mem_nil⟩⟩
  have Hs : ysh msoE_A.1 (yg msoE_s) h_ := ysh_of2 hs (fun q_ hq => absurd hq List.not_mem_nil)
  have Ho : ymem (msoE_r v1_ v2 v310 v400 v500) (yg msoE_s) msoE_O h_ := List.forall_mem_cons.mpr ⟨bpat_some (fxr_at hs.2 (show fxk fxl 338 0 = some 339 by decide +kernel)), List.forall_mem_cons.mpr ⟨bpat_some o0_, List.forall_mem_cons.mpr ⟨bpat_some (fxr_at hs.2 (show fxk fxl 338 3 = some 341 by decide +kernel)), List.forall_mem_cons.mpr ⟨bpat_some o1, fun q_ hq => absurd hq List.not_mem_nil⟩⟩⟩⟩
  have HC : ∀ q_ ∈ msoE_C, xhold (msoE_r v1_ v2 v310 v400 v500) q_ := fun q_ hq => absurd hq List.not_mem_nil
  rcases yrun (yis_ok msoE_k) hA Hs Ho HC with ⟨q_, hq, h', K_, G_⟩ | ⟨q_, hq, h', K_, G_⟩
  · have e_ := List.mem_singleton.mp hq
    subst e_
    exact ⟨h', yfr_sm K_.2.2.2 hs K_.1 (ywa_s msoE_w List.mem_cons_self), Or.inl (⟨xq_eqF rfl rfl (K_.2.2.1 _ List.mem_cons_self), xq_leT rfl (yv_sub2 rfl rfl) (K_.2.2.1 _ (List.mem_cons_of_mem _ List.mem_cons_self)), xq_ltF rfl rfl (K_.2.2.1 _ (List.mem_cons_of_mem _ (List.mem_cons_of_mem _ List.mem_cons_self))), fun a_ j_ => yfr_bp K_.2.2.2 (fun q_ hq => absurd hq List.not_mem_nil), G_⟩)⟩
  · rcases List.mem_cons.mp hq with e_ | hq
    · subst e_
      exact ⟨h', yfr_sm K_.2.2.2 hs K_.1 (ywa_r msoE_w List.mem_cons_self), Or.inr (Or.inl (⟨xq_ltT rfl rfl (K_.2.2.1 _ List.mem_cons_self), bpat_of (K_.2.1 _ List.mem_cons_self), fun a_ j_ n0_ => yfr_bp K_.2.2.2 (List.forall_mem_cons.mpr ⟨fun e_ => n0_ ⟨e_.1.symm, e_.2.symm⟩, fun q_ hq => absurd hq List.not_mem_nil⟩), G_⟩))⟩
    rcases List.mem_cons.mp hq with e_ | hq
    · subst e_
      exact ⟨h', yfr_sm K_.2.2.2 hs K_.1 (ywa_r msoE_w (List.mem_cons_of_mem _ List.mem_cons_self)), Or.inr (Or.inr (Or.inl (⟨xq_leF rfl (yv_sub2 rfl rfl) (K_.2.2.1 _ List.mem_cons_self), xq_ltF rfl rfl (K_.2.2.1 _ (List.mem_cons_of_mem _ List.mem_cons_self)), bpat_of (K_.2.1 _ List.mem_cons_self), fun a_ j_ n0_ => yfr_bp K_.2.2.2 (List.forall_mem_cons.mpr ⟨fun e_ => n0_ ⟨e_.1.symm, e_.2.symm⟩, fun q_ hq => absurd hq List.not_mem_nil⟩), G_⟩)))⟩
    have e_ := List.mem_singleton.mp hq
    subst e_
    exact ⟨h', yfr_sm K_.2.2.2 hs K_.1 (ywa_r msoE_w (List.mem_cons_of_mem _ (List.mem_cons_of_mem _ List.mem_cons_self))), Or.inr (Or.inr (Or.inr (⟨xq_eqT rfl rfl (K_.2.2.1 _ List.mem_cons_self), xq_leT rfl (yv_sub2 rfl rfl) (K_.2.2.1 _ (List.mem_cons_of_mem _ List.mem_cons_self)), xq_ltF rfl rfl (K_.2.2.1 _ (List.mem_cons_of_mem _ (List.mem_cons_of_mem _ List.mem_cons_self))), bpat_of (K_.2.1 _ List.mem_cons_self), fun a_ j_ n0_ => yfr_bp K_.2.2.2 (List.forall_mem_cons.mpr ⟨fun e_ => n0_ ⟨e_.1.symm, e_.2.symm⟩, fun q_ hq => absurd hq List.not_mem_nil⟩), G_⟩)))⟩
-- msoO: 61 steps, 0 ends, 1 returns
def msoO_L : List (Nat × Nat × Nat) := []
def msoO_O : yO := [(338, .int 0, .index 339), (339, .int 0, .arg 310), (339, .add (.int 34) (.mul (.int 13) (.arg 1)), .arg 311)]
def msoO_A : yA := (yZ msoO_L, [(.add (.int 34) (.mul (.int 13) (.arg 1)), 768), (.add (.add (.int 34) (.mul (.int 13) (.arg 1))) (.add (.arg 311) (.int 1)), 768)], [(.add (.add (.int 34) (.mul (.int 13) (.arg 1))) (.add (.arg 311) (.int 1)), .add (.int 34) (.mul (.int 13) (.arg 1)))], [], [(142, [.arg 2], .arg 500)])
def msoO_C : List xB := [(.eq, .arg 311, .int 12, false), (.eq, .arg 500, .int 0, false), (.le, .arg 1, .sub (.arg 310) (.int 1), true), (.lt, .arg 1, .int 0, false)]
def msoO_ss : List yS := []
def msoO_rs : List yR := [(some (.add (.arg 311) (.int 1)), [(339, .add (.add (.int 34) (.mul (.int 13) (.arg 1))) (.add (.arg 311) (.int 1)), .arg 2), (339, .add (.int 34) (.mul (.int 13) (.arg 1)), .add (.arg 311) (.int 1)), (338, .int 0, .index 339)], [(.eq, .arg 311, .int 12, false), (.eq, .arg 500, .int 0, false), (.le, .arg 1, .sub (.arg 310) (.int 1), true), (.lt, .arg 1, .int 0, false)], [(339, .add (.add (.int 34) (.mul (.int 13) (.arg 1))) (.add (.arg 311) (.int 1))), (339, .add (.int 34) (.mul (.int 13) (.arg 1)))])]
theorem msoO_w : ywa msoO_A msoO_ss msoO_rs = true := by decide +kernel
theorem msoO_k : yis (yev msoO_A 3000 60 160 [] (0, [(0, .index 338), (1, .arg 1), (2, .arg 2)], [], msoO_O, msoO_C, [])) msoO_ss msoO_rs = true := by decide +kernel
def msoO_r (v1_ v2 v310 v311 v500 : Int32) (k_ : Nat) : Value := bif Nat.beq k_ 1 then .int v1_ else (bif Nat.beq k_ 2 then .int v2 else (bif Nat.beq k_ 310 then .int v310 else (bif Nat.beq k_ 311 then .int v311 else (bif Nat.beq k_ 500 then .int v500 else (.int 0)))))
def msoO_s (n_ : Nat) : Nat := 0
theorem msoO {h_ : xH} {v1_ v2 v310 v311 v500 : Int32} (hs : sHp h_) (o0_ : bpat h_ 339 0 = some (.int v310)) (o1 : bpat h_ 339 (((34 : Int32) + ((13 : Int32) * v1_))).toInt.toNat = some (.int v311)) (b0 : 0 ≤ (((34 : Int32) + ((13 : Int32) * v1_))).toInt ∧ (((34 : Int32) + ((13 : Int32) * v1_))).toInt < 768) (b1 : 0 ≤ ((((34 : Int32) + ((13 : Int32) * v1_)) + (v311 + (1 : Int32)))).toInt ∧ ((((34 : Int32) + ((13 : Int32) * v1_)) + (v311 + (1 : Int32)))).toInt < 768) (x0_ : ¬ ((((34 : Int32) + ((13 : Int32) * v1_)) + (v311 + (1 : Int32)))).toInt.toNat = (((34 : Int32) + ((13 : Int32) * v1_))).toInt.toNat) (p0_ : ∀ (h_ : xH) (D_ : Nat), 5 ≤ D_ → xrun D_ 142 0 [(0, .int v2)] [] h_ (some (.int v500), h_, [])) (c0_ : ¬ v311 = (12 : Int32)) (c1_ : ¬ v500 = (0 : Int32)) (c2_ : v1_.toInt ≤ (v310 - (1 : Int32)).toInt) (c3_ : (0 : Int32).toInt ≤ v1_.toInt) : ∃ h', ysm h_ h' ∧ (((bpat h' 339 ((((34 : Int32) + ((13 : Int32) * v1_)) + (v311 + (1 : Int32)))).toInt.toNat = some (.int v2)) ∧ (bpat h' 339 (((34 : Int32) + ((13 : Int32) * v1_))).toInt.toNat = some (.int (v311 + (1 : Int32)))) ∧ (∀ a_ j_ : Nat, ¬ (a_ = 339 ∧ j_ = ((((34 : Int32) + ((13 : Int32) * v1_)) + (v311 + (1 : Int32)))).toInt.toNat) → ¬ (a_ = 339 ∧ j_ = (((34 : Int32) + ((13 : Int32) * v1_))).toInt.toNat) → bpat h' a_ j_ = bpat h_ a_ j_) ∧ (∀ D_, 60 ≤ D_ → xrun D_ 160 0 [(0, .index 338), (1, .int v1_), (2, .int v2)] [] h_ (some (.int (v311 + (1 : Int32))), h', [])))) := by
  have hA : yas msoO_A (msoO_r v1_ v2 v310 v311 v500) (yg msoO_s) := ⟨List.forall_mem_cons.mpr ⟨b0, List.forall_mem_cons.mpr ⟨b1, fun q_ hq => absurd hq List.not_mem_nil⟩⟩, List.forall_mem_cons.mpr ⟨x0_, fun q_ hq => absurd hq List.not_mem_nil⟩, fun q_ hq => absurd hq List.not_mem_nil, fun n_ hn => yg_lo hn, List.forall_mem_cons.mpr ⟨p0_, fun q_ hq => absurd hq List.not_mem_nil⟩⟩
  have Hs : ysh msoO_A.1 (yg msoO_s) h_ := ysh_of2 hs (fun q_ hq => absurd hq List.not_mem_nil)
  have Ho : ymem (msoO_r v1_ v2 v310 v311 v500) (yg msoO_s) msoO_O h_ := List.forall_mem_cons.mpr ⟨bpat_some (fxr_at hs.2 (show fxk fxl 338 0 = some 339 by decide +kernel)), List.forall_mem_cons.mpr ⟨bpat_some o0_, List.forall_mem_cons.mpr ⟨bpat_some o1, fun q_ hq => absurd hq List.not_mem_nil⟩⟩⟩
  have HC : ∀ q_ ∈ msoO_C, xhold (msoO_r v1_ v2 v310 v311 v500) q_ := List.forall_mem_cons.mpr ⟨xh_eqF2 c0_, List.forall_mem_cons.mpr ⟨xh_eqF2 c1_, List.forall_mem_cons.mpr ⟨xh_leT c2_, List.forall_mem_cons.mpr ⟨xh_ltF c3_, fun q_ hq => absurd hq List.not_mem_nil⟩⟩⟩⟩
  rcases yrun (yis_ok msoO_k) hA Hs Ho HC with ⟨q_, hq, h', K_, G_⟩ | ⟨q_, hq, h', K_, G_⟩
  · cases hq
  · have e_ := List.mem_singleton.mp hq
    subst e_
    exact ⟨h', yfr_sm K_.2.2.2 hs K_.1 (ywa_r msoO_w List.mem_cons_self), ⟨bpat_of (K_.2.1 _ List.mem_cons_self), bpat_of (K_.2.1 _ (List.mem_cons_of_mem _ List.mem_cons_self)), fun a_ j_ n0_ n1_ => yfr_bp K_.2.2.2 (List.forall_mem_cons.mpr ⟨fun e_ => n0_ ⟨e_.1.symm, e_.2.symm⟩, List.forall_mem_cons.mpr ⟨fun e_ => n1_ ⟨e_.1.symm, e_.2.symm⟩, fun q_ hq => absurd hq List.not_mem_nil⟩⟩), G_⟩⟩
-- msoF: 54 steps, 0 ends, 1 returns
def msoF_L : List (Nat × Nat × Nat) := []
def msoF_O : yO := [(338, .int 0, .index 339), (339, .int 0, .arg 310), (339, .add (.int 34) (.mul (.int 13) (.arg 1)), .arg 311), (338, .int 3, .index 341), (341, .int 4, .arg 400)]
def msoF_A : yA := (yZ msoF_L, [(.add (.int 34) (.mul (.int 13) (.arg 1)), 768)], [], [], [(142, [.arg 2], .arg 500)])
def msoF_C : List xB := [(.eq, .arg 311, .int 12, true), (.eq, .arg 500, .int 0, false), (.le, .arg 1, .sub (.arg 310) (.int 1), true), (.lt, .arg 1, .int 0, false)]
def msoF_ss : List yS := []
def msoF_rs : List yR := [(some (.int (Int32.ofInt (-1000004))), [(341, .int 4, .add (.arg 400) (.int 1)), (338, .int 0, .index 339), (339, .int 0, .arg 310), (339, .add (.int 34) (.mul (.int 13) (.arg 1)), .arg 311), (338, .int 3, .index 341)], [(.eq, .arg 311, .int 12, true), (.eq, .arg 500, .int 0, false), (.le, .arg 1, .sub (.arg 310) (.int 1), true), (.lt, .arg 1, .int 0, false)], [(341, .int 4)])]
theorem msoF_w : ywa msoF_A msoF_ss msoF_rs = true := by decide +kernel
theorem msoF_k : yis (yev msoF_A 3000 60 160 [] (0, [(0, .index 338), (1, .arg 1), (2, .arg 2)], [], msoF_O, msoF_C, [])) msoF_ss msoF_rs = true := by decide +kernel
def msoF_r (v1_ v2 v310 v311 v400 v500 : Int32) (k_ : Nat) : Value := bif Nat.beq k_ 1 then .int v1_ else (bif Nat.beq k_ 2 then .int v2 else (bif Nat.beq k_ 310 then .int v310 else (bif Nat.beq k_ 311 then .int v311 else (bif Nat.beq k_ 400 then .int v400 else (bif Nat.beq k_ 500 then .int v500 else (.int 0))))))
def msoF_s (n_ : Nat) : Nat := 0
theorem msoF {h_ : xH} {v1_ v2 v310 v311 v400 v500 : Int32} (hs : sHp h_) (o0_ : bpat h_ 339 0 = some (.int v310)) (o1 : bpat h_ 339 (((34 : Int32) + ((13 : Int32) * v1_))).toInt.toNat = some (.int v311)) (o2 : bpat h_ 341 4 = some (.int v400)) (b0 : 0 ≤ (((34 : Int32) + ((13 : Int32) * v1_))).toInt ∧ (((34 : Int32) + ((13 : Int32) * v1_))).toInt < 768) (p0_ : ∀ (h_ : xH) (D_ : Nat), 5 ≤ D_ → xrun D_ 142 0 [(0, .int v2)] [] h_ (some (.int v500), h_, [])) (c0_ : v311 = (12 : Int32)) (c1_ : ¬ v500 = (0 : Int32)) (c2_ : v1_.toInt ≤ (v310 - (1 : Int32)).toInt) (c3_ : (0 : Int32).toInt ≤ v1_.toInt) : ∃ h', ysm h_ h' ∧ (((bpat h' 341 4 = some (.int (v400 + (1 : Int32)))) ∧ (∀ a_ j_ : Nat, ¬ (a_ = 341 ∧ j_ = 4) → bpat h' a_ j_ = bpat h_ a_ j_) ∧ (∀ D_, 60 ≤ D_ → xrun D_ 160 0 [(0, .index 338), (1, .int v1_), (2, .int v2)] [] h_ (some (.int (Int32.ofInt (-1000004))), h', [])))) := by
  have hA : yas msoF_A (msoF_r v1_ v2 v310 v311 v400 v500) (yg msoF_s) := ⟨List.forall_mem_cons.mpr ⟨b0, fun q_ hq => absurd hq List.not_mem_nil⟩, fun q_ hq => absurd hq List.not_mem_nil, fun q_ hq => absurd hq List.not_mem_nil, fun n_ hn => yg_lo hn, List.forall_mem_cons.mpr ⟨p0_, fun q_ hq => absurd hq List.not_mem_nil⟩⟩
  have Hs : ysh msoF_A.1 (yg msoF_s) h_ := ysh_of2 hs (fun q_ hq => absurd hq List.not_mem_nil)
  have Ho : ymem (msoF_r v1_ v2 v310 v311 v400 v500) (yg msoF_s) msoF_O h_ := List.forall_mem_cons.mpr ⟨bpat_some (fxr_at hs.2 (show fxk fxl 338 0 = some 339 by decide +kernel)), List.forall_mem_cons.mpr ⟨bpat_some o0_, List.forall_mem_cons.mpr ⟨bpat_some o1, List.forall_mem_cons.mpr ⟨bpat_some (fxr_at hs.2 (show fxk fxl 338 3 = some 341 by decide +kernel)), List.forall_mem_cons.mpr ⟨bpat_some o2, fun q_ hq => absurd hq List.not_mem_nil⟩⟩⟩⟩⟩
  have HC : ∀ q_ ∈ msoF_C, xhold (msoF_r v1_ v2 v310 v311 v400 v500) q_ := List.forall_mem_cons.mpr ⟨xh_eqT2 c0_, List.forall_mem_cons.mpr ⟨xh_eqF2 c1_, List.forall_mem_cons.mpr ⟨xh_leT c2_, List.forall_mem_cons.mpr ⟨xh_ltF c3_, fun q_ hq => absurd hq List.not_mem_nil⟩⟩⟩⟩
  rcases yrun (yis_ok msoF_k) hA Hs Ho HC with ⟨q_, hq, h', K_, G_⟩ | ⟨q_, hq, h', K_, G_⟩
  · cases hq
  · have e_ := List.mem_singleton.mp hq
    subst e_
    exact ⟨h', yfr_sm K_.2.2.2 hs K_.1 (ywa_r msoF_w List.mem_cons_self), ⟨bpat_of (K_.2.1 _ List.mem_cons_self), fun a_ j_ n0_ => yfr_bp K_.2.2.2 (List.forall_mem_cons.mpr ⟨fun e_ => n0_ ⟨e_.1.symm, e_.2.symm⟩, fun q_ hq => absurd hq List.not_mem_nil⟩), G_⟩⟩
theorem pmS_pu (z_ : Int32) : pmS_F z_ = puS_F z_ := rfl
theorem i34j {c_ n_ : Nat} (hc_ : c_ < 12) (hn : n_ ≤ 12) : ((34 : Int32) + 13 * Int32.ofNat c_ + (Int32.ofNat n_ + 1)).toInt.toNat = 35 + 13 * c_ + n_ ∧ (0 ≤ ((34 : Int32) + 13 * Int32.ofNat c_ + (Int32.ofNat n_ + 1)).toInt ∧ ((34 : Int32) + 13 * Int32.ofNat c_ + (Int32.ofNat n_ + 1)).toInt < 768) := by
  have k_ : (List.range 12).all (fun c_ => decide ((34 : Int32) + 13 * Int32.ofNat c_ = Int32.ofNat (34 + 13 * c_))) = true := by decide +kernel
  have e_ := of_decide_eq_true (List.all_eq_true.mp k_ c_ (List.mem_range.mpr hc_))
  rw [e_, i32s, i32p, i32n (by omega)]
  omega
def soundF (W_ : Nat → List Int32) (V : Nat → Int32) (z_ s_ : Int32) : (Nat → List Int32) × (Nat → Int32) × Int32 := if (0 ≤ z_.toInt ∧ z_.toInt < (V 0).toInt) ∧ ¬ puS_F s_ = 0 then (if (W_ z_.toInt.toNat).length < 12 then (upR W_ z_.toInt.toNat (W_ z_.toInt.toNat ++ [s_]), V, Int32.ofNat (W_ z_.toInt.toNat).length + 1) else (W_, V, Int32.ofInt (-1000004))) else (W_, V, Int32.ofInt (-1000001))
theorem x_sound {W_ : Nat → List Int32} {V : Nat → Int32} {h_ : xH} {z_ s_ : Int32} (B_ : bInv bZ bIj h_) (K_ : okS W_ V) (H_ : SX W_ V h_) : ∃ h', ysm h_ h' ∧ (SX (soundF W_ V z_ s_).1 (soundF W_ V z_ s_).2.1 h' ∧ ∀ D_, 60 ≤ D_ → xrun D_ 75 0 [(0, .index 0), (1, .int z_), (2, .int s_)] [] h_ (some (.int (soundF W_ V z_ s_).2.2), h', [])) := by
  obtain ⟨y_, oy⟩ := xerr (k_ := 1) B_ (by omega)
  obtain ⟨y4, oy4⟩ := xerr (k_ := 4) B_ (by omega)
  have zz := z0_
  have z12 := i12_
  have okl := K_.1.2.2.1
  unfold soundF
  by_cases g_ : (0 ≤ z_.toInt ∧ z_.toInt < (V 0).toInt) ∧ ¬ puS_F s_ = 0
  · rw [if_pos g_]
    obtain ⟨c_, hc_, hN_, rfl, ec⟩ := isC_n K_ g_.1
    obtain ⟨s1_, s2_, s3_⟩ := cl_s H_.1 hc_
    have R_ := SX_w H_ (cl_x hc_)
    have hl : (W_ c_).length ≤ 12 := R_.2.2.1
    have il := i32n (i_ := (W_ c_).length) (by omega)
    rw [ec]
    by_cases g2 : (W_ c_).length < 12
    · rw [if_pos g2]
      obtain ⟨h1, m_, e1_, e2_, f_, r_⟩ := xsoO (v1_ := Int32.ofNat c_) (v2 := s_) (v500 := puS_F s_) H_.1 s2_ s3_ (xNc H_) (by rw [ec]; exact s1_) R_.2.1.2 R_.2.1.1 ⟨by omega, by omega⟩ ⟨by omega, by omega⟩ (fun h_ D_ hD => puS s_ h_ D_ hD) (by omega) g_.2 (by omega) (by omega)
      exact ⟨h1, m_, SX_r H_ m_ (cl_x hc_) (rwx_one R_ g2 m_ e1_ e2_ (by omega) f_) (fun c2_ j_ _ n1_ n2_ => f_ c2_ j_ (fun q_ => n1_ q_.1) (fun q_ => n2_ q_.1)), r_⟩
    · rw [if_neg g2]
      obtain ⟨h1, m_, w0_, f_, r_⟩ := xsoF (v1_ := Int32.ofNat c_) (v2 := s_) (v500 := puS_F s_) H_.1 s2_ s3_ (xNc H_) (by rw [ec]; exact s1_) R_.2.1.2 R_.2.1.1 oy4 ⟨by omega, by omega⟩ (fun h_ D_ hD => puS s_ h_ D_ hD) (by omega) g_.2 (by omega) (by omega)
      exact ⟨h1, m_, SX_e H_ m_ f_, r_⟩
  · rw [if_neg g_]
    obtain ⟨h1, m_, e_⟩ := xsoE (v1_ := z_) (v2 := s_) (v500 := puS_F s_) H_.1 (xNc H_) oy (fun h_ D_ hD => puS s_ h_ D_ hD)
    rcases e_ with ⟨g1, g2, g3_, f_, r_⟩ | ⟨g1, w0_, f_, r_⟩ | ⟨g1, g2, w0_, f_, r_⟩ | ⟨g1, g2, g3_, w0_, f_, r_⟩
    · exact absurd ⟨⟨by omega, by omega⟩, g1⟩ g_
    · exact ⟨h1, m_, SX_e H_ m_ f_, r_⟩
    · exact ⟨h1, m_, SX_e H_ m_ f_, r_⟩
    · exact ⟨h1, m_, SX_e H_ m_ f_, r_⟩
theorem m_sound {W_ : Nat → List Int32} {V : Nat → Int32} {h_ : xH} {z_ s_ : Int32} (B_ : bInv bZ bIj h_) (K_ : okS W_ V) (H_ : SM W_ V h_) : ∃ h', ysm h_ h' ∧ (SM (soundF W_ V z_ s_).1 (soundF W_ V z_ s_).2.1 h' ∧ ∀ D_, 60 ≤ D_ → xrun D_ 160 0 [(0, .index 338), (1, .int z_), (2, .int s_)] [] h_ (some (.int (soundF W_ V z_ s_).2.2), h', [])) := by
  obtain ⟨y_, oy⟩ := merr (k_ := 1) B_ (by omega)
  obtain ⟨y4, oy4⟩ := merr (k_ := 4) B_ (by omega)
  have zz := z0_
  have z12 := i12_
  have kN_ := okN K_
  have n1_ := i32j (V 0) kN_.1 (by omega)
  unfold soundF
  by_cases g_ : (0 ≤ z_.toInt ∧ z_.toInt < (V 0).toInt) ∧ ¬ puS_F s_ = 0
  · rw [if_pos g_]
    obtain ⟨c_, hc_, hN_, rfl, ec⟩ := isC_n K_ g_.1
    obtain ⟨ix, b1⟩ := i34 hc_
    have R_ := SM_w H_ (cl_m hc_)
    have hl : (W_ c_).length ≤ 12 := (lenS_ok K_).1 _ (cl_m hc_)
    have il := i32n (i_ := (W_ c_).length) (by omega)
    rw [ec]
    by_cases g2 : (W_ c_).length < 12
    · rw [if_pos g2]
      obtain ⟨ix2, b2⟩ := i34j (c_ := c_) (n_ := (W_ c_).length) hc_ (by omega)
      obtain ⟨h1, m_, e2_, e1_, f_, r_⟩ := msoO (v1_ := Int32.ofNat c_) (v2 := s_) (v500 := pmS_F s_) H_.1 (mNc H_) (by rw [ix]; exact R_.1) b1 b2 (by rw [ix, ix2]; omega) (fun h_ D_ hD => pmS s_ h_ D_ hD) (fun q_ => by have q2_ := congrArg Int32.toInt q_; omega) g_.2 (by omega) (by omega)
      rw [ix2] at e2_ f_
      rw [ix] at e1_ f_
      rw [i32s] at e1_
      refine ⟨h1, m_, SM_r H_ (lenS_ok K_) m_ (cl_m hc_) (rwq_one (n_ := 12) R_ g2 e1_ (by rw [Nat.one_mul]; exact e2_) (fun j_ hj => f_ _ _ (fun q_ => by have q_ := q_.2; omega) (fun q_ => by have q_ := q_.2; omega))) (fun c2_ j_ _ n2_ => f_ c2_ j_ (fun q_ => n2_ ⟨q_.1, ?_⟩) (fun q_ => n2_ ⟨q_.1, ?_⟩)), r_⟩
      · rw [q_.2, show 35 + 13 * c_ + (W_ c_).length = 34 + 13 * c_ + (1 + (W_ c_).length) by omega]
        exact smo_c hc_ (by omega)
      · rw [q_.2]
        exact smo_c (j_ := 0) hc_ (by omega)
    · rw [if_neg g2]
      obtain ⟨h1, m_, w0_, f_, r_⟩ := msoF (v1_ := Int32.ofNat c_) (v2 := s_) (v500 := pmS_F s_) H_.1 (mNc H_) (by rw [ix]; exact R_.1) oy4 b1 (fun h_ D_ hD => pmS s_ h_ D_ hD) (Int32.toInt_inj.mp (by omega)) g_.2 (by omega) (by omega)
      exact ⟨h1, m_, SM_e H_ m_ f_, r_⟩
  · rw [if_neg g_]
    obtain ⟨h1, m_, e_⟩ := msoE (v1_ := z_) (v2 := s_) (v500 := pmS_F s_) H_.1 (mNc H_) oy (fun h_ D_ hD => pmS s_ h_ D_ hD)
    rcases e_ with ⟨g1, g2, g3_, f_, r_⟩ | ⟨g1, w0_, f_, r_⟩ | ⟨g1, g2, w0_, f_, r_⟩ | ⟨g1, g2, g3_, w0_, f_, r_⟩
    · exact absurd ⟨⟨by omega, by omega⟩, g1⟩ g_
    · exact ⟨h1, m_, SM_e H_ m_ f_, r_⟩
    · exact ⟨h1, m_, SM_e H_ m_ f_, r_⟩
    · exact ⟨h1, m_, SM_e H_ m_ f_, r_⟩
-- ===== so, seed
-- xssE: 37 steps, 1 ends, 2 returns
def xssE_L : List (Nat × Nat × Nat) := []
def xssE_O : yO := [(0, .int 13, .index 323), (323, .int 1, .arg 400)]
def xssE_A : yA := (yZ xssE_L, [], [], [], [])
def xssE_C : List xB := []
def xssE_ss : List yS := [(17, [(0, .index 0), (1, .arg 1)], [], [(0, .int 13, .index 323), (323, .int 1, .arg 400)], [(.le, .arg 1, .int 1048575, true), (.lt, .arg 1, .int 0, false)], [])]
def xssE_rs : List yR := [(some (.int (Int32.ofInt (-1000001))), [(323, .int 1, .add (.arg 400) (.int 1)), (0, .int 13, .index 323)], [(.lt, .arg 1, .int 0, true)], [(323, .int 1)]),
  (some (.int (Int32.ofInt (-1000001))), [(323, .int 1, .add (.arg 400) (.int 1)), (0, .int 13, .index 323)], [(.le, .arg 1, .int 1048575, false), (.lt, .arg 1, .int 0, false)], [(323, .int 1)])]
theorem xssE_w : ywa xssE_A xssE_ss xssE_rs = true := by decide +kernel
theorem xssE_k : yis (yev xssE_A 3000 60 99 [17] (0, [(0, .index 0), (1, .arg 1)], [], xssE_O, xssE_C, [])) xssE_ss xssE_rs = true := by decide +kernel
def xssE_r (v1_ v400 : Int32) (k_ : Nat) : Value := bif Nat.beq k_ 1 then .int v1_ else (bif Nat.beq k_ 400 then .int v400 else (.int 0))
def xssE_s (n_ : Nat) : Nat := 0
theorem xssE {h_ : xH} {v1_ v400 : Int32} (hs : sHp h_) (o0_ : bpat h_ 323 1 = some (.int v400)) : ∃ h', ysm h_ h' ∧ (((v1_.toInt ≤ (1048575 : Int32).toInt) ∧ ((0 : Int32).toInt ≤ v1_.toInt) ∧ (∀ a_ j_ : Nat, bpat h' a_ j_ = bpat h_ a_ j_) ∧ (bldD 60 99 0 [(0, .index 0), (1, .int v1_)] [] h_ 17 [(0, .index 0), (1, .int v1_)] [] h'))
  ∨ ((v1_.toInt < (0 : Int32).toInt) ∧ (bpat h' 323 1 = some (.int (v400 + (1 : Int32)))) ∧ (∀ a_ j_ : Nat, ¬ (a_ = 323 ∧ j_ = 1) → bpat h' a_ j_ = bpat h_ a_ j_) ∧ (∀ D_, 60 ≤ D_ → xrun D_ 99 0 [(0, .index 0), (1, .int v1_)] [] h_ (some (.int (Int32.ofInt (-1000001))), h', [])))
  ∨ (((1048575 : Int32).toInt < v1_.toInt) ∧ ((0 : Int32).toInt ≤ v1_.toInt) ∧ (bpat h' 323 1 = some (.int (v400 + (1 : Int32)))) ∧ (∀ a_ j_ : Nat, ¬ (a_ = 323 ∧ j_ = 1) → bpat h' a_ j_ = bpat h_ a_ j_) ∧ (∀ D_, 60 ≤ D_ → xrun D_ 99 0 [(0, .index 0), (1, .int v1_)] [] h_ (some (.int (Int32.ofInt (-1000001))), h', [])))) := by
  have hA : yas xssE_A (xssE_r v1_ v400) (yg xssE_s) := ⟨fun q_ hq => absurd hq List.not_mem_nil, fun q_ hq => absurd hq List.not_mem_nil, fun q_ hq => absurd hq List.not_mem_nil, fun n_ hn => yg_lo hn, fun q_ hq => absurd hq List.not_mem_nil⟩
  have Hs : ysh xssE_A.1 (yg xssE_s) h_ := ysh_of2 hs (fun q_ hq => absurd hq List.not_mem_nil)
  have Ho : ymem (xssE_r v1_ v400) (yg xssE_s) xssE_O h_ := List.forall_mem_cons.mpr ⟨bpat_some (fxr_at hs.2 (show fxk fxl 0 13 = some 323 by decide +kernel)), List.forall_mem_cons.mpr ⟨bpat_some o0_, fun q_ hq => absurd hq List.not_mem_nil⟩⟩
  have HC : ∀ q_ ∈ xssE_C, xhold (xssE_r v1_ v400) q_ := fun q_ hq => absurd hq List.not_mem_nil
  rcases yrun (yis_ok xssE_k) hA Hs Ho HC with ⟨q_, hq, h', K_, G_⟩ | ⟨q_, hq, h', K_, G_⟩
  · have e_ := List.mem_singleton.mp hq
    subst e_
    exact ⟨h', yfr_sm K_.2.2.2 hs K_.1 (ywa_s xssE_w List.mem_cons_self), Or.inl (⟨xq_leT rfl rfl (K_.2.2.1 _ List.mem_cons_self), xq_ltF rfl rfl (K_.2.2.1 _ (List.mem_cons_of_mem _ List.mem_cons_self)), fun a_ j_ => yfr_bp K_.2.2.2 (fun q_ hq => absurd hq List.not_mem_nil), G_⟩)⟩
  · rcases List.mem_cons.mp hq with e_ | hq
    · subst e_
      exact ⟨h', yfr_sm K_.2.2.2 hs K_.1 (ywa_r xssE_w List.mem_cons_self), Or.inr (Or.inl (⟨xq_ltT rfl rfl (K_.2.2.1 _ List.mem_cons_self), bpat_of (K_.2.1 _ List.mem_cons_self), fun a_ j_ n0_ => yfr_bp K_.2.2.2 (List.forall_mem_cons.mpr ⟨fun e_ => n0_ ⟨e_.1.symm, e_.2.symm⟩, fun q_ hq => absurd hq List.not_mem_nil⟩), G_⟩))⟩
    have e_ := List.mem_singleton.mp hq
    subst e_
    exact ⟨h', yfr_sm K_.2.2.2 hs K_.1 (ywa_r xssE_w (List.mem_cons_of_mem _ List.mem_cons_self)), Or.inr (Or.inr (⟨xq_leF rfl rfl (K_.2.2.1 _ List.mem_cons_self), xq_ltF rfl rfl (K_.2.2.1 _ (List.mem_cons_of_mem _ List.mem_cons_self)), bpat_of (K_.2.1 _ List.mem_cons_self), fun a_ j_ n0_ => yfr_bp K_.2.2.2 (List.forall_mem_cons.mpr ⟨fun e_ => n0_ ⟨e_.1.symm, e_.2.symm⟩, fun q_ hq => absurd hq List.not_mem_nil⟩), G_⟩))⟩
-- xssO: 15 steps, 0 ends, 1 returns
def xssO_L : List (Nat × Nat × Nat) := []
def xssO_O : yO := [(0, .int 0, .index 1), (1, .int 12, .arg 310)]
def xssO_A : yA := (yZ xssO_L, [], [], [], [])
def xssO_C : List xB := [(.le, .arg 1, .int 1048575, true), (.lt, .arg 1, .int 0, false)]
def xssO_ss : List yS := []
def xssO_rs : List yR := [(some (.arg 310), [(1, .int 12, .arg 1), (0, .int 0, .index 1)], [(.le, .arg 1, .int 1048575, true), (.lt, .arg 1, .int 0, false)], [(1, .int 12)])]
theorem xssO_w : ywa xssO_A xssO_ss xssO_rs = true := by decide +kernel
theorem xssO_k : yis (yev xssO_A 3000 60 99 [] (0, [(0, .index 0), (1, .arg 1)], [], xssO_O, xssO_C, [])) xssO_ss xssO_rs = true := by decide +kernel
def xssO_r (v1_ v310 : Int32) (k_ : Nat) : Value := bif Nat.beq k_ 1 then .int v1_ else (bif Nat.beq k_ 310 then .int v310 else (.int 0))
def xssO_s (n_ : Nat) : Nat := 0
theorem xssO {h_ : xH} {v1_ v310 : Int32} (hs : sHp h_) (o0_ : bpat h_ 1 12 = some (.int v310)) (c0_ : v1_.toInt ≤ (1048575 : Int32).toInt) (c1_ : (0 : Int32).toInt ≤ v1_.toInt) : ∃ h', ysm h_ h' ∧ (((bpat h' 1 12 = some (.int v1_)) ∧ (∀ a_ j_ : Nat, ¬ (a_ = 1 ∧ j_ = 12) → bpat h' a_ j_ = bpat h_ a_ j_) ∧ (∀ D_, 60 ≤ D_ → xrun D_ 99 0 [(0, .index 0), (1, .int v1_)] [] h_ (some (.int v310), h', [])))) := by
  have hA : yas xssO_A (xssO_r v1_ v310) (yg xssO_s) := ⟨fun q_ hq => absurd hq List.not_mem_nil, fun q_ hq => absurd hq List.not_mem_nil, fun q_ hq => absurd hq List.not_mem_nil, fun n_ hn => yg_lo hn, fun q_ hq => absurd hq List.not_mem_nil⟩
  have Hs : ysh xssO_A.1 (yg xssO_s) h_ := ysh_of2 hs (fun q_ hq => absurd hq List.not_mem_nil)
  have Ho : ymem (xssO_r v1_ v310) (yg xssO_s) xssO_O h_ := List.forall_mem_cons.mpr ⟨bpat_some (fxr_at hs.2 (show fxk fxl 0 0 = some 1 by decide +kernel)), List.forall_mem_cons.mpr ⟨bpat_some o0_, fun q_ hq => absurd hq List.not_mem_nil⟩⟩
  have HC : ∀ q_ ∈ xssO_C, xhold (xssO_r v1_ v310) q_ := List.forall_mem_cons.mpr ⟨xh_leT c0_, List.forall_mem_cons.mpr ⟨xh_ltF c1_, fun q_ hq => absurd hq List.not_mem_nil⟩⟩
  rcases yrun (yis_ok xssO_k) hA Hs Ho HC with ⟨q_, hq, h', K_, G_⟩ | ⟨q_, hq, h', K_, G_⟩
  · cases hq
  · have e_ := List.mem_singleton.mp hq
    subst e_
    exact ⟨h', yfr_sm K_.2.2.2 hs K_.1 (ywa_r xssO_w List.mem_cons_self), ⟨bpat_of (K_.2.1 _ List.mem_cons_self), fun a_ j_ n0_ => yfr_bp K_.2.2.2 (List.forall_mem_cons.mpr ⟨fun e_ => n0_ ⟨e_.1.symm, e_.2.symm⟩, fun q_ hq => absurd hq List.not_mem_nil⟩), G_⟩⟩
-- mssE: 52 steps, 1 ends, 2 returns
def mssE_L : List (Nat × Nat × Nat) := []
def mssE_O : yO := [(338, .int 3, .index 341), (341, .int 1, .arg 400)]
def mssE_A : yA := (yZ mssE_L, [], [], [], [])
def mssE_C : List xB := []
def mssE_ss : List yS := [(16, [(0, .index 338), (1, .arg 1)], [], [(338, .int 3, .index 341), (341, .int 1, .arg 400)], [(.le, .arg 1, .int 1048575, true), (.lt, .arg 1, .int 0, false)], [])]
def mssE_rs : List yR := [(some (.int (Int32.ofInt (-1000001))), [(341, .int 1, .add (.arg 400) (.int 1)), (338, .int 3, .index 341)], [(.lt, .arg 1, .int 0, true)], [(341, .int 1)]),
  (some (.int (Int32.ofInt (-1000001))), [(341, .int 1, .add (.arg 400) (.int 1)), (338, .int 3, .index 341)], [(.le, .arg 1, .int 1048575, false), (.lt, .arg 1, .int 0, false)], [(341, .int 1)])]
theorem mssE_w : ywa mssE_A mssE_ss mssE_rs = true := by decide +kernel
theorem mssE_k : yis (yev mssE_A 3000 60 207 [16] (0, [(0, .index 338), (1, .arg 1)], [], mssE_O, mssE_C, [])) mssE_ss mssE_rs = true := by decide +kernel
def mssE_r (v1_ v400 : Int32) (k_ : Nat) : Value := bif Nat.beq k_ 1 then .int v1_ else (bif Nat.beq k_ 400 then .int v400 else (.int 0))
def mssE_s (n_ : Nat) : Nat := 0
theorem mssE {h_ : xH} {v1_ v400 : Int32} (hs : sHp h_) (o0_ : bpat h_ 341 1 = some (.int v400)) : ∃ h', ysm h_ h' ∧ (((v1_.toInt ≤ (1048575 : Int32).toInt) ∧ ((0 : Int32).toInt ≤ v1_.toInt) ∧ (∀ a_ j_ : Nat, bpat h' a_ j_ = bpat h_ a_ j_) ∧ (bldD 60 207 0 [(0, .index 338), (1, .int v1_)] [] h_ 16 [(0, .index 338), (1, .int v1_)] [] h'))
  ∨ ((v1_.toInt < (0 : Int32).toInt) ∧ (bpat h' 341 1 = some (.int (v400 + (1 : Int32)))) ∧ (∀ a_ j_ : Nat, ¬ (a_ = 341 ∧ j_ = 1) → bpat h' a_ j_ = bpat h_ a_ j_) ∧ (∀ D_, 60 ≤ D_ → xrun D_ 207 0 [(0, .index 338), (1, .int v1_)] [] h_ (some (.int (Int32.ofInt (-1000001))), h', [])))
  ∨ (((1048575 : Int32).toInt < v1_.toInt) ∧ ((0 : Int32).toInt ≤ v1_.toInt) ∧ (bpat h' 341 1 = some (.int (v400 + (1 : Int32)))) ∧ (∀ a_ j_ : Nat, ¬ (a_ = 341 ∧ j_ = 1) → bpat h' a_ j_ = bpat h_ a_ j_) ∧ (∀ D_, 60 ≤ D_ → xrun D_ 207 0 [(0, .index 338), (1, .int v1_)] [] h_ (some (.int (Int32.ofInt (-1000001))), h', [])))) := by
  have hA : yas mssE_A (mssE_r v1_ v400) (yg mssE_s) := ⟨fun q_ hq => absurd hq List.not_mem_nil, fun q_ hq => absurd hq List.not_mem_nil, fun q_ hq => absurd hq List.not_mem_nil, fun n_ hn => yg_lo hn, fun q_ hq => absurd hq List.not_mem_nil⟩
  have Hs : ysh mssE_A.1 (yg mssE_s) h_ := ysh_of2 hs (fun q_ hq => absurd hq List.not_mem_nil)
  have Ho : ymem (mssE_r v1_ v400) (yg mssE_s) mssE_O h_ := List.forall_mem_cons.mpr ⟨bpat_some (fxr_at hs.2 (show fxk fxl 338 3 = some 341 by decide +kernel)), List.forall_mem_cons.mpr ⟨bpat_some o0_, fun q_ hq => absurd hq List.not_mem_nil⟩⟩
  have HC : ∀ q_ ∈ mssE_C, xhold (mssE_r v1_ v400) q_ := fun q_ hq => absurd hq List.not_mem_nil
  rcases yrun (yis_ok mssE_k) hA Hs Ho HC with ⟨q_, hq, h', K_, G_⟩ | ⟨q_, hq, h', K_, G_⟩
  · have e_ := List.mem_singleton.mp hq
    subst e_
    exact ⟨h', yfr_sm K_.2.2.2 hs K_.1 (ywa_s mssE_w List.mem_cons_self), Or.inl (⟨xq_leT rfl rfl (K_.2.2.1 _ List.mem_cons_self), xq_ltF rfl rfl (K_.2.2.1 _ (List.mem_cons_of_mem _ List.mem_cons_self)), fun a_ j_ => yfr_bp K_.2.2.2 (fun q_ hq => absurd hq List.not_mem_nil), G_⟩)⟩
  · rcases List.mem_cons.mp hq with e_ | hq
    · subst e_
      exact ⟨h', yfr_sm K_.2.2.2 hs K_.1 (ywa_r mssE_w List.mem_cons_self), Or.inr (Or.inl (⟨xq_ltT rfl rfl (K_.2.2.1 _ List.mem_cons_self), bpat_of (K_.2.1 _ List.mem_cons_self), fun a_ j_ n0_ => yfr_bp K_.2.2.2 (List.forall_mem_cons.mpr ⟨fun e_ => n0_ ⟨e_.1.symm, e_.2.symm⟩, fun q_ hq => absurd hq List.not_mem_nil⟩), G_⟩))⟩
    have e_ := List.mem_singleton.mp hq
    subst e_
    exact ⟨h', yfr_sm K_.2.2.2 hs K_.1 (ywa_r mssE_w (List.mem_cons_of_mem _ List.mem_cons_self)), Or.inr (Or.inr (⟨xq_leF rfl rfl (K_.2.2.1 _ List.mem_cons_self), xq_ltF rfl rfl (K_.2.2.1 _ (List.mem_cons_of_mem _ List.mem_cons_self)), bpat_of (K_.2.1 _ List.mem_cons_self), fun a_ j_ n0_ => yfr_bp K_.2.2.2 (List.forall_mem_cons.mpr ⟨fun e_ => n0_ ⟨e_.1.symm, e_.2.symm⟩, fun q_ hq => absurd hq List.not_mem_nil⟩), G_⟩))⟩
-- mssO: 26 steps, 0 ends, 1 returns
def mssO_L : List (Nat × Nat × Nat) := []
def mssO_O : yO := [(338, .int 0, .index 339), (339, .int 5, .arg 310)]
def mssO_A : yA := (yZ mssO_L, [], [], [], [])
def mssO_C : List xB := [(.le, .arg 1, .int 1048575, true), (.lt, .arg 1, .int 0, false)]
def mssO_ss : List yS := []
def mssO_rs : List yR := [(some (.arg 310), [(339, .int 5, .arg 1), (338, .int 0, .index 339)], [(.le, .arg 1, .int 1048575, true), (.lt, .arg 1, .int 0, false)], [(339, .int 5)])]
theorem mssO_w : ywa mssO_A mssO_ss mssO_rs = true := by decide +kernel
theorem mssO_k : yis (yev mssO_A 3000 60 207 [] (0, [(0, .index 338), (1, .arg 1)], [], mssO_O, mssO_C, [])) mssO_ss mssO_rs = true := by decide +kernel
def mssO_r (v1_ v310 : Int32) (k_ : Nat) : Value := bif Nat.beq k_ 1 then .int v1_ else (bif Nat.beq k_ 310 then .int v310 else (.int 0))
def mssO_s (n_ : Nat) : Nat := 0
theorem mssO {h_ : xH} {v1_ v310 : Int32} (hs : sHp h_) (o0_ : bpat h_ 339 5 = some (.int v310)) (c0_ : v1_.toInt ≤ (1048575 : Int32).toInt) (c1_ : (0 : Int32).toInt ≤ v1_.toInt) : ∃ h', ysm h_ h' ∧ (((bpat h' 339 5 = some (.int v1_)) ∧ (∀ a_ j_ : Nat, ¬ (a_ = 339 ∧ j_ = 5) → bpat h' a_ j_ = bpat h_ a_ j_) ∧ (∀ D_, 60 ≤ D_ → xrun D_ 207 0 [(0, .index 338), (1, .int v1_)] [] h_ (some (.int v310), h', [])))) := by
  have hA : yas mssO_A (mssO_r v1_ v310) (yg mssO_s) := ⟨fun q_ hq => absurd hq List.not_mem_nil, fun q_ hq => absurd hq List.not_mem_nil, fun q_ hq => absurd hq List.not_mem_nil, fun n_ hn => yg_lo hn, fun q_ hq => absurd hq List.not_mem_nil⟩
  have Hs : ysh mssO_A.1 (yg mssO_s) h_ := ysh_of2 hs (fun q_ hq => absurd hq List.not_mem_nil)
  have Ho : ymem (mssO_r v1_ v310) (yg mssO_s) mssO_O h_ := List.forall_mem_cons.mpr ⟨bpat_some (fxr_at hs.2 (show fxk fxl 338 0 = some 339 by decide +kernel)), List.forall_mem_cons.mpr ⟨bpat_some o0_, fun q_ hq => absurd hq List.not_mem_nil⟩⟩
  have HC : ∀ q_ ∈ mssO_C, xhold (mssO_r v1_ v310) q_ := List.forall_mem_cons.mpr ⟨xh_leT c0_, List.forall_mem_cons.mpr ⟨xh_ltF c1_, fun q_ hq => absurd hq List.not_mem_nil⟩⟩
  rcases yrun (yis_ok mssO_k) hA Hs Ho HC with ⟨q_, hq, h', K_, G_⟩ | ⟨q_, hq, h', K_, G_⟩
  · cases hq
  · have e_ := List.mem_singleton.mp hq
    subst e_
    exact ⟨h', yfr_sm K_.2.2.2 hs K_.1 (ywa_r mssO_w List.mem_cons_self), ⟨bpat_of (K_.2.1 _ List.mem_cons_self), fun a_ j_ n0_ => yfr_bp K_.2.2.2 (List.forall_mem_cons.mpr ⟨fun e_ => n0_ ⟨e_.1.symm, e_.2.symm⟩, fun q_ hq => absurd hq List.not_mem_nil⟩), G_⟩⟩
def soF (W_ : Nat → List Int32) (V : Nat → Int32) (z_ : Int32) : (Nat → List Int32) × (Nat → Int32) × Int32 := if 0 ≤ z_.toInt ∧ z_.toInt ≤ 1048575 then (W_, upI V 3 z_, V 3) else (W_, V, Int32.ofInt (-1000001))
theorem x_so {W_ : Nat → List Int32} {V : Nat → Int32} {h_ : xH} {z_ : Int32} (B_ : bInv bZ bIj h_) (K_ : okS W_ V) (H_ : SX W_ V h_) : ∃ h', ysm h_ h' ∧ (SX (soF W_ V z_).1 (soF W_ V z_).2.1 h' ∧ ∀ D_, 60 ≤ D_ → xrun D_ 99 0 [(0, .index 0), (1, .int z_)] [] h_ (some (.int (soF W_ V z_).2.2), h', [])) := by
  obtain ⟨y_, oy⟩ := xerr (k_ := 1) B_ (by omega)
  have zz := z0_
  have z12 := iSO
  unfold soF
  by_cases g_ : 0 ≤ z_.toInt ∧ z_.toInt ≤ 1048575
  · rw [if_pos g_]
    obtain ⟨h1, m_, e1_, f_, r_⟩ := xssO (v1_ := z_) H_.1 (SX_v H_ (show ((1, 12), 3) ∈ wvX by decide)) (by omega) (by omega)
    exact ⟨h1, m_, SX_i H_ m_ (show ((1, 12), 3) ∈ wvX by decide) e1_ (fun c_ j_ _ n_ => f_ c_ j_ n_), r_⟩
  · rw [if_neg g_]
    obtain ⟨h1, m_, e_⟩ := xssE (v1_ := z_) H_.1 oy
    rcases e_ with ⟨g1, g2, f_, r_⟩ | ⟨g1, w0_, f_, r_⟩ | ⟨g1, g2, w0_, f_, r_⟩
    · exact absurd (by omega) g_
    · exact ⟨h1, m_, SX_e H_ m_ f_, r_⟩
    · exact ⟨h1, m_, SX_e H_ m_ f_, r_⟩
theorem m_so {W_ : Nat → List Int32} {V : Nat → Int32} {h_ : xH} {z_ : Int32} (B_ : bInv bZ bIj h_) (K_ : okS W_ V) (H_ : SM W_ V h_) : ∃ h', ysm h_ h' ∧ (SM (soF W_ V z_).1 (soF W_ V z_).2.1 h' ∧ ∀ D_, 60 ≤ D_ → xrun D_ 207 0 [(0, .index 338), (1, .int z_)] [] h_ (some (.int (soF W_ V z_).2.2), h', [])) := by
  obtain ⟨y_, oy⟩ := merr (k_ := 1) B_ (by omega)
  have zz := z0_
  have z12 := iSO
  unfold soF
  by_cases g_ : 0 ≤ z_.toInt ∧ z_.toInt ≤ 1048575
  · rw [if_pos g_]
    obtain ⟨h1, m_, e1_, f_, r_⟩ := mssO (v1_ := z_) H_.1 (SM_v H_ (show (5, 3) ∈ wvM by decide)) (by omega) (by omega)
    exact ⟨h1, m_, SM_i H_ (lenS_ok K_) m_ (show (5, 3) ∈ wvM by decide) e1_ (fun c_ j_ _ n_ => f_ c_ j_ n_), r_⟩
  · rw [if_neg g_]
    obtain ⟨h1, m_, e_⟩ := mssE (v1_ := z_) H_.1 oy
    rcases e_ with ⟨g1, g2, f_, r_⟩ | ⟨g1, w0_, f_, r_⟩ | ⟨g1, g2, w0_, f_, r_⟩
    · exact absurd (by omega) g_
    · exact ⟨h1, m_, SM_e H_ m_ f_, r_⟩
    · exact ⟨h1, m_, SM_e H_ m_ f_, r_⟩
-- xse_: 10 steps, 0 ends, 1 returns
def xse__L : List (Nat × Nat × Nat) := []
def xse__O : yO := [(0, .int 0, .index 1), (1, .int 13, .arg 310)]
def xse__A : yA := (yZ xse__L, [], [], [], [])
def xse__C : List xB := []
def xse__ss : List yS := []
def xse__rs : List yR := [(some (.arg 310), [(1, .int 13, .arg 1), (0, .int 0, .index 1)], [], [(1, .int 13)])]
theorem xse__w : ywa xse__A xse__ss xse__rs = true := by decide +kernel
theorem xse__k : yis (yev xse__A 3000 60 105 [] (0, [(0, .index 0), (1, .arg 1)], [], xse__O, xse__C, [])) xse__ss xse__rs = true := by decide +kernel
def xse__r (v1_ v310 : Int32) (k_ : Nat) : Value := bif Nat.beq k_ 1 then .int v1_ else (bif Nat.beq k_ 310 then .int v310 else (.int 0))
def xse__s (n_ : Nat) : Nat := 0
theorem xse_ {h_ : xH} {v1_ v310 : Int32} (hs : sHp h_) (o0_ : bpat h_ 1 13 = some (.int v310)) : ∃ h', ysm h_ h' ∧ (((bpat h' 1 13 = some (.int v1_)) ∧ (∀ a_ j_ : Nat, ¬ (a_ = 1 ∧ j_ = 13) → bpat h' a_ j_ = bpat h_ a_ j_) ∧ (∀ D_, 60 ≤ D_ → xrun D_ 105 0 [(0, .index 0), (1, .int v1_)] [] h_ (some (.int v310), h', [])))) := by
  have hA : yas xse__A (xse__r v1_ v310) (yg xse__s) := ⟨fun q_ hq => absurd hq List.not_mem_nil, fun q_ hq => absurd hq List.not_mem_nil, fun q_ hq => absurd hq List.not_mem_nil, fun n_ hn => yg_lo hn, fun q_ hq => absurd hq List.not_mem_nil⟩
  have Hs : ysh xse__A.1 (yg xse__s) h_ := ysh_of2 hs (fun q_ hq => absurd hq List.not_mem_nil)
  have Ho : ymem (xse__r v1_ v310) (yg xse__s) xse__O h_ := List.forall_mem_cons.mpr ⟨bpat_some (fxr_at hs.2 (show fxk fxl 0 0 = some 1 by decide +kernel)), List.forall_mem_cons.mpr ⟨bpat_some o0_, fun q_ hq => absurd hq List.not_mem_nil⟩⟩
  have HC : ∀ q_ ∈ xse__C, xhold (xse__r v1_ v310) q_ := fun q_ hq => absurd hq List.not_mem_nil
  rcases yrun (yis_ok xse__k) hA Hs Ho HC with ⟨q_, hq, h', K_, G_⟩ | ⟨q_, hq, h', K_, G_⟩
  · cases hq
  · have e_ := List.mem_singleton.mp hq
    subst e_
    exact ⟨h', yfr_sm K_.2.2.2 hs K_.1 (ywa_r xse__w List.mem_cons_self), ⟨bpat_of (K_.2.1 _ List.mem_cons_self), fun a_ j_ n0_ => yfr_bp K_.2.2.2 (List.forall_mem_cons.mpr ⟨fun e_ => n0_ ⟨e_.1.symm, e_.2.symm⟩, fun q_ hq => absurd hq List.not_mem_nil⟩), G_⟩⟩
-- mse_: 12 steps, 0 ends, 1 returns
def mse__L : List (Nat × Nat × Nat) := []
def mse__O : yO := [(338, .int 0, .index 339), (339, .int 8, .arg 310)]
def mse__A : yA := (yZ mse__L, [], [], [], [])
def mse__C : List xB := []
def mse__ss : List yS := []
def mse__rs : List yR := [(some (.arg 310), [(339, .int 8, .arg 1), (338, .int 0, .index 339)], [], [(339, .int 8)])]
theorem mse__w : ywa mse__A mse__ss mse__rs = true := by decide +kernel
theorem mse__k : yis (yev mse__A 3000 60 217 [] (0, [(0, .index 338), (1, .arg 1)], [], mse__O, mse__C, [])) mse__ss mse__rs = true := by decide +kernel
def mse__r (v1_ v310 : Int32) (k_ : Nat) : Value := bif Nat.beq k_ 1 then .int v1_ else (bif Nat.beq k_ 310 then .int v310 else (.int 0))
def mse__s (n_ : Nat) : Nat := 0
theorem mse_ {h_ : xH} {v1_ v310 : Int32} (hs : sHp h_) (o0_ : bpat h_ 339 8 = some (.int v310)) : ∃ h', ysm h_ h' ∧ (((bpat h' 339 8 = some (.int v1_)) ∧ (∀ a_ j_ : Nat, ¬ (a_ = 339 ∧ j_ = 8) → bpat h' a_ j_ = bpat h_ a_ j_) ∧ (∀ D_, 60 ≤ D_ → xrun D_ 217 0 [(0, .index 338), (1, .int v1_)] [] h_ (some (.int v310), h', [])))) := by
  have hA : yas mse__A (mse__r v1_ v310) (yg mse__s) := ⟨fun q_ hq => absurd hq List.not_mem_nil, fun q_ hq => absurd hq List.not_mem_nil, fun q_ hq => absurd hq List.not_mem_nil, fun n_ hn => yg_lo hn, fun q_ hq => absurd hq List.not_mem_nil⟩
  have Hs : ysh mse__A.1 (yg mse__s) h_ := ysh_of2 hs (fun q_ hq => absurd hq List.not_mem_nil)
  have Ho : ymem (mse__r v1_ v310) (yg mse__s) mse__O h_ := List.forall_mem_cons.mpr ⟨bpat_some (fxr_at hs.2 (show fxk fxl 338 0 = some 339 by decide +kernel)), List.forall_mem_cons.mpr ⟨bpat_some o0_, fun q_ hq => absurd hq List.not_mem_nil⟩⟩
  have HC : ∀ q_ ∈ mse__C, xhold (mse__r v1_ v310) q_ := fun q_ hq => absurd hq List.not_mem_nil
  rcases yrun (yis_ok mse__k) hA Hs Ho HC with ⟨q_, hq, h', K_, G_⟩ | ⟨q_, hq, h', K_, G_⟩
  · cases hq
  · have e_ := List.mem_singleton.mp hq
    subst e_
    exact ⟨h', yfr_sm K_.2.2.2 hs K_.1 (ywa_r mse__w List.mem_cons_self), ⟨bpat_of (K_.2.1 _ List.mem_cons_self), fun a_ j_ n0_ => yfr_bp K_.2.2.2 (List.forall_mem_cons.mpr ⟨fun e_ => n0_ ⟨e_.1.symm, e_.2.symm⟩, fun q_ hq => absurd hq List.not_mem_nil⟩), G_⟩⟩
def seedF (W_ : Nat → List Int32) (V : Nat → Int32) (z_ : Int32) : (Nat → List Int32) × (Nat → Int32) × Int32 := (W_, upI V 4 z_, V 4)
theorem x_seed {W_ : Nat → List Int32} {V : Nat → Int32} {h_ : xH} {z_ : Int32} (B_ : bInv bZ bIj h_) (K_ : okS W_ V) (H_ : SX W_ V h_) : ∃ h', ysm h_ h' ∧ (SX (seedF W_ V z_).1 (seedF W_ V z_).2.1 h' ∧ ∀ D_, 60 ≤ D_ → xrun D_ 105 0 [(0, .index 0), (1, .int z_)] [] h_ (some (.int (seedF W_ V z_).2.2), h', [])) := by
  obtain ⟨h1, m_, e1_, f_, r_⟩ := xse_ (v1_ := z_) H_.1 (SX_v H_ (show ((1, 13), 4) ∈ wvX by decide))
  exact ⟨h1, m_, SX_i H_ m_ (show ((1, 13), 4) ∈ wvX by decide) e1_ (fun c_ j_ _ n_ => f_ c_ j_ n_), r_⟩
theorem m_seed {W_ : Nat → List Int32} {V : Nat → Int32} {h_ : xH} {z_ : Int32} (B_ : bInv bZ bIj h_) (K_ : okS W_ V) (H_ : SM W_ V h_) : ∃ h', ysm h_ h' ∧ (SM (seedF W_ V z_).1 (seedF W_ V z_).2.1 h' ∧ ∀ D_, 60 ≤ D_ → xrun D_ 217 0 [(0, .index 338), (1, .int z_)] [] h_ (some (.int (seedF W_ V z_).2.2), h', [])) := by
  obtain ⟨h1, m_, e1_, f_, r_⟩ := mse_ (v1_ := z_) H_.1 H_.2.1.2
  exact ⟨h1, m_, SM_z H_ (lenS_ok K_) m_ e1_ (fun c_ j_ _ n_ => f_ c_ j_ n_), r_⟩
-- ===== tell
-- xteE: 30 steps, 0 ends, 1 returns
def xteE_L : List (Nat × Nat × Nat) := []
def xteE_O : yO := [(0, .int 0, .index 1), (1, .int 4, .index 7), (7, .int 1, .arg 310), (7, .int 0, .index 8), (0, .int 13, .index 323), (323, .int 4, .arg 400)]
def xteE_A : yA := (yZ xteE_L, [], [], [], [])
def xteE_C : List xB := [(.lt, .arg 310, .int 24, false)]
def xteE_ss : List yS := []
def xteE_rs : List yR := [(some (.int (Int32.ofInt (-1000004))), [(323, .int 4, .add (.arg 400) (.int 1)), (0, .int 0, .index 1), (1, .int 4, .index 7), (7, .int 1, .arg 310), (7, .int 0, .index 8), (0, .int 13, .index 323)], [(.lt, .arg 310, .int 24, false)], [(323, .int 4)])]
theorem xteE_w : ywa xteE_A xteE_ss xteE_rs = true := by decide +kernel
theorem xteE_k : yis (yev xteE_A 3000 60 114 [] (0, [(0, .index 0), (1, .arg 1)], [], xteE_O, xteE_C, [])) xteE_ss xteE_rs = true := by decide +kernel
def xteE_r (v1_ v310 v400 : Int32) (k_ : Nat) : Value := bif Nat.beq k_ 1 then .int v1_ else (bif Nat.beq k_ 310 then .int v310 else (bif Nat.beq k_ 400 then .int v400 else (.int 0)))
def xteE_s (n_ : Nat) : Nat := 0
theorem xteE {h_ : xH} {v1_ v310 v400 : Int32} (hs : sHp h_) (o0_ : bpat h_ 7 1 = some (.int v310)) (o1 : bpat h_ 323 4 = some (.int v400)) (c0_ : (24 : Int32).toInt ≤ v310.toInt) : ∃ h', ysm h_ h' ∧ (((bpat h' 323 4 = some (.int (v400 + (1 : Int32)))) ∧ (∀ a_ j_ : Nat, ¬ (a_ = 323 ∧ j_ = 4) → bpat h' a_ j_ = bpat h_ a_ j_) ∧ (∀ D_, 60 ≤ D_ → xrun D_ 114 0 [(0, .index 0), (1, .int v1_)] [] h_ (some (.int (Int32.ofInt (-1000004))), h', [])))) := by
  have hA : yas xteE_A (xteE_r v1_ v310 v400) (yg xteE_s) := ⟨fun q_ hq => absurd hq List.not_mem_nil, fun q_ hq => absurd hq List.not_mem_nil, fun q_ hq => absurd hq List.not_mem_nil, fun n_ hn => yg_lo hn, fun q_ hq => absurd hq List.not_mem_nil⟩
  have Hs : ysh xteE_A.1 (yg xteE_s) h_ := ysh_of2 hs (fun q_ hq => absurd hq List.not_mem_nil)
  have Ho : ymem (xteE_r v1_ v310 v400) (yg xteE_s) xteE_O h_ := List.forall_mem_cons.mpr ⟨bpat_some (fxr_at hs.2 (show fxk fxl 0 0 = some 1 by decide +kernel)), List.forall_mem_cons.mpr ⟨bpat_some (fxr_at hs.2 (show fxk fxl 1 4 = some 7 by decide +kernel)), List.forall_mem_cons.mpr ⟨bpat_some o0_, List.forall_mem_cons.mpr ⟨bpat_some (fxr_at hs.2 (show fxk fxl 7 0 = some 8 by decide +kernel)), List.forall_mem_cons.mpr ⟨bpat_some (fxr_at hs.2 (show fxk fxl 0 13 = some 323 by decide +kernel)), List.forall_mem_cons.mpr ⟨bpat_some o1, fun q_ hq => absurd hq List.not_mem_nil⟩⟩⟩⟩⟩⟩
  have HC : ∀ q_ ∈ xteE_C, xhold (xteE_r v1_ v310 v400) q_ := List.forall_mem_cons.mpr ⟨xh_ltF c0_, fun q_ hq => absurd hq List.not_mem_nil⟩
  rcases yrun (yis_ok xteE_k) hA Hs Ho HC with ⟨q_, hq, h', K_, G_⟩ | ⟨q_, hq, h', K_, G_⟩
  · cases hq
  · have e_ := List.mem_singleton.mp hq
    subst e_
    exact ⟨h', yfr_sm K_.2.2.2 hs K_.1 (ywa_r xteE_w List.mem_cons_self), ⟨bpat_of (K_.2.1 _ List.mem_cons_self), fun a_ j_ n0_ => yfr_bp K_.2.2.2 (List.forall_mem_cons.mpr ⟨fun e_ => n0_ ⟨e_.1.symm, e_.2.symm⟩, fun q_ hq => absurd hq List.not_mem_nil⟩), G_⟩⟩
-- xteO: 31 steps, 0 ends, 1 returns
def xteO_L : List (Nat × Nat × Nat) := []
def xteO_O : yO := [(0, .int 0, .index 1), (1, .int 4, .index 7), (7, .int 1, .arg 310), (7, .int 0, .index 8)]
def xteO_A : yA := (yZ xteO_L, [(.arg 310, 24)], [], [], [])
def xteO_C : List xB := [(.lt, .arg 310, .int 24, true)]
def xteO_ss : List yS := []
def xteO_rs : List yR := [(some (.add (.arg 310) (.int 1)), [(7, .int 1, .add (.arg 310) (.int 1)), (8, .arg 310, .arg 1), (0, .int 0, .index 1), (1, .int 4, .index 7), (7, .int 0, .index 8)], [(.lt, .arg 310, .int 24, true)], [(7, .int 1), (8, .arg 310)])]
theorem xteO_w : ywa xteO_A xteO_ss xteO_rs = true := by decide +kernel
theorem xteO_k : yis (yev xteO_A 3000 60 114 [] (0, [(0, .index 0), (1, .arg 1)], [], xteO_O, xteO_C, [])) xteO_ss xteO_rs = true := by decide +kernel
def xteO_r (v1_ v310 : Int32) (k_ : Nat) : Value := bif Nat.beq k_ 1 then .int v1_ else (bif Nat.beq k_ 310 then .int v310 else (.int 0))
def xteO_s (n_ : Nat) : Nat := 0
theorem xteO {h_ : xH} {v1_ v310 : Int32} (hs : sHp h_) (o0_ : bpat h_ 7 1 = some (.int v310)) (b0 : 0 ≤ (v310).toInt ∧ (v310).toInt < 24) (c0_ : v310.toInt < (24 : Int32).toInt) : ∃ h', ysm h_ h' ∧ (((bpat h' 7 1 = some (.int (v310 + (1 : Int32)))) ∧ (bpat h' 8 (v310).toInt.toNat = some (.int v1_)) ∧ (∀ a_ j_ : Nat, ¬ (a_ = 7 ∧ j_ = 1) → ¬ (a_ = 8 ∧ j_ = (v310).toInt.toNat) → bpat h' a_ j_ = bpat h_ a_ j_) ∧ (∀ D_, 60 ≤ D_ → xrun D_ 114 0 [(0, .index 0), (1, .int v1_)] [] h_ (some (.int (v310 + (1 : Int32))), h', [])))) := by
  have hA : yas xteO_A (xteO_r v1_ v310) (yg xteO_s) := ⟨List.forall_mem_cons.mpr ⟨b0, fun q_ hq => absurd hq List.not_mem_nil⟩, fun q_ hq => absurd hq List.not_mem_nil, fun q_ hq => absurd hq List.not_mem_nil, fun n_ hn => yg_lo hn, fun q_ hq => absurd hq List.not_mem_nil⟩
  have Hs : ysh xteO_A.1 (yg xteO_s) h_ := ysh_of2 hs (fun q_ hq => absurd hq List.not_mem_nil)
  have Ho : ymem (xteO_r v1_ v310) (yg xteO_s) xteO_O h_ := List.forall_mem_cons.mpr ⟨bpat_some (fxr_at hs.2 (show fxk fxl 0 0 = some 1 by decide +kernel)), List.forall_mem_cons.mpr ⟨bpat_some (fxr_at hs.2 (show fxk fxl 1 4 = some 7 by decide +kernel)), List.forall_mem_cons.mpr ⟨bpat_some o0_, List.forall_mem_cons.mpr ⟨bpat_some (fxr_at hs.2 (show fxk fxl 7 0 = some 8 by decide +kernel)), fun q_ hq => absurd hq List.not_mem_nil⟩⟩⟩⟩
  have HC : ∀ q_ ∈ xteO_C, xhold (xteO_r v1_ v310) q_ := List.forall_mem_cons.mpr ⟨xh_ltT c0_, fun q_ hq => absurd hq List.not_mem_nil⟩
  rcases yrun (yis_ok xteO_k) hA Hs Ho HC with ⟨q_, hq, h', K_, G_⟩ | ⟨q_, hq, h', K_, G_⟩
  · cases hq
  · have e_ := List.mem_singleton.mp hq
    subst e_
    exact ⟨h', yfr_sm K_.2.2.2 hs K_.1 (ywa_r xteO_w List.mem_cons_self), ⟨bpat_of (K_.2.1 _ List.mem_cons_self), bpat_of (K_.2.1 _ (List.mem_cons_of_mem _ List.mem_cons_self)), fun a_ j_ n0_ n1_ => yfr_bp K_.2.2.2 (List.forall_mem_cons.mpr ⟨fun e_ => n0_ ⟨e_.1.symm, e_.2.symm⟩, List.forall_mem_cons.mpr ⟨fun e_ => n1_ ⟨e_.1.symm, e_.2.symm⟩, fun q_ hq => absurd hq List.not_mem_nil⟩⟩), G_⟩⟩
-- mteE: 22 steps, 0 ends, 1 returns
def mteE_L : List (Nat × Nat × Nat) := []
def mteE_O : yO := [(338, .int 0, .index 339), (339, .int 7, .arg 310), (338, .int 3, .index 341), (341, .int 4, .arg 400)]
def mteE_A : yA := (yZ mteE_L, [], [], [], [])
def mteE_C : List xB := [(.eq, .arg 310, .int 24, true)]
def mteE_ss : List yS := []
def mteE_rs : List yR := [(some (.int (Int32.ofInt (-1000004))), [(341, .int 4, .add (.arg 400) (.int 1)), (338, .int 0, .index 339), (339, .int 7, .arg 310), (338, .int 3, .index 341)], [(.eq, .arg 310, .int 24, true)], [(341, .int 4)])]
theorem mteE_w : ywa mteE_A mteE_ss mteE_rs = true := by decide +kernel
theorem mteE_k : yis (yev mteE_A 3000 60 234 [] (0, [(0, .index 338), (1, .arg 1)], [], mteE_O, mteE_C, [])) mteE_ss mteE_rs = true := by decide +kernel
def mteE_r (v1_ v310 v400 : Int32) (k_ : Nat) : Value := bif Nat.beq k_ 1 then .int v1_ else (bif Nat.beq k_ 310 then .int v310 else (bif Nat.beq k_ 400 then .int v400 else (.int 0)))
def mteE_s (n_ : Nat) : Nat := 0
theorem mteE {h_ : xH} {v1_ v310 v400 : Int32} (hs : sHp h_) (o0_ : bpat h_ 339 7 = some (.int v310)) (o1 : bpat h_ 341 4 = some (.int v400)) (c0_ : v310 = (24 : Int32)) : ∃ h', ysm h_ h' ∧ (((bpat h' 341 4 = some (.int (v400 + (1 : Int32)))) ∧ (∀ a_ j_ : Nat, ¬ (a_ = 341 ∧ j_ = 4) → bpat h' a_ j_ = bpat h_ a_ j_) ∧ (∀ D_, 60 ≤ D_ → xrun D_ 234 0 [(0, .index 338), (1, .int v1_)] [] h_ (some (.int (Int32.ofInt (-1000004))), h', [])))) := by
  have hA : yas mteE_A (mteE_r v1_ v310 v400) (yg mteE_s) := ⟨fun q_ hq => absurd hq List.not_mem_nil, fun q_ hq => absurd hq List.not_mem_nil, fun q_ hq => absurd hq List.not_mem_nil, fun n_ hn => yg_lo hn, fun q_ hq => absurd hq List.not_mem_nil⟩
  have Hs : ysh mteE_A.1 (yg mteE_s) h_ := ysh_of2 hs (fun q_ hq => absurd hq List.not_mem_nil)
  have Ho : ymem (mteE_r v1_ v310 v400) (yg mteE_s) mteE_O h_ := List.forall_mem_cons.mpr ⟨bpat_some (fxr_at hs.2 (show fxk fxl 338 0 = some 339 by decide +kernel)), List.forall_mem_cons.mpr ⟨bpat_some o0_, List.forall_mem_cons.mpr ⟨bpat_some (fxr_at hs.2 (show fxk fxl 338 3 = some 341 by decide +kernel)), List.forall_mem_cons.mpr ⟨bpat_some o1, fun q_ hq => absurd hq List.not_mem_nil⟩⟩⟩⟩
  have HC : ∀ q_ ∈ mteE_C, xhold (mteE_r v1_ v310 v400) q_ := List.forall_mem_cons.mpr ⟨xh_eqT2 c0_, fun q_ hq => absurd hq List.not_mem_nil⟩
  rcases yrun (yis_ok mteE_k) hA Hs Ho HC with ⟨q_, hq, h', K_, G_⟩ | ⟨q_, hq, h', K_, G_⟩
  · cases hq
  · have e_ := List.mem_singleton.mp hq
    subst e_
    exact ⟨h', yfr_sm K_.2.2.2 hs K_.1 (ywa_r mteE_w List.mem_cons_self), ⟨bpat_of (K_.2.1 _ List.mem_cons_self), fun a_ j_ n0_ => yfr_bp K_.2.2.2 (List.forall_mem_cons.mpr ⟨fun e_ => n0_ ⟨e_.1.symm, e_.2.symm⟩, fun q_ hq => absurd hq List.not_mem_nil⟩), G_⟩⟩
-- mteO: 29 steps, 0 ends, 1 returns
def mteO_L : List (Nat × Nat × Nat) := []
def mteO_O : yO := [(338, .int 0, .index 339), (339, .int 7, .arg 310)]
def mteO_A : yA := (yZ mteO_L, [(.add (.int 744) (.arg 310), 768)], [(.add (.int 744) (.arg 310), .int 7)], [], [])
def mteO_C : List xB := [(.eq, .arg 310, .int 24, false)]
def mteO_ss : List yS := []
def mteO_rs : List yR := [(some (.add (.arg 310) (.int 1)), [(339, .int 7, .add (.arg 310) (.int 1)), (339, .add (.int 744) (.arg 310), .arg 1), (338, .int 0, .index 339)], [(.eq, .arg 310, .int 24, false)], [(339, .int 7), (339, .add (.int 744) (.arg 310))])]
theorem mteO_w : ywa mteO_A mteO_ss mteO_rs = true := by decide +kernel
theorem mteO_k : yis (yev mteO_A 3000 60 234 [] (0, [(0, .index 338), (1, .arg 1)], [], mteO_O, mteO_C, [])) mteO_ss mteO_rs = true := by decide +kernel
def mteO_r (v1_ v310 : Int32) (k_ : Nat) : Value := bif Nat.beq k_ 1 then .int v1_ else (bif Nat.beq k_ 310 then .int v310 else (.int 0))
def mteO_s (n_ : Nat) : Nat := 0
theorem mteO {h_ : xH} {v1_ v310 : Int32} (hs : sHp h_) (o0_ : bpat h_ 339 7 = some (.int v310)) (b0 : 0 ≤ (((744 : Int32) + v310)).toInt ∧ (((744 : Int32) + v310)).toInt < 768) (x0_ : ¬ (((744 : Int32) + v310)).toInt.toNat = 7) (c0_ : ¬ v310 = (24 : Int32)) : ∃ h', ysm h_ h' ∧ (((bpat h' 339 7 = some (.int (v310 + (1 : Int32)))) ∧ (bpat h' 339 (((744 : Int32) + v310)).toInt.toNat = some (.int v1_)) ∧ (∀ a_ j_ : Nat, ¬ (a_ = 339 ∧ j_ = 7) → ¬ (a_ = 339 ∧ j_ = (((744 : Int32) + v310)).toInt.toNat) → bpat h' a_ j_ = bpat h_ a_ j_) ∧ (∀ D_, 60 ≤ D_ → xrun D_ 234 0 [(0, .index 338), (1, .int v1_)] [] h_ (some (.int (v310 + (1 : Int32))), h', [])))) := by
  have hA : yas mteO_A (mteO_r v1_ v310) (yg mteO_s) := ⟨List.forall_mem_cons.mpr ⟨b0, fun q_ hq => absurd hq List.not_mem_nil⟩, List.forall_mem_cons.mpr ⟨x0_, fun q_ hq => absurd hq List.not_mem_nil⟩, fun q_ hq => absurd hq List.not_mem_nil, fun n_ hn => yg_lo hn, fun q_ hq => absurd hq List.not_mem_nil⟩
  have Hs : ysh mteO_A.1 (yg mteO_s) h_ := ysh_of2 hs (fun q_ hq => absurd hq List.not_mem_nil)
  have Ho : ymem (mteO_r v1_ v310) (yg mteO_s) mteO_O h_ := List.forall_mem_cons.mpr ⟨bpat_some (fxr_at hs.2 (show fxk fxl 338 0 = some 339 by decide +kernel)), List.forall_mem_cons.mpr ⟨bpat_some o0_, fun q_ hq => absurd hq List.not_mem_nil⟩⟩
  have HC : ∀ q_ ∈ mteO_C, xhold (mteO_r v1_ v310) q_ := List.forall_mem_cons.mpr ⟨xh_eqF2 c0_, fun q_ hq => absurd hq List.not_mem_nil⟩
  rcases yrun (yis_ok mteO_k) hA Hs Ho HC with ⟨q_, hq, h', K_, G_⟩ | ⟨q_, hq, h', K_, G_⟩
  · cases hq
  · have e_ := List.mem_singleton.mp hq
    subst e_
    exact ⟨h', yfr_sm K_.2.2.2 hs K_.1 (ywa_r mteO_w List.mem_cons_self), ⟨bpat_of (K_.2.1 _ List.mem_cons_self), bpat_of (K_.2.1 _ (List.mem_cons_of_mem _ List.mem_cons_self)), fun a_ j_ n0_ n1_ => yfr_bp K_.2.2.2 (List.forall_mem_cons.mpr ⟨fun e_ => n0_ ⟨e_.1.symm, e_.2.symm⟩, List.forall_mem_cons.mpr ⟨fun e_ => n1_ ⟨e_.1.symm, e_.2.symm⟩, fun q_ hq => absurd hq List.not_mem_nil⟩⟩), G_⟩⟩
def tellF (W_ : Nat → List Int32) (V : Nat → Int32) (z_ : Int32) : (Nat → List Int32) × (Nat → Int32) × Int32 := if (W_ 21).length < 24 then (upR W_ 21 (W_ 21 ++ [z_]), V, Int32.ofNat (W_ 21).length + 1) else (W_, V, Int32.ofInt (-1000004))
theorem i744 {n_ : Nat} (hn : n_ ≤ 24) : ((744 : Int32) + Int32.ofNat n_) = Int32.ofNat (744 + n_) := i32p 744 n_
theorem x_tell {W_ : Nat → List Int32} {V : Nat → Int32} {h_ : xH} {z_ : Int32} (B_ : bInv bZ bIj h_) (K_ : okS W_ V) (H_ : SX W_ V h_) : ∃ h', ysm h_ h' ∧ (SX (tellF W_ V z_).1 (tellF W_ V z_).2.1 h' ∧ ∀ D_, 60 ≤ D_ → xrun D_ 114 0 [(0, .index 0), (1, .int z_)] [] h_ (some (.int (tellF W_ V z_).2.2), h', [])) := by
  obtain ⟨y_, oy⟩ := xerr (k_ := 4) B_ (by omega)
  have zz := i24_
  have R_ : rwx h_ 7 8 24 (W_ 21) := SX_w H_ (by decide)
  have hl : (W_ 21).length ≤ 24 := R_.2.2.1
  have il := i32n (i_ := (W_ 21).length) (by omega)
  unfold tellF
  by_cases g_ : (W_ 21).length < 24
  · rw [if_pos g_]
    obtain ⟨h1, m_, e1_, e2_, f_, r_⟩ := xteO (v1_ := z_) H_.1 R_.2.1.2 ⟨by omega, by omega⟩ (by omega)
    exact ⟨h1, m_, SX_r H_ m_ (show (7, 8, 24, 21) ∈ wrX by decide) (rwx_one R_ g_ m_ e1_ e2_ (by omega) f_) (fun c2_ j_ _ n1_ n2_ => f_ c2_ j_ (fun q_ => n1_ q_.1) (fun q_ => n2_ q_.1)), r_⟩
  · rw [if_neg g_]
    obtain ⟨h1, m_, w0_, f_, r_⟩ := xteE (v1_ := z_) H_.1 R_.2.1.2 oy (by omega)
    exact ⟨h1, m_, SX_e H_ m_ f_, r_⟩
theorem m_tell {W_ : Nat → List Int32} {V : Nat → Int32} {h_ : xH} {z_ : Int32} (B_ : bInv bZ bIj h_) (K_ : okS W_ V) (H_ : SM W_ V h_) : ∃ h', ysm h_ h' ∧ (SM (tellF W_ V z_).1 (tellF W_ V z_).2.1 h' ∧ ∀ D_, 60 ≤ D_ → xrun D_ 234 0 [(0, .index 338), (1, .int z_)] [] h_ (some (.int (tellF W_ V z_).2.2), h', [])) := by
  obtain ⟨y_, oy⟩ := merr (k_ := 4) B_ (by omega)
  have zz := i24_
  have R_ : rwq h_ 339 7 744 1 (W_ 21) := SM_w H_ (show (7, 744, 1, 24, 21) ∈ wrM by decide)
  have hl : (W_ 21).length ≤ 24 := (lenS_ok K_).1 (7, 744, 1, 24, 21) (by decide)
  have il := i32n (i_ := (W_ 21).length) (by omega)
  unfold tellF
  by_cases g_ : (W_ 21).length < 24
  · rw [if_pos g_]
    have ie : ((744 : Int32) + Int32.ofNat (W_ 21).length) = Int32.ofNat (744 + (W_ 21).length) := i744 hl
    have ix : ((744 : Int32) + Int32.ofNat (W_ 21).length).toInt.toNat = 744 + (W_ 21).length := by rw [ie, i32t (by omega)]
    have ib : ((744 : Int32) + Int32.ofNat (W_ 21).length).toInt = ((744 + (W_ 21).length : Nat) : Int) := by rw [ie, i32n (by omega)]
    obtain ⟨h1, m_, e1_, e2_, f_, r_⟩ := mteO (v1_ := z_) H_.1 R_.1 ⟨by omega, by omega⟩ (by rw [ix]; show ¬ 744 + (W_ 21).length = 7; omega) (fun q_ => by have q2_ := congrArg Int32.toInt q_; omega)
    rw [ix] at e2_ f_
    rw [i32s] at e1_
    refine ⟨h1, m_, SM_r H_ (lenS_ok K_) m_ (show (7, 744, 1, 24, 21) ∈ wrM by decide) (rwq_one (n_ := 24) R_ g_ e1_ (by rw [Nat.one_mul]; exact e2_) (fun j_ hj => f_ _ _ (fun q_ => by have q_ := q_.2; omega) (fun q_ => by have q_ := q_.2; omega))) (fun c2_ j_ _ n2_ => f_ c2_ j_ (fun q_ => n2_ ⟨q_.1, by rw [q_.2]; rfl⟩) (fun q_ => n2_ ⟨q_.1, ?_⟩)), r_⟩
    rw [q_.2]
    unfold smo
    rw [if_neg (by omega), if_neg (by omega), if_neg (by omega), if_neg (by omega), if_neg (by omega), if_neg (by omega), if_neg (by omega), if_neg (by omega)]
  · rw [if_neg g_]
    obtain ⟨h1, m_, w0_, f_, r_⟩ := mteE (v1_ := z_) H_.1 R_.1 oy (Int32.toInt_inj.mp (by omega))
    exact ⟨h1, m_, SM_e H_ m_ f_, r_⟩
