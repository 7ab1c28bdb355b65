-- ===== ACTS over the state: what both share
theorem xerr {h_ : xH} (B_ : bInv bZ bIj h_) {k_ : Nat} (hk : k_ < 7) : ∃ y_ : Int32, bpat h_ 323 k_ = some (.int y_) := by
  have e_ : (List.range 7).all (fun k_ => match bIj 323 k_ with
    | some (.inl _) => true
    | _ => false) = true := by decide +kernel
  have e1_ := List.all_eq_true.mp e_ k_ (List.mem_range.mpr hk)
  split at e1_
  · rename_i b_ hb_
    exact ⟨_, bpat_of (yint (l := b_.1) (u_ := b_.2) B_ (bzf_at (show bzf 323 = some (20, 7) from rfl)) hk hb_)⟩
  · cases e1_
theorem merr {h_ : xH} (B_ : bInv bZ bIj h_) {k_ : Nat} (hk : k_ < 7) : ∃ y_ : Int32, bpat h_ 341 k_ = some (.int y_) := by
  have e_ : (List.range 7).all (fun k_ => match bIj 341 k_ with
    | some (.inl _) => true
    | _ => false) = true := by decide +kernel
  have e1_ := List.all_eq_true.mp e_ k_ (List.mem_range.mpr hk)
  split at e1_
  · rename_i b_ hb_
    exact ⟨_, bpat_of (yint (l := b_.1) (u_ := b_.2) B_ (bzf_at (show bzf 341 = some (20, 7) from rfl)) hk hb_)⟩
  · cases e1_
section
variable {W_ : Nat → List Int32} {V : Nat → Int32} {h_ h' : xH}
theorem SX_e {k_ : Nat} (H_ : SX W_ V h_) (m_ : ysm h_ h') (f_ : ∀ a_ j_ : Nat, ¬ (a_ = 323 ∧ j_ = k_) → bpat h' a_ j_ = bpat h_ a_ j_) : SX W_ V h' := SX_fr H_ m_ (fun c_ j_ hc_ => f_ c_ j_ (fun q_ => by rw [q_.1] at hc_; exact absurd hc_ (by decide)))
theorem SM_e {k_ : Nat} (H_ : SM W_ V h_) (m_ : ysm h_ h') (f_ : ∀ a_ j_ : Nat, ¬ (a_ = 341 ∧ j_ = k_) → bpat h' a_ j_ = bpat h_ a_ j_) : SM W_ V h' := SM_fr H_ m_ (fun c_ j_ hc_ => f_ c_ j_ (fun q_ => by rw [q_.1] at hc_; exact absurd hc_ (by simp [smc])))
theorem cl_k : (List.range 12).all (fun c_ => (decide (fxk fxl 2 c_ = some (34 + 2 * c_)) && (wrX.any (fun p_ => decide (p_ = (34 + 2 * c_, 35 + 2 * c_, 12, c_))) && wrM.any (fun p_ => decide (p_ = (34 + 13 * c_, 35 + 13 * c_, 1, 12, c_))))) && ((match bzf (34 + 2 * c_) with
  | some z_ => Nat.beq z_.1 6 && Nat.beq z_.2 2
  | none => false) && (match bzf (35 + 2 * c_) with
  | some z_ => Nat.beq z_.1 20 && Nat.beq z_.2 12
  | none => false))) = true := by decide +kernel
theorem cl_x {c_ : Nat} (hc_ : c_ < 12) : (34 + 2 * c_, 35 + 2 * c_, 12, c_) ∈ wrX := by
  have k_ := List.all_eq_true.mp cl_k c_ (List.mem_range.mpr hc_)
  simp only [Bool.and_eq_true] at k_
  obtain ⟨p_, hp, e_⟩ := List.any_eq_true.mp k_.1.2.1
  rw [← of_decide_eq_true e_]
  exact hp
theorem cl_m {c_ : Nat} (hc_ : c_ < 12) : (34 + 13 * c_, 35 + 13 * c_, 1, 12, c_) ∈ wrM := by
  have k_ := List.all_eq_true.mp cl_k c_ (List.mem_range.mpr hc_)
  simp only [Bool.and_eq_true] at k_
  obtain ⟨p_, hp, e_⟩ := List.any_eq_true.mp k_.1.2.2
  rw [← of_decide_eq_true e_]
  exact hp
theorem cl_s {c_ : Nat} (hs : sHp h_) (hc_ : c_ < 12) : bpat h_ 2 c_ = some (.index (34 + 2 * c_)) ∧ (bcq h_ (34 + 2 * c_) 6 2 ∧ bcq h_ (35 + 2 * c_) 20 12) := by
  have k_ := List.all_eq_true.mp cl_k c_ (List.mem_range.mpr hc_)
  simp only [Bool.and_eq_true] at k_
  obtain ⟨⟨k1_, -⟩, k2_, k3_⟩ := k_
  refine ⟨fxr_at hs.2 (of_decide_eq_true k1_), ?_, ?_⟩
  · cases hz : bzf (34 + 2 * c_) with
    | none => rw [hz] at k2_; exact absurd k2_ Bool.false_ne_true
    | some z_ =>
      rw [hz] at k2_
      have q_ : (Nat.beq z_.1 6 && Nat.beq z_.2 2) = true := k2_
      rw [Bool.and_eq_true] at q_
      have e_ := hs.1 _ _ hz
      rw [Nat.eq_of_beq_eq_true q_.1, Nat.eq_of_beq_eq_true q_.2] at e_
      exact e_
  · cases hz : bzf (35 + 2 * c_) with
    | none => rw [hz] at k3_; exact absurd k3_ Bool.false_ne_true
    | some z_ =>
      rw [hz] at k3_
      have q_ : (Nat.beq z_.1 20 && Nat.beq z_.2 12) = true := k3_
      rw [Bool.and_eq_true] at q_
      have e_ := hs.1 _ _ hz
      rw [Nat.eq_of_beq_eq_true q_.1, Nat.eq_of_beq_eq_true q_.2] at e_
      exact e_
/-- an int of the live world -/
theorem SX_v (H_ : SX W_ V h_) {a_ j_ k_ : Nat} (hk : ((a_, j_), k_) ∈ wvX) : bpat h_ a_ j_ = some (.int (V k_)) := by
  have e_ := H_.2.1.1 _ hk
  rw [Nat.add_zero, Nat.zero_add] at e_
  exact e_
theorem SM_v (H_ : SM W_ V h_) {j_ k_ : Nat} (hk : (j_, k_) ∈ wvM) : bpat h_ 339 j_ = some (.int (V k_)) := by
  have e_ := H_.2.1.1.1 _ hk
  rw [Nat.zero_add] at e_
  exact e_
theorem SX_w (H_ : SX W_ V h_) {a_ b_ n_ k_ : Nat} (hk : (a_, b_, n_, k_) ∈ wrX) : rwx h_ a_ b_ n_ (W_ k_) := by
  have e_ := H_.2.1.2 _ hk
  rw [Nat.add_zero, Nat.add_zero, Nat.zero_add] at e_
  exact e_
theorem SM_w (H_ : SM W_ V h_) {s_ t_ d_ n_ k_ : Nat} (hk : (s_, t_, d_, n_, k_) ∈ wrM) : rwq h_ 339 s_ t_ d_ (W_ k_) := by
  have e_ := H_.2.1.1.2.1 _ hk
  rw [Nat.zero_add] at e_
  exact e_
theorem xNc (H_ : SX W_ V h_) : bpat h_ 1 9 = some (.int (V 0)) := SX_v H_ (by decide)
theorem mNc (H_ : SM W_ V h_) : bpat h_ 339 0 = some (.int (V 0)) := SM_v H_ (by decide)
/-- a CALL's number -/
def isC (V : Nat → Int32) (z_ : Int32) : Prop := 0 ≤ z_.toInt ∧ z_.toInt < (V 0).toInt
theorem okN (K_ : okS W_ V) : 0 ≤ (V 0).toInt ∧ (V 0).toInt ≤ 12 := K_.1.1.1.1
theorem isC_n (K_ : okS W_ V) {z_ : Int32} (g_ : isC V z_) : ∃ c_ : Nat, c_ < 12 ∧ ((c_ : Int) < (V 0).toInt ∧ (z_ = Int32.ofNat c_ ∧ (Int32.ofNat c_).toInt.toNat = c_)) := by
  have b_ := okN K_
  obtain ⟨g1, g2⟩ := g_
  refine ⟨z_.toInt.toNat, by omega, by omega, ?_, i32t (by omega)⟩
  refine Int32.toInt_inj.mp ?_
  rw [i32n (by omega)]
  omega
theorem i32j (z_ : Int32) (h1 : 0 ≤ z_.toInt) (h2 : z_.toInt ≤ 10000) : (z_ - 1).toInt = z_.toInt - 1 := by
  have e_ : z_ = Int32.ofInt z_.toInt := (Int32.ofInt_toInt z_).symm
  have k_ : z_ - 1 = Int32.ofInt (z_.toInt - 1) := by
    refine Int32.toInt_inj.mp ?_
    rw [Int32.toInt_sub, i32z (by omega) (by omega), show (1 : Int32).toInt = 1 from rfl, xbm32 (by omega) (by omega)]
  rw [k_, i32z (by omega) (by omega)]
theorem i32k (z_ : Int32) (h1 : 0 ≤ z_.toInt) (h2 : z_.toInt ≤ 1000000) : (z_ + 1).toInt = z_.toInt + 1 := by
  rw [Int32.toInt_add, show (1 : Int32).toInt = 1 from rfl, xbm32 (by omega) (by omega)]
theorem i32a (z_ : Int32) : z_ + 1 - 1 = z_ := Int32.add_sub_cancel z_ 1
theorem i34 {c_ : Nat} (hc_ : c_ < 12) : ((34 : Int32) + 13 * Int32.ofNat c_).toInt.toNat = 34 + 13 * c_ ∧ (0 ≤ ((34 : Int32) + 13 * Int32.ofNat c_).toInt ∧ ((34 : Int32) + 13 * Int32.ofNat c_).toInt < 768) := by
  have k_ : (List.range 12).all (fun c_ => decide ((34 : Int32) + 13 * Int32.ofNat c_ = Int32.ofNat (34 + 13 * c_))) = true := by decide +kernel
  have e_ := of_decide_eq_true (List.all_eq_true.mp k_ c_ (List.mem_range.mpr hc_))
  rw [e_, i32n (by omega)]
  omega
theorem rwx_nil {a_ b_ n_ : Nat} {l : List Int32} (R_ : rwx h_ a_ b_ n_ l) (m_ : ysm h_ h') (e_ : bpat h' a_ 1 = some (.int 0)) (f_ : ∀ j_, ¬ j_ = 1 → bpat h' a_ j_ = bpat h_ a_ j_) : rwx h' a_ b_ n_ [] := ⟨⟨m_.2 _ _ _ R_.1.1, m_.2 _ _ _ R_.1.2⟩, ⟨(f_ 0 (by omega)).trans R_.2.1.1, e_⟩, Nat.zero_le _, fun j_ x_ hx => absurd hx (by simp)⟩
theorem rwq_nil {b_ s_ t_ d_ : Nat} (e_ : bpat h' b_ s_ = some (.int 0)) : rwq h' b_ s_ t_ d_ [] := ⟨e_, fun j_ x_ hx => absurd hx (by simp)⟩
end
theorem z0_ : (0 : Int32).toInt = 0 := rfl
theorem smo_c {c_ j_ : Nat} (hc_ : c_ < 12) (hj : j_ < 13) : smo (34 + 13 * c_ + j_) = 1000 + c_ := by
  unfold smo
  rw [if_neg (by omega), if_neg (by omega), if_pos (by omega)]
  omega
-- ===== hush
-- xhuE: 52 steps, 1 ends, 2 returns
def xhuE_L : List (Nat × Nat × Nat) := []
def xhuE_O : yO := [(0, .int 0, .index 1), (1, .int 9, .arg 310), (0, .int 13, .index 323), (323, .int 1, .arg 400)]
def xhuE_A : yA := (yZ xhuE_L, [], [], [], [])
def xhuE_C : List xB := []
def xhuE_ss : List yS := [(14, [(0, .index 0), (1, .arg 1)], [], [(0, .int 0, .index 1), (1, .int 9, .arg 310), (0, .int 13, .index 323), (323, .int 1, .arg 400)], [(.lt, .arg 1, .arg 310, true), (.lt, .arg 1, .int 0, false)], [])]
def xhuE_rs : List yR := [(some (.int (Int32.ofInt (-1000001))), [(323, .int 1, .add (.arg 400) (.int 1)), (0, .int 0, .index 1), (1, .int 9, .arg 310), (0, .int 13, .index 323)], [(.lt, .arg 1, .int 0, true)], [(323, .int 1)]),
  (some (.int (Int32.ofInt (-1000001))), [(323, .int 1, .add (.arg 400) (.int 1)), (0, .int 0, .index 1), (1, .int 9, .arg 310), (0, .int 13, .index 323)], [(.lt, .arg 1, .arg 310, false), (.lt, .arg 1, .int 0, false)], [(323, .int 1)])]
theorem xhuE_w : ywa xhuE_A xhuE_ss xhuE_rs = true := by decide +kernel
theorem xhuE_k : yis (yev xhuE_A 3000 60 77 [14] (0, [(0, .index 0), (1, .arg 1)], [], xhuE_O, xhuE_C, [])) xhuE_ss xhuE_rs = true := by decide +kernel
def xhuE_r (v1_ v310 v400 : Int32) (k_ : Nat) : Value := bif Nat.beq k_ 1 then .int v1_ else (bif Nat.beq k_ 310 then .int v310 else (bif Nat.beq k_ 400 then .int v400 else (.int 0)))
def xhuE_s (n_ : Nat) : Nat := 0
theorem xhuE {h_ : xH} {v1_ v310 v400 : Int32} (hs : sHp h_) (o0_ : bpat h_ 1 9 = some (.int v310)) (o1 : bpat h_ 323 1 = some (.int v400)) : ∃ h', ysm h_ h' ∧ (((v1_.toInt < v310.toInt) ∧ ((0 : Int32).toInt ≤ v1_.toInt) ∧ (∀ a_ j_ : Nat, bpat h' a_ j_ = bpat h_ a_ j_) ∧ (bldD 60 77 0 [(0, .index 0), (1, .int v1_)] [] h_ 14 [(0, .index 0), (1, .int v1_)] [] h'))
  ∨ ((v1_.toInt < (0 : Int32).toInt) ∧ (bpat h' 323 1 = some (.int (v400 + (1 : Int32)))) ∧ (∀ a_ j_ : Nat, ¬ (a_ = 323 ∧ j_ = 1) → bpat h' a_ j_ = bpat h_ a_ j_) ∧ (∀ D_, 60 ≤ D_ → xrun D_ 77 0 [(0, .index 0), (1, .int v1_)] [] h_ (some (.int (Int32.ofInt (-1000001))), h', [])))
  ∨ ((v310.toInt ≤ v1_.toInt) ∧ ((0 : Int32).toInt ≤ v1_.toInt) ∧ (bpat h' 323 1 = some (.int (v400 + (1 : Int32)))) ∧ (∀ a_ j_ : Nat, ¬ (a_ = 323 ∧ j_ = 1) → bpat h' a_ j_ = bpat h_ a_ j_) ∧ (∀ D_, 60 ≤ D_ → xrun D_ 77 0 [(0, .index 0), (1, .int v1_)] [] h_ (some (.int (Int32.ofInt (-1000001))), h', [])))) := by
  have hA : yas xhuE_A (xhuE_r v1_ v310 v400) (yg xhuE_s) := ⟨fun q_ hq => absurd hq List.not_mem_nil, fun q_ hq => absurd hq List.not_mem_nil, fun q_ hq => absurd hq List.not_mem_nil, fun n_ hn => yg_lo hn, fun q_ hq => absurd hq List.not_mem_nil⟩
  have Hs : ysh xhuE_A.1 (yg xhuE_s) h_ := ysh_of2 hs (fun q_ hq => absurd hq List.not_mem_nil)
  have Ho : ymem (xhuE_r v1_ v310 v400) (yg xhuE_s) xhuE_O h_ := List.forall_mem_cons.mpr ⟨bpat_some (fxr_at hs.2 (show fxk fxl 0 0 = some 1 by decide +kernel)), List.forall_mem_cons.mpr ⟨bpat_some o0_, List.forall_mem_cons.mpr ⟨bpat_some (fxr_at hs.2 (show fxk fxl 0 13 = some 323 by decide +kernel)), List.forall_mem_cons.mpr ⟨bpat_some o1, fun q_ hq => absurd hq List.not_mem_nil⟩⟩⟩⟩
  have HC : ∀ q_ ∈ xhuE_C, xhold (xhuE_r v1_ v310 v400) q_ := fun q_ hq => absurd hq List.not_mem_nil
  rcases yrun (yis_ok xhuE_k) hA Hs Ho HC with ⟨q_, hq, h', K_, G_⟩ | ⟨q_, hq, h', K_, G_⟩
  · have e_ := List.mem_singleton.mp hq
    subst e_
    exact ⟨h', yfr_sm K_.2.2.2 hs K_.1 (ywa_s xhuE_w List.mem_cons_self), Or.inl (⟨xq_ltT rfl rfl (K_.2.2.1 _ List.mem_cons_self), xq_ltF rfl rfl (K_.2.2.1 _ (List.mem_cons_of_mem _ List.mem_cons_self)), fun a_ j_ => yfr_bp K_.2.2.2 (fun q_ hq => absurd hq List.not_mem_nil), G_⟩)⟩
  · rcases List.mem_cons.mp hq with e_ | hq
    · subst e_
      exact ⟨h', yfr_sm K_.2.2.2 hs K_.1 (ywa_r xhuE_w List.mem_cons_self), Or.inr (Or.inl (⟨xq_ltT rfl rfl (K_.2.2.1 _ List.mem_cons_self), bpat_of (K_.2.1 _ List.mem_cons_self), fun a_ j_ n0_ => yfr_bp K_.2.2.2 (List.forall_mem_cons.mpr ⟨fun e_ => n0_ ⟨e_.1.symm, e_.2.symm⟩, fun q_ hq => absurd hq List.not_mem_nil⟩), G_⟩))⟩
    have e_ := List.mem_singleton.mp hq
    subst e_
    exact ⟨h', yfr_sm K_.2.2.2 hs K_.1 (ywa_r xhuE_w (List.mem_cons_of_mem _ List.mem_cons_self)), Or.inr (Or.inr (⟨xq_ltF rfl rfl (K_.2.2.1 _ List.mem_cons_self), xq_ltF rfl rfl (K_.2.2.1 _ (List.mem_cons_of_mem _ List.mem_cons_self)), bpat_of (K_.2.1 _ List.mem_cons_self), fun a_ j_ n0_ => yfr_bp K_.2.2.2 (List.forall_mem_cons.mpr ⟨fun e_ => n0_ ⟨e_.1.symm, e_.2.symm⟩, fun q_ hq => absurd hq List.not_mem_nil⟩), G_⟩))⟩
-- xhuO: 31 steps, 0 ends, 1 returns
def xhuO_L : List (Nat × Nat × Nat) := [(1000, 6, 2)]
def xhuO_O : yO := [(0, .int 0, .index 1), (1, .int 9, .arg 310), (1, .int 0, .index 2), (2, .arg 1, .index 1000), (1000, .int 1, .arg 311)]
def xhuO_A : yA := (yZ xhuO_L, [(.arg 1, 12)], [], [], [])
def xhuO_C : List xB := [(.lt, .arg 1, .arg 310, true), (.lt, .arg 1, .int 0, false)]
def xhuO_ss : List yS := []
def xhuO_rs : List yR := [(some (.arg 311), [(1000, .int 1, .int 0), (0, .int 0, .index 1), (1, .int 9, .arg 310), (1, .int 0, .index 2), (2, .arg 1, .index 1000)], [(.lt, .arg 1, .arg 310, true), (.lt, .arg 1, .int 0, false)], [(1000, .int 1)])]
theorem xhuO_w : ywa xhuO_A xhuO_ss xhuO_rs = true := by decide +kernel
theorem xhuO_k : yis (yev xhuO_A 3000 60 77 [] (0, [(0, .index 0), (1, .arg 1)], [], xhuO_O, xhuO_C, [])) xhuO_ss xhuO_rs = true := by decide +kernel
def xhuO_r (v1_ v310 v311 : Int32) (k_ : Nat) : Value := bif Nat.beq k_ 1 then .int v1_ else (bif Nat.beq k_ 310 then .int v310 else (bif Nat.beq k_ 311 then .int v311 else (.int 0)))
def xhuO_s (a1000 : Nat) (n_ : Nat) : Nat := bif Nat.beq n_ 1000 then a1000 else (0)
theorem xhuO {h_ : xH} {a1000 : Nat} {v1_ v310 v311 : Int32} (hs : sHp h_) (k1000 : bcq h_ a1000 6 2) (o0_ : bpat h_ 1 9 = some (.int v310)) (o1 : bpat h_ 2 (v1_).toInt.toNat = some (.index a1000)) (o2 : bpat h_ a1000 1 = some (.int v311)) (b0 : 0 ≤ (v1_).toInt ∧ (v1_).toInt < 12) (c0_ : v1_.toInt < v310.toInt) (c1_ : (0 : Int32).toInt ≤ v1_.toInt) : ∃ h', ysm h_ h' ∧ (((bpat h' a1000 1 = some (.int (0 : Int32))) ∧ (∀ a_ j_ : Nat, ¬ (a_ = a1000 ∧ j_ = 1) → bpat h' a_ j_ = bpat h_ a_ j_) ∧ (∀ D_, 60 ≤ D_ → xrun D_ 77 0 [(0, .index 0), (1, .int v1_)] [] h_ (some (.int v311), h', [])))) := by
  have hA : yas xhuO_A (xhuO_r v1_ v310 v311) (yg (xhuO_s a1000)) := ⟨List.forall_mem_cons.mpr ⟨b0, fun q_ hq => absurd hq List.not_mem_nil⟩, fun q_ hq => absurd hq List.not_mem_nil, fun q_ hq => absurd hq List.not_mem_nil, fun n_ hn => yg_lo hn, fun q_ hq => absurd hq List.not_mem_nil⟩
  have Hs : ysh xhuO_A.1 (yg (xhuO_s a1000)) h_ := ysh_of2 hs (List.forall_mem_cons.mpr ⟨⟨by decide, k1000⟩, fun q_ hq => absurd hq List.not_mem_nil⟩)
  have Ho : ymem (xhuO_r v1_ v310 v311) (yg (xhuO_s a1000)) xhuO_O h_ := List.forall_mem_cons.mpr ⟨bpat_some (fxr_at hs.2 (show fxk fxl 0 0 = some 1 by decide +kernel)), List.forall_mem_cons.mpr ⟨bpat_some o0_, List.forall_mem_cons.mpr ⟨bpat_some (fxr_at hs.2 (show fxk fxl 1 0 = some 2 by decide +kernel)), List.forall_mem_cons.mpr ⟨bpat_some o1, List.forall_mem_cons.mpr ⟨bpat_some o2, fun q_ hq => absurd hq List.not_mem_nil⟩⟩⟩⟩⟩
  have HC : ∀ q_ ∈ xhuO_C, xhold (xhuO_r v1_ v310 v311) q_ := List.forall_mem_cons.mpr ⟨xh_ltT c0_, List.forall_mem_cons.mpr ⟨xh_ltF c1_, fun q_ hq => absurd hq List.not_mem_nil⟩⟩
  rcases yrun (yis_ok xhuO_k) hA Hs Ho HC with ⟨q_, hq, h', K_, G_⟩ | ⟨q_, hq, h', K_, G_⟩
  · cases hq
  · have e_ := List.mem_singleton.mp hq
    subst e_
    exact ⟨h', yfr_sm K_.2.2.2 hs K_.1 (ywa_r xhuO_w List.mem_cons_self), ⟨bpat_of (K_.2.1 _ List.mem_cons_self), fun a_ j_ n0_ => yfr_bp K_.2.2.2 (List.forall_mem_cons.mpr ⟨fun e_ => n0_ ⟨e_.1.symm, e_.2.symm⟩, fun q_ hq => absurd hq List.not_mem_nil⟩), G_⟩⟩
-- mhuE: 63 steps, 1 ends, 2 returns
def mhuE_L : List (Nat × Nat × Nat) := []
def mhuE_O : yO := [(338, .int 0, .index 339), (339, .int 0, .arg 310), (338, .int 3, .index 341), (341, .int 1, .arg 400)]
def mhuE_A : yA := (yZ mhuE_L, [], [], [], [])
def mhuE_C : List xB := []
def mhuE_ss : List yS := [(14, [(0, .index 338), (1, .arg 1)], [], [(338, .int 0, .index 339), (339, .int 0, .arg 310), (338, .int 3, .index 341), (341, .int 1, .arg 400)], [(.le, .arg 1, .sub (.arg 310) (.int 1), true), (.lt, .arg 1, .int 0, false)], [])]
def mhuE_rs : List yR := [(some (.int (Int32.ofInt (-1000001))), [(341, .int 1, .add (.arg 400) (.int 1)), (338, .int 0, .index 339), (339, .int 0, .arg 310), (338, .int 3, .index 341)], [(.lt, .arg 1, .int 0, true)], [(341, .int 1)]),
  (some (.int (Int32.ofInt (-1000001))), [(341, .int 1, .add (.arg 400) (.int 1)), (338, .int 0, .index 339), (339, .int 0, .arg 310), (338, .int 3, .index 341)], [(.le, .arg 1, .sub (.arg 310) (.int 1), false), (.lt, .arg 1, .int 0, false)], [(341, .int 1)])]
theorem mhuE_w : ywa mhuE_A mhuE_ss mhuE_rs = true := by decide +kernel
theorem mhuE_k : yis (yev mhuE_A 3000 60 163 [14] (0, [(0, .index 338), (1, .arg 1)], [], mhuE_O, mhuE_C, [])) mhuE_ss mhuE_rs = true := by decide +kernel
def mhuE_r (v1_ v310 v400 : Int32) (k_ : Nat) : Value := bif Nat.beq k_ 1 then .int v1_ else (bif Nat.beq k_ 310 then .int v310 else (bif Nat.beq k_ 400 then .int v400 else (.int 0)))
def mhuE_s (n_ : Nat) : Nat := 0
theorem mhuE {h_ : xH} {v1_ v310 v400 : Int32} (hs : sHp h_) (o0_ : bpat h_ 339 0 = some (.int v310)) (o1 : bpat h_ 341 1 = some (.int v400)) : ∃ h', ysm h_ h' ∧ (((v1_.toInt ≤ (v310 - (1 : Int32)).toInt) ∧ ((0 : Int32).toInt ≤ v1_.toInt) ∧ (∀ a_ j_ : Nat, bpat h' a_ j_ = bpat h_ a_ j_) ∧ (bldD 60 163 0 [(0, .index 338), (1, .int v1_)] [] h_ 14 [(0, .index 338), (1, .int v1_)] [] h'))
  ∨ ((v1_.toInt < (0 : Int32).toInt) ∧ (bpat h' 341 1 = some (.int (v400 + (1 : Int32)))) ∧ (∀ a_ j_ : Nat, ¬ (a_ = 341 ∧ j_ = 1) → bpat h' a_ j_ = bpat h_ a_ j_) ∧ (∀ D_, 60 ≤ D_ → xrun D_ 163 0 [(0, .index 338), (1, .int v1_)] [] h_ (some (.int (Int32.ofInt (-1000001))), h', [])))
  ∨ (((v310 - (1 : Int32)).toInt < v1_.toInt) ∧ ((0 : Int32).toInt ≤ v1_.toInt) ∧ (bpat h' 341 1 = some (.int (v400 + (1 : Int32)))) ∧ (∀ a_ j_ : Nat, ¬ (a_ = 341 ∧ j_ = 1) → bpat h' a_ j_ = bpat h_ a_ j_) ∧ (∀ D_, 60 ≤ D_ → xrun D_ 163 0 [(0, .index 338), (1, .int v1_)] [] h_ (some (.int (Int32.ofInt (-1000001))), h', [])))) := by
  have hA : yas mhuE_A (mhuE_r v1_ v310 v400) (yg mhuE_s) := ⟨fun q_ hq => absurd hq List.not_mem_nil, fun q_ hq => absurd hq List.not_mem_nil, fun q_ hq => absurd hq List.not_mem_nil, fun n_ hn => yg_lo hn, fun q_ hq => absurd hq List.not_mem_nil⟩
  have Hs : ysh mhuE_A.1 (yg mhuE_s) h_ := ysh_of2 hs (fun q_ hq => absurd hq List.not_mem_nil)
  have Ho : ymem (mhuE_r v1_ v310 v400) (yg mhuE_s) mhuE_O h_ := List.forall_mem_cons.mpr ⟨bpat_some (fxr_at hs.2 (show fxk fxl 338 0 = some 339 by decide +kernel)), List.forall_mem_cons.mpr ⟨bpat_some o0_, List.forall_mem_cons.mpr ⟨bpat_some (fxr_at hs.2 (show fxk fxl 338 3 = some 341 by decide +kernel)), List.forall_mem_cons.mpr ⟨bpat_some o1, fun q_ hq => absurd hq List.not_mem_nil⟩⟩⟩⟩
  have HC : ∀ q_ ∈ mhuE_C, xhold (mhuE_r v1_ v310 v400) q_ := fun q_ hq => absurd hq List.not_mem_nil
  rcases yrun (yis_ok mhuE_k) hA Hs Ho HC with ⟨q_, hq, h', K_, G_⟩ | ⟨q_, hq, h', K_, G_⟩
  · have e_ := List.mem_singleton.mp hq
    subst e_
    exact ⟨h', yfr_sm K_.2.2.2 hs K_.1 (ywa_s mhuE_w List.mem_cons_self), Or.inl (⟨xq_leT rfl (yv_sub2 rfl rfl) (K_.2.2.1 _ List.mem_cons_self), xq_ltF rfl rfl (K_.2.2.1 _ (List.mem_cons_of_mem _ List.mem_cons_self)), fun a_ j_ => yfr_bp K_.2.2.2 (fun q_ hq => absurd hq List.not_mem_nil), G_⟩)⟩
  · rcases List.mem_cons.mp hq with e_ | hq
    · subst e_
      exact ⟨h', yfr_sm K_.2.2.2 hs K_.1 (ywa_r mhuE_w List.mem_cons_self), Or.inr (Or.inl (⟨xq_ltT rfl rfl (K_.2.2.1 _ List.mem_cons_self), bpat_of (K_.2.1 _ List.mem_cons_self), fun a_ j_ n0_ => yfr_bp K_.2.2.2 (List.forall_mem_cons.mpr ⟨fun e_ => n0_ ⟨e_.1.symm, e_.2.symm⟩, fun q_ hq => absurd hq List.not_mem_nil⟩), G_⟩))⟩
    have e_ := List.mem_singleton.mp hq
    subst e_
    exact ⟨h', yfr_sm K_.2.2.2 hs K_.1 (ywa_r mhuE_w (List.mem_cons_of_mem _ List.mem_cons_self)), Or.inr (Or.inr (⟨xq_leF rfl (yv_sub2 rfl rfl) (K_.2.2.1 _ List.mem_cons_self), xq_ltF rfl rfl (K_.2.2.1 _ (List.mem_cons_of_mem _ List.mem_cons_self)), bpat_of (K_.2.1 _ List.mem_cons_self), fun a_ j_ n0_ => yfr_bp K_.2.2.2 (List.forall_mem_cons.mpr ⟨fun e_ => n0_ ⟨e_.1.symm, e_.2.symm⟩, fun q_ hq => absurd hq List.not_mem_nil⟩), G_⟩))⟩
-- mhuO: 43 steps, 0 ends, 1 returns
def mhuO_L : List (Nat × Nat × Nat) := []
def mhuO_O : yO := [(338, .int 0, .index 339), (339, .int 0, .arg 310), (339, .add (.int 34) (.mul (.int 13) (.arg 1)), .arg 311)]
def mhuO_A : yA := (yZ mhuO_L, [(.add (.int 34) (.mul (.int 13) (.arg 1)), 768)], [], [], [])
def mhuO_C : List xB := [(.le, .arg 1, .sub (.arg 310) (.int 1), true), (.lt, .arg 1, .int 0, false)]
def mhuO_ss : List yS := []
def mhuO_rs : List yR := [(some (.arg 311), [(339, .add (.int 34) (.mul (.int 13) (.arg 1)), .int 0), (338, .int 0, .index 339)], [(.le, .arg 1, .sub (.arg 310) (.int 1), true), (.lt, .arg 1, .int 0, false)], [(339, .add (.int 34) (.mul (.int 13) (.arg 1)))])]
theorem mhuO_w : ywa mhuO_A mhuO_ss mhuO_rs = true := by decide +kernel
theorem mhuO_k : yis (yev mhuO_A 3000 60 163 [] (0, [(0, .index 338), (1, .arg 1)], [], mhuO_O, mhuO_C, [])) mhuO_ss mhuO_rs = true := by decide +kernel
def mhuO_r (v1_ v310 v311 : Int32) (k_ : Nat) : Value := bif Nat.beq k_ 1 then .int v1_ else (bif Nat.beq k_ 310 then .int v310 else (bif Nat.beq k_ 311 then .int v311 else (.int 0)))
def mhuO_s (n_ : Nat) : Nat := 0
theorem mhuO {h_ : xH} {v1_ v310 v311 : Int32} (hs : sHp h_) (o0_ : bpat h_ 339 0 = some (.int v310)) (o1 : bpat h_ 339 (((34 : Int32) + ((13 : Int32) * v1_))).toInt.toNat = some (.int v311)) (b0 : 0 ≤ (((34 : Int32) + ((13 : Int32) * v1_))).toInt ∧ (((34 : Int32) + ((13 : Int32) * v1_))).toInt < 768) (c0_ : v1_.toInt ≤ (v310 - (1 : Int32)).toInt) (c1_ : (0 : Int32).toInt ≤ v1_.toInt) : ∃ h', ysm h_ h' ∧ (((bpat h' 339 (((34 : Int32) + ((13 : Int32) * v1_))).toInt.toNat = some (.int (0 : Int32))) ∧ (∀ a_ j_ : Nat, ¬ (a_ = 339 ∧ j_ = (((34 : Int32) + ((13 : Int32) * v1_))).toInt.toNat) → bpat h' a_ j_ = bpat h_ a_ j_) ∧ (∀ D_, 60 ≤ D_ → xrun D_ 163 0 [(0, .index 338), (1, .int v1_)] [] h_ (some (.int v311), h', [])))) := by
  have hA : yas mhuO_A (mhuO_r v1_ v310 v311) (yg mhuO_s) := ⟨List.forall_mem_cons.mpr ⟨b0, fun q_ hq => absurd hq List.not_mem_nil⟩, fun q_ hq => absurd hq List.not_mem_nil, fun q_ hq => absurd hq List.not_mem_nil, fun n_ hn => yg_lo hn, fun q_ hq => absurd hq List.not_mem_nil⟩
  have Hs : ysh mhuO_A.1 (yg mhuO_s) h_ := ysh_of2 hs (fun q_ hq => absurd hq List.not_mem_nil)
  have Ho : ymem (mhuO_r v1_ v310 v311) (yg mhuO_s) mhuO_O h_ := List.forall_mem_cons.mpr ⟨bpat_some (fxr_at hs.2 (show fxk fxl 338 0 = some 339 by decide +kernel)), List.forall_mem_cons.mpr ⟨bpat_some o0_, List.forall_mem_cons.mpr ⟨bpat_some o1, fun q_ hq => absurd hq List.not_mem_nil⟩⟩⟩
  have HC : ∀ q_ ∈ mhuO_C, xhold (mhuO_r v1_ v310 v311) q_ := List.forall_mem_cons.mpr ⟨xh_leT c0_, List.forall_mem_cons.mpr ⟨xh_ltF c1_, fun q_ hq => absurd hq List.not_mem_nil⟩⟩
  rcases yrun (yis_ok mhuO_k) hA Hs Ho HC with ⟨q_, hq, h', K_, G_⟩ | ⟨q_, hq, h', K_, G_⟩
  · cases hq
  · have e_ := List.mem_singleton.mp hq
    subst e_
    exact ⟨h', yfr_sm K_.2.2.2 hs K_.1 (ywa_r mhuO_w List.mem_cons_self), ⟨bpat_of (K_.2.1 _ List.mem_cons_self), fun a_ j_ n0_ => yfr_bp K_.2.2.2 (List.forall_mem_cons.mpr ⟨fun e_ => n0_ ⟨e_.1.symm, e_.2.symm⟩, fun q_ hq => absurd hq List.not_mem_nil⟩), G_⟩⟩
def hushF (W_ : Nat → List Int32) (V : Nat → Int32) (z_ : Int32) : (Nat → List Int32) × (Nat → Int32) × Int32 := if 0 ≤ z_.toInt ∧ z_.toInt < (V 0).toInt then (upR W_ z_.toInt.toNat [], V, Int32.ofNat (W_ z_.toInt.toNat).length) else (W_, V, Int32.ofInt (-1000001))
theorem x_hush {W_ : Nat → List Int32} {V : Nat → Int32} {h_ : xH} {z_ : Int32} (B_ : bInv bZ bIj h_) (K_ : okS W_ V) (H_ : SX W_ V h_) : ∃ h', ysm h_ h' ∧ (SX (hushF W_ V z_).1 (hushF W_ V z_).2.1 h' ∧ ∀ D_, 60 ≤ D_ → xrun D_ 77 0 [(0, .index 0), (1, .int z_)] [] h_ (some (.int (hushF W_ V z_).2.2), h', [])) := by
  obtain ⟨y_, oy⟩ := xerr (k_ := 1) B_ (by omega)
  have zz := z0_
  unfold hushF
  by_cases g_ : 0 ≤ z_.toInt ∧ z_.toInt < (V 0).toInt
  · rw [if_pos g_]
    obtain ⟨c_, hc_, hN_, rfl, ec⟩ := isC_n K_ g_
    obtain ⟨s1_, s2_, s3_⟩ := cl_s H_.1 hc_
    have R_ := SX_w H_ (cl_x hc_)
    obtain ⟨h1, m_, e1_, f_, r_⟩ := xhuO (v1_ := Int32.ofNat c_) H_.1 s2_ (xNc H_) (by rw [ec]; exact s1_) R_.2.1.2 ⟨by omega, by omega⟩ (by omega) (by omega)
    rw [ec]
    exact ⟨h1, m_, SX_r H_ m_ (cl_x hc_) (rwx_nil R_ m_ e1_ (fun j_ n_ => f_ _ j_ (fun q_ => n_ q_.2))) (fun c2_ j_ _ n1_ _ => f_ c2_ j_ (fun q_ => n1_ q_.1)), r_⟩
  · rw [if_neg g_]
    obtain ⟨h1, m_, e_⟩ := xhuE (v1_ := z_) H_.1 (xNc H_) oy
    rcases e_ with ⟨g1, g2, f_, r_⟩ | ⟨g1, w1_, f_, r_⟩ | ⟨g1, g2, w1_, f_, r_⟩
    · exact absurd ⟨by omega, g1⟩ g_
    · exact ⟨h1, m_, SX_e H_ m_ f_, r_⟩
    · exact ⟨h1, m_, SX_e H_ m_ f_, r_⟩
theorem m_hush {W_ : Nat → List Int32} {V : Nat → Int32} {h_ : xH} {z_ : Int32} (B_ : bInv bZ bIj h_) (K_ : okS W_ V) (H_ : SM W_ V h_) : ∃ h', ysm h_ h' ∧ (SM (hushF W_ V z_).1 (hushF W_ V z_).2.1 h' ∧ ∀ D_, 60 ≤ D_ → xrun D_ 163 0 [(0, .index 338), (1, .int z_)] [] h_ (some (.int (hushF W_ V z_).2.2), h', [])) := by
  obtain ⟨y_, oy⟩ := merr (k_ := 1) B_ (by omega)
  have zz := z0_
  have kN_ := okN K_
  have n1_ := i32j (V 0) kN_.1 (by omega)
  unfold hushF
  by_cases g_ : 0 ≤ z_.toInt ∧ z_.toInt < (V 0).toInt
  · rw [if_pos g_]
    obtain ⟨c_, hc_, hN_, rfl, ec⟩ := isC_n K_ g_
    obtain ⟨ix, b1⟩ := i34 hc_
    have R_ := SM_w H_ (cl_m hc_)
    obtain ⟨h1, m_, e1_, f_, r_⟩ := mhuO (v1_ := Int32.ofNat c_) H_.1 (mNc H_) (by rw [ix]; exact R_.1) b1 (by omega) (by omega)
    rw [ix] at e1_ f_
    rw [ec]
    exact ⟨h1, m_, SM_r H_ (lenS_ok K_) m_ (cl_m hc_) (rwq_nil e1_) (fun c2_ j_ _ n2_ => f_ c2_ j_ (fun q_ => n2_ ⟨q_.1, by rw [q_.2]; exact smo_c (j_ := 0) hc_ (by omega)⟩)), r_⟩
  · rw [if_neg g_]
    obtain ⟨h1, m_, e_⟩ := mhuE (v1_ := z_) H_.1 (mNc H_) oy
    rcases e_ with ⟨g1, g2, f_, r_⟩ | ⟨g1, w1_, f_, r_⟩ | ⟨g1, g2, w1_, f_, r_⟩
    · exact absurd ⟨by omega, by omega⟩ g_
    · exact ⟨h1, m_, SM_e H_ m_ f_, r_⟩
    · exact ⟨h1, m_, SM_e H_ m_ f_, r_⟩
