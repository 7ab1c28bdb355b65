-- ===== ways: the reference
-- tsz: 8 steps, 1 ends, 0 returns
def tsz_A : yA := (fun _ => none, [], [], [], [])
def tsz_C : List xB := [(.le, .arg 2, .int 0, false)]
def tsz_ss : List yS := [(4, [(2, .div (.arg 2) (.int 10)), (1, .add (.arg 1) (.int 1)), (0, .arg 0)], [], [], [(.le, .arg 2, .int 0, false)], [])]
def tsz_rs : List yR := []
theorem tsz_k : yis (yev tsz_A 3000 5 153 [4] (4, [(2, .arg 2), (1, .arg 1), (0, .arg 0)], [], [], tsz_C, [])) tsz_ss tsz_rs = true := by decide +kernel
def tsz_r (v0_ v1_ v2 : Int32) (k_ : Nat) : Value := bif Nat.beq k_ 0 then .int v0_ else (bif Nat.beq k_ 1 then .int v1_ else (bif Nat.beq k_ 2 then .int v2 else (.int 0)))
theorem tsz {v0_ v1_ v2 : Int32} (h_ : xH) (c0_ : (0 : Int32).toInt < v2.toInt) : ((bldD 5 153 4 [(2, .int v2), (1, .int v1_), (0, .int v0_)] [] h_ 4 [(2, .int (v2 / (10 : Int32))), (1, .int (v1_ + (1 : Int32))), (0, .int v0_)] [] h_)) := by
  have hA : yas tsz_A (tsz_r v0_ v1_ v2) id := ⟨fun q_ hq => absurd hq List.not_mem_nil, fun q_ hq => absurd hq List.not_mem_nil, fun q_ hq => absurd hq List.not_mem_nil, fun _ _ => rfl, fun q_ hq => absurd hq List.not_mem_nil⟩
  have HC : ∀ q_ ∈ tsz_C, xhold (tsz_r v0_ v1_ v2) q_ := List.forall_mem_cons.mpr ⟨xh_leF c0_, fun q_ hq => absurd hq List.not_mem_nil⟩
  rcases yrun (h_ := h_) (yis_ok tsz_k) hA (fun n_ z_ e_ => (by cases e_)) (fun q_ hq => absurd hq List.not_mem_nil) HC with ⟨q_, hq, h', K_, G_⟩ | ⟨q_, hq, h', K_, G_⟩
  · have e_ := List.mem_singleton.mp hq
    subst e_
    rw [yfr_nil K_.2.2.2] at G_
    exact G_
  · cases hq
-- xsz: 4 steps, 0 ends, 1 returns
def xsz_A : yA := (fun _ => none, [], [], [], [])
def xsz_C : List xB := [(.le, .arg 2, .int 0, true)]
def xsz_ss : List yS := []
def xsz_rs : List yR := [(some (.arg 1), [], [(.le, .arg 2, .int 0, true)], [])]
theorem xsz_k : yis (yev xsz_A 3000 5 153 [4] (4, [(2, .arg 2), (1, .arg 1), (0, .arg 0)], [], [], xsz_C, [])) xsz_ss xsz_rs = true := by decide +kernel
def xsz_r (v0_ v1_ v2 : Int32) (k_ : Nat) : Value := bif Nat.beq k_ 0 then .int v0_ else (bif Nat.beq k_ 1 then .int v1_ else (bif Nat.beq k_ 2 then .int v2 else (.int 0)))
theorem xsz {v0_ v1_ v2 : Int32} (h_ : xH) (c0_ : v2.toInt ≤ (0 : Int32).toInt) : ((∀ D_, 5 ≤ D_ → xrun D_ 153 4 [(2, .int v2), (1, .int v1_), (0, .int v0_)] [] h_ (some (.int v1_), h_, []))) := by
  have hA : yas xsz_A (xsz_r v0_ v1_ v2) id := ⟨fun q_ hq => absurd hq List.not_mem_nil, fun q_ hq => absurd hq List.not_mem_nil, fun q_ hq => absurd hq List.not_mem_nil, fun _ _ => rfl, fun q_ hq => absurd hq List.not_mem_nil⟩
  have HC : ∀ q_ ∈ xsz_C, xhold (xsz_r v0_ v1_ v2) q_ := List.forall_mem_cons.mpr ⟨xh_leT c0_, fun q_ hq => absurd hq List.not_mem_nil⟩
  rcases yrun (h_ := h_) (yis_ok xsz_k) hA (fun n_ z_ e_ => (by cases e_)) (fun q_ hq => absurd hq List.not_mem_nil) HC with ⟨q_, hq, h', K_, G_⟩ | ⟨q_, hq, h', K_, G_⟩
  · cases hq
  · have e_ := List.mem_singleton.mp hq
    subst e_
    rw [yfr_nil K_.2.2.2] at G_
    exact G_
-- esz: 4 steps, 1 ends, 0 returns
def esz_A : yA := (fun _ => none, [], [], [], [])
def esz_C : List xB := []
def esz_ss : List yS := [(4, [(2, .arg 0), (1, .int 0), (0, .arg 0)], [], [], [], [])]
def esz_rs : List yR := []
theorem esz_k : yis (yev esz_A 3000 5 153 [4] (0, [(0, .arg 0)], [], [], esz_C, [])) esz_ss esz_rs = true := by decide +kernel
def esz_r (v0_ : Int32) (k_ : Nat) : Value := bif Nat.beq k_ 0 then .int v0_ else (.int 0)
theorem esz {v0_ : Int32} (h_ : xH)  : ((bldD 5 153 0 [(0, .int v0_)] [] h_ 4 [(2, .int v0_), (1, .int (0 : Int32)), (0, .int v0_)] [] h_)) := by
  have hA : yas esz_A (esz_r v0_) id := ⟨fun q_ hq => absurd hq List.not_mem_nil, fun q_ hq => absurd hq List.not_mem_nil, fun q_ hq => absurd hq List.not_mem_nil, fun _ _ => rfl, fun q_ hq => absurd hq List.not_mem_nil⟩
  have HC : ∀ q_ ∈ esz_C, xhold (esz_r v0_) q_ := fun q_ hq => absurd hq List.not_mem_nil
  rcases yrun (h_ := h_) (yis_ok esz_k) hA (fun n_ z_ e_ => (by cases e_)) (fun q_ hq => absurd hq List.not_mem_nil) HC with ⟨q_, hq, h', K_, G_⟩ | ⟨q_, hq, h', K_, G_⟩
  · have e_ := List.mem_singleton.mp hq
    subst e_
    rw [yfr_nil K_.2.2.2] at G_
    exact G_
  · cases hq
-- ero: 7 steps, 1 ends, 0 returns
def ero_A : yA := (fun _ => none, [], [], [], [(153, [.arg 0], .arg 500)])
def ero_C : List xB := []
def ero_ss : List yS := [(9, [(3, .sub (.arg 500) (.int 1)), (2, .arg 0), (0, .arg 0), (1, .arg 1)], [], [], [], [])]
def ero_rs : List yR := []
theorem ero_k : yis (yev ero_A 3000 60 154 [9] (0, [(0, .arg 0), (1, .arg 1)], [], [], ero_C, [])) ero_ss ero_rs = true := by decide +kernel
def ero_r (v0_ v1_ v500 : Int32) (k_ : Nat) : Value := bif Nat.beq k_ 0 then .int v0_ else (bif Nat.beq k_ 1 then .int v1_ else (bif Nat.beq k_ 500 then .int v500 else (.int 0)))
theorem ero {v0_ v1_ v500 : Int32} (h_ : xH) (p0_ : ∀ (h_ : xH) (D_ : Nat), 5 ≤ D_ → xrun D_ 153 0 [(0, .int v0_)] [] h_ (some (.int v500), h_, [])) : ((bldD 60 154 0 [(0, .int v0_), (1, .int v1_)] [] h_ 9 [(3, .int (v500 - (1 : Int32))), (2, .int v0_), (0, .int v0_), (1, .int v1_)] [] h_)) := by
  have hA : yas ero_A (ero_r v0_ v1_ v500) id := ⟨fun q_ hq => absurd hq List.not_mem_nil, fun q_ hq => absurd hq List.not_mem_nil, fun q_ hq => absurd hq List.not_mem_nil, fun _ _ => rfl, List.forall_mem_cons.mpr ⟨p0_, fun q_ hq => absurd hq List.not_mem_nil⟩⟩
  have HC : ∀ q_ ∈ ero_C, xhold (ero_r v0_ v1_ v500) q_ := fun q_ hq => absurd hq List.not_mem_nil
  rcases yrun (h_ := h_) (yis_ok ero_k) hA (fun n_ z_ e_ => (by cases e_)) (fun q_ hq => absurd hq List.not_mem_nil) HC with ⟨q_, hq, h', K_, G_⟩ | ⟨q_, hq, h', K_, G_⟩
  · have e_ := List.mem_singleton.mp hq
    subst e_
    rw [yfr_nil K_.2.2.2] at G_
    exact G_
  · cases hq
-- tro: 9 steps, 1 ends, 0 returns
def tro_A : yA := (fun _ => none, [], [], [], [])
def tro_C : List xB := [(.le, .arg 3, .arg 1, false)]
def tro_ss : List yS := [(9, [(3, .add (.arg 3) (.int (Int32.ofInt (-1)))), (2, .div (.arg 2) (.int 10)), (0, .arg 0), (1, .arg 1)], [], [], [(.le, .arg 3, .arg 1, false)], [])]
def tro_rs : List yR := []
theorem tro_k : yis (yev tro_A 3000 60 154 [9] (9, [(3, .arg 3), (2, .arg 2), (0, .arg 0), (1, .arg 1)], [], [], tro_C, [])) tro_ss tro_rs = true := by decide +kernel
def tro_r (v0_ v1_ v2 v3 : Int32) (k_ : Nat) : Value := bif Nat.beq k_ 0 then .int v0_ else (bif Nat.beq k_ 1 then .int v1_ else (bif Nat.beq k_ 2 then .int v2 else (bif Nat.beq k_ 3 then .int v3 else (.int 0))))
theorem tro {v0_ v1_ v2 v3 : Int32} (h_ : xH) (c0_ : v1_.toInt < v3.toInt) : ((bldD 60 154 9 [(3, .int v3), (2, .int v2), (0, .int v0_), (1, .int v1_)] [] h_ 9 [(3, .int (v3 + (Int32.ofInt (-1)))), (2, .int (v2 / (10 : Int32))), (0, .int v0_), (1, .int v1_)] [] h_)) := by
  have hA : yas tro_A (tro_r v0_ v1_ v2 v3) id := ⟨fun q_ hq => absurd hq List.not_mem_nil, fun q_ hq => absurd hq List.not_mem_nil, fun q_ hq => absurd hq List.not_mem_nil, fun _ _ => rfl, fun q_ hq => absurd hq List.not_mem_nil⟩
  have HC : ∀ q_ ∈ tro_C, xhold (tro_r v0_ v1_ v2 v3) q_ := List.forall_mem_cons.mpr ⟨xh_leF c0_, fun q_ hq => absurd hq List.not_mem_nil⟩
  rcases yrun (h_ := h_) (yis_ok tro_k) hA (fun n_ z_ e_ => (by cases e_)) (fun q_ hq => absurd hq List.not_mem_nil) HC with ⟨q_, hq, h', K_, G_⟩ | ⟨q_, hq, h', K_, G_⟩
  · have e_ := List.mem_singleton.mp hq
    subst e_
    rw [yfr_nil K_.2.2.2] at G_
    exact G_
  · cases hq
-- xro: 9 steps, 0 ends, 1 returns
def xro_A : yA := (fun _ => none, [], [], [], [])
def xro_C : List xB := [(.le, .arg 3, .arg 1, true)]
def xro_ss : List yS := []
def xro_rs : List yR := [(some (.sub (.rem (.arg 2) (.int 10)) (.int 1)), [], [(.le, .arg 3, .arg 1, true)], [])]
theorem xro_k : yis (yev xro_A 3000 60 154 [9] (9, [(3, .arg 3), (2, .arg 2), (0, .arg 0), (1, .arg 1)], [], [], xro_C, [])) xro_ss xro_rs = true := by decide +kernel
def xro_r (v0_ v1_ v2 v3 : Int32) (k_ : Nat) : Value := bif Nat.beq k_ 0 then .int v0_ else (bif Nat.beq k_ 1 then .int v1_ else (bif Nat.beq k_ 2 then .int v2 else (bif Nat.beq k_ 3 then .int v3 else (.int 0))))
theorem xro {v0_ v1_ v2 v3 : Int32} (h_ : xH) (c0_ : v3.toInt ≤ v1_.toInt) : ((∀ D_, 60 ≤ D_ → xrun D_ 154 9 [(3, .int v3), (2, .int v2), (0, .int v0_), (1, .int v1_)] [] h_ (some (.int ((v2 - v2 / (10 : Int32) * (10 : Int32)) - (1 : Int32))), h_, []))) := by
  have hA : yas xro_A (xro_r v0_ v1_ v2 v3) id := ⟨fun q_ hq => absurd hq List.not_mem_nil, fun q_ hq => absurd hq List.not_mem_nil, fun q_ hq => absurd hq List.not_mem_nil, fun _ _ => rfl, fun q_ hq => absurd hq List.not_mem_nil⟩
  have HC : ∀ q_ ∈ xro_C, xhold (xro_r v0_ v1_ v2 v3) q_ := List.forall_mem_cons.mpr ⟨xh_leT c0_, fun q_ hq => absurd hq List.not_mem_nil⟩
  rcases yrun (h_ := h_) (yis_ok xro_k) hA (fun n_ z_ e_ => (by cases e_)) (fun q_ hq => absurd hq List.not_mem_nil) HC with ⟨q_, hq, h', K_, G_⟩ | ⟨q_, hq, h', K_, G_⟩
  · cases hq
  · have e_ := List.mem_singleton.mp hq
    subst e_
    rw [yfr_nil K_.2.2.2] at G_
    exact G_
theorem i32d {m_ k_ : Nat} (hm_ : m_ < 2147483648) (hk : 0 < k_) (hk2 : k_ < 2147483648) : Int32.ofNat m_ / Int32.ofNat k_ = Int32.ofNat (m_ / k_) := by
  refine Int32.toInt_inj.mp ?_
  have nk : Int32.ofNat k_ ≠ -1 := fun e_ => by
    have e_ := congrArg Int32.toInt e_
    rw [i32n hk2] at e_
    have e1_ : (-1 : Int32).toInt = -1 := rfl
    omega
  have hd_ : m_ / k_ ≤ m_ := Nat.div_le_self m_ k_
  rw [Int32.toInt_div_of_ne_right _ _ nk, i32n hm_, i32n hk2, i32n (by omega), Int.tdiv_eq_ediv_of_nonneg (by omega)]
  rfl
theorem i32r {m_ k_ : Nat} (hm_ : m_ < 2147483648) (hk : 0 < k_) (hk2 : k_ < 2147483648) : Int32.ofNat m_ - Int32.ofNat m_ / Int32.ofNat k_ * Int32.ofNat k_ = Int32.ofNat (m_ % k_) := by
  rw [i32d hm_ hk hk2, ← Int32.ofNat_mul, i32w (Nat.div_mul_le_self m_ k_) hm_]
  refine congrArg Int32.ofNat ?_
  have e_ := Nat.div_add_mod m_ k_
  rw [Nat.mul_comm] at e_
  omega
/-- how many digits -/
def wlf (k_ m_ : Nat) : Nat := match k_ with
  | 0 => 0
  | k_ + 1 => if m_ = 0 then 0 else wlf k_ (m_ / 10) + 1
def wln (m_ : Nat) : Nat := wlf 5 m_
def rdv (t_ m_ : Nat) : Nat := match t_ with
  | 0 => m_
  | t_ + 1 => rdv t_ (m_ / 10)
/-- a way's digits, the highest first -/
def dgt (n_ i_ : Nat) : Nat := rdv (wln n_ - 1 - i_) n_ % 10
theorem wlf_le : ∀ {k_ m_ : Nat}, wlf k_ m_ ≤ k_ := by
  intro k_
  induction k_ with
  | zero => intro m_; exact Nat.le_refl _
  | succ k_ ih_ =>
    intro m_
    unfold wlf
    split
    · omega
    · have := @ih_ (m_ / 10)
      omega
theorem szM_lp : ∀ (k_ m_ n_ : Nat) (h_ : xH) (w_ : Int32), m_ < 10 ^ k_ → k_ ≤ 5 → n_ + k_ ≤ 10 → ∀ D_, 5 ≤ D_ → xrun D_ 153 4 [(2, .int (Int32.ofNat m_)), (1, .int (Int32.ofNat n_)), (0, .int w_)] [] h_ (some (.int (Int32.ofNat (n_ + wlf k_ m_))), h_, []) := by
  intro k_
  have z0 : (0 : Int32).toInt = 0 := rfl
  induction k_ with
  | zero =>
    intro m_ n_ h_ w_ hm_ hk hn
    have e_ : m_ = 0 := by simpa using hm_
    subst e_
    exact xsz h_ (by rw [z0]; decide)
  | succ k_ ih_ =>
    intro m_ n_ h_ w_ hm_ hk hn
    have hb_ : m_ < 100000 := Nat.lt_of_lt_of_le hm_ (Nat.pow_le_pow_right (by omega) hk)
    unfold wlf
    by_cases g_ : m_ = 0
    · rw [if_pos g_]
      subst g_
      exact xsz h_ (by rw [z0]; decide)
    · rw [if_neg g_]
      have ld := tsz (v0_ := w_) (v1_ := Int32.ofNat n_) (v2 := Int32.ofNat m_) h_ (by rw [z0, i32n (by omega)]; omega)
      rw [i32s, show (10 : Int32) = Int32.ofNat 10 from rfl, i32d (by omega) (by omega) (by omega)] at ld
      intro D_ hD
      have z_ := ld D_ hD _ (ih_ (m_ / 10) (n_ + 1) h_ w_ (by rw [Nat.pow_succ] at hm_; omega) (by omega) (by omega) D_ hD)
      rw [show n_ + 1 + wlf k_ (m_ / 10) = n_ + (wlf k_ (m_ / 10) + 1) by omega] at z_
      exact z_
/-- how many ROCKS a way has, the reference -/
theorem szM {n_ : Nat} (hn : n_ < 100000) (h_ : xH) (D_ : Nat) (hD : 5 ≤ D_) : xrun D_ 153 0 [(0, .int (Int32.ofNat n_))] [] h_ (some (.int (Int32.ofNat (wln n_))), h_, []) := by
  have z_ := esz (v0_ := Int32.ofNat n_) h_ D_ hD _ (szM_lp 5 n_ 0 h_ _ hn (Nat.le_refl _) (by omega) D_ hD)
  rw [Nat.zero_add] at z_
  exact z_
theorem rdv_lt : ∀ {t_ m_ : Nat}, m_ < 100000 → rdv t_ m_ < 100000 := by
  intro t_
  induction t_ with
  | zero => intro m_ hm_; exact hm_
  | succ t_ ih_ => intro m_ hm_; exact ih_ (Nat.lt_of_le_of_lt (Nat.div_le_self m_ 10) hm_)
theorem roM_lp : ∀ (j_ m_ i_ : Nat) (h_ : xH) (w_ : Int32), m_ < 100000 → i_ + j_ < 100 → ∀ D_, 60 ≤ D_ → xrun D_ 154 9 [(3, .int (Int32.ofNat (i_ + j_))), (2, .int (Int32.ofNat m_)), (0, .int w_), (1, .int (Int32.ofNat i_))] [] h_ (some (.int (Int32.ofNat (rdv j_ m_ % 10) - 1)), h_, []) := by
  intro j_
  induction j_ with
  | zero =>
    intro m_ i_ h_ w_ hm_ hi_ D_ hD
    have z_ := xro (v0_ := w_) (v1_ := Int32.ofNat i_) (v2 := Int32.ofNat m_) (v3 := Int32.ofNat (i_ + 0)) h_ (by rw [i32n (by omega), i32n (by omega)]; omega) D_ hD
    rw [show (10 : Int32) = Int32.ofNat 10 from rfl, i32r (by omega) (by omega) (by omega)] at z_
    exact z_
  | succ j_ ih_ =>
    intro m_ i_ h_ w_ hm_ hi_ D_ hD
    have ld := tro (v0_ := w_) (v1_ := Int32.ofNat i_) (v2 := Int32.ofNat m_) (v3 := Int32.ofNat (i_ + (j_ + 1))) h_ (by rw [i32n (by omega), i32n (by omega)]; omega)
    rw [show (10 : Int32) = Int32.ofNat 10 from rfl, i32d (by omega) (by omega) (by omega), i32m1 (n_ := i_ + (j_ + 1)) (by omega) (by omega), show i_ + (j_ + 1) - 1 = i_ + j_ by omega] at ld
    exact ld D_ hD _ (ih_ (m_ / 10) i_ h_ w_ (Nat.lt_of_le_of_lt (Nat.div_le_self m_ 10) hm_) (by omega) D_ hD)
/-- a way's rock at a place, the reference -/
theorem roM {n_ i_ : Nat} (hn : n_ < 100000) (hi_ : i_ < wln n_) (h_ : xH) (D_ : Nat) (hD : 60 ≤ D_) : xrun D_ 154 0 [(0, .int (Int32.ofNat n_)), (1, .int (Int32.ofNat i_))] [] h_ (some (.int (Int32.ofNat (dgt n_ i_) - 1)), h_, []) := by
  have l5 : wln n_ ≤ 5 := wlf_le
  have ld := ero (v0_ := Int32.ofNat n_) (v1_ := Int32.ofNat i_) (v500 := Int32.ofNat (wln n_)) h_ (fun h_ D_ hD => szM hn h_ D_ hD)
  rw [show (1 : Int32) = Int32.ofNat 1 from rfl, i32w (n_ := wln n_) (k_ := 1) (by omega) (by omega), show wln n_ - 1 = i_ + (wln n_ - 1 - i_) by omega] at ld
  exact ld D_ hD _ (roM_lp (wln n_ - 1 - i_) n_ i_ h_ _ hn (by omega) D_ hD)
