-- ===== the ROCKS and the text of TOLD, both sides
def wrl (N_ : Nat) (kd m_ : Nat → Nat) (xs : List Int32) (h_ : xH) : Prop := (∀ k_, k_ < N_ → (kd k_ ≤ 6 ∧ m_ k_ ≤ 9) ∧ (bpat h_ (58 + k_) 0 = some (.int (Int32.ofNat (kd k_))) ∧ bpat h_ (58 + k_) 1 = some (.int (Int32.ofNat (m_ k_))))) ∧ txb h_ xs
def wrd (N_ : Nat) (kd m_ : Nat → Nat) (ys : List (Int32 × Int32)) (h_ : xH) : Prop := (∀ k_, k_ < N_ → (kd k_ ≤ 6 ∧ m_ k_ ≤ 9) ∧ (rkm h_ k_ 0 (Int32.ofNat (kd k_)) ∧ rkm h_ k_ 1 (Int32.ofNat (m_ k_)))) ∧ txc h_ ys
def wrc (N_ : Nat) (xs : List Int32) : Prop := N_ ≤ 8 ∧ (xs.length ≤ 60 ∧ ((∀ x_ ∈ xs, okx x_) ∧ (¬ xs = [] → evk xs)))
def hrf (kd m_ : Nat → Nat) (xs : List Int32) (ws_ l : List Int32) : List Int32 := match ws_ with
  | [] => l
  | d_ :: t_ => hrf kd m_ xs t_ (sdo (kd d_.toInt.toNat) (m_ d_.toInt.toNat) xs l)
theorem bcq_nl {h_ : xH} {a_ b_ k_ k' l l' : Nat} (h1 : bcq h_ a_ k_ l) (h2 : bcq h_ b_ k' l') (hl : ¬ l = l') : ¬ a_ = b_ := by
  intro e_
  subst e_
  obtain ⟨c_, c1_, c2_, c3_⟩ := h1
  obtain ⟨d_, d1_, d2_, d3_⟩ := h2
  rw [c1_] at d1_
  cases d1_
  exact hl (c3_.symm.trans d3_)
theorem rck_k : (List.range 8).all (fun k_ => decide (fxk fxl 3 k_ = some (58 + k_)) && (match bzf (58 + k_) with
  | some z_ => Nat.beq z_.1 5 && Nat.beq z_.2 3
  | none => false)) = true := by decide +kernel
theorem rck_ok {h_ : xH} {k_ : Nat} (hs : sHp h_) (hk : k_ < 8) : bpat h_ 3 k_ = some (.index (58 + k_)) ∧ bcq h_ (58 + k_) 5 3 := by
  have q_ := List.all_eq_true.mp rck_k k_ (List.mem_range.mpr hk)
  rw [Bool.and_eq_true] at q_
  refine ⟨fxr_at hs.2 (of_decide_eq_true q_.1), ?_⟩
  have q2_ := q_.2
  cases hz : bzf (58 + k_) with
  | none => rw [hz] at q2_; exact absurd q2_ Bool.false_ne_true
  | some z_ =>
    rw [hz] at q2_
    have q3_ : (Nat.beq z_.1 5 && Nat.beq z_.2 3) = true := q2_
    rw [Bool.and_eq_true] at q3_
    have c_ := hs.1 _ _ hz
    rw [Nat.eq_of_beq_eq_true q3_.1, Nat.eq_of_beq_eq_true q3_.2] at c_
    exact c_
theorem wrl_fr {N_ : Nat} {kd m_ : Nat → Nat} {xs : List Int32} {h_ h' : xH} (H_ : wrl N_ kd m_ xs h_) (hN_ : N_ ≤ 8) (hs : sHp h_) (f_ : ∀ c_ j_, (bcq h_ c_ 5 3 ∨ (c_ = 67 ∨ c_ = 68)) → bpat h' c_ j_ = bpat h_ c_ j_) : wrl N_ kd m_ xs h' := by
  refine ⟨fun k_ hk => ?_, ⟨(f_ 67 1 (Or.inr (Or.inl rfl))).trans H_.2.1, fun j_ x_ hx => (f_ 68 j_ (Or.inr (Or.inr rfl))).trans (H_.2.2 j_ x_ hx)⟩⟩
  obtain ⟨a1_, b1, b2⟩ := H_.1 k_ hk
  have kk := (rck_ok (k_ := k_) hs (by omega)).2
  exact ⟨a1_, (f_ _ _ (Or.inl kk)).trans b1, (f_ _ _ (Or.inl kk)).trans b2⟩
theorem wrd_fr {N_ : Nat} {kd m_ : Nat → Nat} {ys : List (Int32 × Int32)} {h_ h' : xH} (H_ : wrd N_ kd m_ ys h_) (f_ : ∀ j_, bpat h' 339 j_ = bpat h_ 339 j_) : wrd N_ kd m_ ys h' := ⟨fun k_ hk => ⟨(H_.1 k_ hk).1, (f_ _).trans (H_.1 k_ hk).2.1, (f_ _).trans (H_.1 k_ hk).2.2⟩, txc_fr H_.2 f_⟩
theorem hr_lp {aw bw a_ b_ c_ N_ : Nat} {kd m_ : Nat → Nat} {xs W_ : List Int32} (C_ : wrc N_ xs) (na : ¬ a_ = aw) (n67 : ¬ a_ = 67) (nbw : ¬ bw = 33) (hW : ∀ x_ ∈ W_, 0 ≤ x_.toInt ∧ x_.toInt < N_) : ∀ (n_ i_ : Nat) (l : List Int32) (h_ : xH), i_ + n_ = W_.length → wrl N_ kd m_ xs h_ → rwx h_ aw bw 4 W_ → bcq h_ c_ 6 2 → rW a_ b_ h_ l → ∃ h', rW a_ b_ h' (hrf kd m_ xs (W_.drop i_) l) ∧ frx a_ b_ h_ h' ∧ ∀ D_, 64 ≤ D_ → xrun D_ 68 8 [(4, .int (Int32.ofNat i_)), (0, .index 1), (1, .index c_), (2, .index aw), (3, .index a_)] [] h_ (none, h', []) := by
  obtain ⟨hN_, hL, hX, hE⟩ := C_
  intro n_
  induction n_ with
  | zero =>
    intro i_ l h_ hi_ H_ R2 kc_ R_
    obtain ⟨⟨Q1_, Q2_⟩, ⟨Q3, Q4⟩, Q5, Q6_⟩ := R2
    obtain ⟨h1, m1_, f1_, r1_⟩ := rhe (v4_ := Int32.ofNat i_) R_.1 kc_ Q1_ R_.2.1.1.1 Q4 (by rw [i32n (by omega), i32n (by omega)]; omega)
    rw [List.drop_eq_nil_of_le (by omega)]
    exact ⟨h1, rW_all R_ m1_ f1_, frx_r (frr_all m1_ f1_), fun D_ hD => r1_ D_ (by omega)⟩
  | succ n_ ih_ =>
    intro i_ l h_ hi_ H_ R2 kc_ R_
    have R2' := R2
    obtain ⟨⟨Q1_, Q2_⟩, ⟨Q3, Q4⟩, Q5, Q6_⟩ := R2
    have hi2 : i_ < W_.length := by omega
    have gi : W_[i_]? = some W_[i_] := List.getElem?_eq_getElem hi2
    obtain ⟨w1_, w2_⟩ := hW _ (List.getElem_mem hi2)
    have kN_ : W_[i_].toInt.toNat < N_ := by omega
    obtain ⟨p1_, p2_⟩ := rck_ok (k_ := W_[i_].toInt.toNat) R_.1 (by omega)
    have tn_ : (Int32.ofNat i_).toInt.toNat = i_ := by rw [i32n (by omega)]; omega
    obtain ⟨h1, m1_, f1_, ld1⟩ := the (v4_ := Int32.ofNat i_) R_.1 kc_ Q1_ Q2_ R_.2.1.1.1 p2_ Q4 Q3 (by rw [tn_]; exact Q6_ i_ _ gi) p1_ ⟨by rw [i32n (by omega)]; omega, by rw [i32n (by omega)]; omega⟩ ⟨w1_, by omega⟩ (by rw [i32n (by omega), i32n (by omega)]; omega)
    have R1 := rW_all R_ m1_ f1_
    obtain ⟨⟨k1_, k2_⟩, b1, b2⟩ := H_.1 _ kN_
    have H1_ := wrl_fr H_ hN_ R_.1 (fun c_ j_ _ => f1_ c_ j_)
    obtain ⟨-, d1_, d2_⟩ := H1_.1 _ kN_
    have W1_ : bcq h1 1 10 15 := bcq_of (n_ := 1) (z_ := (10, 15)) m1_.1 rfl
    have B12 : bcq h1 b_ 20 12 := R1.2.1.1.2
    have nb4 : ¬ b_ = bw := bcq_nl R_.2.1.1.2 Q2_ (by decide)
    obtain ⟨h2, R3, F2, E2⟩ := sbA k1_ k2_ W1_ (m1_.2 _ _ _ p2_) d1_ d2_ (bcq_nl B12 (bcq_of (n_ := 33) (z_ := (20, 4)) m1_.1 rfl) (by decide)) (bcq_nl B12 (bcq_of (n_ := 68) (z_ := (20, 60)) m1_.1 rfl) (by decide)) (bcq_nl B12 (bcq_of (n_ := 69) (z_ := (20, 60)) m1_.1 rfl) (by decide)) R1 H1_.2 hL hX hE
    have kc1 := m1_.2 _ _ _ kc_
    have Q11 := m1_.2 _ _ _ Q1_
    have A1 := m1_.2 _ _ _ R_.2.1.1.1
    have c2_ := ycv (mi := 68) (pc := 31) (cm := 66) (lo_ := [(4, .int (Int32.ofNat i_)), (0, .index 1), (1, .index c_), (2, .index aw), (3, .index a_)]) (st_ := [.index a_, .index (58 + W_[i_].toInt.toNat), .index 1]) (as_ := [.index (58 + W_[i_].toInt.toNat), .index a_]) (s' := []) rfl rfl W1_ rfl (xcc_l (List.forall_mem_cons.mpr ⟨rfl, List.forall_mem_cons.mpr ⟨xidx_i (bcq_lt W1_), List.forall_mem_cons.mpr ⟨xidx_i (bcq_lt kc1), List.forall_mem_cons.mpr ⟨xidx_i (bcq_lt Q11), List.forall_mem_cons.mpr ⟨xidx_i (bcq_lt A1), fun q_ hq => absurd hq List.not_mem_nil⟩⟩⟩⟩⟩) (fun t_ ht => absurd ht List.not_mem_nil) (by decide)) E2
    have kc2 := F2.1.2 _ _ _ kc1
    have Q12 := F2.1.2 _ _ _ Q11
    obtain ⟨h3, m3_, f3_, ld3⟩ := nhe (v4_ := Int32.ofNat i_) R3.1 kc2 Q12 R3.2.1.1.1
    have R4 := rW_all R3 m3_ f3_
    rw [i32s] at ld3
    have F23 : frx a_ b_ h1 h3 := frx_tr F2 (frx_r (frr_all m3_ f3_))
    have F13 : frx a_ b_ h_ h3 := frx_tr (frx_r (frr_all m1_ f1_)) F23
    have nx : ∀ z_, bcq h_ z_ 6 2 → ¬ z_ = a_ → ∀ j_, bpat h3 z_ j_ = bpat h_ z_ j_ := fun z_ kz nz j_ => F13.2 z_ j_ nz (bcq_ne kz R_.2.1.1.2 (by decide)) (bcq_ne kz (bcq_of (n_ := 33) (z_ := (20, 4)) R_.1 rfl) (by decide)) (bcq_ne kz (bcq_of (n_ := 69) (z_ := (20, 60)) R_.1 rfl) (by decide))
    have H3 : wrl N_ kd m_ xs h3 := wrl_fr H_ hN_ R_.1 (fun z_ j_ hz => by
      have B_ := R_.2.1.1.2
      have A_ := R_.2.1.1.1
      rcases hz with kz | rfl | rfl
      · exact F13.2 z_ j_ (bcq_ne kz A_ (by decide)) (bcq_ne kz B_ (by decide)) (bcq_ne kz (bcq_of (n_ := 33) (z_ := (20, 4)) R_.1 rfl) (by decide)) (bcq_ne kz (bcq_of (n_ := 69) (z_ := (20, 60)) R_.1 rfl) (by decide))
      · exact F13.2 67 j_ (fun e_ => n67 e_.symm) (bcq_ne (bcq_of (n_ := 67) (z_ := (6, 2)) R_.1 rfl) B_ (by decide)) (by decide) (by decide)
      · exact F13.2 68 j_ (bcq_ne (bcq_of (n_ := 68) (z_ := (20, 60)) R_.1 rfl) A_ (by decide)) (bcq_nl (bcq_of (n_ := 68) (z_ := (20, 60)) R_.1 rfl) B_ (by decide)) (by decide) (by decide))
    have RW3 : rwx h3 aw bw 4 W_ := rwx_keep R2' F13.1 (fun z_ j_ hz => by
      rcases hz with rfl | rfl
      · exact nx _ Q1_ (fun e_ => na e_.symm) j_
      · exact F13.2 _ j_ (fun e_ => bcq_ne R_.2.1.1.1 Q2_ (by decide) e_.symm) (fun e_ => nb4 e_.symm) nbw (bcq_nl Q2_ (bcq_of (n_ := 69) (z_ := (20, 60)) R_.1 rfl) (by decide)))
    obtain ⟨h4, R5, F4, E4⟩ := ih_ (i_ + 1) _ h3 (by omega) H3 RW3 (m3_.2 _ _ _ kc2) R4
    refine ⟨h4, ?_, frx_tr F13 F4, fun D_ hD => ld1 D_ (by omega) _ (c2_ D_ (by omega) _ (ld3 D_ (by omega) _ (E4 D_ hD)))⟩
    rw [List.drop_eq_getElem_cons hi2]
    exact R5
/-- hear, the class: a CALL's row HEARD over a WAY -/
theorem hearW {aw bw a_ b_ c_ ic N_ : Nat} {kd m_ : Nat → Nat} {xs W_ l : List Int32} {h_ : xH} (C_ : wrc N_ xs) (na : ¬ a_ = aw) (n67 : ¬ a_ = 67) (nbw : ¬ bw = 33) (hW : ∀ x_ ∈ W_, 0 ≤ x_.toInt ∧ x_.toInt < N_) (hs : sHp h_) (H_ : wrl N_ kd m_ xs h_) (RW : rwx h_ aw bw 4 W_) (RC : rwx h_ c_ ic 12 l) (hl : l.length ≤ 12) (ka : bcq h_ a_ 6 2) (kb : bcq h_ b_ 20 12) (oa : bpat h_ a_ 0 = some (.index b_)) : ∃ h', rW a_ b_ h' (hrf kd m_ xs W_ l) ∧ frx a_ b_ h_ h' ∧ ∀ D_, 64 ≤ D_ → xrun D_ 68 0 [(0, .index 1), (1, .index c_), (2, .index aw), (3, .index a_)] [] h_ (none, h', []) := by
  have W0_ : bcq h_ 1 10 15 := bcq_of (n_ := 1) (z_ := (10, 15)) hs rfl
  obtain ⟨h0, m0_, f0_, ld0⟩ := ehe hs RC.1.1 RW.1.1 ka
  obtain ⟨h1, s1_, R1, m1_, f1_, r1_⟩ := copyFrom12 m0_.1 (m0_.2 _ _ _ ka) (m0_.2 _ _ _ kb) ((f0_ a_ 0).trans oa) hl (rwx_keep RC m0_ (fun z_ j_ _ => f0_ z_ j_))
  have W1_ := m0_.2 _ _ _ W0_
  have C1_ := m0_.2 _ _ _ RC.1.1
  have Q1_ := m0_.2 _ _ _ RW.1.1
  have A1 := m0_.2 _ _ _ ka
  have c1_ := ycv (mi := 68) (pc := 2) (cm := 39) (lo_ := [(0, .index 1), (1, .index c_), (2, .index aw), (3, .index a_)]) (st_ := [.index c_, .index a_]) (as_ := [.index c_]) (s' := []) rfl rfl A1 rfl (xcc_l (List.forall_mem_cons.mpr ⟨xidx_i (bcq_lt W1_), List.forall_mem_cons.mpr ⟨xidx_i (bcq_lt C1_), List.forall_mem_cons.mpr ⟨xidx_i (bcq_lt Q1_), List.forall_mem_cons.mpr ⟨xidx_i (bcq_lt A1), fun q_ hq => absurd hq List.not_mem_nil⟩⟩⟩⟩) (fun t_ ht => absurd ht List.not_mem_nil) (by decide)) r1_
  have RA_ : rW a_ b_ h1 l := ⟨s1_, R1, hl⟩
  obtain ⟨h2, m2_, f2_, ld2⟩ := fhe s1_ (m1_.2 _ _ _ C1_) (m1_.2 _ _ _ Q1_) (m1_.2 _ _ _ A1)
  have R2 := rW_all RA_ m2_ f2_
  have F02 : frr a_ b_ h_ h2 := ⟨ysm_tr m0_ (ysm_tr m1_ m2_), fun z_ j_ n1_ n2_ => (f2_ z_ j_).trans ((f1_ z_ j_ n1_ n2_).trans (f0_ z_ j_))⟩
  have nb4 : ¬ b_ = bw := bcq_nl kb RW.1.2 (by decide)
  have H2_ : wrl N_ kd m_ xs h2 := wrl_fr H_ C_.1 hs (fun z_ j_ hz => by
    rcases hz with kz | rfl | rfl
    · exact F02.2 z_ j_ (bcq_ne kz ka (by decide)) (bcq_ne kz kb (by decide))
    · exact F02.2 67 j_ (fun e_ => n67 e_.symm) (bcq_ne (bcq_of (n_ := 67) (z_ := (6, 2)) hs rfl) kb (by decide))
    · exact F02.2 68 j_ (bcq_ne (bcq_of (n_ := 68) (z_ := (20, 60)) hs rfl) ka (by decide)) (bcq_nl (bcq_of (n_ := 68) (z_ := (20, 60)) hs rfl) kb (by decide)))
  have RW2 : rwx h2 aw bw 4 W_ := rwx_keep RW F02.1 (fun z_ j_ hz => by
    rcases hz with rfl | rfl
    · exact F02.2 _ j_ (fun e_ => na e_.symm) (bcq_ne RW.1.1 kb (by decide))
    · exact F02.2 _ j_ (fun e_ => bcq_ne ka RW.1.2 (by decide) e_.symm) (fun e_ => nb4 e_.symm))
  obtain ⟨h3, R3, F3, E3⟩ := hr_lp C_ na n67 nbw hW W_.length 0 l h2 (by omega) H2_ RW2 (F02.1.2 _ _ _ RC.1.1) R2
  exact ⟨h3, R3, frx_tr (frx_r F02) F3, fun D_ hD => ld0 D_ (by omega) _ (c1_ D_ (by omega) _ (ld2 D_ (by omega) _ (E3 D_ hD)))⟩
