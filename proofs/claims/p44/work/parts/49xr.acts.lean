-- ===== what holds of the state is kept by each act
section
variable {W_ W' : Nat → List Int32} {V V' : Nat → Int32}
theorem okW_cp {q_ q' : Nat} (H_ : okW q_ W_ V) (eW : ∀ k_, k_ < 40 → W' (q' + k_) = W_ (q_ + k_)) (eV : ∀ k_, k_ < 40 → V' (q' + k_) = V (q_ + k_)) : okW q' W' V' := by
  obtain ⟨⟨⟨a1_, a2⟩, ⟨a3, a4⟩, a5⟩, b_, c_, ⟨d1_, d2_⟩, e1_, ⟨f1_, f2_, f3_⟩, g_⟩ := H_
  have v0_ : V' q' = V q_ := eV 0 (by omega)
  refine ⟨⟨⟨by rw [v0_]; exact a1_, by rw [eV 1 (by omega)]; exact a2⟩, ⟨by rw [eV 2 (by omega)]; exact a3, by rw [eV 3 (by omega)]; exact a4⟩, by rw [eV 5 (by omega)]; exact a5⟩, fun k_ hk => ?_, fun k_ hk => ?_, ⟨by rw [eW 20 (by omega)]; exact d1_, by rw [eW 20 (by omega)]; exact d2_⟩, by rw [eW 21 (by omega)]; exact e1_, ⟨by rw [eW 22 (by omega)]; exact f1_, by rw [eW 26 (by omega), eW 22 (by omega)]; exact f2_, by rw [eW 27 (by omega), eW 22 (by omega)]; exact f3_⟩, fun u_ hu => ?_⟩
  · obtain ⟨b1, b2, b3⟩ := b_ k_ hk
    rw [Nat.add_assoc] at b1 b2 b3
    rw [Nat.add_assoc q' 10, Nat.add_assoc q' 11, Nat.add_assoc q' 12, eV (10 + 3 * k_) (by omega), eV (11 + 3 * k_) (by omega), eV (12 + 3 * k_) (by omega)]
    exact ⟨b1, b2, b3⟩
  · rw [eW k_ (by omega)]
    exact c_ k_ hk
  · have g_ := g_ u_ hu
    rw [Nat.add_assoc] at g_
    rw [Nat.add_assoc, eW (23 + u_) (by omega)]
    exact g_
theorem okW_100 (K_ : okS W_ V) (eW : ∀ j_, 100 ≤ j_ → W' j_ = W_ j_) (eV : ∀ j_, 100 ≤ j_ → V' j_ = V j_) : okW 100 W' V' := okW_cp K_.2.1 (fun k_ _ => eW _ (by omega)) (fun k_ _ => eV _ (by omega))
theorem okS_V (K_ : okS W_ V) (A_ : ((i3b (V' 0) 12 ∧ i3b (V' 1) 8) ∧ ((i3b (V' 2) 9999 ∧ i3b (V' 3) 1048575) ∧ i3b (V' 5) 8)) ∧ ∀ k_, k_ < 8 → i3b (V' (10 + 3 * k_)) 6 ∧ (i3b (V' (11 + 3 * k_)) 9 ∧ i3b (V' (12 + 3 * k_)) 20)) (e_ : ∀ j_, 40 ≤ j_ → V' j_ = V j_) : okS W_ V' := by
  refine ⟨⟨A_.1, fun k_ hk => ?_, K_.1.2.2⟩, okW_100 K_ (fun _ _ => rfl) (fun j_ hj => e_ j_ (by omega)), fun k_ hk => ?_⟩
  · have b_ := A_.2 k_ hk
    show i3b (V' (0 + 10 + 3 * k_)) 6 ∧ (i3b (V' (0 + 11 + 3 * k_)) 9 ∧ i3b (V' (0 + 12 + 3 * k_)) 20)
    rw [Nat.zero_add, Nat.zero_add, Nat.zero_add]
    exact b_
  · rw [e_ (210 + 2 * k_) (by omega), e_ (211 + 2 * k_) (by omega)]
    exact K_.2.2 k_ hk
theorem okS_A (K_ : okS W_ V) : ((i3b (V 0) 12 ∧ i3b (V 1) 8) ∧ ((i3b (V 2) 9999 ∧ i3b (V 3) 1048575) ∧ i3b (V 5) 8)) ∧ ∀ k_, k_ < 8 → i3b (V (10 + 3 * k_)) 6 ∧ (i3b (V (11 + 3 * k_)) 9 ∧ i3b (V (12 + 3 * k_)) 20) := by
  refine ⟨K_.1.1, fun k_ hk => ?_⟩
  have b_ := K_.1.2.1 k_ hk
  rw [Nat.zero_add, Nat.zero_add, Nat.zero_add] at b_
  exact b_
/-- rows of the live world -/
theorem okS_W (K_ : okS W_ V) (c_ : ∀ k_, k_ < 12 → (W' k_).length ≤ 12 ∧ snds (W' k_)) (d_ : (W' 20).length ≤ 60 ∧ ∀ x_ ∈ W' 20, i3b x_ 255) (e1_ : (W' 21).length ≤ 24) (f_ : W' 22 = W_ 22 ∧ (W' 26 = W_ 26 ∧ W' 27 = W_ 27)) (g_ : ∀ u_, u_ < 2 → (W' (23 + u_)).length ≤ 60 ∧ ((∀ x_ ∈ W' (23 + u_), okx x_) ∧ (¬ W' (23 + u_) = [] → evk (W' (23 + u_))))) (e_ : ∀ j_, 40 ≤ j_ → W' j_ = W_ j_) : okS W' V := by
  refine ⟨⟨K_.1.1, K_.1.2.1, fun k_ hk => ?_, d_, e1_, ?_, fun u_ hu => ?_⟩, okW_100 K_ (fun j_ hj => e_ j_ (by omega)) (fun _ _ => rfl), fun k_ hk => ?_⟩
  · rw [Nat.zero_add]
    exact c_ k_ hk
  · have k_ := K_.1.2.2.2.2.2.1
    refine ⟨?_, ?_, ?_⟩
    · show (W' 22).length ≤ 10
      rw [f_.1]
      exact k_.1
    · show (W' 26).length = (W' 22).length
      rw [f_.1, f_.2.1]
      exact k_.2.1
    · show (W' 27).length = (W' 22).length
      rw [f_.1, f_.2.2]
      exact k_.2.2
  · show (W' (0 + 23 + u_)).length ≤ 60 ∧ ((∀ x_ ∈ W' (0 + 23 + u_), okx x_) ∧ (¬ W' (0 + 23 + u_) = [] → evk (W' (0 + 23 + u_))))
    rw [Nat.zero_add]
    exact g_ u_ hu
  · rw [e_ (40 + k_) (by omega)]
    exact K_.2.2 k_ hk
theorem okS_c (K_ : okS W_ V) : ∀ k_, k_ < 12 → (W_ k_).length ≤ 12 ∧ snds (W_ k_) := fun k_ hk => by
  have b_ := K_.1.2.2.1 k_ hk
  rw [Nat.zero_add] at b_
  exact b_
theorem okS_g (K_ : okS W_ V) : ∀ u_, u_ < 2 → (W_ (23 + u_)).length ≤ 60 ∧ ((∀ x_ ∈ W_ (23 + u_), okx x_) ∧ (¬ W_ (23 + u_) = [] → evk (W_ (23 + u_)))) := fun u_ hu => by
  have b_ := K_.1.2.2.2.2.2.2 u_ hu
  rw [Nat.zero_add] at b_
  exact b_
theorem okS_row (K_ : okS W_ V) {k_ : Nat} {l : List Int32} (hk : k_ < 12) (hl : l.length ≤ 12) (hs : snds l) : okS (upR W_ k_ l) V := by
  refine okS_W K_ (fun j_ hj => ?_) ?_ ?_ ?_ (fun u_ hu => ?_) (fun j_ hj => upR_ne (by omega))
  · by_cases e_ : j_ = k_
    · subst e_
      rw [upR_eq]
      exact ⟨hl, hs⟩
    · rw [upR_ne e_]
      exact okS_c K_ j_ hj
  · rw [upR_ne (by omega)]
    exact K_.1.2.2.2.1
  · rw [upR_ne (by omega)]
    exact K_.1.2.2.2.2.1
  · exact ⟨upR_ne (by omega), upR_ne (by omega), upR_ne (by omega)⟩
  · rw [upR_ne (by omega)]
    exact okS_g K_ u_ hu
theorem okS_tape (K_ : okS W_ V) {l : List Int32} (hl : l.length ≤ 60 ∧ ∀ x_ ∈ l, i3b x_ 255) : okS (upR W_ 20 l) V := by
  refine okS_W K_ (fun j_ hj => ?_) ?_ ?_ ?_ (fun u_ hu => ?_) (fun j_ hj => upR_ne (by omega))
  · rw [upR_ne (by omega)]
    exact okS_c K_ j_ hj
  · rw [upR_eq]
    exact hl
  · rw [upR_ne (by omega)]
    exact K_.1.2.2.2.2.1
  · exact ⟨upR_ne (by omega), upR_ne (by omega), upR_ne (by omega)⟩
  · rw [upR_ne (by omega)]
    exact okS_g K_ u_ hu
theorem okS_wait (K_ : okS W_ V) {l : List Int32} (hl : l.length ≤ 24) : okS (upR W_ 21 l) V := by
  refine okS_W K_ (fun j_ hj => ?_) ?_ ?_ ?_ (fun u_ hu => ?_) (fun j_ hj => upR_ne (by omega))
  · rw [upR_ne (by omega)]
    exact okS_c K_ j_ hj
  · rw [upR_ne (by omega)]
    exact K_.1.2.2.2.1
  · rw [upR_eq]
    exact hl
  · exact ⟨upR_ne (by omega), upR_ne (by omega), upR_ne (by omega)⟩
  · rw [upR_ne (by omega)]
    exact okS_g K_ u_ hu
theorem okS_text (K_ : okS W_ V) {u_ : Nat} {l : List Int32} (hu : u_ < 2) (hl : l.length ≤ 60 ∧ ((∀ x_ ∈ l, okx x_) ∧ (¬ l = [] → evk l))) : okS (upR W_ (23 + u_) l) V := by
  refine okS_W K_ (fun j_ hj => ?_) ?_ ?_ ?_ (fun v_ hv => ?_) (fun j_ hj => upR_ne (by omega))
  · rw [upR_ne (by omega)]
    exact okS_c K_ j_ hj
  · rw [upR_ne (by omega)]
    exact K_.1.2.2.2.1
  · rw [upR_ne (by omega)]
    exact K_.1.2.2.2.2.1
  · exact ⟨upR_ne (by omega), upR_ne (by omega), upR_ne (by omega)⟩
  · by_cases e_ : v_ = u_
    · subst e_
      rw [upR_eq]
      exact hl
    · rw [upR_ne (by omega)]
      exact okS_g K_ v_ hv
/-- a SHEET anew -/
theorem okS_sh (K_ : okS W_ V) {k_ : Nat} {l : List Int32} {b_ n_ : Int32} (hk : k_ < 4) (hl : l.length = 24) (hb_ : b_.toInt = 0 ∨ (b_.toInt = 8 ∨ (b_.toInt = 16 ∨ b_.toInt = 32))) (hn : i3b n_ 24) (e1_ : V' (210 + 2 * k_) = b_) (e2_ : V' (211 + 2 * k_) = n_) (e_ : ∀ j_, ¬ j_ = 210 + 2 * k_ → ¬ j_ = 211 + 2 * k_ → V' j_ = V j_) : okS (upR W_ (40 + k_) l) V' := by
  refine ⟨okW_cp K_.1 (fun j_ hj => upR_ne (by omega)) (fun j_ hj => e_ _ (by omega) (by omega)), okW_cp K_.2.1 (fun j_ hj => upR_ne (by omega)) (fun j_ hj => e_ _ (by omega) (by omega)), fun j_ hj => ?_⟩
  · by_cases q_ : j_ = k_
    · subst q_
      rw [upR_eq, e1_, e2_]
      exact ⟨⟨hl, hb_⟩, hn⟩
    · rw [upR_ne (by omega), e_ (210 + 2 * j_) (by omega) (by omega), e_ (211 + 2 * j_) (by omega) (by omega)]
      exact K_.2.2 j_ hj
theorem okS_z (K_ : okS W_ V) (x_ : Int32) : okS W_ (upI V 4 x_) := by
  have A_ := okS_A K_
  refine okS_V K_ ⟨?_, fun k_ hk => ?_⟩ (fun j_ hj => upI_ne (by omega))
  · rw [upI_ne (by omega), upI_ne (by omega), upI_ne (by omega), upI_ne (by omega), upI_ne (by omega)]
    exact A_.1
  · rw [upI_ne (by omega), upI_ne (by omega), upI_ne (by omega)]
    exact A_.2 k_ hk
theorem okS_n (K_ : okS W_ V) {x_ : Int32} (hx : i3b x_ 12) : okS W_ (upI V 0 x_) := by
  have A_ := okS_A K_
  refine okS_V K_ ⟨?_, fun k_ hk => ?_⟩ (fun j_ hj => upI_ne (by omega))
  · rw [upI_eq, upI_ne (by omega), upI_ne (by omega), upI_ne (by omega), upI_ne (by omega)]
    exact ⟨⟨hx, A_.1.1.2⟩, A_.1.2⟩
  · rw [upI_ne (by omega), upI_ne (by omega), upI_ne (by omega)]
    exact A_.2 k_ hk
theorem okS_so (K_ : okS W_ V) {x_ : Int32} (hx : i3b x_ 1048575) : okS W_ (upI V 3 x_) := by
  have A_ := okS_A K_
  refine okS_V K_ ⟨?_, fun k_ hk => ?_⟩ (fun j_ hj => upI_ne (by omega))
  · rw [upI_eq, upI_ne (by omega), upI_ne (by omega), upI_ne (by omega), upI_ne (by omega)]
    exact ⟨A_.1.1, ⟨A_.1.2.1.1, hx⟩, A_.1.2.2⟩
  · rw [upI_ne (by omega), upI_ne (by omega), upI_ne (by omega)]
    exact A_.2 k_ hk
theorem okS_im (K_ : okS W_ V) : okS (imW W_) (imV V) := by
  have w_ : ∀ j_, ¬ (100 ≤ j_ ∧ j_ < 140) → imW W_ j_ = W_ j_ := fun j_ hj => if_neg hj
  have v_ : ∀ j_, ¬ (100 ≤ j_ ∧ j_ < 140) → ¬ j_ = 200 → imV V j_ = V j_ := fun j_ h1 h2 => by
    unfold imV
    rw [if_neg h1, if_neg h2]
  refine ⟨okW_cp K_.1 (fun k_ hk => w_ _ (by omega)) (fun k_ hk => v_ _ (by omega) (by omega)), okW_cp K_.1 (fun k_ hk => ?_) (fun k_ hk => ?_), fun k_ hk => ?_⟩
  · unfold imW
    rw [if_pos (by omega), show 100 + k_ - 100 = 0 + k_ by omega]
  · unfold imV
    rw [if_pos (by omega), show 100 + k_ - 100 = 0 + k_ by omega]
  · rw [w_ _ (by omega), v_ _ (by omega) (by omega), v_ _ (by omega) (by omega)]
    exact K_.2.2 k_ hk
theorem okS_rs (K_ : okS W_ V) : okS (rsW W_) (rsV V) := by
  have w_ : ∀ j_, ¬ j_ < 40 → rsW W_ j_ = W_ j_ := fun j_ hj => if_neg hj
  have v_ : ∀ j_, ¬ j_ < 40 → rsV V j_ = V j_ := fun j_ hj => if_neg hj
  refine ⟨okW_cp K_.2.1 (fun k_ hk => ?_) (fun k_ hk => ?_), okW_cp K_.2.1 (fun k_ hk => w_ _ (by omega)) (fun k_ hk => v_ _ (by omega)), fun k_ hk => ?_⟩
  · unfold rsW
    rw [if_pos (by omega), show 0 + k_ + 100 = 100 + k_ by omega]
  · unfold rsV
    rw [if_pos (by omega), show 0 + k_ + 100 = 100 + k_ by omega]
  · rw [w_ _ (by omega), v_ _ (by omega), v_ _ (by omega)]
    exact K_.2.2 k_ hk
theorem ok_hush (K_ : okS W_ V) (z_ : Int32) : okS (hushF W_ V z_).1 (hushF W_ V z_).2.1 := by
  have A_ := okS_A K_
  unfold hushF
  split
  · exact okS_row K_ (by have q_ := A_.1.1.1.2; omega) (Nat.zero_le _) (fun x_ hx => absurd hx List.not_mem_nil)
  · exact K_
theorem ok_call (K_ : okS W_ V) : okS (callF W_ V).1 (callF W_ V).2.1 := by
  have A_ := okS_A K_
  unfold callF
  split
  · rename_i g_
    have q_ := A_.1.1.1
    refine okS_n (okS_row K_ (by have q1_ := q_.1; omega) (Nat.zero_le _) (fun x_ hx => absurd hx List.not_mem_nil)) ?_
    have e_ := i32k (V 0) q_.1 (by omega)
    exact ⟨by rw [e_]; have q1_ := q_.1; omega, by rw [e_]; omega⟩
  · exact K_
theorem ok_sound (K_ : okS W_ V) (z_ s_ : Int32) : okS (soundF W_ V z_ s_).1 (soundF W_ V z_ s_).2.1 := by
  have A_ := okS_A K_
  have q_ := A_.1.1.1.2
  unfold soundF
  split
  · rename_i g_
    have hz : z_.toInt.toNat < 12 := by omega
    split
    · rename_i g2
      refine okS_row K_ hz (by rw [List.length_append]; show _ + 1 ≤ 12; omega) (fun x_ hx => ?_)
      rcases List.mem_append.mp hx with hx | hx
      · exact (okS_c K_ _ hz).2 x_ hx
      · rw [List.mem_singleton.mp hx]
        exact (puS_i s_).mp g_.2
    · exact K_
  · exact K_
theorem ok_so (K_ : okS W_ V) (z_ : Int32) : okS (soF W_ V z_).1 (soF W_ V z_).2.1 := by
  unfold soF
  split
  · rename_i g_
    exact okS_so K_ g_
  · exact K_
theorem ok_tell (K_ : okS W_ V) (z_ : Int32) : okS (tellF W_ V z_).1 (tellF W_ V z_).2.1 := by
  unfold tellF
  split
  · refine okS_wait K_ ?_
    rw [List.length_append]
    show _ + 1 ≤ 24
    omega
  · exact K_
theorem ok_untell (K_ : okS W_ V) (z_ : Int32) : okS (untellF W_ V z_).1 (untellF W_ V z_).2.1 := by
  unfold untellF
  split
  · exact okS_text K_ (by omega) ⟨Nat.zero_le _, fun x_ hx => absurd hx List.not_mem_nil, fun e_ => absurd rfl e_⟩
  · exact K_
theorem ok_draw (K_ : okS W_ V) (z_ n_ : Int32) : okS (drawF W_ V z_ n_).1 (drawF W_ V z_ n_).2.1 := by
  have A_ := okS_A K_
  have q_ := A_.1.1.1.2
  unfold drawF
  split
  · exact okS_z (okS_row K_ (by omega) (by rw [drw_len]; omega) drw_snd) _
  · exact K_
theorem ok_rock (K_ : okS W_ V) (z_ d_ : Int32) : okS (rockF W_ V z_ d_).1 (rockF W_ V z_ d_).2.1 := by
  have A_ := okS_A K_
  have q_ := A_.1.1.2
  unfold rockF
  split
  · rename_i g_
    split
    · rename_i g2
      have e_ := i32k (V 1) q_.1 (by have q2_ := q_.2; omega)
      have kz : (List.range 70).all (fun n_ => decide (0 ≤ (Int32.ofNat n_ / 10).toInt ∧ (Int32.ofNat n_ / 10).toInt ≤ 6) && decide (0 ≤ (Int32.ofNat n_ - Int32.ofNat n_ / 10 * 10).toInt ∧ (Int32.ofNat n_ - Int32.ofNat n_ / 10 * 10).toInt ≤ 9)) = true := by decide +kernel
      obtain ⟨ez, -⟩ := nat_i (x_ := z_) (u_ := 69) ⟨g_.1.1, by omega⟩ (by omega)
      have w_ := List.all_eq_true.mp kz z_.toInt.toNat (List.mem_range.mpr (by omega))
      rw [← ez, Bool.and_eq_true] at w_
      have w1_ := of_decide_eq_true w_.1
      have w2_ := of_decide_eq_true w_.2
      show okS W_ (upK V (V 1).toInt.toNat (z_ / 10) (z_ - z_ / 10 * 10) d_ (V 1 + 1))
      refine okS_V K_ ⟨?_, fun k_ hk => ?_⟩ (fun j_ hj => upK_ne (by omega) (by omega))
      · rw [upK_1, upK_ne (by omega) (by omega), upK_ne (by omega) (by omega), upK_ne (by omega) (by omega), upK_ne (by omega) (by omega)]
        exact ⟨⟨A_.1.1.1, by rw [i3b, e_]; have q1_ := q_.1; omega⟩, A_.1.2⟩
      · by_cases ek : k_ = (V 1).toInt.toNat
        · subst ek
          exact ⟨by rw [show 10 + 3 * (V 1).toInt.toNat = 10 + 3 * (V 1).toInt.toNat + 0 by omega, upK_a]; exact w1_, by rw [show 11 + 3 * (V 1).toInt.toNat = 10 + 3 * (V 1).toInt.toNat + 1 by omega, upK_b]; exact w2_, by rw [show 12 + 3 * (V 1).toInt.toNat = 10 + 3 * (V 1).toInt.toNat + 2 by omega, upK_d]; exact g_.2⟩
        · rw [upK_ne (by omega) (by omega), upK_ne (by omega) (by omega), upK_ne (by omega) (by omega)]
          exact A_.2 k_ hk
    · exact K_
  · exact K_
theorem ok_set (K_ : okS W_ V) (r_ a_ b_ : Int32) : okS (setF W_ V r_ a_ b_).1 (setF W_ V r_ a_ b_).2.1 := by
  have A_ := okS_A K_
  have q_ := A_.1.1.2
  unfold setF
  split
  · rename_i g_
    show okS W_ (upI V (10 + 3 * r_.toInt.toNat + a_.toInt.toNat) b_)
    refine okS_V K_ ⟨?_, fun k_ hk => ?_⟩ (fun j_ hj => upI_ne (by have q2_ := q_.2; omega))
    · rw [upI_ne (by omega), upI_ne (by omega), upI_ne (by omega), upI_ne (by omega), upI_ne (by omega)]
      exact A_.1
    · have B_ := A_.2 k_ hk
      refine ⟨?_, ?_, ?_⟩
      · by_cases e_ : 10 + 3 * k_ = 10 + 3 * r_.toInt.toNat + a_.toInt.toNat
        · rw [e_, upI_eq]
          exact ⟨by omega, by omega⟩
        · rw [upI_ne e_]
          exact B_.1
      · by_cases e_ : 11 + 3 * k_ = 10 + 3 * r_.toInt.toNat + a_.toInt.toNat
        · rw [e_, upI_eq]
          exact ⟨by omega, by omega⟩
        · rw [upI_ne e_]
          exact B_.2.1
      · by_cases e_ : 12 + 3 * k_ = 10 + 3 * r_.toInt.toNat + a_.toInt.toNat
        · rw [e_, upI_eq]
          exact ⟨by omega, by omega⟩
        · rw [upI_ne e_]
          exact B_.2.2
  · exact K_
theorem ok_sheet (K_ : okS W_ V) (z_ b_ n_ : Int32) : okS (sheetF W_ V z_ b_ n_).1 (sheetF W_ V z_ b_ n_).2.1 := by
  unfold sheetF
  split
  · rename_i g_
    split
    · exact K_
    · rename_i g1
      split
      · exact K_
      · rename_i g2
        show okS (upR W_ (40 + z_.toInt.toNat) (List.replicate 24 0)) (upI (upI V (210 + 2 * z_.toInt.toNat) b_) (211 + 2 * z_.toInt.toNat) (if b_.toInt = 0 then 0 else n_))
        refine okS_sh (k_ := z_.toInt.toNat) (b_ := b_) (n_ := if b_.toInt = 0 then 0 else n_) K_ (by omega) List.length_replicate g_.2 ?_ ?_ upI_eq (fun j_ h1 h2 => ?_)
        · by_cases e_ : b_.toInt = 0
          · rw [if_pos e_]
            exact ⟨Int.le_refl _, (by decide : (0 : Int) ≤ 24)⟩
          · rw [if_neg e_]
            exact ⟨by omega, by omega⟩
        · rw [upI_ne (by omega), upI_eq]
        · rw [upI_ne h2, upI_ne h1]
  · exact K_
theorem ok_put (K_ : okS W_ V) (z_ i_ d_ : Int32) : okS (putF W_ V z_ i_ d_).1 (putF W_ V z_ i_ d_).2.1 := by
  unfold putF
  split
  · rename_i g_
    split
    · exact K_
    · split
      · have k_ := K_.2.2 z_.toInt.toNat (by omega)
        exact okS_sh K_ (by omega) (by rw [List.length_set]; exact k_.1.1) k_.1.2 k_.2 rfl rfl (fun _ _ _ => rfl)
      · exact K_
  · exact K_
theorem ok_sounds (K_ : okS W_ V) (z_ c_ : Int32) : okS (soundsF W_ V z_ c_).1 (soundsF W_ V z_ c_).2.1 := by
  have A_ := okS_A K_
  have q_ := A_.1.1.1.2
  unfold soundsF
  split
  · split
    · exact K_
    · exact okS_row K_ (by omega) (Nat.le_trans spx_len (Nat.min_le_right _ _)) spx_snd
  · exact K_
theorem ok_move (K_ : okS W_ V) (z_ i_ d_ j_ n_ : Int32) : okS (moveF W_ V z_ i_ d_ j_ n_).1 (moveF W_ V z_ i_ d_ j_ n_).2.1 := by
  unfold moveF
  by_cases g_ : (0 ≤ z_.toInt ∧ z_.toInt < 4) ∧ (0 ≤ d_.toInt ∧ d_.toInt < 4)
  · rw [pif_t g_]
    by_cases g1 : (V (210 + 2 * z_.toInt.toNat)).toInt = 0 ∨ (V (210 + 2 * d_.toInt.toNat)).toInt = 0
    · rw [pif_t g1]
      exact K_
    · rw [pif_f g1]
      by_cases g2 : V (210 + 2 * z_.toInt.toNat) = V (210 + 2 * d_.toInt.toNat)
      · rw [pif_t g2]
        by_cases g3_ : mvP V z_.toInt.toNat d_.toInt.toNat i_ j_ n_
        · rw [pif_t g3_]
          obtain ⟨⟨p1_, p2_⟩, p3_, p4_, p5_⟩ := g3_
          have k1_ := K_.2.2 z_.toInt.toNat (by omega)
          have k2_ := K_.2.2 d_.toInt.toNat (by omega)
          have u1_ := k1_.2.2
          have u2_ := k2_.2.2
          have l1 := k1_.1.1
          have l2 := k2_.1.1
          exact okS_sh K_ (by omega) (by rw [mvl_len (by omega) (by omega)]; exact k2_.1.1) k2_.1.2 k2_.2 rfl rfl (fun _ _ _ => rfl)
        · rw [pif_f g3_]
          exact K_
      · rw [pif_f g2]
        exact K_
  · rw [pif_f g_]
    exact K_
theorem ok_echo {h' : xH} (K_ : okS W_ V) (z_ d_ i_ : Int32) (H_ : SX (echoF W_ V z_ d_ i_).1 (echoF W_ V z_ d_ i_).2.1 h') : okS (echoF W_ V z_ d_ i_).1 (echoF W_ V z_ d_ i_).2.1 := by
  have A_ := okS_A K_
  have q_ := A_.1.1.1.2
  revert H_
  unfold echoF
  by_cases g_ : ((0 ≤ z_.toInt ∧ z_.toInt < (V 0).toInt) ∧ (0 ≤ i_.toInt ∧ i_.toInt < (V 0).toInt)) ∧ isW (nR V) d_
  · rw [pif_t g_]
    intro H_
    have R_ := SX_w (W_ := upR W_ i_.toInt.toNat (hrd W_ V d_ (W_ z_.toInt.toNat))) (V := V) H_ (cl_x (c_ := i_.toInt.toNat) (by omega))
    rw [upR_eq] at R_
    exact okS_row K_ (by omega) R_.2.2.1 (snds_hrf (okS_c K_ _ (by omega)).2)
  · rw [pif_f g_]
    exact fun _ => K_
end
