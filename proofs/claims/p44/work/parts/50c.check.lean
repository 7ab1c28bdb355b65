-- ===== check, over the state
def bRP : lRel := ([((7, 1), (339, 7))], [])
def lc41_0 : List lCs := [(([some (.inl (-2147483648, 2147483647)), some (.inl (-2147483648, 2147483647))], []), (none, [(0, (0, []))]), ([(7, 7, 1, 1), (33, 33, 0, 3), (69, 69, 0, 59), (314, 314, 1, 1), (315, 315, 0, 3), (318, 318, 1, 1), (319, 319, 0, 11), (320, 320, 1, 1), (321, 321, 0, 11), (323, 323, 1, 1)], [(339, 339, 7, 7), (341, 341, 1, 1), (342, 342, 0, 12), (343, 343, 0, 12), (344, 344, 0, 12), (346, 346, 105, 105), (346, 346, 109, 110), (346, 346, 115, 115), (347, 347, 0, 63)]))]
theorem lx41_0 : lc41_0.all (fun q_ => bchq bzf bIx bmpx bmqx bjn bgm blpx bspx bdgx bldx [bkx1, bkx50, bkx60, bkx213] [] 453 (lck (lpx bRP) 115 0 q_.2.2.1 q_) (lkk (lpx bRP) q_)) = true := by decide +kernel
theorem gx41_0 : ∀ q_ ∈ lc41_0, bcoq bZ bIx bTr (lck (lpx bRP) 115 0 q_.2.2.1 q_) (lkk (lpx bRP) q_) := fun q_ hq => bchq_ok bZ_len bzf_ok bTr_ok (List.forall_mem_cons.mpr ⟨bcx1, List.forall_mem_cons.mpr ⟨bcx50, List.forall_mem_cons.mpr ⟨bcx60, List.forall_mem_cons.mpr ⟨bcx213, fun _ h_ => absurd h_ List.not_mem_nil⟩⟩⟩⟩) (fun _ h_ => absurd h_ List.not_mem_nil) (List.all_eq_true.mp lx41_0 q_ hq)
theorem lm41_0 : lc41_0.all (fun q_ => bchq bzf bIm bmpm bmqm bjn bgm blpm bspm bdgm bldm [bkm2, bkm11] [] 453 (lck (lpm bRP) 235 338 q_.2.2.2 q_) (lkk (lpm bRP) q_)) = true := by decide +kernel
theorem gm41_0 : ∀ q_ ∈ lc41_0, bcoq bZ bIm bXm (lck (lpm bRP) 235 338 q_.2.2.2 q_) (lkk (lpm bRP) q_) := fun q_ hq => bchq_ok bZ_len bzf_ok (bxw_ok (List.all_eq_true.mp (show lc41_0.all (fun q_ => bxw q_.2.2.2) = true by decide +kernel) q_ hq)) (List.forall_mem_cons.mpr ⟨(bcon_of bcm2), List.forall_mem_cons.mpr ⟨bcm11, fun _ h_ => absurd h_ List.not_mem_nil⟩⟩) (fun _ h_ => absurd h_ List.not_mem_nil) (List.all_eq_true.mp lm41_0 q_ hq)
theorem sxc_ck : ∀ {c_ : Nat}, sxc c_ = true → ¬ c_ = 7 → ∀ j_, biw (lc41_0.headD default).2.2.1 c_ j_ = false := by
  intro c_ h_ n_ j_
  have k_ : ∀ l : List Nat, l.all (fun x_ => Nat.beq x_ 7 || ((lc41_0.headD default).2.2.1).all (fun q_ => !(Nat.ble q_.1 x_ && Nat.ble x_ q_.2.1))) = true → l.any (Nat.beq c_) = true → biw (lc41_0.headD default).2.2.1 c_ j_ = false := by
    intro l hl ha_
    obtain ⟨x_, hx, e_⟩ := List.any_eq_true.mp ha_
    have e_ := Nat.eq_of_beq_eq_true e_
    subst e_
    have w_ := List.all_eq_true.mp hl c_ hx
    rw [Bool.or_eq_true] at w_
    rcases w_ with w_ | w_
    · exact absurd (Nat.eq_of_beq_eq_true w_) n_
    · cases b_ : biw (lc41_0.headD default).2.2.1 c_ j_ with
      | false => rfl
      | true =>
        obtain ⟨q_, hq, e_⟩ := List.any_eq_true.mp b_
        have w2_ := nbw (List.all_eq_true.mp w_ q_ hq)
        rw [w2_] at e_
        cases e_
  exact k_ _ (by decide +kernel) h_
theorem smc_ck : ∀ {c_ j_ : Nat}, smc c_ j_ = true → ¬ (c_ = 339 ∧ smo j_ = 1021) → biw (lc41_0.headD default).2.2.2 c_ j_ = false := by
  intro c_ j_ h_ n_
  cases b_ : biw (lc41_0.headD default).2.2.2 c_ j_ with
  | false => rfl
  | true =>
    obtain ⟨q_, hq, e_⟩ := List.any_eq_true.mp b_
    simp only [Bool.and_eq_true] at e_
    have w_ : ((lc41_0.headD default).2.2.2).all (fun q_ => (decide (q_ = (339, 339, 7, 7))) || (Nat.beq q_.1 q_.2.1 && ((Nat.ble 341 q_.1 && Nat.ble q_.1 349)))) = true := by decide +kernel
    have w1_ := List.all_eq_true.mp w_ q_ hq
    simp only [Bool.or_eq_true, Bool.and_eq_true, decide_eq_true_eq] at w1_
    rcases w1_ with rfl | ⟨w1_, w2_, w3_⟩
    · have a1_ := Nat.le_of_ble_eq_true e_.1.1
      have a2 := Nat.le_of_ble_eq_true e_.1.2
      have a3 := Nat.le_of_ble_eq_true e_.2.1
      have a4 := Nat.le_of_ble_eq_true e_.2.2
      have a1_ : 339 ≤ c_ := a1_
      have a2 : c_ ≤ 339 := a2
      have a3 : 7 ≤ j_ := a3
      have a4 : j_ ≤ 7 := a4
      have ej : j_ = 7 := by omega
      exact absurd ⟨by omega, by rw [ej]; rfl⟩ n_
    · have a1_ := Nat.le_of_ble_eq_true e_.1.1
      have a2 := Nat.le_of_ble_eq_true e_.1.2
      have w1_ := Nat.eq_of_beq_eq_true w1_
      have w2_ := Nat.le_of_ble_eq_true w2_
      have w3_ := Nat.le_of_ble_eq_true w3_
      have hc_ : 341 ≤ c_ ∧ c_ ≤ 349 := by omega
      unfold smc at h_
      simp only [Bool.or_eq_true, Bool.and_eq_true] at h_
      rcases h_ with (h_ | h_) | (h_ | h_) | h_ | ⟨h_, -⟩ <;> have e_ := Nat.eq_of_beq_eq_true h_ <;> omega
theorem ex_check : exS false 115 235 (lwI 2) := by
  intro W_ V h_ as_ B_ X_ K_ H_ hp
  have gx : bPs (some (.inr [.index 0]) :: lwI 2) (.index 0 :: as_) := ⟨⟨List.mem_singleton.mpr rfl, rfl, rfl⟩, hp⟩
  obtain ⟨x_, h1, p1_, rx_, fx, -, -, -, ux⟩ := gx41_0 _ List.mem_cons_self h_ (.index 0 :: as_) (bIj_x B_) trivial gx (fun q_ hq => absurd hq List.not_mem_nil)
  have tx : tv h1 7 1 = (0 : Int32).toInt := ux ((7, 1), (0, [])) List.mem_cons_self
  refine ⟨upR W_ 21 [], V, x_, h1, okS_wait K_ (Nat.zero_le _), rx_ 999 (by show 900 ≤ 999; omega), fun B1 => ?_, fun hh Bh Xh Hh => ?_⟩
  · have m_ := inv_bq B_ B1
    have R_ : rwx h_ 7 8 24 (W_ 21) := SX_w H_ (by decide)
    refine SX_r H_ m_ (show (7, 8, 24, 21) ∈ wrX by decide) ⟨⟨m_.2 _ _ _ R_.1.1, m_.2 _ _ _ R_.1.2⟩, ⟨fxr_at m_.1.2 (show fxk fxl 7 0 = some 8 by decide +kernel), tv_in B1 (by decide +kernel) tx⟩, Nat.zero_le _, fun j_ y_ hy => by cases hy⟩ (fun c_ j_ hc_ n1_ n2_ => fx c_ j_ (sxc_ck hc_ n1_ j_))
  · have gm_ : bPs (some (.inr [.index 338]) :: lwI 2) (.index 338 :: as_) := ⟨⟨List.mem_singleton.mpr rfl, rfl, rfl⟩, hp⟩
    obtain ⟨y_, h2, p2_, rm, fm, -, -, -, um⟩ := gm41_0 _ List.mem_cons_self hh (.index 338 :: as_) (bIj_m Bh) Xh gm_ (fun q_ hq => absurd hq List.not_mem_nil)
    have tm : tv h2 339 7 = (0 : Int32).toInt := um ((339, 7), (0, [])) List.mem_cons_self
    refine ⟨y_, h2, rm 999 (by show 900 ≤ 999; omega), fun B2 => ?_, fun e_ => by cases e_⟩
    exact SM_r Hh (lenS_ok K_) (inv_bq Bh B2) (show (7, 744, 1, 24, 21) ∈ wrM by decide) ⟨tv_in B2 (by decide +kernel) tm, fun j_ y_ hy => by cases hy⟩ (fun c_ j_ hc_ n_ => fm c_ j_ (smc_ck hc_ n_))
