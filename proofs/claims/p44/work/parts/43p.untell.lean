-- ===== UNTELL keeps the texts such that they can be worked out
def xWU : bW := [(339, 339, 434, 434), (339, 339, 559, 559), (341, 341, 1, 1)]
noncomputable def xuc (u_ : Nat) : Bool := pchk (prun [(339, 339, 434 + 125 * u_, 434 + 125 * u_)] 185 0 0 [] (xtA u_)) pno (fun r_ => bans bzf bIm (some wany) [] r_ && (match blo r_.2.2.2.2.2 339 (434 + 125 * u_) with
  | some (some (.inl f_)) => decide (f_ = bcn 0)
  | _ => false))
theorem xuc_all : (xuc 0 && xuc 1) = true := by decide +kernel
theorem xuE_all : (pchk (prun [(341, 341, 1, 1)] 185 0 1 [] xEl) pno (bans bzf bIm (some wany) []) && pchk (prun [(341, 341, 1, 1)] 185 0 1 [] xEh) pno (bans bzf bIm (some wany) [])) = true := by decide +kernel
theorem xuc_ok {u_ : Nat} (hu : u_ < 2) : xuc u_ = true := by
  have h := xuc_all
  simp only [Bool.and_eq_true] at h
  rcases u_ with _ | _ | u_
  · exact h.1
  · exact h.2
  · omega
theorem ttx_zero {h : xH} {a_ b_ : Nat} (e : tv h a_ b_ = 0) : ttx h a_ b_ := by
  unfold ttx
  rw [e]
  exact ⟨Nat.zero_le 60, 0, rfl⟩
theorem untell_ok : ∃ d_, d_ ≤ 900 ∧ ∀ (h : xH) (x_ : Int32), bInv bZ bIm h → bXm h → ∃ t_ h', (∀ D_, d_ ≤ D_ → xrun D_ 185 0 [(0, .index 338), (1, .int x_)] [] h (t_, h', [])) ∧ bInv bZ bIm h' ∧ bXm h' ∧ bfr xWU h h' ∧ bav (some wany) t_ := by
  refine ⟨4, by omega, fun h x_ H_ hX => ?_⟩
  by_cases hx : 0 ≤ x_.toInt ∧ x_.toInt ≤ 1
  · obtain ⟨u_, hu, hxu⟩ : ∃ u_ : Nat, u_ < 2 ∧ x_.toInt = (u_ : Int) := ⟨x_.toInt.toNat, by omega, by omega⟩
    have k_ := xuc_ok hu
    unfold xuc at k_
    have R0_ : bR bZ bIm (fun _ => 0) (xtA u_) [(0, .index 338), (1, .int x_)] [] h := bR_mk H_ (xt_lo hxu rfl rfl) trivial rfl rfl rfl
    rcases pchk_ok k_ rfl R0_ with ⟨q9_, -, -, -, -, f9_, -⟩ | ⟨r9, p9_, t9, h9, f9_, -, B9, fr9, rn9⟩
    · cases f9_
    · simp only [Bool.and_eq_true] at f9_
      obtain ⟨i1_, i2_, -⟩ := bans_ok bzf_ok f9_.1 B9
      have vb := bRt_tv B9 bZ_339 (j_ := 434 + 125 * u_) (by show 434 + 125 * u_ < 768; omega) f9_.2
      simp only [bfv, bcn, bsm] at vb
      have out_ : ∀ a_ j_, (a_ = 339 ∨ a_ = 340) → 434 ≤ j_ → j_ ≤ 683 → (a_ = 340 ∨ j_ < 434 + 125 * u_ ∨ 434 + 125 * u_ + 120 < j_) → tv h9 a_ j_ = tv h a_ j_ := by
        intro a_ j_ ha_ j1 j2_ hj
        refine pbiw fr9 ?_
        simp only [List.all_cons, List.all_nil, Bool.and_true, Bool.or_eq_true]
        rcases ha_ with rfl | rfl
        · rcases hj with hj | hj | hj
          · cases hj
          · exact Or.inr (Or.inr (Nat.ble_eq_true_of_le (by omega)))
          · exact Or.inr (Or.inl (Nat.ble_eq_true_of_le (by omega)))
        · exact Or.inl (Or.inl rfl)
      refine ⟨t9, h9, rn9, i1_, bXm_upd hu hX (ttx_zero vb) out_, fun a_ j_ hj => fr9 a_ j_ (bws_ok (W := xWU) ?_ hj), i2_⟩
      rcases u_ with _ | _ | u_
      · rfl
      · rfl
      · exact absurd hu (Nat.not_lt.mpr (Nat.le_add_left 2 u_))
  · have R0_ : bR bZ bIm (fun _ => 0) ([], 0, [(0, wth), (1, wcn x_.toInt)], [], []) [(0, .index 338), (1, .int x_)] [] h := bR_mk H_ (fun i_ v_ hv => by
      rcases i_ with _ | _ | i_
      · have e : some wth = some v_ := hv
        cases e
        exact ⟨.index 338, rfl, List.mem_cons_self, rfl, rfl⟩
      · have e : some (wcn x_.toInt) = some v_ := hv
        cases e
        exact ⟨.int x_, rfl, wcn_at⟩
      · cases hv) trivial rfl rfl rfl
    have hE := xuE_all
    simp only [Bool.and_eq_true] at hE
    have go_ : ∀ (l w_ : Int), l ≤ x_.toInt → x_.toInt ≤ w_ → pchk (prun [(341, 341, 1, 1)] 185 0 1 [] ([(0, l, w_)], 1, [(0, wth), (1, some (.inl (bvr 0)))], [], [])) pno (bans bzf bIm (some wany) []) = true → ∃ t_ h', (∀ D_, 4 ≤ D_ → xrun D_ 185 0 [(0, .index 338), (1, .int x_)] [] h (t_, h', [])) ∧ bInv bZ bIm h' ∧ bXm h' ∧ bfr xWU h h' ∧ bav (some wany) t_ := by
      intro l w_ hl hw hc_
      have R1 : bR bZ bIm (bup (fun _ => 0) 0 x_.toInt) ([(0, l, w_)], 1, [(0, wth), (1, some (.inl (bvr 0)))], [], []) [(0, .index 338), (1, .int x_)] [] h := by
        obtain ⟨r1_, r2, r3, r4, r5_, r6, r7, r8, r9, rx_⟩ := bR_new (x := x_.toInt) R0_ hl hw
        refine ⟨r1_, r2, rfl, r4, r5_, ?_, r7, r8, r9, rx_⟩
        intro i_ v_ hv
        rcases i_ with _ | _ | i_
        · have e : some wth = some v_ := hv
          cases e
          exact ⟨.index 338, rfl, List.mem_cons_self, rfl, rfl⟩
        · have e : some (some (.inl (bvr 0))) = some v_ := hv
          cases e
          exact ⟨.int x_, rfl, x_, rfl, bvr_v.symm⟩
        · cases hv
      rcases pchk_ok hc_ rfl R1 with ⟨q9_, -, -, -, -, f9_, -⟩ | ⟨r9, p9_, t9, h9, f9_, -, B9, fr9, rn9⟩
      · cases f9_
      · obtain ⟨i1_, i2_, -⟩ := bans_ok bzf_ok f9_ B9
        exact ⟨t9, h9, rn9, i1_, bxw_ok (W := [(341, 341, 1, 1)]) (by decide) h h9 fr9 hX, fun a_ j_ hj => fr9 a_ j_ (bws_ok (V := [(341, 341, 1, 1)]) (W := xWU) rfl hj), i2_⟩
    have b1 := bi_lo x_
    have b2 := bi_hi x_
    rcases (show x_.toInt < 0 ∨ 0 ≤ x_.toInt by omega) with q_ | q_
    · exact go_ (-2147483648) (-1) b1 (by omega) hE.1
    · exact go_ 2 2147483647 (by omega) b2 hE.2
