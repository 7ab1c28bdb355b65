-- ===== the innermost is right, where what it calls is
section
variable {h h' : xH} {g_ : Nat} {o : Int}
theorem ppx_78 (hf : bfr [(338, 338, 7, 8)] h h') (H_ : ppx h g_) (h7 : tv h 338 7 ≤ tv h' 338 7) : ppx h' g_ ∧ tv h' 338 9 = tv h 338 9 := by
  have e9_ : tv h' 338 9 = tv h 338 9 := pbiw hf rfl
  refine ⟨⟨by rw [e9_]; exact Int.le_trans H_.1 h7, ?_⟩, e9_⟩
  rw [e9_, tcode_eq (h := h) (a_ := 345) (b_ := 0) (fun j_ hj => pbiw hf rfl)]
  exact H_.2
theorem ppx_8 (hf : bfr [(338, 338, 8, 8)] h h') (H_ : ppx h g_) : ppx h' g_ ∧ tv h' 338 9 = tv h 338 9 ∧ tv h' 338 7 = tv h 338 7 := by
  have e9_ : tv h' 338 9 = tv h 338 9 := pbiw hf rfl
  have e7_ : tv h' 338 7 = tv h 338 7 := pbiw hf rfl
  refine ⟨⟨by rw [e9_, e7_]; exact H_.1, ?_⟩, e9_, e7_⟩
  rw [e9_, tcode_eq (h := h) (a_ := 345) (b_ := 0) (fun j_ hj => pbiw hf rfl)]
  exact H_.2
theorem pW_78 (hf : bfr [(338, 338, 7, 8)] h h') : bfr pW h h' := fun a_ j_ hj => hf a_ j_ (bws_ok (V := [(338, 338, 7, 8)]) (W := pW) rfl hj)
theorem pW_8 (hf : bfr [(338, 338, 8, 8)] h h') : bfr pW h h' := fun a_ j_ hj => hf a_ j_ (bws_ok (V := [(338, 338, 8, 8)]) (W := pW) rfl hj)
theorem oV_1 : (pcal 182 26 175 = true ∧ pcal 182 97 175 = true ∧ pcal 182 137 175 = true) ∧ (pcal 182 109 181 = true ∧ pcal 182 149 181 = true) ∧ pcal 182 116 182 = true ∧ pcal 182 156 176 = true ∧ pcm 181 0 = true ∧ pcm 182 0 = true ∧ pcm 176 0 = true := by
  have k_ := oV_ok
  simp only [oV, Bool.and_eq_true] at k_
  exact ⟨k_.1.1, k_.1.2.1, k_.1.2.2.1.1, k_.1.2.2.1.2, k_.1.2.2.2⟩
theorem oV_2 : (pchk (prun [] 181 0 0 [] lP5) pno (pans 0 []) = true ∧ pchk (prun [(338, 338, 7, 8)] 181 0 2 [] lP4) pno (pans 1 [((338, 8), (1, [(1, 1)])), ((338, 7), (1, [(0, 1)]))]) = true) := by
  have k_ := oV_ok
  simp only [oV, Bool.and_eq_true] at k_
  exact k_.2.1
theorem oV_3 : (pchk (prun [] 182 112 0 [116] (lJS 0)) pno (pans 0 []) = true ∧ pchk (prun [] 182 112 0 [116] (lJS 1)) (pis 116 0 lJt) pno = true) ∧ (pchk (prun [] 182 119 0 [137] (lJS 0)) pno (pans 0 []) = true ∧ pchk (prun [(338, 338, 8, 8)] 182 119 1 [137] lN1) (pis 137 1 lN2) pno = true) := by
  have k_ := oV_ok
  simp only [oV, Bool.and_eq_true] at k_
  exact k_.2.2.1
theorem oV_4 : (pchk (prun [] 182 140 0 [] lJ0) pno (pans 1 []) = true ∧ pchk (prun [] 182 29 0 [] lJ0) pno (pans 1 []) = true ∧ pchk (prun [] 182 100 0 [] lJ0) pno (pans 1 []) = true) ∧ (pchk (prun [] 182 152 0 [156] (lJS 0)) pno (pans 0 []) = true ∧ pchk (prun [] 182 152 0 [156] (lJS 1)) (pis 156 0 lJt) pno = true) ∧ (pchk (prun [] 182 159 0 [] (lJS 0)) pno (pans 0 []) = true ∧ pchk (prun [(338, 338, 7, 8)] 182 159 2 [] lB1) pno (fun r_ => pans 0 [] r_ || pans 1 [((338, 7), (1, [(0, 1)])), ((338, 8), (-1, [(1, 1)]))] r_) = true) := by
  have k_ := oV_ok
  simp only [oV, Bool.and_eq_true] at k_
  exact ⟨k_.2.2.2.1, k_.2.2.2.2.1, k_.2.2.2.2.2⟩
theorem opens_ok (H_ : bInv bZ bIm h) (ho : tv h 338 8 = o) (hp : ppx h g_) (h59 : tv h 338 7 ≤ 59) : ∃ (t_ : Int32) (h' : xH), (∀ D_, 4 ≤ D_ → xrun D_ 181 0 [(0, .index 338)] [] h (some (.int t_), h', [])) ∧ bInv bZ bIm h' ∧ bfr pW h h' ∧ (t_.toInt = 0 ∨ (t_.toInt = 1 ∧ o < 5 ∧ tv h' 338 8 = o + 1 ∧ tv h' 338 7 = tv h 338 7 + 1 ∧ ppx h' g_ ∧ tv h' 338 9 = tv h 338 9)) := by
  obtain ⟨c7_, x7, -, -, e7_, l7, u7⟩ := bint_at H_.1 bZ_338 (j_ := 7) (by show 7 < 26; omega) pI7
  obtain ⟨c8_, x8, -, -, e8, l8, u8⟩ := bint_at H_.1 bZ_338 (j_ := 8) (by show 8 < 26; omega) pI8
  have R0_ := lok_R (p := fun _ => 0) (sa := []) (st := []) (lo := [(0, .index 338)]) H_ ⟨rfl, rfl⟩ trivial rfl rfl
  by_cases h5 : o = 5
  · have R1 := bR_know R0_ H_ bZ_338 (j_ := 8) (by show 8 < 26; omega) pI8 (k_ := 5) (by omega)
    rcases pchk_ok oV_2.1 rfl R1 with ⟨q_, -, -, -, -, f_, -⟩ | ⟨r_, p1_, t1_, h1, f_, -, B_, fr_, rn⟩
    · cases f_
    · obtain ⟨i1_, ⟨z_, z1, z2⟩, -⟩ := pans_ok f_ B_
      subst z1
      exact ⟨z_, h1, rn, i1_, pW_0 fr_, Or.inl z2⟩
  · have R1 := bR_see (l := 0) (u_ := 59) R0_ H_ bZ_338 (j_ := 7) (by show 7 < 26; omega) pI7 (by omega) h59
    have R2 := bR_see (l := 0) (u_ := 4) R1 H_ bZ_338 (j_ := 8) (by show 8 < 26; omega) pI8 (by omega) (by omega)
    rcases pchk_ok oV_2.2 rfl R2 with ⟨q_, -, -, -, -, f_, -⟩ | ⟨r_, p1_, t1_, h1, f_, ag, B_, fr_, rn⟩
    · cases f_
    · obtain ⟨i1_, ⟨z_, z1, z2⟩, v1_⟩ := pans_ok f_ B_
      subst z1
      have w8 := v1_ _ List.mem_cons_self _ bZ_338 (by show 8 < 26; omega)
      have w7_ := v1_ _ (List.mem_cons_of_mem _ List.mem_cons_self) _ bZ_338 (by show 7 < 26; omega)
      simp only [bfv, bsm] at w8 w7_
      rw [ag 1 (by omega), bup_self] at w8
      rw [ag 0 (by omega), bup_ne (by omega), bup_self] at w7_
      obtain ⟨hp1, e9_⟩ := ppx_78 fr_ hp (by omega)
      exact ⟨z_, h1, rn, i1_, pW_78 fr_, Or.inr ⟨z2, by omega, by omega, by omega, hp1, e9_⟩⟩
end
