-- ===== images: the copy of all places, one by one
def cJ (a_ b_ k_ : Nat) : bT := ([(0, (match bIm a_ k_ with
  | some (.inl c_) => c_.1
  | _ => 1), (match bIm a_ k_ with
  | some (.inl c_) => c_.2
  | _ => 0))], 1, [(0, some (.inr [.index a_])), (1, some (.inr [.index b_])), (2, wcn (k_ : Int))], [], [((a_, k_), some (.inl (bvr 0)))])
def cN (a_ b_ k_ : Nat) : bT := ([], 1, [(0, some (.inr [.index a_])), (1, some (.inr [.index b_])), (2, wcn ((k_ : Int) + 1))], [], [((b_, k_), some (.inl (bvr 0)))])
def cH (a_ b_ k_ : Nat) : bT := ([], 0, [(0, some (.inr [.index a_])), (1, some (.inr [.index b_])), (2, wcn (k_ : Int))], [], [])
noncomputable def crun (W : bW) (nb : Nat) (J_ : bT) : Option bRs := babs bzf bIm W [] bmpm bmqm bjn bgm blpm bspm bdgm bldm [] 1000 true 4 138 2 [2] nb [J_]
noncomputable def ckc (a_ b_ k_ : Nat) : Bool := pchk (crun [(b_, b_, k_, k_)] 1 (cJ a_ b_ k_)) (pis 2 1 (cN a_ b_ k_)) pno && (match bIm a_ k_ with
  | some (.inl _) => true
  | _ => false)
noncomputable def cke (a_ b_ : Nat) : Bool := pchk (crun [] 0 (cH a_ b_ 768)) pno (fun r_ => (match r_.1 with
  | none => true
  | some _ => false) && bnew bIm r_.2.1 r_.2.2.2.2.2)
theorem cke_all : (cke 339 340 && cke 340 339) = true := by decide +kernel
theorem cki0 : (List.range 64).all (fun k_ => ckc 339 340 (0 + k_)) = true := by decide +kernel
theorem cki1 : (List.range 64).all (fun k_ => ckc 339 340 (64 + k_)) = true := by decide +kernel
theorem cki2 : (List.range 64).all (fun k_ => ckc 339 340 (128 + k_)) = true := by decide +kernel
theorem cki3 : (List.range 64).all (fun k_ => ckc 339 340 (192 + k_)) = true := by decide +kernel
theorem cki4 : (List.range 64).all (fun k_ => ckc 339 340 (256 + k_)) = true := by decide +kernel
theorem cki5 : (List.range 64).all (fun k_ => ckc 339 340 (320 + k_)) = true := by decide +kernel
theorem cki6 : (List.range 64).all (fun k_ => ckc 339 340 (384 + k_)) = true := by decide +kernel
theorem cki7 : (List.range 64).all (fun k_ => ckc 339 340 (448 + k_)) = true := by decide +kernel
theorem cki8 : (List.range 64).all (fun k_ => ckc 339 340 (512 + k_)) = true := by decide +kernel
theorem cki9 : (List.range 64).all (fun k_ => ckc 339 340 (576 + k_)) = true := by decide +kernel
theorem cki10 : (List.range 64).all (fun k_ => ckc 339 340 (640 + k_)) = true := by decide +kernel
theorem cki11 : (List.range 64).all (fun k_ => ckc 339 340 (704 + k_)) = true := by decide +kernel
theorem cki_ok {k_ : Nat} (hk : k_ < 768) : ckc 339 340 k_ = true := by
  have key_ : ∀ c_, c_ ≤ k_ → k_ < c_ + 64 → (List.range 64).all (fun k_ => ckc 339 340 (c_ + k_)) = true → ckc 339 340 k_ = true := by
    intro c_ h1 h2 h3
    have w_ := List.all_eq_true.mp h3 (k_ - c_) (List.mem_range.mpr (by omega))
    rw [show c_ + (k_ - c_) = k_ by omega] at w_
    exact w_
  rcases Nat.lt_or_ge k_ 64 with q0 | q0
  · exact key_ 0 (by omega) (by omega) cki0
  rcases Nat.lt_or_ge k_ 128 with q1_ | q1_
  · exact key_ 64 (by omega) (by omega) cki1
  rcases Nat.lt_or_ge k_ 192 with q2_ | q2_
  · exact key_ 128 (by omega) (by omega) cki2
  rcases Nat.lt_or_ge k_ 256 with q3_ | q3_
  · exact key_ 192 (by omega) (by omega) cki3
  rcases Nat.lt_or_ge k_ 320 with q4_ | q4_
  · exact key_ 256 (by omega) (by omega) cki4
  rcases Nat.lt_or_ge k_ 384 with q5_ | q5_
  · exact key_ 320 (by omega) (by omega) cki5
  rcases Nat.lt_or_ge k_ 448 with q6_ | q6_
  · exact key_ 384 (by omega) (by omega) cki6
  rcases Nat.lt_or_ge k_ 512 with q7_ | q7_
  · exact key_ 448 (by omega) (by omega) cki7
  rcases Nat.lt_or_ge k_ 576 with q8_ | q8_
  · exact key_ 512 (by omega) (by omega) cki8
  rcases Nat.lt_or_ge k_ 640 with q9_ | q9_
  · exact key_ 576 (by omega) (by omega) cki9
  rcases Nat.lt_or_ge k_ 704 with q10_ | q10_
  · exact key_ 640 (by omega) (by omega) cki10
  exact key_ 704 (by omega) (by omega) cki11
theorem ckr0 : (List.range 64).all (fun k_ => ckc 340 339 (0 + k_)) = true := by decide +kernel
theorem ckr1 : (List.range 64).all (fun k_ => ckc 340 339 (64 + k_)) = true := by decide +kernel
theorem ckr2 : (List.range 64).all (fun k_ => ckc 340 339 (128 + k_)) = true := by decide +kernel
theorem ckr3 : (List.range 64).all (fun k_ => ckc 340 339 (192 + k_)) = true := by decide +kernel
theorem ckr4 : (List.range 64).all (fun k_ => ckc 340 339 (256 + k_)) = true := by decide +kernel
theorem ckr5 : (List.range 64).all (fun k_ => ckc 340 339 (320 + k_)) = true := by decide +kernel
theorem ckr6 : (List.range 64).all (fun k_ => ckc 340 339 (384 + k_)) = true := by decide +kernel
theorem ckr7 : (List.range 64).all (fun k_ => ckc 340 339 (448 + k_)) = true := by decide +kernel
theorem ckr8 : (List.range 64).all (fun k_ => ckc 340 339 (512 + k_)) = true := by decide +kernel
theorem ckr9 : (List.range 64).all (fun k_ => ckc 340 339 (576 + k_)) = true := by decide +kernel
theorem ckr10 : (List.range 64).all (fun k_ => ckc 340 339 (640 + k_)) = true := by decide +kernel
theorem ckr11 : (List.range 64).all (fun k_ => ckc 340 339 (704 + k_)) = true := by decide +kernel
theorem ckr_ok {k_ : Nat} (hk : k_ < 768) : ckc 340 339 k_ = true := by
  have key_ : ∀ c_, c_ ≤ k_ → k_ < c_ + 64 → (List.range 64).all (fun k_ => ckc 340 339 (c_ + k_)) = true → ckc 340 339 k_ = true := by
    intro c_ h1 h2 h3
    have w_ := List.all_eq_true.mp h3 (k_ - c_) (List.mem_range.mpr (by omega))
    rw [show c_ + (k_ - c_) = k_ by omega] at w_
    exact w_
  rcases Nat.lt_or_ge k_ 64 with q0 | q0
  · exact key_ 0 (by omega) (by omega) ckr0
  rcases Nat.lt_or_ge k_ 128 with q1_ | q1_
  · exact key_ 64 (by omega) (by omega) ckr1
  rcases Nat.lt_or_ge k_ 192 with q2_ | q2_
  · exact key_ 128 (by omega) (by omega) ckr2
  rcases Nat.lt_or_ge k_ 256 with q3_ | q3_
  · exact key_ 192 (by omega) (by omega) ckr3
  rcases Nat.lt_or_ge k_ 320 with q4_ | q4_
  · exact key_ 256 (by omega) (by omega) ckr4
  rcases Nat.lt_or_ge k_ 384 with q5_ | q5_
  · exact key_ 320 (by omega) (by omega) ckr5
  rcases Nat.lt_or_ge k_ 448 with q6_ | q6_
  · exact key_ 384 (by omega) (by omega) ckr6
  rcases Nat.lt_or_ge k_ 512 with q7_ | q7_
  · exact key_ 448 (by omega) (by omega) ckr7
  rcases Nat.lt_or_ge k_ 576 with q8_ | q8_
  · exact key_ 512 (by omega) (by omega) ckr8
  rcases Nat.lt_or_ge k_ 640 with q9_ | q9_
  · exact key_ 576 (by omega) (by omega) ckr9
  rcases Nat.lt_or_ge k_ 704 with q10_ | q10_
  · exact key_ 640 (by omega) (by omega) ckr10
  exact key_ 704 (by omega) (by omega) ckr11
