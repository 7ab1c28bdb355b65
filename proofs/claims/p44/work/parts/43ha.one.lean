-- ===== where a byte is there: by the place of reading
theorem oSc_0 : (List.range 6).all (fun a_ => oSc (0 + a_)) = true := by decide +kernel
theorem oSc_1 : (List.range 6).all (fun a_ => oSc (6 + a_)) = true := by decide +kernel
theorem oSc_2 : (List.range 6).all (fun a_ => oSc (12 + a_)) = true := by decide +kernel
theorem oSc_3 : (List.range 6).all (fun a_ => oSc (18 + a_)) = true := by decide +kernel
theorem oSc_4 : (List.range 6).all (fun a_ => oSc (24 + a_)) = true := by decide +kernel
theorem oSc_5 : (List.range 6).all (fun a_ => oSc (30 + a_)) = true := by decide +kernel
theorem oSc_6 : (List.range 6).all (fun a_ => oSc (36 + a_)) = true := by decide +kernel
theorem oSc_7 : (List.range 6).all (fun a_ => oSc (42 + a_)) = true := by decide +kernel
theorem oSc_8 : (List.range 6).all (fun a_ => oSc (48 + a_)) = true := by decide +kernel
theorem oSc_9 : (List.range 6).all (fun a_ => oSc (54 + a_)) = true := by decide +kernel
theorem oSc_ok {a_ : Nat} (ha_ : a_ < 60) : oSc a_ = true := by
  have key_ : ∀ b_, b_ ≤ a_ → a_ < b_ + 6 → (List.range 6).all (fun a_ => oSc (b_ + a_)) = true → oSc a_ = true := by
    intro b_ h1 h2 h3
    have k_ := List.all_eq_true.mp h3 (a_ - b_) (List.mem_range.mpr (by omega))
    rw [show b_ + (a_ - b_) = a_ by omega] at k_
    exact k_
  rcases Nat.lt_or_ge a_ 6 with q0 | q0
  · exact key_ 0 (by omega) (by omega) oSc_0
  rcases Nat.lt_or_ge a_ 12 with q1_ | q1_
  · exact key_ 6 (by omega) (by omega) oSc_1
  rcases Nat.lt_or_ge a_ 18 with q2_ | q2_
  · exact key_ 12 (by omega) (by omega) oSc_2
  rcases Nat.lt_or_ge a_ 24 with q3_ | q3_
  · exact key_ 18 (by omega) (by omega) oSc_3
  rcases Nat.lt_or_ge a_ 30 with q4_ | q4_
  · exact key_ 24 (by omega) (by omega) oSc_4
  rcases Nat.lt_or_ge a_ 36 with q5_ | q5_
  · exact key_ 30 (by omega) (by omega) oSc_5
  rcases Nat.lt_or_ge a_ 42 with q6_ | q6_
  · exact key_ 36 (by omega) (by omega) oSc_6
  rcases Nat.lt_or_ge a_ 48 with q7_ | q7_
  · exact key_ 42 (by omega) (by omega) oSc_7
  rcases Nat.lt_or_ge a_ 54 with q8_ | q8_
  · exact key_ 48 (by omega) (by omega) oSc_8
  exact key_ 54 (by omega) (by omega) oSc_9
