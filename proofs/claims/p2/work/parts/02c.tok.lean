theorem xtk0 : (List.range 10).all (fun i => (List.range 360).all (fun pc => match xcd0 (0 + i) pc with | none => true | some e => xEb (0 + i) pc e)) = true := by decide +kernel
theorem xtk1 : (List.range 10).all (fun i => (List.range 360).all (fun pc => match xcd0 (10 + i) pc with | none => true | some e => xEb (10 + i) pc e)) = true := by decide +kernel
theorem xtk2 : (List.range 10).all (fun i => (List.range 360).all (fun pc => match xcd0 (20 + i) pc with | none => true | some e => xEb (20 + i) pc e)) = true := by decide +kernel
theorem xtk3 : (List.range 10).all (fun i => (List.range 360).all (fun pc => match xcd0 (30 + i) pc with | none => true | some e => xEb (30 + i) pc e)) = true := by decide +kernel
theorem xtk4 : (List.range 10).all (fun i => (List.range 360).all (fun pc => match xcd0 (40 + i) pc with | none => true | some e => xEb (40 + i) pc e)) = true := by decide +kernel
theorem xtk5 : (List.range 10).all (fun i => (List.range 360).all (fun pc => match xcd0 (50 + i) pc with | none => true | some e => xEb (50 + i) pc e)) = true := by decide +kernel
theorem xtk6 : (List.range 10).all (fun i => (List.range 360).all (fun pc => match xcd0 (60 + i) pc with | none => true | some e => xEb (60 + i) pc e)) = true := by decide +kernel
theorem xtk7 : (List.range 10).all (fun i => (List.range 360).all (fun pc => match xcd0 (70 + i) pc with | none => true | some e => xEb (70 + i) pc e)) = true := by decide +kernel
theorem xtk8 : (List.range 10).all (fun i => (List.range 360).all (fun pc => match xcd0 (80 + i) pc with | none => true | some e => xEb (80 + i) pc e)) = true := by decide +kernel
theorem xtk9 : (List.range 10).all (fun i => (List.range 360).all (fun pc => match xcd0 (90 + i) pc with | none => true | some e => xEb (90 + i) pc e)) = true := by decide +kernel
theorem xtk10 : (List.range 10).all (fun i => (List.range 360).all (fun pc => match xcd0 (100 + i) pc with | none => true | some e => xEb (100 + i) pc e)) = true := by decide +kernel
theorem xtk11 : (List.range 10).all (fun i => (List.range 360).all (fun pc => match xcd0 (110 + i) pc with | none => true | some e => xEb (110 + i) pc e)) = true := by decide +kernel
theorem xtk12 : (List.range 10).all (fun i => (List.range 360).all (fun pc => match xcd0 (120 + i) pc with | none => true | some e => xEb (120 + i) pc e)) = true := by decide +kernel
theorem xtk13 : (List.range 10).all (fun i => (List.range 360).all (fun pc => match xcd0 (130 + i) pc with | none => true | some e => xEb (130 + i) pc e)) = true := by decide +kernel
theorem xtk14 : (List.range 10).all (fun i => (List.range 360).all (fun pc => match xcd0 (140 + i) pc with | none => true | some e => xEb (140 + i) pc e)) = true := by decide +kernel
theorem xtk15 : (List.range 10).all (fun i => (List.range 360).all (fun pc => match xcd0 (150 + i) pc with | none => true | some e => xEb (150 + i) pc e)) = true := by decide +kernel
theorem xtk16 : (List.range 10).all (fun i => (List.range 360).all (fun pc => match xcd0 (160 + i) pc with | none => true | some e => xEb (160 + i) pc e)) = true := by decide +kernel
theorem xtk17 : (List.range 10).all (fun i => (List.range 360).all (fun pc => match xcd0 (170 + i) pc with | none => true | some e => xEb (170 + i) pc e)) = true := by decide +kernel
theorem xtk18 : (List.range 10).all (fun i => (List.range 360).all (fun pc => match xcd0 (180 + i) pc with | none => true | some e => xEb (180 + i) pc e)) = true := by decide +kernel
theorem xtk19 : (List.range 10).all (fun i => (List.range 360).all (fun pc => match xcd0 (190 + i) pc with | none => true | some e => xEb (190 + i) pc e)) = true := by decide +kernel
theorem xtk20 : (List.range 10).all (fun i => (List.range 360).all (fun pc => match xcd0 (200 + i) pc with | none => true | some e => xEb (200 + i) pc e)) = true := by decide +kernel
theorem xtk21 : (List.range 10).all (fun i => (List.range 360).all (fun pc => match xcd0 (210 + i) pc with | none => true | some e => xEb (210 + i) pc e)) = true := by decide +kernel
theorem xtk22 : (List.range 10).all (fun i => (List.range 360).all (fun pc => match xcd0 (220 + i) pc with | none => true | some e => xEb (220 + i) pc e)) = true := by decide +kernel
theorem xtk23 : (List.range 9).all (fun i => (List.range 360).all (fun pc => match xcd0 (230 + i) pc with | none => true | some e => xEb (230 + i) pc e)) = true := by decide +kernel
theorem xtkL0 : (List.range 100).all (fun i => match xc239 (0 + i) with | none => true | some e => xEb 239 (0 + i) e) = true := by decide +kernel
theorem xtkL1 : (List.range 100).all (fun i => match xc239 (100 + i) with | none => true | some e => xEb 239 (100 + i) e) = true := by decide +kernel
theorem xtkL2 : (List.range 100).all (fun i => match xc239 (200 + i) with | none => true | some e => xEb 239 (200 + i) e) = true := by decide +kernel
theorem xtkL3 : (List.range 100).all (fun i => match xc239 (300 + i) with | none => true | some e => xEb 239 (300 + i) e) = true := by decide +kernel
theorem xtkL4 : (List.range 100).all (fun i => match xc239 (400 + i) with | none => true | some e => xEb 239 (400 + i) e) = true := by decide +kernel
theorem xtkL5 : (List.range 100).all (fun i => match xc239 (500 + i) with | none => true | some e => xEb 239 (500 + i) e) = true := by decide +kernel
theorem xtkL6 : (List.range 100).all (fun i => match xc239 (600 + i) with | none => true | some e => xEb 239 (600 + i) e) = true := by decide +kernel
theorem xtkL7 : (List.range 100).all (fun i => match xc239 (700 + i) with | none => true | some e => xEb 239 (700 + i) e) = true := by decide +kernel
theorem xtkL8 : (List.range 100).all (fun i => match xc239 (800 + i) with | none => true | some e => xEb 239 (800 + i) e) = true := by decide +kernel
theorem xtkL9 : (List.range 100).all (fun i => match xc239 (900 + i) with | none => true | some e => xEb 239 (900 + i) e) = true := by decide +kernel
theorem xtkL10 : (List.range 100).all (fun i => match xc239 (1000 + i) with | none => true | some e => xEb 239 (1000 + i) e) = true := by decide +kernel
theorem xtkL11 : (List.range 100).all (fun i => match xc239 (1100 + i) with | none => true | some e => xEb 239 (1100 + i) e) = true := by decide +kernel
theorem xtkL12 : (List.range 100).all (fun i => match xc239 (1200 + i) with | none => true | some e => xEb 239 (1200 + i) e) = true := by decide +kernel
theorem xtkL13 : (List.range 100).all (fun i => match xc239 (1300 + i) with | none => true | some e => xEb 239 (1300 + i) e) = true := by decide +kernel
theorem xtkL14 : (List.range 100).all (fun i => match xc239 (1400 + i) with | none => true | some e => xEb 239 (1400 + i) e) = true := by decide +kernel
theorem xtkL15 : (List.range 100).all (fun i => match xc239 (1500 + i) with | none => true | some e => xEb 239 (1500 + i) e) = true := by decide +kernel
theorem xtkL16 : (List.range 100).all (fun i => match xc239 (1600 + i) with | none => true | some e => xEb 239 (1600 + i) e) = true := by decide +kernel
theorem xtkL_of {b a pc : Nat} {e : Instr × Nat × List Nat} (h : (List.range b).all (fun i => match xc239 (a + i) with | none => true | some e => xEb 239 (a + i) e) = true) (h1 : a ≤ pc) (h2 : pc < a + b) (he : xc239 pc = some e) : xEb 239 pc e = true := by
  have h4 := List.all_eq_true.mp h (pc - a) (List.mem_range.mpr (by omega))
  rw [show a + (pc - a) = pc by omega, he] at h4
  exact h4
theorem xtk_of {b a M mi pc : Nat} {e : Instr × Nat × List Nat} (h : (List.range b).all (fun i => (List.range M).all (fun pc => match xcd0 (a + i) pc with | none => true | some e => xEb (a + i) pc e)) = true) (h1 : a ≤ mi) (h2 : mi < a + b) (h3 : pc < M) (he : xcd0 mi pc = some e) : xEb mi pc e = true := by
  have h4 := List.all_eq_true.mp (List.all_eq_true.mp h (mi - a) (List.mem_range.mpr (by omega))) pc (List.mem_range.mpr h3)
  rw [show a + (mi - a) = mi by omega, he] at h4
  exact h4
theorem xtok : xTok := by
  intro mi pc e he
  unfold xcd at he
  cases h1 : Nat.ble mi 238 with
  | true =>
    rw [h1] at he
    simp only [cond_true] at he
    cases h2 : Nat.ble pc 359 with
    | false => rw [h2] at he; cases he
    | true =>
      rw [h2] at he
      simp only [cond_true] at he
      have h1 := Nat.le_of_ble_eq_true h1
      have h2 := Nat.le_of_ble_eq_true h2
      by_cases q0 : mi < 10
      · exact xtk_of xtk0 (by omega) (by omega) (by omega) he
      by_cases q1 : mi < 20
      · exact xtk_of xtk1 (by omega) (by omega) (by omega) he
      by_cases q2 : mi < 30
      · exact xtk_of xtk2 (by omega) (by omega) (by omega) he
      by_cases q3 : mi < 40
      · exact xtk_of xtk3 (by omega) (by omega) (by omega) he
      by_cases q4 : mi < 50
      · exact xtk_of xtk4 (by omega) (by omega) (by omega) he
      by_cases q5 : mi < 60
      · exact xtk_of xtk5 (by omega) (by omega) (by omega) he
      by_cases q6 : mi < 70
      · exact xtk_of xtk6 (by omega) (by omega) (by omega) he
      by_cases q7 : mi < 80
      · exact xtk_of xtk7 (by omega) (by omega) (by omega) he
      by_cases q8 : mi < 90
      · exact xtk_of xtk8 (by omega) (by omega) (by omega) he
      by_cases q9 : mi < 100
      · exact xtk_of xtk9 (by omega) (by omega) (by omega) he
      by_cases q10 : mi < 110
      · exact xtk_of xtk10 (by omega) (by omega) (by omega) he
      by_cases q11 : mi < 120
      · exact xtk_of xtk11 (by omega) (by omega) (by omega) he
      by_cases q12 : mi < 130
      · exact xtk_of xtk12 (by omega) (by omega) (by omega) he
      by_cases q13 : mi < 140
      · exact xtk_of xtk13 (by omega) (by omega) (by omega) he
      by_cases q14 : mi < 150
      · exact xtk_of xtk14 (by omega) (by omega) (by omega) he
      by_cases q15 : mi < 160
      · exact xtk_of xtk15 (by omega) (by omega) (by omega) he
      by_cases q16 : mi < 170
      · exact xtk_of xtk16 (by omega) (by omega) (by omega) he
      by_cases q17 : mi < 180
      · exact xtk_of xtk17 (by omega) (by omega) (by omega) he
      by_cases q18 : mi < 190
      · exact xtk_of xtk18 (by omega) (by omega) (by omega) he
      by_cases q19 : mi < 200
      · exact xtk_of xtk19 (by omega) (by omega) (by omega) he
      by_cases q20 : mi < 210
      · exact xtk_of xtk20 (by omega) (by omega) (by omega) he
      by_cases q21 : mi < 220
      · exact xtk_of xtk21 (by omega) (by omega) (by omega) he
      by_cases q22 : mi < 230
      · exact xtk_of xtk22 (by omega) (by omega) (by omega) he
      by_cases q23 : mi < 239
      · exact xtk_of xtk23 (by omega) (by omega) (by omega) he
      omega
  | false =>
    rw [h1] at he
    simp only [cond_false] at he
    cases h3 : Nat.beq mi 239 with
    | false => rw [h3] at he; cases he
    | true =>
      rw [h3] at he
      simp only [cond_true] at he
      cases h2 : Nat.ble pc 1683 with
      | false => rw [h2] at he; cases he
      | true =>
        rw [h2] at he
        simp only [cond_true] at he
        have h2 := Nat.le_of_ble_eq_true h2
        rw [Nat.eq_of_beq_eq_true h3]
        by_cases q0 : pc < 100
        · exact xtkL_of xtkL0 (by omega) (by omega) he
        by_cases q1 : pc < 200
        · exact xtkL_of xtkL1 (by omega) (by omega) he
        by_cases q2 : pc < 300
        · exact xtkL_of xtkL2 (by omega) (by omega) he
        by_cases q3 : pc < 400
        · exact xtkL_of xtkL3 (by omega) (by omega) he
        by_cases q4 : pc < 500
        · exact xtkL_of xtkL4 (by omega) (by omega) he
        by_cases q5 : pc < 600
        · exact xtkL_of xtkL5 (by omega) (by omega) he
        by_cases q6 : pc < 700
        · exact xtkL_of xtkL6 (by omega) (by omega) he
        by_cases q7 : pc < 800
        · exact xtkL_of xtkL7 (by omega) (by omega) he
        by_cases q8 : pc < 900
        · exact xtkL_of xtkL8 (by omega) (by omega) he
        by_cases q9 : pc < 1000
        · exact xtkL_of xtkL9 (by omega) (by omega) he
        by_cases q10 : pc < 1100
        · exact xtkL_of xtkL10 (by omega) (by omega) he
        by_cases q11 : pc < 1200
        · exact xtkL_of xtkL11 (by omega) (by omega) he
        by_cases q12 : pc < 1300
        · exact xtkL_of xtkL12 (by omega) (by omega) he
        by_cases q13 : pc < 1400
        · exact xtkL_of xtkL13 (by omega) (by omega) he
        by_cases q14 : pc < 1500
        · exact xtkL_of xtkL14 (by omega) (by omega) he
        by_cases q15 : pc < 1600
        · exact xtkL_of xtkL15 (by omega) (by omega) he
        by_cases q16 : pc < 1700
        · exact xtkL_of xtkL16 (by omega) (by omega) he
        omega
