-- ===== contracts
-- sounds: 2119 steps
def bkx124 : bC := (111, [some (.inr [.index 0]), some (.inl (-2147483648, 2147483647)), some (.inl (-2147483648, 2147483647))], some (.inl (-1000002, 12)), [(0, 337)], 1, [], [])
theorem btx124 : bchk bzf bIx bmpx bmqx bjn bgm blpx bspx bdgx bldx [bkx1, bkx42] 30000 bkx124 = true := by decide +kernel
theorem bcx124 : bcon bZ bIx bkx124 := bchk_ok bZ_len bzf_ok (List.forall_mem_cons.mpr ⟨bcx1, List.forall_mem_cons.mpr ⟨bcx42, fun _ q => absurd q List.not_mem_nil⟩⟩) btx124
-- image: 14 steps
def bkx125 : bC := (112, [some (.inr [.index 0])], some (.inl (-2147483648, 2147483647)), [(0, 337)], 3, [], [])
theorem btx125 : bchk bzf bIx bmpx bmqx bjn bgm blpx bspx bdgx bldx [bkx88] 30000 bkx125 = true := by decide +kernel
theorem bcx125 : bcon bZ bIx bkx125 := bchk_ok bZ_len bzf_ok (List.forall_mem_cons.mpr ⟨bcx88, fun _ q => absurd q List.not_mem_nil⟩) btx125
-- restore: 25 steps
def bkx126 : bC := (113, [some (.inr [.index 0])], some (.inl (-2147483648, 2147483647)), [(0, 337)], 3, [], [])
theorem btx126 : bchk bzf bIx bmpx bmqx bjn bgm blpx bspx bdgx bldx [bkx89, bkx42] 30000 bkx126 = true := by decide +kernel
theorem bcx126 : bcon bZ bIx bkx126 := bchk_ok bZ_len bzf_ok (List.forall_mem_cons.mpr ⟨bcx89, List.forall_mem_cons.mpr ⟨bcx42, fun _ q => absurd q List.not_mem_nil⟩⟩) btx126
-- tell: 38 steps
def bkx127 : bC := (114, [some (.inr [.index 0]), some (.inl (-2147483648, 2147483647))], some (.inl (-1000004, 24)), [(0, 337)], 1, [], [])
theorem btx127 : bchk bzf bIx bmpx bmqx bjn bgm blpx bspx bdgx bldx [bkx0] 30000 bkx127 = true := by decide +kernel
theorem bcx127 : bcon bZ bIx bkx127 := bchk_ok bZ_len bzf_ok (List.forall_mem_cons.mpr ⟨bcx0, fun _ q => absurd q List.not_mem_nil⟩) btx127
-- check: 80 steps
def bkx128 : bC := (115, [some (.inr [.index 0]), some (.inl (-2147483648, 2147483647)), some (.inl (-2147483648, 2147483647))], some (.inl (-1000001, 13)), [(0, 337)], 4, [], [])
theorem btx128 : bchk bzf bIx bmpx bmqx bjn bgm blpx bspx bdgx bldx [bkx90, bkx5, bkx13, bkx1] 30000 bkx128 = true := by decide +kernel
theorem bcx128 : bcon bZ bIx bkx128 := bchk_ok bZ_len bzf_ok (List.forall_mem_cons.mpr ⟨bcx90, List.forall_mem_cons.mpr ⟨bcx5, List.forall_mem_cons.mpr ⟨bcx13, List.forall_mem_cons.mpr ⟨bcx1, fun _ q => absurd q List.not_mem_nil⟩⟩⟩⟩) btx128
-- count: 55 steps
def bkx129 : bC := (116, [some (.inr [.index 0]), some (.inl (-2147483648, 2147483647))], some (.inl (-2147483648, 2147483647)), [(0, 337)], 1, [], [])
theorem btx129 : bchk bzf bIx bmpx bmqx bjn bgm blpx bspx bdgx bldx [bkx1] 30000 bkx129 = true := by decide +kernel
theorem bcx129 : bcon bZ bIx bkx129 := bchk_ok bZ_len bzf_ok (List.forall_mem_cons.mpr ⟨bcx1, fun _ q => absurd q List.not_mem_nil⟩) btx129
-- told: 19 steps
def bkx130 : bC := (117, [some (.inr [.index 0]), some (.inl (-2147483648, 2147483647))], some (.inl (-2147483648, 2147483647)), [(0, 337)], 1, [], [])
theorem btx130 : bchk bzf bIx bmpx bmqx bjn bgm blpx bspx bdgx bldx [bkx1] 30000 bkx130 = true := by decide +kernel
theorem bcx130 : bcon bZ bIx bkx130 := bchk_ok bZ_len bzf_ok (List.forall_mem_cons.mpr ⟨bcx1, fun _ q => absurd q List.not_mem_nil⟩) btx130
