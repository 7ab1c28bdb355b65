-- ===== contracts
-- meant: 1840 steps
def bkx109 : bC := (94, [some (.inr [.index 0]), some (.inl (-2147483648, 2147483647)), some (.inl (-2147483648, 2147483647))], some (.inl (-1000001, 73)), [(0, 337)], 5, [], [])
theorem btx109 : bchk bzf bIx bmpx bmqx bjn bgm blpx bspx bdgx bldx [bkx39, bkx30, bkx1] 30000 bkx109 = true := by decide +kernel
theorem bcx109 : bcon bZ bIx bkx109 := bchk_ok bZ_len bzf_ok (List.forall_mem_cons.mpr ⟨bcx39, List.forall_mem_cons.mpr ⟨bcx30, List.forall_mem_cons.mpr ⟨bcx1, fun _ q => absurd q List.not_mem_nil⟩⟩⟩) btx109
-- safe: 51 steps
def bkx110 : bC := (96, [some (.inr [.index 0]), some (.inl (-2147483648, 2147483647)), some (.inl (-2147483648, 2147483647))], some (.inl (-2147483648, 2147483647)), [(0, 337)], 4, [], [])
theorem btx110 : bchk bzf bIx bmpx bmqx bjn bgm blpx bspx bdgx bldx [bkx4, bkx1, bkx17] 30000 bkx110 = true := by decide +kernel
theorem bcx110 : bcon bZ bIx bkx110 := bchk_ok bZ_len bzf_ok (List.forall_mem_cons.mpr ⟨bcx4, List.forall_mem_cons.mpr ⟨bcx1, List.forall_mem_cons.mpr ⟨bcx17, fun _ q => absurd q List.not_mem_nil⟩⟩⟩) btx110
-- part: 82 steps
def bkx111 : bC := (97, [some (.inr [.index 0]), some (.inl (-2147483648, 2147483647)), some (.inl (-2147483648, 2147483647)), some (.inl (-2147483648, 2147483647))], some (.inl (-1000002, 12)), [(0, 337)], 4, [], [])
theorem btx111 : bchk bzf bIx bmpx bmqx bjn bgm blpx bspx bdgx bldx [bkx15, bkx5, bkx40, bkx13, bkx41, bkx1, bkx42] 30000 bkx111 = true := by decide +kernel
theorem bcx111 : bcon bZ bIx bkx111 := bchk_ok bZ_len bzf_ok (List.forall_mem_cons.mpr ⟨bcx15, List.forall_mem_cons.mpr ⟨bcx5, List.forall_mem_cons.mpr ⟨bcx40, List.forall_mem_cons.mpr ⟨bcx13, List.forall_mem_cons.mpr ⟨bcx41, List.forall_mem_cons.mpr ⟨bcx1, List.forall_mem_cons.mpr ⟨bcx42, fun _ q => absurd q List.not_mem_nil⟩⟩⟩⟩⟩⟩⟩) btx111
-- reads: 1535 steps
def bkx112 : bC := (98, [some (.inr [.index 0]), some (.inl (-2147483648, 2147483647))], some (.inl (-1000001, 1)), [(0, 337)], 2, [], [])
theorem btx112 : bchk bzf bIx bmpx bmqx bjn bgm blpx bspx bdgx bldx [bkx1] 30000 bkx112 = true := by decide +kernel
theorem bcx112 : bcon bZ bIx bkx112 := bchk_ok bZ_len bzf_ok (List.forall_mem_cons.mpr ⟨bcx1, fun _ q => absurd q List.not_mem_nil⟩) btx112
-- so: 23 steps
def bkx113 : bC := (99, [some (.inr [.index 0]), some (.inl (-2147483648, 2147483647))], some (.inl (-1000001, 2147483647)), [(0, 337)], 1, [], [])
theorem btx113 : bchk bzf bIx bmpx bmqx bjn bgm blpx bspx bdgx bldx [bkx1] 30000 bkx113 = true := by decide +kernel
theorem bcx113 : bcon bZ bIx bkx113 := bchk_ok bZ_len bzf_ok (List.forall_mem_cons.mpr ⟨bcx1, fun _ q => absurd q List.not_mem_nil⟩) btx113
-- says: 2296 steps
def bkx114 : bC := (100, [some (.inr [.index 0]), some (.inl (-2147483648, 2147483647)), some (.inl (-2147483648, 2147483647))], some (.inl (-1000002, 1)), [(0, 337)], 16, [], [])
theorem btx114 : bchk bzf bIx bmpx bmqx bjn bgm blpx bspx bdgx bldx [bkx43, bkx60, bkx5, bkx13, bkx1, bkx42] 30000 bkx114 = true := by decide +kernel
theorem bcx114 : bcon bZ bIx bkx114 := bchk_ok bZ_len bzf_ok (List.forall_mem_cons.mpr ⟨bcx43, List.forall_mem_cons.mpr ⟨bcx60, List.forall_mem_cons.mpr ⟨bcx5, List.forall_mem_cons.mpr ⟨bcx13, List.forall_mem_cons.mpr ⟨bcx1, List.forall_mem_cons.mpr ⟨bcx42, fun _ q => absurd q List.not_mem_nil⟩⟩⟩⟩⟩⟩) btx114
-- shout: 166 steps
def bkx115 : bC := (101, [some (.inr [.index 0]), some (.inl (-2147483648, 2147483647)), some (.inl (-2147483648, 2147483647))], some (.inl (-2147483648, 2147483647)), [(0, 337)], 4, [], [])
theorem btx115 : bchk bzf bIx bmpx bmqx bjn bgm blpx bspx bdgx bldx [bkx68, bkx1, bkx0] 30000 bkx115 = true := by decide +kernel
theorem bcx115 : bcon bZ bIx bkx115 := bchk_ok bZ_len bzf_ok (List.forall_mem_cons.mpr ⟨bcx68, List.forall_mem_cons.mpr ⟨bcx1, List.forall_mem_cons.mpr ⟨bcx0, fun _ q => absurd q List.not_mem_nil⟩⟩⟩) btx115
-- seconds: 514 steps
def bkx116 : bC := (102, [some (.inr [.index 0]), some (.inl (-2147483648, 2147483647))], some (.inl (-2147483648, 2147483647)), [(0, 337)], 5, [], [])
theorem btx116 : bchk bzf bIx bmpx bmqx bjn bgm blpx bspx bdgx bldx [bkx69, bkx1, bkx29] 30000 bkx116 = true := by decide +kernel
theorem bcx116 : bcon bZ bIx bkx116 := bchk_ok bZ_len bzf_ok (List.forall_mem_cons.mpr ⟨bcx69, List.forall_mem_cons.mpr ⟨bcx1, List.forall_mem_cons.mpr ⟨bcx29, fun _ q => absurd q List.not_mem_nil⟩⟩⟩) btx116
-- log: 40 steps
def bkx117 : bC := (103, [some (.inr [.index 0]), some (.inl (-2147483648, 2147483647)), some (.inl (-2147483648, 2147483647))], some (.inl (-2147483648, 2147483647)), [(0, 337)], 2, [], [])
theorem btx117 : bchk bzf bIx bmpx bmqx bjn bgm blpx bspx bdgx bldx [bkx42, bkx70] 30000 bkx117 = true := by decide +kernel
theorem bcx117 : bcon bZ bIx bkx117 := bchk_ok bZ_len bzf_ok (List.forall_mem_cons.mpr ⟨bcx42, List.forall_mem_cons.mpr ⟨bcx70, fun _ q => absurd q List.not_mem_nil⟩⟩) btx117
-- bargain: 147 steps
def bkx118 : bC := (104, [some (.inr [.index 0]), some (.inl (-2147483648, 2147483647)), some (.inl (-2147483648, 2147483647)), some (.inl (-2147483648, 2147483647)), some (.inl (-2147483648, 2147483647)), some (.inl (-2147483648, 2147483647))], some (.inl (-1000002, 2147483647)), [(0, 337)], 6, [], [])
theorem btx118 : bchk bzf bIx bmpx bmqx bjn bgm blpx bspx bdgx bldx [bkx82, bkx5, bkx40, bkx1, bkx42] 30000 bkx118 = true := by decide +kernel
theorem bcx118 : bcon bZ bIx bkx118 := bchk_ok bZ_len bzf_ok (List.forall_mem_cons.mpr ⟨bcx82, List.forall_mem_cons.mpr ⟨bcx5, List.forall_mem_cons.mpr ⟨bcx40, List.forall_mem_cons.mpr ⟨bcx1, List.forall_mem_cons.mpr ⟨bcx42, fun _ q => absurd q List.not_mem_nil⟩⟩⟩⟩⟩) btx118
-- seed: 10 steps
def bkx119 : bC := (105, [some (.inr [.index 0]), some (.inl (-2147483648, 2147483647))], some (.inl (-2147483648, 2147483647)), [(0, 337)], 0, [], [])
theorem btx119 : bchk bzf bIx bmpx bmqx bjn bgm blpx bspx bdgx bldx [] 30000 bkx119 = true := by decide +kernel
theorem bcx119 : bcon bZ bIx bkx119 := bchk_ok bZ_len bzf_ok (fun _ q => absurd q List.not_mem_nil) btx119
-- body: 16 steps
def bkx120 : bC := (107, [some (.inr [.index 0]), some (.inl (-2147483648, 2147483647))], some (.inl (-1000002, -1000002)), [(0, 337)], 1, [], [])
theorem btx120 : bchk bzf bIx bmpx bmqx bjn bgm blpx bspx bdgx bldx [bkx42] 30000 bkx120 = true := by decide +kernel
theorem bcx120 : bcon bZ bIx bkx120 := bchk_ok bZ_len bzf_ok (List.forall_mem_cons.mpr ⟨bcx42, fun _ q => absurd q List.not_mem_nil⟩) btx120
-- sheet: 168 steps
def bkx121 : bC := (108, [some (.inr [.index 0]), some (.inl (-2147483648, 2147483647)), some (.inl (-2147483648, 2147483647)), some (.inl (-2147483648, 2147483647))], some (.inl (-1000003, 1)), [(0, 337)], 1, [], [])
theorem btx121 : bchk bzf bIx bmpx bmqx bjn bgm blpx bspx bdgx bldx [bkx83, bkx84, bkx85, bkx86, bkx1, bkx29] 30000 bkx121 = true := by decide +kernel
theorem bcx121 : bcon bZ bIx bkx121 := bchk_ok bZ_len bzf_ok (List.forall_mem_cons.mpr ⟨bcx83, List.forall_mem_cons.mpr ⟨bcx84, List.forall_mem_cons.mpr ⟨bcx85, List.forall_mem_cons.mpr ⟨bcx86, List.forall_mem_cons.mpr ⟨bcx1, List.forall_mem_cons.mpr ⟨bcx29, fun _ q => absurd q List.not_mem_nil⟩⟩⟩⟩⟩⟩) btx121
