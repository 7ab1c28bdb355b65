-- ===== contracts
-- feed: 361 steps
def bkx98 : bC := (84, [some (.inr [.index 0]), none, some (.inl (-2147483648, 2147483647))], some (.inl (-1000004, 60)), [(0, 337)], 1, [], [])
theorem btx98 : bchk bZ bIx bmpx bmqx bjn bgm blpx bspx bdgx bldx [bkx1, bkx0] 30000 bkx98 = true := by decide +kernel
theorem bcx98 : bcon bZ bIx bkx98 := bchk_ok bZ_len (List.forall_mem_cons.mpr ⟨bcx1, List.forall_mem_cons.mpr ⟨bcx0, fun _ q => absurd q List.not_mem_nil⟩⟩) btx98
-- untell: 57 steps
def bkx99 : bC := (86, [some (.inr [.index 0]), some (.inl (-2147483648, 2147483647))], some (.inl (-1000001, 0)), [(0, 337)], 1, [], [])
theorem btx99 : bchk bZ bIx bmpx bmqx bjn bgm blpx bspx bdgx bldx [bkx1] 30000 bkx99 = true := by decide +kernel
theorem bcx99 : bcon bZ bIx bkx99 := bchk_ok bZ_len (List.forall_mem_cons.mpr ⟨bcx1, fun _ q => absurd q List.not_mem_nil⟩) btx99
-- heard: 51 steps
def bkx100 : bC := (87, [some (.inr [.index 0]), some (.inl (-2147483648, 2147483647)), some (.inl (-2147483648, 2147483647)), some (.inl (-2147483648, 2147483647))], some (.inl (-2147483648, 2147483647)), [(0, 337)], 4, [], [])
theorem btx100 : bchk bZ bIx bmpx bmqx bjn bgm blpx bspx bdgx bldx [bkx1, bkx5, bkx13, bkx14] 30000 bkx100 = true := by decide +kernel
theorem bcx100 : bcon bZ bIx bkx100 := bchk_ok bZ_len (List.forall_mem_cons.mpr ⟨bcx1, List.forall_mem_cons.mpr ⟨bcx5, List.forall_mem_cons.mpr ⟨bcx13, List.forall_mem_cons.mpr ⟨bcx14, fun _ q => absurd q List.not_mem_nil⟩⟩⟩⟩) btx100
-- self: 59 steps
def bkx101 : bC := (88, [some (.inr [.index 0]), some (.inl (-2147483648, 2147483647)), some (.inl (-2147483648, 2147483647))], some (.inl (-1000001, 1)), [(0, 337)], 4, [], [])
theorem btx101 : bchk bZ bIx bmpx bmqx bjn bgm blpx bspx bdgx bldx [bkx1, bkx5, bkx13, bkx16] 30000 bkx101 = true := by decide +kernel
theorem bcx101 : bcon bZ bIx bkx101 := bchk_ok bZ_len (List.forall_mem_cons.mpr ⟨bcx1, List.forall_mem_cons.mpr ⟨bcx5, List.forall_mem_cons.mpr ⟨bcx13, List.forall_mem_cons.mpr ⟨bcx16, fun _ q => absurd q List.not_mem_nil⟩⟩⟩⟩) btx101
-- takes: 102 steps
def bkx102 : bC := (89, [some (.inr [.index 0]), some (.inl (-2147483648, 2147483647))], some (.inl (-1000001, 80)), [(0, 337)], 2, [], [])
theorem btx102 : bchk bZ bIx bmpx bmqx bjn bgm blpx bspx bdgx bldx [bkx5, bkx1] 30000 bkx102 = true := by decide +kernel
theorem bcx102 : bcon bZ bIx bkx102 := bchk_ok bZ_len (List.forall_mem_cons.mpr ⟨bcx5, List.forall_mem_cons.mpr ⟨bcx1, fun _ q => absurd q List.not_mem_nil⟩⟩) btx102
-- echo: 295 steps
def bkx103 : bC := (90, [some (.inr [.index 0]), some (.inl (-2147483648, 2147483647)), some (.inl (-2147483648, 2147483647)), some (.inl (-2147483648, 2147483647))], some (.inl (-1000001, 12)), [(0, 337)], 4, [], [])
theorem btx103 : bchk bZ bIx bmpx bmqx bjn bgm blpx bspx bdgx bldx [bkx1, bkx5, bkx13] 30000 bkx103 = true := by decide +kernel
theorem bcx103 : bcon bZ bIx bkx103 := bchk_ok bZ_len (List.forall_mem_cons.mpr ⟨bcx1, List.forall_mem_cons.mpr ⟨bcx5, List.forall_mem_cons.mpr ⟨bcx13, fun _ q => absurd q List.not_mem_nil⟩⟩⟩) btx103
-- which: 57 steps
def bkx104 : bC := (91, [some (.inr [.index 0]), some (.inl (-2147483648, 2147483647)), some (.inl (-2147483648, 2147483647))], some (.inl (-2147483648, 2147483647)), [(0, 337)], 4, [], [])
theorem btx104 : bchk bZ bIx bmpx bmqx bjn bgm blpx bspx bdgx bldx [bkx1, bkx17] 30000 bkx104 = true := by decide +kernel
theorem bcx104 : bcon bZ bIx bkx104 := bchk_ok bZ_len (List.forall_mem_cons.mpr ⟨bcx1, List.forall_mem_cons.mpr ⟨bcx17, fun _ q => absurd q List.not_mem_nil⟩⟩) btx104
-- ways: 71 steps
def bkx105 : bC := (92, [some (.inr [.index 0]), some (.inl (-2147483648, 2147483647)), some (.inl (-2147483648, 2147483647)), some (.inl (-2147483648, 2147483647))], some (.inl (-1000001, 585)), [(0, 337)], 6, [], [])
theorem btx105 : bchk bZ bIx bmpx bmqx bjn bgm blpx bspx bdgx bldx [bkx1, bkx28] 30000 bkx105 = true := by decide +kernel
theorem bcx105 : bcon bZ bIx bkx105 := bchk_ok bZ_len (List.forall_mem_cons.mpr ⟨bcx1, List.forall_mem_cons.mpr ⟨bcx28, fun _ q => absurd q List.not_mem_nil⟩⟩) btx105
-- need: 856 steps
def bkx106 : bC := (93, [some (.inr [.index 0]), some (.inl (-2147483648, 2147483647)), some (.inl (-2147483648, 2147483647)), some (.inl (-2147483648, 2147483647))], some (.inl (-2147483648, 2147483647)), [(0, 337)], 3, [], [])
theorem btx106 : bchk bZ bIx bmpx bmqx bjn bgm blpx bspx bdgx bldx [bkx1, bkx5, bkx14, bkx29, bkx12] 30000 bkx106 = true := by decide +kernel
theorem bcx106 : bcon bZ bIx bkx106 := bchk_ok bZ_len (List.forall_mem_cons.mpr ⟨bcx1, List.forall_mem_cons.mpr ⟨bcx5, List.forall_mem_cons.mpr ⟨bcx14, List.forall_mem_cons.mpr ⟨bcx29, List.forall_mem_cons.mpr ⟨bcx12, fun _ q => absurd q List.not_mem_nil⟩⟩⟩⟩⟩) btx106
-- meant: 1840 steps
def bkx107 : bC := (94, [some (.inr [.index 0]), some (.inl (-2147483648, 2147483647)), some (.inl (-2147483648, 2147483647))], some (.inl (-1000001, 73)), [(0, 337)], 5, [], [])
theorem btx107 : bchk bZ bIx bmpx bmqx bjn bgm blpx bspx bdgx bldx [bkx1, bkx30, bkx39] 30000 bkx107 = true := by decide +kernel
theorem bcx107 : bcon bZ bIx bkx107 := bchk_ok bZ_len (List.forall_mem_cons.mpr ⟨bcx1, List.forall_mem_cons.mpr ⟨bcx30, List.forall_mem_cons.mpr ⟨bcx39, fun _ q => absurd q List.not_mem_nil⟩⟩⟩) btx107
-- safe: 51 steps
def bkx108 : bC := (96, [some (.inr [.index 0]), some (.inl (-2147483648, 2147483647)), some (.inl (-2147483648, 2147483647))], some (.inl (-2147483648, 2147483647)), [(0, 337)], 4, [], [])
theorem btx108 : bchk bZ bIx bmpx bmqx bjn bgm blpx bspx bdgx bldx [bkx1, bkx4, bkx17] 30000 bkx108 = true := by decide +kernel
theorem bcx108 : bcon bZ bIx bkx108 := bchk_ok bZ_len (List.forall_mem_cons.mpr ⟨bcx1, List.forall_mem_cons.mpr ⟨bcx4, List.forall_mem_cons.mpr ⟨bcx17, fun _ q => absurd q List.not_mem_nil⟩⟩⟩) btx108
-- part: 82 steps
def bkx109 : bC := (97, [some (.inr [.index 0]), some (.inl (-2147483648, 2147483647)), some (.inl (-2147483648, 2147483647)), some (.inl (-2147483648, 2147483647))], some (.inl (-1000002, 12)), [(0, 337)], 4, [], [])
theorem btx109 : bchk bZ bIx bmpx bmqx bjn bgm blpx bspx bdgx bldx [bkx1, bkx5, bkx40, bkx13, bkx41, bkx15, bkx42] 30000 bkx109 = true := by decide +kernel
theorem bcx109 : bcon bZ bIx bkx109 := bchk_ok bZ_len (List.forall_mem_cons.mpr ⟨bcx1, List.forall_mem_cons.mpr ⟨bcx5, List.forall_mem_cons.mpr ⟨bcx40, List.forall_mem_cons.mpr ⟨bcx13, List.forall_mem_cons.mpr ⟨bcx41, List.forall_mem_cons.mpr ⟨bcx15, List.forall_mem_cons.mpr ⟨bcx42, fun _ q => absurd q List.not_mem_nil⟩⟩⟩⟩⟩⟩⟩) btx109
-- reads: 1535 steps
def bkx110 : bC := (98, [some (.inr [.index 0]), some (.inl (-2147483648, 2147483647))], some (.inl (-1000001, 1)), [(0, 337)], 2, [], [])
theorem btx110 : bchk bZ bIx bmpx bmqx bjn bgm blpx bspx bdgx bldx [bkx1] 30000 bkx110 = true := by decide +kernel
theorem bcx110 : bcon bZ bIx bkx110 := bchk_ok bZ_len (List.forall_mem_cons.mpr ⟨bcx1, fun _ q => absurd q List.not_mem_nil⟩) btx110
-- so: 23 steps
def bkx111 : bC := (99, [some (.inr [.index 0]), some (.inl (-2147483648, 2147483647))], some (.inl (-1000001, 2147483647)), [(0, 337)], 1, [], [])
theorem btx111 : bchk bZ bIx bmpx bmqx bjn bgm blpx bspx bdgx bldx [bkx1] 30000 bkx111 = true := by decide +kernel
theorem bcx111 : bcon bZ bIx bkx111 := bchk_ok bZ_len (List.forall_mem_cons.mpr ⟨bcx1, fun _ q => absurd q List.not_mem_nil⟩) btx111
