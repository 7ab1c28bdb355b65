-- ===== contracts
-- copyFrom: 1162 steps
def bkx89 : bC := (63, [some (.inr [.index 1]), some (.inr [.index 74])], none, [(1, 1), (5, 15), (17, 32), (34, 65), (67, 68), (71, 72)], 2, [], [])
theorem btx89 : bchk bzf bIx bmpx bmqx bjn bgm blpx bspx bdgx bldx [] 30000 bkx89 = true := by decide +kernel
theorem bcx89 : bcon bZ bIx bkx89 := bchk_ok bZ_len bzf_ok (fun _ q => absurd q List.not_mem_nil) btx89
-- firstUnlike: 333 steps
def bkx90 : bC := (40, [some (.inr [.index 7]), some (.inr [.index 100, .index 102, .index 104, .index 107, .index 109, .index 111, .index 113, .index 115, .index 117, .index 119, .index 121, .index 123, .index 125, .index 127, .index 129, .index 153, .index 157, .index 159, .index 161, .index 163, .index 165, .index 167, .index 169, .index 17, .index 171, .index 173, .index 175, .index 177, .index 179, .index 181, .index 183, .index 185, .index 187, .index 189, .index 19, .index 191, .index 193, .index 195, .index 197, .index 199, .index 201, .index 203, .index 205, .index 207, .index 209, .index 21, .index 211, .index 213, .index 215, .index 217, .index 219, .index 221, .index 223, .index 225, .index 227, .index 229, .index 23, .index 231, .index 233, .index 235, .index 237, .index 239, .index 241, .index 243, .index 245, .index 247, .index 249, .index 25, .index 251, .index 253, .index 255, .index 257, .index 259, .index 261, .index 263, .index 265, .index 267, .index 269, .index 27, .index 271, .index 273, .index 275, .index 277, .index 279, .index 281, .index 283, .index 285, .index 287, .index 289, .index 29, .index 291, .index 293, .index 295, .index 297, .index 299, .index 301, .index 303, .index 306, .index 308, .index 31, .index 318, .index 320, .index 332, .index 334, .index 336, .index 34, .index 36, .index 38, .index 40, .index 42, .index 44, .index 46, .index 48, .index 50, .index 52, .index 54, .index 56, .index 90, .index 92, .index 94, .index 96, .index 98])], some (.inl (-1, 12)), [], 0, [], [])
theorem btx90 : bchk bzf bIx bmpx bmqx bjn bgm blpx bspx bdgx bldx [] 30000 bkx90 = true := by decide +kernel
theorem bcx90 : bcon bZ bIx bkx90 := bchk_ok bZ_len bzf_ok (fun _ q => absurd q List.not_mem_nil) btx90
-- call: 78 steps
def bkx91 : bC := (74, [some (.inr [.index 0])], some (.inl (-1000004, 11)), [(0, 337)], 1, [], [])
theorem btx91 : bchk bzf bIx bmpx bmqx bjn bgm blpx bspx bdgx bldx [bkx0] 30000 bkx91 = true := by decide +kernel
theorem bcx91 : bcon bZ bIx bkx91 := bchk_ok bZ_len bzf_ok (List.forall_mem_cons.mpr ⟨bcx0, fun _ q => absurd q List.not_mem_nil⟩) btx91
-- sound: 335 steps
def bkx92 : bC := (75, [some (.inr [.index 0]), some (.inl (-2147483648, 2147483647)), some (.inl (-2147483648, 2147483647))], some (.inl (-1000004, 12)), [(0, 337)], 1, [], [])
theorem btx92 : bchk bzf bIx bmpx bmqx bjn bgm blpx bspx bdgx bldx [bkx1, bkx0] 30000 bkx92 = true := by decide +kernel
theorem bcx92 : bcon bZ bIx bkx92 := bchk_ok bZ_len bzf_ok (List.forall_mem_cons.mpr ⟨bcx1, List.forall_mem_cons.mpr ⟨bcx0, fun _ q => absurd q List.not_mem_nil⟩⟩) btx92
-- soundOf: 31 steps
def bkx93 : bC := (76, [some (.inr [.index 0]), some (.inl (-2147483648, 2147483647)), some (.inl (-2147483648, 2147483647))], some (.inl (-2147483648, 2147483647)), [(0, 337)], 2, [], [])
theorem btx93 : bchk bzf bIx bmpx bmqx bjn bgm blpx bspx bdgx bldx [bkx1, bkx2] 30000 bkx93 = true := by decide +kernel
theorem bcx93 : bcon bZ bIx bkx93 := bchk_ok bZ_len bzf_ok (List.forall_mem_cons.mpr ⟨bcx1, List.forall_mem_cons.mpr ⟨bcx2, fun _ q => absurd q List.not_mem_nil⟩⟩) btx93
-- hush: 83 steps
def bkx94 : bC := (77, [some (.inr [.index 0]), some (.inl (-2147483648, 2147483647))], some (.inl (-1000001, 12)), [(0, 337)], 1, [], [])
theorem btx94 : bchk bzf bIx bmpx bmqx bjn bgm blpx bspx bdgx bldx [bkx1] 30000 bkx94 = true := by decide +kernel
theorem bcx94 : bcon bZ bIx bkx94 := bchk_ok bZ_len bzf_ok (List.forall_mem_cons.mpr ⟨bcx1, fun _ q => absurd q List.not_mem_nil⟩) btx94
-- draw: 1577 steps
def bkx95 : bC := (78, [some (.inr [.index 0]), some (.inl (-2147483648, 2147483647)), some (.inl (-2147483648, 2147483647))], some (.inl (-1000001, 12)), [(0, 337)], 2, [], [])
theorem btx95 : bchk bzf bIx bmpx bmqx bjn bgm blpx bspx bdgx bldx [bkx4, bkx1] 30000 bkx95 = true := by decide +kernel
theorem bcx95 : bcon bZ bIx bkx95 := bchk_ok bZ_len bzf_ok (List.forall_mem_cons.mpr ⟨bcx4, List.forall_mem_cons.mpr ⟨bcx1, fun _ q => absurd q List.not_mem_nil⟩⟩) btx95
-- contrary: 34 steps
def bkx96 : bC := (79, [some (.inr [.index 0]), some (.inl (-2147483648, 2147483647))], some (.inl (-2147483648, 2147483647)), [(0, 337)], 1, [], [])
theorem btx96 : bchk bzf bIx bmpx bmqx bjn bgm blpx bspx bdgx bldx [bkx1, bkx3] 30000 bkx96 = true := by decide +kernel
theorem bcx96 : bcon bZ bIx bkx96 := bchk_ok bZ_len bzf_ok (List.forall_mem_cons.mpr ⟨bcx1, List.forall_mem_cons.mpr ⟨bcx3, fun _ q => absurd q List.not_mem_nil⟩⟩) btx96
-- rock: 75 steps
def bkx97 : bC := (80, [some (.inr [.index 0]), some (.inl (-2147483648, 2147483647)), some (.inl (-2147483648, 2147483647))], some (.inl (-1000004, 7)), [(0, 337)], 1, [], [])
theorem btx97 : bchk bzf bIx bmpx bmqx bjn bgm blpx bspx bdgx bldx [bkx1, bkx0] 30000 bkx97 = true := by decide +kernel
theorem bcx97 : bcon bZ bIx bkx97 := bchk_ok bZ_len bzf_ok (List.forall_mem_cons.mpr ⟨bcx1, List.forall_mem_cons.mpr ⟨bcx0, fun _ q => absurd q List.not_mem_nil⟩⟩) btx97
-- rockIs: 155 steps
def bkx98 : bC := (81, [some (.inr [.index 0]), some (.inl (-2147483648, 2147483647)), some (.inl (-2147483648, 2147483647))], some (.inl (-1000001, 20)), [(0, 337)], 1, [], [])
theorem btx98 : bchk bzf bIx bmpx bmqx bjn bgm blpx bspx bdgx bldx [bkx1] 30000 bkx98 = true := by decide +kernel
theorem bcx98 : bcon bZ bIx bkx98 := bchk_ok bZ_len bzf_ok (List.forall_mem_cons.mpr ⟨bcx1, fun _ q => absurd q List.not_mem_nil⟩) btx98
-- set: 342 steps
def bkx99 : bC := (83, [some (.inr [.index 0]), some (.inl (-2147483648, 2147483647)), some (.inl (-2147483648, 2147483647)), some (.inl (-2147483648, 2147483647))], some (.inl (-1000001, 20)), [(0, 337)], 2, [], [])
theorem btx99 : bchk bzf bIx bmpx bmqx bjn bgm blpx bspx bdgx bldx [bkx1] 30000 bkx99 = true := by decide +kernel
theorem bcx99 : bcon bZ bIx bkx99 := bchk_ok bZ_len bzf_ok (List.forall_mem_cons.mpr ⟨bcx1, fun _ q => absurd q List.not_mem_nil⟩) btx99
-- feed: 361 steps
def bkx100 : bC := (84, [some (.inr [.index 0]), none, some (.inl (-2147483648, 2147483647))], some (.inl (-1000004, 60)), [(0, 337)], 1, [], [])
theorem btx100 : bchk bzf bIx bmpx bmqx bjn bgm blpx bspx bdgx bldx [bkx1, bkx0] 30000 bkx100 = true := by decide +kernel
theorem bcx100 : bcon bZ bIx bkx100 := bchk_ok bZ_len bzf_ok (List.forall_mem_cons.mpr ⟨bcx1, List.forall_mem_cons.mpr ⟨bcx0, fun _ q => absurd q List.not_mem_nil⟩⟩) btx100
-- untell: 57 steps
def bkx101 : bC := (86, [some (.inr [.index 0]), some (.inl (-2147483648, 2147483647))], some (.inl (-1000001, 0)), [(0, 337)], 1, [], [])
theorem btx101 : bchk bzf bIx bmpx bmqx bjn bgm blpx bspx bdgx bldx [bkx1] 30000 bkx101 = true := by decide +kernel
theorem bcx101 : bcon bZ bIx bkx101 := bchk_ok bZ_len bzf_ok (List.forall_mem_cons.mpr ⟨bcx1, fun _ q => absurd q List.not_mem_nil⟩) btx101
-- heard: 51 steps
def bkx102 : bC := (87, [some (.inr [.index 0]), some (.inl (-2147483648, 2147483647)), some (.inl (-2147483648, 2147483647)), some (.inl (-2147483648, 2147483647))], some (.inl (-2147483648, 2147483647)), [(0, 337)], 4, [], [])
theorem btx102 : bchk bzf bIx bmpx bmqx bjn bgm blpx bspx bdgx bldx [bkx5, bkx13, bkx1, bkx14] 30000 bkx102 = true := by decide +kernel
theorem bcx102 : bcon bZ bIx bkx102 := bchk_ok bZ_len bzf_ok (List.forall_mem_cons.mpr ⟨bcx5, List.forall_mem_cons.mpr ⟨bcx13, List.forall_mem_cons.mpr ⟨bcx1, List.forall_mem_cons.mpr ⟨bcx14, fun _ q => absurd q List.not_mem_nil⟩⟩⟩⟩) btx102
-- self: 59 steps
def bkx103 : bC := (88, [some (.inr [.index 0]), some (.inl (-2147483648, 2147483647)), some (.inl (-2147483648, 2147483647))], some (.inl (-1000001, 1)), [(0, 337)], 4, [], [])
theorem btx103 : bchk bzf bIx bmpx bmqx bjn bgm blpx bspx bdgx bldx [bkx16, bkx5, bkx13, bkx1] 30000 bkx103 = true := by decide +kernel
theorem bcx103 : bcon bZ bIx bkx103 := bchk_ok bZ_len bzf_ok (List.forall_mem_cons.mpr ⟨bcx16, List.forall_mem_cons.mpr ⟨bcx5, List.forall_mem_cons.mpr ⟨bcx13, List.forall_mem_cons.mpr ⟨bcx1, fun _ q => absurd q List.not_mem_nil⟩⟩⟩⟩) btx103
-- takes: 102 steps
def bkx104 : bC := (89, [some (.inr [.index 0]), some (.inl (-2147483648, 2147483647))], some (.inl (-1000001, 80)), [(0, 337)], 2, [], [])
theorem btx104 : bchk bzf bIx bmpx bmqx bjn bgm blpx bspx bdgx bldx [bkx5, bkx1] 30000 bkx104 = true := by decide +kernel
theorem bcx104 : bcon bZ bIx bkx104 := bchk_ok bZ_len bzf_ok (List.forall_mem_cons.mpr ⟨bcx5, List.forall_mem_cons.mpr ⟨bcx1, fun _ q => absurd q List.not_mem_nil⟩⟩) btx104
-- echo: 295 steps
def bkx105 : bC := (90, [some (.inr [.index 0]), some (.inl (-2147483648, 2147483647)), some (.inl (-2147483648, 2147483647)), some (.inl (-2147483648, 2147483647))], some (.inl (-1000001, 12)), [(0, 337)], 4, [], [])
theorem btx105 : bchk bzf bIx bmpx bmqx bjn bgm blpx bspx bdgx bldx [bkx5, bkx13, bkx1] 30000 bkx105 = true := by decide +kernel
theorem bcx105 : bcon bZ bIx bkx105 := bchk_ok bZ_len bzf_ok (List.forall_mem_cons.mpr ⟨bcx5, List.forall_mem_cons.mpr ⟨bcx13, List.forall_mem_cons.mpr ⟨bcx1, fun _ q => absurd q List.not_mem_nil⟩⟩⟩) btx105
-- which: 57 steps
def bkx106 : bC := (91, [some (.inr [.index 0]), some (.inl (-2147483648, 2147483647)), some (.inl (-2147483648, 2147483647))], some (.inl (-2147483648, 2147483647)), [(0, 337)], 4, [], [])
theorem btx106 : bchk bzf bIx bmpx bmqx bjn bgm blpx bspx bdgx bldx [bkx1, bkx17] 30000 bkx106 = true := by decide +kernel
theorem bcx106 : bcon bZ bIx bkx106 := bchk_ok bZ_len bzf_ok (List.forall_mem_cons.mpr ⟨bcx1, List.forall_mem_cons.mpr ⟨bcx17, fun _ q => absurd q List.not_mem_nil⟩⟩) btx106
-- ways: 71 steps
def bkx107 : bC := (92, [some (.inr [.index 0]), some (.inl (-2147483648, 2147483647)), some (.inl (-2147483648, 2147483647)), some (.inl (-2147483648, 2147483647))], some (.inl (-1000001, 585)), [(0, 337)], 6, [], [])
theorem btx107 : bchk bzf bIx bmpx bmqx bjn bgm blpx bspx bdgx bldx [bkx1, bkx28] 30000 bkx107 = true := by decide +kernel
theorem bcx107 : bcon bZ bIx bkx107 := bchk_ok bZ_len bzf_ok (List.forall_mem_cons.mpr ⟨bcx1, List.forall_mem_cons.mpr ⟨bcx28, fun _ q => absurd q List.not_mem_nil⟩⟩) btx107
-- need: 856 steps
def bkx108 : bC := (93, [some (.inr [.index 0]), some (.inl (-2147483648, 2147483647)), some (.inl (-2147483648, 2147483647)), some (.inl (-2147483648, 2147483647))], some (.inl (-2147483648, 2147483647)), [(0, 337)], 3, [], [])
theorem btx108 : bchk bzf bIx bmpx bmqx bjn bgm blpx bspx bdgx bldx [bkx5, bkx12, bkx1, bkx29, bkx14] 30000 bkx108 = true := by decide +kernel
theorem bcx108 : bcon bZ bIx bkx108 := bchk_ok bZ_len bzf_ok (List.forall_mem_cons.mpr ⟨bcx5, List.forall_mem_cons.mpr ⟨bcx12, List.forall_mem_cons.mpr ⟨bcx1, List.forall_mem_cons.mpr ⟨bcx29, List.forall_mem_cons.mpr ⟨bcx14, fun _ q => absurd q List.not_mem_nil⟩⟩⟩⟩⟩) btx108
