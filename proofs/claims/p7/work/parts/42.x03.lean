-- ===== contracts
-- leaveOutEach: 266 steps
def bkx65 : bC := (46, [some (.inr [.index 17, .index 19, .index 21, .index 23, .index 25, .index 27, .index 29, .index 31]), some (.inl (0, 32))], none, [(17, 32)], 0, [], [])
theorem btx65 : bchk bZ bIx bmpx bmqx bjn bgm blpx bspx bdgx bldx [] 30000 bkx65 = true := by decide +kernel
theorem bcx65 : bcon bZ bIx bkx65 := bchk_ok bZ_len (fun _ q => absurd q List.not_mem_nil) btx65
-- turnByText: 15 steps
def bkx66 : bC := (67, [some (.inr [.index 1]), some (.inr [.index 17, .index 19, .index 21, .index 23, .index 25, .index 27, .index 29, .index 31]), some (.inl (0, 20))], none, [], 1, [], [])
theorem btx66 : bchk bZ bIx bmpx bmqx bjn bgm blpx bspx bdgx bldx [] 30000 bkx66 = true := by decide +kernel
theorem bcx66 : bcon bZ bIx bkx66 := bchk_ok bZ_len (fun _ q => absurd q List.not_mem_nil) btx66
-- sendBack: 36 steps
def bkx67 : bC := (66, [some (.inr [.index 1]), some (.inr [.index 58, .index 59, .index 60, .index 61, .index 62, .index 63, .index 64, .index 65]), some (.inr [.index 17, .index 19, .index 21, .index 23, .index 25, .index 27, .index 29, .index 31])], none, [(17, 32)], 2, [], [])
theorem btx67 : bchk bZ bIx bmpx bmqx bjn bgm blpx bspx bdgx bldx [bkx61, bkx62, bkx63, bkx64, bkx65, bkx66] 30000 bkx67 = true := by decide +kernel
theorem bcx67 : bcon bZ bIx bkx67 := bchk_ok bZ_len (List.forall_mem_cons.mpr ⟨bcx61, List.forall_mem_cons.mpr ⟨bcx62, List.forall_mem_cons.mpr ⟨bcx63, List.forall_mem_cons.mpr ⟨bcx64, List.forall_mem_cons.mpr ⟨bcx65, List.forall_mem_cons.mpr ⟨bcx66, fun _ q => absurd q List.not_mem_nil⟩⟩⟩⟩⟩⟩) btx67
-- logEcho: 184 steps
def bkx68 : bC := (69, [some (.inr [.index 1]), some (.inl (0, 11)), some (.inl (0, 7))], none, [(15, 15), (17, 32)], 3, [], [])
theorem btx68 : bchk bZ bIx bmpx bmqx bjn bgm blpx bspx bdgx bldx [bkx67] 30000 bkx68 = true := by decide +kernel
theorem bcx68 : bcon bZ bIx bkx68 := bchk_ok bZ_len (List.forall_mem_cons.mpr ⟨bcx67, fun _ q => absurd q List.not_mem_nil⟩) btx68
-- letSecondGoBy: 1227 steps
def bkx69 : bC := (71, [some (.inr [.index 1])], none, [(1, 1), (9, 15), (17, 32)], 4, [], [])
theorem btx69 : bchk bZ bIx bmpx bmqx bjn bgm blpx bspx bdgx bldx [bkx68] 30000 bkx69 = true := by decide +kernel
theorem bcx69 : bcon bZ bIx bkx69 := bchk_ok bZ_len (List.forall_mem_cons.mpr ⟨bcx68, fun _ q => absurd q List.not_mem_nil⟩) btx69
-- soundOrSize: 29 steps
def bkx70 : bC := (119, [some (.inr [.index 0]), some (.inr [.index 17, .index 19, .index 21, .index 23, .index 25, .index 27, .index 29, .index 31]), some (.inl (-2147483648, 2147483647))], some (.inl (-2147483648, 2147483647)), [(323, 323)], 1, [], [])
theorem btx70 : bchk bZ bIx bmpx bmqx bjn bgm blpx bspx bdgx bldx [bkx1] 30000 bkx70 = true := by decide +kernel
theorem bcx70 : bcon bZ bIx bkx70 := bchk_ok bZ_len (List.forall_mem_cons.mpr ⟨bcx1, fun _ q => absurd q List.not_mem_nil⟩) btx70
-- sayNay: 50 steps
def bkx71 : bC := (43, [some (.inr [.index 308]), some (.inl (0, 0))], none, [(309, 309)], 1, [], [])
theorem btx71 : bchk bZ bIx bmpx bmqx bjn bgm blpx bspx bdgx bldx [bkx3] 30000 bkx71 = true := by decide +kernel
theorem bcx71 : bcon bZ bIx bkx71 := bchk_ok bZ_len (List.forall_mem_cons.mpr ⟨bcx3, fun _ q => absurd q List.not_mem_nil⟩) btx71
-- sayNay: 45 steps
def bkx72 : bC := (43, [some (.inr [.index 308]), some (.inl (1, 1))], none, [], 1, [], [])
theorem btx72 : bchk bZ bIx bmpx bmqx bjn bgm blpx bspx bdgx bldx [] 30000 bkx72 = true := by decide +kernel
theorem bcx72 : bcon bZ bIx bkx72 := bchk_ok bZ_len (fun _ q => absurd q List.not_mem_nil) btx72
-- turnNumbers: 41 steps
def bkx73 : bC := (44, [some (.inr [.index 308])], none, [(309, 309)], 1, [], [])
theorem btx73 : bchk bZ bIx bmpx bmqx bjn bgm blpx bspx bdgx bldx [bkx3] 30000 bkx73 = true := by decide +kernel
theorem bcx73 : bcon bZ bIx bkx73 := bchk_ok bZ_len (List.forall_mem_cons.mpr ⟨bcx3, fun _ q => absurd q List.not_mem_nil⟩) btx73
-- turnRound: 11 steps
def bkx74 : bC := (45, [some (.inr [.index 308])], none, [], 0, [], [])
theorem btx74 : bchk bZ bIx bmpx bmqx bjn bgm blpx bspx bdgx bldx [] 30000 bkx74 = true := by decide +kernel
theorem bcx74 : bcon bZ bIx bkx74 := bchk_ok bZ_len (fun _ q => absurd q List.not_mem_nil) btx74
-- leaveOutEach: 35 steps
def bkx75 : bC := (46, [some (.inr [.index 308]), some (.inl (0, 32))], none, [(308, 309)], 0, [], [])
theorem btx75 : bchk bZ bIx bmpx bmqx bjn bgm blpx bspx bdgx bldx [] 30000 bkx75 = true := by decide +kernel
theorem bcx75 : bcon bZ bIx bkx75 := bchk_ok bZ_len (fun _ q => absurd q List.not_mem_nil) btx75
-- turnByText: 15 steps
def bkx76 : bC := (67, [some (.inr [.index 1]), some (.inr [.index 308]), some (.inl (0, 20))], none, [], 1, [], [])
theorem btx76 : bchk bZ bIx bmpx bmqx bjn bgm blpx bspx bdgx bldx [] 30000 bkx76 = true := by decide +kernel
theorem bcx76 : bcon bZ bIx bkx76 := bchk_ok bZ_len (fun _ q => absurd q List.not_mem_nil) btx76
-- sendBack: 36 steps
def bkx77 : bC := (66, [some (.inr [.index 1]), some (.inr [.index 58, .index 59, .index 60, .index 61, .index 62, .index 63, .index 64, .index 65]), some (.inr [.index 308])], none, [(308, 309)], 2, [], [])
theorem btx77 : bchk bZ bIx bmpx bmqx bjn bgm blpx bspx bdgx bldx [bkx71, bkx72, bkx73, bkx74, bkx75, bkx76] 30000 bkx77 = true := by decide +kernel
theorem bcx77 : bcon bZ bIx bkx77 := bchk_ok bZ_len (List.forall_mem_cons.mpr ⟨bcx71, List.forall_mem_cons.mpr ⟨bcx72, List.forall_mem_cons.mpr ⟨bcx73, List.forall_mem_cons.mpr ⟨bcx74, List.forall_mem_cons.mpr ⟨bcx75, List.forall_mem_cons.mpr ⟨bcx76, fun _ q => absurd q List.not_mem_nil⟩⟩⟩⟩⟩⟩) btx77
-- hear: 92 steps
def bkx78 : bC := (68, [some (.inr [.index 1]), some (.inr [.index 306]), some (.inr [.index 314]), some (.inr [.index 308])], none, [(308, 309)], 3, [], [])
theorem btx78 : bchk bZ bIx bmpx bmqx bjn bgm blpx bspx bdgx bldx [bkx77] 30000 bkx78 = true := by decide +kernel
theorem bcx78 : bcon bZ bIx bkx78 := bchk_ok bZ_len (List.forall_mem_cons.mpr ⟨bcx77, fun _ q => absurd q List.not_mem_nil⟩) btx78
-- numberHeard: 77 steps
def bkx79 : bC := (3, [some (.inr [.index 305]), some (.inr [.index 1]), some (.inl (-20, 2147483647)), some (.inr [.index 314]), some (.inl (-20, 80))], some (.inl (-20, 80)), [(306, 309)], 4, [], [])
theorem btx79 : bchk bZ bIx bmpx bmqx bjn bgm blpx bspx bdgx bldx [bkx78] 30000 bkx79 = true := by decide +kernel
theorem bcx79 : bcon bZ bIx bkx79 := bchk_ok bZ_len (List.forall_mem_cons.mpr ⟨bcx78, fun _ q => absurd q List.not_mem_nil⟩) btx79
-- hear: 92 steps
def bkx80 : bC := (68, [some (.inr [.index 1]), some (.inr [.index 306]), some (.inr [.index 316]), some (.inr [.index 308])], none, [(308, 309)], 3, [], [])
theorem btx80 : bchk bZ bIx bmpx bmqx bjn bgm blpx bspx bdgx bldx [bkx77] 30000 bkx80 = true := by decide +kernel
theorem bcx80 : bcon bZ bIx bkx80 := bchk_ok bZ_len (List.forall_mem_cons.mpr ⟨bcx77, fun _ q => absurd q List.not_mem_nil⟩) btx80
-- numberHeard: 77 steps
def bkx81 : bC := (3, [some (.inr [.index 305]), some (.inr [.index 1]), some (.inl (-20, 80)), some (.inr [.index 316]), some (.inl (-20, 2147483647))], some (.inl (-20, 2147483647)), [(306, 309)], 4, [], [])
theorem btx81 : bchk bZ bIx bmpx bmqx bjn bgm blpx bspx bdgx bldx [bkx80] 30000 bkx81 = true := by decide +kernel
theorem bcx81 : bcon bZ bIx bkx81 := bchk_ok bZ_len (List.forall_mem_cons.mpr ⟨bcx80, fun _ q => absurd q List.not_mem_nil⟩) btx81
-- goOn: 220 steps
def bkx82 : bC := (2, [some (.inr [.index 305]), some (.inr [.index 1]), some (.inr [.index 314]), some (.inr [.index 316]), some (.inl (1, 60))], none, [(305, 309)], 5, [], [])
theorem btx82 : bchk bZ bIx bmpx bmqx bjn bgm blpx bspx bdgx bldx [bkx79, bkx81] 30000 bkx82 = true := by decide +kernel
theorem bcx82 : bcon bZ bIx bkx82 := bchk_ok bZ_len (List.forall_mem_cons.mpr ⟨bcx79, List.forall_mem_cons.mpr ⟨bcx81, fun _ q => absurd q List.not_mem_nil⟩⟩) btx82
-- layOut: 21 steps
def bkx83 : bC := (49, [some (.inr [.index 324, .index 326, .index 328, .index 330]), some (.inl (0, 0)), some (.inl (0, 0))], none, [(324, 331)], 0, [], [])
theorem btx83 : bchk bZ bIx bmpx bmqx bjn bgm blpx bspx bdgx bldx [] 30000 bkx83 = true := by decide +kernel
theorem bcx83 : bcon bZ bIx bkx83 := bchk_ok bZ_len (fun _ q => absurd q List.not_mem_nil) btx83
-- layOut: 21 steps
def bkx84 : bC := (49, [some (.inr [.index 324, .index 326, .index 328, .index 330]), some (.inl (8, 8)), some (.inl (0, 24))], none, [(324, 331)], 0, [], [])
theorem btx84 : bchk bZ bIx bmpx bmqx bjn bgm blpx bspx bdgx bldx [] 30000 bkx84 = true := by decide +kernel
theorem bcx84 : bcon bZ bIx bkx84 := bchk_ok bZ_len (fun _ q => absurd q List.not_mem_nil) btx84
-- layOut: 21 steps
def bkx85 : bC := (49, [some (.inr [.index 324, .index 326, .index 328, .index 330]), some (.inl (16, 16)), some (.inl (0, 24))], none, [(324, 331)], 0, [], [])
theorem btx85 : bchk bZ bIx bmpx bmqx bjn bgm blpx bspx bdgx bldx [] 30000 bkx85 = true := by decide +kernel
theorem bcx85 : bcon bZ bIx bkx85 := bchk_ok bZ_len (fun _ q => absurd q List.not_mem_nil) btx85
-- layOut: 21 steps
def bkx86 : bC := (49, [some (.inr [.index 324, .index 326, .index 328, .index 330]), some (.inl (30, 39)), some (.inl (0, 24))], none, [(324, 331)], 0, [], [])
theorem btx86 : bchk bZ bIx bmpx bmqx bjn bgm blpx bspx bdgx bldx [] 30000 bkx86 = true := by decide +kernel
theorem bcx86 : bcon bZ bIx bkx86 := bchk_ok bZ_len (fun _ q => absurd q List.not_mem_nil) btx86
-- error: 12 steps
def bkx87 : bC := (118, [some (.inr [.index 0]), some (.inl (5, 5))], some (.inl (-1000005, -1000005)), [(323, 323)], 0, [], [])
theorem btx87 : bchk bZ bIx bmpx bmqx bjn bgm blpx bspx bdgx bldx [] 30000 bkx87 = true := by decide +kernel
theorem bcx87 : bcon bZ bIx bkx87 := bchk_ok bZ_len (fun _ q => absurd q List.not_mem_nil) btx87
-- firstUnlike: 333 steps
def bkx88 : bC := (40, [some (.inr [.index 7]), some (.inr [.index 100, .index 102, .index 104, .index 107, .index 109, .index 111, .index 113, .index 115, .index 117, .index 119, .index 121, .index 123, .index 125, .index 127, .index 129, .index 153, .index 157, .index 159, .index 161, .index 163, .index 165, .index 167, .index 169, .index 17, .index 171, .index 173, .index 175, .index 177, .index 179, .index 181, .index 183, .index 185, .index 187, .index 189, .index 19, .index 191, .index 193, .index 195, .index 197, .index 199, .index 201, .index 203, .index 205, .index 207, .index 209, .index 21, .index 211, .index 213, .index 215, .index 217, .index 219, .index 221, .index 223, .index 225, .index 227, .index 229, .index 23, .index 231, .index 233, .index 235, .index 237, .index 239, .index 241, .index 243, .index 245, .index 247, .index 249, .index 25, .index 251, .index 253, .index 255, .index 257, .index 259, .index 261, .index 263, .index 265, .index 267, .index 269, .index 27, .index 271, .index 273, .index 275, .index 277, .index 279, .index 281, .index 283, .index 285, .index 287, .index 289, .index 29, .index 291, .index 293, .index 295, .index 297, .index 299, .index 301, .index 303, .index 306, .index 308, .index 31, .index 318, .index 320, .index 332, .index 334, .index 336, .index 34, .index 36, .index 38, .index 40, .index 42, .index 44, .index 46, .index 48, .index 50, .index 52, .index 54, .index 56, .index 90, .index 92, .index 94, .index 96, .index 98])], some (.inl (-1, 12)), [], 0, [], [])
theorem btx88 : bchk bZ bIx bmpx bmqx bjn bgm blpx bspx bdgx bldx [] 30000 bkx88 = true := by decide +kernel
theorem bcx88 : bcon bZ bIx bkx88 := bchk_ok bZ_len (fun _ q => absurd q List.not_mem_nil) btx88
-- call: 78 steps
def bkx89 : bC := (74, [some (.inr [.index 0])], some (.inl (-1000004, 11)), [(0, 337)], 1, [], [])
theorem btx89 : bchk bZ bIx bmpx bmqx bjn bgm blpx bspx bdgx bldx [bkx0] 30000 bkx89 = true := by decide +kernel
theorem bcx89 : bcon bZ bIx bkx89 := bchk_ok bZ_len (List.forall_mem_cons.mpr ⟨bcx0, fun _ q => absurd q List.not_mem_nil⟩) btx89
-- sound: 335 steps
def bkx90 : bC := (75, [some (.inr [.index 0]), some (.inl (-2147483648, 2147483647)), some (.inl (-2147483648, 2147483647))], some (.inl (-1000004, 12)), [(0, 337)], 1, [], [])
theorem btx90 : bchk bZ bIx bmpx bmqx bjn bgm blpx bspx bdgx bldx [bkx1, bkx0] 30000 bkx90 = true := by decide +kernel
theorem bcx90 : bcon bZ bIx bkx90 := bchk_ok bZ_len (List.forall_mem_cons.mpr ⟨bcx1, List.forall_mem_cons.mpr ⟨bcx0, fun _ q => absurd q List.not_mem_nil⟩⟩) btx90
-- soundOf: 31 steps
def bkx91 : bC := (76, [some (.inr [.index 0]), some (.inl (-2147483648, 2147483647)), some (.inl (-2147483648, 2147483647))], some (.inl (-2147483648, 2147483647)), [(0, 337)], 2, [], [])
theorem btx91 : bchk bZ bIx bmpx bmqx bjn bgm blpx bspx bdgx bldx [bkx1, bkx2] 30000 bkx91 = true := by decide +kernel
theorem bcx91 : bcon bZ bIx bkx91 := bchk_ok bZ_len (List.forall_mem_cons.mpr ⟨bcx1, List.forall_mem_cons.mpr ⟨bcx2, fun _ q => absurd q List.not_mem_nil⟩⟩) btx91
-- hush: 83 steps
def bkx92 : bC := (77, [some (.inr [.index 0]), some (.inl (-2147483648, 2147483647))], some (.inl (-1000001, 12)), [(0, 337)], 1, [], [])
theorem btx92 : bchk bZ bIx bmpx bmqx bjn bgm blpx bspx bdgx bldx [bkx1] 30000 bkx92 = true := by decide +kernel
theorem bcx92 : bcon bZ bIx bkx92 := bchk_ok bZ_len (List.forall_mem_cons.mpr ⟨bcx1, fun _ q => absurd q List.not_mem_nil⟩) btx92
-- draw: 1577 steps
def bkx93 : bC := (78, [some (.inr [.index 0]), some (.inl (-2147483648, 2147483647)), some (.inl (-2147483648, 2147483647))], some (.inl (-1000001, 12)), [(0, 337)], 2, [], [])
theorem btx93 : bchk bZ bIx bmpx bmqx bjn bgm blpx bspx bdgx bldx [bkx1, bkx4] 30000 bkx93 = true := by decide +kernel
theorem bcx93 : bcon bZ bIx bkx93 := bchk_ok bZ_len (List.forall_mem_cons.mpr ⟨bcx1, List.forall_mem_cons.mpr ⟨bcx4, fun _ q => absurd q List.not_mem_nil⟩⟩) btx93
-- contrary: 34 steps
def bkx94 : bC := (79, [some (.inr [.index 0]), some (.inl (-2147483648, 2147483647))], some (.inl (-2147483648, 2147483647)), [(0, 337)], 1, [], [])
theorem btx94 : bchk bZ bIx bmpx bmqx bjn bgm blpx bspx bdgx bldx [bkx1, bkx3] 30000 bkx94 = true := by decide +kernel
theorem bcx94 : bcon bZ bIx bkx94 := bchk_ok bZ_len (List.forall_mem_cons.mpr ⟨bcx1, List.forall_mem_cons.mpr ⟨bcx3, fun _ q => absurd q List.not_mem_nil⟩⟩) btx94
-- rock: 75 steps
def bkx95 : bC := (80, [some (.inr [.index 0]), some (.inl (-2147483648, 2147483647)), some (.inl (-2147483648, 2147483647))], some (.inl (-1000004, 7)), [(0, 337)], 1, [], [])
theorem btx95 : bchk bZ bIx bmpx bmqx bjn bgm blpx bspx bdgx bldx [bkx1, bkx0] 30000 bkx95 = true := by decide +kernel
theorem bcx95 : bcon bZ bIx bkx95 := bchk_ok bZ_len (List.forall_mem_cons.mpr ⟨bcx1, List.forall_mem_cons.mpr ⟨bcx0, fun _ q => absurd q List.not_mem_nil⟩⟩) btx95
-- rockIs: 155 steps
def bkx96 : bC := (81, [some (.inr [.index 0]), some (.inl (-2147483648, 2147483647)), some (.inl (-2147483648, 2147483647))], some (.inl (-1000001, 20)), [(0, 337)], 1, [], [])
theorem btx96 : bchk bZ bIx bmpx bmqx bjn bgm blpx bspx bdgx bldx [bkx1] 30000 bkx96 = true := by decide +kernel
theorem bcx96 : bcon bZ bIx bkx96 := bchk_ok bZ_len (List.forall_mem_cons.mpr ⟨bcx1, fun _ q => absurd q List.not_mem_nil⟩) btx96
-- set: 342 steps
def bkx97 : bC := (83, [some (.inr [.index 0]), some (.inl (-2147483648, 2147483647)), some (.inl (-2147483648, 2147483647)), some (.inl (-2147483648, 2147483647))], some (.inl (-1000001, 20)), [(0, 337)], 2, [], [])
theorem btx97 : bchk bZ bIx bmpx bmqx bjn bgm blpx bspx bdgx bldx [bkx1] 30000 bkx97 = true := by decide +kernel
theorem bcx97 : bcon bZ bIx bkx97 := bchk_ok bZ_len (List.forall_mem_cons.mpr ⟨bcx1, fun _ q => absurd q List.not_mem_nil⟩) btx97
