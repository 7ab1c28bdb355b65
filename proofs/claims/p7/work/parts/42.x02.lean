-- ===== contracts
-- addIfUnlike: 1348 steps
def bkx38 : bC := (18, [some (.inr [.index 155]), some (.inr [.index 157, .index 159, .index 161, .index 163, .index 165, .index 167, .index 169, .index 171, .index 173, .index 175, .index 177, .index 179, .index 181, .index 183, .index 185, .index 187, .index 189, .index 191, .index 193, .index 195, .index 197, .index 199, .index 201, .index 203, .index 205, .index 207, .index 209, .index 211, .index 213, .index 215, .index 217, .index 219, .index 221, .index 223, .index 225, .index 227, .index 229, .index 231, .index 233, .index 235, .index 237, .index 239, .index 241, .index 243, .index 245, .index 247, .index 249, .index 251, .index 253, .index 255, .index 257, .index 259, .index 261, .index 263, .index 265, .index 267, .index 269, .index 271, .index 273, .index 275, .index 277, .index 279, .index 281, .index 283, .index 285, .index 287, .index 289, .index 291, .index 293, .index 295, .index 297, .index 299, .index 301, .index 303])], none, [(155, 155), (159, 304)], 2, [], [])
theorem btx38 : bchk bZ bIx bmpx bmqx bjn bgm blpx bspx bdgx bldx [bkx16] 30000 bkx38 = true := by decide +kernel
theorem bcx38 : bcon bZ bIx bkx38 := bchk_ok bZ_len (List.forall_mem_cons.mpr ⟨bcx16, fun _ q => absurd q List.not_mem_nil⟩) btx38
-- addUndone: 543 steps
def bkx39 : bC := (17, [some (.inr [.index 155]), some (.inr [.index 1]), some (.inr [.index 157, .index 159, .index 161, .index 163, .index 165, .index 167, .index 169, .index 171, .index 173, .index 175, .index 177, .index 179, .index 181, .index 183, .index 185, .index 187, .index 189, .index 191, .index 193, .index 195, .index 197, .index 199, .index 201, .index 203, .index 205, .index 207, .index 209, .index 211, .index 213, .index 215, .index 217, .index 219, .index 221, .index 223, .index 225, .index 227, .index 229, .index 231, .index 233, .index 235, .index 237, .index 239, .index 241, .index 243, .index 245, .index 247, .index 249, .index 251, .index 253, .index 255, .index 257, .index 259, .index 261, .index 263, .index 265, .index 267, .index 269, .index 271, .index 273, .index 275, .index 277, .index 279, .index 281, .index 283, .index 285, .index 287, .index 289, .index 291, .index 293, .index 295, .index 297, .index 299, .index 301, .index 303])], none, [(155, 155), (157, 304)], 3, [], [])
theorem btx39 : bchk bZ bIx bmpx bmqx bjn bgm blpx bspx bdgx bldx [bkx37, bkx38] 30000 bkx39 = true := by decide +kernel
theorem bcx39 : bcon bZ bIx bkx39 := bchk_ok bZ_len (List.forall_mem_cons.mpr ⟨bcx37, List.forall_mem_cons.mpr ⟨bcx38, fun _ q => absurd q List.not_mem_nil⟩⟩) btx39
-- readWay: 830 steps
def bkx40 : bC := (65, [some (.inr [.index 1]), some (.inl (-2147483648, 2147483647)), some (.inr [.index 316])], some (.inl (0, 1)), [(316, 317)], 1, [], [])
theorem btx40 : bchk bZ bIx bmpx bmqx bjn bgm blpx bspx bdgx bldx [] 30000 bkx40 = true := by decide +kernel
theorem bcx40 : bcon bZ bIx bkx40 := bchk_ok bZ_len (fun _ q => absurd q List.not_mem_nil) btx40
-- hear: 92 steps
def bkx41 : bC := (68, [some (.inr [.index 1]), some (.inr [.index 34, .index 36, .index 38, .index 40, .index 42, .index 44, .index 46, .index 48, .index 50, .index 52, .index 54, .index 56]), some (.inr [.index 316]), some (.inr [.index 320])], none, [(318, 321)], 3, [], [])
theorem btx41 : bchk bZ bIx bmpx bmqx bjn bgm blpx bspx bdgx bldx [bkx12] 30000 bkx41 = true := by decide +kernel
theorem bcx41 : bcon bZ bIx bkx41 := bchk_ok bZ_len (List.forall_mem_cons.mpr ⟨bcx12, fun _ q => absurd q List.not_mem_nil⟩) btx41
-- error: 12 steps
def bkx42 : bC := (118, [some (.inr [.index 0]), some (.inl (2, 2))], some (.inl (-1000002, -1000002)), [(323, 323)], 0, [], [])
theorem btx42 : bchk bZ bIx bmpx bmqx bjn bgm blpx bspx bdgx bldx [] 30000 bkx42 = true := by decide +kernel
theorem bcx42 : bcon bZ bIx bkx42 := bchk_ok bZ_len (fun _ q => absurd q List.not_mem_nil) btx42
-- next: 23 steps
def bkx43 : bC := (7, [some (.inr [.index 152])], some (.inl (-2147483648, 2147483647)), [(152, 152)], 0, [], [])
theorem btx43 : bchk bZ bIx bmpx bmqx bjn bgm blpx bspx bdgx bldx [] 30000 bkx43 = true := by decide +kernel
theorem bcx43 : bcon bZ bIx bkx43 := bchk_ok bZ_len (fun _ q => absurd q List.not_mem_nil) btx43
-- sumBehind: 477 steps
def bkx44 : bC := (9, [some (.inr [.index 152])], some (.inl (-2147483648, 2147483647)), [(152, 152)], 1, [], [])
theorem btx44 : bchk bZ bIx bmpx bmqx bjn bgm blpx bspx bdgx bldx [bkx43] 30000 bkx44 = true := by decide +kernel
theorem bcx44 : bcon bZ bIx bkx44 := bchk_ok bZ_len (List.forall_mem_cons.mpr ⟨bcx43, fun _ q => absurd q List.not_mem_nil⟩) btx44
-- isWordSo: 39 steps
def bkx45 : bC := (10, [some (.inr [.index 152]), some (.inl (-2147483648, 59))], some (.inl (0, 1)), [], 0, [], [])
theorem btx45 : bchk bZ bIx bmpx bmqx bjn bgm blpx bspx bdgx bldx [] 30000 bkx45 = true := by decide +kernel
theorem bcx45 : bcon bZ bIx bkx45 := bchk_ok bZ_len (fun _ q => absurd q List.not_mem_nil) btx45
-- isTermSo: 5 steps
def bkx46 : bC := (8, [some (.inr [.index 152]), some (.inl (13, 13))], some (.inl (0, 0)), [], 0, [], [])
theorem btx46 : bchk bZ bIx bmpx bmqx bjn bgm blpx bspx bdgx bldx [] 30000 bkx46 = true := by decide +kernel
theorem bcx46 : bcon bZ bIx bkx46 := bchk_ok bZ_len (fun _ q => absurd q List.not_mem_nil) btx46
-- isWordSo: 5 steps
def bkx47 : bC := (10, [some (.inr [.index 152]), some (.inl (40, 2147483647))], some (.inl (1, 1)), [], 0, [], [])
theorem btx47 : bchk bZ bIx bmpx bmqx bjn bgm blpx bspx bdgx bldx [] 30000 bkx47 = true := by decide +kernel
theorem bcx47 : bcon bZ bIx bkx47 := bchk_ok bZ_len (fun _ q => absurd q List.not_mem_nil) btx47
-- isTermSo: 66 steps
def bkx48 : bC := (8, [some (.inr [.index 152]), some (.inl (12, 12))], some (.inl (0, 1)), [(152, 152)], 2, [], [])
theorem btx48 : bchk bZ bIx bmpx bmqx bjn bgm blpx bspx bdgx bldx [bkx43, bkx44, bkx45, bkx46, bkx47] 30000 bkx48 = true := by decide +kernel
theorem bcx48 : bcon bZ bIx bkx48 := bchk_ok bZ_len (List.forall_mem_cons.mpr ⟨bcx43, List.forall_mem_cons.mpr ⟨bcx44, List.forall_mem_cons.mpr ⟨bcx45, List.forall_mem_cons.mpr ⟨bcx46, List.forall_mem_cons.mpr ⟨bcx47, fun _ q => absurd q List.not_mem_nil⟩⟩⟩⟩⟩) btx48
-- isTermSo: 74 steps
def bkx49 : bC := (8, [some (.inr [.index 152]), some (.inl (11, 11))], some (.inl (0, 1)), [(152, 152)], 3, [], [])
theorem btx49 : bchk bZ bIx bmpx bmqx bjn bgm blpx bspx bdgx bldx [bkx43, bkx44, bkx45, bkx48, bkx47] 30000 bkx49 = true := by decide +kernel
theorem bcx49 : bcon bZ bIx bkx49 := bchk_ok bZ_len (List.forall_mem_cons.mpr ⟨bcx43, List.forall_mem_cons.mpr ⟨bcx44, List.forall_mem_cons.mpr ⟨bcx45, List.forall_mem_cons.mpr ⟨bcx48, List.forall_mem_cons.mpr ⟨bcx47, fun _ q => absurd q List.not_mem_nil⟩⟩⟩⟩⟩) btx49
-- isTermSo: 74 steps
def bkx50 : bC := (8, [some (.inr [.index 152]), some (.inl (10, 10))], some (.inl (0, 1)), [(152, 152)], 4, [], [])
theorem btx50 : bchk bZ bIx bmpx bmqx bjn bgm blpx bspx bdgx bldx [bkx43, bkx44, bkx45, bkx49, bkx47] 30000 bkx50 = true := by decide +kernel
theorem bcx50 : bcon bZ bIx bkx50 := bchk_ok bZ_len (List.forall_mem_cons.mpr ⟨bcx43, List.forall_mem_cons.mpr ⟨bcx44, List.forall_mem_cons.mpr ⟨bcx45, List.forall_mem_cons.mpr ⟨bcx49, List.forall_mem_cons.mpr ⟨bcx47, fun _ q => absurd q List.not_mem_nil⟩⟩⟩⟩⟩) btx50
-- isTermSo: 74 steps
def bkx51 : bC := (8, [some (.inr [.index 152]), some (.inl (9, 9))], some (.inl (0, 1)), [(152, 152)], 5, [], [])
theorem btx51 : bchk bZ bIx bmpx bmqx bjn bgm blpx bspx bdgx bldx [bkx43, bkx44, bkx45, bkx50, bkx47] 30000 bkx51 = true := by decide +kernel
theorem bcx51 : bcon bZ bIx bkx51 := bchk_ok bZ_len (List.forall_mem_cons.mpr ⟨bcx43, List.forall_mem_cons.mpr ⟨bcx44, List.forall_mem_cons.mpr ⟨bcx45, List.forall_mem_cons.mpr ⟨bcx50, List.forall_mem_cons.mpr ⟨bcx47, fun _ q => absurd q List.not_mem_nil⟩⟩⟩⟩⟩) btx51
-- isTermSo: 74 steps
def bkx52 : bC := (8, [some (.inr [.index 152]), some (.inl (8, 8))], some (.inl (0, 1)), [(152, 152)], 6, [], [])
theorem btx52 : bchk bZ bIx bmpx bmqx bjn bgm blpx bspx bdgx bldx [bkx43, bkx44, bkx45, bkx51, bkx47] 30000 bkx52 = true := by decide +kernel
theorem bcx52 : bcon bZ bIx bkx52 := bchk_ok bZ_len (List.forall_mem_cons.mpr ⟨bcx43, List.forall_mem_cons.mpr ⟨bcx44, List.forall_mem_cons.mpr ⟨bcx45, List.forall_mem_cons.mpr ⟨bcx51, List.forall_mem_cons.mpr ⟨bcx47, fun _ q => absurd q List.not_mem_nil⟩⟩⟩⟩⟩) btx52
-- isTermSo: 74 steps
def bkx53 : bC := (8, [some (.inr [.index 152]), some (.inl (7, 7))], some (.inl (0, 1)), [(152, 152)], 7, [], [])
theorem btx53 : bchk bZ bIx bmpx bmqx bjn bgm blpx bspx bdgx bldx [bkx43, bkx44, bkx45, bkx52, bkx47] 30000 bkx53 = true := by decide +kernel
theorem bcx53 : bcon bZ bIx bkx53 := bchk_ok bZ_len (List.forall_mem_cons.mpr ⟨bcx43, List.forall_mem_cons.mpr ⟨bcx44, List.forall_mem_cons.mpr ⟨bcx45, List.forall_mem_cons.mpr ⟨bcx52, List.forall_mem_cons.mpr ⟨bcx47, fun _ q => absurd q List.not_mem_nil⟩⟩⟩⟩⟩) btx53
-- isTermSo: 74 steps
def bkx54 : bC := (8, [some (.inr [.index 152]), some (.inl (6, 6))], some (.inl (0, 1)), [(152, 152)], 8, [], [])
theorem btx54 : bchk bZ bIx bmpx bmqx bjn bgm blpx bspx bdgx bldx [bkx43, bkx44, bkx45, bkx53, bkx47] 30000 bkx54 = true := by decide +kernel
theorem bcx54 : bcon bZ bIx bkx54 := bchk_ok bZ_len (List.forall_mem_cons.mpr ⟨bcx43, List.forall_mem_cons.mpr ⟨bcx44, List.forall_mem_cons.mpr ⟨bcx45, List.forall_mem_cons.mpr ⟨bcx53, List.forall_mem_cons.mpr ⟨bcx47, fun _ q => absurd q List.not_mem_nil⟩⟩⟩⟩⟩) btx54
-- isTermSo: 74 steps
def bkx55 : bC := (8, [some (.inr [.index 152]), some (.inl (5, 5))], some (.inl (0, 1)), [(152, 152)], 9, [], [])
theorem btx55 : bchk bZ bIx bmpx bmqx bjn bgm blpx bspx bdgx bldx [bkx43, bkx44, bkx45, bkx54, bkx47] 30000 bkx55 = true := by decide +kernel
theorem bcx55 : bcon bZ bIx bkx55 := bchk_ok bZ_len (List.forall_mem_cons.mpr ⟨bcx43, List.forall_mem_cons.mpr ⟨bcx44, List.forall_mem_cons.mpr ⟨bcx45, List.forall_mem_cons.mpr ⟨bcx54, List.forall_mem_cons.mpr ⟨bcx47, fun _ q => absurd q List.not_mem_nil⟩⟩⟩⟩⟩) btx55
-- isTermSo: 74 steps
def bkx56 : bC := (8, [some (.inr [.index 152]), some (.inl (4, 4))], some (.inl (0, 1)), [(152, 152)], 10, [], [])
theorem btx56 : bchk bZ bIx bmpx bmqx bjn bgm blpx bspx bdgx bldx [bkx43, bkx44, bkx45, bkx55, bkx47] 30000 bkx56 = true := by decide +kernel
theorem bcx56 : bcon bZ bIx bkx56 := bchk_ok bZ_len (List.forall_mem_cons.mpr ⟨bcx43, List.forall_mem_cons.mpr ⟨bcx44, List.forall_mem_cons.mpr ⟨bcx45, List.forall_mem_cons.mpr ⟨bcx55, List.forall_mem_cons.mpr ⟨bcx47, fun _ q => absurd q List.not_mem_nil⟩⟩⟩⟩⟩) btx56
-- isTermSo: 74 steps
def bkx57 : bC := (8, [some (.inr [.index 152]), some (.inl (3, 3))], some (.inl (0, 1)), [(152, 152)], 11, [], [])
theorem btx57 : bchk bZ bIx bmpx bmqx bjn bgm blpx bspx bdgx bldx [bkx43, bkx44, bkx45, bkx56, bkx47] 30000 bkx57 = true := by decide +kernel
theorem bcx57 : bcon bZ bIx bkx57 := bchk_ok bZ_len (List.forall_mem_cons.mpr ⟨bcx43, List.forall_mem_cons.mpr ⟨bcx44, List.forall_mem_cons.mpr ⟨bcx45, List.forall_mem_cons.mpr ⟨bcx56, List.forall_mem_cons.mpr ⟨bcx47, fun _ q => absurd q List.not_mem_nil⟩⟩⟩⟩⟩) btx57
-- isTermSo: 74 steps
def bkx58 : bC := (8, [some (.inr [.index 152]), some (.inl (2, 2))], some (.inl (0, 1)), [(152, 152)], 12, [], [])
theorem btx58 : bchk bZ bIx bmpx bmqx bjn bgm blpx bspx bdgx bldx [bkx43, bkx44, bkx45, bkx57, bkx47] 30000 bkx58 = true := by decide +kernel
theorem bcx58 : bcon bZ bIx bkx58 := bchk_ok bZ_len (List.forall_mem_cons.mpr ⟨bcx43, List.forall_mem_cons.mpr ⟨bcx44, List.forall_mem_cons.mpr ⟨bcx45, List.forall_mem_cons.mpr ⟨bcx57, List.forall_mem_cons.mpr ⟨bcx47, fun _ q => absurd q List.not_mem_nil⟩⟩⟩⟩⟩) btx58
-- isTermSo: 74 steps
def bkx59 : bC := (8, [some (.inr [.index 152]), some (.inl (1, 1))], some (.inl (0, 1)), [(152, 152)], 13, [], [])
theorem btx59 : bchk bZ bIx bmpx bmqx bjn bgm blpx bspx bdgx bldx [bkx43, bkx44, bkx45, bkx58, bkx47] 30000 bkx59 = true := by decide +kernel
theorem bcx59 : bcon bZ bIx bkx59 := bchk_ok bZ_len (List.forall_mem_cons.mpr ⟨bcx43, List.forall_mem_cons.mpr ⟨bcx44, List.forall_mem_cons.mpr ⟨bcx45, List.forall_mem_cons.mpr ⟨bcx58, List.forall_mem_cons.mpr ⟨bcx47, fun _ q => absurd q List.not_mem_nil⟩⟩⟩⟩⟩) btx59
-- isTermSo: 74 steps
def bkx60 : bC := (8, [some (.inr [.index 152]), some (.inl (0, 0))], some (.inl (0, 1)), [(152, 152)], 14, [], [])
theorem btx60 : bchk bZ bIx bmpx bmqx bjn bgm blpx bspx bdgx bldx [bkx43, bkx44, bkx45, bkx59, bkx47] 30000 bkx60 = true := by decide +kernel
theorem bcx60 : bcon bZ bIx bkx60 := bchk_ok bZ_len (List.forall_mem_cons.mpr ⟨bcx43, List.forall_mem_cons.mpr ⟨bcx44, List.forall_mem_cons.mpr ⟨bcx45, List.forall_mem_cons.mpr ⟨bcx59, List.forall_mem_cons.mpr ⟨bcx47, fun _ q => absurd q List.not_mem_nil⟩⟩⟩⟩⟩) btx60
-- sayNay: 523 steps
def bkx61 : bC := (43, [some (.inr [.index 17, .index 19, .index 21, .index 23, .index 25, .index 27, .index 29, .index 31]), some (.inl (0, 0))], none, [(18, 18), (20, 20), (22, 22), (24, 24), (26, 26), (28, 28), (30, 30), (32, 32)], 1, [], [])
theorem btx61 : bchk bZ bIx bmpx bmqx bjn bgm blpx bspx bdgx bldx [bkx3] 30000 bkx61 = true := by decide +kernel
theorem bcx61 : bcon bZ bIx bkx61 := bchk_ok bZ_len (List.forall_mem_cons.mpr ⟨bcx3, fun _ q => absurd q List.not_mem_nil⟩) btx61
-- sayNay: 517 steps
def bkx62 : bC := (43, [some (.inr [.index 17, .index 19, .index 21, .index 23, .index 25, .index 27, .index 29, .index 31]), some (.inl (1, 1))], none, [(18, 18), (20, 20), (22, 22), (24, 24), (26, 26), (28, 28), (30, 30), (32, 32)], 1, [], [])
theorem btx62 : bchk bZ bIx bmpx bmqx bjn bgm blpx bspx bdgx bldx [bkx3] 30000 bkx62 = true := by decide +kernel
theorem bcx62 : bcon bZ bIx bkx62 := bchk_ok bZ_len (List.forall_mem_cons.mpr ⟨bcx3, fun _ q => absurd q List.not_mem_nil⟩) btx62
-- turnNumbers: 415 steps
def bkx63 : bC := (44, [some (.inr [.index 17, .index 19, .index 21, .index 23, .index 25, .index 27, .index 29, .index 31])], none, [(18, 18), (20, 20), (22, 22), (24, 24), (26, 26), (28, 28), (30, 30), (32, 32)], 1, [], [])
theorem btx63 : bchk bZ bIx bmpx bmqx bjn bgm blpx bspx bdgx bldx [bkx3] 30000 bkx63 = true := by decide +kernel
theorem bcx63 : bcon bZ bIx bkx63 := bchk_ok bZ_len (List.forall_mem_cons.mpr ⟨bcx3, fun _ q => absurd q List.not_mem_nil⟩) btx63
-- turnRound: 155 steps
def bkx64 : bC := (45, [some (.inr [.index 17, .index 19, .index 21, .index 23, .index 25, .index 27, .index 29, .index 31])], none, [(18, 18), (20, 20), (22, 22), (24, 24), (26, 26), (28, 28), (30, 30), (32, 32)], 0, [], [])
theorem btx64 : bchk bZ bIx bmpx bmqx bjn bgm blpx bspx bdgx bldx [] 30000 bkx64 = true := by decide +kernel
theorem bcx64 : bcon bZ bIx bkx64 := bchk_ok bZ_len (fun _ q => absurd q List.not_mem_nil) btx64
