-- ===== contracts
-- sumBehind: 477 steps
def bkx44 : bC := (9, [some (.inr [.index 152])], some (.inl (-2147483648, 2147483647)), [(152, 152)], 1, [], [])
theorem btx44 : bchk bzf bIx bmpx bmqx bjn bgm blpx bspx bdgx bldx [bkx43] 30000 bkx44 = true := by decide +kernel
theorem bcx44 : bcon bZ bIx bkx44 := bchk_ok bZ_len bzf_ok (List.forall_mem_cons.mpr ⟨bcx43, fun _ q => absurd q List.not_mem_nil⟩) btx44
-- isWordSo: 39 steps
def bkx45 : bC := (10, [some (.inr [.index 152]), some (.inl (-2147483648, 59))], some (.inl (0, 1)), [], 0, [], [])
theorem btx45 : bchk bzf bIx bmpx bmqx bjn bgm blpx bspx bdgx bldx [] 30000 bkx45 = true := by decide +kernel
theorem bcx45 : bcon bZ bIx bkx45 := bchk_ok bZ_len bzf_ok (fun _ q => absurd q List.not_mem_nil) btx45
-- isTermSo: 5 steps
def bkx46 : bC := (8, [some (.inr [.index 152]), some (.inl (13, 13))], some (.inl (0, 0)), [], 0, [], [])
theorem btx46 : bchk bzf bIx bmpx bmqx bjn bgm blpx bspx bdgx bldx [] 30000 bkx46 = true := by decide +kernel
theorem bcx46 : bcon bZ bIx bkx46 := bchk_ok bZ_len bzf_ok (fun _ q => absurd q List.not_mem_nil) btx46
-- isWordSo: 5 steps
def bkx47 : bC := (10, [some (.inr [.index 152]), some (.inl (40, 2147483647))], some (.inl (1, 1)), [], 0, [], [])
theorem btx47 : bchk bzf bIx bmpx bmqx bjn bgm blpx bspx bdgx bldx [] 30000 bkx47 = true := by decide +kernel
theorem bcx47 : bcon bZ bIx bkx47 := bchk_ok bZ_len bzf_ok (fun _ q => absurd q List.not_mem_nil) btx47
-- isTermSo: 66 steps
def bkx48 : bC := (8, [some (.inr [.index 152]), some (.inl (12, 12))], some (.inl (0, 1)), [(152, 152)], 2, [], [])
theorem btx48 : bchk bzf bIx bmpx bmqx bjn bgm blpx bspx bdgx bldx [bkx43, bkx46, bkx44, bkx45, bkx47] 30000 bkx48 = true := by decide +kernel
theorem bcx48 : bcon bZ bIx bkx48 := bchk_ok bZ_len bzf_ok (List.forall_mem_cons.mpr ⟨bcx43, List.forall_mem_cons.mpr ⟨bcx46, List.forall_mem_cons.mpr ⟨bcx44, List.forall_mem_cons.mpr ⟨bcx45, List.forall_mem_cons.mpr ⟨bcx47, fun _ q => absurd q List.not_mem_nil⟩⟩⟩⟩⟩) btx48
-- isTermSo: 74 steps
def bkx49 : bC := (8, [some (.inr [.index 152]), some (.inl (11, 11))], some (.inl (0, 1)), [(152, 152)], 3, [], [])
theorem btx49 : bchk bzf bIx bmpx bmqx bjn bgm blpx bspx bdgx bldx [bkx43, bkx48, bkx44, bkx45, bkx47] 30000 bkx49 = true := by decide +kernel
theorem bcx49 : bcon bZ bIx bkx49 := bchk_ok bZ_len bzf_ok (List.forall_mem_cons.mpr ⟨bcx43, List.forall_mem_cons.mpr ⟨bcx48, List.forall_mem_cons.mpr ⟨bcx44, List.forall_mem_cons.mpr ⟨bcx45, List.forall_mem_cons.mpr ⟨bcx47, fun _ q => absurd q List.not_mem_nil⟩⟩⟩⟩⟩) btx49
-- isTermSo: 74 steps
def bkx50 : bC := (8, [some (.inr [.index 152]), some (.inl (10, 10))], some (.inl (0, 1)), [(152, 152)], 4, [], [])
theorem btx50 : bchk bzf bIx bmpx bmqx bjn bgm blpx bspx bdgx bldx [bkx43, bkx49, bkx44, bkx45, bkx47] 30000 bkx50 = true := by decide +kernel
theorem bcx50 : bcon bZ bIx bkx50 := bchk_ok bZ_len bzf_ok (List.forall_mem_cons.mpr ⟨bcx43, List.forall_mem_cons.mpr ⟨bcx49, List.forall_mem_cons.mpr ⟨bcx44, List.forall_mem_cons.mpr ⟨bcx45, List.forall_mem_cons.mpr ⟨bcx47, fun _ q => absurd q List.not_mem_nil⟩⟩⟩⟩⟩) btx50
-- isTermSo: 74 steps
def bkx51 : bC := (8, [some (.inr [.index 152]), some (.inl (9, 9))], some (.inl (0, 1)), [(152, 152)], 5, [], [])
theorem btx51 : bchk bzf bIx bmpx bmqx bjn bgm blpx bspx bdgx bldx [bkx43, bkx50, bkx44, bkx45, bkx47] 30000 bkx51 = true := by decide +kernel
theorem bcx51 : bcon bZ bIx bkx51 := bchk_ok bZ_len bzf_ok (List.forall_mem_cons.mpr ⟨bcx43, List.forall_mem_cons.mpr ⟨bcx50, List.forall_mem_cons.mpr ⟨bcx44, List.forall_mem_cons.mpr ⟨bcx45, List.forall_mem_cons.mpr ⟨bcx47, fun _ q => absurd q List.not_mem_nil⟩⟩⟩⟩⟩) btx51
-- isTermSo: 74 steps
def bkx52 : bC := (8, [some (.inr [.index 152]), some (.inl (8, 8))], some (.inl (0, 1)), [(152, 152)], 6, [], [])
theorem btx52 : bchk bzf bIx bmpx bmqx bjn bgm blpx bspx bdgx bldx [bkx43, bkx51, bkx44, bkx45, bkx47] 30000 bkx52 = true := by decide +kernel
theorem bcx52 : bcon bZ bIx bkx52 := bchk_ok bZ_len bzf_ok (List.forall_mem_cons.mpr ⟨bcx43, List.forall_mem_cons.mpr ⟨bcx51, List.forall_mem_cons.mpr ⟨bcx44, List.forall_mem_cons.mpr ⟨bcx45, List.forall_mem_cons.mpr ⟨bcx47, fun _ q => absurd q List.not_mem_nil⟩⟩⟩⟩⟩) btx52
-- isTermSo: 74 steps
def bkx53 : bC := (8, [some (.inr [.index 152]), some (.inl (7, 7))], some (.inl (0, 1)), [(152, 152)], 7, [], [])
theorem btx53 : bchk bzf bIx bmpx bmqx bjn bgm blpx bspx bdgx bldx [bkx43, bkx52, bkx44, bkx45, bkx47] 30000 bkx53 = true := by decide +kernel
theorem bcx53 : bcon bZ bIx bkx53 := bchk_ok bZ_len bzf_ok (List.forall_mem_cons.mpr ⟨bcx43, List.forall_mem_cons.mpr ⟨bcx52, List.forall_mem_cons.mpr ⟨bcx44, List.forall_mem_cons.mpr ⟨bcx45, List.forall_mem_cons.mpr ⟨bcx47, fun _ q => absurd q List.not_mem_nil⟩⟩⟩⟩⟩) btx53
-- isTermSo: 74 steps
def bkx54 : bC := (8, [some (.inr [.index 152]), some (.inl (6, 6))], some (.inl (0, 1)), [(152, 152)], 8, [], [])
theorem btx54 : bchk bzf bIx bmpx bmqx bjn bgm blpx bspx bdgx bldx [bkx43, bkx53, bkx44, bkx45, bkx47] 30000 bkx54 = true := by decide +kernel
theorem bcx54 : bcon bZ bIx bkx54 := bchk_ok bZ_len bzf_ok (List.forall_mem_cons.mpr ⟨bcx43, List.forall_mem_cons.mpr ⟨bcx53, List.forall_mem_cons.mpr ⟨bcx44, List.forall_mem_cons.mpr ⟨bcx45, List.forall_mem_cons.mpr ⟨bcx47, fun _ q => absurd q List.not_mem_nil⟩⟩⟩⟩⟩) btx54
-- isTermSo: 74 steps
def bkx55 : bC := (8, [some (.inr [.index 152]), some (.inl (5, 5))], some (.inl (0, 1)), [(152, 152)], 9, [], [])
theorem btx55 : bchk bzf bIx bmpx bmqx bjn bgm blpx bspx bdgx bldx [bkx43, bkx54, bkx44, bkx45, bkx47] 30000 bkx55 = true := by decide +kernel
theorem bcx55 : bcon bZ bIx bkx55 := bchk_ok bZ_len bzf_ok (List.forall_mem_cons.mpr ⟨bcx43, List.forall_mem_cons.mpr ⟨bcx54, List.forall_mem_cons.mpr ⟨bcx44, List.forall_mem_cons.mpr ⟨bcx45, List.forall_mem_cons.mpr ⟨bcx47, fun _ q => absurd q List.not_mem_nil⟩⟩⟩⟩⟩) btx55
-- isTermSo: 74 steps
def bkx56 : bC := (8, [some (.inr [.index 152]), some (.inl (4, 4))], some (.inl (0, 1)), [(152, 152)], 10, [], [])
theorem btx56 : bchk bzf bIx bmpx bmqx bjn bgm blpx bspx bdgx bldx [bkx43, bkx55, bkx44, bkx45, bkx47] 30000 bkx56 = true := by decide +kernel
theorem bcx56 : bcon bZ bIx bkx56 := bchk_ok bZ_len bzf_ok (List.forall_mem_cons.mpr ⟨bcx43, List.forall_mem_cons.mpr ⟨bcx55, List.forall_mem_cons.mpr ⟨bcx44, List.forall_mem_cons.mpr ⟨bcx45, List.forall_mem_cons.mpr ⟨bcx47, fun _ q => absurd q List.not_mem_nil⟩⟩⟩⟩⟩) btx56
-- isTermSo: 74 steps
def bkx57 : bC := (8, [some (.inr [.index 152]), some (.inl (3, 3))], some (.inl (0, 1)), [(152, 152)], 11, [], [])
theorem btx57 : bchk bzf bIx bmpx bmqx bjn bgm blpx bspx bdgx bldx [bkx43, bkx56, bkx44, bkx45, bkx47] 30000 bkx57 = true := by decide +kernel
theorem bcx57 : bcon bZ bIx bkx57 := bchk_ok bZ_len bzf_ok (List.forall_mem_cons.mpr ⟨bcx43, List.forall_mem_cons.mpr ⟨bcx56, List.forall_mem_cons.mpr ⟨bcx44, List.forall_mem_cons.mpr ⟨bcx45, List.forall_mem_cons.mpr ⟨bcx47, fun _ q => absurd q List.not_mem_nil⟩⟩⟩⟩⟩) btx57
-- isTermSo: 74 steps
def bkx58 : bC := (8, [some (.inr [.index 152]), some (.inl (2, 2))], some (.inl (0, 1)), [(152, 152)], 12, [], [])
theorem btx58 : bchk bzf bIx bmpx bmqx bjn bgm blpx bspx bdgx bldx [bkx43, bkx57, bkx44, bkx45, bkx47] 30000 bkx58 = true := by decide +kernel
theorem bcx58 : bcon bZ bIx bkx58 := bchk_ok bZ_len bzf_ok (List.forall_mem_cons.mpr ⟨bcx43, List.forall_mem_cons.mpr ⟨bcx57, List.forall_mem_cons.mpr ⟨bcx44, List.forall_mem_cons.mpr ⟨bcx45, List.forall_mem_cons.mpr ⟨bcx47, fun _ q => absurd q List.not_mem_nil⟩⟩⟩⟩⟩) btx58
-- isTermSo: 74 steps
def bkx59 : bC := (8, [some (.inr [.index 152]), some (.inl (1, 1))], some (.inl (0, 1)), [(152, 152)], 13, [], [])
theorem btx59 : bchk bzf bIx bmpx bmqx bjn bgm blpx bspx bdgx bldx [bkx43, bkx58, bkx44, bkx45, bkx47] 30000 bkx59 = true := by decide +kernel
theorem bcx59 : bcon bZ bIx bkx59 := bchk_ok bZ_len bzf_ok (List.forall_mem_cons.mpr ⟨bcx43, List.forall_mem_cons.mpr ⟨bcx58, List.forall_mem_cons.mpr ⟨bcx44, List.forall_mem_cons.mpr ⟨bcx45, List.forall_mem_cons.mpr ⟨bcx47, fun _ q => absurd q List.not_mem_nil⟩⟩⟩⟩⟩) btx59
-- isTermSo: 74 steps
def bkx60 : bC := (8, [some (.inr [.index 152]), some (.inl (0, 0))], some (.inl (0, 1)), [(152, 152)], 14, [], [])
theorem btx60 : bchk bzf bIx bmpx bmqx bjn bgm blpx bspx bdgx bldx [bkx43, bkx59, bkx44, bkx45, bkx47] 30000 bkx60 = true := by decide +kernel
theorem bcx60 : bcon bZ bIx bkx60 := bchk_ok bZ_len bzf_ok (List.forall_mem_cons.mpr ⟨bcx43, List.forall_mem_cons.mpr ⟨bcx59, List.forall_mem_cons.mpr ⟨bcx44, List.forall_mem_cons.mpr ⟨bcx45, List.forall_mem_cons.mpr ⟨bcx47, fun _ q => absurd q List.not_mem_nil⟩⟩⟩⟩⟩) btx60
-- sayNay: 523 steps
def bkx61 : bC := (43, [some (.inr [.index 17, .index 19, .index 21, .index 23, .index 25, .index 27, .index 29, .index 31]), some (.inl (0, 0))], none, [(18, 18), (20, 20), (22, 22), (24, 24), (26, 26), (28, 28), (30, 30), (32, 32)], 1, [], [])
theorem btx61 : bchk bzf bIx bmpx bmqx bjn bgm blpx bspx bdgx bldx [bkx3] 30000 bkx61 = true := by decide +kernel
theorem bcx61 : bcon bZ bIx bkx61 := bchk_ok bZ_len bzf_ok (List.forall_mem_cons.mpr ⟨bcx3, fun _ q => absurd q List.not_mem_nil⟩) btx61
-- sayNay: 517 steps
def bkx62 : bC := (43, [some (.inr [.index 17, .index 19, .index 21, .index 23, .index 25, .index 27, .index 29, .index 31]), some (.inl (1, 1))], none, [(18, 18), (20, 20), (22, 22), (24, 24), (26, 26), (28, 28), (30, 30), (32, 32)], 1, [], [])
theorem btx62 : bchk bzf bIx bmpx bmqx bjn bgm blpx bspx bdgx bldx [bkx3] 30000 bkx62 = true := by decide +kernel
theorem bcx62 : bcon bZ bIx bkx62 := bchk_ok bZ_len bzf_ok (List.forall_mem_cons.mpr ⟨bcx3, fun _ q => absurd q List.not_mem_nil⟩) btx62
-- turnNumbers: 415 steps
def bkx63 : bC := (44, [some (.inr [.index 17, .index 19, .index 21, .index 23, .index 25, .index 27, .index 29, .index 31])], none, [(18, 18), (20, 20), (22, 22), (24, 24), (26, 26), (28, 28), (30, 30), (32, 32)], 1, [], [])
theorem btx63 : bchk bzf bIx bmpx bmqx bjn bgm blpx bspx bdgx bldx [bkx3] 30000 bkx63 = true := by decide +kernel
theorem bcx63 : bcon bZ bIx bkx63 := bchk_ok bZ_len bzf_ok (List.forall_mem_cons.mpr ⟨bcx3, fun _ q => absurd q List.not_mem_nil⟩) btx63
-- turnRound: 155 steps
def bkx64 : bC := (45, [some (.inr [.index 17, .index 19, .index 21, .index 23, .index 25, .index 27, .index 29, .index 31])], none, [(18, 18), (20, 20), (22, 22), (24, 24), (26, 26), (28, 28), (30, 30), (32, 32)], 0, [], [])
theorem btx64 : bchk bzf bIx bmpx bmqx bjn bgm blpx bspx bdgx bldx [] 30000 bkx64 = true := by decide +kernel
theorem bcx64 : bcon bZ bIx bkx64 := bchk_ok bZ_len bzf_ok (fun _ q => absurd q List.not_mem_nil) btx64
-- leaveOutEach: 266 steps
def bkx65 : bC := (46, [some (.inr [.index 17, .index 19, .index 21, .index 23, .index 25, .index 27, .index 29, .index 31]), some (.inl (0, 32))], none, [(17, 32)], 0, [], [])
theorem btx65 : bchk bzf bIx bmpx bmqx bjn bgm blpx bspx bdgx bldx [] 30000 bkx65 = true := by decide +kernel
theorem bcx65 : bcon bZ bIx bkx65 := bchk_ok bZ_len bzf_ok (fun _ q => absurd q List.not_mem_nil) btx65
-- turnByText: 15 steps
def bkx66 : bC := (67, [some (.inr [.index 1]), some (.inr [.index 17, .index 19, .index 21, .index 23, .index 25, .index 27, .index 29, .index 31]), some (.inl (0, 20))], none, [], 1, [], [])
theorem btx66 : bchk bzf bIx bmpx bmqx bjn bgm blpx bspx bdgx bldx [] 30000 bkx66 = true := by decide +kernel
theorem bcx66 : bcon bZ bIx bkx66 := bchk_ok bZ_len bzf_ok (fun _ q => absurd q List.not_mem_nil) btx66
-- sendBack: 36 steps
def bkx67 : bC := (66, [some (.inr [.index 1]), some (.inr [.index 58, .index 59, .index 60, .index 61, .index 62, .index 63, .index 64, .index 65]), some (.inr [.index 17, .index 19, .index 21, .index 23, .index 25, .index 27, .index 29, .index 31])], none, [(17, 32)], 2, [], [])
theorem btx67 : bchk bzf bIx bmpx bmqx bjn bgm blpx bspx bdgx bldx [bkx61, bkx62, bkx63, bkx64, bkx65, bkx66] 30000 bkx67 = true := by decide +kernel
theorem bcx67 : bcon bZ bIx bkx67 := bchk_ok bZ_len bzf_ok (List.forall_mem_cons.mpr ⟨bcx61, List.forall_mem_cons.mpr ⟨bcx62, List.forall_mem_cons.mpr ⟨bcx63, List.forall_mem_cons.mpr ⟨bcx64, List.forall_mem_cons.mpr ⟨bcx65, List.forall_mem_cons.mpr ⟨bcx66, fun _ q => absurd q List.not_mem_nil⟩⟩⟩⟩⟩⟩) btx67
-- logEcho: 184 steps
def bkx68 : bC := (69, [some (.inr [.index 1]), some (.inl (0, 11)), some (.inl (0, 7))], none, [(15, 15), (17, 32)], 3, [], [])
theorem btx68 : bchk bzf bIx bmpx bmqx bjn bgm blpx bspx bdgx bldx [bkx67] 30000 bkx68 = true := by decide +kernel
theorem bcx68 : bcon bZ bIx bkx68 := bchk_ok bZ_len bzf_ok (List.forall_mem_cons.mpr ⟨bcx67, fun _ q => absurd q List.not_mem_nil⟩) btx68
-- letSecondGoBy: 1227 steps
def bkx69 : bC := (71, [some (.inr [.index 1])], none, [(1, 1), (9, 15), (17, 32)], 4, [], [])
theorem btx69 : bchk bzf bIx bmpx bmqx bjn bgm blpx bspx bdgx bldx [bkx68] 30000 bkx69 = true := by decide +kernel
theorem bcx69 : bcon bZ bIx bkx69 := bchk_ok bZ_len bzf_ok (List.forall_mem_cons.mpr ⟨bcx68, fun _ q => absurd q List.not_mem_nil⟩) btx69
-- soundOrSize: 29 steps
def bkx70 : bC := (119, [some (.inr [.index 0]), some (.inr [.index 17, .index 19, .index 21, .index 23, .index 25, .index 27, .index 29, .index 31]), some (.inl (-2147483648, 2147483647))], some (.inl (-2147483648, 2147483647)), [(323, 323)], 1, [], [])
theorem btx70 : bchk bzf bIx bmpx bmqx bjn bgm blpx bspx bdgx bldx [bkx1] 30000 bkx70 = true := by decide +kernel
theorem bcx70 : bcon bZ bIx bkx70 := bchk_ok bZ_len bzf_ok (List.forall_mem_cons.mpr ⟨bcx1, fun _ q => absurd q List.not_mem_nil⟩) btx70
-- sayNay: 50 steps
def bkx71 : bC := (43, [some (.inr [.index 308]), some (.inl (0, 0))], none, [(309, 309)], 1, [], [])
theorem btx71 : bchk bzf bIx bmpx bmqx bjn bgm blpx bspx bdgx bldx [bkx3] 30000 bkx71 = true := by decide +kernel
theorem bcx71 : bcon bZ bIx bkx71 := bchk_ok bZ_len bzf_ok (List.forall_mem_cons.mpr ⟨bcx3, fun _ q => absurd q List.not_mem_nil⟩) btx71
-- sayNay: 45 steps
def bkx72 : bC := (43, [some (.inr [.index 308]), some (.inl (1, 1))], none, [], 1, [], [])
theorem btx72 : bchk bzf bIx bmpx bmqx bjn bgm blpx bspx bdgx bldx [] 30000 bkx72 = true := by decide +kernel
theorem bcx72 : bcon bZ bIx bkx72 := bchk_ok bZ_len bzf_ok (fun _ q => absurd q List.not_mem_nil) btx72
-- turnNumbers: 41 steps
def bkx73 : bC := (44, [some (.inr [.index 308])], none, [(309, 309)], 1, [], [])
theorem btx73 : bchk bzf bIx bmpx bmqx bjn bgm blpx bspx bdgx bldx [bkx3] 30000 bkx73 = true := by decide +kernel
theorem bcx73 : bcon bZ bIx bkx73 := bchk_ok bZ_len bzf_ok (List.forall_mem_cons.mpr ⟨bcx3, fun _ q => absurd q List.not_mem_nil⟩) btx73
-- turnRound: 11 steps
def bkx74 : bC := (45, [some (.inr [.index 308])], none, [], 0, [], [])
theorem btx74 : bchk bzf bIx bmpx bmqx bjn bgm blpx bspx bdgx bldx [] 30000 bkx74 = true := by decide +kernel
theorem bcx74 : bcon bZ bIx bkx74 := bchk_ok bZ_len bzf_ok (fun _ q => absurd q List.not_mem_nil) btx74
-- leaveOutEach: 35 steps
def bkx75 : bC := (46, [some (.inr [.index 308]), some (.inl (0, 32))], none, [(308, 309)], 0, [], [])
theorem btx75 : bchk bzf bIx bmpx bmqx bjn bgm blpx bspx bdgx bldx [] 30000 bkx75 = true := by decide +kernel
theorem bcx75 : bcon bZ bIx bkx75 := bchk_ok bZ_len bzf_ok (fun _ q => absurd q List.not_mem_nil) btx75
-- turnByText: 15 steps
def bkx76 : bC := (67, [some (.inr [.index 1]), some (.inr [.index 308]), some (.inl (0, 20))], none, [], 1, [], [])
theorem btx76 : bchk bzf bIx bmpx bmqx bjn bgm blpx bspx bdgx bldx [] 30000 bkx76 = true := by decide +kernel
theorem bcx76 : bcon bZ bIx bkx76 := bchk_ok bZ_len bzf_ok (fun _ q => absurd q List.not_mem_nil) btx76
-- sendBack: 36 steps
def bkx77 : bC := (66, [some (.inr [.index 1]), some (.inr [.index 58, .index 59, .index 60, .index 61, .index 62, .index 63, .index 64, .index 65]), some (.inr [.index 308])], none, [(308, 309)], 2, [], [])
theorem btx77 : bchk bzf bIx bmpx bmqx bjn bgm blpx bspx bdgx bldx [bkx71, bkx72, bkx73, bkx74, bkx75, bkx76] 30000 bkx77 = true := by decide +kernel
theorem bcx77 : bcon bZ bIx bkx77 := bchk_ok bZ_len bzf_ok (List.forall_mem_cons.mpr ⟨bcx71, List.forall_mem_cons.mpr ⟨bcx72, List.forall_mem_cons.mpr ⟨bcx73, List.forall_mem_cons.mpr ⟨bcx74, List.forall_mem_cons.mpr ⟨bcx75, List.forall_mem_cons.mpr ⟨bcx76, fun _ q => absurd q List.not_mem_nil⟩⟩⟩⟩⟩⟩) btx77
-- hear: 92 steps
def bkx78 : bC := (68, [some (.inr [.index 1]), some (.inr [.index 306]), some (.inr [.index 314]), some (.inr [.index 308])], none, [(308, 309)], 3, [], [])
theorem btx78 : bchk bzf bIx bmpx bmqx bjn bgm blpx bspx bdgx bldx [bkx77] 30000 bkx78 = true := by decide +kernel
theorem bcx78 : bcon bZ bIx bkx78 := bchk_ok bZ_len bzf_ok (List.forall_mem_cons.mpr ⟨bcx77, fun _ q => absurd q List.not_mem_nil⟩) btx78
-- numberHeard: 77 steps
def bkx79 : bC := (3, [some (.inr [.index 305]), some (.inr [.index 1]), some (.inl (-20, 2147483647)), some (.inr [.index 314]), some (.inl (-20, 80))], some (.inl (-20, 80)), [(306, 309)], 4, [], [])
theorem btx79 : bchk bzf bIx bmpx bmqx bjn bgm blpx bspx bdgx bldx [bkx78] 30000 bkx79 = true := by decide +kernel
theorem bcx79 : bcon bZ bIx bkx79 := bchk_ok bZ_len bzf_ok (List.forall_mem_cons.mpr ⟨bcx78, fun _ q => absurd q List.not_mem_nil⟩) btx79
-- hear: 92 steps
def bkx80 : bC := (68, [some (.inr [.index 1]), some (.inr [.index 306]), some (.inr [.index 316]), some (.inr [.index 308])], none, [(308, 309)], 3, [], [])
theorem btx80 : bchk bzf bIx bmpx bmqx bjn bgm blpx bspx bdgx bldx [bkx77] 30000 bkx80 = true := by decide +kernel
theorem bcx80 : bcon bZ bIx bkx80 := bchk_ok bZ_len bzf_ok (List.forall_mem_cons.mpr ⟨bcx77, fun _ q => absurd q List.not_mem_nil⟩) btx80
-- numberHeard: 77 steps
def bkx81 : bC := (3, [some (.inr [.index 305]), some (.inr [.index 1]), some (.inl (-20, 80)), some (.inr [.index 316]), some (.inl (-20, 2147483647))], some (.inl (-20, 2147483647)), [(306, 309)], 4, [], [])
theorem btx81 : bchk bzf bIx bmpx bmqx bjn bgm blpx bspx bdgx bldx [bkx80] 30000 bkx81 = true := by decide +kernel
theorem bcx81 : bcon bZ bIx bkx81 := bchk_ok bZ_len bzf_ok (List.forall_mem_cons.mpr ⟨bcx80, fun _ q => absurd q List.not_mem_nil⟩) btx81
-- goOn: 220 steps
def bkx82 : bC := (2, [some (.inr [.index 305]), some (.inr [.index 1]), some (.inr [.index 314]), some (.inr [.index 316]), some (.inl (1, 60))], none, [(305, 309)], 5, [], [])
theorem btx82 : bchk bzf bIx bmpx bmqx bjn bgm blpx bspx bdgx bldx [bkx79, bkx81] 30000 bkx82 = true := by decide +kernel
theorem bcx82 : bcon bZ bIx bkx82 := bchk_ok bZ_len bzf_ok (List.forall_mem_cons.mpr ⟨bcx79, List.forall_mem_cons.mpr ⟨bcx81, fun _ q => absurd q List.not_mem_nil⟩⟩) btx82
-- layOut: 21 steps
def bkx83 : bC := (49, [some (.inr [.index 324, .index 326, .index 328, .index 330]), some (.inl (0, 0)), some (.inl (0, 0))], none, [(324, 331)], 0, [], [])
theorem btx83 : bchk bzf bIx bmpx bmqx bjn bgm blpx bspx bdgx bldx [] 30000 bkx83 = true := by decide +kernel
theorem bcx83 : bcon bZ bIx bkx83 := bchk_ok bZ_len bzf_ok (fun _ q => absurd q List.not_mem_nil) btx83
-- layOut: 21 steps
def bkx84 : bC := (49, [some (.inr [.index 324, .index 326, .index 328, .index 330]), some (.inl (8, 8)), some (.inl (0, 24))], none, [(324, 331)], 0, [], [])
theorem btx84 : bchk bzf bIx bmpx bmqx bjn bgm blpx bspx bdgx bldx [] 30000 bkx84 = true := by decide +kernel
theorem bcx84 : bcon bZ bIx bkx84 := bchk_ok bZ_len bzf_ok (fun _ q => absurd q List.not_mem_nil) btx84
-- layOut: 21 steps
def bkx85 : bC := (49, [some (.inr [.index 324, .index 326, .index 328, .index 330]), some (.inl (16, 16)), some (.inl (0, 24))], none, [(324, 331)], 0, [], [])
theorem btx85 : bchk bzf bIx bmpx bmqx bjn bgm blpx bspx bdgx bldx [] 30000 bkx85 = true := by decide +kernel
theorem bcx85 : bcon bZ bIx bkx85 := bchk_ok bZ_len bzf_ok (fun _ q => absurd q List.not_mem_nil) btx85
-- layOut: 21 steps
def bkx86 : bC := (49, [some (.inr [.index 324, .index 326, .index 328, .index 330]), some (.inl (30, 39)), some (.inl (0, 24))], none, [(324, 331)], 0, [], [])
theorem btx86 : bchk bzf bIx bmpx bmqx bjn bgm blpx bspx bdgx bldx [] 30000 bkx86 = true := by decide +kernel
theorem bcx86 : bcon bZ bIx bkx86 := bchk_ok bZ_len bzf_ok (fun _ q => absurd q List.not_mem_nil) btx86
-- error: 12 steps
def bkx87 : bC := (118, [some (.inr [.index 0]), some (.inl (5, 5))], some (.inl (-1000005, -1000005)), [(323, 323)], 0, [], [])
theorem btx87 : bchk bzf bIx bmpx bmqx bjn bgm blpx bspx bdgx bldx [] 30000 bkx87 = true := by decide +kernel
theorem bcx87 : bcon bZ bIx bkx87 := bchk_ok bZ_len bzf_ok (fun _ q => absurd q List.not_mem_nil) btx87
-- copyFrom: 1162 steps
def bkx88 : bC := (63, [some (.inr [.index 74]), some (.inr [.index 1])], none, [(74, 74), (78, 88), (90, 105), (107, 138), (140, 141), (144, 145)], 2, [], [])
theorem btx88 : bchk bzf bIx bmpx bmqx bjn bgm blpx bspx bdgx bldx [] 30000 bkx88 = true := by decide +kernel
theorem bcx88 : bcon bZ bIx bkx88 := bchk_ok bZ_len bzf_ok (fun _ q => absurd q List.not_mem_nil) btx88
