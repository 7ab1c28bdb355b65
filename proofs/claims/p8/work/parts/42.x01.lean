-- ===== contracts
-- readWay: 830 steps
def bkx49 : bC := (65, [some (.inr [.index 1]), some (.inl (-2147483648, 2147483647)), some (.inr [.index 314])], some (.inl (0, 1)), [(314, 314, 1, 1), (315, 315, 0, 3)], 1, [], [])
theorem btx49 : bchk bzf bIx bmpx bmqx bjn bgm blpx bspx bdgx bldx [] [] 30000 bkx49 = true := by decide +kernel
theorem bcx49 : bcon bZ bIx bTr bkx49 := bchk_ok bZ_len bzf_ok bTr_ok (fun _ q => absurd q List.not_mem_nil) (fun _ q => absurd q List.not_mem_nil) btx49
-- sayNay: 523 steps
def bkx50 : bC := (43, [some (.inr [.index 318, .index 320]), some (.inl (0, 0))], none, [(319, 319, 0, 11), (321, 321, 0, 11)], 1, [], [])
theorem btx50 : bchk bzf bIx bmpx bmqx bjn bgm blpx bspx bdgx bldx [bkx3] [] 30000 bkx50 = true := by decide +kernel
theorem bcx50 : bcon bZ bIx bTr bkx50 := bchk_ok bZ_len bzf_ok bTr_ok (List.forall_mem_cons.mpr ⟨bcx3, fun _ q => absurd q List.not_mem_nil⟩) (fun _ q => absurd q List.not_mem_nil) btx50
-- sayNay: 517 steps
def bkx51 : bC := (43, [some (.inr [.index 318, .index 320]), some (.inl (1, 1))], none, [(319, 319, 1, 1), (319, 319, 3, 3), (319, 319, 5, 5), (319, 319, 7, 7), (319, 319, 9, 9), (319, 319, 11, 11), (321, 321, 1, 1), (321, 321, 3, 3), (321, 321, 5, 5), (321, 321, 7, 7), (321, 321, 9, 9), (321, 321, 11, 11)], 1, [], [])
theorem btx51 : bchk bzf bIx bmpx bmqx bjn bgm blpx bspx bdgx bldx [bkx3] [] 30000 bkx51 = true := by decide +kernel
theorem bcx51 : bcon bZ bIx bTr bkx51 := bchk_ok bZ_len bzf_ok bTr_ok (List.forall_mem_cons.mpr ⟨bcx3, fun _ q => absurd q List.not_mem_nil⟩) (fun _ q => absurd q List.not_mem_nil) btx51
-- turnNumbers: 415 steps
def bkx52 : bC := (44, [some (.inr [.index 318, .index 320])], none, [(319, 319, 0, 11), (321, 321, 0, 11)], 1, [], [])
theorem btx52 : bchk bzf bIx bmpx bmqx bjn bgm blpx bspx bdgx bldx [bkx3] [] 30000 bkx52 = true := by decide +kernel
theorem bcx52 : bcon bZ bIx bTr bkx52 := bchk_ok bZ_len bzf_ok bTr_ok (List.forall_mem_cons.mpr ⟨bcx3, fun _ q => absurd q List.not_mem_nil⟩) (fun _ q => absurd q List.not_mem_nil) btx52
-- turnRound: 155 steps
def bkx53 : bC := (45, [some (.inr [.index 318, .index 320])], none, [(319, 319, 0, 11), (321, 321, 0, 11)], 0, [], [])
theorem btx53 : bchk bzf bIx bmpx bmqx bjn bgm blpx bspx bdgx bldx [] [] 30000 bkx53 = true := by decide +kernel
theorem bcx53 : bcon bZ bIx bTr bkx53 := bchk_ok bZ_len bzf_ok bTr_ok (fun _ q => absurd q List.not_mem_nil) (fun _ q => absurd q List.not_mem_nil) btx53
-- leaveOutEach: 266 steps
def bkx54 : bC := (46, [some (.inr [.index 318, .index 320]), some (.inl (0, 32))], none, [(318, 318, 1, 1), (319, 319, 0, 11), (320, 320, 1, 1), (321, 321, 0, 11)], 0, [], [])
theorem btx54 : bchk bzf bIx bmpx bmqx bjn bgm blpx bspx bdgx bldx [] [] 30000 bkx54 = true := by decide +kernel
theorem bcx54 : bcon bZ bIx bTr bkx54 := bchk_ok bZ_len bzf_ok bTr_ok (fun _ q => absurd q List.not_mem_nil) (fun _ q => absurd q List.not_mem_nil) btx54
-- workOut: 269 steps
def bkx55 : bC := (59, [some (.inr [.index 66]), some (.inr [.index 33])], some (.inl (-2147483648, 2147483647)), [(69, 69, 0, 59)], 1, [], [])
theorem btx55 : bchk bzf bIx bmpx bmqx bjn bgm blpx bspx bdgx bldx [] [] 30000 bkx55 = true := by decide +kernel
theorem bcx55 : bcon bZ bIx bTr bkx55 := bchk_ok bZ_len bzf_ok bTr_ok (fun _ q => absurd q List.not_mem_nil) (fun _ q => absurd q List.not_mem_nil) btx55
-- turnByText: 745 steps
def bkx56 : bC := (67, [some (.inr [.index 1]), some (.inr [.index 318, .index 320]), some (.inl (0, 20))], none, [(33, 33, 0, 3), (69, 69, 0, 59), (319, 319, 0, 11), (321, 321, 0, 11)], 2, [], [])
theorem btx56 : bchk bzf bIx bmpx bmqx bjn bgm blpx bspx bdgx bldx [bkx55] [] 30000 bkx56 = true := by decide +kernel
theorem bcx56 : bcon bZ bIx bTr bkx56 := bchk_ok bZ_len bzf_ok bTr_ok (List.forall_mem_cons.mpr ⟨bcx55, fun _ q => absurd q List.not_mem_nil⟩) (fun _ q => absurd q List.not_mem_nil) btx56
-- sendBack: 36 steps
def bkx57 : bC := (66, [some (.inr [.index 1]), some (.inr [.index 58, .index 59, .index 60, .index 61, .index 62, .index 63, .index 64, .index 65]), some (.inr [.index 318, .index 320])], none, [(33, 33, 0, 3), (69, 69, 0, 59), (318, 318, 1, 1), (319, 319, 0, 11), (320, 320, 1, 1), (321, 321, 0, 11)], 3, [], [])
theorem btx57 : bchk bzf bIx bmpx bmqx bjn bgm blpx bspx bdgx bldx [bkx50, bkx51, bkx52, bkx53, bkx54, bkx56] [] 30000 bkx57 = true := by decide +kernel
theorem bcx57 : bcon bZ bIx bTr bkx57 := bchk_ok bZ_len bzf_ok bTr_ok (List.forall_mem_cons.mpr ⟨bcx50, List.forall_mem_cons.mpr ⟨bcx51, List.forall_mem_cons.mpr ⟨bcx52, List.forall_mem_cons.mpr ⟨bcx53, List.forall_mem_cons.mpr ⟨bcx54, List.forall_mem_cons.mpr ⟨bcx56, fun _ q => absurd q List.not_mem_nil⟩⟩⟩⟩⟩⟩) (fun _ q => absurd q List.not_mem_nil) btx57
-- hear: 92 steps
def bkx58 : bC := (68, [some (.inr [.index 1]), some (.inr [.index 34, .index 36, .index 38, .index 40, .index 42, .index 44, .index 46, .index 48, .index 50, .index 52, .index 54, .index 56]), some (.inr [.index 314]), some (.inr [.index 318])], none, [(33, 33, 0, 3), (69, 69, 0, 59), (318, 318, 1, 1), (319, 319, 0, 11), (320, 320, 1, 1), (321, 321, 0, 11)], 4, [], [])
theorem btx58 : bchk bzf bIx bmpx bmqx bjn bgm blpx bspx bdgx bldx [bkx57] [] 30000 bkx58 = true := by decide +kernel
theorem bcx58 : bcon bZ bIx bTr bkx58 := bchk_ok bZ_len bzf_ok bTr_ok (List.forall_mem_cons.mpr ⟨bcx57, fun _ q => absurd q List.not_mem_nil⟩) (fun _ q => absurd q List.not_mem_nil) btx58
-- soundOrSize: 29 steps
def bkx59 : bC := (119, [some (.inr [.index 0]), some (.inr [.index 318, .index 320]), some (.inl (-2147483648, 2147483647))], some (.inl (-2147483648, 2147483647)), [(323, 323, 1, 1)], 1, [], [])
theorem btx59 : bchk bzf bIx bmpx bmqx bjn bgm blpx bspx bdgx bldx [bkx1] [] 30000 bkx59 = true := by decide +kernel
theorem bcx59 : bcon bZ bIx bTr bkx59 := bchk_ok bZ_len bzf_ok bTr_ok (List.forall_mem_cons.mpr ⟨bcx1, fun _ q => absurd q List.not_mem_nil⟩) (fun _ q => absurd q List.not_mem_nil) btx59
-- firstUnlike: 333 steps
def bkx60 : bC := (40, [some (.inr [.index 318, .index 320]), some (.inr [.index 34, .index 36, .index 38, .index 40, .index 42, .index 44, .index 46, .index 48, .index 50, .index 52, .index 54, .index 56])], some (.inl (-1, 12)), [], 0, [], [])
theorem btx60 : bchk bzf bIx bmpx bmqx bjn bgm blpx bspx bdgx bldx [] [] 30000 bkx60 = true := by decide +kernel
theorem bcx60 : bcon bZ bIx bTr bkx60 := bchk_ok bZ_len bzf_ok bTr_ok (fun _ q => absurd q List.not_mem_nil) (fun _ q => absurd q List.not_mem_nil) btx60
-- isLike: 9 steps
def bkx61 : bC := (41, [some (.inr [.index 318, .index 320]), some (.inr [.index 34, .index 36, .index 38, .index 40, .index 42, .index 44, .index 46, .index 48, .index 50, .index 52, .index 54, .index 56])], some (.inl (0, 1)), [], 1, [], [])
theorem btx61 : bchk bzf bIx bmpx bmqx bjn bgm blpx bspx bdgx bldx [bkx60] [] 30000 bkx61 = true := by decide +kernel
theorem bcx61 : bcon bZ bIx bTr bkx61 := bchk_ok bZ_len bzf_ok bTr_ok (List.forall_mem_cons.mpr ⟨bcx60, fun _ q => absurd q List.not_mem_nil⟩) (fun _ q => absurd q List.not_mem_nil) btx61
-- rocksThatMake: 411 steps
def bkx62 : bC := (128, [some (.inr [.index 0]), some (.inr [.index 34, .index 36, .index 38, .index 40, .index 42, .index 44, .index 46, .index 48, .index 50, .index 52, .index 54, .index 56]), some (.inr [.index 34, .index 36, .index 38, .index 40, .index 42, .index 44, .index 46, .index 48, .index 50, .index 52, .index 54, .index 56])], some (.inl (-2147483648, 2147483647)), [(33, 33, 0, 3), (69, 69, 0, 59), (318, 318, 1, 1), (319, 319, 0, 11), (320, 320, 1, 1), (321, 321, 0, 11)], 4, [], [])
theorem btx62 : bchk bzf bIx bmpx bmqx bjn bgm blpx bspx bdgx bldx [bkx61, bkx57] [] 30000 bkx62 = true := by decide +kernel
theorem bcx62 : bcon bZ bIx bTr bkx62 := bchk_ok bZ_len bzf_ok bTr_ok (List.forall_mem_cons.mpr ⟨bcx61, List.forall_mem_cons.mpr ⟨bcx57, fun _ q => absurd q List.not_mem_nil⟩⟩) (fun _ q => absurd q List.not_mem_nil) btx62
-- firstUnlike: 333 steps
def bkx63 : bC := (40, [some (.inr [.index 332, .index 334, .index 336, .index 34, .index 36, .index 38, .index 40, .index 42, .index 44, .index 46, .index 48, .index 50, .index 52, .index 54, .index 56]), some (.inr [.index 34, .index 36, .index 38, .index 40, .index 42, .index 44, .index 46, .index 48, .index 50, .index 52, .index 54, .index 56])], some (.inl (-1, 12)), [], 0, [], [])
theorem btx63 : bchk bzf bIx bmpx bmqx bjn bgm blpx bspx bdgx bldx [] [] 30000 bkx63 = true := by decide +kernel
theorem bcx63 : bcon bZ bIx bTr bkx63 := bchk_ok bZ_len bzf_ok bTr_ok (fun _ q => absurd q List.not_mem_nil) (fun _ q => absurd q List.not_mem_nil) btx63
-- isLike: 9 steps
def bkx64 : bC := (41, [some (.inr [.index 332, .index 334, .index 336, .index 34, .index 36, .index 38, .index 40, .index 42, .index 44, .index 46, .index 48, .index 50, .index 52, .index 54, .index 56]), some (.inr [.index 34, .index 36, .index 38, .index 40, .index 42, .index 44, .index 46, .index 48, .index 50, .index 52, .index 54, .index 56])], some (.inl (0, 1)), [], 1, [], [])
theorem btx64 : bchk bzf bIx bmpx bmqx bjn bgm blpx bspx bdgx bldx [bkx63] [] 30000 bkx64 = true := by decide +kernel
theorem bcx64 : bcon bZ bIx bTr bkx64 := bchk_ok bZ_len bzf_ok bTr_ok (List.forall_mem_cons.mpr ⟨bcx63, fun _ q => absurd q List.not_mem_nil⟩) (fun _ q => absurd q List.not_mem_nil) btx64
-- sayNay: 523 steps
def bkx65 : bC := (43, [some (.inr [.index 332, .index 334, .index 336]), some (.inl (0, 0))], none, [(333, 333, 0, 11), (335, 335, 0, 11), (337, 337, 0, 11)], 1, [], [])
theorem btx65 : bchk bzf bIx bmpx bmqx bjn bgm blpx bspx bdgx bldx [bkx3] [] 30000 bkx65 = true := by decide +kernel
theorem bcx65 : bcon bZ bIx bTr bkx65 := bchk_ok bZ_len bzf_ok bTr_ok (List.forall_mem_cons.mpr ⟨bcx3, fun _ q => absurd q List.not_mem_nil⟩) (fun _ q => absurd q List.not_mem_nil) btx65
-- sayNay: 517 steps
def bkx66 : bC := (43, [some (.inr [.index 332, .index 334, .index 336]), some (.inl (1, 1))], none, [(333, 333, 1, 1), (333, 333, 3, 3), (333, 333, 5, 5), (333, 333, 7, 7), (333, 333, 9, 9), (333, 333, 11, 11), (335, 335, 1, 1), (335, 335, 3, 3), (335, 335, 5, 5), (335, 335, 7, 7), (335, 335, 9, 9), (335, 335, 11, 11), (337, 337, 1, 1), (337, 337, 3, 3), (337, 337, 5, 5), (337, 337, 7, 7), (337, 337, 9, 9), (337, 337, 11, 11)], 1, [], [])
theorem btx66 : bchk bzf bIx bmpx bmqx bjn bgm blpx bspx bdgx bldx [bkx3] [] 30000 bkx66 = true := by decide +kernel
theorem bcx66 : bcon bZ bIx bTr bkx66 := bchk_ok bZ_len bzf_ok bTr_ok (List.forall_mem_cons.mpr ⟨bcx3, fun _ q => absurd q List.not_mem_nil⟩) (fun _ q => absurd q List.not_mem_nil) btx66
-- turnNumbers: 415 steps
def bkx67 : bC := (44, [some (.inr [.index 332, .index 334, .index 336])], none, [(333, 333, 0, 11), (335, 335, 0, 11), (337, 337, 0, 11)], 1, [], [])
theorem btx67 : bchk bzf bIx bmpx bmqx bjn bgm blpx bspx bdgx bldx [bkx3] [] 30000 bkx67 = true := by decide +kernel
theorem bcx67 : bcon bZ bIx bTr bkx67 := bchk_ok bZ_len bzf_ok bTr_ok (List.forall_mem_cons.mpr ⟨bcx3, fun _ q => absurd q List.not_mem_nil⟩) (fun _ q => absurd q List.not_mem_nil) btx67
-- turnRound: 155 steps
def bkx68 : bC := (45, [some (.inr [.index 332, .index 334, .index 336])], none, [(333, 333, 0, 11), (335, 335, 0, 11), (337, 337, 0, 11)], 0, [], [])
theorem btx68 : bchk bzf bIx bmpx bmqx bjn bgm blpx bspx bdgx bldx [] [] 30000 bkx68 = true := by decide +kernel
theorem bcx68 : bcon bZ bIx bTr bkx68 := bchk_ok bZ_len bzf_ok bTr_ok (fun _ q => absurd q List.not_mem_nil) (fun _ q => absurd q List.not_mem_nil) btx68
-- leaveOutEach: 266 steps
def bkx69 : bC := (46, [some (.inr [.index 332, .index 334, .index 336]), some (.inl (0, 32))], none, [(332, 332, 1, 1), (333, 333, 0, 11), (334, 334, 1, 1), (335, 335, 0, 11), (336, 336, 1, 1), (337, 337, 0, 11)], 0, [], [])
theorem btx69 : bchk bzf bIx bmpx bmqx bjn bgm blpx bspx bdgx bldx [] [] 30000 bkx69 = true := by decide +kernel
theorem bcx69 : bcon bZ bIx bTr bkx69 := bchk_ok bZ_len bzf_ok bTr_ok (fun _ q => absurd q List.not_mem_nil) (fun _ q => absurd q List.not_mem_nil) btx69
