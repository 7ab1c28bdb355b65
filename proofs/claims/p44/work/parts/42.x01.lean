-- ===== contracts
-- readWay: 830 steps
def bkx50 : bC := (65, [some (.inr [.index 1]), some (.inl (-2147483648, 2147483647)), some (.inr [.index 314])], some (.inl (0, 1)), [(314, 314, 1, 1), (315, 315, 0, 3)], 1, [], [])
theorem btx50 : bchk bzf bIx bmpx bmqx bjn bgm blpx bspx bdgx bldx [] [] 30000 bkx50 = true := by decide +kernel
theorem bcx50 : bcon bZ bIx bTr bkx50 := bchk_ok bZ_len bzf_ok bTr_ok (fun _ q => absurd q List.not_mem_nil) (fun _ q => absurd q List.not_mem_nil) btx50
-- copyFrom: 18 steps
def bkx51 : bC := (39, [some (.inr [.index 318, .index 320]), some (.inr [.index 34, .index 36, .index 38, .index 40, .index 42, .index 44, .index 46, .index 48, .index 50, .index 52, .index 54, .index 56])], none, [(318, 318, 1, 1), (319, 319, 0, 11), (320, 320, 1, 1), (321, 321, 0, 11)], 0, [], [])
theorem btx51 : bchk bzf bIx bmpx bmqx bjn bgm blpx bspx bdgx bldx [] [] 30000 bkx51 = true := by decide +kernel
theorem bcx51 : bcon bZ bIx bTr bkx51 := bchk_ok bZ_len bzf_ok bTr_ok (fun _ q => absurd q List.not_mem_nil) (fun _ q => absurd q List.not_mem_nil) btx51
-- sayNay: 46 steps
def bkx52 : bC := (43, [some (.inr [.index 318, .index 320]), some (.inl (0, 0))], none, [(319, 319, 0, 11), (321, 321, 0, 11)], 1, [], [])
theorem btx52 : bchk bzf bIx bmpx bmqx bjn bgm blpx bspx bdgx bldx [bkx3] [] 30000 bkx52 = true := by decide +kernel
theorem bcx52 : bcon bZ bIx bTr bkx52 := bchk_ok bZ_len bzf_ok bTr_ok (List.forall_mem_cons.mpr ⟨bcx3, fun _ q => absurd q List.not_mem_nil⟩) (fun _ q => absurd q List.not_mem_nil) btx52
-- sayNay: 52 steps
def bkx53 : bC := (43, [some (.inr [.index 318, .index 320]), some (.inl (1, 1))], none, [(319, 319, 0, 11), (321, 321, 0, 11)], 1, [], [])
theorem btx53 : bchk bzf bIx bmpx bmqx bjn bgm blpx bspx bdgx bldx [bkx3] [] 30000 bkx53 = true := by decide +kernel
theorem bcx53 : bcon bZ bIx bTr bkx53 := bchk_ok bZ_len bzf_ok bTr_ok (List.forall_mem_cons.mpr ⟨bcx3, fun _ q => absurd q List.not_mem_nil⟩) (fun _ q => absurd q List.not_mem_nil) btx53
-- turnNumbers: 37 steps
def bkx54 : bC := (44, [some (.inr [.index 318, .index 320])], none, [(319, 319, 0, 11), (321, 321, 0, 11)], 1, [], [])
theorem btx54 : bchk bzf bIx bmpx bmqx bjn bgm blpx bspx bdgx bldx [bkx3] [] 30000 bkx54 = true := by decide +kernel
theorem bcx54 : bcon bZ bIx bTr bkx54 := bchk_ok bZ_len bzf_ok bTr_ok (List.forall_mem_cons.mpr ⟨bcx3, fun _ q => absurd q List.not_mem_nil⟩) (fun _ q => absurd q List.not_mem_nil) btx54
-- turnRound: 155 steps
def bkx55 : bC := (45, [some (.inr [.index 318, .index 320])], none, [(319, 319, 0, 11), (321, 321, 0, 11)], 0, [], [])
theorem btx55 : bchk bzf bIx bmpx bmqx bjn bgm blpx bspx bdgx bldx [] [] 30000 bkx55 = true := by decide +kernel
theorem bcx55 : bcon bZ bIx bTr bkx55 := bchk_ok bZ_len bzf_ok bTr_ok (fun _ q => absurd q List.not_mem_nil) (fun _ q => absurd q List.not_mem_nil) btx55
-- leaveOutEach: 266 steps
def bkx56 : bC := (46, [some (.inr [.index 318, .index 320]), some (.inl (0, 32))], none, [(318, 318, 1, 1), (319, 319, 0, 11), (320, 320, 1, 1), (321, 321, 0, 11)], 0, [], [])
theorem btx56 : bchk bzf bIx bmpx bmqx bjn bgm blpx bspx bdgx bldx [] [] 30000 bkx56 = true := by decide +kernel
theorem bcx56 : bcon bZ bIx bTr bkx56 := bchk_ok bZ_len bzf_ok bTr_ok (fun _ q => absurd q List.not_mem_nil) (fun _ q => absurd q List.not_mem_nil) btx56
-- workOut: 269 steps
def bkx57 : bC := (59, [some (.inr [.index 66]), some (.inr [.index 33])], some (.inl (-2147483648, 2147483647)), [(69, 69, 0, 59)], 1, [], [])
theorem btx57 : bchk bzf bIx bmpx bmqx bjn bgm blpx bspx bdgx bldx [] [] 30000 bkx57 = true := by decide +kernel
theorem bcx57 : bcon bZ bIx bTr bkx57 := bchk_ok bZ_len bzf_ok bTr_ok (fun _ q => absurd q List.not_mem_nil) (fun _ q => absurd q List.not_mem_nil) btx57
-- turnByText: 92 steps
def bkx58 : bC := (67, [some (.inr [.index 1]), some (.inr [.index 318, .index 320]), some (.inl (0, 20))], none, [(33, 33, 0, 3), (69, 69, 0, 59), (319, 319, 0, 11), (321, 321, 0, 11)], 2, [], [])
theorem btx58 : bchk bzf bIx bmpx bmqx bjn bgm blpx bspx bdgx bldx [bkx57] [] 30000 bkx58 = true := by decide +kernel
theorem bcx58 : bcon bZ bIx bTr bkx58 := bchk_ok bZ_len bzf_ok bTr_ok (List.forall_mem_cons.mpr ⟨bcx57, fun _ q => absurd q List.not_mem_nil⟩) (fun _ q => absurd q List.not_mem_nil) btx58
-- sendBack: 36 steps
def bkx59 : bC := (66, [some (.inr [.index 1]), some (.inr [.index 58, .index 59, .index 60, .index 61, .index 62, .index 63, .index 64, .index 65]), some (.inr [.index 318, .index 320])], none, [(33, 33, 0, 3), (69, 69, 0, 59), (318, 318, 1, 1), (319, 319, 0, 11), (320, 320, 1, 1), (321, 321, 0, 11)], 3, [], [])
theorem btx59 : bchk bzf bIx bmpx bmqx bjn bgm blpx bspx bdgx bldx [bkx52, bkx53, bkx54, bkx55, bkx56, bkx58] [] 30000 bkx59 = true := by decide +kernel
theorem bcx59 : bcon bZ bIx bTr bkx59 := bchk_ok bZ_len bzf_ok bTr_ok (List.forall_mem_cons.mpr ⟨bcx52, List.forall_mem_cons.mpr ⟨bcx53, List.forall_mem_cons.mpr ⟨bcx54, List.forall_mem_cons.mpr ⟨bcx55, List.forall_mem_cons.mpr ⟨bcx56, List.forall_mem_cons.mpr ⟨bcx58, fun _ q => absurd q List.not_mem_nil⟩⟩⟩⟩⟩⟩) (fun _ q => absurd q List.not_mem_nil) btx59
-- hear: 74 steps
def bkx60 : bC := (68, [some (.inr [.index 1]), some (.inr [.index 34, .index 36, .index 38, .index 40, .index 42, .index 44, .index 46, .index 48, .index 50, .index 52, .index 54, .index 56]), some (.inr [.index 314]), some (.inr [.index 318])], none, [(33, 33, 0, 3), (69, 69, 0, 59), (318, 318, 1, 1), (319, 319, 0, 11), (320, 320, 1, 1), (321, 321, 0, 11)], 4, [], [])
theorem btx60 : bchk bzf bIx bmpx bmqx bjn bgm blpx bspx bdgx bldx [bkx51, bkx59] [] 30000 bkx60 = true := by decide +kernel
theorem bcx60 : bcon bZ bIx bTr bkx60 := bchk_ok bZ_len bzf_ok bTr_ok (List.forall_mem_cons.mpr ⟨bcx51, List.forall_mem_cons.mpr ⟨bcx59, fun _ q => absurd q List.not_mem_nil⟩⟩) (fun _ q => absurd q List.not_mem_nil) btx60
-- soundOrSize: 29 steps
def bkx61 : bC := (119, [some (.inr [.index 0]), some (.inr [.index 318, .index 320]), some (.inl (-2147483648, 2147483647))], some (.inl (-2147483648, 2147483647)), [(323, 323, 1, 1)], 1, [], [])
theorem btx61 : bchk bzf bIx bmpx bmqx bjn bgm blpx bspx bdgx bldx [bkx1] [] 30000 bkx61 = true := by decide +kernel
theorem bcx61 : bcon bZ bIx bTr bkx61 := bchk_ok bZ_len bzf_ok bTr_ok (List.forall_mem_cons.mpr ⟨bcx1, fun _ q => absurd q List.not_mem_nil⟩) (fun _ q => absurd q List.not_mem_nil) btx61
-- firstUnlike: 34 steps
def bkx62 : bC := (40, [some (.inr [.index 318, .index 320]), some (.inr [.index 34, .index 36, .index 38, .index 40, .index 42, .index 44, .index 46, .index 48, .index 50, .index 52, .index 54, .index 56])], some (.inl (-1, 12)), [], 0, [], [])
theorem btx62 : bchk bzf bIx bmpx bmqx bjn bgm blpx bspx bdgx bldx [] [] 30000 bkx62 = true := by decide +kernel
theorem bcx62 : bcon bZ bIx bTr bkx62 := bchk_ok bZ_len bzf_ok bTr_ok (fun _ q => absurd q List.not_mem_nil) (fun _ q => absurd q List.not_mem_nil) btx62
-- isLike: 9 steps
def bkx63 : bC := (41, [some (.inr [.index 318, .index 320]), some (.inr [.index 34, .index 36, .index 38, .index 40, .index 42, .index 44, .index 46, .index 48, .index 50, .index 52, .index 54, .index 56])], some (.inl (0, 1)), [], 1, [], [])
theorem btx63 : bchk bzf bIx bmpx bmqx bjn bgm blpx bspx bdgx bldx [bkx62] [] 30000 bkx63 = true := by decide +kernel
theorem bcx63 : bcon bZ bIx bTr bkx63 := bchk_ok bZ_len bzf_ok bTr_ok (List.forall_mem_cons.mpr ⟨bcx62, fun _ q => absurd q List.not_mem_nil⟩) (fun _ q => absurd q List.not_mem_nil) btx63
-- copyFrom: 18 steps
def bkx64 : bC := (39, [some (.inr [.index 34, .index 36, .index 38, .index 40, .index 42, .index 44, .index 46, .index 48, .index 50, .index 52, .index 54, .index 56]), some (.inr [.index 318, .index 320])], none, [(34, 57, 0, 11)], 0, [], [])
theorem btx64 : bchk bzf bIx bmpx bmqx bjn bgm blpx bspx bdgx bldx [] [] 30000 bkx64 = true := by decide +kernel
theorem bcx64 : bcon bZ bIx bTr bkx64 := bchk_ok bZ_len bzf_ok bTr_ok (fun _ q => absurd q List.not_mem_nil) (fun _ q => absurd q List.not_mem_nil) btx64
-- rocksThatMake: 267 steps
def bkx65 : bC := (128, [some (.inr [.index 0]), some (.inr [.index 34, .index 36, .index 38, .index 40, .index 42, .index 44, .index 46, .index 48, .index 50, .index 52, .index 54, .index 56]), some (.inr [.index 34, .index 36, .index 38, .index 40, .index 42, .index 44, .index 46, .index 48, .index 50, .index 52, .index 54, .index 56])], some (.inl (-2147483648, 2147483647)), [(33, 33, 0, 3), (69, 69, 0, 59), (318, 318, 1, 1), (319, 319, 0, 11), (320, 320, 1, 1), (321, 321, 0, 11)], 4, [], [])
theorem btx65 : bchk bzf bIx bmpx bmqx bjn bgm blpx bspx bdgx bldx [bkx51, bkx63, bkx59] [] 30000 bkx65 = true := by decide +kernel
theorem bcx65 : bcon bZ bIx bTr bkx65 := bchk_ok bZ_len bzf_ok bTr_ok (List.forall_mem_cons.mpr ⟨bcx51, List.forall_mem_cons.mpr ⟨bcx63, List.forall_mem_cons.mpr ⟨bcx59, fun _ q => absurd q List.not_mem_nil⟩⟩⟩) (fun _ q => absurd q List.not_mem_nil) btx65
-- firstUnlike: 34 steps
def bkx66 : bC := (40, [some (.inr [.index 332, .index 334, .index 336, .index 34, .index 36, .index 38, .index 40, .index 42, .index 44, .index 46, .index 48, .index 50, .index 52, .index 54, .index 56]), some (.inr [.index 34, .index 36, .index 38, .index 40, .index 42, .index 44, .index 46, .index 48, .index 50, .index 52, .index 54, .index 56])], some (.inl (-1, 12)), [], 0, [], [])
theorem btx66 : bchk bzf bIx bmpx bmqx bjn bgm blpx bspx bdgx bldx [] [] 30000 bkx66 = true := by decide +kernel
theorem bcx66 : bcon bZ bIx bTr bkx66 := bchk_ok bZ_len bzf_ok bTr_ok (fun _ q => absurd q List.not_mem_nil) (fun _ q => absurd q List.not_mem_nil) btx66
-- isLike: 9 steps
def bkx67 : bC := (41, [some (.inr [.index 332, .index 334, .index 336, .index 34, .index 36, .index 38, .index 40, .index 42, .index 44, .index 46, .index 48, .index 50, .index 52, .index 54, .index 56]), some (.inr [.index 34, .index 36, .index 38, .index 40, .index 42, .index 44, .index 46, .index 48, .index 50, .index 52, .index 54, .index 56])], some (.inl (0, 1)), [], 1, [], [])
theorem btx67 : bchk bzf bIx bmpx bmqx bjn bgm blpx bspx bdgx bldx [bkx66] [] 30000 bkx67 = true := by decide +kernel
theorem bcx67 : bcon bZ bIx bTr bkx67 := bchk_ok bZ_len bzf_ok bTr_ok (List.forall_mem_cons.mpr ⟨bcx66, fun _ q => absurd q List.not_mem_nil⟩) (fun _ q => absurd q List.not_mem_nil) btx67
-- copyFrom: 18 steps
def bkx68 : bC := (39, [some (.inr [.index 332, .index 334, .index 336]), some (.inr [.index 332, .index 334, .index 336, .index 34, .index 36, .index 38, .index 40, .index 42, .index 44, .index 46, .index 48, .index 50, .index 52, .index 54, .index 56])], none, [(332, 332, 1, 1), (333, 333, 0, 11), (334, 334, 1, 1), (335, 335, 0, 11), (336, 336, 1, 1), (337, 337, 0, 11)], 0, [], [])
theorem btx68 : bchk bzf bIx bmpx bmqx bjn bgm blpx bspx bdgx bldx [] [] 30000 bkx68 = true := by decide +kernel
theorem bcx68 : bcon bZ bIx bTr bkx68 := bchk_ok bZ_len bzf_ok bTr_ok (fun _ q => absurd q List.not_mem_nil) (fun _ q => absurd q List.not_mem_nil) btx68
-- sayNay: 46 steps
def bkx69 : bC := (43, [some (.inr [.index 332, .index 334, .index 336]), some (.inl (0, 0))], none, [(333, 333, 0, 11), (335, 335, 0, 11), (337, 337, 0, 11)], 1, [], [])
theorem btx69 : bchk bzf bIx bmpx bmqx bjn bgm blpx bspx bdgx bldx [bkx3] [] 30000 bkx69 = true := by decide +kernel
theorem bcx69 : bcon bZ bIx bTr bkx69 := bchk_ok bZ_len bzf_ok bTr_ok (List.forall_mem_cons.mpr ⟨bcx3, fun _ q => absurd q List.not_mem_nil⟩) (fun _ q => absurd q List.not_mem_nil) btx69
-- sayNay: 52 steps
def bkx70 : bC := (43, [some (.inr [.index 332, .index 334, .index 336]), some (.inl (1, 1))], none, [(333, 333, 0, 11), (335, 335, 0, 11), (337, 337, 0, 11)], 1, [], [])
theorem btx70 : bchk bzf bIx bmpx bmqx bjn bgm blpx bspx bdgx bldx [bkx3] [] 30000 bkx70 = true := by decide +kernel
theorem bcx70 : bcon bZ bIx bTr bkx70 := bchk_ok bZ_len bzf_ok bTr_ok (List.forall_mem_cons.mpr ⟨bcx3, fun _ q => absurd q List.not_mem_nil⟩) (fun _ q => absurd q List.not_mem_nil) btx70
-- turnNumbers: 37 steps
def bkx71 : bC := (44, [some (.inr [.index 332, .index 334, .index 336])], none, [(333, 333, 0, 11), (335, 335, 0, 11), (337, 337, 0, 11)], 1, [], [])
theorem btx71 : bchk bzf bIx bmpx bmqx bjn bgm blpx bspx bdgx bldx [bkx3] [] 30000 bkx71 = true := by decide +kernel
theorem bcx71 : bcon bZ bIx bTr bkx71 := bchk_ok bZ_len bzf_ok bTr_ok (List.forall_mem_cons.mpr ⟨bcx3, fun _ q => absurd q List.not_mem_nil⟩) (fun _ q => absurd q List.not_mem_nil) btx71
-- turnRound: 155 steps
def bkx72 : bC := (45, [some (.inr [.index 332, .index 334, .index 336])], none, [(333, 333, 0, 11), (335, 335, 0, 11), (337, 337, 0, 11)], 0, [], [])
theorem btx72 : bchk bzf bIx bmpx bmqx bjn bgm blpx bspx bdgx bldx [] [] 30000 bkx72 = true := by decide +kernel
theorem bcx72 : bcon bZ bIx bTr bkx72 := bchk_ok bZ_len bzf_ok bTr_ok (fun _ q => absurd q List.not_mem_nil) (fun _ q => absurd q List.not_mem_nil) btx72
-- leaveOutEach: 266 steps
def bkx73 : bC := (46, [some (.inr [.index 332, .index 334, .index 336]), some (.inl (0, 32))], none, [(332, 332, 1, 1), (333, 333, 0, 11), (334, 334, 1, 1), (335, 335, 0, 11), (336, 336, 1, 1), (337, 337, 0, 11)], 0, [], [])
theorem btx73 : bchk bzf bIx bmpx bmqx bjn bgm blpx bspx bdgx bldx [] [] 30000 bkx73 = true := by decide +kernel
theorem bcx73 : bcon bZ bIx bTr bkx73 := bchk_ok bZ_len bzf_ok bTr_ok (fun _ q => absurd q List.not_mem_nil) (fun _ q => absurd q List.not_mem_nil) btx73
-- turnByText: 92 steps
def bkx74 : bC := (67, [some (.inr [.index 1]), some (.inr [.index 332, .index 334, .index 336]), some (.inl (0, 20))], none, [(33, 33, 0, 3), (69, 69, 0, 59), (333, 333, 0, 11), (335, 335, 0, 11), (337, 337, 0, 11)], 2, [], [])
theorem btx74 : bchk bzf bIx bmpx bmqx bjn bgm blpx bspx bdgx bldx [bkx57] [] 30000 bkx74 = true := by decide +kernel
theorem bcx74 : bcon bZ bIx bTr bkx74 := bchk_ok bZ_len bzf_ok bTr_ok (List.forall_mem_cons.mpr ⟨bcx57, fun _ q => absurd q List.not_mem_nil⟩) (fun _ q => absurd q List.not_mem_nil) btx74
-- sendBack: 36 steps
def bkx75 : bC := (66, [some (.inr [.index 1]), some (.inr [.index 58, .index 59, .index 60, .index 61, .index 62, .index 63, .index 64, .index 65]), some (.inr [.index 332, .index 334, .index 336])], none, [(33, 33, 0, 3), (69, 69, 0, 59), (332, 332, 1, 1), (333, 333, 0, 11), (334, 334, 1, 1), (335, 335, 0, 11), (336, 336, 1, 1), (337, 337, 0, 11)], 3, [], [])
theorem btx75 : bchk bzf bIx bmpx bmqx bjn bgm blpx bspx bdgx bldx [bkx69, bkx70, bkx71, bkx72, bkx73, bkx74] [] 30000 bkx75 = true := by decide +kernel
theorem bcx75 : bcon bZ bIx bTr bkx75 := bchk_ok bZ_len bzf_ok bTr_ok (List.forall_mem_cons.mpr ⟨bcx69, List.forall_mem_cons.mpr ⟨bcx70, List.forall_mem_cons.mpr ⟨bcx71, List.forall_mem_cons.mpr ⟨bcx72, List.forall_mem_cons.mpr ⟨bcx73, List.forall_mem_cons.mpr ⟨bcx74, fun _ q => absurd q List.not_mem_nil⟩⟩⟩⟩⟩⟩) (fun _ q => absurd q List.not_mem_nil) btx75
-- waysTo: 13 steps
def bkx76 : bC := (129, [some (.inr [.index 0]), some (.inr [.index 332, .index 334, .index 336, .index 34, .index 36, .index 38, .index 40, .index 42, .index 44, .index 46, .index 48, .index 50, .index 52, .index 54, .index 56]), some (.inr [.index 34, .index 36, .index 38, .index 40, .index 42, .index 44, .index 46, .index 48, .index 50, .index 52, .index 54, .index 56]), some (.inl (0, 0))], some (.inl (0, 1)), [], 2, [], [])
theorem btx76 : bchk bzf bIx bmpx bmqx bjn bgm blpx bspx bdgx bldx [bkx67] [] 30000 bkx76 = true := by decide +kernel
theorem bcx76 : bcon bZ bIx bTr bkx76 := bchk_ok bZ_len bzf_ok bTr_ok (List.forall_mem_cons.mpr ⟨bcx67, fun _ q => absurd q List.not_mem_nil⟩) (fun _ q => absurd q List.not_mem_nil) btx76
-- waysTo: 266 steps
def bkx77 : bC := (129, [some (.inr [.index 0]), some (.inr [.index 332, .index 334, .index 336, .index 34, .index 36, .index 38, .index 40, .index 42, .index 44, .index 46, .index 48, .index 50, .index 52, .index 54, .index 56]), some (.inr [.index 34, .index 36, .index 38, .index 40, .index 42, .index 44, .index 46, .index 48, .index 50, .index 52, .index 54, .index 56]), some (.inl (0, 1))], some (.inl (0, 9)), [(33, 33, 0, 3), (69, 69, 0, 59), (332, 332, 1, 1), (333, 333, 0, 11), (334, 334, 1, 1), (335, 335, 0, 11), (336, 336, 1, 1), (337, 337, 0, 11)], 4, [], [])
theorem btx77 : bchk bzf bIx bmpx bmqx bjn bgm blpx bspx bdgx bldx [bkx68, bkx67, bkx75, bkx76] [] 30000 bkx77 = true := by decide +kernel
theorem bcx77 : bcon bZ bIx bTr bkx77 := bchk_ok bZ_len bzf_ok bTr_ok (List.forall_mem_cons.mpr ⟨bcx68, List.forall_mem_cons.mpr ⟨bcx67, List.forall_mem_cons.mpr ⟨bcx75, List.forall_mem_cons.mpr ⟨bcx76, fun _ q => absurd q List.not_mem_nil⟩⟩⟩⟩) (fun _ q => absurd q List.not_mem_nil) btx77
-- waysTo: 266 steps
def bkx78 : bC := (129, [some (.inr [.index 0]), some (.inr [.index 332, .index 334, .index 336, .index 34, .index 36, .index 38, .index 40, .index 42, .index 44, .index 46, .index 48, .index 50, .index 52, .index 54, .index 56]), some (.inr [.index 34, .index 36, .index 38, .index 40, .index 42, .index 44, .index 46, .index 48, .index 50, .index 52, .index 54, .index 56]), some (.inl (0, 2))], some (.inl (0, 73)), [(33, 33, 0, 3), (69, 69, 0, 59), (332, 332, 1, 1), (333, 333, 0, 11), (334, 334, 1, 1), (335, 335, 0, 11), (336, 336, 1, 1), (337, 337, 0, 11)], 5, [], [])
theorem btx78 : bchk bzf bIx bmpx bmqx bjn bgm blpx bspx bdgx bldx [bkx68, bkx67, bkx75, bkx77] [] 30000 bkx78 = true := by decide +kernel
theorem bcx78 : bcon bZ bIx bTr bkx78 := bchk_ok bZ_len bzf_ok bTr_ok (List.forall_mem_cons.mpr ⟨bcx68, List.forall_mem_cons.mpr ⟨bcx67, List.forall_mem_cons.mpr ⟨bcx75, List.forall_mem_cons.mpr ⟨bcx77, fun _ q => absurd q List.not_mem_nil⟩⟩⟩⟩) (fun _ q => absurd q List.not_mem_nil) btx78
-- waysTo: 266 steps
def bkx79 : bC := (129, [some (.inr [.index 0]), some (.inr [.index 332, .index 334, .index 336, .index 34, .index 36, .index 38, .index 40, .index 42, .index 44, .index 46, .index 48, .index 50, .index 52, .index 54, .index 56]), some (.inr [.index 34, .index 36, .index 38, .index 40, .index 42, .index 44, .index 46, .index 48, .index 50, .index 52, .index 54, .index 56]), some (.inl (0, 3))], some (.inl (0, 585)), [(33, 33, 0, 3), (69, 69, 0, 59), (332, 332, 1, 1), (333, 333, 0, 11), (334, 334, 1, 1), (335, 335, 0, 11), (336, 336, 1, 1), (337, 337, 0, 11)], 6, [], [])
theorem btx79 : bchk bzf bIx bmpx bmqx bjn bgm blpx bspx bdgx bldx [bkx68, bkx67, bkx75, bkx78] [] 30000 bkx79 = true := by decide +kernel
theorem bcx79 : bcon bZ bIx bTr bkx79 := bchk_ok bZ_len bzf_ok bTr_ok (List.forall_mem_cons.mpr ⟨bcx68, List.forall_mem_cons.mpr ⟨bcx67, List.forall_mem_cons.mpr ⟨bcx75, List.forall_mem_cons.mpr ⟨bcx78, fun _ q => absurd q List.not_mem_nil⟩⟩⟩⟩) (fun _ q => absurd q List.not_mem_nil) btx79
-- error: 12 steps
def bkx80 : bC := (118, [some (.inr [.index 0]), some (.inl (3, 3))], some (.inl (-1000003, -1000003)), [(323, 323, 3, 3)], 0, [], [])
theorem btx80 : bchk bzf bIx bmpx bmqx bjn bgm blpx bspx bdgx bldx [] [] 30000 bkx80 = true := by decide +kernel
theorem bcx80 : bcon bZ bIx bTr bkx80 := bchk_ok bZ_len bzf_ok bTr_ok (fun _ q => absurd q List.not_mem_nil) (fun _ q => absurd q List.not_mem_nil) btx80
-- firstUnlike: 34 steps
def bkx81 : bC := (40, [some (.inr [.index 157, .index 159, .index 161, .index 163, .index 165, .index 167, .index 169, .index 171, .index 173, .index 175, .index 177, .index 179, .index 181, .index 183, .index 185, .index 187, .index 189, .index 191, .index 193, .index 195, .index 197, .index 199, .index 201, .index 203, .index 205, .index 207, .index 209, .index 211, .index 213, .index 215, .index 217, .index 219, .index 221, .index 223, .index 225, .index 227, .index 229, .index 231, .index 233, .index 235, .index 237, .index 239, .index 241, .index 243, .index 245, .index 247, .index 249, .index 251, .index 253, .index 255, .index 257, .index 259, .index 261, .index 263, .index 265, .index 267, .index 269, .index 271, .index 273, .index 275, .index 277, .index 279, .index 281, .index 283, .index 285, .index 287, .index 289, .index 291, .index 293, .index 295, .index 297, .index 299, .index 301, .index 303]), some (.inr [.index 34, .index 36, .index 38, .index 40, .index 42, .index 44, .index 46, .index 48, .index 50, .index 52, .index 54, .index 56])], some (.inl (-1, 12)), [], 0, [], [])
theorem btx81 : bchk bzf bIx bmpx bmqx bjn bgm blpx bspx bdgx bldx [] [] 30000 bkx81 = true := by decide +kernel
theorem bcx81 : bcon bZ bIx bTr bkx81 := bchk_ok bZ_len bzf_ok bTr_ok (fun _ q => absurd q List.not_mem_nil) (fun _ q => absurd q List.not_mem_nil) btx81
-- isLike: 9 steps
def bkx82 : bC := (41, [some (.inr [.index 157, .index 159, .index 161, .index 163, .index 165, .index 167, .index 169, .index 171, .index 173, .index 175, .index 177, .index 179, .index 181, .index 183, .index 185, .index 187, .index 189, .index 191, .index 193, .index 195, .index 197, .index 199, .index 201, .index 203, .index 205, .index 207, .index 209, .index 211, .index 213, .index 215, .index 217, .index 219, .index 221, .index 223, .index 225, .index 227, .index 229, .index 231, .index 233, .index 235, .index 237, .index 239, .index 241, .index 243, .index 245, .index 247, .index 249, .index 251, .index 253, .index 255, .index 257, .index 259, .index 261, .index 263, .index 265, .index 267, .index 269, .index 271, .index 273, .index 275, .index 277, .index 279, .index 281, .index 283, .index 285, .index 287, .index 289, .index 291, .index 293, .index 295, .index 297, .index 299, .index 301, .index 303]), some (.inr [.index 34, .index 36, .index 38, .index 40, .index 42, .index 44, .index 46, .index 48, .index 50, .index 52, .index 54, .index 56])], some (.inl (0, 1)), [], 1, [], [])
theorem btx82 : bchk bzf bIx bmpx bmqx bjn bgm blpx bspx bdgx bldx [bkx81] [] 30000 bkx82 = true := by decide +kernel
theorem bcx82 : bcon bZ bIx bTr bkx82 := bchk_ok bZ_len bzf_ok bTr_ok (List.forall_mem_cons.mpr ⟨bcx81, fun _ q => absurd q List.not_mem_nil⟩) (fun _ q => absurd q List.not_mem_nil) btx82
-- copyFrom: 18 steps
def bkx83 : bC := (39, [some (.inr [.index 157, .index 159, .index 161, .index 163, .index 165, .index 167, .index 169, .index 171, .index 173, .index 175, .index 177, .index 179, .index 181, .index 183, .index 185, .index 187, .index 189, .index 191, .index 193, .index 195, .index 197, .index 199, .index 201, .index 203, .index 205, .index 207, .index 209, .index 211, .index 213, .index 215, .index 217, .index 219, .index 221, .index 223, .index 225, .index 227, .index 229, .index 231, .index 233, .index 235, .index 237, .index 239, .index 241, .index 243, .index 245, .index 247, .index 249, .index 251, .index 253, .index 255, .index 257, .index 259, .index 261, .index 263, .index 265, .index 267, .index 269, .index 271, .index 273, .index 275, .index 277, .index 279, .index 281, .index 283, .index 285, .index 287, .index 289, .index 291, .index 293, .index 295, .index 297, .index 299, .index 301, .index 303]), some (.inr [.index 34, .index 36, .index 38, .index 40, .index 42, .index 44, .index 46, .index 48, .index 50, .index 52, .index 54, .index 56])], none, [(157, 304, 0, 11)], 0, [], [])
theorem btx83 : bchk bzf bIx bmpx bmqx bjn bgm blpx bspx bdgx bldx [] [] 30000 bkx83 = true := by decide +kernel
theorem bcx83 : bcon bZ bIx bTr bkx83 := bchk_ok bZ_len bzf_ok bTr_ok (fun _ q => absurd q List.not_mem_nil) (fun _ q => absurd q List.not_mem_nil) btx83
-- addIfUnlike: 34 steps
def bkx84 : bC := (18, [some (.inr [.index 155]), some (.inr [.index 34, .index 36, .index 38, .index 40, .index 42, .index 44, .index 46, .index 48, .index 50, .index 52, .index 54, .index 56])], none, [(155, 155, 2, 2), (157, 304, 0, 11)], 2, [], [])
theorem btx84 : bchk bzf bIx bmpx bmqx bjn bgm blpx bspx bdgx bldx [bkx83, bkx82] [] 30000 bkx84 = true := by decide +kernel
theorem bcx84 : bcon bZ bIx bTr bkx84 := bchk_ok bZ_len bzf_ok bTr_ok (List.forall_mem_cons.mpr ⟨bcx83, List.forall_mem_cons.mpr ⟨bcx82, fun _ q => absurd q List.not_mem_nil⟩⟩) (fun _ q => absurd q List.not_mem_nil) btx84
-- copyFrom: 18 steps
def bkx85 : bC := (39, [some (.inr [.index 157, .index 159, .index 161, .index 163, .index 165, .index 167, .index 169, .index 171, .index 173, .index 175, .index 177, .index 179, .index 181, .index 183, .index 185, .index 187, .index 189, .index 191, .index 193, .index 195, .index 197, .index 199, .index 201, .index 203, .index 205, .index 207, .index 209, .index 211, .index 213, .index 215, .index 217, .index 219, .index 221, .index 223, .index 225, .index 227, .index 229, .index 231, .index 233, .index 235, .index 237, .index 239, .index 241, .index 243, .index 245, .index 247, .index 249, .index 251, .index 253, .index 255, .index 257, .index 259, .index 261, .index 263, .index 265, .index 267, .index 269, .index 271, .index 273, .index 275, .index 277, .index 279, .index 281, .index 283, .index 285, .index 287, .index 289, .index 291, .index 293, .index 295, .index 297, .index 299, .index 301, .index 303]), some (.inr [.index 157, .index 159, .index 161, .index 163, .index 165, .index 167, .index 169, .index 171, .index 173, .index 175, .index 177, .index 179, .index 181, .index 183, .index 185, .index 187, .index 189, .index 191, .index 193, .index 195, .index 197, .index 199, .index 201, .index 203, .index 205, .index 207, .index 209, .index 211, .index 213, .index 215, .index 217, .index 219, .index 221, .index 223, .index 225, .index 227, .index 229, .index 231, .index 233, .index 235, .index 237, .index 239, .index 241, .index 243, .index 245, .index 247, .index 249, .index 251, .index 253, .index 255, .index 257, .index 259, .index 261, .index 263, .index 265, .index 267, .index 269, .index 271, .index 273, .index 275, .index 277, .index 279, .index 281, .index 283, .index 285, .index 287, .index 289, .index 291, .index 293, .index 295, .index 297, .index 299, .index 301, .index 303])], none, [(157, 304, 0, 11)], 0, [], [])
theorem btx85 : bchk bzf bIx bmpx bmqx bjn bgm blpx bspx bdgx bldx [] [] 30000 bkx85 = true := by decide +kernel
theorem bcx85 : bcon bZ bIx bTr bkx85 := bchk_ok bZ_len bzf_ok bTr_ok (fun _ q => absurd q List.not_mem_nil) (fun _ q => absurd q List.not_mem_nil) btx85
-- sayNay: 46 steps
def bkx86 : bC := (43, [some (.inr [.index 157]), some (.inl (0, 0))], none, [(158, 158, 0, 11)], 1, [], [])
theorem btx86 : bchk bzf bIx bmpx bmqx bjn bgm blpx bspx bdgx bldx [bkx3] [] 30000 bkx86 = true := by decide +kernel
theorem bcx86 : bcon bZ bIx bTr bkx86 := bchk_ok bZ_len bzf_ok bTr_ok (List.forall_mem_cons.mpr ⟨bcx3, fun _ q => absurd q List.not_mem_nil⟩) (fun _ q => absurd q List.not_mem_nil) btx86
-- sayNay: 52 steps
def bkx87 : bC := (43, [some (.inr [.index 157]), some (.inl (1, 1))], none, [(158, 158, 0, 11)], 1, [], [])
theorem btx87 : bchk bzf bIx bmpx bmqx bjn bgm blpx bspx bdgx bldx [bkx3] [] 30000 bkx87 = true := by decide +kernel
theorem bcx87 : bcon bZ bIx bTr bkx87 := bchk_ok bZ_len bzf_ok bTr_ok (List.forall_mem_cons.mpr ⟨bcx3, fun _ q => absurd q List.not_mem_nil⟩) (fun _ q => absurd q List.not_mem_nil) btx87
-- turnNumbers: 37 steps
def bkx88 : bC := (44, [some (.inr [.index 157])], none, [(158, 158, 0, 11)], 1, [], [])
theorem btx88 : bchk bzf bIx bmpx bmqx bjn bgm blpx bspx bdgx bldx [bkx3] [] 30000 bkx88 = true := by decide +kernel
theorem bcx88 : bcon bZ bIx bTr bkx88 := bchk_ok bZ_len bzf_ok bTr_ok (List.forall_mem_cons.mpr ⟨bcx3, fun _ q => absurd q List.not_mem_nil⟩) (fun _ q => absurd q List.not_mem_nil) btx88
-- turnRound: 150 steps
def bkx89 : bC := (45, [some (.inr [.index 157])], none, [(158, 158, 0, 11)], 0, [], [])
theorem btx89 : bchk bzf bIx bmpx bmqx bjn bgm blpx bspx bdgx bldx [] [] 30000 bkx89 = true := by decide +kernel
theorem bcx89 : bcon bZ bIx bTr bkx89 := bchk_ok bZ_len bzf_ok bTr_ok (fun _ q => absurd q List.not_mem_nil) (fun _ q => absurd q List.not_mem_nil) btx89
-- leaveOutEach: 255 steps
def bkx90 : bC := (46, [some (.inr [.index 157]), some (.inl (0, 32))], none, [(157, 158, 0, 11)], 0, [], [])
theorem btx90 : bchk bzf bIx bmpx bmqx bjn bgm blpx bspx bdgx bldx [] [] 30000 bkx90 = true := by decide +kernel
theorem bcx90 : bcon bZ bIx bTr bkx90 := bchk_ok bZ_len bzf_ok bTr_ok (fun _ q => absurd q List.not_mem_nil) (fun _ q => absurd q List.not_mem_nil) btx90
-- turnByText: 91 steps
def bkx91 : bC := (67, [some (.inr [.index 1]), some (.inr [.index 157]), some (.inl (0, 20))], none, [(33, 33, 0, 3), (69, 69, 0, 59), (158, 158, 0, 11)], 2, [], [])
theorem btx91 : bchk bzf bIx bmpx bmqx bjn bgm blpx bspx bdgx bldx [bkx57] [] 30000 bkx91 = true := by decide +kernel
theorem bcx91 : bcon bZ bIx bTr bkx91 := bchk_ok bZ_len bzf_ok bTr_ok (List.forall_mem_cons.mpr ⟨bcx57, fun _ q => absurd q List.not_mem_nil⟩) (fun _ q => absurd q List.not_mem_nil) btx91
-- sendBack: 36 steps
def bkx92 : bC := (66, [some (.inr [.index 1]), some (.inr [.index 58, .index 59, .index 60, .index 61, .index 62, .index 63, .index 64, .index 65]), some (.inr [.index 157])], none, [(33, 33, 0, 3), (69, 69, 0, 59), (157, 158, 0, 11)], 3, [], [])
theorem btx92 : bchk bzf bIx bmpx bmqx bjn bgm blpx bspx bdgx bldx [bkx86, bkx87, bkx88, bkx89, bkx90, bkx91] [] 30000 bkx92 = true := by decide +kernel
theorem bcx92 : bcon bZ bIx bTr bkx92 := bchk_ok bZ_len bzf_ok bTr_ok (List.forall_mem_cons.mpr ⟨bcx86, List.forall_mem_cons.mpr ⟨bcx87, List.forall_mem_cons.mpr ⟨bcx88, List.forall_mem_cons.mpr ⟨bcx89, List.forall_mem_cons.mpr ⟨bcx90, List.forall_mem_cons.mpr ⟨bcx91, fun _ q => absurd q List.not_mem_nil⟩⟩⟩⟩⟩⟩) (fun _ q => absurd q List.not_mem_nil) btx92
-- firstUnlike: 34 steps
def bkx93 : bC := (40, [some (.inr [.index 157, .index 159, .index 161, .index 163, .index 165, .index 167, .index 169, .index 171, .index 173, .index 175, .index 177, .index 179, .index 181, .index 183, .index 185, .index 187, .index 189, .index 191, .index 193, .index 195, .index 197, .index 199, .index 201, .index 203, .index 205, .index 207, .index 209, .index 211, .index 213, .index 215, .index 217, .index 219, .index 221, .index 223, .index 225, .index 227, .index 229, .index 231, .index 233, .index 235, .index 237, .index 239, .index 241, .index 243, .index 245, .index 247, .index 249, .index 251, .index 253, .index 255, .index 257, .index 259, .index 261, .index 263, .index 265, .index 267, .index 269, .index 271, .index 273, .index 275, .index 277, .index 279, .index 281, .index 283, .index 285, .index 287, .index 289, .index 291, .index 293, .index 295, .index 297, .index 299, .index 301, .index 303]), some (.inr [.index 157, .index 159, .index 161, .index 163, .index 165, .index 167, .index 169, .index 171, .index 173, .index 175, .index 177, .index 179, .index 181, .index 183, .index 185, .index 187, .index 189, .index 191, .index 193, .index 195, .index 197, .index 199, .index 201, .index 203, .index 205, .index 207, .index 209, .index 211, .index 213, .index 215, .index 217, .index 219, .index 221, .index 223, .index 225, .index 227, .index 229, .index 231, .index 233, .index 235, .index 237, .index 239, .index 241, .index 243, .index 245, .index 247, .index 249, .index 251, .index 253, .index 255, .index 257, .index 259, .index 261, .index 263, .index 265, .index 267, .index 269, .index 271, .index 273, .index 275, .index 277, .index 279, .index 281, .index 283, .index 285, .index 287, .index 289, .index 291, .index 293, .index 295, .index 297, .index 299, .index 301, .index 303])], some (.inl (-1, 12)), [], 0, [], [])
theorem btx93 : bchk bzf bIx bmpx bmqx bjn bgm blpx bspx bdgx bldx [] [] 30000 bkx93 = true := by decide +kernel
theorem bcx93 : bcon bZ bIx bTr bkx93 := bchk_ok bZ_len bzf_ok bTr_ok (fun _ q => absurd q List.not_mem_nil) (fun _ q => absurd q List.not_mem_nil) btx93
-- isLike: 9 steps
def bkx94 : bC := (41, [some (.inr [.index 157, .index 159, .index 161, .index 163, .index 165, .index 167, .index 169, .index 171, .index 173, .index 175, .index 177, .index 179, .index 181, .index 183, .index 185, .index 187, .index 189, .index 191, .index 193, .index 195, .index 197, .index 199, .index 201, .index 203, .index 205, .index 207, .index 209, .index 211, .index 213, .index 215, .index 217, .index 219, .index 221, .index 223, .index 225, .index 227, .index 229, .index 231, .index 233, .index 235, .index 237, .index 239, .index 241, .index 243, .index 245, .index 247, .index 249, .index 251, .index 253, .index 255, .index 257, .index 259, .index 261, .index 263, .index 265, .index 267, .index 269, .index 271, .index 273, .index 275, .index 277, .index 279, .index 281, .index 283, .index 285, .index 287, .index 289, .index 291, .index 293, .index 295, .index 297, .index 299, .index 301, .index 303]), some (.inr [.index 157, .index 159, .index 161, .index 163, .index 165, .index 167, .index 169, .index 171, .index 173, .index 175, .index 177, .index 179, .index 181, .index 183, .index 185, .index 187, .index 189, .index 191, .index 193, .index 195, .index 197, .index 199, .index 201, .index 203, .index 205, .index 207, .index 209, .index 211, .index 213, .index 215, .index 217, .index 219, .index 221, .index 223, .index 225, .index 227, .index 229, .index 231, .index 233, .index 235, .index 237, .index 239, .index 241, .index 243, .index 245, .index 247, .index 249, .index 251, .index 253, .index 255, .index 257, .index 259, .index 261, .index 263, .index 265, .index 267, .index 269, .index 271, .index 273, .index 275, .index 277, .index 279, .index 281, .index 283, .index 285, .index 287, .index 289, .index 291, .index 293, .index 295, .index 297, .index 299, .index 301, .index 303])], some (.inl (0, 1)), [], 1, [], [])
theorem btx94 : bchk bzf bIx bmpx bmqx bjn bgm blpx bspx bdgx bldx [bkx93] [] 30000 bkx94 = true := by decide +kernel
theorem bcx94 : bcon bZ bIx bTr bkx94 := bchk_ok bZ_len bzf_ok bTr_ok (List.forall_mem_cons.mpr ⟨bcx93, fun _ q => absurd q List.not_mem_nil⟩) (fun _ q => absurd q List.not_mem_nil) btx94
-- addIfUnlike: 34 steps
def bkx95 : bC := (18, [some (.inr [.index 155]), some (.inr [.index 157, .index 159, .index 161, .index 163, .index 165, .index 167, .index 169, .index 171, .index 173, .index 175, .index 177, .index 179, .index 181, .index 183, .index 185, .index 187, .index 189, .index 191, .index 193, .index 195, .index 197, .index 199, .index 201, .index 203, .index 205, .index 207, .index 209, .index 211, .index 213, .index 215, .index 217, .index 219, .index 221, .index 223, .index 225, .index 227, .index 229, .index 231, .index 233, .index 235, .index 237, .index 239, .index 241, .index 243, .index 245, .index 247, .index 249, .index 251, .index 253, .index 255, .index 257, .index 259, .index 261, .index 263, .index 265, .index 267, .index 269, .index 271, .index 273, .index 275, .index 277, .index 279, .index 281, .index 283, .index 285, .index 287, .index 289, .index 291, .index 293, .index 295, .index 297, .index 299, .index 301, .index 303])], none, [(155, 155, 2, 2), (157, 304, 0, 11)], 2, [], [])
theorem btx95 : bchk bzf bIx bmpx bmqx bjn bgm blpx bspx bdgx bldx [bkx85, bkx94] [] 30000 bkx95 = true := by decide +kernel
theorem bcx95 : bcon bZ bIx bTr bkx95 := bchk_ok bZ_len bzf_ok bTr_ok (List.forall_mem_cons.mpr ⟨bcx85, List.forall_mem_cons.mpr ⟨bcx94, fun _ q => absurd q List.not_mem_nil⟩⟩) (fun _ q => absurd q List.not_mem_nil) btx95
-- addUndone: 399 steps
def bkx96 : bC := (17, [some (.inr [.index 155]), some (.inr [.index 1]), some (.inr [.index 157, .index 159, .index 161, .index 163, .index 165, .index 167, .index 169, .index 171, .index 173, .index 175, .index 177, .index 179, .index 181, .index 183, .index 185, .index 187, .index 189, .index 191, .index 193, .index 195, .index 197, .index 199, .index 201, .index 203, .index 205, .index 207, .index 209, .index 211, .index 213, .index 215, .index 217, .index 219, .index 221, .index 223, .index 225, .index 227, .index 229, .index 231, .index 233, .index 235, .index 237, .index 239, .index 241, .index 243, .index 245, .index 247, .index 249, .index 251, .index 253, .index 255, .index 257, .index 259, .index 261, .index 263, .index 265, .index 267, .index 269, .index 271, .index 273, .index 275, .index 277, .index 279, .index 281, .index 283, .index 285, .index 287, .index 289, .index 291, .index 293, .index 295, .index 297, .index 299, .index 301, .index 303])], none, [(33, 33, 0, 3), (69, 69, 0, 59), (155, 155, 2, 2), (157, 304, 0, 11)], 4, [], [])
theorem btx96 : bchk bzf bIx bmpx bmqx bjn bgm blpx bspx bdgx bldx [bkx95, bkx85, bkx92] [] 30000 bkx96 = true := by decide +kernel
theorem bcx96 : bcon bZ bIx bTr bkx96 := bchk_ok bZ_len bzf_ok bTr_ok (List.forall_mem_cons.mpr ⟨bcx95, List.forall_mem_cons.mpr ⟨bcx85, List.forall_mem_cons.mpr ⟨bcx92, fun _ q => absurd q List.not_mem_nil⟩⟩⟩) (fun _ q => absurd q List.not_mem_nil) btx96
-- readWay: 830 steps
def bkx97 : bC := (65, [some (.inr [.index 1]), some (.inl (-2147483648, 2147483647)), some (.inr [.index 316])], some (.inl (0, 1)), [(316, 316, 1, 1), (317, 317, 0, 3)], 1, [], [])
theorem btx97 : bchk bzf bIx bmpx bmqx bjn bgm blpx bspx bdgx bldx [] [] 30000 bkx97 = true := by decide +kernel
theorem bcx97 : bcon bZ bIx bTr bkx97 := bchk_ok bZ_len bzf_ok bTr_ok (fun _ q => absurd q List.not_mem_nil) (fun _ q => absurd q List.not_mem_nil) btx97
-- hear: 74 steps
def bkx98 : bC := (68, [some (.inr [.index 1]), some (.inr [.index 34, .index 36, .index 38, .index 40, .index 42, .index 44, .index 46, .index 48, .index 50, .index 52, .index 54, .index 56]), some (.inr [.index 316]), some (.inr [.index 320])], none, [(33, 33, 0, 3), (69, 69, 0, 59), (318, 318, 1, 1), (319, 319, 0, 11), (320, 320, 1, 1), (321, 321, 0, 11)], 4, [], [])
theorem btx98 : bchk bzf bIx bmpx bmqx bjn bgm blpx bspx bdgx bldx [bkx51, bkx59] [] 30000 bkx98 = true := by decide +kernel
theorem bcx98 : bcon bZ bIx bTr bkx98 := bchk_ok bZ_len bzf_ok bTr_ok (List.forall_mem_cons.mpr ⟨bcx51, List.forall_mem_cons.mpr ⟨bcx59, fun _ q => absurd q List.not_mem_nil⟩⟩) (fun _ q => absurd q List.not_mem_nil) btx98
-- firstUnlike: 34 steps
def bkx99 : bC := (40, [some (.inr [.index 318, .index 320]), some (.inr [.index 318, .index 320])], some (.inl (-1, 12)), [], 0, [], [])
theorem btx99 : bchk bzf bIx bmpx bmqx bjn bgm blpx bspx bdgx bldx [] [] 30000 bkx99 = true := by decide +kernel
theorem bcx99 : bcon bZ bIx bTr bkx99 := bchk_ok bZ_len bzf_ok bTr_ok (fun _ q => absurd q List.not_mem_nil) (fun _ q => absurd q List.not_mem_nil) btx99
-- error: 12 steps
def bkx100 : bC := (118, [some (.inr [.index 0]), some (.inl (2, 2))], some (.inl (-1000002, -1000002)), [(323, 323, 2, 2)], 0, [], [])
theorem btx100 : bchk bzf bIx bmpx bmqx bjn bgm blpx bspx bdgx bldx [] [] 30000 bkx100 = true := by decide +kernel
theorem bcx100 : bcon bZ bIx bTr bkx100 := bchk_ok bZ_len bzf_ok bTr_ok (fun _ q => absurd q List.not_mem_nil) (fun _ q => absurd q List.not_mem_nil) btx100
-- next: 23 steps
def bkx101 : bC := (7, [some (.inr [.index 152])], some (.inl (-2147483648, 2147483647)), [(152, 152, 2, 2)], 0, [], [])
theorem btx101 : bchk bzf bIx bmpx bmqx bjn bgm blpx bspx bdgx bldx [] [] 30000 bkx101 = true := by decide +kernel
theorem bcx101 : bcon bZ bIx bTr bkx101 := bchk_ok bZ_len bzf_ok bTr_ok (fun _ q => absurd q List.not_mem_nil) (fun _ q => absurd q List.not_mem_nil) btx101
-- sumBehind: 477 steps
def bkx102 : bC := (9, [some (.inr [.index 152])], some (.inl (-2147483648, 2147483647)), [(152, 152, 2, 2)], 1, [], [])
theorem btx102 : bchk bzf bIx bmpx bmqx bjn bgm blpx bspx bdgx bldx [bkx101] [] 30000 bkx102 = true := by decide +kernel
theorem bcx102 : bcon bZ bIx bTr bkx102 := bchk_ok bZ_len bzf_ok bTr_ok (List.forall_mem_cons.mpr ⟨bcx101, fun _ q => absurd q List.not_mem_nil⟩) (fun _ q => absurd q List.not_mem_nil) btx102
-- isWordSo: 39 steps
def bkx103 : bC := (10, [some (.inr [.index 152]), some (.inl (-2147483648, 59))], some (.inl (0, 1)), [], 0, [], [])
theorem btx103 : bchk bzf bIx bmpx bmqx bjn bgm blpx bspx bdgx bldx [] [] 30000 bkx103 = true := by decide +kernel
theorem bcx103 : bcon bZ bIx bTr bkx103 := bchk_ok bZ_len bzf_ok bTr_ok (fun _ q => absurd q List.not_mem_nil) (fun _ q => absurd q List.not_mem_nil) btx103
-- isTermSo: 5 steps
def bkx104 : bC := (8, [some (.inr [.index 152]), some (.inl (13, 13))], some (.inl (0, 0)), [], 0, [], [])
theorem btx104 : bchk bzf bIx bmpx bmqx bjn bgm blpx bspx bdgx bldx [] [] 30000 bkx104 = true := by decide +kernel
theorem bcx104 : bcon bZ bIx bTr bkx104 := bchk_ok bZ_len bzf_ok bTr_ok (fun _ q => absurd q List.not_mem_nil) (fun _ q => absurd q List.not_mem_nil) btx104
-- isWordSo: 5 steps
def bkx105 : bC := (10, [some (.inr [.index 152]), some (.inl (40, 2147483647))], some (.inl (1, 1)), [], 0, [], [])
theorem btx105 : bchk bzf bIx bmpx bmqx bjn bgm blpx bspx bdgx bldx [] [] 30000 bkx105 = true := by decide +kernel
theorem bcx105 : bcon bZ bIx bTr bkx105 := bchk_ok bZ_len bzf_ok bTr_ok (fun _ q => absurd q List.not_mem_nil) (fun _ q => absurd q List.not_mem_nil) btx105
-- isTermSo: 66 steps
def bkx106 : bC := (8, [some (.inr [.index 152]), some (.inl (12, 12))], some (.inl (0, 1)), [(152, 152, 2, 2)], 2, [], [])
theorem btx106 : bchk bzf bIx bmpx bmqx bjn bgm blpx bspx bdgx bldx [bkx101, bkx104, bkx102, bkx103, bkx105] [] 30000 bkx106 = true := by decide +kernel
theorem bcx106 : bcon bZ bIx bTr bkx106 := bchk_ok bZ_len bzf_ok bTr_ok (List.forall_mem_cons.mpr ⟨bcx101, List.forall_mem_cons.mpr ⟨bcx104, List.forall_mem_cons.mpr ⟨bcx102, List.forall_mem_cons.mpr ⟨bcx103, List.forall_mem_cons.mpr ⟨bcx105, fun _ q => absurd q List.not_mem_nil⟩⟩⟩⟩⟩) (fun _ q => absurd q List.not_mem_nil) btx106
-- isTermSo: 74 steps
def bkx107 : bC := (8, [some (.inr [.index 152]), some (.inl (11, 11))], some (.inl (0, 1)), [(152, 152, 2, 2)], 3, [], [])
theorem btx107 : bchk bzf bIx bmpx bmqx bjn bgm blpx bspx bdgx bldx [bkx101, bkx106, bkx102, bkx103, bkx105] [] 30000 bkx107 = true := by decide +kernel
theorem bcx107 : bcon bZ bIx bTr bkx107 := bchk_ok bZ_len bzf_ok bTr_ok (List.forall_mem_cons.mpr ⟨bcx101, List.forall_mem_cons.mpr ⟨bcx106, List.forall_mem_cons.mpr ⟨bcx102, List.forall_mem_cons.mpr ⟨bcx103, List.forall_mem_cons.mpr ⟨bcx105, fun _ q => absurd q List.not_mem_nil⟩⟩⟩⟩⟩) (fun _ q => absurd q List.not_mem_nil) btx107
-- isTermSo: 74 steps
def bkx108 : bC := (8, [some (.inr [.index 152]), some (.inl (10, 10))], some (.inl (0, 1)), [(152, 152, 2, 2)], 4, [], [])
theorem btx108 : bchk bzf bIx bmpx bmqx bjn bgm blpx bspx bdgx bldx [bkx101, bkx107, bkx102, bkx103, bkx105] [] 30000 bkx108 = true := by decide +kernel
theorem bcx108 : bcon bZ bIx bTr bkx108 := bchk_ok bZ_len bzf_ok bTr_ok (List.forall_mem_cons.mpr ⟨bcx101, List.forall_mem_cons.mpr ⟨bcx107, List.forall_mem_cons.mpr ⟨bcx102, List.forall_mem_cons.mpr ⟨bcx103, List.forall_mem_cons.mpr ⟨bcx105, fun _ q => absurd q List.not_mem_nil⟩⟩⟩⟩⟩) (fun _ q => absurd q List.not_mem_nil) btx108
-- isTermSo: 74 steps
def bkx109 : bC := (8, [some (.inr [.index 152]), some (.inl (9, 9))], some (.inl (0, 1)), [(152, 152, 2, 2)], 5, [], [])
theorem btx109 : bchk bzf bIx bmpx bmqx bjn bgm blpx bspx bdgx bldx [bkx101, bkx108, bkx102, bkx103, bkx105] [] 30000 bkx109 = true := by decide +kernel
theorem bcx109 : bcon bZ bIx bTr bkx109 := bchk_ok bZ_len bzf_ok bTr_ok (List.forall_mem_cons.mpr ⟨bcx101, List.forall_mem_cons.mpr ⟨bcx108, List.forall_mem_cons.mpr ⟨bcx102, List.forall_mem_cons.mpr ⟨bcx103, List.forall_mem_cons.mpr ⟨bcx105, fun _ q => absurd q List.not_mem_nil⟩⟩⟩⟩⟩) (fun _ q => absurd q List.not_mem_nil) btx109
-- isTermSo: 74 steps
def bkx110 : bC := (8, [some (.inr [.index 152]), some (.inl (8, 8))], some (.inl (0, 1)), [(152, 152, 2, 2)], 6, [], [])
theorem btx110 : bchk bzf bIx bmpx bmqx bjn bgm blpx bspx bdgx bldx [bkx101, bkx109, bkx102, bkx103, bkx105] [] 30000 bkx110 = true := by decide +kernel
theorem bcx110 : bcon bZ bIx bTr bkx110 := bchk_ok bZ_len bzf_ok bTr_ok (List.forall_mem_cons.mpr ⟨bcx101, List.forall_mem_cons.mpr ⟨bcx109, List.forall_mem_cons.mpr ⟨bcx102, List.forall_mem_cons.mpr ⟨bcx103, List.forall_mem_cons.mpr ⟨bcx105, fun _ q => absurd q List.not_mem_nil⟩⟩⟩⟩⟩) (fun _ q => absurd q List.not_mem_nil) btx110
-- isTermSo: 74 steps
def bkx111 : bC := (8, [some (.inr [.index 152]), some (.inl (7, 7))], some (.inl (0, 1)), [(152, 152, 2, 2)], 7, [], [])
theorem btx111 : bchk bzf bIx bmpx bmqx bjn bgm blpx bspx bdgx bldx [bkx101, bkx110, bkx102, bkx103, bkx105] [] 30000 bkx111 = true := by decide +kernel
theorem bcx111 : bcon bZ bIx bTr bkx111 := bchk_ok bZ_len bzf_ok bTr_ok (List.forall_mem_cons.mpr ⟨bcx101, List.forall_mem_cons.mpr ⟨bcx110, List.forall_mem_cons.mpr ⟨bcx102, List.forall_mem_cons.mpr ⟨bcx103, List.forall_mem_cons.mpr ⟨bcx105, fun _ q => absurd q List.not_mem_nil⟩⟩⟩⟩⟩) (fun _ q => absurd q List.not_mem_nil) btx111
