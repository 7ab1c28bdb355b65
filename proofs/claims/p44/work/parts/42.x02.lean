-- ===== contracts
-- isTermSo: 74 steps
def bkx112 : bC := (8, [some (.inr [.index 152]), some (.inl (6, 6))], some (.inl (0, 1)), [(152, 152, 2, 2)], 8, [], [])
theorem btx112 : bchk bzf bIx bmpx bmqx bjn bgm blpx bspx bdgx bldx [bkx101, bkx111, bkx102, bkx103, bkx105] [] 30000 bkx112 = true := by decide +kernel
theorem bcx112 : bcon bZ bIx bTr bkx112 := bchk_ok bZ_len bzf_ok bTr_ok (List.forall_mem_cons.mpr ⟨bcx101, List.forall_mem_cons.mpr ⟨bcx111, List.forall_mem_cons.mpr ⟨bcx102, List.forall_mem_cons.mpr ⟨bcx103, List.forall_mem_cons.mpr ⟨bcx105, fun _ q => absurd q List.not_mem_nil⟩⟩⟩⟩⟩) (fun _ q => absurd q List.not_mem_nil) btx112
-- isTermSo: 74 steps
def bkx113 : bC := (8, [some (.inr [.index 152]), some (.inl (5, 5))], some (.inl (0, 1)), [(152, 152, 2, 2)], 9, [], [])
theorem btx113 : bchk bzf bIx bmpx bmqx bjn bgm blpx bspx bdgx bldx [bkx101, bkx112, bkx102, bkx103, bkx105] [] 30000 bkx113 = true := by decide +kernel
theorem bcx113 : bcon bZ bIx bTr bkx113 := bchk_ok bZ_len bzf_ok bTr_ok (List.forall_mem_cons.mpr ⟨bcx101, List.forall_mem_cons.mpr ⟨bcx112, List.forall_mem_cons.mpr ⟨bcx102, List.forall_mem_cons.mpr ⟨bcx103, List.forall_mem_cons.mpr ⟨bcx105, fun _ q => absurd q List.not_mem_nil⟩⟩⟩⟩⟩) (fun _ q => absurd q List.not_mem_nil) btx113
-- isTermSo: 74 steps
def bkx114 : bC := (8, [some (.inr [.index 152]), some (.inl (4, 4))], some (.inl (0, 1)), [(152, 152, 2, 2)], 10, [], [])
theorem btx114 : bchk bzf bIx bmpx bmqx bjn bgm blpx bspx bdgx bldx [bkx101, bkx113, bkx102, bkx103, bkx105] [] 30000 bkx114 = true := by decide +kernel
theorem bcx114 : bcon bZ bIx bTr bkx114 := bchk_ok bZ_len bzf_ok bTr_ok (List.forall_mem_cons.mpr ⟨bcx101, List.forall_mem_cons.mpr ⟨bcx113, List.forall_mem_cons.mpr ⟨bcx102, List.forall_mem_cons.mpr ⟨bcx103, List.forall_mem_cons.mpr ⟨bcx105, fun _ q => absurd q List.not_mem_nil⟩⟩⟩⟩⟩) (fun _ q => absurd q List.not_mem_nil) btx114
-- isTermSo: 74 steps
def bkx115 : bC := (8, [some (.inr [.index 152]), some (.inl (3, 3))], some (.inl (0, 1)), [(152, 152, 2, 2)], 11, [], [])
theorem btx115 : bchk bzf bIx bmpx bmqx bjn bgm blpx bspx bdgx bldx [bkx101, bkx114, bkx102, bkx103, bkx105] [] 30000 bkx115 = true := by decide +kernel
theorem bcx115 : bcon bZ bIx bTr bkx115 := bchk_ok bZ_len bzf_ok bTr_ok (List.forall_mem_cons.mpr ⟨bcx101, List.forall_mem_cons.mpr ⟨bcx114, List.forall_mem_cons.mpr ⟨bcx102, List.forall_mem_cons.mpr ⟨bcx103, List.forall_mem_cons.mpr ⟨bcx105, fun _ q => absurd q List.not_mem_nil⟩⟩⟩⟩⟩) (fun _ q => absurd q List.not_mem_nil) btx115
-- isTermSo: 74 steps
def bkx116 : bC := (8, [some (.inr [.index 152]), some (.inl (2, 2))], some (.inl (0, 1)), [(152, 152, 2, 2)], 12, [], [])
theorem btx116 : bchk bzf bIx bmpx bmqx bjn bgm blpx bspx bdgx bldx [bkx101, bkx115, bkx102, bkx103, bkx105] [] 30000 bkx116 = true := by decide +kernel
theorem bcx116 : bcon bZ bIx bTr bkx116 := bchk_ok bZ_len bzf_ok bTr_ok (List.forall_mem_cons.mpr ⟨bcx101, List.forall_mem_cons.mpr ⟨bcx115, List.forall_mem_cons.mpr ⟨bcx102, List.forall_mem_cons.mpr ⟨bcx103, List.forall_mem_cons.mpr ⟨bcx105, fun _ q => absurd q List.not_mem_nil⟩⟩⟩⟩⟩) (fun _ q => absurd q List.not_mem_nil) btx116
-- isTermSo: 74 steps
def bkx117 : bC := (8, [some (.inr [.index 152]), some (.inl (1, 1))], some (.inl (0, 1)), [(152, 152, 2, 2)], 13, [], [])
theorem btx117 : bchk bzf bIx bmpx bmqx bjn bgm blpx bspx bdgx bldx [bkx101, bkx116, bkx102, bkx103, bkx105] [] 30000 bkx117 = true := by decide +kernel
theorem bcx117 : bcon bZ bIx bTr bkx117 := bchk_ok bZ_len bzf_ok bTr_ok (List.forall_mem_cons.mpr ⟨bcx101, List.forall_mem_cons.mpr ⟨bcx116, List.forall_mem_cons.mpr ⟨bcx102, List.forall_mem_cons.mpr ⟨bcx103, List.forall_mem_cons.mpr ⟨bcx105, fun _ q => absurd q List.not_mem_nil⟩⟩⟩⟩⟩) (fun _ q => absurd q List.not_mem_nil) btx117
-- isTermSo: 74 steps
def bkx118 : bC := (8, [some (.inr [.index 152]), some (.inl (0, 0))], some (.inl (0, 1)), [(152, 152, 2, 2)], 14, [], [])
theorem btx118 : bchk bzf bIx bmpx bmqx bjn bgm blpx bspx bdgx bldx [bkx101, bkx117, bkx102, bkx103, bkx105] [] 30000 bkx118 = true := by decide +kernel
theorem bcx118 : bcon bZ bIx bTr bkx118 := bchk_ok bZ_len bzf_ok bTr_ok (List.forall_mem_cons.mpr ⟨bcx101, List.forall_mem_cons.mpr ⟨bcx117, List.forall_mem_cons.mpr ⟨bcx102, List.forall_mem_cons.mpr ⟨bcx103, List.forall_mem_cons.mpr ⟨bcx105, fun _ q => absurd q List.not_mem_nil⟩⟩⟩⟩⟩) (fun _ q => absurd q List.not_mem_nil) btx118
-- copyFrom: 18 steps
def bkx119 : bC := (39, [some (.inr [.index 17, .index 19, .index 21, .index 23, .index 25, .index 27, .index 29, .index 31]), some (.inr [.index 34, .index 36, .index 38, .index 40, .index 42, .index 44, .index 46, .index 48, .index 50, .index 52, .index 54, .index 56])], none, [(17, 32, 0, 11)], 0, [], [])
theorem btx119 : bchk bzf bIx bmpx bmqx bjn bgm blpx bspx bdgx bldx [] [] 30000 bkx119 = true := by decide +kernel
theorem bcx119 : bcon bZ bIx bTr bkx119 := bchk_ok bZ_len bzf_ok bTr_ok (fun _ q => absurd q List.not_mem_nil) (fun _ q => absurd q List.not_mem_nil) btx119
-- sayNay: 46 steps
def bkx120 : bC := (43, [some (.inr [.index 17, .index 19, .index 21, .index 23, .index 25, .index 27, .index 29, .index 31]), some (.inl (0, 0))], none, [(18, 18, 0, 11), (20, 20, 0, 11), (22, 22, 0, 11), (24, 24, 0, 11), (26, 26, 0, 11), (28, 28, 0, 11), (30, 30, 0, 11), (32, 32, 0, 11)], 1, [], [])
theorem btx120 : bchk bzf bIx bmpx bmqx bjn bgm blpx bspx bdgx bldx [bkx3] [] 30000 bkx120 = true := by decide +kernel
theorem bcx120 : bcon bZ bIx bTr bkx120 := bchk_ok bZ_len bzf_ok bTr_ok (List.forall_mem_cons.mpr ⟨bcx3, fun _ q => absurd q List.not_mem_nil⟩) (fun _ q => absurd q List.not_mem_nil) btx120
-- sayNay: 52 steps
def bkx121 : bC := (43, [some (.inr [.index 17, .index 19, .index 21, .index 23, .index 25, .index 27, .index 29, .index 31]), some (.inl (1, 1))], none, [(18, 18, 0, 11), (20, 20, 0, 11), (22, 22, 0, 11), (24, 24, 0, 11), (26, 26, 0, 11), (28, 28, 0, 11), (30, 30, 0, 11), (32, 32, 0, 11)], 1, [], [])
theorem btx121 : bchk bzf bIx bmpx bmqx bjn bgm blpx bspx bdgx bldx [bkx3] [] 30000 bkx121 = true := by decide +kernel
theorem bcx121 : bcon bZ bIx bTr bkx121 := bchk_ok bZ_len bzf_ok bTr_ok (List.forall_mem_cons.mpr ⟨bcx3, fun _ q => absurd q List.not_mem_nil⟩) (fun _ q => absurd q List.not_mem_nil) btx121
-- turnNumbers: 37 steps
def bkx122 : bC := (44, [some (.inr [.index 17, .index 19, .index 21, .index 23, .index 25, .index 27, .index 29, .index 31])], none, [(18, 18, 0, 11), (20, 20, 0, 11), (22, 22, 0, 11), (24, 24, 0, 11), (26, 26, 0, 11), (28, 28, 0, 11), (30, 30, 0, 11), (32, 32, 0, 11)], 1, [], [])
theorem btx122 : bchk bzf bIx bmpx bmqx bjn bgm blpx bspx bdgx bldx [bkx3] [] 30000 bkx122 = true := by decide +kernel
theorem bcx122 : bcon bZ bIx bTr bkx122 := bchk_ok bZ_len bzf_ok bTr_ok (List.forall_mem_cons.mpr ⟨bcx3, fun _ q => absurd q List.not_mem_nil⟩) (fun _ q => absurd q List.not_mem_nil) btx122
-- turnRound: 155 steps
def bkx123 : bC := (45, [some (.inr [.index 17, .index 19, .index 21, .index 23, .index 25, .index 27, .index 29, .index 31])], none, [(18, 18, 0, 11), (20, 20, 0, 11), (22, 22, 0, 11), (24, 24, 0, 11), (26, 26, 0, 11), (28, 28, 0, 11), (30, 30, 0, 11), (32, 32, 0, 11)], 0, [], [])
theorem btx123 : bchk bzf bIx bmpx bmqx bjn bgm blpx bspx bdgx bldx [] [] 30000 bkx123 = true := by decide +kernel
theorem bcx123 : bcon bZ bIx bTr bkx123 := bchk_ok bZ_len bzf_ok bTr_ok (fun _ q => absurd q List.not_mem_nil) (fun _ q => absurd q List.not_mem_nil) btx123
-- leaveOutEach: 266 steps
def bkx124 : bC := (46, [some (.inr [.index 17, .index 19, .index 21, .index 23, .index 25, .index 27, .index 29, .index 31]), some (.inl (0, 32))], none, [(17, 32, 0, 11)], 0, [], [])
theorem btx124 : bchk bzf bIx bmpx bmqx bjn bgm blpx bspx bdgx bldx [] [] 30000 bkx124 = true := by decide +kernel
theorem bcx124 : bcon bZ bIx bTr bkx124 := bchk_ok bZ_len bzf_ok bTr_ok (fun _ q => absurd q List.not_mem_nil) (fun _ q => absurd q List.not_mem_nil) btx124
-- turnByText: 92 steps
def bkx125 : bC := (67, [some (.inr [.index 1]), some (.inr [.index 17, .index 19, .index 21, .index 23, .index 25, .index 27, .index 29, .index 31]), some (.inl (0, 20))], none, [(18, 18, 0, 11), (20, 20, 0, 11), (22, 22, 0, 11), (24, 24, 0, 11), (26, 26, 0, 11), (28, 28, 0, 11), (30, 30, 0, 11), (32, 33, 0, 11), (69, 69, 0, 59)], 2, [], [])
theorem btx125 : bchk bzf bIx bmpx bmqx bjn bgm blpx bspx bdgx bldx [bkx57] [] 30000 bkx125 = true := by decide +kernel
theorem bcx125 : bcon bZ bIx bTr bkx125 := bchk_ok bZ_len bzf_ok bTr_ok (List.forall_mem_cons.mpr ⟨bcx57, fun _ q => absurd q List.not_mem_nil⟩) (fun _ q => absurd q List.not_mem_nil) btx125
-- sendBack: 36 steps
def bkx126 : bC := (66, [some (.inr [.index 1]), some (.inr [.index 58, .index 59, .index 60, .index 61, .index 62, .index 63, .index 64, .index 65]), some (.inr [.index 17, .index 19, .index 21, .index 23, .index 25, .index 27, .index 29, .index 31])], none, [(17, 33, 0, 11), (69, 69, 0, 59)], 3, [], [])
theorem btx126 : bchk bzf bIx bmpx bmqx bjn bgm blpx bspx bdgx bldx [bkx120, bkx121, bkx122, bkx123, bkx124, bkx125] [] 30000 bkx126 = true := by decide +kernel
theorem bcx126 : bcon bZ bIx bTr bkx126 := bchk_ok bZ_len bzf_ok bTr_ok (List.forall_mem_cons.mpr ⟨bcx120, List.forall_mem_cons.mpr ⟨bcx121, List.forall_mem_cons.mpr ⟨bcx122, List.forall_mem_cons.mpr ⟨bcx123, List.forall_mem_cons.mpr ⟨bcx124, List.forall_mem_cons.mpr ⟨bcx125, fun _ q => absurd q List.not_mem_nil⟩⟩⟩⟩⟩⟩) (fun _ q => absurd q List.not_mem_nil) btx126
-- logEcho: 40 steps
def bkx127 : bC := (69, [some (.inr [.index 1]), some (.inl (0, 11)), some (.inl (0, 7))], none, [(15, 15, 1, 2), (17, 33, 0, 11), (69, 69, 0, 59)], 4, [], [])
theorem btx127 : bchk bzf bIx bmpx bmqx bjn bgm blpx bspx bdgx bldx [bkx119, bkx126] [] 30000 bkx127 = true := by decide +kernel
theorem bcx127 : bcon bZ bIx bTr bkx127 := bchk_ok bZ_len bzf_ok bTr_ok (List.forall_mem_cons.mpr ⟨bcx119, List.forall_mem_cons.mpr ⟨bcx126, fun _ q => absurd q List.not_mem_nil⟩⟩) (fun _ q => absurd q List.not_mem_nil) btx127
-- letSecondGoBy: 162 steps
def bkx128 : bC := (71, [some (.inr [.index 1])], none, [(1, 1, 11, 11), (9, 9, 1, 1), (10, 10, 0, 9), (11, 11, 1, 1), (12, 12, 0, 9), (13, 13, 1, 1), (14, 14, 0, 9), (15, 15, 1, 2), (17, 33, 0, 11), (69, 69, 0, 59)], 5, [], [])
theorem btx128 : bchk bzf bIx bmpx bmqx bjn bgm blpx bspx bdgx bldx [bkx127] [] 30000 bkx128 = true := by decide +kernel
theorem bcx128 : bcon bZ bIx bTr bkx128 := bchk_ok bZ_len bzf_ok bTr_ok (List.forall_mem_cons.mpr ⟨bcx127, fun _ q => absurd q List.not_mem_nil⟩) (fun _ q => absurd q List.not_mem_nil) btx128
-- soundOrSize: 29 steps
def bkx129 : bC := (119, [some (.inr [.index 0]), some (.inr [.index 17, .index 19, .index 21, .index 23, .index 25, .index 27, .index 29, .index 31]), some (.inl (-2147483648, 2147483647))], some (.inl (-2147483648, 2147483647)), [(323, 323, 1, 1)], 1, [], [])
theorem btx129 : bchk bzf bIx bmpx bmqx bjn bgm blpx bspx bdgx bldx [bkx1] [] 30000 bkx129 = true := by decide +kernel
theorem bcx129 : bcon bZ bIx bTr bkx129 := bchk_ok bZ_len bzf_ok bTr_ok (List.forall_mem_cons.mpr ⟨bcx1, fun _ q => absurd q List.not_mem_nil⟩) (fun _ q => absurd q List.not_mem_nil) btx129
-- copyFrom: 18 steps
def bkx130 : bC := (39, [some (.inr [.index 308]), some (.inr [.index 306])], none, [(308, 308, 1, 1), (309, 309, 0, 11)], 0, [], [])
theorem btx130 : bchk bzf bIx bmpx bmqx bjn bgm blpx bspx bdgx bldx [] [] 30000 bkx130 = true := by decide +kernel
theorem bcx130 : bcon bZ bIx bTr bkx130 := bchk_ok bZ_len bzf_ok bTr_ok (fun _ q => absurd q List.not_mem_nil) (fun _ q => absurd q List.not_mem_nil) btx130
-- sayNay: 46 steps
def bkx131 : bC := (43, [some (.inr [.index 308]), some (.inl (0, 0))], none, [(309, 309, 0, 0)], 1, [], [])
theorem btx131 : bchk bzf bIx bmpx bmqx bjn bgm blpx bspx bdgx bldx [bkx3] [] 30000 bkx131 = true := by decide +kernel
theorem bcx131 : bcon bZ bIx bTr bkx131 := bchk_ok bZ_len bzf_ok bTr_ok (List.forall_mem_cons.mpr ⟨bcx3, fun _ q => absurd q List.not_mem_nil⟩) (fun _ q => absurd q List.not_mem_nil) btx131
-- sayNay: 41 steps
def bkx132 : bC := (43, [some (.inr [.index 308]), some (.inl (1, 1))], none, [], 1, [], [])
theorem btx132 : bchk bzf bIx bmpx bmqx bjn bgm blpx bspx bdgx bldx [] [] 30000 bkx132 = true := by decide +kernel
theorem bcx132 : bcon bZ bIx bTr bkx132 := bchk_ok bZ_len bzf_ok bTr_ok (fun _ q => absurd q List.not_mem_nil) (fun _ q => absurd q List.not_mem_nil) btx132
-- turnNumbers: 37 steps
def bkx133 : bC := (44, [some (.inr [.index 308])], none, [(309, 309, 0, 0)], 1, [], [])
theorem btx133 : bchk bzf bIx bmpx bmqx bjn bgm blpx bspx bdgx bldx [bkx3] [] 30000 bkx133 = true := by decide +kernel
theorem bcx133 : bcon bZ bIx bTr bkx133 := bchk_ok bZ_len bzf_ok bTr_ok (List.forall_mem_cons.mpr ⟨bcx3, fun _ q => absurd q List.not_mem_nil⟩) (fun _ q => absurd q List.not_mem_nil) btx133
-- turnRound: 11 steps
def bkx134 : bC := (45, [some (.inr [.index 308])], none, [], 0, [], [])
theorem btx134 : bchk bzf bIx bmpx bmqx bjn bgm blpx bspx bdgx bldx [] [] 30000 bkx134 = true := by decide +kernel
theorem bcx134 : bcon bZ bIx bTr bkx134 := bchk_ok bZ_len bzf_ok bTr_ok (fun _ q => absurd q List.not_mem_nil) (fun _ q => absurd q List.not_mem_nil) btx134
-- leaveOutEach: 35 steps
def bkx135 : bC := (46, [some (.inr [.index 308]), some (.inl (0, 32))], none, [(308, 308, 1, 1), (309, 309, 0, 0)], 0, [], [])
theorem btx135 : bchk bzf bIx bmpx bmqx bjn bgm blpx bspx bdgx bldx [] [] 30000 bkx135 = true := by decide +kernel
theorem bcx135 : bcon bZ bIx bTr bkx135 := bchk_ok bZ_len bzf_ok bTr_ok (fun _ q => absurd q List.not_mem_nil) (fun _ q => absurd q List.not_mem_nil) btx135
-- turnByText: 92 steps
def bkx136 : bC := (67, [some (.inr [.index 1]), some (.inr [.index 308]), some (.inl (0, 20))], none, [(33, 33, 0, 3), (69, 69, 0, 59), (309, 309, 0, 0)], 2, [], [])
theorem btx136 : bchk bzf bIx bmpx bmqx bjn bgm blpx bspx bdgx bldx [bkx57] [] 30000 bkx136 = true := by decide +kernel
theorem bcx136 : bcon bZ bIx bTr bkx136 := bchk_ok bZ_len bzf_ok bTr_ok (List.forall_mem_cons.mpr ⟨bcx57, fun _ q => absurd q List.not_mem_nil⟩) (fun _ q => absurd q List.not_mem_nil) btx136
-- sendBack: 36 steps
def bkx137 : bC := (66, [some (.inr [.index 1]), some (.inr [.index 58, .index 59, .index 60, .index 61, .index 62, .index 63, .index 64, .index 65]), some (.inr [.index 308])], none, [(33, 33, 0, 3), (69, 69, 0, 59), (308, 308, 1, 1), (309, 309, 0, 0)], 3, [], [])
theorem btx137 : bchk bzf bIx bmpx bmqx bjn bgm blpx bspx bdgx bldx [bkx131, bkx132, bkx133, bkx134, bkx135, bkx136] [] 30000 bkx137 = true := by decide +kernel
theorem bcx137 : bcon bZ bIx bTr bkx137 := bchk_ok bZ_len bzf_ok bTr_ok (List.forall_mem_cons.mpr ⟨bcx131, List.forall_mem_cons.mpr ⟨bcx132, List.forall_mem_cons.mpr ⟨bcx133, List.forall_mem_cons.mpr ⟨bcx134, List.forall_mem_cons.mpr ⟨bcx135, List.forall_mem_cons.mpr ⟨bcx136, fun _ q => absurd q List.not_mem_nil⟩⟩⟩⟩⟩⟩) (fun _ q => absurd q List.not_mem_nil) btx137
-- hear: 74 steps
def bkx138 : bC := (68, [some (.inr [.index 1]), some (.inr [.index 306]), some (.inr [.index 314]), some (.inr [.index 308])], none, [(33, 33, 0, 3), (69, 69, 0, 59), (308, 308, 1, 1), (309, 309, 0, 11)], 4, [], [])
theorem btx138 : bchk bzf bIx bmpx bmqx bjn bgm blpx bspx bdgx bldx [bkx130, bkx137] [] 30000 bkx138 = true := by decide +kernel
theorem bcx138 : bcon bZ bIx bTr bkx138 := bchk_ok bZ_len bzf_ok bTr_ok (List.forall_mem_cons.mpr ⟨bcx130, List.forall_mem_cons.mpr ⟨bcx137, fun _ q => absurd q List.not_mem_nil⟩⟩) (fun _ q => absurd q List.not_mem_nil) btx138
-- numberHeard: 77 steps
def bkx139 : bC := (3, [some (.inr [.index 305]), some (.inr [.index 1]), some (.inl (-20, 2147483647)), some (.inr [.index 314]), some (.inl (-20, 80))], some (.inl (-20, 80)), [(33, 33, 0, 3), (69, 69, 0, 59), (306, 306, 1, 1), (307, 307, 0, 0), (308, 308, 1, 1), (309, 309, 0, 11)], 5, [], [])
theorem btx139 : bchk bzf bIx bmpx bmqx bjn bgm blpx bspx bdgx bldx [bkx138] [] 30000 bkx139 = true := by decide +kernel
theorem bcx139 : bcon bZ bIx bTr bkx139 := bchk_ok bZ_len bzf_ok bTr_ok (List.forall_mem_cons.mpr ⟨bcx138, fun _ q => absurd q List.not_mem_nil⟩) (fun _ q => absurd q List.not_mem_nil) btx139
-- hear: 74 steps
def bkx140 : bC := (68, [some (.inr [.index 1]), some (.inr [.index 306]), some (.inr [.index 316]), some (.inr [.index 308])], none, [(33, 33, 0, 3), (69, 69, 0, 59), (308, 308, 1, 1), (309, 309, 0, 11)], 4, [], [])
theorem btx140 : bchk bzf bIx bmpx bmqx bjn bgm blpx bspx bdgx bldx [bkx130, bkx137] [] 30000 bkx140 = true := by decide +kernel
theorem bcx140 : bcon bZ bIx bTr bkx140 := bchk_ok bZ_len bzf_ok bTr_ok (List.forall_mem_cons.mpr ⟨bcx130, List.forall_mem_cons.mpr ⟨bcx137, fun _ q => absurd q List.not_mem_nil⟩⟩) (fun _ q => absurd q List.not_mem_nil) btx140
-- numberHeard: 77 steps
def bkx141 : bC := (3, [some (.inr [.index 305]), some (.inr [.index 1]), some (.inl (-20, 80)), some (.inr [.index 316]), some (.inl (-20, 2147483647))], some (.inl (-20, 2147483647)), [(33, 33, 0, 3), (69, 69, 0, 59), (306, 306, 1, 1), (307, 307, 0, 0), (308, 308, 1, 1), (309, 309, 0, 11)], 5, [], [])
theorem btx141 : bchk bzf bIx bmpx bmqx bjn bgm blpx bspx bdgx bldx [bkx140] [] 30000 bkx141 = true := by decide +kernel
theorem bcx141 : bcon bZ bIx bTr bkx141 := bchk_ok bZ_len bzf_ok bTr_ok (List.forall_mem_cons.mpr ⟨bcx140, fun _ q => absurd q List.not_mem_nil⟩) (fun _ q => absurd q List.not_mem_nil) btx141
-- workOut: 269 steps
def bkx142 : bC := (59, [some (.inr [.index 70]), some (.inr [.index 33])], some (.inl (-2147483648, 2147483647)), [(73, 73, 0, 59)], 1, [], [])
theorem btx142 : bchk bzf bIx bmpx bmqx bjn bgm blpx bspx bdgx bldx [] [] 30000 bkx142 = true := by decide +kernel
theorem bcx142 : bcon bZ bIx bTr bkx142 := bchk_ok bZ_len bzf_ok bTr_ok (fun _ q => absurd q List.not_mem_nil) (fun _ q => absurd q List.not_mem_nil) btx142
-- goOn: 336 steps
def bkx143 : bC := (2, [some (.inr [.index 305]), some (.inr [.index 1]), some (.inr [.index 314]), some (.inr [.index 316]), some (.inl (1, 60))], none, [(33, 33, 0, 3), (69, 69, 0, 59), (73, 73, 0, 59), (305, 305, 2, 7), (306, 306, 1, 1), (307, 307, 0, 0), (308, 308, 1, 1), (309, 309, 0, 11)], 6, [], [])
theorem btx143 : bchk bzf bIx bmpx bmqx bjn bgm blpx bspx bdgx bldx [bkx139, bkx141, bkx142] [] 30000 bkx143 = true := by decide +kernel
theorem bcx143 : bcon bZ bIx bTr bkx143 := bchk_ok bZ_len bzf_ok bTr_ok (List.forall_mem_cons.mpr ⟨bcx139, List.forall_mem_cons.mpr ⟨bcx141, List.forall_mem_cons.mpr ⟨bcx142, fun _ q => absurd q List.not_mem_nil⟩⟩⟩) (fun _ q => absurd q List.not_mem_nil) btx143
-- ownerOfBody: 255 steps
def bkx144 : bC := (56, [some (.inl (0, 3)), some (.inl (-1, 20))], some (.inl (-1, 6)), [], 1, [], [])
theorem btx144 : bchk bzf bIx bmpx bmqx bjn bgm blpx bspx bdgx bldx [] [] 30000 bkx144 = true := by decide +kernel
theorem bcx144 : bcon bZ bIx bTr bkx144 := bchk_ok bZ_len bzf_ok bTr_ok (fun _ q => absurd q List.not_mem_nil) (fun _ q => absurd q List.not_mem_nil) btx144
-- speak: 14 steps
def bkx145 : bC := (54, [some (.inr [.index 310]), some (.inl (0, 3)), some (.inl (-1, 20)), some (.inl (-2147483648, 2147483647)), some (.inl (41, 41))], some (.inl (0, 0)), [], 2, [], [])
theorem btx145 : bchk bzf bIx bmpx bmqx bjn bgm blpx bspx bdgx bldx [bkx144] [] 30000 bkx145 = true := by decide +kernel
theorem bcx145 : bcon bZ bIx bTr bkx145 := bchk_ok bZ_len bzf_ok bTr_ok (List.forall_mem_cons.mpr ⟨bcx144, fun _ q => absurd q List.not_mem_nil⟩) (fun _ q => absurd q List.not_mem_nil) btx145
-- waitsOfRock: 25 steps
def bkx146 : bC := (55, [some (.inr [.index 310]), some (.inl (-2147483648, 2147483647))], some (.inl (-2147483648, 2147483647)), [(310, 310, 1, 1)], 0, [], [])
theorem btx146 : bchk bzf bIx bmpx bmqx bjn bgm blpx bspx bdgx bldx [] [] 30000 bkx146 = true := by decide +kernel
theorem bcx146 : bcon bZ bIx bTr bkx146 := bchk_ok bZ_len bzf_ok bTr_ok (fun _ q => absurd q List.not_mem_nil) (fun _ q => absurd q List.not_mem_nil) btx146
-- speak: 181 steps
def bkx147 : bC := (54, [some (.inr [.index 310]), some (.inl (0, 3)), some (.inl (-1, 20)), some (.inl (-2147483648, 2147483647)), some (.inl (40, 40))], some (.inl (-2147483648, 2147483647)), [(310, 310, 1, 1), (311, 311, 1, 1), (312, 312, 0, 29)], 3, [], [])
theorem btx147 : bchk bzf bIx bmpx bmqx bjn bgm blpx bspx bdgx bldx [bkx145, bkx146, bkx144] [] 30000 bkx147 = true := by decide +kernel
theorem bcx147 : bcon bZ bIx bTr bkx147 := bchk_ok bZ_len bzf_ok bTr_ok (List.forall_mem_cons.mpr ⟨bcx145, List.forall_mem_cons.mpr ⟨bcx146, List.forall_mem_cons.mpr ⟨bcx144, fun _ q => absurd q List.not_mem_nil⟩⟩⟩) (fun _ q => absurd q List.not_mem_nil) btx147
-- speak: 181 steps
def bkx148 : bC := (54, [some (.inr [.index 310]), some (.inl (0, 3)), some (.inl (-1, 20)), some (.inl (-2147483648, 2147483647)), some (.inl (39, 39))], some (.inl (-2147483648, 2147483647)), [(310, 310, 1, 1), (311, 311, 1, 1), (312, 312, 0, 29)], 4, [], [])
theorem btx148 : bchk bzf bIx bmpx bmqx bjn bgm blpx bspx bdgx bldx [bkx147, bkx146, bkx144] [] 30000 bkx148 = true := by decide +kernel
theorem bcx148 : bcon bZ bIx bTr bkx148 := bchk_ok bZ_len bzf_ok bTr_ok (List.forall_mem_cons.mpr ⟨bcx147, List.forall_mem_cons.mpr ⟨bcx146, List.forall_mem_cons.mpr ⟨bcx144, fun _ q => absurd q List.not_mem_nil⟩⟩⟩) (fun _ q => absurd q List.not_mem_nil) btx148
-- speak: 181 steps
def bkx149 : bC := (54, [some (.inr [.index 310]), some (.inl (0, 3)), some (.inl (-1, 20)), some (.inl (-2147483648, 2147483647)), some (.inl (38, 38))], some (.inl (-2147483648, 2147483647)), [(310, 310, 1, 1), (311, 311, 1, 1), (312, 312, 0, 29)], 5, [], [])
theorem btx149 : bchk bzf bIx bmpx bmqx bjn bgm blpx bspx bdgx bldx [bkx148, bkx146, bkx144] [] 30000 bkx149 = true := by decide +kernel
theorem bcx149 : bcon bZ bIx bTr bkx149 := bchk_ok bZ_len bzf_ok bTr_ok (List.forall_mem_cons.mpr ⟨bcx148, List.forall_mem_cons.mpr ⟨bcx146, List.forall_mem_cons.mpr ⟨bcx144, fun _ q => absurd q List.not_mem_nil⟩⟩⟩) (fun _ q => absurd q List.not_mem_nil) btx149
-- speak: 181 steps
def bkx150 : bC := (54, [some (.inr [.index 310]), some (.inl (0, 3)), some (.inl (-1, 20)), some (.inl (-2147483648, 2147483647)), some (.inl (37, 37))], some (.inl (-2147483648, 2147483647)), [(310, 310, 1, 1), (311, 311, 1, 1), (312, 312, 0, 29)], 6, [], [])
theorem btx150 : bchk bzf bIx bmpx bmqx bjn bgm blpx bspx bdgx bldx [bkx149, bkx146, bkx144] [] 30000 bkx150 = true := by decide +kernel
theorem bcx150 : bcon bZ bIx bTr bkx150 := bchk_ok bZ_len bzf_ok bTr_ok (List.forall_mem_cons.mpr ⟨bcx149, List.forall_mem_cons.mpr ⟨bcx146, List.forall_mem_cons.mpr ⟨bcx144, fun _ q => absurd q List.not_mem_nil⟩⟩⟩) (fun _ q => absurd q List.not_mem_nil) btx150
-- speak: 181 steps
def bkx151 : bC := (54, [some (.inr [.index 310]), some (.inl (0, 3)), some (.inl (-1, 20)), some (.inl (-2147483648, 2147483647)), some (.inl (36, 36))], some (.inl (-2147483648, 2147483647)), [(310, 310, 1, 1), (311, 311, 1, 1), (312, 312, 0, 29)], 7, [], [])
theorem btx151 : bchk bzf bIx bmpx bmqx bjn bgm blpx bspx bdgx bldx [bkx150, bkx146, bkx144] [] 30000 bkx151 = true := by decide +kernel
theorem bcx151 : bcon bZ bIx bTr bkx151 := bchk_ok bZ_len bzf_ok bTr_ok (List.forall_mem_cons.mpr ⟨bcx150, List.forall_mem_cons.mpr ⟨bcx146, List.forall_mem_cons.mpr ⟨bcx144, fun _ q => absurd q List.not_mem_nil⟩⟩⟩) (fun _ q => absurd q List.not_mem_nil) btx151
-- speak: 181 steps
def bkx152 : bC := (54, [some (.inr [.index 310]), some (.inl (0, 3)), some (.inl (-1, 20)), some (.inl (-2147483648, 2147483647)), some (.inl (35, 35))], some (.inl (-2147483648, 2147483647)), [(310, 310, 1, 1), (311, 311, 1, 1), (312, 312, 0, 29)], 8, [], [])
theorem btx152 : bchk bzf bIx bmpx bmqx bjn bgm blpx bspx bdgx bldx [bkx151, bkx146, bkx144] [] 30000 bkx152 = true := by decide +kernel
theorem bcx152 : bcon bZ bIx bTr bkx152 := bchk_ok bZ_len bzf_ok bTr_ok (List.forall_mem_cons.mpr ⟨bcx151, List.forall_mem_cons.mpr ⟨bcx146, List.forall_mem_cons.mpr ⟨bcx144, fun _ q => absurd q List.not_mem_nil⟩⟩⟩) (fun _ q => absurd q List.not_mem_nil) btx152
-- speak: 181 steps
def bkx153 : bC := (54, [some (.inr [.index 310]), some (.inl (0, 3)), some (.inl (-1, 20)), some (.inl (-2147483648, 2147483647)), some (.inl (34, 34))], some (.inl (-2147483648, 2147483647)), [(310, 310, 1, 1), (311, 311, 1, 1), (312, 312, 0, 29)], 9, [], [])
theorem btx153 : bchk bzf bIx bmpx bmqx bjn bgm blpx bspx bdgx bldx [bkx152, bkx146, bkx144] [] 30000 bkx153 = true := by decide +kernel
theorem bcx153 : bcon bZ bIx bTr bkx153 := bchk_ok bZ_len bzf_ok bTr_ok (List.forall_mem_cons.mpr ⟨bcx152, List.forall_mem_cons.mpr ⟨bcx146, List.forall_mem_cons.mpr ⟨bcx144, fun _ q => absurd q List.not_mem_nil⟩⟩⟩) (fun _ q => absurd q List.not_mem_nil) btx153
-- speak: 181 steps
def bkx154 : bC := (54, [some (.inr [.index 310]), some (.inl (0, 3)), some (.inl (-1, 20)), some (.inl (-2147483648, 2147483647)), some (.inl (33, 33))], some (.inl (-2147483648, 2147483647)), [(310, 310, 1, 1), (311, 311, 1, 1), (312, 312, 0, 29)], 10, [], [])
theorem btx154 : bchk bzf bIx bmpx bmqx bjn bgm blpx bspx bdgx bldx [bkx153, bkx146, bkx144] [] 30000 bkx154 = true := by decide +kernel
theorem bcx154 : bcon bZ bIx bTr bkx154 := bchk_ok bZ_len bzf_ok bTr_ok (List.forall_mem_cons.mpr ⟨bcx153, List.forall_mem_cons.mpr ⟨bcx146, List.forall_mem_cons.mpr ⟨bcx144, fun _ q => absurd q List.not_mem_nil⟩⟩⟩) (fun _ q => absurd q List.not_mem_nil) btx154
-- speak: 181 steps
def bkx155 : bC := (54, [some (.inr [.index 310]), some (.inl (0, 3)), some (.inl (-1, 20)), some (.inl (-2147483648, 2147483647)), some (.inl (32, 32))], some (.inl (-2147483648, 2147483647)), [(310, 310, 1, 1), (311, 311, 1, 1), (312, 312, 0, 29)], 11, [], [])
theorem btx155 : bchk bzf bIx bmpx bmqx bjn bgm blpx bspx bdgx bldx [bkx154, bkx146, bkx144] [] 30000 bkx155 = true := by decide +kernel
theorem bcx155 : bcon bZ bIx bTr bkx155 := bchk_ok bZ_len bzf_ok bTr_ok (List.forall_mem_cons.mpr ⟨bcx154, List.forall_mem_cons.mpr ⟨bcx146, List.forall_mem_cons.mpr ⟨bcx144, fun _ q => absurd q List.not_mem_nil⟩⟩⟩) (fun _ q => absurd q List.not_mem_nil) btx155
-- speak: 181 steps
def bkx156 : bC := (54, [some (.inr [.index 310]), some (.inl (0, 3)), some (.inl (-1, 20)), some (.inl (-2147483648, 2147483647)), some (.inl (31, 31))], some (.inl (-2147483648, 2147483647)), [(310, 310, 1, 1), (311, 311, 1, 1), (312, 312, 0, 29)], 12, [], [])
theorem btx156 : bchk bzf bIx bmpx bmqx bjn bgm blpx bspx bdgx bldx [bkx155, bkx146, bkx144] [] 30000 bkx156 = true := by decide +kernel
theorem bcx156 : bcon bZ bIx bTr bkx156 := bchk_ok bZ_len bzf_ok bTr_ok (List.forall_mem_cons.mpr ⟨bcx155, List.forall_mem_cons.mpr ⟨bcx146, List.forall_mem_cons.mpr ⟨bcx144, fun _ q => absurd q List.not_mem_nil⟩⟩⟩) (fun _ q => absurd q List.not_mem_nil) btx156
-- speak: 181 steps
def bkx157 : bC := (54, [some (.inr [.index 310]), some (.inl (0, 3)), some (.inl (-1, 20)), some (.inl (-2147483648, 2147483647)), some (.inl (30, 30))], some (.inl (-2147483648, 2147483647)), [(310, 310, 1, 1), (311, 311, 1, 1), (312, 312, 0, 29)], 13, [], [])
theorem btx157 : bchk bzf bIx bmpx bmqx bjn bgm blpx bspx bdgx bldx [bkx156, bkx146, bkx144] [] 30000 bkx157 = true := by decide +kernel
theorem bcx157 : bcon bZ bIx bTr bkx157 := bchk_ok bZ_len bzf_ok bTr_ok (List.forall_mem_cons.mpr ⟨bcx156, List.forall_mem_cons.mpr ⟨bcx146, List.forall_mem_cons.mpr ⟨bcx144, fun _ q => absurd q List.not_mem_nil⟩⟩⟩) (fun _ q => absurd q List.not_mem_nil) btx157
-- speak: 181 steps
def bkx158 : bC := (54, [some (.inr [.index 310]), some (.inl (0, 3)), some (.inl (-1, 20)), some (.inl (-2147483648, 2147483647)), some (.inl (29, 29))], some (.inl (-2147483648, 2147483647)), [(310, 310, 1, 1), (311, 311, 1, 1), (312, 312, 0, 29)], 14, [], [])
theorem btx158 : bchk bzf bIx bmpx bmqx bjn bgm blpx bspx bdgx bldx [bkx157, bkx146, bkx144] [] 30000 bkx158 = true := by decide +kernel
theorem bcx158 : bcon bZ bIx bTr bkx158 := bchk_ok bZ_len bzf_ok bTr_ok (List.forall_mem_cons.mpr ⟨bcx157, List.forall_mem_cons.mpr ⟨bcx146, List.forall_mem_cons.mpr ⟨bcx144, fun _ q => absurd q List.not_mem_nil⟩⟩⟩) (fun _ q => absurd q List.not_mem_nil) btx158
-- speak: 181 steps
def bkx159 : bC := (54, [some (.inr [.index 310]), some (.inl (0, 3)), some (.inl (-1, 20)), some (.inl (-2147483648, 2147483647)), some (.inl (28, 28))], some (.inl (-2147483648, 2147483647)), [(310, 310, 1, 1), (311, 311, 1, 1), (312, 312, 0, 29)], 15, [], [])
theorem btx159 : bchk bzf bIx bmpx bmqx bjn bgm blpx bspx bdgx bldx [bkx158, bkx146, bkx144] [] 30000 bkx159 = true := by decide +kernel
theorem bcx159 : bcon bZ bIx bTr bkx159 := bchk_ok bZ_len bzf_ok bTr_ok (List.forall_mem_cons.mpr ⟨bcx158, List.forall_mem_cons.mpr ⟨bcx146, List.forall_mem_cons.mpr ⟨bcx144, fun _ q => absurd q List.not_mem_nil⟩⟩⟩) (fun _ q => absurd q List.not_mem_nil) btx159
-- speak: 181 steps
def bkx160 : bC := (54, [some (.inr [.index 310]), some (.inl (0, 3)), some (.inl (-1, 20)), some (.inl (-2147483648, 2147483647)), some (.inl (27, 27))], some (.inl (-2147483648, 2147483647)), [(310, 310, 1, 1), (311, 311, 1, 1), (312, 312, 0, 29)], 16, [], [])
theorem btx160 : bchk bzf bIx bmpx bmqx bjn bgm blpx bspx bdgx bldx [bkx159, bkx146, bkx144] [] 30000 bkx160 = true := by decide +kernel
theorem bcx160 : bcon bZ bIx bTr bkx160 := bchk_ok bZ_len bzf_ok bTr_ok (List.forall_mem_cons.mpr ⟨bcx159, List.forall_mem_cons.mpr ⟨bcx146, List.forall_mem_cons.mpr ⟨bcx144, fun _ q => absurd q List.not_mem_nil⟩⟩⟩) (fun _ q => absurd q List.not_mem_nil) btx160
-- speak: 181 steps
def bkx161 : bC := (54, [some (.inr [.index 310]), some (.inl (0, 3)), some (.inl (-1, 20)), some (.inl (-2147483648, 2147483647)), some (.inl (26, 26))], some (.inl (-2147483648, 2147483647)), [(310, 310, 1, 1), (311, 311, 1, 1), (312, 312, 0, 29)], 17, [], [])
theorem btx161 : bchk bzf bIx bmpx bmqx bjn bgm blpx bspx bdgx bldx [bkx160, bkx146, bkx144] [] 30000 bkx161 = true := by decide +kernel
theorem bcx161 : bcon bZ bIx bTr bkx161 := bchk_ok bZ_len bzf_ok bTr_ok (List.forall_mem_cons.mpr ⟨bcx160, List.forall_mem_cons.mpr ⟨bcx146, List.forall_mem_cons.mpr ⟨bcx144, fun _ q => absurd q List.not_mem_nil⟩⟩⟩) (fun _ q => absurd q List.not_mem_nil) btx161
-- speak: 181 steps
def bkx162 : bC := (54, [some (.inr [.index 310]), some (.inl (0, 3)), some (.inl (-1, 20)), some (.inl (-2147483648, 2147483647)), some (.inl (25, 25))], some (.inl (-2147483648, 2147483647)), [(310, 310, 1, 1), (311, 311, 1, 1), (312, 312, 0, 29)], 18, [], [])
theorem btx162 : bchk bzf bIx bmpx bmqx bjn bgm blpx bspx bdgx bldx [bkx161, bkx146, bkx144] [] 30000 bkx162 = true := by decide +kernel
theorem bcx162 : bcon bZ bIx bTr bkx162 := bchk_ok bZ_len bzf_ok bTr_ok (List.forall_mem_cons.mpr ⟨bcx161, List.forall_mem_cons.mpr ⟨bcx146, List.forall_mem_cons.mpr ⟨bcx144, fun _ q => absurd q List.not_mem_nil⟩⟩⟩) (fun _ q => absurd q List.not_mem_nil) btx162
-- speak: 181 steps
def bkx163 : bC := (54, [some (.inr [.index 310]), some (.inl (0, 3)), some (.inl (-1, 20)), some (.inl (-2147483648, 2147483647)), some (.inl (24, 24))], some (.inl (-2147483648, 2147483647)), [(310, 310, 1, 1), (311, 311, 1, 1), (312, 312, 0, 29)], 19, [], [])
theorem btx163 : bchk bzf bIx bmpx bmqx bjn bgm blpx bspx bdgx bldx [bkx162, bkx146, bkx144] [] 30000 bkx163 = true := by decide +kernel
theorem bcx163 : bcon bZ bIx bTr bkx163 := bchk_ok bZ_len bzf_ok bTr_ok (List.forall_mem_cons.mpr ⟨bcx162, List.forall_mem_cons.mpr ⟨bcx146, List.forall_mem_cons.mpr ⟨bcx144, fun _ q => absurd q List.not_mem_nil⟩⟩⟩) (fun _ q => absurd q List.not_mem_nil) btx163
-- speak: 181 steps
def bkx164 : bC := (54, [some (.inr [.index 310]), some (.inl (0, 3)), some (.inl (-1, 20)), some (.inl (-2147483648, 2147483647)), some (.inl (23, 23))], some (.inl (-2147483648, 2147483647)), [(310, 310, 1, 1), (311, 311, 1, 1), (312, 312, 0, 29)], 20, [], [])
theorem btx164 : bchk bzf bIx bmpx bmqx bjn bgm blpx bspx bdgx bldx [bkx163, bkx146, bkx144] [] 30000 bkx164 = true := by decide +kernel
theorem bcx164 : bcon bZ bIx bTr bkx164 := bchk_ok bZ_len bzf_ok bTr_ok (List.forall_mem_cons.mpr ⟨bcx163, List.forall_mem_cons.mpr ⟨bcx146, List.forall_mem_cons.mpr ⟨bcx144, fun _ q => absurd q List.not_mem_nil⟩⟩⟩) (fun _ q => absurd q List.not_mem_nil) btx164
-- speak: 181 steps
def bkx165 : bC := (54, [some (.inr [.index 310]), some (.inl (0, 3)), some (.inl (-1, 20)), some (.inl (-2147483648, 2147483647)), some (.inl (22, 22))], some (.inl (-2147483648, 2147483647)), [(310, 310, 1, 1), (311, 311, 1, 1), (312, 312, 0, 29)], 21, [], [])
theorem btx165 : bchk bzf bIx bmpx bmqx bjn bgm blpx bspx bdgx bldx [bkx164, bkx146, bkx144] [] 30000 bkx165 = true := by decide +kernel
theorem bcx165 : bcon bZ bIx bTr bkx165 := bchk_ok bZ_len bzf_ok bTr_ok (List.forall_mem_cons.mpr ⟨bcx164, List.forall_mem_cons.mpr ⟨bcx146, List.forall_mem_cons.mpr ⟨bcx144, fun _ q => absurd q List.not_mem_nil⟩⟩⟩) (fun _ q => absurd q List.not_mem_nil) btx165
-- speak: 181 steps
def bkx166 : bC := (54, [some (.inr [.index 310]), some (.inl (0, 3)), some (.inl (-1, 20)), some (.inl (-2147483648, 2147483647)), some (.inl (21, 21))], some (.inl (-2147483648, 2147483647)), [(310, 310, 1, 1), (311, 311, 1, 1), (312, 312, 0, 29)], 22, [], [])
theorem btx166 : bchk bzf bIx bmpx bmqx bjn bgm blpx bspx bdgx bldx [bkx165, bkx146, bkx144] [] 30000 bkx166 = true := by decide +kernel
theorem bcx166 : bcon bZ bIx bTr bkx166 := bchk_ok bZ_len bzf_ok bTr_ok (List.forall_mem_cons.mpr ⟨bcx165, List.forall_mem_cons.mpr ⟨bcx146, List.forall_mem_cons.mpr ⟨bcx144, fun _ q => absurd q List.not_mem_nil⟩⟩⟩) (fun _ q => absurd q List.not_mem_nil) btx166
-- speak: 181 steps
def bkx167 : bC := (54, [some (.inr [.index 310]), some (.inl (0, 3)), some (.inl (-1, 20)), some (.inl (-2147483648, 2147483647)), some (.inl (20, 20))], some (.inl (-2147483648, 2147483647)), [(310, 310, 1, 1), (311, 311, 1, 1), (312, 312, 0, 29)], 23, [], [])
theorem btx167 : bchk bzf bIx bmpx bmqx bjn bgm blpx bspx bdgx bldx [bkx166, bkx146, bkx144] [] 30000 bkx167 = true := by decide +kernel
theorem bcx167 : bcon bZ bIx bTr bkx167 := bchk_ok bZ_len bzf_ok bTr_ok (List.forall_mem_cons.mpr ⟨bcx166, List.forall_mem_cons.mpr ⟨bcx146, List.forall_mem_cons.mpr ⟨bcx144, fun _ q => absurd q List.not_mem_nil⟩⟩⟩) (fun _ q => absurd q List.not_mem_nil) btx167
-- speak: 181 steps
def bkx168 : bC := (54, [some (.inr [.index 310]), some (.inl (0, 3)), some (.inl (-1, 20)), some (.inl (-2147483648, 2147483647)), some (.inl (19, 19))], some (.inl (-2147483648, 2147483647)), [(310, 310, 1, 1), (311, 311, 1, 1), (312, 312, 0, 29)], 24, [], [])
theorem btx168 : bchk bzf bIx bmpx bmqx bjn bgm blpx bspx bdgx bldx [bkx167, bkx146, bkx144] [] 30000 bkx168 = true := by decide +kernel
theorem bcx168 : bcon bZ bIx bTr bkx168 := bchk_ok bZ_len bzf_ok bTr_ok (List.forall_mem_cons.mpr ⟨bcx167, List.forall_mem_cons.mpr ⟨bcx146, List.forall_mem_cons.mpr ⟨bcx144, fun _ q => absurd q List.not_mem_nil⟩⟩⟩) (fun _ q => absurd q List.not_mem_nil) btx168
