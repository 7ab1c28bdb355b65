-- ===== contracts
-- turnByText: 745 steps
def bkx118 : bC := (67, [some (.inr [.index 1]), some (.inr [.index 17, .index 19, .index 21, .index 23, .index 25, .index 27, .index 29, .index 31]), some (.inl (0, 20))], none, [(18, 18, 0, 11), (20, 20, 0, 11), (22, 22, 0, 11), (24, 24, 0, 11), (26, 26, 0, 11), (28, 28, 0, 11), (30, 30, 0, 11), (32, 33, 0, 11), (69, 69, 0, 59)], 2, [], [])
theorem btx118 : bchk bzf bIx bmpx bmqx bjn bgm blpx bspx bdgx bldx [bkx55] [] 30000 bkx118 = true := by decide +kernel
theorem bcx118 : bcon bZ bIx bTr bkx118 := bchk_ok bZ_len bzf_ok bTr_ok (List.forall_mem_cons.mpr ⟨bcx55, fun _ q => absurd q List.not_mem_nil⟩) (fun _ q => absurd q List.not_mem_nil) btx118
-- sendBack: 36 steps
def bkx119 : bC := (66, [some (.inr [.index 1]), some (.inr [.index 58, .index 59, .index 60, .index 61, .index 62, .index 63, .index 64, .index 65]), some (.inr [.index 17, .index 19, .index 21, .index 23, .index 25, .index 27, .index 29, .index 31])], none, [(17, 33, 0, 11), (69, 69, 0, 59)], 3, [], [])
theorem btx119 : bchk bzf bIx bmpx bmqx bjn bgm blpx bspx bdgx bldx [bkx113, bkx114, bkx115, bkx116, bkx117, bkx118] [] 30000 bkx119 = true := by decide +kernel
theorem bcx119 : bcon bZ bIx bTr bkx119 := bchk_ok bZ_len bzf_ok bTr_ok (List.forall_mem_cons.mpr ⟨bcx113, List.forall_mem_cons.mpr ⟨bcx114, List.forall_mem_cons.mpr ⟨bcx115, List.forall_mem_cons.mpr ⟨bcx116, List.forall_mem_cons.mpr ⟨bcx117, List.forall_mem_cons.mpr ⟨bcx118, fun _ q => absurd q List.not_mem_nil⟩⟩⟩⟩⟩⟩) (fun _ q => absurd q List.not_mem_nil) btx119
-- logEcho: 184 steps
def bkx120 : bC := (69, [some (.inr [.index 1]), some (.inl (0, 11)), some (.inl (0, 7))], none, [(15, 15, 1, 2), (17, 33, 0, 11), (69, 69, 0, 59)], 4, [], [])
theorem btx120 : bchk bzf bIx bmpx bmqx bjn bgm blpx bspx bdgx bldx [bkx119] [] 30000 bkx120 = true := by decide +kernel
theorem bcx120 : bcon bZ bIx bTr bkx120 := bchk_ok bZ_len bzf_ok bTr_ok (List.forall_mem_cons.mpr ⟨bcx119, fun _ q => absurd q List.not_mem_nil⟩) (fun _ q => absurd q List.not_mem_nil) btx120
-- letSecondGoBy: 1227 steps
def bkx121 : bC := (71, [some (.inr [.index 1])], none, [(1, 1, 11, 11), (9, 9, 1, 1), (10, 10, 0, 9), (11, 11, 1, 1), (12, 12, 0, 9), (13, 13, 1, 1), (14, 14, 0, 9), (15, 15, 1, 2), (17, 33, 0, 11), (69, 69, 0, 59)], 5, [], [])
theorem btx121 : bchk bzf bIx bmpx bmqx bjn bgm blpx bspx bdgx bldx [bkx120] [] 30000 bkx121 = true := by decide +kernel
theorem bcx121 : bcon bZ bIx bTr bkx121 := bchk_ok bZ_len bzf_ok bTr_ok (List.forall_mem_cons.mpr ⟨bcx120, fun _ q => absurd q List.not_mem_nil⟩) (fun _ q => absurd q List.not_mem_nil) btx121
-- soundOrSize: 29 steps
def bkx122 : bC := (119, [some (.inr [.index 0]), some (.inr [.index 17, .index 19, .index 21, .index 23, .index 25, .index 27, .index 29, .index 31]), some (.inl (-2147483648, 2147483647))], some (.inl (-2147483648, 2147483647)), [(323, 323, 1, 1)], 1, [], [])
theorem btx122 : bchk bzf bIx bmpx bmqx bjn bgm blpx bspx bdgx bldx [bkx1] [] 30000 bkx122 = true := by decide +kernel
theorem bcx122 : bcon bZ bIx bTr bkx122 := bchk_ok bZ_len bzf_ok bTr_ok (List.forall_mem_cons.mpr ⟨bcx1, fun _ q => absurd q List.not_mem_nil⟩) (fun _ q => absurd q List.not_mem_nil) btx122
-- sayNay: 50 steps
def bkx123 : bC := (43, [some (.inr [.index 308]), some (.inl (0, 0))], none, [(309, 309, 0, 0)], 1, [], [])
theorem btx123 : bchk bzf bIx bmpx bmqx bjn bgm blpx bspx bdgx bldx [bkx3] [] 30000 bkx123 = true := by decide +kernel
theorem bcx123 : bcon bZ bIx bTr bkx123 := bchk_ok bZ_len bzf_ok bTr_ok (List.forall_mem_cons.mpr ⟨bcx3, fun _ q => absurd q List.not_mem_nil⟩) (fun _ q => absurd q List.not_mem_nil) btx123
-- sayNay: 45 steps
def bkx124 : bC := (43, [some (.inr [.index 308]), some (.inl (1, 1))], none, [], 1, [], [])
theorem btx124 : bchk bzf bIx bmpx bmqx bjn bgm blpx bspx bdgx bldx [] [] 30000 bkx124 = true := by decide +kernel
theorem bcx124 : bcon bZ bIx bTr bkx124 := bchk_ok bZ_len bzf_ok bTr_ok (fun _ q => absurd q List.not_mem_nil) (fun _ q => absurd q List.not_mem_nil) btx124
-- turnNumbers: 41 steps
def bkx125 : bC := (44, [some (.inr [.index 308])], none, [(309, 309, 0, 0)], 1, [], [])
theorem btx125 : bchk bzf bIx bmpx bmqx bjn bgm blpx bspx bdgx bldx [bkx3] [] 30000 bkx125 = true := by decide +kernel
theorem bcx125 : bcon bZ bIx bTr bkx125 := bchk_ok bZ_len bzf_ok bTr_ok (List.forall_mem_cons.mpr ⟨bcx3, fun _ q => absurd q List.not_mem_nil⟩) (fun _ q => absurd q List.not_mem_nil) btx125
-- turnRound: 11 steps
def bkx126 : bC := (45, [some (.inr [.index 308])], none, [], 0, [], [])
theorem btx126 : bchk bzf bIx bmpx bmqx bjn bgm blpx bspx bdgx bldx [] [] 30000 bkx126 = true := by decide +kernel
theorem bcx126 : bcon bZ bIx bTr bkx126 := bchk_ok bZ_len bzf_ok bTr_ok (fun _ q => absurd q List.not_mem_nil) (fun _ q => absurd q List.not_mem_nil) btx126
-- leaveOutEach: 35 steps
def bkx127 : bC := (46, [some (.inr [.index 308]), some (.inl (0, 32))], none, [(308, 308, 1, 1), (309, 309, 0, 0)], 0, [], [])
theorem btx127 : bchk bzf bIx bmpx bmqx bjn bgm blpx bspx bdgx bldx [] [] 30000 bkx127 = true := by decide +kernel
theorem bcx127 : bcon bZ bIx bTr bkx127 := bchk_ok bZ_len bzf_ok bTr_ok (fun _ q => absurd q List.not_mem_nil) (fun _ q => absurd q List.not_mem_nil) btx127
-- turnByText: 96 steps
def bkx128 : bC := (67, [some (.inr [.index 1]), some (.inr [.index 308]), some (.inl (0, 20))], none, [(33, 33, 0, 3), (69, 69, 0, 59), (309, 309, 0, 0)], 2, [], [])
theorem btx128 : bchk bzf bIx bmpx bmqx bjn bgm blpx bspx bdgx bldx [bkx55] [] 30000 bkx128 = true := by decide +kernel
theorem bcx128 : bcon bZ bIx bTr bkx128 := bchk_ok bZ_len bzf_ok bTr_ok (List.forall_mem_cons.mpr ⟨bcx55, fun _ q => absurd q List.not_mem_nil⟩) (fun _ q => absurd q List.not_mem_nil) btx128
-- sendBack: 36 steps
def bkx129 : bC := (66, [some (.inr [.index 1]), some (.inr [.index 58, .index 59, .index 60, .index 61, .index 62, .index 63, .index 64, .index 65]), some (.inr [.index 308])], none, [(33, 33, 0, 3), (69, 69, 0, 59), (308, 308, 1, 1), (309, 309, 0, 0)], 3, [], [])
theorem btx129 : bchk bzf bIx bmpx bmqx bjn bgm blpx bspx bdgx bldx [bkx123, bkx124, bkx125, bkx126, bkx127, bkx128] [] 30000 bkx129 = true := by decide +kernel
theorem bcx129 : bcon bZ bIx bTr bkx129 := bchk_ok bZ_len bzf_ok bTr_ok (List.forall_mem_cons.mpr ⟨bcx123, List.forall_mem_cons.mpr ⟨bcx124, List.forall_mem_cons.mpr ⟨bcx125, List.forall_mem_cons.mpr ⟨bcx126, List.forall_mem_cons.mpr ⟨bcx127, List.forall_mem_cons.mpr ⟨bcx128, fun _ q => absurd q List.not_mem_nil⟩⟩⟩⟩⟩⟩) (fun _ q => absurd q List.not_mem_nil) btx129
-- hear: 92 steps
def bkx130 : bC := (68, [some (.inr [.index 1]), some (.inr [.index 306]), some (.inr [.index 314]), some (.inr [.index 308])], none, [(33, 33, 0, 3), (69, 69, 0, 59), (308, 308, 1, 1), (309, 309, 0, 11)], 4, [], [])
theorem btx130 : bchk bzf bIx bmpx bmqx bjn bgm blpx bspx bdgx bldx [bkx129] [] 30000 bkx130 = true := by decide +kernel
theorem bcx130 : bcon bZ bIx bTr bkx130 := bchk_ok bZ_len bzf_ok bTr_ok (List.forall_mem_cons.mpr ⟨bcx129, fun _ q => absurd q List.not_mem_nil⟩) (fun _ q => absurd q List.not_mem_nil) btx130
-- numberHeard: 77 steps
def bkx131 : bC := (3, [some (.inr [.index 305]), some (.inr [.index 1]), some (.inl (-20, 2147483647)), some (.inr [.index 314]), some (.inl (-20, 80))], some (.inl (-20, 80)), [(33, 33, 0, 3), (69, 69, 0, 59), (306, 306, 1, 1), (307, 307, 0, 0), (308, 308, 1, 1), (309, 309, 0, 11)], 5, [], [])
theorem btx131 : bchk bzf bIx bmpx bmqx bjn bgm blpx bspx bdgx bldx [bkx130] [] 30000 bkx131 = true := by decide +kernel
theorem bcx131 : bcon bZ bIx bTr bkx131 := bchk_ok bZ_len bzf_ok bTr_ok (List.forall_mem_cons.mpr ⟨bcx130, fun _ q => absurd q List.not_mem_nil⟩) (fun _ q => absurd q List.not_mem_nil) btx131
-- hear: 92 steps
def bkx132 : bC := (68, [some (.inr [.index 1]), some (.inr [.index 306]), some (.inr [.index 316]), some (.inr [.index 308])], none, [(33, 33, 0, 3), (69, 69, 0, 59), (308, 308, 1, 1), (309, 309, 0, 11)], 4, [], [])
theorem btx132 : bchk bzf bIx bmpx bmqx bjn bgm blpx bspx bdgx bldx [bkx129] [] 30000 bkx132 = true := by decide +kernel
theorem bcx132 : bcon bZ bIx bTr bkx132 := bchk_ok bZ_len bzf_ok bTr_ok (List.forall_mem_cons.mpr ⟨bcx129, fun _ q => absurd q List.not_mem_nil⟩) (fun _ q => absurd q List.not_mem_nil) btx132
-- numberHeard: 77 steps
def bkx133 : bC := (3, [some (.inr [.index 305]), some (.inr [.index 1]), some (.inl (-20, 80)), some (.inr [.index 316]), some (.inl (-20, 2147483647))], some (.inl (-20, 2147483647)), [(33, 33, 0, 3), (69, 69, 0, 59), (306, 306, 1, 1), (307, 307, 0, 0), (308, 308, 1, 1), (309, 309, 0, 11)], 5, [], [])
theorem btx133 : bchk bzf bIx bmpx bmqx bjn bgm blpx bspx bdgx bldx [bkx132] [] 30000 bkx133 = true := by decide +kernel
theorem bcx133 : bcon bZ bIx bTr bkx133 := bchk_ok bZ_len bzf_ok bTr_ok (List.forall_mem_cons.mpr ⟨bcx132, fun _ q => absurd q List.not_mem_nil⟩) (fun _ q => absurd q List.not_mem_nil) btx133
-- workOut: 269 steps
def bkx134 : bC := (59, [some (.inr [.index 70]), some (.inr [.index 33])], some (.inl (-2147483648, 2147483647)), [(73, 73, 0, 59)], 1, [], [])
theorem btx134 : bchk bzf bIx bmpx bmqx bjn bgm blpx bspx bdgx bldx [] [] 30000 bkx134 = true := by decide +kernel
theorem bcx134 : bcon bZ bIx bTr bkx134 := bchk_ok bZ_len bzf_ok bTr_ok (fun _ q => absurd q List.not_mem_nil) (fun _ q => absurd q List.not_mem_nil) btx134
-- goOn: 336 steps
def bkx135 : bC := (2, [some (.inr [.index 305]), some (.inr [.index 1]), some (.inr [.index 314]), some (.inr [.index 316]), some (.inl (1, 60))], none, [(33, 33, 0, 3), (69, 69, 0, 59), (73, 73, 0, 59), (305, 305, 2, 7), (306, 306, 1, 1), (307, 307, 0, 0), (308, 308, 1, 1), (309, 309, 0, 11)], 6, [], [])
theorem btx135 : bchk bzf bIx bmpx bmqx bjn bgm blpx bspx bdgx bldx [bkx131, bkx133, bkx134] [] 30000 bkx135 = true := by decide +kernel
theorem bcx135 : bcon bZ bIx bTr bkx135 := bchk_ok bZ_len bzf_ok bTr_ok (List.forall_mem_cons.mpr ⟨bcx131, List.forall_mem_cons.mpr ⟨bcx133, List.forall_mem_cons.mpr ⟨bcx134, fun _ q => absurd q List.not_mem_nil⟩⟩⟩) (fun _ q => absurd q List.not_mem_nil) btx135
-- ownerOfBody: 255 steps
def bkx136 : bC := (56, [some (.inl (0, 3)), some (.inl (-1, 20))], some (.inl (-1, 6)), [], 1, [], [])
theorem btx136 : bchk bzf bIx bmpx bmqx bjn bgm blpx bspx bdgx bldx [] [] 30000 bkx136 = true := by decide +kernel
theorem bcx136 : bcon bZ bIx bTr bkx136 := bchk_ok bZ_len bzf_ok bTr_ok (fun _ q => absurd q List.not_mem_nil) (fun _ q => absurd q List.not_mem_nil) btx136
-- speak: 14 steps
def bkx137 : bC := (54, [some (.inr [.index 310]), some (.inl (0, 3)), some (.inl (-1, 20)), some (.inl (-2147483648, 2147483647)), some (.inl (41, 41))], some (.inl (0, 0)), [], 2, [], [])
theorem btx137 : bchk bzf bIx bmpx bmqx bjn bgm blpx bspx bdgx bldx [bkx136] [] 30000 bkx137 = true := by decide +kernel
theorem bcx137 : bcon bZ bIx bTr bkx137 := bchk_ok bZ_len bzf_ok bTr_ok (List.forall_mem_cons.mpr ⟨bcx136, fun _ q => absurd q List.not_mem_nil⟩) (fun _ q => absurd q List.not_mem_nil) btx137
-- waitsOfRock: 25 steps
def bkx138 : bC := (55, [some (.inr [.index 310]), some (.inl (-2147483648, 2147483647))], some (.inl (-2147483648, 2147483647)), [(310, 310, 1, 1)], 0, [], [])
theorem btx138 : bchk bzf bIx bmpx bmqx bjn bgm blpx bspx bdgx bldx [] [] 30000 bkx138 = true := by decide +kernel
theorem bcx138 : bcon bZ bIx bTr bkx138 := bchk_ok bZ_len bzf_ok bTr_ok (fun _ q => absurd q List.not_mem_nil) (fun _ q => absurd q List.not_mem_nil) btx138
-- speak: 181 steps
def bkx139 : bC := (54, [some (.inr [.index 310]), some (.inl (0, 3)), some (.inl (-1, 20)), some (.inl (-2147483648, 2147483647)), some (.inl (40, 40))], some (.inl (-2147483648, 2147483647)), [(310, 310, 1, 1), (311, 311, 1, 1), (312, 312, 0, 29)], 3, [], [])
theorem btx139 : bchk bzf bIx bmpx bmqx bjn bgm blpx bspx bdgx bldx [bkx137, bkx138, bkx136] [] 30000 bkx139 = true := by decide +kernel
theorem bcx139 : bcon bZ bIx bTr bkx139 := bchk_ok bZ_len bzf_ok bTr_ok (List.forall_mem_cons.mpr ⟨bcx137, List.forall_mem_cons.mpr ⟨bcx138, List.forall_mem_cons.mpr ⟨bcx136, fun _ q => absurd q List.not_mem_nil⟩⟩⟩) (fun _ q => absurd q List.not_mem_nil) btx139
-- speak: 181 steps
def bkx140 : bC := (54, [some (.inr [.index 310]), some (.inl (0, 3)), some (.inl (-1, 20)), some (.inl (-2147483648, 2147483647)), some (.inl (39, 39))], some (.inl (-2147483648, 2147483647)), [(310, 310, 1, 1), (311, 311, 1, 1), (312, 312, 0, 29)], 4, [], [])
theorem btx140 : bchk bzf bIx bmpx bmqx bjn bgm blpx bspx bdgx bldx [bkx139, bkx138, bkx136] [] 30000 bkx140 = true := by decide +kernel
theorem bcx140 : bcon bZ bIx bTr bkx140 := bchk_ok bZ_len bzf_ok bTr_ok (List.forall_mem_cons.mpr ⟨bcx139, List.forall_mem_cons.mpr ⟨bcx138, List.forall_mem_cons.mpr ⟨bcx136, fun _ q => absurd q List.not_mem_nil⟩⟩⟩) (fun _ q => absurd q List.not_mem_nil) btx140
-- speak: 181 steps
def bkx141 : bC := (54, [some (.inr [.index 310]), some (.inl (0, 3)), some (.inl (-1, 20)), some (.inl (-2147483648, 2147483647)), some (.inl (38, 38))], some (.inl (-2147483648, 2147483647)), [(310, 310, 1, 1), (311, 311, 1, 1), (312, 312, 0, 29)], 5, [], [])
theorem btx141 : bchk bzf bIx bmpx bmqx bjn bgm blpx bspx bdgx bldx [bkx140, bkx138, bkx136] [] 30000 bkx141 = true := by decide +kernel
theorem bcx141 : bcon bZ bIx bTr bkx141 := bchk_ok bZ_len bzf_ok bTr_ok (List.forall_mem_cons.mpr ⟨bcx140, List.forall_mem_cons.mpr ⟨bcx138, List.forall_mem_cons.mpr ⟨bcx136, fun _ q => absurd q List.not_mem_nil⟩⟩⟩) (fun _ q => absurd q List.not_mem_nil) btx141
-- speak: 181 steps
def bkx142 : bC := (54, [some (.inr [.index 310]), some (.inl (0, 3)), some (.inl (-1, 20)), some (.inl (-2147483648, 2147483647)), some (.inl (37, 37))], some (.inl (-2147483648, 2147483647)), [(310, 310, 1, 1), (311, 311, 1, 1), (312, 312, 0, 29)], 6, [], [])
theorem btx142 : bchk bzf bIx bmpx bmqx bjn bgm blpx bspx bdgx bldx [bkx141, bkx138, bkx136] [] 30000 bkx142 = true := by decide +kernel
theorem bcx142 : bcon bZ bIx bTr bkx142 := bchk_ok bZ_len bzf_ok bTr_ok (List.forall_mem_cons.mpr ⟨bcx141, List.forall_mem_cons.mpr ⟨bcx138, List.forall_mem_cons.mpr ⟨bcx136, fun _ q => absurd q List.not_mem_nil⟩⟩⟩) (fun _ q => absurd q List.not_mem_nil) btx142
-- speak: 181 steps
def bkx143 : bC := (54, [some (.inr [.index 310]), some (.inl (0, 3)), some (.inl (-1, 20)), some (.inl (-2147483648, 2147483647)), some (.inl (36, 36))], some (.inl (-2147483648, 2147483647)), [(310, 310, 1, 1), (311, 311, 1, 1), (312, 312, 0, 29)], 7, [], [])
theorem btx143 : bchk bzf bIx bmpx bmqx bjn bgm blpx bspx bdgx bldx [bkx142, bkx138, bkx136] [] 30000 bkx143 = true := by decide +kernel
theorem bcx143 : bcon bZ bIx bTr bkx143 := bchk_ok bZ_len bzf_ok bTr_ok (List.forall_mem_cons.mpr ⟨bcx142, List.forall_mem_cons.mpr ⟨bcx138, List.forall_mem_cons.mpr ⟨bcx136, fun _ q => absurd q List.not_mem_nil⟩⟩⟩) (fun _ q => absurd q List.not_mem_nil) btx143
-- speak: 181 steps
def bkx144 : bC := (54, [some (.inr [.index 310]), some (.inl (0, 3)), some (.inl (-1, 20)), some (.inl (-2147483648, 2147483647)), some (.inl (35, 35))], some (.inl (-2147483648, 2147483647)), [(310, 310, 1, 1), (311, 311, 1, 1), (312, 312, 0, 29)], 8, [], [])
theorem btx144 : bchk bzf bIx bmpx bmqx bjn bgm blpx bspx bdgx bldx [bkx143, bkx138, bkx136] [] 30000 bkx144 = true := by decide +kernel
theorem bcx144 : bcon bZ bIx bTr bkx144 := bchk_ok bZ_len bzf_ok bTr_ok (List.forall_mem_cons.mpr ⟨bcx143, List.forall_mem_cons.mpr ⟨bcx138, List.forall_mem_cons.mpr ⟨bcx136, fun _ q => absurd q List.not_mem_nil⟩⟩⟩) (fun _ q => absurd q List.not_mem_nil) btx144
-- speak: 181 steps
def bkx145 : bC := (54, [some (.inr [.index 310]), some (.inl (0, 3)), some (.inl (-1, 20)), some (.inl (-2147483648, 2147483647)), some (.inl (34, 34))], some (.inl (-2147483648, 2147483647)), [(310, 310, 1, 1), (311, 311, 1, 1), (312, 312, 0, 29)], 9, [], [])
theorem btx145 : bchk bzf bIx bmpx bmqx bjn bgm blpx bspx bdgx bldx [bkx144, bkx138, bkx136] [] 30000 bkx145 = true := by decide +kernel
theorem bcx145 : bcon bZ bIx bTr bkx145 := bchk_ok bZ_len bzf_ok bTr_ok (List.forall_mem_cons.mpr ⟨bcx144, List.forall_mem_cons.mpr ⟨bcx138, List.forall_mem_cons.mpr ⟨bcx136, fun _ q => absurd q List.not_mem_nil⟩⟩⟩) (fun _ q => absurd q List.not_mem_nil) btx145
-- speak: 181 steps
def bkx146 : bC := (54, [some (.inr [.index 310]), some (.inl (0, 3)), some (.inl (-1, 20)), some (.inl (-2147483648, 2147483647)), some (.inl (33, 33))], some (.inl (-2147483648, 2147483647)), [(310, 310, 1, 1), (311, 311, 1, 1), (312, 312, 0, 29)], 10, [], [])
theorem btx146 : bchk bzf bIx bmpx bmqx bjn bgm blpx bspx bdgx bldx [bkx145, bkx138, bkx136] [] 30000 bkx146 = true := by decide +kernel
theorem bcx146 : bcon bZ bIx bTr bkx146 := bchk_ok bZ_len bzf_ok bTr_ok (List.forall_mem_cons.mpr ⟨bcx145, List.forall_mem_cons.mpr ⟨bcx138, List.forall_mem_cons.mpr ⟨bcx136, fun _ q => absurd q List.not_mem_nil⟩⟩⟩) (fun _ q => absurd q List.not_mem_nil) btx146
-- speak: 181 steps
def bkx147 : bC := (54, [some (.inr [.index 310]), some (.inl (0, 3)), some (.inl (-1, 20)), some (.inl (-2147483648, 2147483647)), some (.inl (32, 32))], some (.inl (-2147483648, 2147483647)), [(310, 310, 1, 1), (311, 311, 1, 1), (312, 312, 0, 29)], 11, [], [])
theorem btx147 : bchk bzf bIx bmpx bmqx bjn bgm blpx bspx bdgx bldx [bkx146, bkx138, bkx136] [] 30000 bkx147 = true := by decide +kernel
theorem bcx147 : bcon bZ bIx bTr bkx147 := bchk_ok bZ_len bzf_ok bTr_ok (List.forall_mem_cons.mpr ⟨bcx146, List.forall_mem_cons.mpr ⟨bcx138, List.forall_mem_cons.mpr ⟨bcx136, fun _ q => absurd q List.not_mem_nil⟩⟩⟩) (fun _ q => absurd q List.not_mem_nil) btx147
-- speak: 181 steps
def bkx148 : bC := (54, [some (.inr [.index 310]), some (.inl (0, 3)), some (.inl (-1, 20)), some (.inl (-2147483648, 2147483647)), some (.inl (31, 31))], some (.inl (-2147483648, 2147483647)), [(310, 310, 1, 1), (311, 311, 1, 1), (312, 312, 0, 29)], 12, [], [])
theorem btx148 : bchk bzf bIx bmpx bmqx bjn bgm blpx bspx bdgx bldx [bkx147, bkx138, bkx136] [] 30000 bkx148 = true := by decide +kernel
theorem bcx148 : bcon bZ bIx bTr bkx148 := bchk_ok bZ_len bzf_ok bTr_ok (List.forall_mem_cons.mpr ⟨bcx147, List.forall_mem_cons.mpr ⟨bcx138, List.forall_mem_cons.mpr ⟨bcx136, fun _ q => absurd q List.not_mem_nil⟩⟩⟩) (fun _ q => absurd q List.not_mem_nil) btx148
-- speak: 181 steps
def bkx149 : bC := (54, [some (.inr [.index 310]), some (.inl (0, 3)), some (.inl (-1, 20)), some (.inl (-2147483648, 2147483647)), some (.inl (30, 30))], some (.inl (-2147483648, 2147483647)), [(310, 310, 1, 1), (311, 311, 1, 1), (312, 312, 0, 29)], 13, [], [])
theorem btx149 : bchk bzf bIx bmpx bmqx bjn bgm blpx bspx bdgx bldx [bkx148, bkx138, bkx136] [] 30000 bkx149 = true := by decide +kernel
theorem bcx149 : bcon bZ bIx bTr bkx149 := bchk_ok bZ_len bzf_ok bTr_ok (List.forall_mem_cons.mpr ⟨bcx148, List.forall_mem_cons.mpr ⟨bcx138, List.forall_mem_cons.mpr ⟨bcx136, fun _ q => absurd q List.not_mem_nil⟩⟩⟩) (fun _ q => absurd q List.not_mem_nil) btx149
-- speak: 181 steps
def bkx150 : bC := (54, [some (.inr [.index 310]), some (.inl (0, 3)), some (.inl (-1, 20)), some (.inl (-2147483648, 2147483647)), some (.inl (29, 29))], some (.inl (-2147483648, 2147483647)), [(310, 310, 1, 1), (311, 311, 1, 1), (312, 312, 0, 29)], 14, [], [])
theorem btx150 : bchk bzf bIx bmpx bmqx bjn bgm blpx bspx bdgx bldx [bkx149, bkx138, bkx136] [] 30000 bkx150 = true := by decide +kernel
theorem bcx150 : bcon bZ bIx bTr bkx150 := bchk_ok bZ_len bzf_ok bTr_ok (List.forall_mem_cons.mpr ⟨bcx149, List.forall_mem_cons.mpr ⟨bcx138, List.forall_mem_cons.mpr ⟨bcx136, fun _ q => absurd q List.not_mem_nil⟩⟩⟩) (fun _ q => absurd q List.not_mem_nil) btx150
-- speak: 181 steps
def bkx151 : bC := (54, [some (.inr [.index 310]), some (.inl (0, 3)), some (.inl (-1, 20)), some (.inl (-2147483648, 2147483647)), some (.inl (28, 28))], some (.inl (-2147483648, 2147483647)), [(310, 310, 1, 1), (311, 311, 1, 1), (312, 312, 0, 29)], 15, [], [])
theorem btx151 : bchk bzf bIx bmpx bmqx bjn bgm blpx bspx bdgx bldx [bkx150, bkx138, bkx136] [] 30000 bkx151 = true := by decide +kernel
theorem bcx151 : bcon bZ bIx bTr bkx151 := bchk_ok bZ_len bzf_ok bTr_ok (List.forall_mem_cons.mpr ⟨bcx150, List.forall_mem_cons.mpr ⟨bcx138, List.forall_mem_cons.mpr ⟨bcx136, fun _ q => absurd q List.not_mem_nil⟩⟩⟩) (fun _ q => absurd q List.not_mem_nil) btx151
-- speak: 181 steps
def bkx152 : bC := (54, [some (.inr [.index 310]), some (.inl (0, 3)), some (.inl (-1, 20)), some (.inl (-2147483648, 2147483647)), some (.inl (27, 27))], some (.inl (-2147483648, 2147483647)), [(310, 310, 1, 1), (311, 311, 1, 1), (312, 312, 0, 29)], 16, [], [])
theorem btx152 : bchk bzf bIx bmpx bmqx bjn bgm blpx bspx bdgx bldx [bkx151, bkx138, bkx136] [] 30000 bkx152 = true := by decide +kernel
theorem bcx152 : bcon bZ bIx bTr bkx152 := bchk_ok bZ_len bzf_ok bTr_ok (List.forall_mem_cons.mpr ⟨bcx151, List.forall_mem_cons.mpr ⟨bcx138, List.forall_mem_cons.mpr ⟨bcx136, fun _ q => absurd q List.not_mem_nil⟩⟩⟩) (fun _ q => absurd q List.not_mem_nil) btx152
-- speak: 181 steps
def bkx153 : bC := (54, [some (.inr [.index 310]), some (.inl (0, 3)), some (.inl (-1, 20)), some (.inl (-2147483648, 2147483647)), some (.inl (26, 26))], some (.inl (-2147483648, 2147483647)), [(310, 310, 1, 1), (311, 311, 1, 1), (312, 312, 0, 29)], 17, [], [])
theorem btx153 : bchk bzf bIx bmpx bmqx bjn bgm blpx bspx bdgx bldx [bkx152, bkx138, bkx136] [] 30000 bkx153 = true := by decide +kernel
theorem bcx153 : bcon bZ bIx bTr bkx153 := bchk_ok bZ_len bzf_ok bTr_ok (List.forall_mem_cons.mpr ⟨bcx152, List.forall_mem_cons.mpr ⟨bcx138, List.forall_mem_cons.mpr ⟨bcx136, fun _ q => absurd q List.not_mem_nil⟩⟩⟩) (fun _ q => absurd q List.not_mem_nil) btx153
-- speak: 181 steps
def bkx154 : bC := (54, [some (.inr [.index 310]), some (.inl (0, 3)), some (.inl (-1, 20)), some (.inl (-2147483648, 2147483647)), some (.inl (25, 25))], some (.inl (-2147483648, 2147483647)), [(310, 310, 1, 1), (311, 311, 1, 1), (312, 312, 0, 29)], 18, [], [])
theorem btx154 : bchk bzf bIx bmpx bmqx bjn bgm blpx bspx bdgx bldx [bkx153, bkx138, bkx136] [] 30000 bkx154 = true := by decide +kernel
theorem bcx154 : bcon bZ bIx bTr bkx154 := bchk_ok bZ_len bzf_ok bTr_ok (List.forall_mem_cons.mpr ⟨bcx153, List.forall_mem_cons.mpr ⟨bcx138, List.forall_mem_cons.mpr ⟨bcx136, fun _ q => absurd q List.not_mem_nil⟩⟩⟩) (fun _ q => absurd q List.not_mem_nil) btx154
-- speak: 181 steps
def bkx155 : bC := (54, [some (.inr [.index 310]), some (.inl (0, 3)), some (.inl (-1, 20)), some (.inl (-2147483648, 2147483647)), some (.inl (24, 24))], some (.inl (-2147483648, 2147483647)), [(310, 310, 1, 1), (311, 311, 1, 1), (312, 312, 0, 29)], 19, [], [])
theorem btx155 : bchk bzf bIx bmpx bmqx bjn bgm blpx bspx bdgx bldx [bkx154, bkx138, bkx136] [] 30000 bkx155 = true := by decide +kernel
theorem bcx155 : bcon bZ bIx bTr bkx155 := bchk_ok bZ_len bzf_ok bTr_ok (List.forall_mem_cons.mpr ⟨bcx154, List.forall_mem_cons.mpr ⟨bcx138, List.forall_mem_cons.mpr ⟨bcx136, fun _ q => absurd q List.not_mem_nil⟩⟩⟩) (fun _ q => absurd q List.not_mem_nil) btx155
