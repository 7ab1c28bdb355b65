-- ===== contracts
-- speak: 181 steps
def bkx156 : bC := (54, [some (.inr [.index 310]), some (.inl (0, 3)), some (.inl (-1, 20)), some (.inl (-2147483648, 2147483647)), some (.inl (23, 23))], some (.inl (-2147483648, 2147483647)), [(310, 310, 1, 1), (311, 311, 1, 1), (312, 312, 0, 29)], 20, [], [])
theorem btx156 : bchk bzf bIx bmpx bmqx bjn bgm blpx bspx bdgx bldx [bkx155, bkx138, bkx136] [] 30000 bkx156 = true := by decide +kernel
theorem bcx156 : bcon bZ bIx bTr bkx156 := bchk_ok bZ_len bzf_ok bTr_ok (List.forall_mem_cons.mpr ⟨bcx155, List.forall_mem_cons.mpr ⟨bcx138, List.forall_mem_cons.mpr ⟨bcx136, fun _ q => absurd q List.not_mem_nil⟩⟩⟩) (fun _ q => absurd q List.not_mem_nil) btx156
-- speak: 181 steps
def bkx157 : bC := (54, [some (.inr [.index 310]), some (.inl (0, 3)), some (.inl (-1, 20)), some (.inl (-2147483648, 2147483647)), some (.inl (22, 22))], some (.inl (-2147483648, 2147483647)), [(310, 310, 1, 1), (311, 311, 1, 1), (312, 312, 0, 29)], 21, [], [])
theorem btx157 : bchk bzf bIx bmpx bmqx bjn bgm blpx bspx bdgx bldx [bkx156, bkx138, bkx136] [] 30000 bkx157 = true := by decide +kernel
theorem bcx157 : bcon bZ bIx bTr bkx157 := bchk_ok bZ_len bzf_ok bTr_ok (List.forall_mem_cons.mpr ⟨bcx156, List.forall_mem_cons.mpr ⟨bcx138, List.forall_mem_cons.mpr ⟨bcx136, fun _ q => absurd q List.not_mem_nil⟩⟩⟩) (fun _ q => absurd q List.not_mem_nil) btx157
-- speak: 181 steps
def bkx158 : bC := (54, [some (.inr [.index 310]), some (.inl (0, 3)), some (.inl (-1, 20)), some (.inl (-2147483648, 2147483647)), some (.inl (21, 21))], some (.inl (-2147483648, 2147483647)), [(310, 310, 1, 1), (311, 311, 1, 1), (312, 312, 0, 29)], 22, [], [])
theorem btx158 : bchk bzf bIx bmpx bmqx bjn bgm blpx bspx bdgx bldx [bkx157, bkx138, bkx136] [] 30000 bkx158 = true := by decide +kernel
theorem bcx158 : bcon bZ bIx bTr bkx158 := bchk_ok bZ_len bzf_ok bTr_ok (List.forall_mem_cons.mpr ⟨bcx157, List.forall_mem_cons.mpr ⟨bcx138, List.forall_mem_cons.mpr ⟨bcx136, fun _ q => absurd q List.not_mem_nil⟩⟩⟩) (fun _ q => absurd q List.not_mem_nil) btx158
-- speak: 181 steps
def bkx159 : bC := (54, [some (.inr [.index 310]), some (.inl (0, 3)), some (.inl (-1, 20)), some (.inl (-2147483648, 2147483647)), some (.inl (20, 20))], some (.inl (-2147483648, 2147483647)), [(310, 310, 1, 1), (311, 311, 1, 1), (312, 312, 0, 29)], 23, [], [])
theorem btx159 : bchk bzf bIx bmpx bmqx bjn bgm blpx bspx bdgx bldx [bkx158, bkx138, bkx136] [] 30000 bkx159 = true := by decide +kernel
theorem bcx159 : bcon bZ bIx bTr bkx159 := bchk_ok bZ_len bzf_ok bTr_ok (List.forall_mem_cons.mpr ⟨bcx158, List.forall_mem_cons.mpr ⟨bcx138, List.forall_mem_cons.mpr ⟨bcx136, fun _ q => absurd q List.not_mem_nil⟩⟩⟩) (fun _ q => absurd q List.not_mem_nil) btx159
-- speak: 181 steps
def bkx160 : bC := (54, [some (.inr [.index 310]), some (.inl (0, 3)), some (.inl (-1, 20)), some (.inl (-2147483648, 2147483647)), some (.inl (19, 19))], some (.inl (-2147483648, 2147483647)), [(310, 310, 1, 1), (311, 311, 1, 1), (312, 312, 0, 29)], 24, [], [])
theorem btx160 : bchk bzf bIx bmpx bmqx bjn bgm blpx bspx bdgx bldx [bkx159, bkx138, bkx136] [] 30000 bkx160 = true := by decide +kernel
theorem bcx160 : bcon bZ bIx bTr bkx160 := bchk_ok bZ_len bzf_ok bTr_ok (List.forall_mem_cons.mpr ⟨bcx159, List.forall_mem_cons.mpr ⟨bcx138, List.forall_mem_cons.mpr ⟨bcx136, fun _ q => absurd q List.not_mem_nil⟩⟩⟩) (fun _ q => absurd q List.not_mem_nil) btx160
-- speak: 181 steps
def bkx161 : bC := (54, [some (.inr [.index 310]), some (.inl (0, 3)), some (.inl (-1, 20)), some (.inl (-2147483648, 2147483647)), some (.inl (18, 18))], some (.inl (-2147483648, 2147483647)), [(310, 310, 1, 1), (311, 311, 1, 1), (312, 312, 0, 29)], 25, [], [])
theorem btx161 : bchk bzf bIx bmpx bmqx bjn bgm blpx bspx bdgx bldx [bkx160, bkx138, bkx136] [] 30000 bkx161 = true := by decide +kernel
theorem bcx161 : bcon bZ bIx bTr bkx161 := bchk_ok bZ_len bzf_ok bTr_ok (List.forall_mem_cons.mpr ⟨bcx160, List.forall_mem_cons.mpr ⟨bcx138, List.forall_mem_cons.mpr ⟨bcx136, fun _ q => absurd q List.not_mem_nil⟩⟩⟩) (fun _ q => absurd q List.not_mem_nil) btx161
-- speak: 181 steps
def bkx162 : bC := (54, [some (.inr [.index 310]), some (.inl (0, 3)), some (.inl (-1, 20)), some (.inl (-2147483648, 2147483647)), some (.inl (17, 17))], some (.inl (-2147483648, 2147483647)), [(310, 310, 1, 1), (311, 311, 1, 1), (312, 312, 0, 29)], 26, [], [])
theorem btx162 : bchk bzf bIx bmpx bmqx bjn bgm blpx bspx bdgx bldx [bkx161, bkx138, bkx136] [] 30000 bkx162 = true := by decide +kernel
theorem bcx162 : bcon bZ bIx bTr bkx162 := bchk_ok bZ_len bzf_ok bTr_ok (List.forall_mem_cons.mpr ⟨bcx161, List.forall_mem_cons.mpr ⟨bcx138, List.forall_mem_cons.mpr ⟨bcx136, fun _ q => absurd q List.not_mem_nil⟩⟩⟩) (fun _ q => absurd q List.not_mem_nil) btx162
-- speak: 181 steps
def bkx163 : bC := (54, [some (.inr [.index 310]), some (.inl (0, 3)), some (.inl (-1, 20)), some (.inl (-2147483648, 2147483647)), some (.inl (16, 16))], some (.inl (-2147483648, 2147483647)), [(310, 310, 1, 1), (311, 311, 1, 1), (312, 312, 0, 29)], 27, [], [])
theorem btx163 : bchk bzf bIx bmpx bmqx bjn bgm blpx bspx bdgx bldx [bkx162, bkx138, bkx136] [] 30000 bkx163 = true := by decide +kernel
theorem bcx163 : bcon bZ bIx bTr bkx163 := bchk_ok bZ_len bzf_ok bTr_ok (List.forall_mem_cons.mpr ⟨bcx162, List.forall_mem_cons.mpr ⟨bcx138, List.forall_mem_cons.mpr ⟨bcx136, fun _ q => absurd q List.not_mem_nil⟩⟩⟩) (fun _ q => absurd q List.not_mem_nil) btx163
-- speak: 181 steps
def bkx164 : bC := (54, [some (.inr [.index 310]), some (.inl (0, 3)), some (.inl (-1, 20)), some (.inl (-2147483648, 2147483647)), some (.inl (15, 15))], some (.inl (-2147483648, 2147483647)), [(310, 310, 1, 1), (311, 311, 1, 1), (312, 312, 0, 29)], 28, [], [])
theorem btx164 : bchk bzf bIx bmpx bmqx bjn bgm blpx bspx bdgx bldx [bkx163, bkx138, bkx136] [] 30000 bkx164 = true := by decide +kernel
theorem bcx164 : bcon bZ bIx bTr bkx164 := bchk_ok bZ_len bzf_ok bTr_ok (List.forall_mem_cons.mpr ⟨bcx163, List.forall_mem_cons.mpr ⟨bcx138, List.forall_mem_cons.mpr ⟨bcx136, fun _ q => absurd q List.not_mem_nil⟩⟩⟩) (fun _ q => absurd q List.not_mem_nil) btx164
-- speak: 181 steps
def bkx165 : bC := (54, [some (.inr [.index 310]), some (.inl (0, 3)), some (.inl (-1, 20)), some (.inl (-2147483648, 2147483647)), some (.inl (14, 14))], some (.inl (-2147483648, 2147483647)), [(310, 310, 1, 1), (311, 311, 1, 1), (312, 312, 0, 29)], 29, [], [])
theorem btx165 : bchk bzf bIx bmpx bmqx bjn bgm blpx bspx bdgx bldx [bkx164, bkx138, bkx136] [] 30000 bkx165 = true := by decide +kernel
theorem bcx165 : bcon bZ bIx bTr bkx165 := bchk_ok bZ_len bzf_ok bTr_ok (List.forall_mem_cons.mpr ⟨bcx164, List.forall_mem_cons.mpr ⟨bcx138, List.forall_mem_cons.mpr ⟨bcx136, fun _ q => absurd q List.not_mem_nil⟩⟩⟩) (fun _ q => absurd q List.not_mem_nil) btx165
-- speak: 181 steps
def bkx166 : bC := (54, [some (.inr [.index 310]), some (.inl (0, 3)), some (.inl (-1, 20)), some (.inl (-2147483648, 2147483647)), some (.inl (13, 13))], some (.inl (-2147483648, 2147483647)), [(310, 310, 1, 1), (311, 311, 1, 1), (312, 312, 0, 29)], 30, [], [])
theorem btx166 : bchk bzf bIx bmpx bmqx bjn bgm blpx bspx bdgx bldx [bkx165, bkx138, bkx136] [] 30000 bkx166 = true := by decide +kernel
theorem bcx166 : bcon bZ bIx bTr bkx166 := bchk_ok bZ_len bzf_ok bTr_ok (List.forall_mem_cons.mpr ⟨bcx165, List.forall_mem_cons.mpr ⟨bcx138, List.forall_mem_cons.mpr ⟨bcx136, fun _ q => absurd q List.not_mem_nil⟩⟩⟩) (fun _ q => absurd q List.not_mem_nil) btx166
-- speak: 181 steps
def bkx167 : bC := (54, [some (.inr [.index 310]), some (.inl (0, 3)), some (.inl (-1, 20)), some (.inl (-2147483648, 2147483647)), some (.inl (12, 12))], some (.inl (-2147483648, 2147483647)), [(310, 310, 1, 1), (311, 311, 1, 1), (312, 312, 0, 29)], 31, [], [])
theorem btx167 : bchk bzf bIx bmpx bmqx bjn bgm blpx bspx bdgx bldx [bkx166, bkx138, bkx136] [] 30000 bkx167 = true := by decide +kernel
theorem bcx167 : bcon bZ bIx bTr bkx167 := bchk_ok bZ_len bzf_ok bTr_ok (List.forall_mem_cons.mpr ⟨bcx166, List.forall_mem_cons.mpr ⟨bcx138, List.forall_mem_cons.mpr ⟨bcx136, fun _ q => absurd q List.not_mem_nil⟩⟩⟩) (fun _ q => absurd q List.not_mem_nil) btx167
-- speak: 181 steps
def bkx168 : bC := (54, [some (.inr [.index 310]), some (.inl (0, 3)), some (.inl (-1, 20)), some (.inl (-2147483648, 2147483647)), some (.inl (11, 11))], some (.inl (-2147483648, 2147483647)), [(310, 310, 1, 1), (311, 311, 1, 1), (312, 312, 0, 29)], 32, [], [])
theorem btx168 : bchk bzf bIx bmpx bmqx bjn bgm blpx bspx bdgx bldx [bkx167, bkx138, bkx136] [] 30000 bkx168 = true := by decide +kernel
theorem bcx168 : bcon bZ bIx bTr bkx168 := bchk_ok bZ_len bzf_ok bTr_ok (List.forall_mem_cons.mpr ⟨bcx167, List.forall_mem_cons.mpr ⟨bcx138, List.forall_mem_cons.mpr ⟨bcx136, fun _ q => absurd q List.not_mem_nil⟩⟩⟩) (fun _ q => absurd q List.not_mem_nil) btx168
-- speak: 181 steps
def bkx169 : bC := (54, [some (.inr [.index 310]), some (.inl (0, 3)), some (.inl (-1, 20)), some (.inl (-2147483648, 2147483647)), some (.inl (10, 10))], some (.inl (-2147483648, 2147483647)), [(310, 310, 1, 1), (311, 311, 1, 1), (312, 312, 0, 29)], 33, [], [])
theorem btx169 : bchk bzf bIx bmpx bmqx bjn bgm blpx bspx bdgx bldx [bkx168, bkx138, bkx136] [] 30000 bkx169 = true := by decide +kernel
theorem bcx169 : bcon bZ bIx bTr bkx169 := bchk_ok bZ_len bzf_ok bTr_ok (List.forall_mem_cons.mpr ⟨bcx168, List.forall_mem_cons.mpr ⟨bcx138, List.forall_mem_cons.mpr ⟨bcx136, fun _ q => absurd q List.not_mem_nil⟩⟩⟩) (fun _ q => absurd q List.not_mem_nil) btx169
-- speak: 181 steps
def bkx170 : bC := (54, [some (.inr [.index 310]), some (.inl (0, 3)), some (.inl (-1, 20)), some (.inl (-2147483648, 2147483647)), some (.inl (9, 9))], some (.inl (-2147483648, 2147483647)), [(310, 310, 1, 1), (311, 311, 1, 1), (312, 312, 0, 29)], 34, [], [])
theorem btx170 : bchk bzf bIx bmpx bmqx bjn bgm blpx bspx bdgx bldx [bkx169, bkx138, bkx136] [] 30000 bkx170 = true := by decide +kernel
theorem bcx170 : bcon bZ bIx bTr bkx170 := bchk_ok bZ_len bzf_ok bTr_ok (List.forall_mem_cons.mpr ⟨bcx169, List.forall_mem_cons.mpr ⟨bcx138, List.forall_mem_cons.mpr ⟨bcx136, fun _ q => absurd q List.not_mem_nil⟩⟩⟩) (fun _ q => absurd q List.not_mem_nil) btx170
-- speak: 181 steps
def bkx171 : bC := (54, [some (.inr [.index 310]), some (.inl (0, 3)), some (.inl (-1, 20)), some (.inl (-2147483648, 2147483647)), some (.inl (8, 8))], some (.inl (-2147483648, 2147483647)), [(310, 310, 1, 1), (311, 311, 1, 1), (312, 312, 0, 29)], 35, [], [])
theorem btx171 : bchk bzf bIx bmpx bmqx bjn bgm blpx bspx bdgx bldx [bkx170, bkx138, bkx136] [] 30000 bkx171 = true := by decide +kernel
theorem bcx171 : bcon bZ bIx bTr bkx171 := bchk_ok bZ_len bzf_ok bTr_ok (List.forall_mem_cons.mpr ⟨bcx170, List.forall_mem_cons.mpr ⟨bcx138, List.forall_mem_cons.mpr ⟨bcx136, fun _ q => absurd q List.not_mem_nil⟩⟩⟩) (fun _ q => absurd q List.not_mem_nil) btx171
-- speak: 181 steps
def bkx172 : bC := (54, [some (.inr [.index 310]), some (.inl (0, 3)), some (.inl (-1, 20)), some (.inl (-2147483648, 2147483647)), some (.inl (7, 7))], some (.inl (-2147483648, 2147483647)), [(310, 310, 1, 1), (311, 311, 1, 1), (312, 312, 0, 29)], 36, [], [])
theorem btx172 : bchk bzf bIx bmpx bmqx bjn bgm blpx bspx bdgx bldx [bkx171, bkx138, bkx136] [] 30000 bkx172 = true := by decide +kernel
theorem bcx172 : bcon bZ bIx bTr bkx172 := bchk_ok bZ_len bzf_ok bTr_ok (List.forall_mem_cons.mpr ⟨bcx171, List.forall_mem_cons.mpr ⟨bcx138, List.forall_mem_cons.mpr ⟨bcx136, fun _ q => absurd q List.not_mem_nil⟩⟩⟩) (fun _ q => absurd q List.not_mem_nil) btx172
-- speak: 181 steps
def bkx173 : bC := (54, [some (.inr [.index 310]), some (.inl (0, 3)), some (.inl (-1, 20)), some (.inl (-2147483648, 2147483647)), some (.inl (6, 6))], some (.inl (-2147483648, 2147483647)), [(310, 310, 1, 1), (311, 311, 1, 1), (312, 312, 0, 29)], 37, [], [])
theorem btx173 : bchk bzf bIx bmpx bmqx bjn bgm blpx bspx bdgx bldx [bkx172, bkx138, bkx136] [] 30000 bkx173 = true := by decide +kernel
theorem bcx173 : bcon bZ bIx bTr bkx173 := bchk_ok bZ_len bzf_ok bTr_ok (List.forall_mem_cons.mpr ⟨bcx172, List.forall_mem_cons.mpr ⟨bcx138, List.forall_mem_cons.mpr ⟨bcx136, fun _ q => absurd q List.not_mem_nil⟩⟩⟩) (fun _ q => absurd q List.not_mem_nil) btx173
-- speak: 181 steps
def bkx174 : bC := (54, [some (.inr [.index 310]), some (.inl (0, 3)), some (.inl (-1, 20)), some (.inl (-2147483648, 2147483647)), some (.inl (5, 5))], some (.inl (-2147483648, 2147483647)), [(310, 310, 1, 1), (311, 311, 1, 1), (312, 312, 0, 29)], 38, [], [])
theorem btx174 : bchk bzf bIx bmpx bmqx bjn bgm blpx bspx bdgx bldx [bkx173, bkx138, bkx136] [] 30000 bkx174 = true := by decide +kernel
theorem bcx174 : bcon bZ bIx bTr bkx174 := bchk_ok bZ_len bzf_ok bTr_ok (List.forall_mem_cons.mpr ⟨bcx173, List.forall_mem_cons.mpr ⟨bcx138, List.forall_mem_cons.mpr ⟨bcx136, fun _ q => absurd q List.not_mem_nil⟩⟩⟩) (fun _ q => absurd q List.not_mem_nil) btx174
-- speak: 181 steps
def bkx175 : bC := (54, [some (.inr [.index 310]), some (.inl (0, 3)), some (.inl (-1, 20)), some (.inl (-2147483648, 2147483647)), some (.inl (4, 4))], some (.inl (-2147483648, 2147483647)), [(310, 310, 1, 1), (311, 311, 1, 1), (312, 312, 0, 29)], 39, [], [])
theorem btx175 : bchk bzf bIx bmpx bmqx bjn bgm blpx bspx bdgx bldx [bkx174, bkx138, bkx136] [] 30000 bkx175 = true := by decide +kernel
theorem bcx175 : bcon bZ bIx bTr bkx175 := bchk_ok bZ_len bzf_ok bTr_ok (List.forall_mem_cons.mpr ⟨bcx174, List.forall_mem_cons.mpr ⟨bcx138, List.forall_mem_cons.mpr ⟨bcx136, fun _ q => absurd q List.not_mem_nil⟩⟩⟩) (fun _ q => absurd q List.not_mem_nil) btx175
-- speak: 181 steps
def bkx176 : bC := (54, [some (.inr [.index 310]), some (.inl (0, 3)), some (.inl (-1, 20)), some (.inl (-2147483648, 2147483647)), some (.inl (3, 3))], some (.inl (-2147483648, 2147483647)), [(310, 310, 1, 1), (311, 311, 1, 1), (312, 312, 0, 29)], 40, [], [])
theorem btx176 : bchk bzf bIx bmpx bmqx bjn bgm blpx bspx bdgx bldx [bkx175, bkx138, bkx136] [] 30000 bkx176 = true := by decide +kernel
theorem bcx176 : bcon bZ bIx bTr bkx176 := bchk_ok bZ_len bzf_ok bTr_ok (List.forall_mem_cons.mpr ⟨bcx175, List.forall_mem_cons.mpr ⟨bcx138, List.forall_mem_cons.mpr ⟨bcx136, fun _ q => absurd q List.not_mem_nil⟩⟩⟩) (fun _ q => absurd q List.not_mem_nil) btx176
-- speak: 181 steps
def bkx177 : bC := (54, [some (.inr [.index 310]), some (.inl (0, 3)), some (.inl (-1, 20)), some (.inl (-2147483648, 2147483647)), some (.inl (2, 2))], some (.inl (-2147483648, 2147483647)), [(310, 310, 1, 1), (311, 311, 1, 1), (312, 312, 0, 29)], 41, [], [])
theorem btx177 : bchk bzf bIx bmpx bmqx bjn bgm blpx bspx bdgx bldx [bkx176, bkx138, bkx136] [] 30000 bkx177 = true := by decide +kernel
theorem bcx177 : bcon bZ bIx bTr bkx177 := bchk_ok bZ_len bzf_ok bTr_ok (List.forall_mem_cons.mpr ⟨bcx176, List.forall_mem_cons.mpr ⟨bcx138, List.forall_mem_cons.mpr ⟨bcx136, fun _ q => absurd q List.not_mem_nil⟩⟩⟩) (fun _ q => absurd q List.not_mem_nil) btx177
-- speak: 181 steps
def bkx178 : bC := (54, [some (.inr [.index 310]), some (.inl (0, 3)), some (.inl (-1, 20)), some (.inl (-2147483648, 2147483647)), some (.inl (1, 1))], some (.inl (-2147483648, 2147483647)), [(310, 310, 1, 1), (311, 311, 1, 1), (312, 312, 0, 29)], 42, [], [])
theorem btx178 : bchk bzf bIx bmpx bmqx bjn bgm blpx bspx bdgx bldx [bkx177, bkx138, bkx136] [] 30000 bkx178 = true := by decide +kernel
theorem bcx178 : bcon bZ bIx bTr bkx178 := bchk_ok bZ_len bzf_ok bTr_ok (List.forall_mem_cons.mpr ⟨bcx177, List.forall_mem_cons.mpr ⟨bcx138, List.forall_mem_cons.mpr ⟨bcx136, fun _ q => absurd q List.not_mem_nil⟩⟩⟩) (fun _ q => absurd q List.not_mem_nil) btx178
-- speak: 181 steps
def bkx179 : bC := (54, [some (.inr [.index 310]), some (.inl (0, 3)), some (.inl (-1, 20)), some (.inl (-2147483648, 2147483647)), some (.inl (0, 0))], some (.inl (-2147483648, 2147483647)), [(310, 310, 1, 1), (311, 311, 1, 1), (312, 312, 0, 29)], 43, [], [])
theorem btx179 : bchk bzf bIx bmpx bmqx bjn bgm blpx bspx bdgx bldx [bkx178, bkx138, bkx136] [] 30000 bkx179 = true := by decide +kernel
theorem bcx179 : bcon bZ bIx bTr bkx179 := bchk_ok bZ_len bzf_ok bTr_ok (List.forall_mem_cons.mpr ⟨bcx178, List.forall_mem_cons.mpr ⟨bcx138, List.forall_mem_cons.mpr ⟨bcx136, fun _ q => absurd q List.not_mem_nil⟩⟩⟩) (fun _ q => absurd q List.not_mem_nil) btx179
-- error: 12 steps
def bkx180 : bC := (118, [some (.inr [.index 0]), some (.inl (6, 6))], some (.inl (-1000006, -1000006)), [(323, 323, 6, 6)], 0, [], [])
theorem btx180 : bchk bzf bIx bmpx bmqx bjn bgm blpx bspx bdgx bldx [] [] 30000 bkx180 = true := by decide +kernel
theorem bcx180 : bcon bZ bIx bTr bkx180 := bchk_ok bZ_len bzf_ok bTr_ok (fun _ q => absurd q List.not_mem_nil) (fun _ q => absurd q List.not_mem_nil) btx180
-- layOut: 21 steps
def bkx181 : bC := (49, [some (.inr [.index 324, .index 326, .index 328, .index 330]), some (.inl (0, 0)), some (.inl (0, 0))], none, [(324, 324, 1, 2), (325, 325, 0, 23), (326, 326, 1, 2), (327, 327, 0, 23), (328, 328, 1, 2), (329, 329, 0, 23), (330, 330, 1, 2), (331, 331, 0, 23)], 0, [], [])
theorem btx181 : bchk bzf bIx bmpx bmqx bjn bgm blpx bspx bdgx bldx [] [] 30000 bkx181 = true := by decide +kernel
theorem bcx181 : bcon bZ bIx bTr bkx181 := bchk_ok bZ_len bzf_ok bTr_ok (fun _ q => absurd q List.not_mem_nil) (fun _ q => absurd q List.not_mem_nil) btx181
-- layOut: 21 steps
def bkx182 : bC := (49, [some (.inr [.index 324, .index 326, .index 328, .index 330]), some (.inl (8, 8)), some (.inl (0, 24))], none, [(324, 324, 1, 2), (325, 325, 0, 23), (326, 326, 1, 2), (327, 327, 0, 23), (328, 328, 1, 2), (329, 329, 0, 23), (330, 330, 1, 2), (331, 331, 0, 23)], 0, [], [])
theorem btx182 : bchk bzf bIx bmpx bmqx bjn bgm blpx bspx bdgx bldx [] [] 30000 bkx182 = true := by decide +kernel
theorem bcx182 : bcon bZ bIx bTr bkx182 := bchk_ok bZ_len bzf_ok bTr_ok (fun _ q => absurd q List.not_mem_nil) (fun _ q => absurd q List.not_mem_nil) btx182
-- layOut: 21 steps
def bkx183 : bC := (49, [some (.inr [.index 324, .index 326, .index 328, .index 330]), some (.inl (16, 16)), some (.inl (0, 24))], none, [(324, 324, 1, 2), (325, 325, 0, 23), (326, 326, 1, 2), (327, 327, 0, 23), (328, 328, 1, 2), (329, 329, 0, 23), (330, 330, 1, 2), (331, 331, 0, 23)], 0, [], [])
theorem btx183 : bchk bzf bIx bmpx bmqx bjn bgm blpx bspx bdgx bldx [] [] 30000 bkx183 = true := by decide +kernel
theorem bcx183 : bcon bZ bIx bTr bkx183 := bchk_ok bZ_len bzf_ok bTr_ok (fun _ q => absurd q List.not_mem_nil) (fun _ q => absurd q List.not_mem_nil) btx183
-- layOut: 21 steps
def bkx184 : bC := (49, [some (.inr [.index 324, .index 326, .index 328, .index 330]), some (.inl (30, 39)), some (.inl (0, 24))], none, [(324, 324, 1, 2), (325, 325, 0, 23), (326, 326, 1, 2), (327, 327, 0, 23), (328, 328, 1, 2), (329, 329, 0, 23), (330, 330, 1, 2), (331, 331, 0, 23)], 0, [], [])
theorem btx184 : bchk bzf bIx bmpx bmqx bjn bgm blpx bspx bdgx bldx [] [] 30000 bkx184 = true := by decide +kernel
theorem bcx184 : bcon bZ bIx bTr bkx184 := bchk_ok bZ_len bzf_ok bTr_ok (fun _ q => absurd q List.not_mem_nil) (fun _ q => absurd q List.not_mem_nil) btx184
-- copyFrom: 1162 steps
def bkx185 : bC := (63, [some (.inr [.index 74]), some (.inr [.index 1])], none, [(74, 74, 9, 13), (78, 78, 1, 1), (79, 79, 0, 59), (80, 80, 1, 1), (81, 81, 0, 23), (82, 82, 1, 1), (83, 83, 0, 9), (84, 84, 1, 1), (85, 85, 0, 9), (86, 86, 1, 1), (87, 87, 0, 9), (88, 88, 1, 2), (90, 90, 1, 1), (91, 91, 0, 11), (92, 92, 1, 1), (93, 93, 0, 11), (94, 94, 1, 1), (95, 95, 0, 11), (96, 96, 1, 1), (97, 97, 0, 11), (98, 98, 1, 1), (99, 99, 0, 11), (100, 100, 1, 1), (101, 101, 0, 11), (102, 102, 1, 1), (103, 103, 0, 11), (104, 104, 1, 1), (105, 105, 0, 11), (107, 107, 1, 1), (108, 108, 0, 11), (109, 109, 1, 1), (110, 110, 0, 11), (111, 111, 1, 1), (112, 112, 0, 11), (113, 113, 1, 1), (114, 114, 0, 11), (115, 115, 1, 1), (116, 116, 0, 11), (117, 117, 1, 1), (118, 118, 0, 11), (119, 119, 1, 1), (120, 120, 0, 11), (121, 121, 1, 1), (122, 122, 0, 11), (123, 123, 1, 1), (124, 124, 0, 11), (125, 125, 1, 1), (126, 126, 0, 11), (127, 127, 1, 1), (128, 128, 0, 11), (129, 129, 1, 1), (130, 130, 0, 11), (131, 131, 0, 2), (132, 132, 0, 2), (133, 133, 0, 2), (134, 134, 0, 2), (135, 135, 0, 2), (136, 136, 0, 2), (137, 137, 0, 2), (138, 138, 0, 2), (140, 140, 1, 1), (141, 141, 0, 59), (144, 144, 1, 1), (145, 145, 0, 59)], 2, [], [])
theorem btx185 : bchk bzf bIx bmpx bmqx bjn bgm blpx bspx bdgx bldx [] [] 30000 bkx185 = true := by decide +kernel
theorem bcx185 : bcon bZ bIx bTr bkx185 := bchk_ok bZ_len bzf_ok bTr_ok (fun _ q => absurd q List.not_mem_nil) (fun _ q => absurd q List.not_mem_nil) btx185
-- copyFrom: 1162 steps
def bkx186 : bC := (63, [some (.inr [.index 1]), some (.inr [.index 74])], none, [(1, 1, 9, 13), (5, 5, 1, 1), (6, 6, 0, 59), (7, 7, 1, 1), (8, 8, 0, 23), (9, 9, 1, 1), (10, 10, 0, 9), (11, 11, 1, 1), (12, 12, 0, 9), (13, 13, 1, 1), (14, 14, 0, 9), (15, 15, 1, 2), (17, 32, 0, 11), (34, 57, 0, 11), (58, 58, 0, 2), (59, 59, 0, 2), (60, 60, 0, 2), (61, 61, 0, 2), (62, 62, 0, 2), (63, 63, 0, 2), (64, 64, 0, 2), (65, 65, 0, 2), (67, 67, 1, 1), (68, 68, 0, 59), (71, 71, 1, 1), (72, 72, 0, 59)], 2, [], [])
theorem btx186 : bchk bzf bIx bmpx bmqx bjn bgm blpx bspx bdgx bldx [] [] 30000 bkx186 = true := by decide +kernel
theorem bcx186 : bcon bZ bIx bTr bkx186 := bchk_ok bZ_len bzf_ok bTr_ok (fun _ q => absurd q List.not_mem_nil) (fun _ q => absurd q List.not_mem_nil) btx186
