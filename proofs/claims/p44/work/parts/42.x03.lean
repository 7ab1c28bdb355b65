-- ===== contracts
-- speak: 181 steps
def bkx169 : bC := (54, [some (.inr [.index 310]), some (.inl (0, 3)), some (.inl (-1, 20)), some (.inl (-2147483648, 2147483647)), some (.inl (18, 18))], some (.inl (-2147483648, 2147483647)), [(310, 310, 1, 1), (311, 311, 1, 1), (312, 312, 0, 29)], 25, [], [])
theorem btx169 : bchk bzf bIx bmpx bmqx bjn bgm blpx bspx bdgx bldx [bkx168, bkx146, bkx144] [] 30000 bkx169 = true := by decide +kernel
theorem bcx169 : bcon bZ bIx bTr bkx169 := bchk_ok bZ_len bzf_ok bTr_ok (List.forall_mem_cons.mpr ⟨bcx168, List.forall_mem_cons.mpr ⟨bcx146, List.forall_mem_cons.mpr ⟨bcx144, fun _ q => absurd q List.not_mem_nil⟩⟩⟩) (fun _ q => absurd q List.not_mem_nil) btx169
-- speak: 181 steps
def bkx170 : bC := (54, [some (.inr [.index 310]), some (.inl (0, 3)), some (.inl (-1, 20)), some (.inl (-2147483648, 2147483647)), some (.inl (17, 17))], some (.inl (-2147483648, 2147483647)), [(310, 310, 1, 1), (311, 311, 1, 1), (312, 312, 0, 29)], 26, [], [])
theorem btx170 : bchk bzf bIx bmpx bmqx bjn bgm blpx bspx bdgx bldx [bkx169, bkx146, bkx144] [] 30000 bkx170 = true := by decide +kernel
theorem bcx170 : bcon bZ bIx bTr bkx170 := bchk_ok bZ_len bzf_ok bTr_ok (List.forall_mem_cons.mpr ⟨bcx169, List.forall_mem_cons.mpr ⟨bcx146, List.forall_mem_cons.mpr ⟨bcx144, fun _ q => absurd q List.not_mem_nil⟩⟩⟩) (fun _ q => absurd q List.not_mem_nil) btx170
-- speak: 181 steps
def bkx171 : bC := (54, [some (.inr [.index 310]), some (.inl (0, 3)), some (.inl (-1, 20)), some (.inl (-2147483648, 2147483647)), some (.inl (16, 16))], some (.inl (-2147483648, 2147483647)), [(310, 310, 1, 1), (311, 311, 1, 1), (312, 312, 0, 29)], 27, [], [])
theorem btx171 : bchk bzf bIx bmpx bmqx bjn bgm blpx bspx bdgx bldx [bkx170, bkx146, bkx144] [] 30000 bkx171 = true := by decide +kernel
theorem bcx171 : bcon bZ bIx bTr bkx171 := bchk_ok bZ_len bzf_ok bTr_ok (List.forall_mem_cons.mpr ⟨bcx170, List.forall_mem_cons.mpr ⟨bcx146, List.forall_mem_cons.mpr ⟨bcx144, fun _ q => absurd q List.not_mem_nil⟩⟩⟩) (fun _ q => absurd q List.not_mem_nil) btx171
-- speak: 181 steps
def bkx172 : bC := (54, [some (.inr [.index 310]), some (.inl (0, 3)), some (.inl (-1, 20)), some (.inl (-2147483648, 2147483647)), some (.inl (15, 15))], some (.inl (-2147483648, 2147483647)), [(310, 310, 1, 1), (311, 311, 1, 1), (312, 312, 0, 29)], 28, [], [])
theorem btx172 : bchk bzf bIx bmpx bmqx bjn bgm blpx bspx bdgx bldx [bkx171, bkx146, bkx144] [] 30000 bkx172 = true := by decide +kernel
theorem bcx172 : bcon bZ bIx bTr bkx172 := bchk_ok bZ_len bzf_ok bTr_ok (List.forall_mem_cons.mpr ⟨bcx171, List.forall_mem_cons.mpr ⟨bcx146, List.forall_mem_cons.mpr ⟨bcx144, fun _ q => absurd q List.not_mem_nil⟩⟩⟩) (fun _ q => absurd q List.not_mem_nil) btx172
-- speak: 181 steps
def bkx173 : bC := (54, [some (.inr [.index 310]), some (.inl (0, 3)), some (.inl (-1, 20)), some (.inl (-2147483648, 2147483647)), some (.inl (14, 14))], some (.inl (-2147483648, 2147483647)), [(310, 310, 1, 1), (311, 311, 1, 1), (312, 312, 0, 29)], 29, [], [])
theorem btx173 : bchk bzf bIx bmpx bmqx bjn bgm blpx bspx bdgx bldx [bkx172, bkx146, bkx144] [] 30000 bkx173 = true := by decide +kernel
theorem bcx173 : bcon bZ bIx bTr bkx173 := bchk_ok bZ_len bzf_ok bTr_ok (List.forall_mem_cons.mpr ⟨bcx172, List.forall_mem_cons.mpr ⟨bcx146, List.forall_mem_cons.mpr ⟨bcx144, fun _ q => absurd q List.not_mem_nil⟩⟩⟩) (fun _ q => absurd q List.not_mem_nil) btx173
-- speak: 181 steps
def bkx174 : bC := (54, [some (.inr [.index 310]), some (.inl (0, 3)), some (.inl (-1, 20)), some (.inl (-2147483648, 2147483647)), some (.inl (13, 13))], some (.inl (-2147483648, 2147483647)), [(310, 310, 1, 1), (311, 311, 1, 1), (312, 312, 0, 29)], 30, [], [])
theorem btx174 : bchk bzf bIx bmpx bmqx bjn bgm blpx bspx bdgx bldx [bkx173, bkx146, bkx144] [] 30000 bkx174 = true := by decide +kernel
theorem bcx174 : bcon bZ bIx bTr bkx174 := bchk_ok bZ_len bzf_ok bTr_ok (List.forall_mem_cons.mpr ⟨bcx173, List.forall_mem_cons.mpr ⟨bcx146, List.forall_mem_cons.mpr ⟨bcx144, fun _ q => absurd q List.not_mem_nil⟩⟩⟩) (fun _ q => absurd q List.not_mem_nil) btx174
-- speak: 181 steps
def bkx175 : bC := (54, [some (.inr [.index 310]), some (.inl (0, 3)), some (.inl (-1, 20)), some (.inl (-2147483648, 2147483647)), some (.inl (12, 12))], some (.inl (-2147483648, 2147483647)), [(310, 310, 1, 1), (311, 311, 1, 1), (312, 312, 0, 29)], 31, [], [])
theorem btx175 : bchk bzf bIx bmpx bmqx bjn bgm blpx bspx bdgx bldx [bkx174, bkx146, bkx144] [] 30000 bkx175 = true := by decide +kernel
theorem bcx175 : bcon bZ bIx bTr bkx175 := bchk_ok bZ_len bzf_ok bTr_ok (List.forall_mem_cons.mpr ⟨bcx174, List.forall_mem_cons.mpr ⟨bcx146, List.forall_mem_cons.mpr ⟨bcx144, fun _ q => absurd q List.not_mem_nil⟩⟩⟩) (fun _ q => absurd q List.not_mem_nil) btx175
-- speak: 181 steps
def bkx176 : bC := (54, [some (.inr [.index 310]), some (.inl (0, 3)), some (.inl (-1, 20)), some (.inl (-2147483648, 2147483647)), some (.inl (11, 11))], some (.inl (-2147483648, 2147483647)), [(310, 310, 1, 1), (311, 311, 1, 1), (312, 312, 0, 29)], 32, [], [])
theorem btx176 : bchk bzf bIx bmpx bmqx bjn bgm blpx bspx bdgx bldx [bkx175, bkx146, bkx144] [] 30000 bkx176 = true := by decide +kernel
theorem bcx176 : bcon bZ bIx bTr bkx176 := bchk_ok bZ_len bzf_ok bTr_ok (List.forall_mem_cons.mpr ⟨bcx175, List.forall_mem_cons.mpr ⟨bcx146, List.forall_mem_cons.mpr ⟨bcx144, fun _ q => absurd q List.not_mem_nil⟩⟩⟩) (fun _ q => absurd q List.not_mem_nil) btx176
-- speak: 181 steps
def bkx177 : bC := (54, [some (.inr [.index 310]), some (.inl (0, 3)), some (.inl (-1, 20)), some (.inl (-2147483648, 2147483647)), some (.inl (10, 10))], some (.inl (-2147483648, 2147483647)), [(310, 310, 1, 1), (311, 311, 1, 1), (312, 312, 0, 29)], 33, [], [])
theorem btx177 : bchk bzf bIx bmpx bmqx bjn bgm blpx bspx bdgx bldx [bkx176, bkx146, bkx144] [] 30000 bkx177 = true := by decide +kernel
theorem bcx177 : bcon bZ bIx bTr bkx177 := bchk_ok bZ_len bzf_ok bTr_ok (List.forall_mem_cons.mpr ⟨bcx176, List.forall_mem_cons.mpr ⟨bcx146, List.forall_mem_cons.mpr ⟨bcx144, fun _ q => absurd q List.not_mem_nil⟩⟩⟩) (fun _ q => absurd q List.not_mem_nil) btx177
-- speak: 181 steps
def bkx178 : bC := (54, [some (.inr [.index 310]), some (.inl (0, 3)), some (.inl (-1, 20)), some (.inl (-2147483648, 2147483647)), some (.inl (9, 9))], some (.inl (-2147483648, 2147483647)), [(310, 310, 1, 1), (311, 311, 1, 1), (312, 312, 0, 29)], 34, [], [])
theorem btx178 : bchk bzf bIx bmpx bmqx bjn bgm blpx bspx bdgx bldx [bkx177, bkx146, bkx144] [] 30000 bkx178 = true := by decide +kernel
theorem bcx178 : bcon bZ bIx bTr bkx178 := bchk_ok bZ_len bzf_ok bTr_ok (List.forall_mem_cons.mpr ⟨bcx177, List.forall_mem_cons.mpr ⟨bcx146, List.forall_mem_cons.mpr ⟨bcx144, fun _ q => absurd q List.not_mem_nil⟩⟩⟩) (fun _ q => absurd q List.not_mem_nil) btx178
-- speak: 181 steps
def bkx179 : bC := (54, [some (.inr [.index 310]), some (.inl (0, 3)), some (.inl (-1, 20)), some (.inl (-2147483648, 2147483647)), some (.inl (8, 8))], some (.inl (-2147483648, 2147483647)), [(310, 310, 1, 1), (311, 311, 1, 1), (312, 312, 0, 29)], 35, [], [])
theorem btx179 : bchk bzf bIx bmpx bmqx bjn bgm blpx bspx bdgx bldx [bkx178, bkx146, bkx144] [] 30000 bkx179 = true := by decide +kernel
theorem bcx179 : bcon bZ bIx bTr bkx179 := bchk_ok bZ_len bzf_ok bTr_ok (List.forall_mem_cons.mpr ⟨bcx178, List.forall_mem_cons.mpr ⟨bcx146, List.forall_mem_cons.mpr ⟨bcx144, fun _ q => absurd q List.not_mem_nil⟩⟩⟩) (fun _ q => absurd q List.not_mem_nil) btx179
-- speak: 181 steps
def bkx180 : bC := (54, [some (.inr [.index 310]), some (.inl (0, 3)), some (.inl (-1, 20)), some (.inl (-2147483648, 2147483647)), some (.inl (7, 7))], some (.inl (-2147483648, 2147483647)), [(310, 310, 1, 1), (311, 311, 1, 1), (312, 312, 0, 29)], 36, [], [])
theorem btx180 : bchk bzf bIx bmpx bmqx bjn bgm blpx bspx bdgx bldx [bkx179, bkx146, bkx144] [] 30000 bkx180 = true := by decide +kernel
theorem bcx180 : bcon bZ bIx bTr bkx180 := bchk_ok bZ_len bzf_ok bTr_ok (List.forall_mem_cons.mpr ⟨bcx179, List.forall_mem_cons.mpr ⟨bcx146, List.forall_mem_cons.mpr ⟨bcx144, fun _ q => absurd q List.not_mem_nil⟩⟩⟩) (fun _ q => absurd q List.not_mem_nil) btx180
-- speak: 181 steps
def bkx181 : bC := (54, [some (.inr [.index 310]), some (.inl (0, 3)), some (.inl (-1, 20)), some (.inl (-2147483648, 2147483647)), some (.inl (6, 6))], some (.inl (-2147483648, 2147483647)), [(310, 310, 1, 1), (311, 311, 1, 1), (312, 312, 0, 29)], 37, [], [])
theorem btx181 : bchk bzf bIx bmpx bmqx bjn bgm blpx bspx bdgx bldx [bkx180, bkx146, bkx144] [] 30000 bkx181 = true := by decide +kernel
theorem bcx181 : bcon bZ bIx bTr bkx181 := bchk_ok bZ_len bzf_ok bTr_ok (List.forall_mem_cons.mpr ⟨bcx180, List.forall_mem_cons.mpr ⟨bcx146, List.forall_mem_cons.mpr ⟨bcx144, fun _ q => absurd q List.not_mem_nil⟩⟩⟩) (fun _ q => absurd q List.not_mem_nil) btx181
-- speak: 181 steps
def bkx182 : bC := (54, [some (.inr [.index 310]), some (.inl (0, 3)), some (.inl (-1, 20)), some (.inl (-2147483648, 2147483647)), some (.inl (5, 5))], some (.inl (-2147483648, 2147483647)), [(310, 310, 1, 1), (311, 311, 1, 1), (312, 312, 0, 29)], 38, [], [])
theorem btx182 : bchk bzf bIx bmpx bmqx bjn bgm blpx bspx bdgx bldx [bkx181, bkx146, bkx144] [] 30000 bkx182 = true := by decide +kernel
theorem bcx182 : bcon bZ bIx bTr bkx182 := bchk_ok bZ_len bzf_ok bTr_ok (List.forall_mem_cons.mpr ⟨bcx181, List.forall_mem_cons.mpr ⟨bcx146, List.forall_mem_cons.mpr ⟨bcx144, fun _ q => absurd q List.not_mem_nil⟩⟩⟩) (fun _ q => absurd q List.not_mem_nil) btx182
-- speak: 181 steps
def bkx183 : bC := (54, [some (.inr [.index 310]), some (.inl (0, 3)), some (.inl (-1, 20)), some (.inl (-2147483648, 2147483647)), some (.inl (4, 4))], some (.inl (-2147483648, 2147483647)), [(310, 310, 1, 1), (311, 311, 1, 1), (312, 312, 0, 29)], 39, [], [])
theorem btx183 : bchk bzf bIx bmpx bmqx bjn bgm blpx bspx bdgx bldx [bkx182, bkx146, bkx144] [] 30000 bkx183 = true := by decide +kernel
theorem bcx183 : bcon bZ bIx bTr bkx183 := bchk_ok bZ_len bzf_ok bTr_ok (List.forall_mem_cons.mpr ⟨bcx182, List.forall_mem_cons.mpr ⟨bcx146, List.forall_mem_cons.mpr ⟨bcx144, fun _ q => absurd q List.not_mem_nil⟩⟩⟩) (fun _ q => absurd q List.not_mem_nil) btx183
-- speak: 181 steps
def bkx184 : bC := (54, [some (.inr [.index 310]), some (.inl (0, 3)), some (.inl (-1, 20)), some (.inl (-2147483648, 2147483647)), some (.inl (3, 3))], some (.inl (-2147483648, 2147483647)), [(310, 310, 1, 1), (311, 311, 1, 1), (312, 312, 0, 29)], 40, [], [])
theorem btx184 : bchk bzf bIx bmpx bmqx bjn bgm blpx bspx bdgx bldx [bkx183, bkx146, bkx144] [] 30000 bkx184 = true := by decide +kernel
theorem bcx184 : bcon bZ bIx bTr bkx184 := bchk_ok bZ_len bzf_ok bTr_ok (List.forall_mem_cons.mpr ⟨bcx183, List.forall_mem_cons.mpr ⟨bcx146, List.forall_mem_cons.mpr ⟨bcx144, fun _ q => absurd q List.not_mem_nil⟩⟩⟩) (fun _ q => absurd q List.not_mem_nil) btx184
-- speak: 181 steps
def bkx185 : bC := (54, [some (.inr [.index 310]), some (.inl (0, 3)), some (.inl (-1, 20)), some (.inl (-2147483648, 2147483647)), some (.inl (2, 2))], some (.inl (-2147483648, 2147483647)), [(310, 310, 1, 1), (311, 311, 1, 1), (312, 312, 0, 29)], 41, [], [])
theorem btx185 : bchk bzf bIx bmpx bmqx bjn bgm blpx bspx bdgx bldx [bkx184, bkx146, bkx144] [] 30000 bkx185 = true := by decide +kernel
theorem bcx185 : bcon bZ bIx bTr bkx185 := bchk_ok bZ_len bzf_ok bTr_ok (List.forall_mem_cons.mpr ⟨bcx184, List.forall_mem_cons.mpr ⟨bcx146, List.forall_mem_cons.mpr ⟨bcx144, fun _ q => absurd q List.not_mem_nil⟩⟩⟩) (fun _ q => absurd q List.not_mem_nil) btx185
-- speak: 181 steps
def bkx186 : bC := (54, [some (.inr [.index 310]), some (.inl (0, 3)), some (.inl (-1, 20)), some (.inl (-2147483648, 2147483647)), some (.inl (1, 1))], some (.inl (-2147483648, 2147483647)), [(310, 310, 1, 1), (311, 311, 1, 1), (312, 312, 0, 29)], 42, [], [])
theorem btx186 : bchk bzf bIx bmpx bmqx bjn bgm blpx bspx bdgx bldx [bkx185, bkx146, bkx144] [] 30000 bkx186 = true := by decide +kernel
theorem bcx186 : bcon bZ bIx bTr bkx186 := bchk_ok bZ_len bzf_ok bTr_ok (List.forall_mem_cons.mpr ⟨bcx185, List.forall_mem_cons.mpr ⟨bcx146, List.forall_mem_cons.mpr ⟨bcx144, fun _ q => absurd q List.not_mem_nil⟩⟩⟩) (fun _ q => absurd q List.not_mem_nil) btx186
-- speak: 181 steps
def bkx187 : bC := (54, [some (.inr [.index 310]), some (.inl (0, 3)), some (.inl (-1, 20)), some (.inl (-2147483648, 2147483647)), some (.inl (0, 0))], some (.inl (-2147483648, 2147483647)), [(310, 310, 1, 1), (311, 311, 1, 1), (312, 312, 0, 29)], 43, [], [])
theorem btx187 : bchk bzf bIx bmpx bmqx bjn bgm blpx bspx bdgx bldx [bkx186, bkx146, bkx144] [] 30000 bkx187 = true := by decide +kernel
theorem bcx187 : bcon bZ bIx bTr bkx187 := bchk_ok bZ_len bzf_ok bTr_ok (List.forall_mem_cons.mpr ⟨bcx186, List.forall_mem_cons.mpr ⟨bcx146, List.forall_mem_cons.mpr ⟨bcx144, fun _ q => absurd q List.not_mem_nil⟩⟩⟩) (fun _ q => absurd q List.not_mem_nil) btx187
-- error: 12 steps
def bkx188 : bC := (118, [some (.inr [.index 0]), some (.inl (6, 6))], some (.inl (-1000006, -1000006)), [(323, 323, 6, 6)], 0, [], [])
theorem btx188 : bchk bzf bIx bmpx bmqx bjn bgm blpx bspx bdgx bldx [] [] 30000 bkx188 = true := by decide +kernel
theorem bcx188 : bcon bZ bIx bTr bkx188 := bchk_ok bZ_len bzf_ok bTr_ok (fun _ q => absurd q List.not_mem_nil) (fun _ q => absurd q List.not_mem_nil) btx188
-- layOut: 21 steps
def bkx189 : bC := (49, [some (.inr [.index 324, .index 326, .index 328, .index 330]), some (.inl (0, 0)), some (.inl (0, 0))], none, [(324, 324, 1, 2), (325, 325, 0, 23), (326, 326, 1, 2), (327, 327, 0, 23), (328, 328, 1, 2), (329, 329, 0, 23), (330, 330, 1, 2), (331, 331, 0, 23)], 0, [], [])
theorem btx189 : bchk bzf bIx bmpx bmqx bjn bgm blpx bspx bdgx bldx [] [] 30000 bkx189 = true := by decide +kernel
theorem bcx189 : bcon bZ bIx bTr bkx189 := bchk_ok bZ_len bzf_ok bTr_ok (fun _ q => absurd q List.not_mem_nil) (fun _ q => absurd q List.not_mem_nil) btx189
-- layOut: 21 steps
def bkx190 : bC := (49, [some (.inr [.index 324, .index 326, .index 328, .index 330]), some (.inl (8, 8)), some (.inl (0, 24))], none, [(324, 324, 1, 2), (325, 325, 0, 23), (326, 326, 1, 2), (327, 327, 0, 23), (328, 328, 1, 2), (329, 329, 0, 23), (330, 330, 1, 2), (331, 331, 0, 23)], 0, [], [])
theorem btx190 : bchk bzf bIx bmpx bmqx bjn bgm blpx bspx bdgx bldx [] [] 30000 bkx190 = true := by decide +kernel
theorem bcx190 : bcon bZ bIx bTr bkx190 := bchk_ok bZ_len bzf_ok bTr_ok (fun _ q => absurd q List.not_mem_nil) (fun _ q => absurd q List.not_mem_nil) btx190
-- layOut: 21 steps
def bkx191 : bC := (49, [some (.inr [.index 324, .index 326, .index 328, .index 330]), some (.inl (16, 16)), some (.inl (0, 24))], none, [(324, 324, 1, 2), (325, 325, 0, 23), (326, 326, 1, 2), (327, 327, 0, 23), (328, 328, 1, 2), (329, 329, 0, 23), (330, 330, 1, 2), (331, 331, 0, 23)], 0, [], [])
theorem btx191 : bchk bzf bIx bmpx bmqx bjn bgm blpx bspx bdgx bldx [] [] 30000 bkx191 = true := by decide +kernel
theorem bcx191 : bcon bZ bIx bTr bkx191 := bchk_ok bZ_len bzf_ok bTr_ok (fun _ q => absurd q List.not_mem_nil) (fun _ q => absurd q List.not_mem_nil) btx191
-- layOut: 21 steps
def bkx192 : bC := (49, [some (.inr [.index 324, .index 326, .index 328, .index 330]), some (.inl (30, 39)), some (.inl (0, 24))], none, [(324, 324, 1, 2), (325, 325, 0, 23), (326, 326, 1, 2), (327, 327, 0, 23), (328, 328, 1, 2), (329, 329, 0, 23), (330, 330, 1, 2), (331, 331, 0, 23)], 0, [], [])
theorem btx192 : bchk bzf bIx bmpx bmqx bjn bgm blpx bspx bdgx bldx [] [] 30000 bkx192 = true := by decide +kernel
theorem bcx192 : bcon bZ bIx bTr bkx192 := bchk_ok bZ_len bzf_ok bTr_ok (fun _ q => absurd q List.not_mem_nil) (fun _ q => absurd q List.not_mem_nil) btx192
-- copyFrom: 18 steps
def bkx193 : bC := (39, [some (.inr [.index 107, .index 109, .index 111, .index 113, .index 115, .index 117, .index 119, .index 121, .index 123, .index 125, .index 127, .index 129]), some (.inr [.index 34, .index 36, .index 38, .index 40, .index 42, .index 44, .index 46, .index 48, .index 50, .index 52, .index 54, .index 56])], none, [(107, 107, 1, 1), (108, 108, 0, 11), (109, 109, 1, 1), (110, 110, 0, 11), (111, 111, 1, 1), (112, 112, 0, 11), (113, 113, 1, 1), (114, 114, 0, 11), (115, 115, 1, 1), (116, 116, 0, 11), (117, 117, 1, 1), (118, 118, 0, 11), (119, 119, 1, 1), (120, 120, 0, 11), (121, 121, 1, 1), (122, 122, 0, 11), (123, 123, 1, 1), (124, 124, 0, 11), (125, 125, 1, 1), (126, 126, 0, 11), (127, 127, 1, 1), (128, 128, 0, 11), (129, 129, 1, 1), (130, 130, 0, 11)], 0, [], [])
theorem btx193 : bchk bzf bIx bmpx bmqx bjn bgm blpx bspx bdgx bldx [] [] 30000 bkx193 = true := by decide +kernel
theorem bcx193 : bcon bZ bIx bTr bkx193 := bchk_ok bZ_len bzf_ok bTr_ok (fun _ q => absurd q List.not_mem_nil) (fun _ q => absurd q List.not_mem_nil) btx193
-- copyFrom: 18 steps
def bkx194 : bC := (39, [some (.inr [.index 140]), some (.inr [.index 67])], none, [(140, 140, 1, 1), (141, 141, 0, 59)], 0, [], [])
theorem btx194 : bchk bzf bIx bmpx bmqx bjn bgm blpx bspx bdgx bldx [] [] 30000 bkx194 = true := by decide +kernel
theorem bcx194 : bcon bZ bIx bTr bkx194 := bchk_ok bZ_len bzf_ok bTr_ok (fun _ q => absurd q List.not_mem_nil) (fun _ q => absurd q List.not_mem_nil) btx194
-- copyFrom: 18 steps
def bkx195 : bC := (39, [some (.inr [.index 144]), some (.inr [.index 71])], none, [(144, 144, 1, 1), (145, 145, 0, 59)], 0, [], [])
theorem btx195 : bchk bzf bIx bmpx bmqx bjn bgm blpx bspx bdgx bldx [] [] 30000 bkx195 = true := by decide +kernel
theorem bcx195 : bcon bZ bIx bTr bkx195 := bchk_ok bZ_len bzf_ok bTr_ok (fun _ q => absurd q List.not_mem_nil) (fun _ q => absurd q List.not_mem_nil) btx195
-- copyFrom: 18 steps
def bkx196 : bC := (39, [some (.inr [.index 78]), some (.inr [.index 5])], none, [(78, 78, 1, 1), (79, 79, 0, 59)], 0, [], [])
theorem btx196 : bchk bzf bIx bmpx bmqx bjn bgm blpx bspx bdgx bldx [] [] 30000 bkx196 = true := by decide +kernel
theorem bcx196 : bcon bZ bIx bTr bkx196 := bchk_ok bZ_len bzf_ok bTr_ok (fun _ q => absurd q List.not_mem_nil) (fun _ q => absurd q List.not_mem_nil) btx196
-- copyFrom: 18 steps
def bkx197 : bC := (39, [some (.inr [.index 80]), some (.inr [.index 7])], none, [(80, 80, 1, 1), (81, 81, 0, 23)], 0, [], [])
theorem btx197 : bchk bzf bIx bmpx bmqx bjn bgm blpx bspx bdgx bldx [] [] 30000 bkx197 = true := by decide +kernel
theorem bcx197 : bcon bZ bIx bTr bkx197 := bchk_ok bZ_len bzf_ok bTr_ok (fun _ q => absurd q List.not_mem_nil) (fun _ q => absurd q List.not_mem_nil) btx197
-- copyFrom: 18 steps
def bkx198 : bC := (39, [some (.inr [.index 82]), some (.inr [.index 9])], none, [(82, 82, 1, 1), (83, 83, 0, 9)], 0, [], [])
theorem btx198 : bchk bzf bIx bmpx bmqx bjn bgm blpx bspx bdgx bldx [] [] 30000 bkx198 = true := by decide +kernel
theorem bcx198 : bcon bZ bIx bTr bkx198 := bchk_ok bZ_len bzf_ok bTr_ok (fun _ q => absurd q List.not_mem_nil) (fun _ q => absurd q List.not_mem_nil) btx198
-- copyFrom: 18 steps
def bkx199 : bC := (39, [some (.inr [.index 84]), some (.inr [.index 11])], none, [(84, 84, 1, 1), (85, 85, 0, 9)], 0, [], [])
theorem btx199 : bchk bzf bIx bmpx bmqx bjn bgm blpx bspx bdgx bldx [] [] 30000 bkx199 = true := by decide +kernel
theorem bcx199 : bcon bZ bIx bTr bkx199 := bchk_ok bZ_len bzf_ok bTr_ok (fun _ q => absurd q List.not_mem_nil) (fun _ q => absurd q List.not_mem_nil) btx199
-- copyFrom: 18 steps
def bkx200 : bC := (39, [some (.inr [.index 86]), some (.inr [.index 13])], none, [(86, 86, 1, 1), (87, 87, 0, 9)], 0, [], [])
theorem btx200 : bchk bzf bIx bmpx bmqx bjn bgm blpx bspx bdgx bldx [] [] 30000 bkx200 = true := by decide +kernel
theorem bcx200 : bcon bZ bIx bTr bkx200 := bchk_ok bZ_len bzf_ok bTr_ok (fun _ q => absurd q List.not_mem_nil) (fun _ q => absurd q List.not_mem_nil) btx200
-- copyFrom: 18 steps
def bkx201 : bC := (39, [some (.inr [.index 100, .index 102, .index 104, .index 90, .index 92, .index 94, .index 96, .index 98]), some (.inr [.index 17, .index 19, .index 21, .index 23, .index 25, .index 27, .index 29, .index 31])], none, [(90, 90, 1, 1), (91, 91, 0, 11), (92, 92, 1, 1), (93, 93, 0, 11), (94, 94, 1, 1), (95, 95, 0, 11), (96, 96, 1, 1), (97, 97, 0, 11), (98, 98, 1, 1), (99, 99, 0, 11), (100, 100, 1, 1), (101, 101, 0, 11), (102, 102, 1, 1), (103, 103, 0, 11), (104, 104, 1, 1), (105, 105, 0, 11)], 0, [], [])
theorem btx201 : bchk bzf bIx bmpx bmqx bjn bgm blpx bspx bdgx bldx [] [] 30000 bkx201 = true := by decide +kernel
theorem bcx201 : bcon bZ bIx bTr bkx201 := bchk_ok bZ_len bzf_ok bTr_ok (fun _ q => absurd q List.not_mem_nil) (fun _ q => absurd q List.not_mem_nil) btx201
-- copyFrom: 676 steps
def bkx202 : bC := (63, [some (.inr [.index 74]), some (.inr [.index 1])], none, [(74, 74, 9, 13), (78, 78, 1, 1), (79, 79, 0, 59), (80, 80, 1, 1), (81, 81, 0, 23), (82, 82, 1, 1), (83, 83, 0, 9), (84, 84, 1, 1), (85, 85, 0, 9), (86, 86, 1, 1), (87, 87, 0, 9), (88, 88, 1, 2), (90, 90, 1, 1), (91, 91, 0, 11), (92, 92, 1, 1), (93, 93, 0, 11), (94, 94, 1, 1), (95, 95, 0, 11), (96, 96, 1, 1), (97, 97, 0, 11), (98, 98, 1, 1), (99, 99, 0, 11), (100, 100, 1, 1), (101, 101, 0, 11), (102, 102, 1, 1), (103, 103, 0, 11), (104, 104, 1, 1), (105, 105, 0, 11), (107, 107, 1, 1), (108, 108, 0, 11), (109, 109, 1, 1), (110, 110, 0, 11), (111, 111, 1, 1), (112, 112, 0, 11), (113, 113, 1, 1), (114, 114, 0, 11), (115, 115, 1, 1), (116, 116, 0, 11), (117, 117, 1, 1), (118, 118, 0, 11), (119, 119, 1, 1), (120, 120, 0, 11), (121, 121, 1, 1), (122, 122, 0, 11), (123, 123, 1, 1), (124, 124, 0, 11), (125, 125, 1, 1), (126, 126, 0, 11), (127, 127, 1, 1), (128, 128, 0, 11), (129, 129, 1, 1), (130, 130, 0, 11), (131, 131, 0, 2), (132, 132, 0, 2), (133, 133, 0, 2), (134, 134, 0, 2), (135, 135, 0, 2), (136, 136, 0, 2), (137, 137, 0, 2), (138, 138, 0, 2), (140, 140, 1, 1), (141, 141, 0, 59), (144, 144, 1, 1), (145, 145, 0, 59)], 2, [], [])
theorem btx202 : bchk bzf bIx bmpx bmqx bjn bgm blpx bspx bdgx bldx [bkx193, bkx194, bkx195, bkx196, bkx197, bkx198, bkx199, bkx200, bkx201] [] 30000 bkx202 = true := by decide +kernel
theorem bcx202 : bcon bZ bIx bTr bkx202 := bchk_ok bZ_len bzf_ok bTr_ok (List.forall_mem_cons.mpr ⟨bcx193, List.forall_mem_cons.mpr ⟨bcx194, List.forall_mem_cons.mpr ⟨bcx195, List.forall_mem_cons.mpr ⟨bcx196, List.forall_mem_cons.mpr ⟨bcx197, List.forall_mem_cons.mpr ⟨bcx198, List.forall_mem_cons.mpr ⟨bcx199, List.forall_mem_cons.mpr ⟨bcx200, List.forall_mem_cons.mpr ⟨bcx201, fun _ q => absurd q List.not_mem_nil⟩⟩⟩⟩⟩⟩⟩⟩⟩) (fun _ q => absurd q List.not_mem_nil) btx202
-- copyFrom: 18 steps
def bkx203 : bC := (39, [some (.inr [.index 34, .index 36, .index 38, .index 40, .index 42, .index 44, .index 46, .index 48, .index 50, .index 52, .index 54, .index 56]), some (.inr [.index 107, .index 109, .index 111, .index 113, .index 115, .index 117, .index 119, .index 121, .index 123, .index 125, .index 127, .index 129])], none, [(34, 57, 0, 11)], 0, [], [])
theorem btx203 : bchk bzf bIx bmpx bmqx bjn bgm blpx bspx bdgx bldx [] [] 30000 bkx203 = true := by decide +kernel
theorem bcx203 : bcon bZ bIx bTr bkx203 := bchk_ok bZ_len bzf_ok bTr_ok (fun _ q => absurd q List.not_mem_nil) (fun _ q => absurd q List.not_mem_nil) btx203
-- copyFrom: 18 steps
def bkx204 : bC := (39, [some (.inr [.index 67]), some (.inr [.index 140])], none, [(67, 67, 1, 1), (68, 68, 0, 59)], 0, [], [])
theorem btx204 : bchk bzf bIx bmpx bmqx bjn bgm blpx bspx bdgx bldx [] [] 30000 bkx204 = true := by decide +kernel
theorem bcx204 : bcon bZ bIx bTr bkx204 := bchk_ok bZ_len bzf_ok bTr_ok (fun _ q => absurd q List.not_mem_nil) (fun _ q => absurd q List.not_mem_nil) btx204
-- copyFrom: 18 steps
def bkx205 : bC := (39, [some (.inr [.index 71]), some (.inr [.index 144])], none, [(71, 71, 1, 1), (72, 72, 0, 59)], 0, [], [])
theorem btx205 : bchk bzf bIx bmpx bmqx bjn bgm blpx bspx bdgx bldx [] [] 30000 bkx205 = true := by decide +kernel
theorem bcx205 : bcon bZ bIx bTr bkx205 := bchk_ok bZ_len bzf_ok bTr_ok (fun _ q => absurd q List.not_mem_nil) (fun _ q => absurd q List.not_mem_nil) btx205
-- copyFrom: 18 steps
def bkx206 : bC := (39, [some (.inr [.index 5]), some (.inr [.index 78])], none, [(5, 5, 1, 1), (6, 6, 0, 59)], 0, [], [])
theorem btx206 : bchk bzf bIx bmpx bmqx bjn bgm blpx bspx bdgx bldx [] [] 30000 bkx206 = true := by decide +kernel
theorem bcx206 : bcon bZ bIx bTr bkx206 := bchk_ok bZ_len bzf_ok bTr_ok (fun _ q => absurd q List.not_mem_nil) (fun _ q => absurd q List.not_mem_nil) btx206
-- copyFrom: 18 steps
def bkx207 : bC := (39, [some (.inr [.index 7]), some (.inr [.index 80])], none, [(7, 7, 1, 1), (8, 8, 0, 23)], 0, [], [])
theorem btx207 : bchk bzf bIx bmpx bmqx bjn bgm blpx bspx bdgx bldx [] [] 30000 bkx207 = true := by decide +kernel
theorem bcx207 : bcon bZ bIx bTr bkx207 := bchk_ok bZ_len bzf_ok bTr_ok (fun _ q => absurd q List.not_mem_nil) (fun _ q => absurd q List.not_mem_nil) btx207
-- copyFrom: 18 steps
def bkx208 : bC := (39, [some (.inr [.index 9]), some (.inr [.index 82])], none, [(9, 9, 1, 1), (10, 10, 0, 9)], 0, [], [])
theorem btx208 : bchk bzf bIx bmpx bmqx bjn bgm blpx bspx bdgx bldx [] [] 30000 bkx208 = true := by decide +kernel
theorem bcx208 : bcon bZ bIx bTr bkx208 := bchk_ok bZ_len bzf_ok bTr_ok (fun _ q => absurd q List.not_mem_nil) (fun _ q => absurd q List.not_mem_nil) btx208
-- copyFrom: 18 steps
def bkx209 : bC := (39, [some (.inr [.index 11]), some (.inr [.index 84])], none, [(11, 11, 1, 1), (12, 12, 0, 9)], 0, [], [])
theorem btx209 : bchk bzf bIx bmpx bmqx bjn bgm blpx bspx bdgx bldx [] [] 30000 bkx209 = true := by decide +kernel
theorem bcx209 : bcon bZ bIx bTr bkx209 := bchk_ok bZ_len bzf_ok bTr_ok (fun _ q => absurd q List.not_mem_nil) (fun _ q => absurd q List.not_mem_nil) btx209
-- copyFrom: 18 steps
def bkx210 : bC := (39, [some (.inr [.index 13]), some (.inr [.index 86])], none, [(13, 13, 1, 1), (14, 14, 0, 9)], 0, [], [])
theorem btx210 : bchk bzf bIx bmpx bmqx bjn bgm blpx bspx bdgx bldx [] [] 30000 bkx210 = true := by decide +kernel
theorem bcx210 : bcon bZ bIx bTr bkx210 := bchk_ok bZ_len bzf_ok bTr_ok (fun _ q => absurd q List.not_mem_nil) (fun _ q => absurd q List.not_mem_nil) btx210
-- copyFrom: 18 steps
def bkx211 : bC := (39, [some (.inr [.index 17, .index 19, .index 21, .index 23, .index 25, .index 27, .index 29, .index 31]), some (.inr [.index 100, .index 102, .index 104, .index 90, .index 92, .index 94, .index 96, .index 98])], none, [(17, 32, 0, 11)], 0, [], [])
theorem btx211 : bchk bzf bIx bmpx bmqx bjn bgm blpx bspx bdgx bldx [] [] 30000 bkx211 = true := by decide +kernel
theorem bcx211 : bcon bZ bIx bTr bkx211 := bchk_ok bZ_len bzf_ok bTr_ok (fun _ q => absurd q List.not_mem_nil) (fun _ q => absurd q List.not_mem_nil) btx211
-- copyFrom: 676 steps
def bkx212 : bC := (63, [some (.inr [.index 1]), some (.inr [.index 74])], none, [(1, 1, 9, 13), (5, 5, 1, 1), (6, 6, 0, 59), (7, 7, 1, 1), (8, 8, 0, 23), (9, 9, 1, 1), (10, 10, 0, 9), (11, 11, 1, 1), (12, 12, 0, 9), (13, 13, 1, 1), (14, 14, 0, 9), (15, 15, 1, 2), (17, 32, 0, 11), (34, 57, 0, 11), (58, 58, 0, 2), (59, 59, 0, 2), (60, 60, 0, 2), (61, 61, 0, 2), (62, 62, 0, 2), (63, 63, 0, 2), (64, 64, 0, 2), (65, 65, 0, 2), (67, 67, 1, 1), (68, 68, 0, 59), (71, 71, 1, 1), (72, 72, 0, 59)], 2, [], [])
theorem btx212 : bchk bzf bIx bmpx bmqx bjn bgm blpx bspx bdgx bldx [bkx203, bkx204, bkx205, bkx206, bkx207, bkx208, bkx209, bkx210, bkx211] [] 30000 bkx212 = true := by decide +kernel
theorem bcx212 : bcon bZ bIx bTr bkx212 := bchk_ok bZ_len bzf_ok bTr_ok (List.forall_mem_cons.mpr ⟨bcx203, List.forall_mem_cons.mpr ⟨bcx204, List.forall_mem_cons.mpr ⟨bcx205, List.forall_mem_cons.mpr ⟨bcx206, List.forall_mem_cons.mpr ⟨bcx207, List.forall_mem_cons.mpr ⟨bcx208, List.forall_mem_cons.mpr ⟨bcx209, List.forall_mem_cons.mpr ⟨bcx210, List.forall_mem_cons.mpr ⟨bcx211, fun _ q => absurd q List.not_mem_nil⟩⟩⟩⟩⟩⟩⟩⟩⟩) (fun _ q => absurd q List.not_mem_nil) btx212
-- firstUnlike: 34 steps
def bkx213 : bC := (40, [some (.inr [.index 7]), some (.inr [.index 318, .index 320])], some (.inl (-1, 12)), [], 0, [], [])
theorem btx213 : bchk bzf bIx bmpx bmqx bjn bgm blpx bspx bdgx bldx [] [] 30000 bkx213 = true := by decide +kernel
theorem bcx213 : bcon bZ bIx bTr bkx213 := bchk_ok bZ_len bzf_ok bTr_ok (fun _ q => absurd q List.not_mem_nil) (fun _ q => absurd q List.not_mem_nil) btx213
-- call: 78 steps
def bkx214 : bC := (74, [some (.inr [.index 0])], some (.inl (-1000004, 11)), [(1, 1, 9, 9), (34, 34, 1, 1), (36, 36, 1, 1), (38, 38, 1, 1), (40, 40, 1, 1), (42, 42, 1, 1), (44, 44, 1, 1), (46, 46, 1, 1), (48, 48, 1, 1), (50, 50, 1, 1), (52, 52, 1, 1), (54, 54, 1, 1), (56, 56, 1, 1), (323, 323, 4, 4)], 1, [], [])
theorem btx214 : bchk bzf bIx bmpx bmqx bjn bgm blpx bspx bdgx bldx [bkx0] [] 30000 bkx214 = true := by decide +kernel
theorem bcx214 : bcon bZ bIx bTr bkx214 := bchk_ok bZ_len bzf_ok bTr_ok (List.forall_mem_cons.mpr ⟨bcx0, fun _ q => absurd q List.not_mem_nil⟩) (fun _ q => absurd q List.not_mem_nil) btx214
-- sound: 335 steps
def bkx215 : bC := (75, [some (.inr [.index 0]), some (.inl (-2147483648, 2147483647)), some (.inl (-2147483648, 2147483647))], some (.inl (-1000004, 12)), [(34, 57, 0, 11), (323, 323, 1, 1), (323, 323, 4, 4)], 1, [], [])
theorem btx215 : bchk bzf bIx bmpx bmqx bjn bgm blpx bspx bdgx bldx [bkx1, bkx0] [] 30000 bkx215 = true := by decide +kernel
theorem bcx215 : bcon bZ bIx bTr bkx215 := bchk_ok bZ_len bzf_ok bTr_ok (List.forall_mem_cons.mpr ⟨bcx1, List.forall_mem_cons.mpr ⟨bcx0, fun _ q => absurd q List.not_mem_nil⟩⟩) (fun _ q => absurd q List.not_mem_nil) btx215
-- soundOf: 31 steps
def bkx216 : bC := (76, [some (.inr [.index 0]), some (.inl (-2147483648, 2147483647)), some (.inl (-2147483648, 2147483647))], some (.inl (-2147483648, 2147483647)), [(323, 323, 1, 1)], 2, [], [])
theorem btx216 : bchk bzf bIx bmpx bmqx bjn bgm blpx bspx bdgx bldx [bkx1, bkx2] [] 30000 bkx216 = true := by decide +kernel
theorem bcx216 : bcon bZ bIx bTr bkx216 := bchk_ok bZ_len bzf_ok bTr_ok (List.forall_mem_cons.mpr ⟨bcx1, List.forall_mem_cons.mpr ⟨bcx2, fun _ q => absurd q List.not_mem_nil⟩⟩) (fun _ q => absurd q List.not_mem_nil) btx216
-- hush: 83 steps
def bkx217 : bC := (77, [some (.inr [.index 0]), some (.inl (-2147483648, 2147483647))], some (.inl (-1000001, 12)), [(34, 34, 1, 1), (36, 36, 1, 1), (38, 38, 1, 1), (40, 40, 1, 1), (42, 42, 1, 1), (44, 44, 1, 1), (46, 46, 1, 1), (48, 48, 1, 1), (50, 50, 1, 1), (52, 52, 1, 1), (54, 54, 1, 1), (56, 56, 1, 1), (323, 323, 1, 1)], 1, [], [])
theorem btx217 : bchk bzf bIx bmpx bmqx bjn bgm blpx bspx bdgx bldx [bkx1] [] 30000 bkx217 = true := by decide +kernel
theorem bcx217 : bcon bZ bIx bTr bkx217 := bchk_ok bZ_len bzf_ok bTr_ok (List.forall_mem_cons.mpr ⟨bcx1, fun _ q => absurd q List.not_mem_nil⟩) (fun _ q => absurd q List.not_mem_nil) btx217
