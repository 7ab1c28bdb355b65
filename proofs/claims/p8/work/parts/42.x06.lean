-- ===== contracts
-- firstUnlike: 333 steps
def bkx187 : bC := (40, [some (.inr [.index 7]), some (.inr [.index 318, .index 320])], some (.inl (-1, 12)), [], 0, [], [])
theorem btx187 : bchk bzf bIx bmpx bmqx bjn bgm blpx bspx bdgx bldx [] [] 30000 bkx187 = true := by decide +kernel
theorem bcx187 : bcon bZ bIx bTr bkx187 := bchk_ok bZ_len bzf_ok bTr_ok (fun _ q => absurd q List.not_mem_nil) (fun _ q => absurd q List.not_mem_nil) btx187
-- call: 78 steps
def bkx188 : bC := (74, [some (.inr [.index 0])], some (.inl (-1000004, 11)), [(1, 1, 9, 9), (34, 34, 1, 1), (36, 36, 1, 1), (38, 38, 1, 1), (40, 40, 1, 1), (42, 42, 1, 1), (44, 44, 1, 1), (46, 46, 1, 1), (48, 48, 1, 1), (50, 50, 1, 1), (52, 52, 1, 1), (54, 54, 1, 1), (56, 56, 1, 1), (323, 323, 4, 4)], 1, [], [])
theorem btx188 : bchk bzf bIx bmpx bmqx bjn bgm blpx bspx bdgx bldx [bkx0] [] 30000 bkx188 = true := by decide +kernel
theorem bcx188 : bcon bZ bIx bTr bkx188 := bchk_ok bZ_len bzf_ok bTr_ok (List.forall_mem_cons.mpr ⟨bcx0, fun _ q => absurd q List.not_mem_nil⟩) (fun _ q => absurd q List.not_mem_nil) btx188
-- sound: 335 steps
def bkx189 : bC := (75, [some (.inr [.index 0]), some (.inl (-2147483648, 2147483647)), some (.inl (-2147483648, 2147483647))], some (.inl (-1000004, 12)), [(34, 57, 0, 11), (323, 323, 1, 1), (323, 323, 4, 4)], 1, [], [])
theorem btx189 : bchk bzf bIx bmpx bmqx bjn bgm blpx bspx bdgx bldx [bkx1, bkx0] [] 30000 bkx189 = true := by decide +kernel
theorem bcx189 : bcon bZ bIx bTr bkx189 := bchk_ok bZ_len bzf_ok bTr_ok (List.forall_mem_cons.mpr ⟨bcx1, List.forall_mem_cons.mpr ⟨bcx0, fun _ q => absurd q List.not_mem_nil⟩⟩) (fun _ q => absurd q List.not_mem_nil) btx189
-- soundOf: 31 steps
def bkx190 : bC := (76, [some (.inr [.index 0]), some (.inl (-2147483648, 2147483647)), some (.inl (-2147483648, 2147483647))], some (.inl (-2147483648, 2147483647)), [(323, 323, 1, 1)], 2, [], [])
theorem btx190 : bchk bzf bIx bmpx bmqx bjn bgm blpx bspx bdgx bldx [bkx1, bkx2] [] 30000 bkx190 = true := by decide +kernel
theorem bcx190 : bcon bZ bIx bTr bkx190 := bchk_ok bZ_len bzf_ok bTr_ok (List.forall_mem_cons.mpr ⟨bcx1, List.forall_mem_cons.mpr ⟨bcx2, fun _ q => absurd q List.not_mem_nil⟩⟩) (fun _ q => absurd q List.not_mem_nil) btx190
-- hush: 83 steps
def bkx191 : bC := (77, [some (.inr [.index 0]), some (.inl (-2147483648, 2147483647))], some (.inl (-1000001, 12)), [(34, 34, 1, 1), (36, 36, 1, 1), (38, 38, 1, 1), (40, 40, 1, 1), (42, 42, 1, 1), (44, 44, 1, 1), (46, 46, 1, 1), (48, 48, 1, 1), (50, 50, 1, 1), (52, 52, 1, 1), (54, 54, 1, 1), (56, 56, 1, 1), (323, 323, 1, 1)], 1, [], [])
theorem btx191 : bchk bzf bIx bmpx bmqx bjn bgm blpx bspx bdgx bldx [bkx1] [] 30000 bkx191 = true := by decide +kernel
theorem bcx191 : bcon bZ bIx bTr bkx191 := bchk_ok bZ_len bzf_ok bTr_ok (List.forall_mem_cons.mpr ⟨bcx1, fun _ q => absurd q List.not_mem_nil⟩) (fun _ q => absurd q List.not_mem_nil) btx191
-- draw: 1577 steps
def bkx192 : bC := (78, [some (.inr [.index 0]), some (.inl (-2147483648, 2147483647)), some (.inl (-2147483648, 2147483647))], some (.inl (-1000001, 12)), [(1, 1, 13, 13), (34, 57, 0, 11), (323, 323, 1, 1)], 2, [], [])
theorem btx192 : bchk bzf bIx bmpx bmqx bjn bgm blpx bspx bdgx bldx [bkx4, bkx1] [] 30000 bkx192 = true := by decide +kernel
theorem bcx192 : bcon bZ bIx bTr bkx192 := bchk_ok bZ_len bzf_ok bTr_ok (List.forall_mem_cons.mpr ⟨bcx4, List.forall_mem_cons.mpr ⟨bcx1, fun _ q => absurd q List.not_mem_nil⟩⟩) (fun _ q => absurd q List.not_mem_nil) btx192
-- contrary: 34 steps
def bkx193 : bC := (79, [some (.inr [.index 0]), some (.inl (-2147483648, 2147483647))], some (.inl (-2147483648, 2147483647)), [(323, 323, 1, 1)], 1, [], [])
theorem btx193 : bchk bzf bIx bmpx bmqx bjn bgm blpx bspx bdgx bldx [bkx1, bkx3] [] 30000 bkx193 = true := by decide +kernel
theorem bcx193 : bcon bZ bIx bTr bkx193 := bchk_ok bZ_len bzf_ok bTr_ok (List.forall_mem_cons.mpr ⟨bcx1, List.forall_mem_cons.mpr ⟨bcx3, fun _ q => absurd q List.not_mem_nil⟩⟩) (fun _ q => absurd q List.not_mem_nil) btx193
-- rock: 75 steps
def bkx194 : bC := (80, [some (.inr [.index 0]), some (.inl (-2147483648, 2147483647)), some (.inl (-2147483648, 2147483647))], some (.inl (-1000004, 7)), [(1, 1, 10, 10), (58, 58, 0, 2), (59, 59, 0, 2), (60, 60, 0, 2), (61, 61, 0, 2), (62, 62, 0, 2), (63, 63, 0, 2), (64, 64, 0, 2), (65, 65, 0, 2), (323, 323, 1, 1), (323, 323, 4, 4)], 1, [], [])
theorem btx194 : bchk bzf bIx bmpx bmqx bjn bgm blpx bspx bdgx bldx [bkx1, bkx0] [] 30000 bkx194 = true := by decide +kernel
theorem bcx194 : bcon bZ bIx bTr bkx194 := bchk_ok bZ_len bzf_ok bTr_ok (List.forall_mem_cons.mpr ⟨bcx1, List.forall_mem_cons.mpr ⟨bcx0, fun _ q => absurd q List.not_mem_nil⟩⟩) (fun _ q => absurd q List.not_mem_nil) btx194
-- rockIs: 155 steps
def bkx195 : bC := (81, [some (.inr [.index 0]), some (.inl (-2147483648, 2147483647)), some (.inl (-2147483648, 2147483647))], some (.inl (-1000001, 20)), [(323, 323, 1, 1)], 1, [], [])
theorem btx195 : bchk bzf bIx bmpx bmqx bjn bgm blpx bspx bdgx bldx [bkx1] [] 30000 bkx195 = true := by decide +kernel
theorem bcx195 : bcon bZ bIx bTr bkx195 := bchk_ok bZ_len bzf_ok bTr_ok (List.forall_mem_cons.mpr ⟨bcx1, fun _ q => absurd q List.not_mem_nil⟩) (fun _ q => absurd q List.not_mem_nil) btx195
-- as: 281 steps
def bkx196 : bC := (82, [some (.inr [.index 0]), some (.inl (-2147483648, 2147483647)), some (.inl (-2147483648, 2147483647))], some (.inl (-1000005, 20)), [(323, 323, 1, 1), (323, 323, 5, 5)], 2, [], [])
theorem btx196 : bchk bzf bIx bmpx bmqx bjn bgm blpx bspx bdgx bldx [bkx1, bkx5] [] 30000 bkx196 = true := by decide +kernel
theorem bcx196 : bcon bZ bIx bTr bkx196 := bchk_ok bZ_len bzf_ok bTr_ok (List.forall_mem_cons.mpr ⟨bcx1, List.forall_mem_cons.mpr ⟨bcx5, fun _ q => absurd q List.not_mem_nil⟩⟩) (fun _ q => absurd q List.not_mem_nil) btx196
-- set: 342 steps
def bkx197 : bC := (83, [some (.inr [.index 0]), some (.inl (-2147483648, 2147483647)), some (.inl (-2147483648, 2147483647)), some (.inl (-2147483648, 2147483647))], some (.inl (-1000001, 20)), [(58, 58, 0, 2), (59, 59, 0, 2), (60, 60, 0, 2), (61, 61, 0, 2), (62, 62, 0, 2), (63, 63, 0, 2), (64, 64, 0, 2), (65, 65, 0, 2), (323, 323, 1, 1)], 2, [], [])
theorem btx197 : bchk bzf bIx bmpx bmqx bjn bgm blpx bspx bdgx bldx [bkx1] [] 30000 bkx197 = true := by decide +kernel
theorem bcx197 : bcon bZ bIx bTr bkx197 := bchk_ok bZ_len bzf_ok bTr_ok (List.forall_mem_cons.mpr ⟨bcx1, fun _ q => absurd q List.not_mem_nil⟩) (fun _ q => absurd q List.not_mem_nil) btx197
-- feed: 361 steps
def bkx198 : bC := (84, [some (.inr [.index 0]), none, some (.inl (-2147483648, 2147483647))], some (.inl (-1000004, 60)), [(5, 5, 1, 1), (6, 6, 0, 59), (323, 323, 1, 1), (323, 323, 4, 4)], 1, [], [])
theorem btx198 : bchk bzf bIx bmpx bmqx bjn bgm blpx bspx bdgx bldx [bkx1, bkx0] [] 30000 bkx198 = true := by decide +kernel
theorem bcx198 : bcon bZ bIx bTr bkx198 := bchk_ok bZ_len bzf_ok bTr_ok (List.forall_mem_cons.mpr ⟨bcx1, List.forall_mem_cons.mpr ⟨bcx0, fun _ q => absurd q List.not_mem_nil⟩⟩) (fun _ q => absurd q List.not_mem_nil) btx198
-- text: 135 steps
def bkx199 : bC := (85, [some (.inr [.index 0]), some (.inl (-2147483648, 2147483647))], some (.inl (-1000001, 1)), [(5, 5, 1, 1), (67, 67, 1, 1), (68, 68, 0, 59), (71, 71, 1, 1), (72, 72, 0, 59), (147, 147, 1, 3), (148, 148, 1, 1), (149, 149, 0, 59), (323, 323, 1, 1)], 52, [], [])
theorem btx199 : bchk bzf bIx bmpx bmqx bjn bgm blpx bspx bdgx bldx [bkx48, bkx1] [] 30000 bkx199 = true := by decide +kernel
theorem bcx199 : bcon bZ bIx bTr bkx199 := bchk_ok bZ_len bzf_ok bTr_ok (List.forall_mem_cons.mpr ⟨bcx48, List.forall_mem_cons.mpr ⟨bcx1, fun _ q => absurd q List.not_mem_nil⟩⟩) (fun _ q => absurd q List.not_mem_nil) btx199
-- untell: 67 steps
def bkx200 : bC := (86, [some (.inr [.index 0]), some (.inl (-2147483648, 2147483647))], some (.inl (-1000001, 1)), [(67, 67, 1, 1), (71, 71, 1, 1), (323, 323, 1, 1)], 1, [], [])
theorem btx200 : bchk bzf bIx bmpx bmqx bjn bgm blpx bspx bdgx bldx [bkx1] [] 30000 bkx200 = true := by decide +kernel
theorem bcx200 : bcon bZ bIx bTr bkx200 := bchk_ok bZ_len bzf_ok bTr_ok (List.forall_mem_cons.mpr ⟨bcx1, fun _ q => absurd q List.not_mem_nil⟩) (fun _ q => absurd q List.not_mem_nil) btx200
-- heard: 51 steps
def bkx201 : bC := (87, [some (.inr [.index 0]), some (.inl (-2147483648, 2147483647)), some (.inl (-2147483648, 2147483647)), some (.inl (-2147483648, 2147483647))], some (.inl (-2147483648, 2147483647)), [(33, 33, 0, 3), (69, 69, 0, 59), (314, 314, 1, 1), (315, 315, 0, 3), (318, 318, 1, 1), (319, 319, 0, 11), (320, 320, 1, 1), (321, 321, 0, 11), (323, 323, 1, 1)], 5, [], [])
theorem btx201 : bchk bzf bIx bmpx bmqx bjn bgm blpx bspx bdgx bldx [bkx49, bkx58, bkx1, bkx59] [] 30000 bkx201 = true := by decide +kernel
theorem bcx201 : bcon bZ bIx bTr bkx201 := bchk_ok bZ_len bzf_ok bTr_ok (List.forall_mem_cons.mpr ⟨bcx49, List.forall_mem_cons.mpr ⟨bcx58, List.forall_mem_cons.mpr ⟨bcx1, List.forall_mem_cons.mpr ⟨bcx59, fun _ q => absurd q List.not_mem_nil⟩⟩⟩⟩) (fun _ q => absurd q List.not_mem_nil) btx201
-- self: 59 steps
def bkx202 : bC := (88, [some (.inr [.index 0]), some (.inl (-2147483648, 2147483647)), some (.inl (-2147483648, 2147483647))], some (.inl (-1000001, 1)), [(33, 33, 0, 3), (69, 69, 0, 59), (314, 314, 1, 1), (315, 315, 0, 3), (318, 318, 1, 1), (319, 319, 0, 11), (320, 320, 1, 1), (321, 321, 0, 11), (323, 323, 1, 1)], 5, [], [])
theorem btx202 : bchk bzf bIx bmpx bmqx bjn bgm blpx bspx bdgx bldx [bkx61, bkx49, bkx58, bkx1] [] 30000 bkx202 = true := by decide +kernel
theorem bcx202 : bcon bZ bIx bTr bkx202 := bchk_ok bZ_len bzf_ok bTr_ok (List.forall_mem_cons.mpr ⟨bcx61, List.forall_mem_cons.mpr ⟨bcx49, List.forall_mem_cons.mpr ⟨bcx58, List.forall_mem_cons.mpr ⟨bcx1, fun _ q => absurd q List.not_mem_nil⟩⟩⟩⟩) (fun _ q => absurd q List.not_mem_nil) btx202
-- takes: 102 steps
def bkx203 : bC := (89, [some (.inr [.index 0]), some (.inl (-2147483648, 2147483647))], some (.inl (-1000001, 80)), [(314, 314, 1, 1), (315, 315, 0, 3), (323, 323, 1, 1)], 2, [], [])
theorem btx203 : bchk bzf bIx bmpx bmqx bjn bgm blpx bspx bdgx bldx [bkx49, bkx1] [] 30000 bkx203 = true := by decide +kernel
theorem bcx203 : bcon bZ bIx bTr bkx203 := bchk_ok bZ_len bzf_ok bTr_ok (List.forall_mem_cons.mpr ⟨bcx49, List.forall_mem_cons.mpr ⟨bcx1, fun _ q => absurd q List.not_mem_nil⟩⟩) (fun _ q => absurd q List.not_mem_nil) btx203
-- echo: 295 steps
def bkx204 : bC := (90, [some (.inr [.index 0]), some (.inl (-2147483648, 2147483647)), some (.inl (-2147483648, 2147483647)), some (.inl (-2147483648, 2147483647))], some (.inl (-1000001, 12)), [(33, 57, 0, 11), (69, 69, 0, 59), (314, 314, 1, 1), (315, 315, 0, 3), (318, 318, 1, 1), (319, 319, 0, 11), (320, 320, 1, 1), (321, 321, 0, 11), (323, 323, 1, 1)], 5, [], [])
theorem btx204 : bchk bzf bIx bmpx bmqx bjn bgm blpx bspx bdgx bldx [bkx49, bkx58, bkx1] [] 30000 bkx204 = true := by decide +kernel
theorem bcx204 : bcon bZ bIx bTr bkx204 := bchk_ok bZ_len bzf_ok bTr_ok (List.forall_mem_cons.mpr ⟨bcx49, List.forall_mem_cons.mpr ⟨bcx58, List.forall_mem_cons.mpr ⟨bcx1, fun _ q => absurd q List.not_mem_nil⟩⟩⟩) (fun _ q => absurd q List.not_mem_nil) btx204
-- which: 57 steps
def bkx205 : bC := (91, [some (.inr [.index 0]), some (.inl (-2147483648, 2147483647)), some (.inl (-2147483648, 2147483647))], some (.inl (-2147483648, 2147483647)), [(33, 33, 0, 3), (69, 69, 0, 59), (318, 318, 1, 1), (319, 319, 0, 11), (320, 320, 1, 1), (321, 321, 0, 11), (323, 323, 1, 1)], 5, [], [])
theorem btx205 : bchk bzf bIx bmpx bmqx bjn bgm blpx bspx bdgx bldx [bkx1, bkx62] [] 30000 bkx205 = true := by decide +kernel
theorem bcx205 : bcon bZ bIx bTr bkx205 := bchk_ok bZ_len bzf_ok bTr_ok (List.forall_mem_cons.mpr ⟨bcx1, List.forall_mem_cons.mpr ⟨bcx62, fun _ q => absurd q List.not_mem_nil⟩⟩) (fun _ q => absurd q List.not_mem_nil) btx205
-- ways: 71 steps
def bkx206 : bC := (92, [some (.inr [.index 0]), some (.inl (-2147483648, 2147483647)), some (.inl (-2147483648, 2147483647)), some (.inl (-2147483648, 2147483647))], some (.inl (-1000001, 585)), [(33, 33, 0, 3), (69, 69, 0, 59), (323, 323, 1, 1), (332, 332, 1, 1), (333, 333, 0, 11), (334, 334, 1, 1), (335, 335, 0, 11), (336, 336, 1, 1), (337, 337, 0, 11)], 7, [], [])
theorem btx206 : bchk bzf bIx bmpx bmqx bjn bgm blpx bspx bdgx bldx [bkx1, bkx75] [] 30000 bkx206 = true := by decide +kernel
theorem bcx206 : bcon bZ bIx bTr bkx206 := bchk_ok bZ_len bzf_ok bTr_ok (List.forall_mem_cons.mpr ⟨bcx1, List.forall_mem_cons.mpr ⟨bcx75, fun _ q => absurd q List.not_mem_nil⟩⟩) (fun _ q => absurd q List.not_mem_nil) btx206
-- need: 856 steps
def bkx207 : bC := (93, [some (.inr [.index 0]), some (.inl (-2147483648, 2147483647)), some (.inl (-2147483648, 2147483647)), some (.inl (-2147483648, 2147483647))], some (.inl (-2147483648, 2147483647)), [(33, 33, 0, 3), (69, 69, 0, 59), (314, 314, 1, 1), (315, 315, 0, 3), (318, 318, 1, 1), (319, 319, 0, 11), (320, 320, 1, 1), (321, 321, 0, 11), (323, 323, 1, 1), (323, 323, 3, 3)], 4, [], [])
theorem btx207 : bchk bzf bIx bmpx bmqx bjn bgm blpx bspx bdgx bldx [bkx49, bkx57, bkx1, bkx76, bkx59] [] 30000 bkx207 = true := by decide +kernel
theorem bcx207 : bcon bZ bIx bTr bkx207 := bchk_ok bZ_len bzf_ok bTr_ok (List.forall_mem_cons.mpr ⟨bcx49, List.forall_mem_cons.mpr ⟨bcx57, List.forall_mem_cons.mpr ⟨bcx1, List.forall_mem_cons.mpr ⟨bcx76, List.forall_mem_cons.mpr ⟨bcx59, fun _ q => absurd q List.not_mem_nil⟩⟩⟩⟩⟩) (fun _ q => absurd q List.not_mem_nil) btx207
