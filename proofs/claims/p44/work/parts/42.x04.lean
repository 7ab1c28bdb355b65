-- ===== contracts
-- draw: 1577 steps
def bkx218 : bC := (78, [some (.inr [.index 0]), some (.inl (-2147483648, 2147483647)), some (.inl (-2147483648, 2147483647))], some (.inl (-1000001, 12)), [(1, 1, 13, 13), (34, 57, 0, 11), (323, 323, 1, 1)], 2, [], [])
theorem btx218 : bchk bzf bIx bmpx bmqx bjn bgm blpx bspx bdgx bldx [bkx4, bkx1] [] 30000 bkx218 = true := by decide +kernel
theorem bcx218 : bcon bZ bIx bTr bkx218 := bchk_ok bZ_len bzf_ok bTr_ok (List.forall_mem_cons.mpr ⟨bcx4, List.forall_mem_cons.mpr ⟨bcx1, fun _ q => absurd q List.not_mem_nil⟩⟩) (fun _ q => absurd q List.not_mem_nil) btx218
-- contrary: 34 steps
def bkx219 : bC := (79, [some (.inr [.index 0]), some (.inl (-2147483648, 2147483647))], some (.inl (-2147483648, 2147483647)), [(323, 323, 1, 1)], 1, [], [])
theorem btx219 : bchk bzf bIx bmpx bmqx bjn bgm blpx bspx bdgx bldx [bkx1, bkx3] [] 30000 bkx219 = true := by decide +kernel
theorem bcx219 : bcon bZ bIx bTr bkx219 := bchk_ok bZ_len bzf_ok bTr_ok (List.forall_mem_cons.mpr ⟨bcx1, List.forall_mem_cons.mpr ⟨bcx3, fun _ q => absurd q List.not_mem_nil⟩⟩) (fun _ q => absurd q List.not_mem_nil) btx219
-- rock: 75 steps
def bkx220 : bC := (80, [some (.inr [.index 0]), some (.inl (-2147483648, 2147483647)), some (.inl (-2147483648, 2147483647))], some (.inl (-1000004, 7)), [(1, 1, 10, 10), (58, 58, 0, 2), (59, 59, 0, 2), (60, 60, 0, 2), (61, 61, 0, 2), (62, 62, 0, 2), (63, 63, 0, 2), (64, 64, 0, 2), (65, 65, 0, 2), (323, 323, 1, 1), (323, 323, 4, 4)], 1, [], [])
theorem btx220 : bchk bzf bIx bmpx bmqx bjn bgm blpx bspx bdgx bldx [bkx1, bkx0] [] 30000 bkx220 = true := by decide +kernel
theorem bcx220 : bcon bZ bIx bTr bkx220 := bchk_ok bZ_len bzf_ok bTr_ok (List.forall_mem_cons.mpr ⟨bcx1, List.forall_mem_cons.mpr ⟨bcx0, fun _ q => absurd q List.not_mem_nil⟩⟩) (fun _ q => absurd q List.not_mem_nil) btx220
-- rockIs: 155 steps
def bkx221 : bC := (81, [some (.inr [.index 0]), some (.inl (-2147483648, 2147483647)), some (.inl (-2147483648, 2147483647))], some (.inl (-1000001, 20)), [(323, 323, 1, 1)], 1, [], [])
theorem btx221 : bchk bzf bIx bmpx bmqx bjn bgm blpx bspx bdgx bldx [bkx1] [] 30000 bkx221 = true := by decide +kernel
theorem bcx221 : bcon bZ bIx bTr bkx221 := bchk_ok bZ_len bzf_ok bTr_ok (List.forall_mem_cons.mpr ⟨bcx1, fun _ q => absurd q List.not_mem_nil⟩) (fun _ q => absurd q List.not_mem_nil) btx221
-- as: 281 steps
def bkx222 : bC := (82, [some (.inr [.index 0]), some (.inl (-2147483648, 2147483647)), some (.inl (-2147483648, 2147483647))], some (.inl (-1000005, 20)), [(323, 323, 1, 1), (323, 323, 5, 5)], 2, [], [])
theorem btx222 : bchk bzf bIx bmpx bmqx bjn bgm blpx bspx bdgx bldx [bkx1, bkx5] [] 30000 bkx222 = true := by decide +kernel
theorem bcx222 : bcon bZ bIx bTr bkx222 := bchk_ok bZ_len bzf_ok bTr_ok (List.forall_mem_cons.mpr ⟨bcx1, List.forall_mem_cons.mpr ⟨bcx5, fun _ q => absurd q List.not_mem_nil⟩⟩) (fun _ q => absurd q List.not_mem_nil) btx222
-- set: 342 steps
def bkx223 : bC := (83, [some (.inr [.index 0]), some (.inl (-2147483648, 2147483647)), some (.inl (-2147483648, 2147483647)), some (.inl (-2147483648, 2147483647))], some (.inl (-1000001, 20)), [(58, 58, 0, 2), (59, 59, 0, 2), (60, 60, 0, 2), (61, 61, 0, 2), (62, 62, 0, 2), (63, 63, 0, 2), (64, 64, 0, 2), (65, 65, 0, 2), (323, 323, 1, 1)], 2, [], [])
theorem btx223 : bchk bzf bIx bmpx bmqx bjn bgm blpx bspx bdgx bldx [bkx1] [] 30000 bkx223 = true := by decide +kernel
theorem bcx223 : bcon bZ bIx bTr bkx223 := bchk_ok bZ_len bzf_ok bTr_ok (List.forall_mem_cons.mpr ⟨bcx1, fun _ q => absurd q List.not_mem_nil⟩) (fun _ q => absurd q List.not_mem_nil) btx223
-- feed: 361 steps
def bkx224 : bC := (84, [some (.inr [.index 0]), none, some (.inl (-2147483648, 2147483647))], some (.inl (-1000004, 60)), [(5, 5, 1, 1), (6, 6, 0, 59), (323, 323, 1, 1), (323, 323, 4, 4)], 1, [], [])
theorem btx224 : bchk bzf bIx bmpx bmqx bjn bgm blpx bspx bdgx bldx [bkx1, bkx0] [] 30000 bkx224 = true := by decide +kernel
theorem bcx224 : bcon bZ bIx bTr bkx224 := bchk_ok bZ_len bzf_ok bTr_ok (List.forall_mem_cons.mpr ⟨bcx1, List.forall_mem_cons.mpr ⟨bcx0, fun _ q => absurd q List.not_mem_nil⟩⟩) (fun _ q => absurd q List.not_mem_nil) btx224
-- text: 99 steps
def bkx225 : bC := (85, [some (.inr [.index 0]), some (.inl (-2147483648, 2147483647))], some (.inl (-1000001, 1)), [(5, 5, 1, 1), (67, 67, 1, 1), (68, 68, 0, 59), (71, 71, 1, 1), (72, 72, 0, 59), (147, 147, 1, 3), (148, 148, 1, 1), (149, 149, 0, 59), (323, 323, 1, 1)], 52, [], [])
theorem btx225 : bchk bzf bIx bmpx bmqx bjn bgm blpx bspx bdgx bldx [bkx48, bkx49, bkx1] [] 30000 bkx225 = true := by decide +kernel
theorem bcx225 : bcon bZ bIx bTr bkx225 := bchk_ok bZ_len bzf_ok bTr_ok (List.forall_mem_cons.mpr ⟨bcx48, List.forall_mem_cons.mpr ⟨bcx49, List.forall_mem_cons.mpr ⟨bcx1, fun _ q => absurd q List.not_mem_nil⟩⟩⟩) (fun _ q => absurd q List.not_mem_nil) btx225
-- untell: 67 steps
def bkx226 : bC := (86, [some (.inr [.index 0]), some (.inl (-2147483648, 2147483647))], some (.inl (-1000001, 1)), [(67, 67, 1, 1), (71, 71, 1, 1), (323, 323, 1, 1)], 1, [], [])
theorem btx226 : bchk bzf bIx bmpx bmqx bjn bgm blpx bspx bdgx bldx [bkx1] [] 30000 bkx226 = true := by decide +kernel
theorem bcx226 : bcon bZ bIx bTr bkx226 := bchk_ok bZ_len bzf_ok bTr_ok (List.forall_mem_cons.mpr ⟨bcx1, fun _ q => absurd q List.not_mem_nil⟩) (fun _ q => absurd q List.not_mem_nil) btx226
-- heard: 51 steps
def bkx227 : bC := (87, [some (.inr [.index 0]), some (.inl (-2147483648, 2147483647)), some (.inl (-2147483648, 2147483647)), some (.inl (-2147483648, 2147483647))], some (.inl (-2147483648, 2147483647)), [(33, 33, 0, 3), (69, 69, 0, 59), (314, 314, 1, 1), (315, 315, 0, 3), (318, 318, 1, 1), (319, 319, 0, 11), (320, 320, 1, 1), (321, 321, 0, 11), (323, 323, 1, 1)], 5, [], [])
theorem btx227 : bchk bzf bIx bmpx bmqx bjn bgm blpx bspx bdgx bldx [bkx50, bkx60, bkx1, bkx61] [] 30000 bkx227 = true := by decide +kernel
theorem bcx227 : bcon bZ bIx bTr bkx227 := bchk_ok bZ_len bzf_ok bTr_ok (List.forall_mem_cons.mpr ⟨bcx50, List.forall_mem_cons.mpr ⟨bcx60, List.forall_mem_cons.mpr ⟨bcx1, List.forall_mem_cons.mpr ⟨bcx61, fun _ q => absurd q List.not_mem_nil⟩⟩⟩⟩) (fun _ q => absurd q List.not_mem_nil) btx227
-- self: 59 steps
def bkx228 : bC := (88, [some (.inr [.index 0]), some (.inl (-2147483648, 2147483647)), some (.inl (-2147483648, 2147483647))], some (.inl (-1000001, 1)), [(33, 33, 0, 3), (69, 69, 0, 59), (314, 314, 1, 1), (315, 315, 0, 3), (318, 318, 1, 1), (319, 319, 0, 11), (320, 320, 1, 1), (321, 321, 0, 11), (323, 323, 1, 1)], 5, [], [])
theorem btx228 : bchk bzf bIx bmpx bmqx bjn bgm blpx bspx bdgx bldx [bkx63, bkx50, bkx60, bkx1] [] 30000 bkx228 = true := by decide +kernel
theorem bcx228 : bcon bZ bIx bTr bkx228 := bchk_ok bZ_len bzf_ok bTr_ok (List.forall_mem_cons.mpr ⟨bcx63, List.forall_mem_cons.mpr ⟨bcx50, List.forall_mem_cons.mpr ⟨bcx60, List.forall_mem_cons.mpr ⟨bcx1, fun _ q => absurd q List.not_mem_nil⟩⟩⟩⟩) (fun _ q => absurd q List.not_mem_nil) btx228
-- takes: 102 steps
def bkx229 : bC := (89, [some (.inr [.index 0]), some (.inl (-2147483648, 2147483647))], some (.inl (-1000001, 80)), [(314, 314, 1, 1), (315, 315, 0, 3), (323, 323, 1, 1)], 2, [], [])
theorem btx229 : bchk bzf bIx bmpx bmqx bjn bgm blpx bspx bdgx bldx [bkx50, bkx1] [] 30000 bkx229 = true := by decide +kernel
theorem bcx229 : bcon bZ bIx bTr bkx229 := bchk_ok bZ_len bzf_ok bTr_ok (List.forall_mem_cons.mpr ⟨bcx50, List.forall_mem_cons.mpr ⟨bcx1, fun _ q => absurd q List.not_mem_nil⟩⟩) (fun _ q => absurd q List.not_mem_nil) btx229
-- echo: 79 steps
def bkx230 : bC := (90, [some (.inr [.index 0]), some (.inl (-2147483648, 2147483647)), some (.inl (-2147483648, 2147483647)), some (.inl (-2147483648, 2147483647))], some (.inl (-1000001, 12)), [(33, 57, 0, 11), (69, 69, 0, 59), (314, 314, 1, 1), (315, 315, 0, 3), (318, 318, 1, 1), (319, 319, 0, 11), (320, 320, 1, 1), (321, 321, 0, 11), (323, 323, 1, 1)], 5, [], [])
theorem btx230 : bchk bzf bIx bmpx bmqx bjn bgm blpx bspx bdgx bldx [bkx64, bkx50, bkx60, bkx1] [] 30000 bkx230 = true := by decide +kernel
theorem bcx230 : bcon bZ bIx bTr bkx230 := bchk_ok bZ_len bzf_ok bTr_ok (List.forall_mem_cons.mpr ⟨bcx64, List.forall_mem_cons.mpr ⟨bcx50, List.forall_mem_cons.mpr ⟨bcx60, List.forall_mem_cons.mpr ⟨bcx1, fun _ q => absurd q List.not_mem_nil⟩⟩⟩⟩) (fun _ q => absurd q List.not_mem_nil) btx230
-- which: 57 steps
def bkx231 : bC := (91, [some (.inr [.index 0]), some (.inl (-2147483648, 2147483647)), some (.inl (-2147483648, 2147483647))], some (.inl (-2147483648, 2147483647)), [(33, 33, 0, 3), (69, 69, 0, 59), (318, 318, 1, 1), (319, 319, 0, 11), (320, 320, 1, 1), (321, 321, 0, 11), (323, 323, 1, 1)], 5, [], [])
theorem btx231 : bchk bzf bIx bmpx bmqx bjn bgm blpx bspx bdgx bldx [bkx1, bkx65] [] 30000 bkx231 = true := by decide +kernel
theorem bcx231 : bcon bZ bIx bTr bkx231 := bchk_ok bZ_len bzf_ok bTr_ok (List.forall_mem_cons.mpr ⟨bcx1, List.forall_mem_cons.mpr ⟨bcx65, fun _ q => absurd q List.not_mem_nil⟩⟩) (fun _ q => absurd q List.not_mem_nil) btx231
-- ways: 71 steps
def bkx232 : bC := (92, [some (.inr [.index 0]), some (.inl (-2147483648, 2147483647)), some (.inl (-2147483648, 2147483647)), some (.inl (-2147483648, 2147483647))], some (.inl (-1000001, 585)), [(33, 33, 0, 3), (69, 69, 0, 59), (323, 323, 1, 1), (332, 332, 1, 1), (333, 333, 0, 11), (334, 334, 1, 1), (335, 335, 0, 11), (336, 336, 1, 1), (337, 337, 0, 11)], 7, [], [])
theorem btx232 : bchk bzf bIx bmpx bmqx bjn bgm blpx bspx bdgx bldx [bkx1, bkx79] [] 30000 bkx232 = true := by decide +kernel
theorem bcx232 : bcon bZ bIx bTr bkx232 := bchk_ok bZ_len bzf_ok bTr_ok (List.forall_mem_cons.mpr ⟨bcx1, List.forall_mem_cons.mpr ⟨bcx79, fun _ q => absurd q List.not_mem_nil⟩⟩) (fun _ q => absurd q List.not_mem_nil) btx232
-- need: 838 steps
def bkx233 : bC := (93, [some (.inr [.index 0]), some (.inl (-2147483648, 2147483647)), some (.inl (-2147483648, 2147483647)), some (.inl (-2147483648, 2147483647))], some (.inl (-2147483648, 2147483647)), [(33, 33, 0, 3), (69, 69, 0, 59), (314, 314, 1, 1), (315, 315, 0, 3), (318, 318, 1, 1), (319, 319, 0, 11), (320, 320, 1, 1), (321, 321, 0, 11), (323, 323, 1, 1), (323, 323, 3, 3)], 4, [], [])
theorem btx233 : bchk bzf bIx bmpx bmqx bjn bgm blpx bspx bdgx bldx [bkx51, bkx50, bkx59, bkx1, bkx80, bkx61] [] 30000 bkx233 = true := by decide +kernel
theorem bcx233 : bcon bZ bIx bTr bkx233 := bchk_ok bZ_len bzf_ok bTr_ok (List.forall_mem_cons.mpr ⟨bcx51, List.forall_mem_cons.mpr ⟨bcx50, List.forall_mem_cons.mpr ⟨bcx59, List.forall_mem_cons.mpr ⟨bcx1, List.forall_mem_cons.mpr ⟨bcx80, List.forall_mem_cons.mpr ⟨bcx61, fun _ q => absurd q List.not_mem_nil⟩⟩⟩⟩⟩⟩) (fun _ q => absurd q List.not_mem_nil) btx233
-- meant: 106 steps
def bkx234 : bC := (94, [some (.inr [.index 0]), some (.inl (-2147483648, 2147483647)), some (.inl (-2147483648, 2147483647))], some (.inl (-1000001, 73)), [(33, 33, 0, 3), (69, 69, 0, 59), (155, 155, 2, 2), (157, 304, 0, 11), (323, 323, 1, 1)], 6, [], [])
theorem btx234 : bchk bzf bIx bmpx bmqx bjn bgm blpx bspx bdgx bldx [bkx96, bkx84, bkx1] [] 30000 bkx234 = true := by decide +kernel
theorem bcx234 : bcon bZ bIx bTr bkx234 := bchk_ok bZ_len bzf_ok bTr_ok (List.forall_mem_cons.mpr ⟨bcx96, List.forall_mem_cons.mpr ⟨bcx84, List.forall_mem_cons.mpr ⟨bcx1, fun _ q => absurd q List.not_mem_nil⟩⟩⟩) (fun _ q => absurd q List.not_mem_nil) btx234
-- place: 601 steps
def bkx235 : bC := (95, [some (.inr [.index 0]), some (.inl (-2147483648, 2147483647)), some (.inl (-2147483648, 2147483647)), some (.inl (-2147483648, 2147483647))], some (.inl (-1000001, 254)), [(33, 33, 0, 3), (69, 69, 0, 59), (155, 155, 2, 2), (157, 304, 0, 11), (323, 323, 1, 1)], 6, [], [])
theorem btx235 : bchk bzf bIx bmpx bmqx bjn bgm blpx bspx bdgx bldx [bkx96, bkx84, bkx1] [] 30000 bkx235 = true := by decide +kernel
theorem bcx235 : bcon bZ bIx bTr bkx235 := bchk_ok bZ_len bzf_ok bTr_ok (List.forall_mem_cons.mpr ⟨bcx96, List.forall_mem_cons.mpr ⟨bcx84, List.forall_mem_cons.mpr ⟨bcx1, fun _ q => absurd q List.not_mem_nil⟩⟩⟩) (fun _ q => absurd q List.not_mem_nil) btx235
-- safe: 51 steps
def bkx236 : bC := (96, [some (.inr [.index 0]), some (.inl (-2147483648, 2147483647)), some (.inl (-2147483648, 2147483647))], some (.inl (-2147483648, 2147483647)), [(33, 33, 0, 3), (69, 69, 0, 59), (318, 318, 1, 1), (319, 319, 0, 11), (320, 320, 1, 1), (321, 321, 0, 11), (323, 323, 1, 1)], 5, [], [])
theorem btx236 : bchk bzf bIx bmpx bmqx bjn bgm blpx bspx bdgx bldx [bkx4, bkx1, bkx65] [] 30000 bkx236 = true := by decide +kernel
theorem bcx236 : bcon bZ bIx bTr bkx236 := bchk_ok bZ_len bzf_ok bTr_ok (List.forall_mem_cons.mpr ⟨bcx4, List.forall_mem_cons.mpr ⟨bcx1, List.forall_mem_cons.mpr ⟨bcx65, fun _ q => absurd q List.not_mem_nil⟩⟩⟩) (fun _ q => absurd q List.not_mem_nil) btx236
-- part: 82 steps
def bkx237 : bC := (97, [some (.inr [.index 0]), some (.inl (-2147483648, 2147483647)), some (.inl (-2147483648, 2147483647)), some (.inl (-2147483648, 2147483647))], some (.inl (-1000002, 12)), [(33, 33, 0, 3), (69, 69, 0, 59), (314, 314, 1, 1), (315, 315, 0, 3), (316, 316, 1, 1), (317, 317, 0, 3), (318, 318, 1, 1), (319, 319, 0, 11), (320, 320, 1, 1), (321, 321, 0, 11), (323, 323, 1, 2)], 5, [], [])
theorem btx237 : bchk bzf bIx bmpx bmqx bjn bgm blpx bspx bdgx bldx [bkx99, bkx50, bkx97, bkx60, bkx98, bkx1, bkx100] [] 30000 bkx237 = true := by decide +kernel
theorem bcx237 : bcon bZ bIx bTr bkx237 := bchk_ok bZ_len bzf_ok bTr_ok (List.forall_mem_cons.mpr ⟨bcx99, List.forall_mem_cons.mpr ⟨bcx50, List.forall_mem_cons.mpr ⟨bcx97, List.forall_mem_cons.mpr ⟨bcx60, List.forall_mem_cons.mpr ⟨bcx98, List.forall_mem_cons.mpr ⟨bcx1, List.forall_mem_cons.mpr ⟨bcx100, fun _ q => absurd q List.not_mem_nil⟩⟩⟩⟩⟩⟩⟩) (fun _ q => absurd q List.not_mem_nil) btx237
-- reads: 171 steps
def bkx238 : bC := (98, [some (.inr [.index 0]), some (.inl (-2147483648, 2147483647))], some (.inl (-1000001, 1)), [(323, 323, 1, 1)], 2, [], [])
theorem btx238 : bchk bzf bIx bmpx bmqx bjn bgm blpx bspx bdgx bldx [bkx1] [] 30000 bkx238 = true := by decide +kernel
theorem bcx238 : bcon bZ bIx bTr bkx238 := bchk_ok bZ_len bzf_ok bTr_ok (List.forall_mem_cons.mpr ⟨bcx1, fun _ q => absurd q List.not_mem_nil⟩) (fun _ q => absurd q List.not_mem_nil) btx238
-- so: 23 steps
def bkx239 : bC := (99, [some (.inr [.index 0]), some (.inl (-2147483648, 2147483647))], some (.inl (-1000001, 2147483647)), [(1, 1, 12, 12), (323, 323, 1, 1)], 1, [], [])
theorem btx239 : bchk bzf bIx bmpx bmqx bjn bgm blpx bspx bdgx bldx [bkx1] [] 30000 bkx239 = true := by decide +kernel
theorem bcx239 : bcon bZ bIx bTr bkx239 := bchk_ok bZ_len bzf_ok bTr_ok (List.forall_mem_cons.mpr ⟨bcx1, fun _ q => absurd q List.not_mem_nil⟩) (fun _ q => absurd q List.not_mem_nil) btx239
-- says: 287 steps
def bkx240 : bC := (100, [some (.inr [.index 0]), some (.inl (-2147483648, 2147483647)), some (.inl (-2147483648, 2147483647))], some (.inl (-1000002, 1)), [(33, 33, 0, 3), (69, 69, 0, 59), (152, 152, 0, 2), (314, 314, 1, 1), (315, 315, 0, 3), (318, 318, 1, 1), (319, 319, 0, 11), (320, 320, 1, 1), (321, 321, 0, 11), (323, 323, 1, 2)], 16, [], [])
theorem btx240 : bchk bzf bIx bmpx bmqx bjn bgm blpx bspx bdgx bldx [bkx101, bkx118, bkx50, bkx60, bkx1, bkx100] [] 30000 bkx240 = true := by decide +kernel
theorem bcx240 : bcon bZ bIx bTr bkx240 := bchk_ok bZ_len bzf_ok bTr_ok (List.forall_mem_cons.mpr ⟨bcx101, List.forall_mem_cons.mpr ⟨bcx118, List.forall_mem_cons.mpr ⟨bcx50, List.forall_mem_cons.mpr ⟨bcx60, List.forall_mem_cons.mpr ⟨bcx1, List.forall_mem_cons.mpr ⟨bcx100, fun _ q => absurd q List.not_mem_nil⟩⟩⟩⟩⟩⟩) (fun _ q => absurd q List.not_mem_nil) btx240
-- shout: 166 steps
def bkx241 : bC := (101, [some (.inr [.index 0]), some (.inl (-2147483648, 2147483647)), some (.inl (-2147483648, 2147483647))], some (.inl (-2147483648, 2147483647)), [(9, 9, 1, 1), (10, 10, 0, 9), (11, 11, 1, 1), (12, 12, 0, 9), (13, 13, 1, 1), (14, 14, 0, 9), (15, 15, 1, 2), (17, 33, 0, 11), (69, 69, 0, 59), (323, 323, 1, 1), (323, 323, 4, 4)], 5, [], [])
theorem btx241 : bchk bzf bIx bmpx bmqx bjn bgm blpx bspx bdgx bldx [bkx127, bkx1, bkx0] [] 30000 bkx241 = true := by decide +kernel
theorem bcx241 : bcon bZ bIx bTr bkx241 := bchk_ok bZ_len bzf_ok bTr_ok (List.forall_mem_cons.mpr ⟨bcx127, List.forall_mem_cons.mpr ⟨bcx1, List.forall_mem_cons.mpr ⟨bcx0, fun _ q => absurd q List.not_mem_nil⟩⟩⟩) (fun _ q => absurd q List.not_mem_nil) btx241
-- seconds: 514 steps
def bkx242 : bC := (102, [some (.inr [.index 0]), some (.inl (-2147483648, 2147483647))], some (.inl (-2147483648, 2147483647)), [(1, 1, 11, 11), (9, 9, 1, 1), (10, 10, 0, 9), (11, 11, 1, 1), (12, 12, 0, 9), (13, 13, 1, 1), (14, 14, 0, 9), (15, 15, 1, 2), (17, 33, 0, 11), (69, 69, 0, 59), (323, 323, 1, 1), (323, 323, 3, 3)], 6, [], [])
theorem btx242 : bchk bzf bIx bmpx bmqx bjn bgm blpx bspx bdgx bldx [bkx128, bkx1, bkx80] [] 30000 bkx242 = true := by decide +kernel
theorem bcx242 : bcon bZ bIx bTr bkx242 := bchk_ok bZ_len bzf_ok bTr_ok (List.forall_mem_cons.mpr ⟨bcx128, List.forall_mem_cons.mpr ⟨bcx1, List.forall_mem_cons.mpr ⟨bcx80, fun _ q => absurd q List.not_mem_nil⟩⟩⟩) (fun _ q => absurd q List.not_mem_nil) btx242
-- log: 40 steps
def bkx243 : bC := (103, [some (.inr [.index 0]), some (.inl (-2147483648, 2147483647)), some (.inl (-2147483648, 2147483647))], some (.inl (-2147483648, 2147483647)), [(323, 323, 1, 2)], 2, [], [])
theorem btx243 : bchk bzf bIx bmpx bmqx bjn bgm blpx bspx bdgx bldx [bkx100, bkx129] [] 30000 bkx243 = true := by decide +kernel
theorem bcx243 : bcon bZ bIx bTr bkx243 := bchk_ok bZ_len bzf_ok bTr_ok (List.forall_mem_cons.mpr ⟨bcx100, List.forall_mem_cons.mpr ⟨bcx129, fun _ q => absurd q List.not_mem_nil⟩⟩) (fun _ q => absurd q List.not_mem_nil) btx243
-- bargain: 147 steps
def bkx244 : bC := (104, [some (.inr [.index 0]), some (.inl (-2147483648, 2147483647)), some (.inl (-2147483648, 2147483647)), some (.inl (-2147483648, 2147483647)), some (.inl (-2147483648, 2147483647)), some (.inl (-2147483648, 2147483647))], some (.inl (-1000002, 2147483647)), [(33, 33, 0, 3), (69, 69, 0, 59), (73, 73, 0, 59), (305, 305, 2, 7), (306, 306, 1, 1), (307, 307, 0, 0), (308, 308, 1, 1), (309, 309, 0, 11), (314, 314, 1, 1), (315, 315, 0, 3), (316, 316, 1, 1), (317, 317, 0, 3), (323, 323, 1, 2)], 7, [], [])
theorem btx244 : bchk bzf bIx bmpx bmqx bjn bgm blpx bspx bdgx bldx [bkx143, bkx50, bkx97, bkx1, bkx100] [] 30000 bkx244 = true := by decide +kernel
theorem bcx244 : bcon bZ bIx bTr bkx244 := bchk_ok bZ_len bzf_ok bTr_ok (List.forall_mem_cons.mpr ⟨bcx143, List.forall_mem_cons.mpr ⟨bcx50, List.forall_mem_cons.mpr ⟨bcx97, List.forall_mem_cons.mpr ⟨bcx1, List.forall_mem_cons.mpr ⟨bcx100, fun _ q => absurd q List.not_mem_nil⟩⟩⟩⟩⟩) (fun _ q => absurd q List.not_mem_nil) btx244
-- seed: 10 steps
def bkx245 : bC := (105, [some (.inr [.index 0]), some (.inl (-2147483648, 2147483647))], some (.inl (-2147483648, 2147483647)), [(1, 1, 13, 13)], 0, [], [])
theorem btx245 : bchk bzf bIx bmpx bmqx bjn bgm blpx bspx bdgx bldx [] [] 30000 bkx245 = true := by decide +kernel
theorem bcx245 : bcon bZ bIx bTr bkx245 := bchk_ok bZ_len bzf_ok bTr_ok (fun _ q => absurd q List.not_mem_nil) (fun _ q => absurd q List.not_mem_nil) btx245
-- voice: 88 steps
def bkx246 : bC := (106, [some (.inr [.index 0]), some (.inl (-2147483648, 2147483647)), some (.inl (-2147483648, 2147483647)), some (.inl (-2147483648, 2147483647))], some (.inl (-2147483648, 2147483647)), [(310, 310, 1, 4), (311, 311, 1, 1), (312, 312, 0, 29), (323, 323, 1, 1), (323, 323, 6, 6)], 45, [], [])
theorem btx246 : bchk bzf bIx bmpx bmqx bjn bgm blpx bspx bdgx bldx [bkx187, bkx1, bkx188] [] 30000 bkx246 = true := by decide +kernel
theorem bcx246 : bcon bZ bIx bTr bkx246 := bchk_ok bZ_len bzf_ok bTr_ok (List.forall_mem_cons.mpr ⟨bcx187, List.forall_mem_cons.mpr ⟨bcx1, List.forall_mem_cons.mpr ⟨bcx188, fun _ q => absurd q List.not_mem_nil⟩⟩⟩) (fun _ q => absurd q List.not_mem_nil) btx246
-- body: 23 steps
def bkx247 : bC := (107, [some (.inr [.index 0]), some (.inl (-2147483648, 2147483647))], some (.inl (-1000002, 72)), [(323, 323, 2, 2)], 1, [], [])
theorem btx247 : bchk bzf bIx bmpx bmqx bjn bgm blpx bspx bdgx bldx [bkx100] [] 30000 bkx247 = true := by decide +kernel
theorem bcx247 : bcon bZ bIx bTr bkx247 := bchk_ok bZ_len bzf_ok bTr_ok (List.forall_mem_cons.mpr ⟨bcx100, fun _ q => absurd q List.not_mem_nil⟩) (fun _ q => absurd q List.not_mem_nil) btx247
-- sheet: 168 steps
def bkx248 : bC := (108, [some (.inr [.index 0]), some (.inl (-2147483648, 2147483647)), some (.inl (-2147483648, 2147483647)), some (.inl (-2147483648, 2147483647))], some (.inl (-1000003, 1)), [(323, 323, 1, 1), (323, 323, 3, 3), (324, 324, 1, 2), (325, 325, 0, 23), (326, 326, 1, 2), (327, 327, 0, 23), (328, 328, 1, 2), (329, 329, 0, 23), (330, 330, 1, 2), (331, 331, 0, 23)], 1, [], [])
theorem btx248 : bchk bzf bIx bmpx bmqx bjn bgm blpx bspx bdgx bldx [bkx189, bkx190, bkx191, bkx192, bkx1, bkx80] [] 30000 bkx248 = true := by decide +kernel
theorem bcx248 : bcon bZ bIx bTr bkx248 := bchk_ok bZ_len bzf_ok bTr_ok (List.forall_mem_cons.mpr ⟨bcx189, List.forall_mem_cons.mpr ⟨bcx190, List.forall_mem_cons.mpr ⟨bcx191, List.forall_mem_cons.mpr ⟨bcx192, List.forall_mem_cons.mpr ⟨bcx1, List.forall_mem_cons.mpr ⟨bcx80, fun _ q => absurd q List.not_mem_nil⟩⟩⟩⟩⟩⟩) (fun _ q => absurd q List.not_mem_nil) btx248
-- put: 175 steps
def bkx249 : bC := (109, [some (.inr [.index 0]), some (.inl (-2147483648, 2147483647)), some (.inl (-2147483648, 2147483647)), some (.inl (-2147483648, 2147483647))], some (.inl (-1000002, 1)), [(323, 323, 1, 2), (325, 325, 0, 23), (327, 327, 0, 23), (329, 329, 0, 23), (331, 331, 0, 23)], 1, [], [])
theorem btx249 : bchk bzf bIx bmpx bmqx bjn bgm blpx bspx bdgx bldx [bkx1, bkx100] [] 30000 bkx249 = true := by decide +kernel
theorem bcx249 : bcon bZ bIx bTr bkx249 := bchk_ok bZ_len bzf_ok bTr_ok (List.forall_mem_cons.mpr ⟨bcx1, List.forall_mem_cons.mpr ⟨bcx100, fun _ q => absurd q List.not_mem_nil⟩⟩) (fun _ q => absurd q List.not_mem_nil) btx249
