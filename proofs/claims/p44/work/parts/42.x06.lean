-- ===== contracts
-- sounds: 2119 steps
def bkx251 : bC := (111, [some (.inr [.index 0]), some (.inl (-2147483648, 2147483647)), some (.inl (-2147483648, 2147483647))], some (.inl (-1000002, 12)), [(34, 57, 0, 11), (323, 323, 1, 2)], 1, [], [])
theorem btx251 : bchk bzf bIx bmpx bmqx bjn bgm blpx bspx bdgx bldx [bkx1, bkx100] [] 30000 bkx251 = true := by decide +kernel
theorem bcx251 : bcon bZ bIx bTr bkx251 := bchk_ok bZ_len bzf_ok bTr_ok (List.forall_mem_cons.mpr ⟨bcx1, List.forall_mem_cons.mpr ⟨bcx100, fun _ q => absurd q List.not_mem_nil⟩⟩) (fun _ q => absurd q List.not_mem_nil) btx251
-- image: 14 steps
def bkx252 : bC := (112, [some (.inr [.index 0])], some (.inl (-2147483648, 2147483647)), [(0, 0, 14, 14), (74, 74, 9, 13), (78, 78, 1, 1), (79, 79, 0, 59), (80, 80, 1, 1), (81, 81, 0, 23), (82, 82, 1, 1), (83, 83, 0, 9), (84, 84, 1, 1), (85, 85, 0, 9), (86, 86, 1, 1), (87, 87, 0, 9), (88, 88, 1, 2), (90, 90, 1, 1), (91, 91, 0, 11), (92, 92, 1, 1), (93, 93, 0, 11), (94, 94, 1, 1), (95, 95, 0, 11), (96, 96, 1, 1), (97, 97, 0, 11), (98, 98, 1, 1), (99, 99, 0, 11), (100, 100, 1, 1), (101, 101, 0, 11), (102, 102, 1, 1), (103, 103, 0, 11), (104, 104, 1, 1), (105, 105, 0, 11), (107, 107, 1, 1), (108, 108, 0, 11), (109, 109, 1, 1), (110, 110, 0, 11), (111, 111, 1, 1), (112, 112, 0, 11), (113, 113, 1, 1), (114, 114, 0, 11), (115, 115, 1, 1), (116, 116, 0, 11), (117, 117, 1, 1), (118, 118, 0, 11), (119, 119, 1, 1), (120, 120, 0, 11), (121, 121, 1, 1), (122, 122, 0, 11), (123, 123, 1, 1), (124, 124, 0, 11), (125, 125, 1, 1), (126, 126, 0, 11), (127, 127, 1, 1), (128, 128, 0, 11), (129, 129, 1, 1), (130, 130, 0, 11), (131, 131, 0, 2), (132, 132, 0, 2), (133, 133, 0, 2), (134, 134, 0, 2), (135, 135, 0, 2), (136, 136, 0, 2), (137, 137, 0, 2), (138, 138, 0, 2), (140, 140, 1, 1), (141, 141, 0, 59), (144, 144, 1, 1), (145, 145, 0, 59)], 3, [], [])
theorem btx252 : bchk bzf bIx bmpx bmqx bjn bgm blpx bspx bdgx bldx [bkx202] [] 30000 bkx252 = true := by decide +kernel
theorem bcx252 : bcon bZ bIx bTr bkx252 := bchk_ok bZ_len bzf_ok bTr_ok (List.forall_mem_cons.mpr ⟨bcx202, fun _ q => absurd q List.not_mem_nil⟩) (fun _ q => absurd q List.not_mem_nil) btx252
-- restore: 25 steps
def bkx253 : bC := (113, [some (.inr [.index 0])], some (.inl (-2147483648, 2147483647)), [(1, 1, 9, 13), (5, 5, 1, 1), (6, 6, 0, 59), (7, 7, 1, 1), (8, 8, 0, 23), (9, 9, 1, 1), (10, 10, 0, 9), (11, 11, 1, 1), (12, 12, 0, 9), (13, 13, 1, 1), (14, 14, 0, 9), (15, 15, 1, 2), (17, 32, 0, 11), (34, 57, 0, 11), (58, 58, 0, 2), (59, 59, 0, 2), (60, 60, 0, 2), (61, 61, 0, 2), (62, 62, 0, 2), (63, 63, 0, 2), (64, 64, 0, 2), (65, 65, 0, 2), (67, 67, 1, 1), (68, 68, 0, 59), (71, 71, 1, 1), (72, 72, 0, 59), (323, 323, 2, 2)], 3, [], [])
theorem btx253 : bchk bzf bIx bmpx bmqx bjn bgm blpx bspx bdgx bldx [bkx212, bkx100] [] 30000 bkx253 = true := by decide +kernel
theorem bcx253 : bcon bZ bIx bTr bkx253 := bchk_ok bZ_len bzf_ok bTr_ok (List.forall_mem_cons.mpr ⟨bcx212, List.forall_mem_cons.mpr ⟨bcx100, fun _ q => absurd q List.not_mem_nil⟩⟩) (fun _ q => absurd q List.not_mem_nil) btx253
-- tell: 38 steps
def bkx254 : bC := (114, [some (.inr [.index 0]), some (.inl (-2147483648, 2147483647))], some (.inl (-1000004, 24)), [(7, 7, 1, 1), (8, 8, 0, 23), (323, 323, 4, 4)], 1, [], [])
theorem btx254 : bchk bzf bIx bmpx bmqx bjn bgm blpx bspx bdgx bldx [bkx0] [] 30000 bkx254 = true := by decide +kernel
theorem bcx254 : bcon bZ bIx bTr bkx254 := bchk_ok bZ_len bzf_ok bTr_ok (List.forall_mem_cons.mpr ⟨bcx0, fun _ q => absurd q List.not_mem_nil⟩) (fun _ q => absurd q List.not_mem_nil) btx254
-- check: 80 steps
def bkx255 : bC := (115, [some (.inr [.index 0]), some (.inl (-2147483648, 2147483647)), some (.inl (-2147483648, 2147483647))], some (.inl (-1000001, 13)), [(7, 7, 1, 1), (33, 33, 0, 3), (69, 69, 0, 59), (314, 314, 1, 1), (315, 315, 0, 3), (318, 318, 1, 1), (319, 319, 0, 11), (320, 320, 1, 1), (321, 321, 0, 11), (323, 323, 1, 1)], 5, [], [])
theorem btx255 : bchk bzf bIx bmpx bmqx bjn bgm blpx bspx bdgx bldx [bkx213, bkx50, bkx60, bkx1] [] 30000 bkx255 = true := by decide +kernel
theorem bcx255 : bcon bZ bIx bTr bkx255 := bchk_ok bZ_len bzf_ok bTr_ok (List.forall_mem_cons.mpr ⟨bcx213, List.forall_mem_cons.mpr ⟨bcx50, List.forall_mem_cons.mpr ⟨bcx60, List.forall_mem_cons.mpr ⟨bcx1, fun _ q => absurd q List.not_mem_nil⟩⟩⟩⟩) (fun _ q => absurd q List.not_mem_nil) btx255
-- count: 55 steps
def bkx256 : bC := (116, [some (.inr [.index 0]), some (.inl (-2147483648, 2147483647))], some (.inl (-2147483648, 2147483647)), [(323, 323, 1, 1)], 1, [], [])
theorem btx256 : bchk bzf bIx bmpx bmqx bjn bgm blpx bspx bdgx bldx [bkx1] [] 30000 bkx256 = true := by decide +kernel
theorem bcx256 : bcon bZ bIx bTr bkx256 := bchk_ok bZ_len bzf_ok bTr_ok (List.forall_mem_cons.mpr ⟨bcx1, fun _ q => absurd q List.not_mem_nil⟩) (fun _ q => absurd q List.not_mem_nil) btx256
-- told: 19 steps
def bkx257 : bC := (117, [some (.inr [.index 0]), some (.inl (-2147483648, 2147483647))], some (.inl (-2147483648, 2147483647)), [(323, 323, 1, 1)], 1, [], [])
theorem btx257 : bchk bzf bIx bmpx bmqx bjn bgm blpx bspx bdgx bldx [bkx1] [] 30000 bkx257 = true := by decide +kernel
theorem bcx257 : bcon bZ bIx bTr bkx257 := bchk_ok bZ_len bzf_ok bTr_ok (List.forall_mem_cons.mpr ⟨bcx1, fun _ q => absurd q List.not_mem_nil⟩) (fun _ q => absurd q List.not_mem_nil) btx257
