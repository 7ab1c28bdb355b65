-- ===== contracts
-- firstUnlike: 333 steps
def bkx87 : bC := (40, [some (.inr [.index 157, .index 159, .index 161, .index 163, .index 165, .index 167, .index 169, .index 171, .index 173, .index 175, .index 177, .index 179, .index 181, .index 183, .index 185, .index 187, .index 189, .index 191, .index 193, .index 195, .index 197, .index 199, .index 201, .index 203, .index 205, .index 207, .index 209, .index 211, .index 213, .index 215, .index 217, .index 219, .index 221, .index 223, .index 225, .index 227, .index 229, .index 231, .index 233, .index 235, .index 237, .index 239, .index 241, .index 243, .index 245, .index 247, .index 249, .index 251, .index 253, .index 255, .index 257, .index 259, .index 261, .index 263, .index 265, .index 267, .index 269, .index 271, .index 273, .index 275, .index 277, .index 279, .index 281, .index 283, .index 285, .index 287, .index 289, .index 291, .index 293, .index 295, .index 297, .index 299, .index 301, .index 303]), some (.inr [.index 157, .index 159, .index 161, .index 163, .index 165, .index 167, .index 169, .index 171, .index 173, .index 175, .index 177, .index 179, .index 181, .index 183, .index 185, .index 187, .index 189, .index 191, .index 193, .index 195, .index 197, .index 199, .index 201, .index 203, .index 205, .index 207, .index 209, .index 211, .index 213, .index 215, .index 217, .index 219, .index 221, .index 223, .index 225, .index 227, .index 229, .index 231, .index 233, .index 235, .index 237, .index 239, .index 241, .index 243, .index 245, .index 247, .index 249, .index 251, .index 253, .index 255, .index 257, .index 259, .index 261, .index 263, .index 265, .index 267, .index 269, .index 271, .index 273, .index 275, .index 277, .index 279, .index 281, .index 283, .index 285, .index 287, .index 289, .index 291, .index 293, .index 295, .index 297, .index 299, .index 301, .index 303])], some (.inl (-1, 12)), [], 0, [], [])
theorem btx87 : bchk bzf bIx bmpx bmqx bjn bgm blpx bspx bdgx bldx [] [] 30000 bkx87 = true := by decide +kernel
theorem bcx87 : bcon bZ bIx bTr bkx87 := bchk_ok bZ_len bzf_ok bTr_ok (fun _ q => absurd q List.not_mem_nil) (fun _ q => absurd q List.not_mem_nil) btx87
-- isLike: 9 steps
def bkx88 : bC := (41, [some (.inr [.index 157, .index 159, .index 161, .index 163, .index 165, .index 167, .index 169, .index 171, .index 173, .index 175, .index 177, .index 179, .index 181, .index 183, .index 185, .index 187, .index 189, .index 191, .index 193, .index 195, .index 197, .index 199, .index 201, .index 203, .index 205, .index 207, .index 209, .index 211, .index 213, .index 215, .index 217, .index 219, .index 221, .index 223, .index 225, .index 227, .index 229, .index 231, .index 233, .index 235, .index 237, .index 239, .index 241, .index 243, .index 245, .index 247, .index 249, .index 251, .index 253, .index 255, .index 257, .index 259, .index 261, .index 263, .index 265, .index 267, .index 269, .index 271, .index 273, .index 275, .index 277, .index 279, .index 281, .index 283, .index 285, .index 287, .index 289, .index 291, .index 293, .index 295, .index 297, .index 299, .index 301, .index 303]), some (.inr [.index 157, .index 159, .index 161, .index 163, .index 165, .index 167, .index 169, .index 171, .index 173, .index 175, .index 177, .index 179, .index 181, .index 183, .index 185, .index 187, .index 189, .index 191, .index 193, .index 195, .index 197, .index 199, .index 201, .index 203, .index 205, .index 207, .index 209, .index 211, .index 213, .index 215, .index 217, .index 219, .index 221, .index 223, .index 225, .index 227, .index 229, .index 231, .index 233, .index 235, .index 237, .index 239, .index 241, .index 243, .index 245, .index 247, .index 249, .index 251, .index 253, .index 255, .index 257, .index 259, .index 261, .index 263, .index 265, .index 267, .index 269, .index 271, .index 273, .index 275, .index 277, .index 279, .index 281, .index 283, .index 285, .index 287, .index 289, .index 291, .index 293, .index 295, .index 297, .index 299, .index 301, .index 303])], some (.inl (0, 1)), [], 1, [], [])
theorem btx88 : bchk bzf bIx bmpx bmqx bjn bgm blpx bspx bdgx bldx [bkx87] [] 30000 bkx88 = true := by decide +kernel
theorem bcx88 : bcon bZ bIx bTr bkx88 := bchk_ok bZ_len bzf_ok bTr_ok (List.forall_mem_cons.mpr ⟨bcx87, fun _ q => absurd q List.not_mem_nil⟩) (fun _ q => absurd q List.not_mem_nil) btx88
-- addIfUnlike: 1348 steps
def bkx89 : bC := (18, [some (.inr [.index 155]), some (.inr [.index 157, .index 159, .index 161, .index 163, .index 165, .index 167, .index 169, .index 171, .index 173, .index 175, .index 177, .index 179, .index 181, .index 183, .index 185, .index 187, .index 189, .index 191, .index 193, .index 195, .index 197, .index 199, .index 201, .index 203, .index 205, .index 207, .index 209, .index 211, .index 213, .index 215, .index 217, .index 219, .index 221, .index 223, .index 225, .index 227, .index 229, .index 231, .index 233, .index 235, .index 237, .index 239, .index 241, .index 243, .index 245, .index 247, .index 249, .index 251, .index 253, .index 255, .index 257, .index 259, .index 261, .index 263, .index 265, .index 267, .index 269, .index 271, .index 273, .index 275, .index 277, .index 279, .index 281, .index 283, .index 285, .index 287, .index 289, .index 291, .index 293, .index 295, .index 297, .index 299, .index 301, .index 303])], none, [(155, 155, 2, 2), (159, 304, 0, 11)], 2, [], [])
theorem btx89 : bchk bzf bIx bmpx bmqx bjn bgm blpx bspx bdgx bldx [bkx88] [] 30000 bkx89 = true := by decide +kernel
theorem bcx89 : bcon bZ bIx bTr bkx89 := bchk_ok bZ_len bzf_ok bTr_ok (List.forall_mem_cons.mpr ⟨bcx88, fun _ q => absurd q List.not_mem_nil⟩) (fun _ q => absurd q List.not_mem_nil) btx89
-- addUndone: 543 steps
def bkx90 : bC := (17, [some (.inr [.index 155]), some (.inr [.index 1]), some (.inr [.index 157, .index 159, .index 161, .index 163, .index 165, .index 167, .index 169, .index 171, .index 173, .index 175, .index 177, .index 179, .index 181, .index 183, .index 185, .index 187, .index 189, .index 191, .index 193, .index 195, .index 197, .index 199, .index 201, .index 203, .index 205, .index 207, .index 209, .index 211, .index 213, .index 215, .index 217, .index 219, .index 221, .index 223, .index 225, .index 227, .index 229, .index 231, .index 233, .index 235, .index 237, .index 239, .index 241, .index 243, .index 245, .index 247, .index 249, .index 251, .index 253, .index 255, .index 257, .index 259, .index 261, .index 263, .index 265, .index 267, .index 269, .index 271, .index 273, .index 275, .index 277, .index 279, .index 281, .index 283, .index 285, .index 287, .index 289, .index 291, .index 293, .index 295, .index 297, .index 299, .index 301, .index 303])], none, [(33, 33, 0, 3), (69, 69, 0, 59), (155, 155, 2, 2), (157, 304, 0, 11)], 4, [], [])
theorem btx90 : bchk bzf bIx bmpx bmqx bjn bgm blpx bspx bdgx bldx [bkx89, bkx86] [] 30000 bkx90 = true := by decide +kernel
theorem bcx90 : bcon bZ bIx bTr bkx90 := bchk_ok bZ_len bzf_ok bTr_ok (List.forall_mem_cons.mpr ⟨bcx89, List.forall_mem_cons.mpr ⟨bcx86, fun _ q => absurd q List.not_mem_nil⟩⟩) (fun _ q => absurd q List.not_mem_nil) btx90
-- readWay: 830 steps
def bkx91 : bC := (65, [some (.inr [.index 1]), some (.inl (-2147483648, 2147483647)), some (.inr [.index 316])], some (.inl (0, 1)), [(316, 316, 1, 1), (317, 317, 0, 3)], 1, [], [])
theorem btx91 : bchk bzf bIx bmpx bmqx bjn bgm blpx bspx bdgx bldx [] [] 30000 bkx91 = true := by decide +kernel
theorem bcx91 : bcon bZ bIx bTr bkx91 := bchk_ok bZ_len bzf_ok bTr_ok (fun _ q => absurd q List.not_mem_nil) (fun _ q => absurd q List.not_mem_nil) btx91
-- hear: 92 steps
def bkx92 : bC := (68, [some (.inr [.index 1]), some (.inr [.index 34, .index 36, .index 38, .index 40, .index 42, .index 44, .index 46, .index 48, .index 50, .index 52, .index 54, .index 56]), some (.inr [.index 316]), some (.inr [.index 320])], none, [(33, 33, 0, 3), (69, 69, 0, 59), (318, 318, 1, 1), (319, 319, 0, 11), (320, 320, 1, 1), (321, 321, 0, 11)], 4, [], [])
theorem btx92 : bchk bzf bIx bmpx bmqx bjn bgm blpx bspx bdgx bldx [bkx57] [] 30000 bkx92 = true := by decide +kernel
theorem bcx92 : bcon bZ bIx bTr bkx92 := bchk_ok bZ_len bzf_ok bTr_ok (List.forall_mem_cons.mpr ⟨bcx57, fun _ q => absurd q List.not_mem_nil⟩) (fun _ q => absurd q List.not_mem_nil) btx92
-- firstUnlike: 333 steps
def bkx93 : bC := (40, [some (.inr [.index 318, .index 320]), some (.inr [.index 318, .index 320])], some (.inl (-1, 12)), [], 0, [], [])
theorem btx93 : bchk bzf bIx bmpx bmqx bjn bgm blpx bspx bdgx bldx [] [] 30000 bkx93 = true := by decide +kernel
theorem bcx93 : bcon bZ bIx bTr bkx93 := bchk_ok bZ_len bzf_ok bTr_ok (fun _ q => absurd q List.not_mem_nil) (fun _ q => absurd q List.not_mem_nil) btx93
-- error: 12 steps
def bkx94 : bC := (118, [some (.inr [.index 0]), some (.inl (2, 2))], some (.inl (-1000002, -1000002)), [(323, 323, 2, 2)], 0, [], [])
theorem btx94 : bchk bzf bIx bmpx bmqx bjn bgm blpx bspx bdgx bldx [] [] 30000 bkx94 = true := by decide +kernel
theorem bcx94 : bcon bZ bIx bTr bkx94 := bchk_ok bZ_len bzf_ok bTr_ok (fun _ q => absurd q List.not_mem_nil) (fun _ q => absurd q List.not_mem_nil) btx94
-- next: 23 steps
def bkx95 : bC := (7, [some (.inr [.index 152])], some (.inl (-2147483648, 2147483647)), [(152, 152, 2, 2)], 0, [], [])
theorem btx95 : bchk bzf bIx bmpx bmqx bjn bgm blpx bspx bdgx bldx [] [] 30000 bkx95 = true := by decide +kernel
theorem bcx95 : bcon bZ bIx bTr bkx95 := bchk_ok bZ_len bzf_ok bTr_ok (fun _ q => absurd q List.not_mem_nil) (fun _ q => absurd q List.not_mem_nil) btx95
-- sumBehind: 477 steps
def bkx96 : bC := (9, [some (.inr [.index 152])], some (.inl (-2147483648, 2147483647)), [(152, 152, 2, 2)], 1, [], [])
theorem btx96 : bchk bzf bIx bmpx bmqx bjn bgm blpx bspx bdgx bldx [bkx95] [] 30000 bkx96 = true := by decide +kernel
theorem bcx96 : bcon bZ bIx bTr bkx96 := bchk_ok bZ_len bzf_ok bTr_ok (List.forall_mem_cons.mpr ⟨bcx95, fun _ q => absurd q List.not_mem_nil⟩) (fun _ q => absurd q List.not_mem_nil) btx96
-- isWordSo: 39 steps
def bkx97 : bC := (10, [some (.inr [.index 152]), some (.inl (-2147483648, 59))], some (.inl (0, 1)), [], 0, [], [])
theorem btx97 : bchk bzf bIx bmpx bmqx bjn bgm blpx bspx bdgx bldx [] [] 30000 bkx97 = true := by decide +kernel
theorem bcx97 : bcon bZ bIx bTr bkx97 := bchk_ok bZ_len bzf_ok bTr_ok (fun _ q => absurd q List.not_mem_nil) (fun _ q => absurd q List.not_mem_nil) btx97
-- isTermSo: 5 steps
def bkx98 : bC := (8, [some (.inr [.index 152]), some (.inl (13, 13))], some (.inl (0, 0)), [], 0, [], [])
theorem btx98 : bchk bzf bIx bmpx bmqx bjn bgm blpx bspx bdgx bldx [] [] 30000 bkx98 = true := by decide +kernel
theorem bcx98 : bcon bZ bIx bTr bkx98 := bchk_ok bZ_len bzf_ok bTr_ok (fun _ q => absurd q List.not_mem_nil) (fun _ q => absurd q List.not_mem_nil) btx98
-- isWordSo: 5 steps
def bkx99 : bC := (10, [some (.inr [.index 152]), some (.inl (40, 2147483647))], some (.inl (1, 1)), [], 0, [], [])
theorem btx99 : bchk bzf bIx bmpx bmqx bjn bgm blpx bspx bdgx bldx [] [] 30000 bkx99 = true := by decide +kernel
theorem bcx99 : bcon bZ bIx bTr bkx99 := bchk_ok bZ_len bzf_ok bTr_ok (fun _ q => absurd q List.not_mem_nil) (fun _ q => absurd q List.not_mem_nil) btx99
-- isTermSo: 66 steps
def bkx100 : bC := (8, [some (.inr [.index 152]), some (.inl (12, 12))], some (.inl (0, 1)), [(152, 152, 2, 2)], 2, [], [])
theorem btx100 : bchk bzf bIx bmpx bmqx bjn bgm blpx bspx bdgx bldx [bkx95, bkx98, bkx96, bkx97, bkx99] [] 30000 bkx100 = true := by decide +kernel
theorem bcx100 : bcon bZ bIx bTr bkx100 := bchk_ok bZ_len bzf_ok bTr_ok (List.forall_mem_cons.mpr ⟨bcx95, List.forall_mem_cons.mpr ⟨bcx98, List.forall_mem_cons.mpr ⟨bcx96, List.forall_mem_cons.mpr ⟨bcx97, List.forall_mem_cons.mpr ⟨bcx99, fun _ q => absurd q List.not_mem_nil⟩⟩⟩⟩⟩) (fun _ q => absurd q List.not_mem_nil) btx100
-- isTermSo: 74 steps
def bkx101 : bC := (8, [some (.inr [.index 152]), some (.inl (11, 11))], some (.inl (0, 1)), [(152, 152, 2, 2)], 3, [], [])
theorem btx101 : bchk bzf bIx bmpx bmqx bjn bgm blpx bspx bdgx bldx [bkx95, bkx100, bkx96, bkx97, bkx99] [] 30000 bkx101 = true := by decide +kernel
theorem bcx101 : bcon bZ bIx bTr bkx101 := bchk_ok bZ_len bzf_ok bTr_ok (List.forall_mem_cons.mpr ⟨bcx95, List.forall_mem_cons.mpr ⟨bcx100, List.forall_mem_cons.mpr ⟨bcx96, List.forall_mem_cons.mpr ⟨bcx97, List.forall_mem_cons.mpr ⟨bcx99, fun _ q => absurd q List.not_mem_nil⟩⟩⟩⟩⟩) (fun _ q => absurd q List.not_mem_nil) btx101
-- isTermSo: 74 steps
def bkx102 : bC := (8, [some (.inr [.index 152]), some (.inl (10, 10))], some (.inl (0, 1)), [(152, 152, 2, 2)], 4, [], [])
theorem btx102 : bchk bzf bIx bmpx bmqx bjn bgm blpx bspx bdgx bldx [bkx95, bkx101, bkx96, bkx97, bkx99] [] 30000 bkx102 = true := by decide +kernel
theorem bcx102 : bcon bZ bIx bTr bkx102 := bchk_ok bZ_len bzf_ok bTr_ok (List.forall_mem_cons.mpr ⟨bcx95, List.forall_mem_cons.mpr ⟨bcx101, List.forall_mem_cons.mpr ⟨bcx96, List.forall_mem_cons.mpr ⟨bcx97, List.forall_mem_cons.mpr ⟨bcx99, fun _ q => absurd q List.not_mem_nil⟩⟩⟩⟩⟩) (fun _ q => absurd q List.not_mem_nil) btx102
-- isTermSo: 74 steps
def bkx103 : bC := (8, [some (.inr [.index 152]), some (.inl (9, 9))], some (.inl (0, 1)), [(152, 152, 2, 2)], 5, [], [])
theorem btx103 : bchk bzf bIx bmpx bmqx bjn bgm blpx bspx bdgx bldx [bkx95, bkx102, bkx96, bkx97, bkx99] [] 30000 bkx103 = true := by decide +kernel
theorem bcx103 : bcon bZ bIx bTr bkx103 := bchk_ok bZ_len bzf_ok bTr_ok (List.forall_mem_cons.mpr ⟨bcx95, List.forall_mem_cons.mpr ⟨bcx102, List.forall_mem_cons.mpr ⟨bcx96, List.forall_mem_cons.mpr ⟨bcx97, List.forall_mem_cons.mpr ⟨bcx99, fun _ q => absurd q List.not_mem_nil⟩⟩⟩⟩⟩) (fun _ q => absurd q List.not_mem_nil) btx103
-- isTermSo: 74 steps
def bkx104 : bC := (8, [some (.inr [.index 152]), some (.inl (8, 8))], some (.inl (0, 1)), [(152, 152, 2, 2)], 6, [], [])
theorem btx104 : bchk bzf bIx bmpx bmqx bjn bgm blpx bspx bdgx bldx [bkx95, bkx103, bkx96, bkx97, bkx99] [] 30000 bkx104 = true := by decide +kernel
theorem bcx104 : bcon bZ bIx bTr bkx104 := bchk_ok bZ_len bzf_ok bTr_ok (List.forall_mem_cons.mpr ⟨bcx95, List.forall_mem_cons.mpr ⟨bcx103, List.forall_mem_cons.mpr ⟨bcx96, List.forall_mem_cons.mpr ⟨bcx97, List.forall_mem_cons.mpr ⟨bcx99, fun _ q => absurd q List.not_mem_nil⟩⟩⟩⟩⟩) (fun _ q => absurd q List.not_mem_nil) btx104
-- isTermSo: 74 steps
def bkx105 : bC := (8, [some (.inr [.index 152]), some (.inl (7, 7))], some (.inl (0, 1)), [(152, 152, 2, 2)], 7, [], [])
theorem btx105 : bchk bzf bIx bmpx bmqx bjn bgm blpx bspx bdgx bldx [bkx95, bkx104, bkx96, bkx97, bkx99] [] 30000 bkx105 = true := by decide +kernel
theorem bcx105 : bcon bZ bIx bTr bkx105 := bchk_ok bZ_len bzf_ok bTr_ok (List.forall_mem_cons.mpr ⟨bcx95, List.forall_mem_cons.mpr ⟨bcx104, List.forall_mem_cons.mpr ⟨bcx96, List.forall_mem_cons.mpr ⟨bcx97, List.forall_mem_cons.mpr ⟨bcx99, fun _ q => absurd q List.not_mem_nil⟩⟩⟩⟩⟩) (fun _ q => absurd q List.not_mem_nil) btx105
-- isTermSo: 74 steps
def bkx106 : bC := (8, [some (.inr [.index 152]), some (.inl (6, 6))], some (.inl (0, 1)), [(152, 152, 2, 2)], 8, [], [])
theorem btx106 : bchk bzf bIx bmpx bmqx bjn bgm blpx bspx bdgx bldx [bkx95, bkx105, bkx96, bkx97, bkx99] [] 30000 bkx106 = true := by decide +kernel
theorem bcx106 : bcon bZ bIx bTr bkx106 := bchk_ok bZ_len bzf_ok bTr_ok (List.forall_mem_cons.mpr ⟨bcx95, List.forall_mem_cons.mpr ⟨bcx105, List.forall_mem_cons.mpr ⟨bcx96, List.forall_mem_cons.mpr ⟨bcx97, List.forall_mem_cons.mpr ⟨bcx99, fun _ q => absurd q List.not_mem_nil⟩⟩⟩⟩⟩) (fun _ q => absurd q List.not_mem_nil) btx106
-- isTermSo: 74 steps
def bkx107 : bC := (8, [some (.inr [.index 152]), some (.inl (5, 5))], some (.inl (0, 1)), [(152, 152, 2, 2)], 9, [], [])
theorem btx107 : bchk bzf bIx bmpx bmqx bjn bgm blpx bspx bdgx bldx [bkx95, bkx106, bkx96, bkx97, bkx99] [] 30000 bkx107 = true := by decide +kernel
theorem bcx107 : bcon bZ bIx bTr bkx107 := bchk_ok bZ_len bzf_ok bTr_ok (List.forall_mem_cons.mpr ⟨bcx95, List.forall_mem_cons.mpr ⟨bcx106, List.forall_mem_cons.mpr ⟨bcx96, List.forall_mem_cons.mpr ⟨bcx97, List.forall_mem_cons.mpr ⟨bcx99, fun _ q => absurd q List.not_mem_nil⟩⟩⟩⟩⟩) (fun _ q => absurd q List.not_mem_nil) btx107
-- isTermSo: 74 steps
def bkx108 : bC := (8, [some (.inr [.index 152]), some (.inl (4, 4))], some (.inl (0, 1)), [(152, 152, 2, 2)], 10, [], [])
theorem btx108 : bchk bzf bIx bmpx bmqx bjn bgm blpx bspx bdgx bldx [bkx95, bkx107, bkx96, bkx97, bkx99] [] 30000 bkx108 = true := by decide +kernel
theorem bcx108 : bcon bZ bIx bTr bkx108 := bchk_ok bZ_len bzf_ok bTr_ok (List.forall_mem_cons.mpr ⟨bcx95, List.forall_mem_cons.mpr ⟨bcx107, List.forall_mem_cons.mpr ⟨bcx96, List.forall_mem_cons.mpr ⟨bcx97, List.forall_mem_cons.mpr ⟨bcx99, fun _ q => absurd q List.not_mem_nil⟩⟩⟩⟩⟩) (fun _ q => absurd q List.not_mem_nil) btx108
-- isTermSo: 74 steps
def bkx109 : bC := (8, [some (.inr [.index 152]), some (.inl (3, 3))], some (.inl (0, 1)), [(152, 152, 2, 2)], 11, [], [])
theorem btx109 : bchk bzf bIx bmpx bmqx bjn bgm blpx bspx bdgx bldx [bkx95, bkx108, bkx96, bkx97, bkx99] [] 30000 bkx109 = true := by decide +kernel
theorem bcx109 : bcon bZ bIx bTr bkx109 := bchk_ok bZ_len bzf_ok bTr_ok (List.forall_mem_cons.mpr ⟨bcx95, List.forall_mem_cons.mpr ⟨bcx108, List.forall_mem_cons.mpr ⟨bcx96, List.forall_mem_cons.mpr ⟨bcx97, List.forall_mem_cons.mpr ⟨bcx99, fun _ q => absurd q List.not_mem_nil⟩⟩⟩⟩⟩) (fun _ q => absurd q List.not_mem_nil) btx109
-- isTermSo: 74 steps
def bkx110 : bC := (8, [some (.inr [.index 152]), some (.inl (2, 2))], some (.inl (0, 1)), [(152, 152, 2, 2)], 12, [], [])
theorem btx110 : bchk bzf bIx bmpx bmqx bjn bgm blpx bspx bdgx bldx [bkx95, bkx109, bkx96, bkx97, bkx99] [] 30000 bkx110 = true := by decide +kernel
theorem bcx110 : bcon bZ bIx bTr bkx110 := bchk_ok bZ_len bzf_ok bTr_ok (List.forall_mem_cons.mpr ⟨bcx95, List.forall_mem_cons.mpr ⟨bcx109, List.forall_mem_cons.mpr ⟨bcx96, List.forall_mem_cons.mpr ⟨bcx97, List.forall_mem_cons.mpr ⟨bcx99, fun _ q => absurd q List.not_mem_nil⟩⟩⟩⟩⟩) (fun _ q => absurd q List.not_mem_nil) btx110
-- isTermSo: 74 steps
def bkx111 : bC := (8, [some (.inr [.index 152]), some (.inl (1, 1))], some (.inl (0, 1)), [(152, 152, 2, 2)], 13, [], [])
theorem btx111 : bchk bzf bIx bmpx bmqx bjn bgm blpx bspx bdgx bldx [bkx95, bkx110, bkx96, bkx97, bkx99] [] 30000 bkx111 = true := by decide +kernel
theorem bcx111 : bcon bZ bIx bTr bkx111 := bchk_ok bZ_len bzf_ok bTr_ok (List.forall_mem_cons.mpr ⟨bcx95, List.forall_mem_cons.mpr ⟨bcx110, List.forall_mem_cons.mpr ⟨bcx96, List.forall_mem_cons.mpr ⟨bcx97, List.forall_mem_cons.mpr ⟨bcx99, fun _ q => absurd q List.not_mem_nil⟩⟩⟩⟩⟩) (fun _ q => absurd q List.not_mem_nil) btx111
-- isTermSo: 74 steps
def bkx112 : bC := (8, [some (.inr [.index 152]), some (.inl (0, 0))], some (.inl (0, 1)), [(152, 152, 2, 2)], 14, [], [])
theorem btx112 : bchk bzf bIx bmpx bmqx bjn bgm blpx bspx bdgx bldx [bkx95, bkx111, bkx96, bkx97, bkx99] [] 30000 bkx112 = true := by decide +kernel
theorem bcx112 : bcon bZ bIx bTr bkx112 := bchk_ok bZ_len bzf_ok bTr_ok (List.forall_mem_cons.mpr ⟨bcx95, List.forall_mem_cons.mpr ⟨bcx111, List.forall_mem_cons.mpr ⟨bcx96, List.forall_mem_cons.mpr ⟨bcx97, List.forall_mem_cons.mpr ⟨bcx99, fun _ q => absurd q List.not_mem_nil⟩⟩⟩⟩⟩) (fun _ q => absurd q List.not_mem_nil) btx112
-- sayNay: 523 steps
def bkx113 : bC := (43, [some (.inr [.index 17, .index 19, .index 21, .index 23, .index 25, .index 27, .index 29, .index 31]), some (.inl (0, 0))], none, [(18, 18, 0, 11), (20, 20, 0, 11), (22, 22, 0, 11), (24, 24, 0, 11), (26, 26, 0, 11), (28, 28, 0, 11), (30, 30, 0, 11), (32, 32, 0, 11)], 1, [], [])
theorem btx113 : bchk bzf bIx bmpx bmqx bjn bgm blpx bspx bdgx bldx [bkx3] [] 30000 bkx113 = true := by decide +kernel
theorem bcx113 : bcon bZ bIx bTr bkx113 := bchk_ok bZ_len bzf_ok bTr_ok (List.forall_mem_cons.mpr ⟨bcx3, fun _ q => absurd q List.not_mem_nil⟩) (fun _ q => absurd q List.not_mem_nil) btx113
-- sayNay: 517 steps
def bkx114 : bC := (43, [some (.inr [.index 17, .index 19, .index 21, .index 23, .index 25, .index 27, .index 29, .index 31]), some (.inl (1, 1))], none, [(18, 18, 1, 11), (20, 20, 1, 11), (22, 22, 1, 11), (24, 24, 1, 11), (26, 26, 1, 11), (28, 28, 1, 11), (30, 30, 1, 11), (32, 32, 1, 11)], 1, [], [])
theorem btx114 : bchk bzf bIx bmpx bmqx bjn bgm blpx bspx bdgx bldx [bkx3] [] 30000 bkx114 = true := by decide +kernel
theorem bcx114 : bcon bZ bIx bTr bkx114 := bchk_ok bZ_len bzf_ok bTr_ok (List.forall_mem_cons.mpr ⟨bcx3, fun _ q => absurd q List.not_mem_nil⟩) (fun _ q => absurd q List.not_mem_nil) btx114
-- turnNumbers: 415 steps
def bkx115 : bC := (44, [some (.inr [.index 17, .index 19, .index 21, .index 23, .index 25, .index 27, .index 29, .index 31])], none, [(18, 18, 0, 11), (20, 20, 0, 11), (22, 22, 0, 11), (24, 24, 0, 11), (26, 26, 0, 11), (28, 28, 0, 11), (30, 30, 0, 11), (32, 32, 0, 11)], 1, [], [])
theorem btx115 : bchk bzf bIx bmpx bmqx bjn bgm blpx bspx bdgx bldx [bkx3] [] 30000 bkx115 = true := by decide +kernel
theorem bcx115 : bcon bZ bIx bTr bkx115 := bchk_ok bZ_len bzf_ok bTr_ok (List.forall_mem_cons.mpr ⟨bcx3, fun _ q => absurd q List.not_mem_nil⟩) (fun _ q => absurd q List.not_mem_nil) btx115
-- turnRound: 155 steps
def bkx116 : bC := (45, [some (.inr [.index 17, .index 19, .index 21, .index 23, .index 25, .index 27, .index 29, .index 31])], none, [(18, 18, 0, 11), (20, 20, 0, 11), (22, 22, 0, 11), (24, 24, 0, 11), (26, 26, 0, 11), (28, 28, 0, 11), (30, 30, 0, 11), (32, 32, 0, 11)], 0, [], [])
theorem btx116 : bchk bzf bIx bmpx bmqx bjn bgm blpx bspx bdgx bldx [] [] 30000 bkx116 = true := by decide +kernel
theorem bcx116 : bcon bZ bIx bTr bkx116 := bchk_ok bZ_len bzf_ok bTr_ok (fun _ q => absurd q List.not_mem_nil) (fun _ q => absurd q List.not_mem_nil) btx116
-- leaveOutEach: 266 steps
def bkx117 : bC := (46, [some (.inr [.index 17, .index 19, .index 21, .index 23, .index 25, .index 27, .index 29, .index 31]), some (.inl (0, 32))], none, [(17, 32, 0, 11)], 0, [], [])
theorem btx117 : bchk bzf bIx bmpx bmqx bjn bgm blpx bspx bdgx bldx [] [] 30000 bkx117 = true := by decide +kernel
theorem bcx117 : bcon bZ bIx bTr bkx117 := bchk_ok bZ_len bzf_ok bTr_ok (fun _ q => absurd q List.not_mem_nil) (fun _ q => absurd q List.not_mem_nil) btx117
