-- ===== contracts
-- error: 12 steps
def bkx0 : bC := (118, [some (.inr [.index 0]), some (.inl (4, 4))], some (.inl (-1000004, -1000004)), [(323, 323)], 0, [], [])
theorem btx0 : bchk bzf bIx bmpx bmqx bjn bgm blpx bspx bdgx bldx [] 30000 bkx0 = true := by decide +kernel
theorem bcx0 : bcon bZ bIx bkx0 := bchk_ok bZ_len bzf_ok (fun _ q => absurd q List.not_mem_nil) btx0
-- error: 12 steps
def bkx1 : bC := (118, [some (.inr [.index 0]), some (.inl (1, 1))], some (.inl (-1000001, -1000001)), [(323, 323)], 0, [], [])
theorem btx1 : bchk bzf bIx bmpx bmqx bjn bgm blpx bspx bdgx bldx [] 30000 bkx1 = true := by decide +kernel
theorem bcx1 : bcon bZ bIx bkx1 := bchk_ok bZ_len bzf_ok (fun _ q => absurd q List.not_mem_nil) btx1
-- soundOrSize: 29 steps
def bkx2 : bC := (119, [some (.inr [.index 0]), some (.inr [.index 34, .index 36, .index 38, .index 40, .index 42, .index 44, .index 46, .index 48, .index 50, .index 52, .index 54, .index 56]), some (.inl (-2147483648, 2147483647))], some (.inl (-2147483648, 2147483647)), [(323, 323)], 1, [], [])
theorem btx2 : bchk bzf bIx bmpx bmqx bjn bgm blpx bspx bdgx bldx [bkx1] 30000 bkx2 = true := by decide +kernel
theorem bcx2 : bcon bZ bIx bkx2 := bchk_ok bZ_len bzf_ok (List.forall_mem_cons.mpr ⟨bcx1, fun _ q => absurd q List.not_mem_nil⟩) btx2
-- contraryOf: 34 steps
def bkx3 : bC := (133, [some (.inl (-2147483648, 2147483647))], some (.inl (-2147483648, 2147483647)), [], 0, [], [])
theorem btx3 : bchk bzf bIx bmpx bmqx bjn bgm blpx bspx bdgx bldx [] 30000 bkx3 = true := by decide +kernel
theorem bcx3 : bcon bZ bIx bkx3 := bchk_ok bZ_len bzf_ok (fun _ q => absurd q List.not_mem_nil) btx3
-- unsafeSounds: 214 steps
def bkx4 : bC := (42, [some (.inr [.index 34, .index 36, .index 38, .index 40, .index 42, .index 44, .index 46, .index 48, .index 50, .index 52, .index 54, .index 56])], some (.inl (0, 12)), [], 1, [], [])
theorem btx4 : bchk bzf bIx bmpx bmqx bjn bgm blpx bspx bdgx bldx [bkx3] 30000 bkx4 = true := by decide +kernel
theorem bcx4 : bcon bZ bIx bkx4 := bchk_ok bZ_len bzf_ok (List.forall_mem_cons.mpr ⟨bcx3, fun _ q => absurd q List.not_mem_nil⟩) btx4
-- readWay: 830 steps
def bkx5 : bC := (65, [some (.inr [.index 1]), some (.inl (-2147483648, 2147483647)), some (.inr [.index 314])], some (.inl (0, 1)), [(314, 315)], 1, [], [])
theorem btx5 : bchk bzf bIx bmpx bmqx bjn bgm blpx bspx bdgx bldx [] 30000 bkx5 = true := by decide +kernel
theorem bcx5 : bcon bZ bIx bkx5 := bchk_ok bZ_len bzf_ok (fun _ q => absurd q List.not_mem_nil) btx5
-- sayNay: 523 steps
def bkx6 : bC := (43, [some (.inr [.index 318, .index 320]), some (.inl (0, 0))], none, [(319, 319), (321, 321)], 1, [], [])
theorem btx6 : bchk bzf bIx bmpx bmqx bjn bgm blpx bspx bdgx bldx [bkx3] 30000 bkx6 = true := by decide +kernel
theorem bcx6 : bcon bZ bIx bkx6 := bchk_ok bZ_len bzf_ok (List.forall_mem_cons.mpr ⟨bcx3, fun _ q => absurd q List.not_mem_nil⟩) btx6
-- sayNay: 517 steps
def bkx7 : bC := (43, [some (.inr [.index 318, .index 320]), some (.inl (1, 1))], none, [(319, 319), (321, 321)], 1, [], [])
theorem btx7 : bchk bzf bIx bmpx bmqx bjn bgm blpx bspx bdgx bldx [bkx3] 30000 bkx7 = true := by decide +kernel
theorem bcx7 : bcon bZ bIx bkx7 := bchk_ok bZ_len bzf_ok (List.forall_mem_cons.mpr ⟨bcx3, fun _ q => absurd q List.not_mem_nil⟩) btx7
-- turnNumbers: 415 steps
def bkx8 : bC := (44, [some (.inr [.index 318, .index 320])], none, [(319, 319), (321, 321)], 1, [], [])
theorem btx8 : bchk bzf bIx bmpx bmqx bjn bgm blpx bspx bdgx bldx [bkx3] 30000 bkx8 = true := by decide +kernel
theorem bcx8 : bcon bZ bIx bkx8 := bchk_ok bZ_len bzf_ok (List.forall_mem_cons.mpr ⟨bcx3, fun _ q => absurd q List.not_mem_nil⟩) btx8
-- turnRound: 155 steps
def bkx9 : bC := (45, [some (.inr [.index 318, .index 320])], none, [(319, 319), (321, 321)], 0, [], [])
theorem btx9 : bchk bzf bIx bmpx bmqx bjn bgm blpx bspx bdgx bldx [] 30000 bkx9 = true := by decide +kernel
theorem bcx9 : bcon bZ bIx bkx9 := bchk_ok bZ_len bzf_ok (fun _ q => absurd q List.not_mem_nil) btx9
-- leaveOutEach: 266 steps
def bkx10 : bC := (46, [some (.inr [.index 318, .index 320]), some (.inl (0, 32))], none, [(318, 321)], 0, [], [])
theorem btx10 : bchk bzf bIx bmpx bmqx bjn bgm blpx bspx bdgx bldx [] 30000 bkx10 = true := by decide +kernel
theorem bcx10 : bcon bZ bIx bkx10 := bchk_ok bZ_len bzf_ok (fun _ q => absurd q List.not_mem_nil) btx10
-- turnByText: 15 steps
def bkx11 : bC := (67, [some (.inr [.index 1]), some (.inr [.index 318, .index 320]), some (.inl (0, 20))], none, [], 1, [], [])
theorem btx11 : bchk bzf bIx bmpx bmqx bjn bgm blpx bspx bdgx bldx [] 30000 bkx11 = true := by decide +kernel
theorem bcx11 : bcon bZ bIx bkx11 := bchk_ok bZ_len bzf_ok (fun _ q => absurd q List.not_mem_nil) btx11
-- sendBack: 36 steps
def bkx12 : bC := (66, [some (.inr [.index 1]), some (.inr [.index 58, .index 59, .index 60, .index 61, .index 62, .index 63, .index 64, .index 65]), some (.inr [.index 318, .index 320])], none, [(318, 321)], 2, [], [])
theorem btx12 : bchk bzf bIx bmpx bmqx bjn bgm blpx bspx bdgx bldx [bkx6, bkx7, bkx8, bkx9, bkx10, bkx11] 30000 bkx12 = true := by decide +kernel
theorem bcx12 : bcon bZ bIx bkx12 := bchk_ok bZ_len bzf_ok (List.forall_mem_cons.mpr ⟨bcx6, List.forall_mem_cons.mpr ⟨bcx7, List.forall_mem_cons.mpr ⟨bcx8, List.forall_mem_cons.mpr ⟨bcx9, List.forall_mem_cons.mpr ⟨bcx10, List.forall_mem_cons.mpr ⟨bcx11, fun _ q => absurd q List.not_mem_nil⟩⟩⟩⟩⟩⟩) btx12
-- hear: 92 steps
def bkx13 : bC := (68, [some (.inr [.index 1]), some (.inr [.index 34, .index 36, .index 38, .index 40, .index 42, .index 44, .index 46, .index 48, .index 50, .index 52, .index 54, .index 56]), some (.inr [.index 314]), some (.inr [.index 318])], none, [(318, 321)], 3, [], [])
theorem btx13 : bchk bzf bIx bmpx bmqx bjn bgm blpx bspx bdgx bldx [bkx12] 30000 bkx13 = true := by decide +kernel
theorem bcx13 : bcon bZ bIx bkx13 := bchk_ok bZ_len bzf_ok (List.forall_mem_cons.mpr ⟨bcx12, fun _ q => absurd q List.not_mem_nil⟩) btx13
-- soundOrSize: 29 steps
def bkx14 : bC := (119, [some (.inr [.index 0]), some (.inr [.index 318, .index 320]), some (.inl (-2147483648, 2147483647))], some (.inl (-2147483648, 2147483647)), [(323, 323)], 1, [], [])
theorem btx14 : bchk bzf bIx bmpx bmqx bjn bgm blpx bspx bdgx bldx [bkx1] 30000 bkx14 = true := by decide +kernel
theorem bcx14 : bcon bZ bIx bkx14 := bchk_ok bZ_len bzf_ok (List.forall_mem_cons.mpr ⟨bcx1, fun _ q => absurd q List.not_mem_nil⟩) btx14
-- firstUnlike: 333 steps
def bkx15 : bC := (40, [some (.inr [.index 100, .index 102, .index 104, .index 107, .index 109, .index 111, .index 113, .index 115, .index 117, .index 119, .index 121, .index 123, .index 125, .index 127, .index 129, .index 153, .index 157, .index 159, .index 161, .index 163, .index 165, .index 167, .index 169, .index 17, .index 171, .index 173, .index 175, .index 177, .index 179, .index 181, .index 183, .index 185, .index 187, .index 189, .index 19, .index 191, .index 193, .index 195, .index 197, .index 199, .index 201, .index 203, .index 205, .index 207, .index 209, .index 21, .index 211, .index 213, .index 215, .index 217, .index 219, .index 221, .index 223, .index 225, .index 227, .index 229, .index 23, .index 231, .index 233, .index 235, .index 237, .index 239, .index 241, .index 243, .index 245, .index 247, .index 249, .index 25, .index 251, .index 253, .index 255, .index 257, .index 259, .index 261, .index 263, .index 265, .index 267, .index 269, .index 27, .index 271, .index 273, .index 275, .index 277, .index 279, .index 281, .index 283, .index 285, .index 287, .index 289, .index 29, .index 291, .index 293, .index 295, .index 297, .index 299, .index 301, .index 303, .index 306, .index 308, .index 31, .index 318, .index 320, .index 332, .index 334, .index 336, .index 34, .index 36, .index 38, .index 40, .index 42, .index 44, .index 46, .index 48, .index 50, .index 52, .index 54, .index 56, .index 90, .index 92, .index 94, .index 96, .index 98]), some (.inr [.index 100, .index 102, .index 104, .index 107, .index 109, .index 111, .index 113, .index 115, .index 117, .index 119, .index 121, .index 123, .index 125, .index 127, .index 129, .index 153, .index 157, .index 159, .index 161, .index 163, .index 165, .index 167, .index 169, .index 17, .index 171, .index 173, .index 175, .index 177, .index 179, .index 181, .index 183, .index 185, .index 187, .index 189, .index 19, .index 191, .index 193, .index 195, .index 197, .index 199, .index 201, .index 203, .index 205, .index 207, .index 209, .index 21, .index 211, .index 213, .index 215, .index 217, .index 219, .index 221, .index 223, .index 225, .index 227, .index 229, .index 23, .index 231, .index 233, .index 235, .index 237, .index 239, .index 241, .index 243, .index 245, .index 247, .index 249, .index 25, .index 251, .index 253, .index 255, .index 257, .index 259, .index 261, .index 263, .index 265, .index 267, .index 269, .index 27, .index 271, .index 273, .index 275, .index 277, .index 279, .index 281, .index 283, .index 285, .index 287, .index 289, .index 29, .index 291, .index 293, .index 295, .index 297, .index 299, .index 301, .index 303, .index 306, .index 308, .index 31, .index 318, .index 320, .index 332, .index 334, .index 336, .index 34, .index 36, .index 38, .index 40, .index 42, .index 44, .index 46, .index 48, .index 50, .index 52, .index 54, .index 56, .index 90, .index 92, .index 94, .index 96, .index 98])], some (.inl (-1, 12)), [], 0, [], [])
theorem btx15 : bchk bzf bIx bmpx bmqx bjn bgm blpx bspx bdgx bldx [] 30000 bkx15 = true := by decide +kernel
theorem bcx15 : bcon bZ bIx bkx15 := bchk_ok bZ_len bzf_ok (fun _ q => absurd q List.not_mem_nil) btx15
-- isLike: 9 steps
def bkx16 : bC := (41, [some (.inr [.index 100, .index 102, .index 104, .index 107, .index 109, .index 111, .index 113, .index 115, .index 117, .index 119, .index 121, .index 123, .index 125, .index 127, .index 129, .index 153, .index 157, .index 159, .index 161, .index 163, .index 165, .index 167, .index 169, .index 17, .index 171, .index 173, .index 175, .index 177, .index 179, .index 181, .index 183, .index 185, .index 187, .index 189, .index 19, .index 191, .index 193, .index 195, .index 197, .index 199, .index 201, .index 203, .index 205, .index 207, .index 209, .index 21, .index 211, .index 213, .index 215, .index 217, .index 219, .index 221, .index 223, .index 225, .index 227, .index 229, .index 23, .index 231, .index 233, .index 235, .index 237, .index 239, .index 241, .index 243, .index 245, .index 247, .index 249, .index 25, .index 251, .index 253, .index 255, .index 257, .index 259, .index 261, .index 263, .index 265, .index 267, .index 269, .index 27, .index 271, .index 273, .index 275, .index 277, .index 279, .index 281, .index 283, .index 285, .index 287, .index 289, .index 29, .index 291, .index 293, .index 295, .index 297, .index 299, .index 301, .index 303, .index 306, .index 308, .index 31, .index 318, .index 320, .index 332, .index 334, .index 336, .index 34, .index 36, .index 38, .index 40, .index 42, .index 44, .index 46, .index 48, .index 50, .index 52, .index 54, .index 56, .index 90, .index 92, .index 94, .index 96, .index 98]), some (.inr [.index 100, .index 102, .index 104, .index 107, .index 109, .index 111, .index 113, .index 115, .index 117, .index 119, .index 121, .index 123, .index 125, .index 127, .index 129, .index 153, .index 157, .index 159, .index 161, .index 163, .index 165, .index 167, .index 169, .index 17, .index 171, .index 173, .index 175, .index 177, .index 179, .index 181, .index 183, .index 185, .index 187, .index 189, .index 19, .index 191, .index 193, .index 195, .index 197, .index 199, .index 201, .index 203, .index 205, .index 207, .index 209, .index 21, .index 211, .index 213, .index 215, .index 217, .index 219, .index 221, .index 223, .index 225, .index 227, .index 229, .index 23, .index 231, .index 233, .index 235, .index 237, .index 239, .index 241, .index 243, .index 245, .index 247, .index 249, .index 25, .index 251, .index 253, .index 255, .index 257, .index 259, .index 261, .index 263, .index 265, .index 267, .index 269, .index 27, .index 271, .index 273, .index 275, .index 277, .index 279, .index 281, .index 283, .index 285, .index 287, .index 289, .index 29, .index 291, .index 293, .index 295, .index 297, .index 299, .index 301, .index 303, .index 306, .index 308, .index 31, .index 318, .index 320, .index 332, .index 334, .index 336, .index 34, .index 36, .index 38, .index 40, .index 42, .index 44, .index 46, .index 48, .index 50, .index 52, .index 54, .index 56, .index 90, .index 92, .index 94, .index 96, .index 98])], some (.inl (0, 1)), [], 1, [], [])
theorem btx16 : bchk bzf bIx bmpx bmqx bjn bgm blpx bspx bdgx bldx [bkx15] 30000 bkx16 = true := by decide +kernel
theorem bcx16 : bcon bZ bIx bkx16 := bchk_ok bZ_len bzf_ok (List.forall_mem_cons.mpr ⟨bcx15, fun _ q => absurd q List.not_mem_nil⟩) btx16
-- rocksThatMake: 411 steps
def bkx17 : bC := (128, [some (.inr [.index 0]), some (.inr [.index 34, .index 36, .index 38, .index 40, .index 42, .index 44, .index 46, .index 48, .index 50, .index 52, .index 54, .index 56]), some (.inr [.index 34, .index 36, .index 38, .index 40, .index 42, .index 44, .index 46, .index 48, .index 50, .index 52, .index 54, .index 56])], some (.inl (-2147483648, 2147483647)), [(318, 321)], 3, [], [])
theorem btx17 : bchk bzf bIx bmpx bmqx bjn bgm blpx bspx bdgx bldx [bkx16, bkx12] 30000 bkx17 = true := by decide +kernel
theorem bcx17 : bcon bZ bIx bkx17 := bchk_ok bZ_len bzf_ok (List.forall_mem_cons.mpr ⟨bcx16, List.forall_mem_cons.mpr ⟨bcx12, fun _ q => absurd q List.not_mem_nil⟩⟩) btx17
-- sayNay: 523 steps
def bkx18 : bC := (43, [some (.inr [.index 332, .index 334, .index 336]), some (.inl (0, 0))], none, [(333, 333), (335, 335), (337, 337)], 1, [], [])
theorem btx18 : bchk bzf bIx bmpx bmqx bjn bgm blpx bspx bdgx bldx [bkx3] 30000 bkx18 = true := by decide +kernel
theorem bcx18 : bcon bZ bIx bkx18 := bchk_ok bZ_len bzf_ok (List.forall_mem_cons.mpr ⟨bcx3, fun _ q => absurd q List.not_mem_nil⟩) btx18
-- sayNay: 517 steps
def bkx19 : bC := (43, [some (.inr [.index 332, .index 334, .index 336]), some (.inl (1, 1))], none, [(333, 333), (335, 335), (337, 337)], 1, [], [])
theorem btx19 : bchk bzf bIx bmpx bmqx bjn bgm blpx bspx bdgx bldx [bkx3] 30000 bkx19 = true := by decide +kernel
theorem bcx19 : bcon bZ bIx bkx19 := bchk_ok bZ_len bzf_ok (List.forall_mem_cons.mpr ⟨bcx3, fun _ q => absurd q List.not_mem_nil⟩) btx19
-- turnNumbers: 415 steps
def bkx20 : bC := (44, [some (.inr [.index 332, .index 334, .index 336])], none, [(333, 333), (335, 335), (337, 337)], 1, [], [])
theorem btx20 : bchk bzf bIx bmpx bmqx bjn bgm blpx bspx bdgx bldx [bkx3] 30000 bkx20 = true := by decide +kernel
theorem bcx20 : bcon bZ bIx bkx20 := bchk_ok bZ_len bzf_ok (List.forall_mem_cons.mpr ⟨bcx3, fun _ q => absurd q List.not_mem_nil⟩) btx20
-- turnRound: 155 steps
def bkx21 : bC := (45, [some (.inr [.index 332, .index 334, .index 336])], none, [(333, 333), (335, 335), (337, 337)], 0, [], [])
theorem btx21 : bchk bzf bIx bmpx bmqx bjn bgm blpx bspx bdgx bldx [] 30000 bkx21 = true := by decide +kernel
theorem bcx21 : bcon bZ bIx bkx21 := bchk_ok bZ_len bzf_ok (fun _ q => absurd q List.not_mem_nil) btx21
-- leaveOutEach: 266 steps
def bkx22 : bC := (46, [some (.inr [.index 332, .index 334, .index 336]), some (.inl (0, 32))], none, [(332, 337)], 0, [], [])
theorem btx22 : bchk bzf bIx bmpx bmqx bjn bgm blpx bspx bdgx bldx [] 30000 bkx22 = true := by decide +kernel
theorem bcx22 : bcon bZ bIx bkx22 := bchk_ok bZ_len bzf_ok (fun _ q => absurd q List.not_mem_nil) btx22
-- turnByText: 15 steps
def bkx23 : bC := (67, [some (.inr [.index 1]), some (.inr [.index 332, .index 334, .index 336]), some (.inl (0, 20))], none, [], 1, [], [])
theorem btx23 : bchk bzf bIx bmpx bmqx bjn bgm blpx bspx bdgx bldx [] 30000 bkx23 = true := by decide +kernel
theorem bcx23 : bcon bZ bIx bkx23 := bchk_ok bZ_len bzf_ok (fun _ q => absurd q List.not_mem_nil) btx23
-- sendBack: 36 steps
def bkx24 : bC := (66, [some (.inr [.index 1]), some (.inr [.index 58, .index 59, .index 60, .index 61, .index 62, .index 63, .index 64, .index 65]), some (.inr [.index 332, .index 334, .index 336])], none, [(332, 337)], 2, [], [])
theorem btx24 : bchk bzf bIx bmpx bmqx bjn bgm blpx bspx bdgx bldx [bkx18, bkx19, bkx20, bkx21, bkx22, bkx23] 30000 bkx24 = true := by decide +kernel
theorem bcx24 : bcon bZ bIx bkx24 := bchk_ok bZ_len bzf_ok (List.forall_mem_cons.mpr ⟨bcx18, List.forall_mem_cons.mpr ⟨bcx19, List.forall_mem_cons.mpr ⟨bcx20, List.forall_mem_cons.mpr ⟨bcx21, List.forall_mem_cons.mpr ⟨bcx22, List.forall_mem_cons.mpr ⟨bcx23, fun _ q => absurd q List.not_mem_nil⟩⟩⟩⟩⟩⟩) btx24
-- waysTo: 13 steps
def bkx25 : bC := (129, [some (.inr [.index 0]), some (.inr [.index 332, .index 334, .index 336, .index 34, .index 36, .index 38, .index 40, .index 42, .index 44, .index 46, .index 48, .index 50, .index 52, .index 54, .index 56]), some (.inr [.index 34, .index 36, .index 38, .index 40, .index 42, .index 44, .index 46, .index 48, .index 50, .index 52, .index 54, .index 56]), some (.inl (0, 0))], some (.inl (0, 1)), [], 2, [], [])
theorem btx25 : bchk bzf bIx bmpx bmqx bjn bgm blpx bspx bdgx bldx [bkx16] 30000 bkx25 = true := by decide +kernel
theorem bcx25 : bcon bZ bIx bkx25 := bchk_ok bZ_len bzf_ok (List.forall_mem_cons.mpr ⟨bcx16, fun _ q => absurd q List.not_mem_nil⟩) btx25
-- waysTo: 410 steps
def bkx26 : bC := (129, [some (.inr [.index 0]), some (.inr [.index 332, .index 334, .index 336, .index 34, .index 36, .index 38, .index 40, .index 42, .index 44, .index 46, .index 48, .index 50, .index 52, .index 54, .index 56]), some (.inr [.index 34, .index 36, .index 38, .index 40, .index 42, .index 44, .index 46, .index 48, .index 50, .index 52, .index 54, .index 56]), some (.inl (0, 1))], some (.inl (0, 9)), [(332, 337)], 3, [], [])
theorem btx26 : bchk bzf bIx bmpx bmqx bjn bgm blpx bspx bdgx bldx [bkx16, bkx24, bkx25] 30000 bkx26 = true := by decide +kernel
theorem bcx26 : bcon bZ bIx bkx26 := bchk_ok bZ_len bzf_ok (List.forall_mem_cons.mpr ⟨bcx16, List.forall_mem_cons.mpr ⟨bcx24, List.forall_mem_cons.mpr ⟨bcx25, fun _ q => absurd q List.not_mem_nil⟩⟩⟩) btx26
-- waysTo: 554 steps
def bkx27 : bC := (129, [some (.inr [.index 0]), some (.inr [.index 332, .index 334, .index 336, .index 34, .index 36, .index 38, .index 40, .index 42, .index 44, .index 46, .index 48, .index 50, .index 52, .index 54, .index 56]), some (.inr [.index 34, .index 36, .index 38, .index 40, .index 42, .index 44, .index 46, .index 48, .index 50, .index 52, .index 54, .index 56]), some (.inl (0, 2))], some (.inl (0, 73)), [(332, 337)], 4, [], [])
theorem btx27 : bchk bzf bIx bmpx bmqx bjn bgm blpx bspx bdgx bldx [bkx16, bkx24, bkx26] 30000 bkx27 = true := by decide +kernel
theorem bcx27 : bcon bZ bIx bkx27 := bchk_ok bZ_len bzf_ok (List.forall_mem_cons.mpr ⟨bcx16, List.forall_mem_cons.mpr ⟨bcx24, List.forall_mem_cons.mpr ⟨bcx26, fun _ q => absurd q List.not_mem_nil⟩⟩⟩) btx27
