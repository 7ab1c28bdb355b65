-- ===== contracts
-- error: 12 steps
def bkm0 : bC := (135, [some (.inr [.index 338]), some (.inl (4, 4))], some (.inl (-1000004, -1000004)), [(341, 341)], 0, [], [])
theorem btm0 : bchk bzf bIm bmpm bmqm bjn bgm blpm bspm bdgm bldm [] 30000 bkm0 = true := by decide +kernel
theorem bcm0 : bcon bZ bIm bkm0 := bchk_ok bZ_len bzf_ok (fun _ q => absurd q List.not_mem_nil) btm0
-- error: 12 steps
def bkm1 : bC := (135, [some (.inr [.index 338]), some (.inl (1, 1))], some (.inl (-1000001, -1000001)), [(341, 341)], 0, [], [])
theorem btm1 : bchk bzf bIm bmpm bmqm bjn bgm blpm bspm bdgm bldm [] 30000 bkm1 = true := by decide +kernel
theorem bcm1 : bcon bZ bIm bkm1 := bchk_ok bZ_len bzf_ok (fun _ q => absurd q List.not_mem_nil) btm1
-- toldOf: 55 steps
def bkm2 : bC := (161, [some (.inr [.index 338]), some (.inr [.index 342]), some (.inl (-2147483648, 2147483647))], some (.inl (-2147483648, 2147483647)), [(341, 341)], 1, [], [])
theorem btm2 : bchk bzf bIm bmpm bmqm bjn bgm blpm bspm bdgm bldm [bkm1] 30000 bkm2 = true := by decide +kernel
theorem bcm2 : bcon bZ bIm bkm2 := bchk_ok bZ_len bzf_ok (List.forall_mem_cons.mpr ⟨bcm1, fun _ q => absurd q List.not_mem_nil⟩) btm2
-- contraryOf: 44 steps
def bkm3 : bC := (143, [some (.inl (-2147483648, 2147483647))], some (.inl (-2147483648, 2147483647)), [], 0, [], [])
theorem btm3 : bchk bzf bIm bmpm bmqm bjn bgm blpm bspm bdgm bldm [] 30000 bkm3 = true := by decide +kernel
theorem bcm3 : bcon bZ bIm bkm3 := bchk_ok bZ_len bzf_ok (fun _ q => absurd q List.not_mem_nil) btm3
-- error: 12 steps
def bkm4 : bC := (135, [some (.inr [.index 338]), some (.inl (5, 5))], some (.inl (-1000005, -1000005)), [(341, 341)], 0, [], [])
theorem btm4 : bchk bzf bIm bmpm bmqm bjn bgm blpm bspm bdgm bldm [] 30000 bkm4 = true := by decide +kernel
theorem bcm4 : bcon bZ bIm bkm4 := bchk_ok bZ_len bzf_ok (fun _ q => absurd q List.not_mem_nil) btm4
-- denies: 320 steps
def bkm5 : bC := (148, [some (.inr [.index 342, .index 343, .index 344]), some (.inl (1, 1)), some (.inl (1, 1))], none, [(342, 344)], 1, [], [])
theorem btm5 : bchk bzf bIm bmpm bmqm bjn bgm blpm bspm bdgm bldm [bkm3] 30000 bkm5 = true := by decide +kernel
theorem bcm5 : bcon bZ bIm bkm5 := bchk_ok bZ_len bzf_ok (List.forall_mem_cons.mpr ⟨bcm3, fun _ q => absurd q List.not_mem_nil⟩) btm5
-- denies: 164 steps
def bkm6 : bC := (148, [some (.inr [.index 342, .index 343, .index 344]), some (.inl (2, 2)), some (.inl (2, 2))], none, [(342, 344)], 1, [], [])
theorem btm6 : bchk bzf bIm bmpm bmqm bjn bgm blpm bspm bdgm bldm [bkm3] 30000 bkm6 = true := by decide +kernel
theorem bcm6 : bcon bZ bIm bkm6 := bchk_ok bZ_len bzf_ok (List.forall_mem_cons.mpr ⟨bcm3, fun _ q => absurd q List.not_mem_nil⟩) btm6
-- turns: 130 steps
def bkm7 : bC := (147, [some (.inr [.index 338]), some (.inr [.index 342, .index 343, .index 344])], none, [(342, 344)], 0, [], [])
theorem btm7 : bchk bzf bIm bmpm bmqm bjn bgm blpm bspm bdgm bldm [] 30000 bkm7 = true := by decide +kernel
theorem bcm7 : bcon bZ bIm bkm7 := bchk_ok bZ_len bzf_ok (fun _ q => absurd q List.not_mem_nil) btm7
-- swallows: 338 steps
def bkm8 : bC := (149, [some (.inr [.index 338]), some (.inr [.index 342, .index 343, .index 344]), some (.inl (0, 9))], none, [(342, 344)], 0, [], [])
theorem btm8 : bchk bzf bIm bmpm bmqm bjn bgm blpm bspm bdgm bldm [] 30000 bkm8 = true := by decide +kernel
theorem bcm8 : bcon bZ bIm bkm8 := bchk_ok bZ_len bzf_ok (fun _ q => absurd q List.not_mem_nil) btm8
-- asTold: 23 steps
def bkm9 : bC := (150, [some (.inr [.index 338]), some (.inr [.index 342, .index 343, .index 344]), some (.inl (0, 9))], none, [], 1, [], [])
theorem btm9 : bchk bzf bIm bmpm bmqm bjn bgm blpm bspm bdgm bldm [] 30000 bkm9 = true := by decide +kernel
theorem bcm9 : bcon bZ bIm bkm9 := bchk_ok bZ_len bzf_ok (fun _ q => absurd q List.not_mem_nil) btm9
-- sends: 360 steps
def bkm10 : bC := (151, [some (.inr [.index 338]), some (.inl (0, 7)), some (.inr [.index 342, .index 343, .index 344])], none, [(342, 344)], 2, [], [])
theorem btm10 : bchk bzf bIm bmpm bmqm bjn bgm blpm bspm bdgm bldm [bkm3, bkm7, bkm5, bkm6, bkm8, bkm9] 30000 bkm10 = true := by decide +kernel
theorem bcm10 : bcon bZ bIm bkm10 := bchk_ok bZ_len bzf_ok (List.forall_mem_cons.mpr ⟨bcm3, List.forall_mem_cons.mpr ⟨bcm7, List.forall_mem_cons.mpr ⟨bcm5, List.forall_mem_cons.mpr ⟨bcm6, List.forall_mem_cons.mpr ⟨bcm8, List.forall_mem_cons.mpr ⟨bcm9, fun _ q => absurd q List.not_mem_nil⟩⟩⟩⟩⟩⟩) btm10
-- areAlike: 273 steps
def bkm11 : bC := (144, [some (.inr [.index 342]), some (.inr [.index 344])], some (.inl (0, 1)), [], 0, [], [])
theorem btm11 : bchk bzf bIm bmpm bmqm bjn bgm blpm bspm bdgm bldm [] 30000 bkm11 = true := by decide +kernel
theorem bcm11 : bcon bZ bIm bkm11 := bchk_ok bZ_len bzf_ok (fun _ q => absurd q List.not_mem_nil) btm11
-- canUndo: 8 steps
def bkm12 : bC := (157, [some (.inr [.index 338]), some (.inl (0, 0))], some (.inl (1, 1)), [], 0, [], [])
theorem btm12 : bchk bzf bIm bmpm bmqm bjn bgm blpm bspm bdgm bldm [] 30000 bkm12 = true := by decide +kernel
theorem bcm12 : bcon bZ bIm bkm12 := bchk_ok bZ_len bzf_ok (fun _ q => absurd q List.not_mem_nil) btm12
-- canUndo: 52 steps
def bkm13 : bC := (157, [some (.inr [.index 338]), some (.inl (1, 8))], some (.inl (0, 1)), [], 1, [], [])
theorem btm13 : bchk bzf bIm bmpm bmqm bjn bgm blpm bspm bdgm bldm [] 30000 bkm13 = true := by decide +kernel
theorem bcm13 : bcon bZ bIm bkm13 := bchk_ok bZ_len bzf_ok (fun _ q => absurd q List.not_mem_nil) btm13
-- error: 12 steps
def bkm14 : bC := (135, [some (.inr [.index 338]), some (.inl (3, 3))], some (.inl (-1000003, -1000003)), [(341, 341)], 0, [], [])
theorem btm14 : bchk bzf bIm bmpm bmqm bjn bgm blpm bspm bdgm bldm [] 30000 bkm14 = true := by decide +kernel
theorem bcm14 : bcon bZ bIm bkm14 := bchk_ok bZ_len bzf_ok (fun _ q => absurd q List.not_mem_nil) btm14
-- canUndo: 101 steps
def bkm15 : bC := (157, [some (.inr [.index 338]), some (.inl (11, 99))], some (.inl (0, 1)), [], 1, [], [])
theorem btm15 : bchk bzf bIm bmpm bmqm bjn bgm blpm bspm bdgm bldm [] 30000 bkm15 = true := by decide +kernel
theorem bcm15 : bcon bZ bIm bkm15 := bchk_ok bZ_len bzf_ok (fun _ q => absurd q List.not_mem_nil) btm15
-- canUndo: 148 steps
def bkm16 : bC := (157, [some (.inr [.index 338]), some (.inl (100, 999))], some (.inl (0, 1)), [], 1, [], [])
theorem btm16 : bchk bzf bIm bmpm bmqm bjn bgm blpm bspm bdgm bldm [] 30000 bkm16 = true := by decide +kernel
theorem bcm16 : bcon bZ bIm bkm16 := bchk_ok bZ_len bzf_ok (fun _ q => absurd q List.not_mem_nil) btm16
-- canUndo: 195 steps
def bkm17 : bC := (157, [some (.inr [.index 338]), some (.inl (1000, 9999))], some (.inl (0, 1)), [], 1, [], [])
theorem btm17 : bchk bzf bIm bmpm bmqm bjn bgm blpm bspm bdgm bldm [] 30000 bkm17 = true := by decide +kernel
theorem bcm17 : bcon bZ bIm bkm17 := bchk_ok bZ_len bzf_ok (fun _ q => absurd q List.not_mem_nil) btm17
-- term: 29 steps
def bkm18 : bC := (204, [some (.inr [.index 338])], some (.inl (0, 0)), [(338, 338)], 1, [((338, 16), 13, 13)], [((338, 16), 13, 13)])
theorem btm18 : bchk bzf bIm bmpm bmqm bjn bgm blpm bspm bdgm bldm [] 30000 bkm18 = true := by decide +kernel
theorem bcm18 : bcon bZ bIm bkm18 := bchk_ok bZ_len bzf_ok (fun _ q => absurd q List.not_mem_nil) btm18
-- isSo: 33 steps
def bkm19 : bC := (203, [some (.inr [.index 338]), some (.inl (-2147483648, 59))], some (.inl (0, 1)), [], 0, [], [])
theorem btm19 : bchk bzf bIm bmpm bmqm bjn bgm blpm bspm bdgm bldm [] 30000 bkm19 = true := by decide +kernel
theorem bcm19 : bcon bZ bIm bkm19 := bchk_ok bZ_len bzf_ok (fun _ q => absurd q List.not_mem_nil) btm19
-- term: 147 steps
def bkm20 : bC := (204, [some (.inr [.index 338])], some (.inl (0, 1)), [(338, 338)], 2, [((338, 16), 12, 13)], [((338, 16), 12, 13)])
theorem btm20 : bchk bzf bIm bmpm bmqm bjn bgm blpm bspm bdgm bldm [bkm19, bkm18] 30000 bkm20 = true := by decide +kernel
theorem bcm20 : bcon bZ bIm bkm20 := bchk_ok bZ_len bzf_ok (List.forall_mem_cons.mpr ⟨bcm19, List.forall_mem_cons.mpr ⟨bcm18, fun _ q => absurd q List.not_mem_nil⟩⟩) btm20
-- term: 206 steps
def bkm21 : bC := (204, [some (.inr [.index 338])], some (.inl (0, 1)), [(338, 338)], 3, [((338, 16), 11, 13)], [((338, 16), 11, 13)])
theorem btm21 : bchk bzf bIm bmpm bmqm bjn bgm blpm bspm bdgm bldm [bkm19, bkm20] 30000 bkm21 = true := by decide +kernel
theorem bcm21 : bcon bZ bIm bkm21 := bchk_ok bZ_len bzf_ok (List.forall_mem_cons.mpr ⟨bcm19, List.forall_mem_cons.mpr ⟨bcm20, fun _ q => absurd q List.not_mem_nil⟩⟩) btm21
-- term: 262 steps
def bkm22 : bC := (204, [some (.inr [.index 338])], some (.inl (0, 1)), [(338, 338)], 4, [((338, 16), 10, 13)], [((338, 16), 10, 13)])
theorem btm22 : bchk bzf bIm bmpm bmqm bjn bgm blpm bspm bdgm bldm [bkm19, bkm21] 30000 bkm22 = true := by decide +kernel
theorem bcm22 : bcon bZ bIm bkm22 := bchk_ok bZ_len bzf_ok (List.forall_mem_cons.mpr ⟨bcm19, List.forall_mem_cons.mpr ⟨bcm21, fun _ q => absurd q List.not_mem_nil⟩⟩) btm22
-- term: 318 steps
def bkm23 : bC := (204, [some (.inr [.index 338])], some (.inl (0, 1)), [(338, 338)], 5, [((338, 16), 9, 13)], [((338, 16), 9, 13)])
theorem btm23 : bchk bzf bIm bmpm bmqm bjn bgm blpm bspm bdgm bldm [bkm19, bkm22] 30000 bkm23 = true := by decide +kernel
theorem bcm23 : bcon bZ bIm bkm23 := bchk_ok bZ_len bzf_ok (List.forall_mem_cons.mpr ⟨bcm19, List.forall_mem_cons.mpr ⟨bcm22, fun _ q => absurd q List.not_mem_nil⟩⟩) btm23
-- term: 374 steps
def bkm24 : bC := (204, [some (.inr [.index 338])], some (.inl (0, 1)), [(338, 338)], 6, [((338, 16), 8, 13)], [((338, 16), 8, 13)])
theorem btm24 : bchk bzf bIm bmpm bmqm bjn bgm blpm bspm bdgm bldm [bkm19, bkm23] 30000 bkm24 = true := by decide +kernel
theorem bcm24 : bcon bZ bIm bkm24 := bchk_ok bZ_len bzf_ok (List.forall_mem_cons.mpr ⟨bcm19, List.forall_mem_cons.mpr ⟨bcm23, fun _ q => absurd q List.not_mem_nil⟩⟩) btm24
-- term: 430 steps
def bkm25 : bC := (204, [some (.inr [.index 338])], some (.inl (0, 1)), [(338, 338)], 7, [((338, 16), 7, 13)], [((338, 16), 7, 13)])
theorem btm25 : bchk bzf bIm bmpm bmqm bjn bgm blpm bspm bdgm bldm [bkm19, bkm24] 30000 bkm25 = true := by decide +kernel
theorem bcm25 : bcon bZ bIm bkm25 := bchk_ok bZ_len bzf_ok (List.forall_mem_cons.mpr ⟨bcm19, List.forall_mem_cons.mpr ⟨bcm24, fun _ q => absurd q List.not_mem_nil⟩⟩) btm25
-- term: 486 steps
def bkm26 : bC := (204, [some (.inr [.index 338])], some (.inl (0, 1)), [(338, 338)], 8, [((338, 16), 6, 13)], [((338, 16), 6, 13)])
theorem btm26 : bchk bzf bIm bmpm bmqm bjn bgm blpm bspm bdgm bldm [bkm19, bkm25] 30000 bkm26 = true := by decide +kernel
theorem bcm26 : bcon bZ bIm bkm26 := bchk_ok bZ_len bzf_ok (List.forall_mem_cons.mpr ⟨bcm19, List.forall_mem_cons.mpr ⟨bcm25, fun _ q => absurd q List.not_mem_nil⟩⟩) btm26
-- term: 542 steps
def bkm27 : bC := (204, [some (.inr [.index 338])], some (.inl (0, 1)), [(338, 338)], 9, [((338, 16), 5, 13)], [((338, 16), 5, 13)])
theorem btm27 : bchk bzf bIm bmpm bmqm bjn bgm blpm bspm bdgm bldm [bkm19, bkm26] 30000 bkm27 = true := by decide +kernel
theorem bcm27 : bcon bZ bIm bkm27 := bchk_ok bZ_len bzf_ok (List.forall_mem_cons.mpr ⟨bcm19, List.forall_mem_cons.mpr ⟨bcm26, fun _ q => absurd q List.not_mem_nil⟩⟩) btm27
-- term: 598 steps
def bkm28 : bC := (204, [some (.inr [.index 338])], some (.inl (0, 1)), [(338, 338)], 10, [((338, 16), 4, 13)], [((338, 16), 4, 13)])
theorem btm28 : bchk bzf bIm bmpm bmqm bjn bgm blpm bspm bdgm bldm [bkm19, bkm27] 30000 bkm28 = true := by decide +kernel
theorem bcm28 : bcon bZ bIm bkm28 := bchk_ok bZ_len bzf_ok (List.forall_mem_cons.mpr ⟨bcm19, List.forall_mem_cons.mpr ⟨bcm27, fun _ q => absurd q List.not_mem_nil⟩⟩) btm28
-- term: 654 steps
def bkm29 : bC := (204, [some (.inr [.index 338])], some (.inl (0, 1)), [(338, 338)], 11, [((338, 16), 3, 13)], [((338, 16), 3, 13)])
theorem btm29 : bchk bzf bIm bmpm bmqm bjn bgm blpm bspm bdgm bldm [bkm19, bkm28] 30000 bkm29 = true := by decide +kernel
theorem bcm29 : bcon bZ bIm bkm29 := bchk_ok bZ_len bzf_ok (List.forall_mem_cons.mpr ⟨bcm19, List.forall_mem_cons.mpr ⟨bcm28, fun _ q => absurd q List.not_mem_nil⟩⟩) btm29
