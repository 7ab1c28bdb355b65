-- ===== contracts
-- unlikeIn: 59 steps
def bkm22 : bC := (198, [some (.inr [.index 338]), some (.inl (2, 2))], some (.inl (-2147483648, 2147483647)), [], 0, [], [])
theorem btm22 : bchk bzf bIm bmpm bmqm bjn bgm blpm bspm bdgm bldm [] [] 30000 bkm22 = true := by decide +kernel
theorem bcm22 : bcon bZ bIm bTr bkm22 := bchk_ok bZ_len bzf_ok bTr_ok (fun _ q => absurd q List.not_mem_nil) (fun _ q => absurd q List.not_mem_nil) btm22
-- unlikeIn: 59 steps
def bkm23 : bC := (198, [some (.inr [.index 338]), some (.inl (0, 1))], some (.inl (-2147483648, 2147483647)), [], 0, [], [])
theorem btm23 : bchk bzf bIm bmpm bmqm bjn bgm blpm bspm bdgm bldm [] [] 30000 bkm23 = true := by decide +kernel
theorem bcm23 : bcon bZ bIm bTr bkm23 := bchk_ok bZ_len bzf_ok bTr_ok (fun _ q => absurd q List.not_mem_nil) (fun _ q => absurd q List.not_mem_nil) btm23
-- unlikeIn: 59 steps
def bkm24 : bC := (198, [some (.inr [.index 338]), some (.inl (3, 3))], some (.inl (-2147483648, 2147483647)), [], 0, [], [])
theorem btm24 : bchk bzf bIm bmpm bmqm bjn bgm blpm bspm bdgm bldm [] [] 30000 bkm24 = true := by decide +kernel
theorem bcm24 : bcon bZ bIm bTr bkm24 := bchk_ok bZ_len bzf_ok bTr_ok (fun _ q => absurd q List.not_mem_nil) (fun _ q => absurd q List.not_mem_nil) btm24
-- unlikeIn: 59 steps
def bkm25 : bC := (198, [some (.inr [.index 338]), some (.inl (0, 2))], some (.inl (-2147483648, 2147483647)), [], 0, [], [])
theorem btm25 : bchk bzf bIm bmpm bmqm bjn bgm blpm bspm bdgm bldm [] [] 30000 bkm25 = true := by decide +kernel
theorem bcm25 : bcon bZ bIm bTr bkm25 := bchk_ok bZ_len bzf_ok bTr_ok (fun _ q => absurd q List.not_mem_nil) (fun _ q => absurd q List.not_mem_nil) btm25
-- unlikeIn: 59 steps
def bkm26 : bC := (198, [some (.inr [.index 338]), some (.inl (4, 4))], some (.inl (-2147483648, 2147483647)), [], 0, [], [])
theorem btm26 : bchk bzf bIm bmpm bmqm bjn bgm blpm bspm bdgm bldm [] [] 30000 bkm26 = true := by decide +kernel
theorem bcm26 : bcon bZ bIm bTr bkm26 := bchk_ok bZ_len bzf_ok bTr_ok (fun _ q => absurd q List.not_mem_nil) (fun _ q => absurd q List.not_mem_nil) btm26
-- unlikeIn: 59 steps
def bkm27 : bC := (198, [some (.inr [.index 338]), some (.inl (0, 3))], some (.inl (-2147483648, 2147483647)), [], 0, [], [])
theorem btm27 : bchk bzf bIm bmpm bmqm bjn bgm blpm bspm bdgm bldm [] [] 30000 bkm27 = true := by decide +kernel
theorem bcm27 : bcon bZ bIm bTr bkm27 := bchk_ok bZ_len bzf_ok bTr_ok (fun _ q => absurd q List.not_mem_nil) (fun _ q => absurd q List.not_mem_nil) btm27
-- unlikeIn: 59 steps
def bkm28 : bC := (198, [some (.inr [.index 338]), some (.inl (5, 5))], some (.inl (-2147483648, 2147483647)), [], 0, [], [])
theorem btm28 : bchk bzf bIm bmpm bmqm bjn bgm blpm bspm bdgm bldm [] [] 30000 bkm28 = true := by decide +kernel
theorem bcm28 : bcon bZ bIm bTr bkm28 := bchk_ok bZ_len bzf_ok bTr_ok (fun _ q => absurd q List.not_mem_nil) (fun _ q => absurd q List.not_mem_nil) btm28
-- unlikeIn: 59 steps
def bkm29 : bC := (198, [some (.inr [.index 338]), some (.inl (0, 4))], some (.inl (-2147483648, 2147483647)), [], 0, [], [])
theorem btm29 : bchk bzf bIm bmpm bmqm bjn bgm blpm bspm bdgm bldm [] [] 30000 bkm29 = true := by decide +kernel
theorem bcm29 : bcon bZ bIm bTr bkm29 := bchk_ok bZ_len bzf_ok bTr_ok (fun _ q => absurd q List.not_mem_nil) (fun _ q => absurd q List.not_mem_nil) btm29
-- unlikeIn: 59 steps
def bkm30 : bC := (198, [some (.inr [.index 338]), some (.inl (6, 6))], some (.inl (-2147483648, 2147483647)), [], 0, [], [])
theorem btm30 : bchk bzf bIm bmpm bmqm bjn bgm blpm bspm bdgm bldm [] [] 30000 bkm30 = true := by decide +kernel
theorem bcm30 : bcon bZ bIm bTr bkm30 := bchk_ok bZ_len bzf_ok bTr_ok (fun _ q => absurd q List.not_mem_nil) (fun _ q => absurd q List.not_mem_nil) btm30
-- unlikeIn: 59 steps
def bkm31 : bC := (198, [some (.inr [.index 338]), some (.inl (0, 5))], some (.inl (-2147483648, 2147483647)), [], 0, [], [])
theorem btm31 : bchk bzf bIm bmpm bmqm bjn bgm blpm bspm bdgm bldm [] [] 30000 bkm31 = true := by decide +kernel
theorem bcm31 : bcon bZ bIm bTr bkm31 := bchk_ok bZ_len bzf_ok bTr_ok (fun _ q => absurd q List.not_mem_nil) (fun _ q => absurd q List.not_mem_nil) btm31
-- unlikeIn: 59 steps
def bkm32 : bC := (198, [some (.inr [.index 338]), some (.inl (7, 7))], some (.inl (-2147483648, 2147483647)), [], 0, [], [])
theorem btm32 : bchk bzf bIm bmpm bmqm bjn bgm blpm bspm bdgm bldm [] [] 30000 bkm32 = true := by decide +kernel
theorem bcm32 : bcon bZ bIm bTr bkm32 := bchk_ok bZ_len bzf_ok bTr_ok (fun _ q => absurd q List.not_mem_nil) (fun _ q => absurd q List.not_mem_nil) btm32
-- unlikeIn: 59 steps
def bkm33 : bC := (198, [some (.inr [.index 338]), some (.inl (0, 6))], some (.inl (-2147483648, 2147483647)), [], 0, [], [])
theorem btm33 : bchk bzf bIm bmpm bmqm bjn bgm blpm bspm bdgm bldm [] [] 30000 bkm33 = true := by decide +kernel
theorem bcm33 : bcon bZ bIm bTr bkm33 := bchk_ok bZ_len bzf_ok bTr_ok (fun _ q => absurd q List.not_mem_nil) (fun _ q => absurd q List.not_mem_nil) btm33
-- unlikeIn: 59 steps
def bkm34 : bC := (198, [some (.inr [.index 338]), some (.inl (8, 8))], some (.inl (-2147483648, 2147483647)), [], 0, [], [])
theorem btm34 : bchk bzf bIm bmpm bmqm bjn bgm blpm bspm bdgm bldm [] [] 30000 bkm34 = true := by decide +kernel
theorem bcm34 : bcon bZ bIm bTr bkm34 := bchk_ok bZ_len bzf_ok bTr_ok (fun _ q => absurd q List.not_mem_nil) (fun _ q => absurd q List.not_mem_nil) btm34
-- unlikeIn: 59 steps
def bkm35 : bC := (198, [some (.inr [.index 338]), some (.inl (0, 7))], some (.inl (-2147483648, 2147483647)), [], 0, [], [])
theorem btm35 : bchk bzf bIm bmpm bmqm bjn bgm blpm bspm bdgm bldm [] [] 30000 bkm35 = true := by decide +kernel
theorem bcm35 : bcon bZ bIm bTr bkm35 := bchk_ok bZ_len bzf_ok bTr_ok (fun _ q => absurd q List.not_mem_nil) (fun _ q => absurd q List.not_mem_nil) btm35
-- unlikeIn: 59 steps
def bkm36 : bC := (198, [some (.inr [.index 338]), some (.inl (9, 9))], some (.inl (-2147483648, 2147483647)), [], 0, [], [])
theorem btm36 : bchk bzf bIm bmpm bmqm bjn bgm blpm bspm bdgm bldm [] [] 30000 bkm36 = true := by decide +kernel
theorem bcm36 : bcon bZ bIm bTr bkm36 := bchk_ok bZ_len bzf_ok bTr_ok (fun _ q => absurd q List.not_mem_nil) (fun _ q => absurd q List.not_mem_nil) btm36
-- unlikeIn: 59 steps
def bkm37 : bC := (198, [some (.inr [.index 338]), some (.inl (0, 8))], some (.inl (-2147483648, 2147483647)), [], 0, [], [])
theorem btm37 : bchk bzf bIm bmpm bmqm bjn bgm blpm bspm bdgm bldm [] [] 30000 bkm37 = true := by decide +kernel
theorem bcm37 : bcon bZ bIm bTr bkm37 := bchk_ok bZ_len bzf_ok bTr_ok (fun _ q => absurd q List.not_mem_nil) (fun _ q => absurd q List.not_mem_nil) btm37
-- unlikeIn: 59 steps
def bkm38 : bC := (198, [some (.inr [.index 338]), some (.inl (10, 10))], some (.inl (-2147483648, 2147483647)), [], 0, [], [])
theorem btm38 : bchk bzf bIm bmpm bmqm bjn bgm blpm bspm bdgm bldm [] [] 30000 bkm38 = true := by decide +kernel
theorem bcm38 : bcon bZ bIm bTr bkm38 := bchk_ok bZ_len bzf_ok bTr_ok (fun _ q => absurd q List.not_mem_nil) (fun _ q => absurd q List.not_mem_nil) btm38
-- unlikeIn: 59 steps
def bkm39 : bC := (198, [some (.inr [.index 338]), some (.inl (0, 9))], some (.inl (-2147483648, 2147483647)), [], 0, [], [])
theorem btm39 : bchk bzf bIm bmpm bmqm bjn bgm blpm bspm bdgm bldm [] [] 30000 bkm39 = true := by decide +kernel
theorem bcm39 : bcon bZ bIm bTr bkm39 := bchk_ok bZ_len bzf_ok bTr_ok (fun _ q => absurd q List.not_mem_nil) (fun _ q => absurd q List.not_mem_nil) btm39
-- unlikeIn: 59 steps
def bkm40 : bC := (198, [some (.inr [.index 338]), some (.inl (11, 11))], some (.inl (-2147483648, 2147483647)), [], 0, [], [])
theorem btm40 : bchk bzf bIm bmpm bmqm bjn bgm blpm bspm bdgm bldm [] [] 30000 bkm40 = true := by decide +kernel
theorem bcm40 : bcon bZ bIm bTr bkm40 := bchk_ok bZ_len bzf_ok bTr_ok (fun _ q => absurd q List.not_mem_nil) (fun _ q => absurd q List.not_mem_nil) btm40
-- unlikeIn: 59 steps
def bkm41 : bC := (198, [some (.inr [.index 338]), some (.inl (0, 10))], some (.inl (-2147483648, 2147483647)), [], 0, [], [])
theorem btm41 : bchk bzf bIm bmpm bmqm bjn bgm blpm bspm bdgm bldm [] [] 30000 bkm41 = true := by decide +kernel
theorem bcm41 : bcon bZ bIm bTr bkm41 := bchk_ok bZ_len bzf_ok bTr_ok (fun _ q => absurd q List.not_mem_nil) (fun _ q => absurd q List.not_mem_nil) btm41
-- unlikeIn: 59 steps
def bkm42 : bC := (198, [some (.inr [.index 338]), some (.inl (0, 11))], some (.inl (-2147483648, 2147483647)), [], 0, [], [])
theorem btm42 : bchk bzf bIm bmpm bmqm bjn bgm blpm bspm bdgm bldm [] [] 30000 bkm42 = true := by decide +kernel
theorem bcm42 : bcon bZ bIm bTr bkm42 := bchk_ok bZ_len bzf_ok bTr_ok (fun _ q => absurd q List.not_mem_nil) (fun _ q => absurd q List.not_mem_nil) btm42
-- areAlike: 273 steps
def bkm43 : bC := (144, [some (.inr [.index 342]), some (.inr [.index 343])], some (.inl (0, 1)), [], 0, [], [])
theorem btm43 : bchk bzf bIm bmpm bmqm bjn bgm blpm bspm bdgm bldm [] [] 30000 bkm43 = true := by decide +kernel
theorem bcm43 : bcon bZ bIm bTr bkm43 := bchk_ok bZ_len bzf_ok bTr_ok (fun _ q => absurd q List.not_mem_nil) (fun _ q => absurd q List.not_mem_nil) btm43
-- error: 12 steps
def bkm44 : bC := (135, [some (.inr [.index 338]), some (.inl (2, 2))], some (.inl (-1000002, -1000002)), [(341, 341, 2, 2)], 0, [], [])
theorem btm44 : bchk bzf bIm bmpm bmqm bjn bgm blpm bspm bdgm bldm [] [] 30000 bkm44 = true := by decide +kernel
theorem bcm44 : bcon bZ bIm bTr bkm44 := bchk_ok bZ_len bzf_ok bTr_ok (fun _ q => absurd q List.not_mem_nil) (fun _ q => absurd q List.not_mem_nil) btm44
-- term: 29 steps
def bkm45 : bC := (204, [some (.inr [.index 338])], some (.inl (0, 0)), [(338, 338, 17, 17)], 1, [((338, 16), .inl (13, 13), none)], [((338, 16), .inl (13, 13), none)])
theorem btm45 : bchk bzf bIm bmpm bmqm bjn bgm blpm bspm bdgm bldm [] [] 30000 bkm45 = true := by decide +kernel
theorem bcm45 : bcon bZ bIm bTr bkm45 := bchk_ok bZ_len bzf_ok bTr_ok (fun _ q => absurd q List.not_mem_nil) (fun _ q => absurd q List.not_mem_nil) btm45
-- isSo: 33 steps
def bkm46 : bC := (203, [some (.inr [.index 338]), some (.inl (-2147483648, 59))], some (.inl (0, 1)), [], 0, [], [])
theorem btm46 : bchk bzf bIm bmpm bmqm bjn bgm blpm bspm bdgm bldm [] [] 30000 bkm46 = true := by decide +kernel
theorem bcm46 : bcon bZ bIm bTr bkm46 := bchk_ok bZ_len bzf_ok bTr_ok (fun _ q => absurd q List.not_mem_nil) (fun _ q => absurd q List.not_mem_nil) btm46
-- term: 147 steps
def bkm47 : bC := (204, [some (.inr [.index 338])], some (.inl (0, 1)), [(338, 338, 16, 17)], 2, [((338, 16), .inl (12, 13), none)], [((338, 16), .inl (12, 13), none)])
theorem btm47 : bchk bzf bIm bmpm bmqm bjn bgm blpm bspm bdgm bldm [bkm46, bkm45] [] 30000 bkm47 = true := by decide +kernel
theorem bcm47 : bcon bZ bIm bTr bkm47 := bchk_ok bZ_len bzf_ok bTr_ok (List.forall_mem_cons.mpr ⟨bcm46, List.forall_mem_cons.mpr ⟨bcm45, fun _ q => absurd q List.not_mem_nil⟩⟩) (fun _ q => absurd q List.not_mem_nil) btm47
-- term: 206 steps
def bkm48 : bC := (204, [some (.inr [.index 338])], some (.inl (0, 1)), [(338, 338, 16, 17)], 3, [((338, 16), .inl (11, 13), none)], [((338, 16), .inl (11, 13), none)])
theorem btm48 : bchk bzf bIm bmpm bmqm bjn bgm blpm bspm bdgm bldm [bkm46, bkm47] [] 30000 bkm48 = true := by decide +kernel
theorem bcm48 : bcon bZ bIm bTr bkm48 := bchk_ok bZ_len bzf_ok bTr_ok (List.forall_mem_cons.mpr ⟨bcm46, List.forall_mem_cons.mpr ⟨bcm47, fun _ q => absurd q List.not_mem_nil⟩⟩) (fun _ q => absurd q List.not_mem_nil) btm48
-- term: 262 steps
def bkm49 : bC := (204, [some (.inr [.index 338])], some (.inl (0, 1)), [(338, 338, 16, 17)], 4, [((338, 16), .inl (10, 13), none)], [((338, 16), .inl (10, 13), none)])
theorem btm49 : bchk bzf bIm bmpm bmqm bjn bgm blpm bspm bdgm bldm [bkm46, bkm48] [] 30000 bkm49 = true := by decide +kernel
theorem bcm49 : bcon bZ bIm bTr bkm49 := bchk_ok bZ_len bzf_ok bTr_ok (List.forall_mem_cons.mpr ⟨bcm46, List.forall_mem_cons.mpr ⟨bcm48, fun _ q => absurd q List.not_mem_nil⟩⟩) (fun _ q => absurd q List.not_mem_nil) btm49
-- term: 318 steps
def bkm50 : bC := (204, [some (.inr [.index 338])], some (.inl (0, 1)), [(338, 338, 16, 17)], 5, [((338, 16), .inl (9, 13), none)], [((338, 16), .inl (9, 13), none)])
theorem btm50 : bchk bzf bIm bmpm bmqm bjn bgm blpm bspm bdgm bldm [bkm46, bkm49] [] 30000 bkm50 = true := by decide +kernel
theorem bcm50 : bcon bZ bIm bTr bkm50 := bchk_ok bZ_len bzf_ok bTr_ok (List.forall_mem_cons.mpr ⟨bcm46, List.forall_mem_cons.mpr ⟨bcm49, fun _ q => absurd q List.not_mem_nil⟩⟩) (fun _ q => absurd q List.not_mem_nil) btm50
-- term: 374 steps
def bkm51 : bC := (204, [some (.inr [.index 338])], some (.inl (0, 1)), [(338, 338, 16, 17)], 6, [((338, 16), .inl (8, 13), none)], [((338, 16), .inl (8, 13), none)])
theorem btm51 : bchk bzf bIm bmpm bmqm bjn bgm blpm bspm bdgm bldm [bkm46, bkm50] [] 30000 bkm51 = true := by decide +kernel
theorem bcm51 : bcon bZ bIm bTr bkm51 := bchk_ok bZ_len bzf_ok bTr_ok (List.forall_mem_cons.mpr ⟨bcm46, List.forall_mem_cons.mpr ⟨bcm50, fun _ q => absurd q List.not_mem_nil⟩⟩) (fun _ q => absurd q List.not_mem_nil) btm51
-- term: 430 steps
def bkm52 : bC := (204, [some (.inr [.index 338])], some (.inl (0, 1)), [(338, 338, 16, 17)], 7, [((338, 16), .inl (7, 13), none)], [((338, 16), .inl (7, 13), none)])
theorem btm52 : bchk bzf bIm bmpm bmqm bjn bgm blpm bspm bdgm bldm [bkm46, bkm51] [] 30000 bkm52 = true := by decide +kernel
theorem bcm52 : bcon bZ bIm bTr bkm52 := bchk_ok bZ_len bzf_ok bTr_ok (List.forall_mem_cons.mpr ⟨bcm46, List.forall_mem_cons.mpr ⟨bcm51, fun _ q => absurd q List.not_mem_nil⟩⟩) (fun _ q => absurd q List.not_mem_nil) btm52
-- term: 486 steps
def bkm53 : bC := (204, [some (.inr [.index 338])], some (.inl (0, 1)), [(338, 338, 16, 17)], 8, [((338, 16), .inl (6, 13), none)], [((338, 16), .inl (6, 13), none)])
theorem btm53 : bchk bzf bIm bmpm bmqm bjn bgm blpm bspm bdgm bldm [bkm46, bkm52] [] 30000 bkm53 = true := by decide +kernel
theorem bcm53 : bcon bZ bIm bTr bkm53 := bchk_ok bZ_len bzf_ok bTr_ok (List.forall_mem_cons.mpr ⟨bcm46, List.forall_mem_cons.mpr ⟨bcm52, fun _ q => absurd q List.not_mem_nil⟩⟩) (fun _ q => absurd q List.not_mem_nil) btm53
-- term: 542 steps
def bkm54 : bC := (204, [some (.inr [.index 338])], some (.inl (0, 1)), [(338, 338, 16, 17)], 9, [((338, 16), .inl (5, 13), none)], [((338, 16), .inl (5, 13), none)])
theorem btm54 : bchk bzf bIm bmpm bmqm bjn bgm blpm bspm bdgm bldm [bkm46, bkm53] [] 30000 bkm54 = true := by decide +kernel
theorem bcm54 : bcon bZ bIm bTr bkm54 := bchk_ok bZ_len bzf_ok bTr_ok (List.forall_mem_cons.mpr ⟨bcm46, List.forall_mem_cons.mpr ⟨bcm53, fun _ q => absurd q List.not_mem_nil⟩⟩) (fun _ q => absurd q List.not_mem_nil) btm54
-- term: 598 steps
def bkm55 : bC := (204, [some (.inr [.index 338])], some (.inl (0, 1)), [(338, 338, 16, 17)], 10, [((338, 16), .inl (4, 13), none)], [((338, 16), .inl (4, 13), none)])
theorem btm55 : bchk bzf bIm bmpm bmqm bjn bgm blpm bspm bdgm bldm [bkm46, bkm54] [] 30000 bkm55 = true := by decide +kernel
theorem bcm55 : bcon bZ bIm bTr bkm55 := bchk_ok bZ_len bzf_ok bTr_ok (List.forall_mem_cons.mpr ⟨bcm46, List.forall_mem_cons.mpr ⟨bcm54, fun _ q => absurd q List.not_mem_nil⟩⟩) (fun _ q => absurd q List.not_mem_nil) btm55
-- term: 654 steps
def bkm56 : bC := (204, [some (.inr [.index 338])], some (.inl (0, 1)), [(338, 338, 16, 17)], 11, [((338, 16), .inl (3, 13), none)], [((338, 16), .inl (3, 13), none)])
theorem btm56 : bchk bzf bIm bmpm bmqm bjn bgm blpm bspm bdgm bldm [bkm46, bkm55] [] 30000 bkm56 = true := by decide +kernel
theorem bcm56 : bcon bZ bIm bTr bkm56 := bchk_ok bZ_len bzf_ok bTr_ok (List.forall_mem_cons.mpr ⟨bcm46, List.forall_mem_cons.mpr ⟨bcm55, fun _ q => absurd q List.not_mem_nil⟩⟩) (fun _ q => absurd q List.not_mem_nil) btm56
-- term: 710 steps
def bkm57 : bC := (204, [some (.inr [.index 338])], some (.inl (0, 1)), [(338, 338, 16, 17)], 12, [((338, 16), .inl (2, 13), none)], [((338, 16), .inl (2, 13), none)])
theorem btm57 : bchk bzf bIm bmpm bmqm bjn bgm blpm bspm bdgm bldm [bkm46, bkm56] [] 30000 bkm57 = true := by decide +kernel
theorem bcm57 : bcon bZ bIm bTr bkm57 := bchk_ok bZ_len bzf_ok bTr_ok (List.forall_mem_cons.mpr ⟨bcm46, List.forall_mem_cons.mpr ⟨bcm56, fun _ q => absurd q List.not_mem_nil⟩⟩) (fun _ q => absurd q List.not_mem_nil) btm57
