-- ===== contracts
-- term: 710 steps
def bkm30 : bC := (204, [some (.inr [.index 338])], some (.inl (0, 1)), [(338, 338)], 12, [((338, 16), 2, 13)], [((338, 16), 2, 13)])
theorem btm30 : bchk bzf bIm bmpm bmqm bjn bgm blpm bspm bdgm bldm [bkm19, bkm29] 30000 bkm30 = true := by decide +kernel
theorem bcm30 : bcon bZ bIm bkm30 := bchk_ok bZ_len bzf_ok (List.forall_mem_cons.mpr ⟨bcm19, List.forall_mem_cons.mpr ⟨bcm29, fun _ q => absurd q List.not_mem_nil⟩⟩) btm30
-- term: 766 steps
def bkm31 : bC := (204, [some (.inr [.index 338])], some (.inl (0, 1)), [(338, 338)], 13, [((338, 16), 1, 13)], [((338, 16), 1, 13)])
theorem btm31 : bchk bzf bIm bmpm bmqm bjn bgm blpm bspm bdgm bldm [bkm19, bkm30] 30000 bkm31 = true := by decide +kernel
theorem bcm31 : bcon bZ bIm bkm31 := bchk_ok bZ_len bzf_ok (List.forall_mem_cons.mpr ⟨bcm19, List.forall_mem_cons.mpr ⟨bcm30, fun _ q => absurd q List.not_mem_nil⟩⟩) btm31
-- saying: 1175 steps
def bkm32 : bC := (205, [some (.inr [.index 338])], some (.inl (0, 1)), [(338, 338)], 14, [], [])
theorem btm32 : bchk bzf bIm bmpm bmqm bjn bgm blpm bspm bdgm bldm [bkm18, bkm20, bkm21, bkm22, bkm23, bkm24, bkm25, bkm26, bkm27, bkm28, bkm29, bkm30, bkm31] 30000 bkm32 = true := by decide +kernel
theorem bcm32 : bcon bZ bIm bkm32 := bchk_ok bZ_len bzf_ok (List.forall_mem_cons.mpr ⟨bcm18, List.forall_mem_cons.mpr ⟨bcm20, List.forall_mem_cons.mpr ⟨bcm21, List.forall_mem_cons.mpr ⟨bcm22, List.forall_mem_cons.mpr ⟨bcm23, List.forall_mem_cons.mpr ⟨bcm24, List.forall_mem_cons.mpr ⟨bcm25, List.forall_mem_cons.mpr ⟨bcm26, List.forall_mem_cons.mpr ⟨bcm27, List.forall_mem_cons.mpr ⟨bcm28, List.forall_mem_cons.mpr ⟨bcm29, List.forall_mem_cons.mpr ⟨bcm30, List.forall_mem_cons.mpr ⟨bcm31, fun _ q => absurd q List.not_mem_nil⟩⟩⟩⟩⟩⟩⟩⟩⟩⟩⟩⟩⟩) btm32
-- error: 12 steps
def bkm33 : bC := (135, [some (.inr [.index 338]), some (.inl (2, 2))], some (.inl (-1000002, -1000002)), [(341, 341)], 0, [], [])
theorem btm33 : bchk bzf bIm bmpm bmqm bjn bgm blpm bspm bdgm bldm [] 30000 bkm33 = true := by decide +kernel
theorem bcm33 : bcon bZ bIm bkm33 := bchk_ok bZ_len bzf_ok (fun _ q => absurd q List.not_mem_nil) btm33
-- comes: 1196 steps
def bkm34 : bC := (210, [some (.inr [.index 338])], none, [(339, 339)], 1, [], [])
theorem btm34 : bchk bzf bIm bmpm bmqm bjn bgm blpm bspm bdgm bldm [] 30000 bkm34 = true := by decide +kernel
theorem bcm34 : bcon bZ bIm bkm34 := bchk_ok bZ_len bzf_ok (fun _ q => absurd q List.not_mem_nil) btm34
-- begins: 17 steps
def bkm35 : bC := (218, [some (.inr [.index 338]), some (.inl (13, 13))], none, [(338, 338), (349, 349)], 0, [], [])
theorem btm35 : bchk bzf bIm bmpm bmqm bjn bgm blpm bspm bdgm bldm [] 30000 bkm35 = true := by decide +kernel
theorem bcm35 : bcon bZ bIm bkm35 := bchk_ok bZ_len bzf_ok (fun _ q => absurd q List.not_mem_nil) btm35
-- begins: 17 steps
def bkm36 : bC := (218, [some (.inr [.index 338]), some (.inl (20, 23))], none, [(338, 338), (349, 349)], 0, [], [])
theorem btm36 : bchk bzf bIm bmpm bmqm bjn bgm blpm bspm bdgm bldm [] 30000 bkm36 = true := by decide +kernel
theorem bcm36 : bcon bZ bIm bkm36 := bchk_ok bZ_len bzf_ok (fun _ q => absurd q List.not_mem_nil) btm36
-- waitsBy: 80 steps
def bkm37 : bC := (224, [some (.inr [.index 338]), some (.inl (0, 0)), some (.inl (-2147483648, 2147483647))], some (.inl (-2147483648, 2147483647)), [(338, 338), (349, 349)], 1, [], [])
theorem btm37 : bchk bzf bIm bmpm bmqm bjn bgm blpm bspm bdgm bldm [bkm35] 30000 bkm37 = true := by decide +kernel
theorem bcm37 : bcon bZ bIm bkm37 := bchk_ok bZ_len bzf_ok (List.forall_mem_cons.mpr ⟨bcm35, fun _ q => absurd q List.not_mem_nil⟩) btm37
-- begins: 17 steps
def bkm38 : bC := (218, [some (.inr [.index 338]), some (.inl (11, 11))], none, [(338, 338), (349, 349)], 0, [], [])
theorem btm38 : bchk bzf bIm bmpm bmqm bjn bgm blpm bspm bdgm bldm [] 30000 bkm38 = true := by decide +kernel
theorem bcm38 : bcon bZ bIm bkm38 := bchk_ok bZ_len bzf_ok (fun _ q => absurd q List.not_mem_nil) btm38
-- begins: 17 steps
def bkm39 : bC := (218, [some (.inr [.index 338]), some (.inl (10, 10))], none, [(338, 338), (349, 349)], 0, [], [])
theorem btm39 : bchk bzf bIm bmpm bmqm bjn bgm blpm bspm bdgm bldm [] 30000 bkm39 = true := by decide +kernel
theorem bcm39 : bcon bZ bIm bkm39 := bchk_ok bZ_len bzf_ok (fun _ q => absurd q List.not_mem_nil) btm39
-- turnsBy: 10 steps
def bkm40 : bC := (221, [some (.inr [.index 338]), some (.inl (0, 0)), some (.inl (-2147483648, 2147483647))], some (.inl (-2147483648, 2147483647)), [(338, 338), (349, 349)], 1, [], [])
theorem btm40 : bchk bzf bIm bmpm bmqm bjn bgm blpm bspm bdgm bldm [bkm39] 30000 bkm40 = true := by decide +kernel
theorem bcm40 : bcon bZ bIm bkm40 := bchk_ok bZ_len bzf_ok (List.forall_mem_cons.mpr ⟨bcm39, fun _ q => absurd q List.not_mem_nil⟩) btm40
-- turnsBy: 24 steps
def bkm41 : bC := (221, [some (.inr [.index 338]), some (.inl (1, 1)), some (.inl (-2147483648, 2147483647))], some (.inl (-2147483648, 2147483647)), [(338, 338), (349, 349)], 2, [], [])
theorem btm41 : bchk bzf bIm bmpm bmqm bjn bgm blpm bspm bdgm bldm [bkm36, bkm40] 30000 bkm41 = true := by decide +kernel
theorem bcm41 : bcon bZ bIm bkm41 := bchk_ok bZ_len bzf_ok (List.forall_mem_cons.mpr ⟨bcm36, List.forall_mem_cons.mpr ⟨bcm40, fun _ q => absurd q List.not_mem_nil⟩⟩) btm41
-- begins: 17 steps
def bkm42 : bC := (218, [some (.inr [.index 338]), some (.inl (40, 59))], none, [(338, 338), (349, 349)], 0, [], [])
theorem btm42 : bchk bzf bIm bmpm bmqm bjn bgm blpm bspm bdgm bldm [] 30000 bkm42 = true := by decide +kernel
theorem bcm42 : bcon bZ bIm bkm42 := bchk_ok bZ_len bzf_ok (fun _ q => absurd q List.not_mem_nil) btm42
-- turnsBy: 24 steps
def bkm43 : bC := (221, [some (.inr [.index 338]), some (.inl (4, 4)), some (.inl (-2147483648, 2147483647))], some (.inl (-2147483648, 2147483647)), [(338, 338), (349, 349)], 2, [], [])
theorem btm43 : bchk bzf bIm bmpm bmqm bjn bgm blpm bspm bdgm bldm [bkm42, bkm40] 30000 bkm43 = true := by decide +kernel
theorem bcm43 : bcon bZ bIm bkm43 := bchk_ok bZ_len bzf_ok (List.forall_mem_cons.mpr ⟨bcm42, List.forall_mem_cons.mpr ⟨bcm40, fun _ q => absurd q List.not_mem_nil⟩⟩) btm43
-- begins: 17 steps
def bkm44 : bC := (218, [some (.inr [.index 338]), some (.inl (64, 72))], none, [(338, 338), (349, 349)], 0, [], [])
theorem btm44 : bchk bzf bIm bmpm bmqm bjn bgm blpm bspm bdgm bldm [] 30000 bkm44 = true := by decide +kernel
theorem bcm44 : bcon bZ bIm bkm44 := bchk_ok bZ_len bzf_ok (fun _ q => absurd q List.not_mem_nil) btm44
-- turnsBy: 118 steps
def bkm45 : bC := (221, [some (.inr [.index 338]), some (.inl (0, 6)), some (.inl (-2147483648, 2147483647))], some (.inl (-2147483648, 2147483647)), [(338, 338), (349, 349)], 3, [], [])
theorem btm45 : bchk bzf bIm bmpm bmqm bjn bgm blpm bspm bdgm bldm [bkm39, bkm36, bkm42, bkm44, bkm40, bkm41, bkm43] 30000 bkm45 = true := by decide +kernel
theorem bcm45 : bcon bZ bIm bkm45 := bchk_ok bZ_len bzf_ok (List.forall_mem_cons.mpr ⟨bcm39, List.forall_mem_cons.mpr ⟨bcm36, List.forall_mem_cons.mpr ⟨bcm42, List.forall_mem_cons.mpr ⟨bcm44, List.forall_mem_cons.mpr ⟨bcm40, List.forall_mem_cons.mpr ⟨bcm41, List.forall_mem_cons.mpr ⟨bcm43, fun _ q => absurd q List.not_mem_nil⟩⟩⟩⟩⟩⟩⟩) btm45
-- sendsBy: 30 steps
def bkm46 : bC := (222, [some (.inr [.index 338]), some (.inl (0, 0)), some (.inl (-2147483648, 2147483647))], some (.inl (-2147483648, 2147483647)), [(338, 338), (349, 349)], 4, [], [])
theorem btm46 : bchk bzf bIm bmpm bmqm bjn bgm blpm bspm bdgm bldm [bkm38, bkm45] 30000 bkm46 = true := by decide +kernel
theorem bcm46 : bcon bZ bIm bkm46 := bchk_ok bZ_len bzf_ok (List.forall_mem_cons.mpr ⟨bcm38, List.forall_mem_cons.mpr ⟨bcm45, fun _ q => absurd q List.not_mem_nil⟩⟩) btm46
-- begins: 17 steps
def bkm47 : bC := (218, [some (.inr [.index 338]), some (.inl (30, 30))], none, [(338, 338), (349, 349)], 0, [], [])
theorem btm47 : bchk bzf bIm bmpm bmqm bjn bgm blpm bspm bdgm bldm [] 30000 bkm47 = true := by decide +kernel
theorem bcm47 : bcon bZ bIm bkm47 := bchk_ok bZ_len bzf_ok (fun _ q => absurd q List.not_mem_nil) btm47
-- sendsBy: 19 steps
def bkm48 : bC := (222, [some (.inr [.index 338]), some (.inl (1, 1)), some (.inl (-2147483648, 2147483647))], some (.inl (-2147483648, 2147483647)), [(338, 338), (349, 349)], 5, [], [])
theorem btm48 : bchk bzf bIm bmpm bmqm bjn bgm blpm bspm bdgm bldm [bkm46] 30000 bkm48 = true := by decide +kernel
theorem bcm48 : bcon bZ bIm bkm48 := bchk_ok bZ_len bzf_ok (List.forall_mem_cons.mpr ⟨bcm46, fun _ q => absurd q List.not_mem_nil⟩) btm48
-- begins: 17 steps
def bkm49 : bC := (218, [some (.inr [.index 338]), some (.inl (60, 60))], none, [(338, 338), (349, 349)], 0, [], [])
theorem btm49 : bchk bzf bIm bmpm bmqm bjn bgm blpm bspm bdgm bldm [] 30000 bkm49 = true := by decide +kernel
theorem bcm49 : bcon bZ bIm bkm49 := bchk_ok bZ_len bzf_ok (fun _ q => absurd q List.not_mem_nil) btm49
-- sendsBy: 19 steps
def bkm50 : bC := (222, [some (.inr [.index 338]), some (.inl (4, 4)), some (.inl (-2147483648, 2147483647))], some (.inl (-2147483648, 2147483647)), [(338, 338), (349, 349)], 5, [], [])
theorem btm50 : bchk bzf bIm bmpm bmqm bjn bgm blpm bspm bdgm bldm [bkm46] 30000 bkm50 = true := by decide +kernel
theorem bcm50 : bcon bZ bIm bkm50 := bchk_ok bZ_len bzf_ok (List.forall_mem_cons.mpr ⟨bcm46, fun _ q => absurd q List.not_mem_nil⟩) btm50
-- sendsBy: 148 steps
def bkm51 : bC := (222, [some (.inr [.index 338]), some (.inl (0, 6)), some (.inl (-2147483648, 2147483647))], some (.inl (-2147483648, 2147483647)), [(338, 338), (349, 349)], 6, [], [])
theorem btm51 : bchk bzf bIm bmpm bmqm bjn bgm blpm bspm bdgm bldm [bkm38, bkm47, bkm49, bkm45, bkm46, bkm48, bkm50] 30000 bkm51 = true := by decide +kernel
theorem bcm51 : bcon bZ bIm bkm51 := bchk_ok bZ_len bzf_ok (List.forall_mem_cons.mpr ⟨bcm38, List.forall_mem_cons.mpr ⟨bcm47, List.forall_mem_cons.mpr ⟨bcm49, List.forall_mem_cons.mpr ⟨bcm45, List.forall_mem_cons.mpr ⟨bcm46, List.forall_mem_cons.mpr ⟨bcm48, List.forall_mem_cons.mpr ⟨bcm50, fun _ q => absurd q List.not_mem_nil⟩⟩⟩⟩⟩⟩⟩) btm51
-- waitsBy: 55 steps
def bkm52 : bC := (224, [some (.inr [.index 338]), some (.inl (1, 1)), some (.inl (-2147483648, 2147483647))], some (.inl (-2147483648, 2147483647)), [(338, 338), (349, 349)], 7, [], [])
theorem btm52 : bchk bzf bIm bmpm bmqm bjn bgm blpm bspm bdgm bldm [bkm36, bkm51, bkm37] 30000 bkm52 = true := by decide +kernel
theorem bcm52 : bcon bZ bIm bkm52 := bchk_ok bZ_len bzf_ok (List.forall_mem_cons.mpr ⟨bcm36, List.forall_mem_cons.mpr ⟨bcm51, List.forall_mem_cons.mpr ⟨bcm37, fun _ q => absurd q List.not_mem_nil⟩⟩⟩) btm52
-- waitsBy: 21 steps
def bkm53 : bC := (224, [some (.inr [.index 338]), some (.inl (4, 4)), some (.inl (-2147483648, 2147483647))], some (.inl (-2147483648, 2147483647)), [(338, 338), (349, 349)], 2, [], [])
theorem btm53 : bchk bzf bIm bmpm bmqm bjn bgm blpm bspm bdgm bldm [bkm37] 30000 bkm53 = true := by decide +kernel
theorem bcm53 : bcon bZ bIm bkm53 := bchk_ok bZ_len bzf_ok (List.forall_mem_cons.mpr ⟨bcm37, fun _ q => absurd q List.not_mem_nil⟩) btm53
-- begins: 17 steps
def bkm54 : bC := (218, [some (.inr [.index 338]), some (.inl (12, 12))], none, [(338, 338), (349, 349)], 0, [], [])
theorem btm54 : bchk bzf bIm bmpm bmqm bjn bgm blpm bspm bdgm bldm [] 30000 bkm54 = true := by decide +kernel
theorem bcm54 : bcon bZ bIm bkm54 := bchk_ok bZ_len bzf_ok (fun _ q => absurd q List.not_mem_nil) btm54
-- keepsBy: 45 steps
def bkm55 : bC := (223, [some (.inr [.index 338]), some (.inl (0, 0)), some (.inl (-2147483648, 2147483647))], some (.inl (-2147483648, 2147483647)), [(338, 338), (349, 349)], 7, [], [])
theorem btm55 : bchk bzf bIm bmpm bmqm bjn bgm blpm bspm bdgm bldm [bkm54, bkm51] 30000 bkm55 = true := by decide +kernel
theorem bcm55 : bcon bZ bIm bkm55 := bchk_ok bZ_len bzf_ok (List.forall_mem_cons.mpr ⟨bcm54, List.forall_mem_cons.mpr ⟨bcm51, fun _ q => absurd q List.not_mem_nil⟩⟩) btm55
-- keepsBy: 19 steps
def bkm56 : bC := (223, [some (.inr [.index 338]), some (.inl (1, 1)), some (.inl (-2147483648, 2147483647))], some (.inl (-2147483648, 2147483647)), [(338, 338), (349, 349)], 8, [], [])
theorem btm56 : bchk bzf bIm bmpm bmqm bjn bgm blpm bspm bdgm bldm [bkm55] 30000 bkm56 = true := by decide +kernel
theorem bcm56 : bcon bZ bIm bkm56 := bchk_ok bZ_len bzf_ok (List.forall_mem_cons.mpr ⟨bcm55, fun _ q => absurd q List.not_mem_nil⟩) btm56
-- keepsBy: 25 steps
def bkm57 : bC := (223, [some (.inr [.index 338]), some (.inl (4, 4)), some (.inl (-2147483648, 2147483647))], some (.inl (-2147483648, 2147483647)), [(338, 338), (349, 349)], 8, [], [])
theorem btm57 : bchk bzf bIm bmpm bmqm bjn bgm blpm bspm bdgm bldm [bkm42, bkm55] 30000 bkm57 = true := by decide +kernel
theorem bcm57 : bcon bZ bIm bkm57 := bchk_ok bZ_len bzf_ok (List.forall_mem_cons.mpr ⟨bcm42, List.forall_mem_cons.mpr ⟨bcm55, fun _ q => absurd q List.not_mem_nil⟩⟩) btm57
-- keepsBy: 164 steps
def bkm58 : bC := (223, [some (.inr [.index 338]), some (.inl (0, 6)), some (.inl (-2147483648, 2147483647))], some (.inl (-2147483648, 2147483647)), [(338, 338), (349, 349)], 9, [], [])
theorem btm58 : bchk bzf bIm bmpm bmqm bjn bgm blpm bspm bdgm bldm [bkm54, bkm42, bkm51, bkm55, bkm56, bkm57] 30000 bkm58 = true := by decide +kernel
theorem bcm58 : bcon bZ bIm bkm58 := bchk_ok bZ_len bzf_ok (List.forall_mem_cons.mpr ⟨bcm54, List.forall_mem_cons.mpr ⟨bcm42, List.forall_mem_cons.mpr ⟨bcm51, List.forall_mem_cons.mpr ⟨bcm55, List.forall_mem_cons.mpr ⟨bcm56, List.forall_mem_cons.mpr ⟨bcm57, fun _ q => absurd q List.not_mem_nil⟩⟩⟩⟩⟩⟩) btm58
-- waitsBy: 268 steps
def bkm59 : bC := (224, [some (.inr [.index 338]), some (.inl (0, 6)), some (.inl (-2147483648, 2147483647))], some (.inl (-2147483648, 2147483647)), [(338, 338), (349, 349)], 10, [], [])
theorem btm59 : bchk bzf bIm bmpm bmqm bjn bgm blpm bspm bdgm bldm [bkm35, bkm36, bkm44, bkm51, bkm58, bkm37, bkm52, bkm53] 30000 bkm59 = true := by decide +kernel
theorem bcm59 : bcon bZ bIm bkm59 := bchk_ok bZ_len bzf_ok (List.forall_mem_cons.mpr ⟨bcm35, List.forall_mem_cons.mpr ⟨bcm36, List.forall_mem_cons.mpr ⟨bcm44, List.forall_mem_cons.mpr ⟨bcm51, List.forall_mem_cons.mpr ⟨bcm58, List.forall_mem_cons.mpr ⟨bcm37, List.forall_mem_cons.mpr ⟨bcm52, List.forall_mem_cons.mpr ⟨bcm53, fun _ q => absurd q List.not_mem_nil⟩⟩⟩⟩⟩⟩⟩⟩) btm59
-- error: 12 steps
def bkm60 : bC := (135, [some (.inr [.index 338]), some (.inl (6, 6))], some (.inl (-1000006, -1000006)), [(341, 341)], 0, [], [])
theorem btm60 : bchk bzf bIm bmpm bmqm bjn bgm blpm bspm bdgm bldm [] 30000 bkm60 = true := by decide +kernel
theorem bcm60 : bcon bZ bIm bkm60 := bchk_ok bZ_len bzf_ok (fun _ q => absurd q List.not_mem_nil) btm60
-- call: 37 steps
def bkm61 : bC := (159, [some (.inr [.index 338])], some (.inl (-1000004, 11)), [(338, 353)], 1, [], [])
theorem btm61 : bchk bzf bIm bmpm bmqm bjn bgm blpm bspm bdgm bldm [bkm0] 30000 bkm61 = true := by decide +kernel
theorem bcm61 : bcon bZ bIm bkm61 := bchk_ok bZ_len bzf_ok (List.forall_mem_cons.mpr ⟨bcm0, fun _ q => absurd q List.not_mem_nil⟩) btm61
-- sound: 1501 steps
def bkm62 : bC := (160, [some (.inr [.index 338]), some (.inl (-2147483648, 2147483647)), some (.inl (-2147483648, 2147483647))], some (.inl (-1000004, 12)), [(338, 353)], 2, [], [])
theorem btm62 : bchk bzf bIm bmpm bmqm bjn bgm blpm bspm bdgm bldm [bkm1, bkm0] 30000 bkm62 = true := by decide +kernel
theorem bcm62 : bcon bZ bIm bkm62 := bchk_ok bZ_len bzf_ok (List.forall_mem_cons.mpr ⟨bcm1, List.forall_mem_cons.mpr ⟨bcm0, fun _ q => absurd q List.not_mem_nil⟩⟩) btm62
-- soundOf: 63 steps
def bkm63 : bC := (162, [some (.inr [.index 338]), some (.inl (-2147483648, 2147483647)), some (.inl (-2147483648, 2147483647))], some (.inl (-2147483648, 2147483647)), [(338, 353)], 2, [], [])
theorem btm63 : bchk bzf bIm bmpm bmqm bjn bgm blpm bspm bdgm bldm [bkm1, bkm2] 30000 bkm63 = true := by decide +kernel
theorem bcm63 : bcon bZ bIm bkm63 := bchk_ok bZ_len bzf_ok (List.forall_mem_cons.mpr ⟨bcm1, List.forall_mem_cons.mpr ⟨bcm2, fun _ q => absurd q List.not_mem_nil⟩⟩) btm63
-- hush: 52 steps
def bkm64 : bC := (163, [some (.inr [.index 338]), some (.inl (-2147483648, 2147483647))], some (.inl (-1000001, 12)), [(338, 353)], 2, [], [])
theorem btm64 : bchk bzf bIm bmpm bmqm bjn bgm blpm bspm bdgm bldm [bkm1] 30000 bkm64 = true := by decide +kernel
theorem bcm64 : bcon bZ bIm bkm64 := bchk_ok bZ_len bzf_ok (List.forall_mem_cons.mpr ⟨bcm1, fun _ q => absurd q List.not_mem_nil⟩) btm64
-- draw: 170 steps
def bkm65 : bC := (165, [some (.inr [.index 338]), some (.inl (-2147483648, 2147483647)), some (.inl (-2147483648, 2147483647))], some (.inl (-2147483648, 2147483647)), [(338, 353)], 2, [], [])
theorem btm65 : bchk bzf bIm bmpm bmqm bjn bgm blpm bspm bdgm bldm [bkm1, bkm3] 30000 bkm65 = true := by decide +kernel
theorem bcm65 : bcon bZ bIm bkm65 := bchk_ok bZ_len bzf_ok (List.forall_mem_cons.mpr ⟨bcm1, List.forall_mem_cons.mpr ⟨bcm3, fun _ q => absurd q List.not_mem_nil⟩⟩) btm65
-- contrary: 54 steps
def bkm66 : bC := (166, [some (.inr [.index 338]), some (.inl (-2147483648, 2147483647))], some (.inl (-2147483648, 2147483647)), [(338, 353)], 2, [], [])
theorem btm66 : bchk bzf bIm bmpm bmqm bjn bgm blpm bspm bdgm bldm [bkm1, bkm3] 30000 bkm66 = true := by decide +kernel
theorem bcm66 : bcon bZ bIm bkm66 := bchk_ok bZ_len bzf_ok (List.forall_mem_cons.mpr ⟨bcm1, List.forall_mem_cons.mpr ⟨bcm3, fun _ q => absurd q List.not_mem_nil⟩⟩) btm66
