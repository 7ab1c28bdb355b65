-- ===== contracts
-- term: 710 steps
def bkm41 : bC := (204, [some (.inr [.index 338])], some (.inl (0, 1)), [(338, 338, 16, 17)], 12, [((338, 16), .inl (2, 13), none)], [((338, 16), .inl (2, 13), none)])
theorem btm41 : bchk bzf bIm bmpm bmqm bjn bgm blpm bspm bdgm bldm [bkm30, bkm40] [] 30000 bkm41 = true := by decide +kernel
theorem bcm41 : bcon bZ bIm bTr bkm41 := bchk_ok bZ_len bzf_ok bTr_ok (List.forall_mem_cons.mpr ⟨bcm30, List.forall_mem_cons.mpr ⟨bcm40, fun _ q => absurd q List.not_mem_nil⟩⟩) (fun _ q => absurd q List.not_mem_nil) btm41
-- term: 766 steps
def bkm42 : bC := (204, [some (.inr [.index 338])], some (.inl (0, 1)), [(338, 338, 16, 17)], 13, [((338, 16), .inl (1, 13), none)], [((338, 16), .inl (1, 13), none)])
theorem btm42 : bchk bzf bIm bmpm bmqm bjn bgm blpm bspm bdgm bldm [bkm30, bkm41] [] 30000 bkm42 = true := by decide +kernel
theorem bcm42 : bcon bZ bIm bTr bkm42 := bchk_ok bZ_len bzf_ok bTr_ok (List.forall_mem_cons.mpr ⟨bcm30, List.forall_mem_cons.mpr ⟨bcm41, fun _ q => absurd q List.not_mem_nil⟩⟩) (fun _ q => absurd q List.not_mem_nil) btm42
-- saying: 1175 steps
def bkm43 : bC := (205, [some (.inr [.index 338])], some (.inl (0, 1)), [(338, 338, 16, 17)], 14, [], [])
theorem btm43 : bchk bzf bIm bmpm bmqm bjn bgm blpm bspm bdgm bldm [bkm29, bkm31, bkm32, bkm33, bkm34, bkm35, bkm36, bkm37, bkm38, bkm39, bkm40, bkm41, bkm42] [] 30000 bkm43 = true := by decide +kernel
theorem bcm43 : bcon bZ bIm bTr bkm43 := bchk_ok bZ_len bzf_ok bTr_ok (List.forall_mem_cons.mpr ⟨bcm29, List.forall_mem_cons.mpr ⟨bcm31, List.forall_mem_cons.mpr ⟨bcm32, List.forall_mem_cons.mpr ⟨bcm33, List.forall_mem_cons.mpr ⟨bcm34, List.forall_mem_cons.mpr ⟨bcm35, List.forall_mem_cons.mpr ⟨bcm36, List.forall_mem_cons.mpr ⟨bcm37, List.forall_mem_cons.mpr ⟨bcm38, List.forall_mem_cons.mpr ⟨bcm39, List.forall_mem_cons.mpr ⟨bcm40, List.forall_mem_cons.mpr ⟨bcm41, List.forall_mem_cons.mpr ⟨bcm42, fun _ q => absurd q List.not_mem_nil⟩⟩⟩⟩⟩⟩⟩⟩⟩⟩⟩⟩⟩) (fun _ q => absurd q List.not_mem_nil) btm43
-- comes: 1196 steps
def bkm44 : bC := (210, [some (.inr [.index 338])], none, [(339, 339, 3, 4), (339, 339, 190, 433)], 1, [], [])
theorem btm44 : bchk bzf bIm bmpm bmqm bjn bgm blpm bspm bdgm bldm [] [] 30000 bkm44 = true := by decide +kernel
theorem bcm44 : bcon bZ bIm bTr bkm44 := bchk_ok bZ_len bzf_ok bTr_ok (fun _ q => absurd q List.not_mem_nil) (fun _ q => absurd q List.not_mem_nil) btm44
-- offers: 81 steps
def bkm45 : bC := (214, [some (.inr [.index 338]), some (.inl (-2147483648, 2147483647)), some (.inl (-2147483648, 2147483647)), some (.inl (0, 0)), some (.inl (0, 59))], some (.inl (-20, 19)), [(346, 346, 98, 98), (346, 346, 104, 104), (346, 346, 111, 111), (346, 346, 116, 116), (347, 347, 0, 63)], 2, [], [])
theorem btm45 : bchk bzf bIm bmpm bmqm bjn bgm blpm bspm bdgm bldm [bkmWorked] [] 30000 bkm45 = true := by decide +kernel
theorem bcm45 : bcon bZ bIm bXm bkm45 := bchk_ok bZ_len bzf_ok (bxw_ok (by decide)) (List.forall_mem_cons.mpr ⟨bcmWorked, fun _ q => absurd q List.not_mem_nil⟩) (fun _ q => absurd q List.not_mem_nil) btm45
-- offers: 81 steps
def bkm46 : bC := (214, [some (.inr [.index 338]), some (.inl (-2147483648, 2147483647)), some (.inl (-2147483648, 2147483647)), some (.inl (1, 1)), some (.inl (0, 59))], some (.inl (-20, 19)), [(346, 346, 98, 98), (346, 346, 104, 104), (346, 346, 111, 111), (346, 346, 116, 116), (347, 347, 0, 63)], 2, [], [])
theorem btm46 : bchk bzf bIm bmpm bmqm bjn bgm blpm bspm bdgm bldm [bkmWorked] [] 30000 bkm46 = true := by decide +kernel
theorem bcm46 : bcon bZ bIm bXm bkm46 := bchk_ok bZ_len bzf_ok (bxw_ok (by decide)) (List.forall_mem_cons.mpr ⟨bcmWorked, fun _ q => absurd q List.not_mem_nil⟩) (fun _ q => absurd q List.not_mem_nil) btm46
-- begins: 17 steps
def bkm47 : bC := (218, [some (.inr [.index 338]), some (.inl (13, 13))], none, [(338, 338, 19, 19), (349, 349, 0, 29)], 0, [], [])
theorem btm47 : bchk bzf bIm bmpm bmqm bjn bgm blpm bspm bdgm bldm [] [] 30000 bkm47 = true := by decide +kernel
theorem bcm47 : bcon bZ bIm bTr bkm47 := bchk_ok bZ_len bzf_ok bTr_ok (fun _ q => absurd q List.not_mem_nil) (fun _ q => absurd q List.not_mem_nil) btm47
-- begins: 17 steps
def bkm48 : bC := (218, [some (.inr [.index 338]), some (.inl (20, 23))], none, [(338, 338, 19, 19), (349, 349, 0, 29)], 0, [], [])
theorem btm48 : bchk bzf bIm bmpm bmqm bjn bgm blpm bspm bdgm bldm [] [] 30000 bkm48 = true := by decide +kernel
theorem bcm48 : bcon bZ bIm bTr bkm48 := bchk_ok bZ_len bzf_ok bTr_ok (fun _ q => absurd q List.not_mem_nil) (fun _ q => absurd q List.not_mem_nil) btm48
-- waitsBy: 80 steps
def bkm49 : bC := (224, [some (.inr [.index 338]), some (.inl (0, 0)), some (.inl (-2147483648, 2147483647))], some (.inl (-2147483648, 2147483647)), [(338, 338, 19, 19), (338, 338, 21, 21), (349, 349, 0, 29)], 1, [], [])
theorem btm49 : bchk bzf bIm bmpm bmqm bjn bgm blpm bspm bdgm bldm [bkm47] [] 30000 bkm49 = true := by decide +kernel
theorem bcm49 : bcon bZ bIm bTr bkm49 := bchk_ok bZ_len bzf_ok bTr_ok (List.forall_mem_cons.mpr ⟨bcm47, fun _ q => absurd q List.not_mem_nil⟩) (fun _ q => absurd q List.not_mem_nil) btm49
-- begins: 17 steps
def bkm50 : bC := (218, [some (.inr [.index 338]), some (.inl (11, 11))], none, [(338, 338, 19, 19), (349, 349, 0, 29)], 0, [], [])
theorem btm50 : bchk bzf bIm bmpm bmqm bjn bgm blpm bspm bdgm bldm [] [] 30000 bkm50 = true := by decide +kernel
theorem bcm50 : bcon bZ bIm bTr bkm50 := bchk_ok bZ_len bzf_ok bTr_ok (fun _ q => absurd q List.not_mem_nil) (fun _ q => absurd q List.not_mem_nil) btm50
-- begins: 17 steps
def bkm51 : bC := (218, [some (.inr [.index 338]), some (.inl (10, 10))], none, [(338, 338, 19, 19), (349, 349, 0, 29)], 0, [], [])
theorem btm51 : bchk bzf bIm bmpm bmqm bjn bgm blpm bspm bdgm bldm [] [] 30000 bkm51 = true := by decide +kernel
theorem bcm51 : bcon bZ bIm bTr bkm51 := bchk_ok bZ_len bzf_ok bTr_ok (fun _ q => absurd q List.not_mem_nil) (fun _ q => absurd q List.not_mem_nil) btm51
-- turnsBy: 10 steps
def bkm52 : bC := (221, [some (.inr [.index 338]), some (.inl (0, 0)), some (.inl (-2147483648, 2147483647))], some (.inl (-2147483648, 2147483647)), [(338, 338, 19, 19), (349, 349, 0, 29)], 1, [], [])
theorem btm52 : bchk bzf bIm bmpm bmqm bjn bgm blpm bspm bdgm bldm [bkm51] [] 30000 bkm52 = true := by decide +kernel
theorem bcm52 : bcon bZ bIm bTr bkm52 := bchk_ok bZ_len bzf_ok bTr_ok (List.forall_mem_cons.mpr ⟨bcm51, fun _ q => absurd q List.not_mem_nil⟩) (fun _ q => absurd q List.not_mem_nil) btm52
-- turnsBy: 24 steps
def bkm53 : bC := (221, [some (.inr [.index 338]), some (.inl (1, 1)), some (.inl (-2147483648, 2147483647))], some (.inl (-2147483648, 2147483647)), [(338, 338, 19, 19), (349, 349, 0, 29)], 2, [], [])
theorem btm53 : bchk bzf bIm bmpm bmqm bjn bgm blpm bspm bdgm bldm [bkm48, bkm52] [] 30000 bkm53 = true := by decide +kernel
theorem bcm53 : bcon bZ bIm bTr bkm53 := bchk_ok bZ_len bzf_ok bTr_ok (List.forall_mem_cons.mpr ⟨bcm48, List.forall_mem_cons.mpr ⟨bcm52, fun _ q => absurd q List.not_mem_nil⟩⟩) (fun _ q => absurd q List.not_mem_nil) btm53
-- begins: 17 steps
def bkm54 : bC := (218, [some (.inr [.index 338]), some (.inl (40, 59))], none, [(338, 338, 19, 19), (349, 349, 0, 29)], 0, [], [])
theorem btm54 : bchk bzf bIm bmpm bmqm bjn bgm blpm bspm bdgm bldm [] [] 30000 bkm54 = true := by decide +kernel
theorem bcm54 : bcon bZ bIm bTr bkm54 := bchk_ok bZ_len bzf_ok bTr_ok (fun _ q => absurd q List.not_mem_nil) (fun _ q => absurd q List.not_mem_nil) btm54
-- turnsBy: 24 steps
def bkm55 : bC := (221, [some (.inr [.index 338]), some (.inl (4, 4)), some (.inl (-2147483648, 2147483647))], some (.inl (-2147483648, 2147483647)), [(338, 338, 19, 19), (349, 349, 0, 29)], 2, [], [])
theorem btm55 : bchk bzf bIm bmpm bmqm bjn bgm blpm bspm bdgm bldm [bkm54, bkm52] [] 30000 bkm55 = true := by decide +kernel
theorem bcm55 : bcon bZ bIm bTr bkm55 := bchk_ok bZ_len bzf_ok bTr_ok (List.forall_mem_cons.mpr ⟨bcm54, List.forall_mem_cons.mpr ⟨bcm52, fun _ q => absurd q List.not_mem_nil⟩⟩) (fun _ q => absurd q List.not_mem_nil) btm55
-- begins: 17 steps
def bkm56 : bC := (218, [some (.inr [.index 338]), some (.inl (64, 72))], none, [(338, 338, 19, 19), (349, 349, 0, 29)], 0, [], [])
theorem btm56 : bchk bzf bIm bmpm bmqm bjn bgm blpm bspm bdgm bldm [] [] 30000 bkm56 = true := by decide +kernel
theorem bcm56 : bcon bZ bIm bTr bkm56 := bchk_ok bZ_len bzf_ok bTr_ok (fun _ q => absurd q List.not_mem_nil) (fun _ q => absurd q List.not_mem_nil) btm56
-- turnsBy: 118 steps
def bkm57 : bC := (221, [some (.inr [.index 338]), some (.inl (0, 6)), some (.inl (-2147483648, 2147483647))], some (.inl (-2147483648, 2147483647)), [(338, 338, 19, 19), (349, 349, 0, 29)], 3, [], [])
theorem btm57 : bchk bzf bIm bmpm bmqm bjn bgm blpm bspm bdgm bldm [bkm51, bkm48, bkm54, bkm56, bkm52, bkm53, bkm55] [] 30000 bkm57 = true := by decide +kernel
theorem bcm57 : bcon bZ bIm bTr bkm57 := bchk_ok bZ_len bzf_ok bTr_ok (List.forall_mem_cons.mpr ⟨bcm51, List.forall_mem_cons.mpr ⟨bcm48, List.forall_mem_cons.mpr ⟨bcm54, List.forall_mem_cons.mpr ⟨bcm56, List.forall_mem_cons.mpr ⟨bcm52, List.forall_mem_cons.mpr ⟨bcm53, List.forall_mem_cons.mpr ⟨bcm55, fun _ q => absurd q List.not_mem_nil⟩⟩⟩⟩⟩⟩⟩) (fun _ q => absurd q List.not_mem_nil) btm57
-- sendsBy: 30 steps
def bkm58 : bC := (222, [some (.inr [.index 338]), some (.inl (0, 0)), some (.inl (-2147483648, 2147483647))], some (.inl (-2147483648, 2147483647)), [(338, 338, 19, 19), (349, 349, 0, 29)], 4, [], [])
theorem btm58 : bchk bzf bIm bmpm bmqm bjn bgm blpm bspm bdgm bldm [bkm50, bkm57] [] 30000 bkm58 = true := by decide +kernel
theorem bcm58 : bcon bZ bIm bTr bkm58 := bchk_ok bZ_len bzf_ok bTr_ok (List.forall_mem_cons.mpr ⟨bcm50, List.forall_mem_cons.mpr ⟨bcm57, fun _ q => absurd q List.not_mem_nil⟩⟩) (fun _ q => absurd q List.not_mem_nil) btm58
-- begins: 17 steps
def bkm59 : bC := (218, [some (.inr [.index 338]), some (.inl (30, 30))], none, [(338, 338, 19, 19), (349, 349, 0, 29)], 0, [], [])
theorem btm59 : bchk bzf bIm bmpm bmqm bjn bgm blpm bspm bdgm bldm [] [] 30000 bkm59 = true := by decide +kernel
theorem bcm59 : bcon bZ bIm bTr bkm59 := bchk_ok bZ_len bzf_ok bTr_ok (fun _ q => absurd q List.not_mem_nil) (fun _ q => absurd q List.not_mem_nil) btm59
-- sendsBy: 19 steps
def bkm60 : bC := (222, [some (.inr [.index 338]), some (.inl (1, 1)), some (.inl (-2147483648, 2147483647))], some (.inl (-2147483648, 2147483647)), [(338, 338, 19, 19), (349, 349, 0, 29)], 5, [], [])
theorem btm60 : bchk bzf bIm bmpm bmqm bjn bgm blpm bspm bdgm bldm [bkm58] [] 30000 bkm60 = true := by decide +kernel
theorem bcm60 : bcon bZ bIm bTr bkm60 := bchk_ok bZ_len bzf_ok bTr_ok (List.forall_mem_cons.mpr ⟨bcm58, fun _ q => absurd q List.not_mem_nil⟩) (fun _ q => absurd q List.not_mem_nil) btm60
-- begins: 17 steps
def bkm61 : bC := (218, [some (.inr [.index 338]), some (.inl (60, 60))], none, [(338, 338, 19, 19), (349, 349, 0, 29)], 0, [], [])
theorem btm61 : bchk bzf bIm bmpm bmqm bjn bgm blpm bspm bdgm bldm [] [] 30000 bkm61 = true := by decide +kernel
theorem bcm61 : bcon bZ bIm bTr bkm61 := bchk_ok bZ_len bzf_ok bTr_ok (fun _ q => absurd q List.not_mem_nil) (fun _ q => absurd q List.not_mem_nil) btm61
-- sendsBy: 19 steps
def bkm62 : bC := (222, [some (.inr [.index 338]), some (.inl (4, 4)), some (.inl (-2147483648, 2147483647))], some (.inl (-2147483648, 2147483647)), [(338, 338, 19, 19), (349, 349, 0, 29)], 5, [], [])
theorem btm62 : bchk bzf bIm bmpm bmqm bjn bgm blpm bspm bdgm bldm [bkm58] [] 30000 bkm62 = true := by decide +kernel
theorem bcm62 : bcon bZ bIm bTr bkm62 := bchk_ok bZ_len bzf_ok bTr_ok (List.forall_mem_cons.mpr ⟨bcm58, fun _ q => absurd q List.not_mem_nil⟩) (fun _ q => absurd q List.not_mem_nil) btm62
-- sendsBy: 148 steps
def bkm63 : bC := (222, [some (.inr [.index 338]), some (.inl (0, 6)), some (.inl (-2147483648, 2147483647))], some (.inl (-2147483648, 2147483647)), [(338, 338, 19, 19), (349, 349, 0, 29)], 6, [], [])
theorem btm63 : bchk bzf bIm bmpm bmqm bjn bgm blpm bspm bdgm bldm [bkm50, bkm59, bkm61, bkm57, bkm58, bkm60, bkm62] [] 30000 bkm63 = true := by decide +kernel
theorem bcm63 : bcon bZ bIm bTr bkm63 := bchk_ok bZ_len bzf_ok bTr_ok (List.forall_mem_cons.mpr ⟨bcm50, List.forall_mem_cons.mpr ⟨bcm59, List.forall_mem_cons.mpr ⟨bcm61, List.forall_mem_cons.mpr ⟨bcm57, List.forall_mem_cons.mpr ⟨bcm58, List.forall_mem_cons.mpr ⟨bcm60, List.forall_mem_cons.mpr ⟨bcm62, fun _ q => absurd q List.not_mem_nil⟩⟩⟩⟩⟩⟩⟩) (fun _ q => absurd q List.not_mem_nil) btm63
-- waitsBy: 55 steps
def bkm64 : bC := (224, [some (.inr [.index 338]), some (.inl (1, 1)), some (.inl (-2147483648, 2147483647))], some (.inl (-2147483648, 2147483647)), [(338, 338, 19, 19), (338, 338, 21, 21), (349, 349, 0, 29)], 7, [], [])
theorem btm64 : bchk bzf bIm bmpm bmqm bjn bgm blpm bspm bdgm bldm [bkm48, bkm63, bkm49] [] 30000 bkm64 = true := by decide +kernel
theorem bcm64 : bcon bZ bIm bTr bkm64 := bchk_ok bZ_len bzf_ok bTr_ok (List.forall_mem_cons.mpr ⟨bcm48, List.forall_mem_cons.mpr ⟨bcm63, List.forall_mem_cons.mpr ⟨bcm49, fun _ q => absurd q List.not_mem_nil⟩⟩⟩) (fun _ q => absurd q List.not_mem_nil) btm64
-- waitsBy: 21 steps
def bkm65 : bC := (224, [some (.inr [.index 338]), some (.inl (4, 4)), some (.inl (-2147483648, 2147483647))], some (.inl (-2147483648, 2147483647)), [(338, 338, 19, 19), (338, 338, 21, 21), (349, 349, 0, 29)], 2, [], [])
theorem btm65 : bchk bzf bIm bmpm bmqm bjn bgm blpm bspm bdgm bldm [bkm49] [] 30000 bkm65 = true := by decide +kernel
theorem bcm65 : bcon bZ bIm bTr bkm65 := bchk_ok bZ_len bzf_ok bTr_ok (List.forall_mem_cons.mpr ⟨bcm49, fun _ q => absurd q List.not_mem_nil⟩) (fun _ q => absurd q List.not_mem_nil) btm65
-- begins: 17 steps
def bkm66 : bC := (218, [some (.inr [.index 338]), some (.inl (12, 12))], none, [(338, 338, 19, 19), (349, 349, 0, 29)], 0, [], [])
theorem btm66 : bchk bzf bIm bmpm bmqm bjn bgm blpm bspm bdgm bldm [] [] 30000 bkm66 = true := by decide +kernel
theorem bcm66 : bcon bZ bIm bTr bkm66 := bchk_ok bZ_len bzf_ok bTr_ok (fun _ q => absurd q List.not_mem_nil) (fun _ q => absurd q List.not_mem_nil) btm66
-- keepsBy: 45 steps
def bkm67 : bC := (223, [some (.inr [.index 338]), some (.inl (0, 0)), some (.inl (-2147483648, 2147483647))], some (.inl (-2147483648, 2147483647)), [(338, 338, 19, 19), (349, 349, 0, 29)], 7, [], [])
theorem btm67 : bchk bzf bIm bmpm bmqm bjn bgm blpm bspm bdgm bldm [bkm66, bkm63] [] 30000 bkm67 = true := by decide +kernel
theorem bcm67 : bcon bZ bIm bTr bkm67 := bchk_ok bZ_len bzf_ok bTr_ok (List.forall_mem_cons.mpr ⟨bcm66, List.forall_mem_cons.mpr ⟨bcm63, fun _ q => absurd q List.not_mem_nil⟩⟩) (fun _ q => absurd q List.not_mem_nil) btm67
-- keepsBy: 19 steps
def bkm68 : bC := (223, [some (.inr [.index 338]), some (.inl (1, 1)), some (.inl (-2147483648, 2147483647))], some (.inl (-2147483648, 2147483647)), [(338, 338, 19, 19), (349, 349, 0, 29)], 8, [], [])
theorem btm68 : bchk bzf bIm bmpm bmqm bjn bgm blpm bspm bdgm bldm [bkm67] [] 30000 bkm68 = true := by decide +kernel
theorem bcm68 : bcon bZ bIm bTr bkm68 := bchk_ok bZ_len bzf_ok bTr_ok (List.forall_mem_cons.mpr ⟨bcm67, fun _ q => absurd q List.not_mem_nil⟩) (fun _ q => absurd q List.not_mem_nil) btm68
-- keepsBy: 25 steps
def bkm69 : bC := (223, [some (.inr [.index 338]), some (.inl (4, 4)), some (.inl (-2147483648, 2147483647))], some (.inl (-2147483648, 2147483647)), [(338, 338, 19, 19), (349, 349, 0, 29)], 8, [], [])
theorem btm69 : bchk bzf bIm bmpm bmqm bjn bgm blpm bspm bdgm bldm [bkm54, bkm67] [] 30000 bkm69 = true := by decide +kernel
theorem bcm69 : bcon bZ bIm bTr bkm69 := bchk_ok bZ_len bzf_ok bTr_ok (List.forall_mem_cons.mpr ⟨bcm54, List.forall_mem_cons.mpr ⟨bcm67, fun _ q => absurd q List.not_mem_nil⟩⟩) (fun _ q => absurd q List.not_mem_nil) btm69
-- keepsBy: 164 steps
def bkm70 : bC := (223, [some (.inr [.index 338]), some (.inl (0, 6)), some (.inl (-2147483648, 2147483647))], some (.inl (-2147483648, 2147483647)), [(338, 338, 19, 19), (349, 349, 0, 29)], 9, [], [])
theorem btm70 : bchk bzf bIm bmpm bmqm bjn bgm blpm bspm bdgm bldm [bkm66, bkm54, bkm63, bkm67, bkm68, bkm69] [] 30000 bkm70 = true := by decide +kernel
theorem bcm70 : bcon bZ bIm bTr bkm70 := bchk_ok bZ_len bzf_ok bTr_ok (List.forall_mem_cons.mpr ⟨bcm66, List.forall_mem_cons.mpr ⟨bcm54, List.forall_mem_cons.mpr ⟨bcm63, List.forall_mem_cons.mpr ⟨bcm67, List.forall_mem_cons.mpr ⟨bcm68, List.forall_mem_cons.mpr ⟨bcm69, fun _ q => absurd q List.not_mem_nil⟩⟩⟩⟩⟩⟩) (fun _ q => absurd q List.not_mem_nil) btm70
-- waitsBy: 268 steps
def bkm71 : bC := (224, [some (.inr [.index 338]), some (.inl (0, 6)), some (.inl (-2147483648, 2147483647))], some (.inl (-2147483648, 2147483647)), [(338, 338, 19, 19), (338, 338, 21, 21), (349, 349, 0, 29)], 10, [], [])
theorem btm71 : bchk bzf bIm bmpm bmqm bjn bgm blpm bspm bdgm bldm [bkm47, bkm48, bkm56, bkm63, bkm70, bkm49, bkm64, bkm65] [] 30000 bkm71 = true := by decide +kernel
theorem bcm71 : bcon bZ bIm bTr bkm71 := bchk_ok bZ_len bzf_ok bTr_ok (List.forall_mem_cons.mpr ⟨bcm47, List.forall_mem_cons.mpr ⟨bcm48, List.forall_mem_cons.mpr ⟨bcm56, List.forall_mem_cons.mpr ⟨bcm63, List.forall_mem_cons.mpr ⟨bcm70, List.forall_mem_cons.mpr ⟨bcm49, List.forall_mem_cons.mpr ⟨bcm64, List.forall_mem_cons.mpr ⟨bcm65, fun _ q => absurd q List.not_mem_nil⟩⟩⟩⟩⟩⟩⟩⟩) (fun _ q => absurd q List.not_mem_nil) btm71
-- error: 12 steps
def bkm72 : bC := (135, [some (.inr [.index 338]), some (.inl (6, 6))], some (.inl (-1000006, -1000006)), [(341, 341, 6, 6)], 0, [], [])
theorem btm72 : bchk bzf bIm bmpm bmqm bjn bgm blpm bspm bdgm bldm [] [] 30000 bkm72 = true := by decide +kernel
theorem bcm72 : bcon bZ bIm bTr bkm72 := bchk_ok bZ_len bzf_ok bTr_ok (fun _ q => absurd q List.not_mem_nil) (fun _ q => absurd q List.not_mem_nil) btm72
-- call: 37 steps
def bkm73 : bC := (159, [some (.inr [.index 338])], some (.inl (-1000004, 11)), [(339, 339, 0, 0), (339, 339, 34, 99), (339, 339, 112, 112), (339, 339, 125, 125), (339, 339, 138, 138), (339, 339, 151, 151), (339, 339, 164, 164), (339, 339, 177, 177), (341, 341, 4, 4)], 1, [], [])
theorem btm73 : bchk bzf bIm bmpm bmqm bjn bgm blpm bspm bdgm bldm [bkm1] [] 30000 bkm73 = true := by decide +kernel
theorem bcm73 : bcon bZ bIm bTr bkm73 := bchk_ok bZ_len bzf_ok bTr_ok (List.forall_mem_cons.mpr ⟨bcm1, fun _ q => absurd q List.not_mem_nil⟩) (fun _ q => absurd q List.not_mem_nil) btm73
-- sound: 1501 steps
def bkm74 : bC := (160, [some (.inr [.index 338]), some (.inl (-2147483648, 2147483647)), some (.inl (-2147483648, 2147483647))], some (.inl (-1000004, 12)), [(339, 339, 34, 189), (341, 341, 1, 1), (341, 341, 4, 4)], 2, [], [])
theorem btm74 : bchk bzf bIm bmpm bmqm bjn bgm blpm bspm bdgm bldm [bkm2, bkm1] [] 30000 bkm74 = true := by decide +kernel
theorem bcm74 : bcon bZ bIm bTr bkm74 := bchk_ok bZ_len bzf_ok bTr_ok (List.forall_mem_cons.mpr ⟨bcm2, List.forall_mem_cons.mpr ⟨bcm1, fun _ q => absurd q List.not_mem_nil⟩⟩) (fun _ q => absurd q List.not_mem_nil) btm74
-- soundOf: 63 steps
def bkm75 : bC := (162, [some (.inr [.index 338]), some (.inl (-2147483648, 2147483647)), some (.inl (-2147483648, 2147483647))], some (.inl (-2147483648, 2147483647)), [(341, 341, 1, 1), (342, 342, 0, 12)], 2, [], [])
theorem btm75 : bchk bzf bIm bmpm bmqm bjn bgm blpm bspm bdgm bldm [bkm2, bkm3] [] 30000 bkm75 = true := by decide +kernel
theorem bcm75 : bcon bZ bIm bTr bkm75 := bchk_ok bZ_len bzf_ok bTr_ok (List.forall_mem_cons.mpr ⟨bcm2, List.forall_mem_cons.mpr ⟨bcm3, fun _ q => absurd q List.not_mem_nil⟩⟩) (fun _ q => absurd q List.not_mem_nil) btm75
-- hush: 52 steps
def bkm76 : bC := (163, [some (.inr [.index 338]), some (.inl (-2147483648, 2147483647))], some (.inl (-1000001, 12)), [(339, 339, 34, 86), (339, 339, 99, 99), (339, 339, 112, 112), (339, 339, 125, 125), (339, 339, 138, 138), (339, 339, 151, 151), (339, 339, 164, 164), (339, 339, 177, 177), (341, 341, 1, 1)], 2, [], [])
theorem btm76 : bchk bzf bIm bmpm bmqm bjn bgm blpm bspm bdgm bldm [bkm2] [] 30000 bkm76 = true := by decide +kernel
theorem bcm76 : bcon bZ bIm bTr bkm76 := bchk_ok bZ_len bzf_ok bTr_ok (List.forall_mem_cons.mpr ⟨bcm2, fun _ q => absurd q List.not_mem_nil⟩) (fun _ q => absurd q List.not_mem_nil) btm76
