-- ===== contracts
-- term: 766 steps
def bkm58 : bC := (204, [some (.inr [.index 338])], some (.inl (0, 1)), [(338, 338, 16, 17)], 13, [((338, 16), .inl (1, 13), none)], [((338, 16), .inl (1, 13), none)])
theorem btm58 : bchk bzf bIm bmpm bmqm bjn bgm blpm bspm bdgm bldm [bkm46, bkm57] [] 30000 bkm58 = true := by decide +kernel
theorem bcm58 : bcon bZ bIm bTr bkm58 := bchk_ok bZ_len bzf_ok bTr_ok (List.forall_mem_cons.mpr ⟨bcm46, List.forall_mem_cons.mpr ⟨bcm57, fun _ q => absurd q List.not_mem_nil⟩⟩) (fun _ q => absurd q List.not_mem_nil) btm58
-- saying: 1175 steps
def bkm59 : bC := (205, [some (.inr [.index 338])], some (.inl (0, 1)), [(338, 338, 16, 17)], 14, [], [])
theorem btm59 : bchk bzf bIm bmpm bmqm bjn bgm blpm bspm bdgm bldm [bkm45, bkm47, bkm48, bkm49, bkm50, bkm51, bkm52, bkm53, bkm54, bkm55, bkm56, bkm57, bkm58] [] 30000 bkm59 = true := by decide +kernel
theorem bcm59 : bcon bZ bIm bTr bkm59 := bchk_ok bZ_len bzf_ok bTr_ok (List.forall_mem_cons.mpr ⟨bcm45, List.forall_mem_cons.mpr ⟨bcm47, List.forall_mem_cons.mpr ⟨bcm48, List.forall_mem_cons.mpr ⟨bcm49, List.forall_mem_cons.mpr ⟨bcm50, List.forall_mem_cons.mpr ⟨bcm51, List.forall_mem_cons.mpr ⟨bcm52, List.forall_mem_cons.mpr ⟨bcm53, List.forall_mem_cons.mpr ⟨bcm54, List.forall_mem_cons.mpr ⟨bcm55, List.forall_mem_cons.mpr ⟨bcm56, List.forall_mem_cons.mpr ⟨bcm57, List.forall_mem_cons.mpr ⟨bcm58, fun _ q => absurd q List.not_mem_nil⟩⟩⟩⟩⟩⟩⟩⟩⟩⟩⟩⟩⟩) (fun _ q => absurd q List.not_mem_nil) btm59
-- comes: 1196 steps
def bkm60 : bC := (210, [some (.inr [.index 338])], none, [(339, 339, 3, 4), (339, 339, 190, 433)], 1, [], [])
theorem btm60 : bchk bzf bIm bmpm bmqm bjn bgm blpm bspm bdgm bldm [] [] 30000 bkm60 = true := by decide +kernel
theorem bcm60 : bcon bZ bIm bTr bkm60 := bchk_ok bZ_len bzf_ok bTr_ok (fun _ q => absurd q List.not_mem_nil) (fun _ q => absurd q List.not_mem_nil) btm60
-- offers: 81 steps
def bkm61 : bC := (214, [some (.inr [.index 338]), some (.inl (-2147483648, 2147483647)), some (.inl (-2147483648, 2147483647)), some (.inl (0, 0)), some (.inl (0, 59))], some (.inl (-20, 19)), [(346, 346, 98, 98), (346, 346, 104, 104), (346, 346, 111, 111), (346, 346, 116, 116), (347, 347, 0, 63)], 2, [], [])
theorem btm61 : bchk bzf bIm bmpm bmqm bjn bgm blpm bspm bdgm bldm [bkmWorked] [] 30000 bkm61 = true := by decide +kernel
theorem bcm61 : bcon bZ bIm bXm bkm61 := bchk_ok bZ_len bzf_ok (bxw_ok (by decide)) (List.forall_mem_cons.mpr ⟨bcmWorked, fun _ q => absurd q List.not_mem_nil⟩) (fun _ q => absurd q List.not_mem_nil) btm61
-- offers: 81 steps
def bkm62 : bC := (214, [some (.inr [.index 338]), some (.inl (-2147483648, 2147483647)), some (.inl (-2147483648, 2147483647)), some (.inl (1, 1)), some (.inl (0, 59))], some (.inl (-20, 19)), [(346, 346, 98, 98), (346, 346, 104, 104), (346, 346, 111, 111), (346, 346, 116, 116), (347, 347, 0, 63)], 2, [], [])
theorem btm62 : bchk bzf bIm bmpm bmqm bjn bgm blpm bspm bdgm bldm [bkmWorked] [] 30000 bkm62 = true := by decide +kernel
theorem bcm62 : bcon bZ bIm bXm bkm62 := bchk_ok bZ_len bzf_ok (bxw_ok (by decide)) (List.forall_mem_cons.mpr ⟨bcmWorked, fun _ q => absurd q List.not_mem_nil⟩) (fun _ q => absurd q List.not_mem_nil) btm62
-- begins: 17 steps
def bkm63 : bC := (218, [some (.inr [.index 338]), some (.inl (13, 13))], none, [(338, 338, 19, 19), (349, 349, 0, 29)], 0, [], [])
theorem btm63 : bchk bzf bIm bmpm bmqm bjn bgm blpm bspm bdgm bldm [] [] 30000 bkm63 = true := by decide +kernel
theorem bcm63 : bcon bZ bIm bTr bkm63 := bchk_ok bZ_len bzf_ok bTr_ok (fun _ q => absurd q List.not_mem_nil) (fun _ q => absurd q List.not_mem_nil) btm63
-- begins: 17 steps
def bkm64 : bC := (218, [some (.inr [.index 338]), some (.inl (20, 23))], none, [(338, 338, 19, 19), (349, 349, 0, 29)], 0, [], [])
theorem btm64 : bchk bzf bIm bmpm bmqm bjn bgm blpm bspm bdgm bldm [] [] 30000 bkm64 = true := by decide +kernel
theorem bcm64 : bcon bZ bIm bTr bkm64 := bchk_ok bZ_len bzf_ok bTr_ok (fun _ q => absurd q List.not_mem_nil) (fun _ q => absurd q List.not_mem_nil) btm64
-- waitsBy: 80 steps
def bkm65 : bC := (224, [some (.inr [.index 338]), some (.inl (0, 0)), some (.inl (-2147483648, 2147483647))], some (.inl (-2147483648, 2147483647)), [(338, 338, 19, 19), (338, 338, 21, 21), (349, 349, 0, 29)], 1, [], [])
theorem btm65 : bchk bzf bIm bmpm bmqm bjn bgm blpm bspm bdgm bldm [bkm63] [] 30000 bkm65 = true := by decide +kernel
theorem bcm65 : bcon bZ bIm bTr bkm65 := bchk_ok bZ_len bzf_ok bTr_ok (List.forall_mem_cons.mpr ⟨bcm63, fun _ q => absurd q List.not_mem_nil⟩) (fun _ q => absurd q List.not_mem_nil) btm65
-- begins: 17 steps
def bkm66 : bC := (218, [some (.inr [.index 338]), some (.inl (11, 11))], none, [(338, 338, 19, 19), (349, 349, 0, 29)], 0, [], [])
theorem btm66 : bchk bzf bIm bmpm bmqm bjn bgm blpm bspm bdgm bldm [] [] 30000 bkm66 = true := by decide +kernel
theorem bcm66 : bcon bZ bIm bTr bkm66 := bchk_ok bZ_len bzf_ok bTr_ok (fun _ q => absurd q List.not_mem_nil) (fun _ q => absurd q List.not_mem_nil) btm66
-- begins: 17 steps
def bkm67 : bC := (218, [some (.inr [.index 338]), some (.inl (10, 10))], none, [(338, 338, 19, 19), (349, 349, 0, 29)], 0, [], [])
theorem btm67 : bchk bzf bIm bmpm bmqm bjn bgm blpm bspm bdgm bldm [] [] 30000 bkm67 = true := by decide +kernel
theorem bcm67 : bcon bZ bIm bTr bkm67 := bchk_ok bZ_len bzf_ok bTr_ok (fun _ q => absurd q List.not_mem_nil) (fun _ q => absurd q List.not_mem_nil) btm67
-- turnsBy: 10 steps
def bkm68 : bC := (221, [some (.inr [.index 338]), some (.inl (0, 0)), some (.inl (-2147483648, 2147483647))], some (.inl (-2147483648, 2147483647)), [(338, 338, 19, 19), (349, 349, 0, 29)], 1, [], [])
theorem btm68 : bchk bzf bIm bmpm bmqm bjn bgm blpm bspm bdgm bldm [bkm67] [] 30000 bkm68 = true := by decide +kernel
theorem bcm68 : bcon bZ bIm bTr bkm68 := bchk_ok bZ_len bzf_ok bTr_ok (List.forall_mem_cons.mpr ⟨bcm67, fun _ q => absurd q List.not_mem_nil⟩) (fun _ q => absurd q List.not_mem_nil) btm68
-- turnsBy: 24 steps
def bkm69 : bC := (221, [some (.inr [.index 338]), some (.inl (1, 1)), some (.inl (-2147483648, 2147483647))], some (.inl (-2147483648, 2147483647)), [(338, 338, 19, 19), (349, 349, 0, 29)], 2, [], [])
theorem btm69 : bchk bzf bIm bmpm bmqm bjn bgm blpm bspm bdgm bldm [bkm64, bkm68] [] 30000 bkm69 = true := by decide +kernel
theorem bcm69 : bcon bZ bIm bTr bkm69 := bchk_ok bZ_len bzf_ok bTr_ok (List.forall_mem_cons.mpr ⟨bcm64, List.forall_mem_cons.mpr ⟨bcm68, fun _ q => absurd q List.not_mem_nil⟩⟩) (fun _ q => absurd q List.not_mem_nil) btm69
-- begins: 17 steps
def bkm70 : bC := (218, [some (.inr [.index 338]), some (.inl (40, 59))], none, [(338, 338, 19, 19), (349, 349, 0, 29)], 0, [], [])
theorem btm70 : bchk bzf bIm bmpm bmqm bjn bgm blpm bspm bdgm bldm [] [] 30000 bkm70 = true := by decide +kernel
theorem bcm70 : bcon bZ bIm bTr bkm70 := bchk_ok bZ_len bzf_ok bTr_ok (fun _ q => absurd q List.not_mem_nil) (fun _ q => absurd q List.not_mem_nil) btm70
-- turnsBy: 24 steps
def bkm71 : bC := (221, [some (.inr [.index 338]), some (.inl (4, 4)), some (.inl (-2147483648, 2147483647))], some (.inl (-2147483648, 2147483647)), [(338, 338, 19, 19), (349, 349, 0, 29)], 2, [], [])
theorem btm71 : bchk bzf bIm bmpm bmqm bjn bgm blpm bspm bdgm bldm [bkm70, bkm68] [] 30000 bkm71 = true := by decide +kernel
theorem bcm71 : bcon bZ bIm bTr bkm71 := bchk_ok bZ_len bzf_ok bTr_ok (List.forall_mem_cons.mpr ⟨bcm70, List.forall_mem_cons.mpr ⟨bcm68, fun _ q => absurd q List.not_mem_nil⟩⟩) (fun _ q => absurd q List.not_mem_nil) btm71
-- begins: 17 steps
def bkm72 : bC := (218, [some (.inr [.index 338]), some (.inl (64, 72))], none, [(338, 338, 19, 19), (349, 349, 0, 29)], 0, [], [])
theorem btm72 : bchk bzf bIm bmpm bmqm bjn bgm blpm bspm bdgm bldm [] [] 30000 bkm72 = true := by decide +kernel
theorem bcm72 : bcon bZ bIm bTr bkm72 := bchk_ok bZ_len bzf_ok bTr_ok (fun _ q => absurd q List.not_mem_nil) (fun _ q => absurd q List.not_mem_nil) btm72
-- turnsBy: 118 steps
def bkm73 : bC := (221, [some (.inr [.index 338]), some (.inl (0, 6)), some (.inl (-2147483648, 2147483647))], some (.inl (-2147483648, 2147483647)), [(338, 338, 19, 19), (349, 349, 0, 29)], 3, [], [])
theorem btm73 : bchk bzf bIm bmpm bmqm bjn bgm blpm bspm bdgm bldm [bkm67, bkm64, bkm70, bkm72, bkm68, bkm69, bkm71] [] 30000 bkm73 = true := by decide +kernel
theorem bcm73 : bcon bZ bIm bTr bkm73 := bchk_ok bZ_len bzf_ok bTr_ok (List.forall_mem_cons.mpr ⟨bcm67, List.forall_mem_cons.mpr ⟨bcm64, List.forall_mem_cons.mpr ⟨bcm70, List.forall_mem_cons.mpr ⟨bcm72, List.forall_mem_cons.mpr ⟨bcm68, List.forall_mem_cons.mpr ⟨bcm69, List.forall_mem_cons.mpr ⟨bcm71, fun _ q => absurd q List.not_mem_nil⟩⟩⟩⟩⟩⟩⟩) (fun _ q => absurd q List.not_mem_nil) btm73
-- sendsBy: 30 steps
def bkm74 : bC := (222, [some (.inr [.index 338]), some (.inl (0, 0)), some (.inl (-2147483648, 2147483647))], some (.inl (-2147483648, 2147483647)), [(338, 338, 19, 19), (349, 349, 0, 29)], 4, [], [])
theorem btm74 : bchk bzf bIm bmpm bmqm bjn bgm blpm bspm bdgm bldm [bkm66, bkm73] [] 30000 bkm74 = true := by decide +kernel
theorem bcm74 : bcon bZ bIm bTr bkm74 := bchk_ok bZ_len bzf_ok bTr_ok (List.forall_mem_cons.mpr ⟨bcm66, List.forall_mem_cons.mpr ⟨bcm73, fun _ q => absurd q List.not_mem_nil⟩⟩) (fun _ q => absurd q List.not_mem_nil) btm74
-- begins: 17 steps
def bkm75 : bC := (218, [some (.inr [.index 338]), some (.inl (30, 30))], none, [(338, 338, 19, 19), (349, 349, 0, 29)], 0, [], [])
theorem btm75 : bchk bzf bIm bmpm bmqm bjn bgm blpm bspm bdgm bldm [] [] 30000 bkm75 = true := by decide +kernel
theorem bcm75 : bcon bZ bIm bTr bkm75 := bchk_ok bZ_len bzf_ok bTr_ok (fun _ q => absurd q List.not_mem_nil) (fun _ q => absurd q List.not_mem_nil) btm75
-- sendsBy: 19 steps
def bkm76 : bC := (222, [some (.inr [.index 338]), some (.inl (1, 1)), some (.inl (-2147483648, 2147483647))], some (.inl (-2147483648, 2147483647)), [(338, 338, 19, 19), (349, 349, 0, 29)], 5, [], [])
theorem btm76 : bchk bzf bIm bmpm bmqm bjn bgm blpm bspm bdgm bldm [bkm74] [] 30000 bkm76 = true := by decide +kernel
theorem bcm76 : bcon bZ bIm bTr bkm76 := bchk_ok bZ_len bzf_ok bTr_ok (List.forall_mem_cons.mpr ⟨bcm74, fun _ q => absurd q List.not_mem_nil⟩) (fun _ q => absurd q List.not_mem_nil) btm76
-- begins: 17 steps
def bkm77 : bC := (218, [some (.inr [.index 338]), some (.inl (60, 60))], none, [(338, 338, 19, 19), (349, 349, 0, 29)], 0, [], [])
theorem btm77 : bchk bzf bIm bmpm bmqm bjn bgm blpm bspm bdgm bldm [] [] 30000 bkm77 = true := by decide +kernel
theorem bcm77 : bcon bZ bIm bTr bkm77 := bchk_ok bZ_len bzf_ok bTr_ok (fun _ q => absurd q List.not_mem_nil) (fun _ q => absurd q List.not_mem_nil) btm77
-- sendsBy: 19 steps
def bkm78 : bC := (222, [some (.inr [.index 338]), some (.inl (4, 4)), some (.inl (-2147483648, 2147483647))], some (.inl (-2147483648, 2147483647)), [(338, 338, 19, 19), (349, 349, 0, 29)], 5, [], [])
theorem btm78 : bchk bzf bIm bmpm bmqm bjn bgm blpm bspm bdgm bldm [bkm74] [] 30000 bkm78 = true := by decide +kernel
theorem bcm78 : bcon bZ bIm bTr bkm78 := bchk_ok bZ_len bzf_ok bTr_ok (List.forall_mem_cons.mpr ⟨bcm74, fun _ q => absurd q List.not_mem_nil⟩) (fun _ q => absurd q List.not_mem_nil) btm78
-- sendsBy: 148 steps
def bkm79 : bC := (222, [some (.inr [.index 338]), some (.inl (0, 6)), some (.inl (-2147483648, 2147483647))], some (.inl (-2147483648, 2147483647)), [(338, 338, 19, 19), (349, 349, 0, 29)], 6, [], [])
theorem btm79 : bchk bzf bIm bmpm bmqm bjn bgm blpm bspm bdgm bldm [bkm66, bkm75, bkm77, bkm73, bkm74, bkm76, bkm78] [] 30000 bkm79 = true := by decide +kernel
theorem bcm79 : bcon bZ bIm bTr bkm79 := bchk_ok bZ_len bzf_ok bTr_ok (List.forall_mem_cons.mpr ⟨bcm66, List.forall_mem_cons.mpr ⟨bcm75, List.forall_mem_cons.mpr ⟨bcm77, List.forall_mem_cons.mpr ⟨bcm73, List.forall_mem_cons.mpr ⟨bcm74, List.forall_mem_cons.mpr ⟨bcm76, List.forall_mem_cons.mpr ⟨bcm78, fun _ q => absurd q List.not_mem_nil⟩⟩⟩⟩⟩⟩⟩) (fun _ q => absurd q List.not_mem_nil) btm79
-- waitsBy: 55 steps
def bkm80 : bC := (224, [some (.inr [.index 338]), some (.inl (1, 1)), some (.inl (-2147483648, 2147483647))], some (.inl (-2147483648, 2147483647)), [(338, 338, 19, 19), (338, 338, 21, 21), (349, 349, 0, 29)], 7, [], [])
theorem btm80 : bchk bzf bIm bmpm bmqm bjn bgm blpm bspm bdgm bldm [bkm64, bkm79, bkm65] [] 30000 bkm80 = true := by decide +kernel
theorem bcm80 : bcon bZ bIm bTr bkm80 := bchk_ok bZ_len bzf_ok bTr_ok (List.forall_mem_cons.mpr ⟨bcm64, List.forall_mem_cons.mpr ⟨bcm79, List.forall_mem_cons.mpr ⟨bcm65, fun _ q => absurd q List.not_mem_nil⟩⟩⟩) (fun _ q => absurd q List.not_mem_nil) btm80
-- waitsBy: 21 steps
def bkm81 : bC := (224, [some (.inr [.index 338]), some (.inl (4, 4)), some (.inl (-2147483648, 2147483647))], some (.inl (-2147483648, 2147483647)), [(338, 338, 19, 19), (338, 338, 21, 21), (349, 349, 0, 29)], 2, [], [])
theorem btm81 : bchk bzf bIm bmpm bmqm bjn bgm blpm bspm bdgm bldm [bkm65] [] 30000 bkm81 = true := by decide +kernel
theorem bcm81 : bcon bZ bIm bTr bkm81 := bchk_ok bZ_len bzf_ok bTr_ok (List.forall_mem_cons.mpr ⟨bcm65, fun _ q => absurd q List.not_mem_nil⟩) (fun _ q => absurd q List.not_mem_nil) btm81
-- begins: 17 steps
def bkm82 : bC := (218, [some (.inr [.index 338]), some (.inl (12, 12))], none, [(338, 338, 19, 19), (349, 349, 0, 29)], 0, [], [])
theorem btm82 : bchk bzf bIm bmpm bmqm bjn bgm blpm bspm bdgm bldm [] [] 30000 bkm82 = true := by decide +kernel
theorem bcm82 : bcon bZ bIm bTr bkm82 := bchk_ok bZ_len bzf_ok bTr_ok (fun _ q => absurd q List.not_mem_nil) (fun _ q => absurd q List.not_mem_nil) btm82
-- keepsBy: 45 steps
def bkm83 : bC := (223, [some (.inr [.index 338]), some (.inl (0, 0)), some (.inl (-2147483648, 2147483647))], some (.inl (-2147483648, 2147483647)), [(338, 338, 19, 19), (349, 349, 0, 29)], 7, [], [])
theorem btm83 : bchk bzf bIm bmpm bmqm bjn bgm blpm bspm bdgm bldm [bkm82, bkm79] [] 30000 bkm83 = true := by decide +kernel
theorem bcm83 : bcon bZ bIm bTr bkm83 := bchk_ok bZ_len bzf_ok bTr_ok (List.forall_mem_cons.mpr ⟨bcm82, List.forall_mem_cons.mpr ⟨bcm79, fun _ q => absurd q List.not_mem_nil⟩⟩) (fun _ q => absurd q List.not_mem_nil) btm83
-- keepsBy: 19 steps
def bkm84 : bC := (223, [some (.inr [.index 338]), some (.inl (1, 1)), some (.inl (-2147483648, 2147483647))], some (.inl (-2147483648, 2147483647)), [(338, 338, 19, 19), (349, 349, 0, 29)], 8, [], [])
theorem btm84 : bchk bzf bIm bmpm bmqm bjn bgm blpm bspm bdgm bldm [bkm83] [] 30000 bkm84 = true := by decide +kernel
theorem bcm84 : bcon bZ bIm bTr bkm84 := bchk_ok bZ_len bzf_ok bTr_ok (List.forall_mem_cons.mpr ⟨bcm83, fun _ q => absurd q List.not_mem_nil⟩) (fun _ q => absurd q List.not_mem_nil) btm84
-- keepsBy: 25 steps
def bkm85 : bC := (223, [some (.inr [.index 338]), some (.inl (4, 4)), some (.inl (-2147483648, 2147483647))], some (.inl (-2147483648, 2147483647)), [(338, 338, 19, 19), (349, 349, 0, 29)], 8, [], [])
theorem btm85 : bchk bzf bIm bmpm bmqm bjn bgm blpm bspm bdgm bldm [bkm70, bkm83] [] 30000 bkm85 = true := by decide +kernel
theorem bcm85 : bcon bZ bIm bTr bkm85 := bchk_ok bZ_len bzf_ok bTr_ok (List.forall_mem_cons.mpr ⟨bcm70, List.forall_mem_cons.mpr ⟨bcm83, fun _ q => absurd q List.not_mem_nil⟩⟩) (fun _ q => absurd q List.not_mem_nil) btm85
-- keepsBy: 164 steps
def bkm86 : bC := (223, [some (.inr [.index 338]), some (.inl (0, 6)), some (.inl (-2147483648, 2147483647))], some (.inl (-2147483648, 2147483647)), [(338, 338, 19, 19), (349, 349, 0, 29)], 9, [], [])
theorem btm86 : bchk bzf bIm bmpm bmqm bjn bgm blpm bspm bdgm bldm [bkm82, bkm70, bkm79, bkm83, bkm84, bkm85] [] 30000 bkm86 = true := by decide +kernel
theorem bcm86 : bcon bZ bIm bTr bkm86 := bchk_ok bZ_len bzf_ok bTr_ok (List.forall_mem_cons.mpr ⟨bcm82, List.forall_mem_cons.mpr ⟨bcm70, List.forall_mem_cons.mpr ⟨bcm79, List.forall_mem_cons.mpr ⟨bcm83, List.forall_mem_cons.mpr ⟨bcm84, List.forall_mem_cons.mpr ⟨bcm85, fun _ q => absurd q List.not_mem_nil⟩⟩⟩⟩⟩⟩) (fun _ q => absurd q List.not_mem_nil) btm86
-- waitsBy: 268 steps
def bkm87 : bC := (224, [some (.inr [.index 338]), some (.inl (0, 6)), some (.inl (-2147483648, 2147483647))], some (.inl (-2147483648, 2147483647)), [(338, 338, 19, 19), (338, 338, 21, 21), (349, 349, 0, 29)], 10, [], [])
theorem btm87 : bchk bzf bIm bmpm bmqm bjn bgm blpm bspm bdgm bldm [bkm63, bkm64, bkm72, bkm79, bkm86, bkm65, bkm80, bkm81] [] 30000 bkm87 = true := by decide +kernel
theorem bcm87 : bcon bZ bIm bTr bkm87 := bchk_ok bZ_len bzf_ok bTr_ok (List.forall_mem_cons.mpr ⟨bcm63, List.forall_mem_cons.mpr ⟨bcm64, List.forall_mem_cons.mpr ⟨bcm72, List.forall_mem_cons.mpr ⟨bcm79, List.forall_mem_cons.mpr ⟨bcm86, List.forall_mem_cons.mpr ⟨bcm65, List.forall_mem_cons.mpr ⟨bcm80, List.forall_mem_cons.mpr ⟨bcm81, fun _ q => absurd q List.not_mem_nil⟩⟩⟩⟩⟩⟩⟩⟩) (fun _ q => absurd q List.not_mem_nil) btm87
-- error: 12 steps
def bkm88 : bC := (135, [some (.inr [.index 338]), some (.inl (6, 6))], some (.inl (-1000006, -1000006)), [(341, 341, 6, 6)], 0, [], [])
theorem btm88 : bchk bzf bIm bmpm bmqm bjn bgm blpm bspm bdgm bldm [] [] 30000 bkm88 = true := by decide +kernel
theorem bcm88 : bcon bZ bIm bTr bkm88 := bchk_ok bZ_len bzf_ok bTr_ok (fun _ q => absurd q List.not_mem_nil) (fun _ q => absurd q List.not_mem_nil) btm88
-- call: 37 steps
def bkm89 : bC := (159, [some (.inr [.index 338])], some (.inl (-1000004, 11)), [(339, 339, 0, 0), (339, 339, 34, 99), (339, 339, 112, 112), (339, 339, 125, 125), (339, 339, 138, 138), (339, 339, 151, 151), (339, 339, 164, 164), (339, 339, 177, 177), (341, 341, 4, 4)], 1, [], [])
theorem btm89 : bchk bzf bIm bmpm bmqm bjn bgm blpm bspm bdgm bldm [bkm1] [] 30000 bkm89 = true := by decide +kernel
theorem bcm89 : bcon bZ bIm bTr bkm89 := bchk_ok bZ_len bzf_ok bTr_ok (List.forall_mem_cons.mpr ⟨bcm1, fun _ q => absurd q List.not_mem_nil⟩) (fun _ q => absurd q List.not_mem_nil) btm89
-- sound: 1501 steps
def bkm90 : bC := (160, [some (.inr [.index 338]), some (.inl (-2147483648, 2147483647)), some (.inl (-2147483648, 2147483647))], some (.inl (-1000004, 12)), [(339, 339, 34, 189), (341, 341, 1, 1), (341, 341, 4, 4)], 2, [], [])
theorem btm90 : bchk bzf bIm bmpm bmqm bjn bgm blpm bspm bdgm bldm [bkm2, bkm1] [] 30000 bkm90 = true := by decide +kernel
theorem bcm90 : bcon bZ bIm bTr bkm90 := bchk_ok bZ_len bzf_ok bTr_ok (List.forall_mem_cons.mpr ⟨bcm2, List.forall_mem_cons.mpr ⟨bcm1, fun _ q => absurd q List.not_mem_nil⟩⟩) (fun _ q => absurd q List.not_mem_nil) btm90
-- soundOf: 63 steps
def bkm91 : bC := (162, [some (.inr [.index 338]), some (.inl (-2147483648, 2147483647)), some (.inl (-2147483648, 2147483647))], some (.inl (-2147483648, 2147483647)), [(341, 341, 1, 1), (342, 342, 0, 12)], 2, [], [])
theorem btm91 : bchk bzf bIm bmpm bmqm bjn bgm blpm bspm bdgm bldm [bkm2, bkm3] [] 30000 bkm91 = true := by decide +kernel
theorem bcm91 : bcon bZ bIm bTr bkm91 := bchk_ok bZ_len bzf_ok bTr_ok (List.forall_mem_cons.mpr ⟨bcm2, List.forall_mem_cons.mpr ⟨bcm3, fun _ q => absurd q List.not_mem_nil⟩⟩) (fun _ q => absurd q List.not_mem_nil) btm91
-- hush: 52 steps
def bkm92 : bC := (163, [some (.inr [.index 338]), some (.inl (-2147483648, 2147483647))], some (.inl (-1000001, 12)), [(339, 339, 34, 86), (339, 339, 99, 99), (339, 339, 112, 112), (339, 339, 125, 125), (339, 339, 138, 138), (339, 339, 151, 151), (339, 339, 164, 164), (339, 339, 177, 177), (341, 341, 1, 1)], 2, [], [])
theorem btm92 : bchk bzf bIm bmpm bmqm bjn bgm blpm bspm bdgm bldm [bkm2] [] 30000 bkm92 = true := by decide +kernel
theorem bcm92 : bcon bZ bIm bTr bkm92 := bchk_ok bZ_len bzf_ok bTr_ok (List.forall_mem_cons.mpr ⟨bcm2, fun _ q => absurd q List.not_mem_nil⟩) (fun _ q => absurd q List.not_mem_nil) btm92
-- draw: 170 steps
def bkm93 : bC := (165, [some (.inr [.index 338]), some (.inl (-2147483648, 2147483647)), some (.inl (-2147483648, 2147483647))], some (.inl (-2147483648, 2147483647)), [(339, 339, 8, 8), (339, 339, 34, 189), (341, 341, 1, 1)], 2, [], [])
theorem btm93 : bchk bzf bIm bmpm bmqm bjn bgm blpm bspm bdgm bldm [bkm2, bkm4] [] 30000 bkm93 = true := by decide +kernel
theorem bcm93 : bcon bZ bIm bTr bkm93 := bchk_ok bZ_len bzf_ok bTr_ok (List.forall_mem_cons.mpr ⟨bcm2, List.forall_mem_cons.mpr ⟨bcm4, fun _ q => absurd q List.not_mem_nil⟩⟩) (fun _ q => absurd q List.not_mem_nil) btm93
-- contrary: 54 steps
def bkm94 : bC := (166, [some (.inr [.index 338]), some (.inl (-2147483648, 2147483647))], some (.inl (-2147483648, 2147483647)), [(341, 341, 1, 1)], 2, [], [])
theorem btm94 : bchk bzf bIm bmpm bmqm bjn bgm blpm bspm bdgm bldm [bkm2, bkm4] [] 30000 bkm94 = true := by decide +kernel
theorem bcm94 : bcon bZ bIm bTr bkm94 := bchk_ok bZ_len bzf_ok bTr_ok (List.forall_mem_cons.mpr ⟨bcm2, List.forall_mem_cons.mpr ⟨bcm4, fun _ q => absurd q List.not_mem_nil⟩⟩) (fun _ q => absurd q List.not_mem_nil) btm94
-- rock: 103 steps
def bkm95 : bC := (167, [some (.inr [.index 338]), some (.inl (-2147483648, 2147483647)), some (.inl (-2147483648, 2147483647))], some (.inl (-1000004, 7)), [(339, 339, 1, 1), (339, 339, 10, 33), (341, 341, 1, 1), (341, 341, 4, 4)], 1, [], [])
theorem btm95 : bchk bzf bIm bmpm bmqm bjn bgm blpm bspm bdgm bldm [bkm2, bkm1] [] 30000 bkm95 = true := by decide +kernel
theorem bcm95 : bcon bZ bIm bTr bkm95 := bchk_ok bZ_len bzf_ok bTr_ok (List.forall_mem_cons.mpr ⟨bcm2, List.forall_mem_cons.mpr ⟨bcm1, fun _ q => absurd q List.not_mem_nil⟩⟩) (fun _ q => absurd q List.not_mem_nil) btm95
-- rockIs: 69 steps
def bkm96 : bC := (168, [some (.inr [.index 338]), some (.inl (-2147483648, 2147483647)), some (.inl (-2147483648, 2147483647))], some (.inl (-1000001, 20)), [(341, 341, 1, 1)], 2, [], [])
theorem btm96 : bchk bzf bIm bmpm bmqm bjn bgm blpm bspm bdgm bldm [bkm2] [] 30000 bkm96 = true := by decide +kernel
theorem bcm96 : bcon bZ bIm bTr bkm96 := bchk_ok bZ_len bzf_ok bTr_ok (List.forall_mem_cons.mpr ⟨bcm2, fun _ q => absurd q List.not_mem_nil⟩) (fun _ q => absurd q List.not_mem_nil) btm96
-- as: 140 steps
def bkm97 : bC := (170, [some (.inr [.index 338]), some (.inl (-2147483648, 2147483647)), some (.inl (-2147483648, 2147483647))], some (.inl (-1000005, 20)), [(341, 341, 1, 1), (341, 341, 5, 5)], 2, [], [])
theorem btm97 : bchk bzf bIm bmpm bmqm bjn bgm blpm bspm bdgm bldm [bkm2, bkm5] [] 30000 bkm97 = true := by decide +kernel
theorem bcm97 : bcon bZ bIm bTr bkm97 := bchk_ok bZ_len bzf_ok bTr_ok (List.forall_mem_cons.mpr ⟨bcm2, List.forall_mem_cons.mpr ⟨bcm5, fun _ q => absurd q List.not_mem_nil⟩⟩) (fun _ q => absurd q List.not_mem_nil) btm97
