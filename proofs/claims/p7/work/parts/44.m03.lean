-- ===== contracts
-- saying: 1175 steps
def bkm56 : bC := (205, [some (.inr [.index 338])], some (.inl (0, 1)), [(338, 338)], 14, [], [])
theorem btm56 : bchk bZ bIm bmpm bmqm bjn bgm blpm bspm bdgm bldm [bkm42, bkm44, bkm45, bkm46, bkm47, bkm48, bkm49, bkm50, bkm51, bkm52, bkm53, bkm54, bkm55] 30000 bkm56 = true := by decide +kernel
theorem bcm56 : bcon bZ bIm bkm56 := bchk_ok bZ_len (List.forall_mem_cons.mpr ⟨bcm42, List.forall_mem_cons.mpr ⟨bcm44, List.forall_mem_cons.mpr ⟨bcm45, List.forall_mem_cons.mpr ⟨bcm46, List.forall_mem_cons.mpr ⟨bcm47, List.forall_mem_cons.mpr ⟨bcm48, List.forall_mem_cons.mpr ⟨bcm49, List.forall_mem_cons.mpr ⟨bcm50, List.forall_mem_cons.mpr ⟨bcm51, List.forall_mem_cons.mpr ⟨bcm52, List.forall_mem_cons.mpr ⟨bcm53, List.forall_mem_cons.mpr ⟨bcm54, List.forall_mem_cons.mpr ⟨bcm55, fun _ q => absurd q List.not_mem_nil⟩⟩⟩⟩⟩⟩⟩⟩⟩⟩⟩⟩⟩) btm56
-- error: 12 steps
def bkm57 : bC := (135, [some (.inr [.index 338]), some (.inl (2, 2))], some (.inl (-1000002, -1000002)), [(341, 341)], 0, [], [])
theorem btm57 : bchk bZ bIm bmpm bmqm bjn bgm blpm bspm bdgm bldm [] 30000 bkm57 = true := by decide +kernel
theorem bcm57 : bcon bZ bIm bkm57 := bchk_ok bZ_len (fun _ q => absurd q List.not_mem_nil) btm57
-- comes: 1196 steps
def bkm58 : bC := (210, [some (.inr [.index 338])], none, [(339, 339)], 1, [], [])
theorem btm58 : bchk bZ bIm bmpm bmqm bjn bgm blpm bspm bdgm bldm [] 30000 bkm58 = true := by decide +kernel
theorem bcm58 : bcon bZ bIm bkm58 := bchk_ok bZ_len (fun _ q => absurd q List.not_mem_nil) btm58
-- begins: 17 steps
def bkm59 : bC := (218, [some (.inr [.index 338]), some (.inl (13, 13))], none, [(338, 338), (349, 349)], 0, [], [])
theorem btm59 : bchk bZ bIm bmpm bmqm bjn bgm blpm bspm bdgm bldm [] 30000 bkm59 = true := by decide +kernel
theorem bcm59 : bcon bZ bIm bkm59 := bchk_ok bZ_len (fun _ q => absurd q List.not_mem_nil) btm59
-- begins: 17 steps
def bkm60 : bC := (218, [some (.inr [.index 338]), some (.inl (20, 23))], none, [(338, 338), (349, 349)], 0, [], [])
theorem btm60 : bchk bZ bIm bmpm bmqm bjn bgm blpm bspm bdgm bldm [] 30000 bkm60 = true := by decide +kernel
theorem bcm60 : bcon bZ bIm bkm60 := bchk_ok bZ_len (fun _ q => absurd q List.not_mem_nil) btm60
-- waitsBy: 80 steps
def bkm61 : bC := (224, [some (.inr [.index 338]), some (.inl (0, 0)), some (.inl (-2147483648, 2147483647))], some (.inl (-2147483648, 2147483647)), [(338, 338), (349, 349)], 1, [], [])
theorem btm61 : bchk bZ bIm bmpm bmqm bjn bgm blpm bspm bdgm bldm [bkm59] 30000 bkm61 = true := by decide +kernel
theorem bcm61 : bcon bZ bIm bkm61 := bchk_ok bZ_len (List.forall_mem_cons.mpr ⟨bcm59, fun _ q => absurd q List.not_mem_nil⟩) btm61
-- begins: 17 steps
def bkm62 : bC := (218, [some (.inr [.index 338]), some (.inl (11, 11))], none, [(338, 338), (349, 349)], 0, [], [])
theorem btm62 : bchk bZ bIm bmpm bmqm bjn bgm blpm bspm bdgm bldm [] 30000 bkm62 = true := by decide +kernel
theorem bcm62 : bcon bZ bIm bkm62 := bchk_ok bZ_len (fun _ q => absurd q List.not_mem_nil) btm62
-- begins: 17 steps
def bkm63 : bC := (218, [some (.inr [.index 338]), some (.inl (10, 10))], none, [(338, 338), (349, 349)], 0, [], [])
theorem btm63 : bchk bZ bIm bmpm bmqm bjn bgm blpm bspm bdgm bldm [] 30000 bkm63 = true := by decide +kernel
theorem bcm63 : bcon bZ bIm bkm63 := bchk_ok bZ_len (fun _ q => absurd q List.not_mem_nil) btm63
-- turnsBy: 10 steps
def bkm64 : bC := (221, [some (.inr [.index 338]), some (.inl (0, 0)), some (.inl (-2147483648, 2147483647))], some (.inl (-2147483648, 2147483647)), [(338, 338), (349, 349)], 1, [], [])
theorem btm64 : bchk bZ bIm bmpm bmqm bjn bgm blpm bspm bdgm bldm [bkm63] 30000 bkm64 = true := by decide +kernel
theorem bcm64 : bcon bZ bIm bkm64 := bchk_ok bZ_len (List.forall_mem_cons.mpr ⟨bcm63, fun _ q => absurd q List.not_mem_nil⟩) btm64
-- turnsBy: 24 steps
def bkm65 : bC := (221, [some (.inr [.index 338]), some (.inl (1, 1)), some (.inl (-2147483648, 2147483647))], some (.inl (-2147483648, 2147483647)), [(338, 338), (349, 349)], 2, [], [])
theorem btm65 : bchk bZ bIm bmpm bmqm bjn bgm blpm bspm bdgm bldm [bkm60, bkm64] 30000 bkm65 = true := by decide +kernel
theorem bcm65 : bcon bZ bIm bkm65 := bchk_ok bZ_len (List.forall_mem_cons.mpr ⟨bcm60, List.forall_mem_cons.mpr ⟨bcm64, fun _ q => absurd q List.not_mem_nil⟩⟩) btm65
-- begins: 17 steps
def bkm66 : bC := (218, [some (.inr [.index 338]), some (.inl (40, 59))], none, [(338, 338), (349, 349)], 0, [], [])
theorem btm66 : bchk bZ bIm bmpm bmqm bjn bgm blpm bspm bdgm bldm [] 30000 bkm66 = true := by decide +kernel
theorem bcm66 : bcon bZ bIm bkm66 := bchk_ok bZ_len (fun _ q => absurd q List.not_mem_nil) btm66
-- turnsBy: 24 steps
def bkm67 : bC := (221, [some (.inr [.index 338]), some (.inl (4, 4)), some (.inl (-2147483648, 2147483647))], some (.inl (-2147483648, 2147483647)), [(338, 338), (349, 349)], 2, [], [])
theorem btm67 : bchk bZ bIm bmpm bmqm bjn bgm blpm bspm bdgm bldm [bkm66, bkm64] 30000 bkm67 = true := by decide +kernel
theorem bcm67 : bcon bZ bIm bkm67 := bchk_ok bZ_len (List.forall_mem_cons.mpr ⟨bcm66, List.forall_mem_cons.mpr ⟨bcm64, fun _ q => absurd q List.not_mem_nil⟩⟩) btm67
-- begins: 17 steps
def bkm68 : bC := (218, [some (.inr [.index 338]), some (.inl (64, 72))], none, [(338, 338), (349, 349)], 0, [], [])
theorem btm68 : bchk bZ bIm bmpm bmqm bjn bgm blpm bspm bdgm bldm [] 30000 bkm68 = true := by decide +kernel
theorem bcm68 : bcon bZ bIm bkm68 := bchk_ok bZ_len (fun _ q => absurd q List.not_mem_nil) btm68
-- turnsBy: 118 steps
def bkm69 : bC := (221, [some (.inr [.index 338]), some (.inl (0, 6)), some (.inl (-2147483648, 2147483647))], some (.inl (-2147483648, 2147483647)), [(338, 338), (349, 349)], 3, [], [])
theorem btm69 : bchk bZ bIm bmpm bmqm bjn bgm blpm bspm bdgm bldm [bkm63, bkm60, bkm66, bkm68, bkm64, bkm65, bkm67] 30000 bkm69 = true := by decide +kernel
theorem bcm69 : bcon bZ bIm bkm69 := bchk_ok bZ_len (List.forall_mem_cons.mpr ⟨bcm63, List.forall_mem_cons.mpr ⟨bcm60, List.forall_mem_cons.mpr ⟨bcm66, List.forall_mem_cons.mpr ⟨bcm68, List.forall_mem_cons.mpr ⟨bcm64, List.forall_mem_cons.mpr ⟨bcm65, List.forall_mem_cons.mpr ⟨bcm67, fun _ q => absurd q List.not_mem_nil⟩⟩⟩⟩⟩⟩⟩) btm69
-- sendsBy: 30 steps
def bkm70 : bC := (222, [some (.inr [.index 338]), some (.inl (0, 0)), some (.inl (-2147483648, 2147483647))], some (.inl (-2147483648, 2147483647)), [(338, 338), (349, 349)], 4, [], [])
theorem btm70 : bchk bZ bIm bmpm bmqm bjn bgm blpm bspm bdgm bldm [bkm62, bkm69] 30000 bkm70 = true := by decide +kernel
theorem bcm70 : bcon bZ bIm bkm70 := bchk_ok bZ_len (List.forall_mem_cons.mpr ⟨bcm62, List.forall_mem_cons.mpr ⟨bcm69, fun _ q => absurd q List.not_mem_nil⟩⟩) btm70
-- begins: 17 steps
def bkm71 : bC := (218, [some (.inr [.index 338]), some (.inl (30, 30))], none, [(338, 338), (349, 349)], 0, [], [])
theorem btm71 : bchk bZ bIm bmpm bmqm bjn bgm blpm bspm bdgm bldm [] 30000 bkm71 = true := by decide +kernel
theorem bcm71 : bcon bZ bIm bkm71 := bchk_ok bZ_len (fun _ q => absurd q List.not_mem_nil) btm71
-- sendsBy: 19 steps
def bkm72 : bC := (222, [some (.inr [.index 338]), some (.inl (1, 1)), some (.inl (-2147483648, 2147483647))], some (.inl (-2147483648, 2147483647)), [(338, 338), (349, 349)], 5, [], [])
theorem btm72 : bchk bZ bIm bmpm bmqm bjn bgm blpm bspm bdgm bldm [bkm70] 30000 bkm72 = true := by decide +kernel
theorem bcm72 : bcon bZ bIm bkm72 := bchk_ok bZ_len (List.forall_mem_cons.mpr ⟨bcm70, fun _ q => absurd q List.not_mem_nil⟩) btm72
-- begins: 17 steps
def bkm73 : bC := (218, [some (.inr [.index 338]), some (.inl (60, 60))], none, [(338, 338), (349, 349)], 0, [], [])
theorem btm73 : bchk bZ bIm bmpm bmqm bjn bgm blpm bspm bdgm bldm [] 30000 bkm73 = true := by decide +kernel
theorem bcm73 : bcon bZ bIm bkm73 := bchk_ok bZ_len (fun _ q => absurd q List.not_mem_nil) btm73
-- sendsBy: 19 steps
def bkm74 : bC := (222, [some (.inr [.index 338]), some (.inl (4, 4)), some (.inl (-2147483648, 2147483647))], some (.inl (-2147483648, 2147483647)), [(338, 338), (349, 349)], 5, [], [])
theorem btm74 : bchk bZ bIm bmpm bmqm bjn bgm blpm bspm bdgm bldm [bkm70] 30000 bkm74 = true := by decide +kernel
theorem bcm74 : bcon bZ bIm bkm74 := bchk_ok bZ_len (List.forall_mem_cons.mpr ⟨bcm70, fun _ q => absurd q List.not_mem_nil⟩) btm74
-- sendsBy: 148 steps
def bkm75 : bC := (222, [some (.inr [.index 338]), some (.inl (0, 6)), some (.inl (-2147483648, 2147483647))], some (.inl (-2147483648, 2147483647)), [(338, 338), (349, 349)], 6, [], [])
theorem btm75 : bchk bZ bIm bmpm bmqm bjn bgm blpm bspm bdgm bldm [bkm62, bkm71, bkm73, bkm69, bkm70, bkm72, bkm74] 30000 bkm75 = true := by decide +kernel
theorem bcm75 : bcon bZ bIm bkm75 := bchk_ok bZ_len (List.forall_mem_cons.mpr ⟨bcm62, List.forall_mem_cons.mpr ⟨bcm71, List.forall_mem_cons.mpr ⟨bcm73, List.forall_mem_cons.mpr ⟨bcm69, List.forall_mem_cons.mpr ⟨bcm70, List.forall_mem_cons.mpr ⟨bcm72, List.forall_mem_cons.mpr ⟨bcm74, fun _ q => absurd q List.not_mem_nil⟩⟩⟩⟩⟩⟩⟩) btm75
-- waitsBy: 55 steps
def bkm76 : bC := (224, [some (.inr [.index 338]), some (.inl (1, 1)), some (.inl (-2147483648, 2147483647))], some (.inl (-2147483648, 2147483647)), [(338, 338), (349, 349)], 7, [], [])
theorem btm76 : bchk bZ bIm bmpm bmqm bjn bgm blpm bspm bdgm bldm [bkm60, bkm75, bkm61] 30000 bkm76 = true := by decide +kernel
theorem bcm76 : bcon bZ bIm bkm76 := bchk_ok bZ_len (List.forall_mem_cons.mpr ⟨bcm60, List.forall_mem_cons.mpr ⟨bcm75, List.forall_mem_cons.mpr ⟨bcm61, fun _ q => absurd q List.not_mem_nil⟩⟩⟩) btm76
-- waitsBy: 21 steps
def bkm77 : bC := (224, [some (.inr [.index 338]), some (.inl (4, 4)), some (.inl (-2147483648, 2147483647))], some (.inl (-2147483648, 2147483647)), [(338, 338), (349, 349)], 2, [], [])
theorem btm77 : bchk bZ bIm bmpm bmqm bjn bgm blpm bspm bdgm bldm [bkm61] 30000 bkm77 = true := by decide +kernel
theorem bcm77 : bcon bZ bIm bkm77 := bchk_ok bZ_len (List.forall_mem_cons.mpr ⟨bcm61, fun _ q => absurd q List.not_mem_nil⟩) btm77
-- begins: 17 steps
def bkm78 : bC := (218, [some (.inr [.index 338]), some (.inl (12, 12))], none, [(338, 338), (349, 349)], 0, [], [])
theorem btm78 : bchk bZ bIm bmpm bmqm bjn bgm blpm bspm bdgm bldm [] 30000 bkm78 = true := by decide +kernel
theorem bcm78 : bcon bZ bIm bkm78 := bchk_ok bZ_len (fun _ q => absurd q List.not_mem_nil) btm78
-- keepsBy: 45 steps
def bkm79 : bC := (223, [some (.inr [.index 338]), some (.inl (0, 0)), some (.inl (-2147483648, 2147483647))], some (.inl (-2147483648, 2147483647)), [(338, 338), (349, 349)], 7, [], [])
theorem btm79 : bchk bZ bIm bmpm bmqm bjn bgm blpm bspm bdgm bldm [bkm78, bkm75] 30000 bkm79 = true := by decide +kernel
theorem bcm79 : bcon bZ bIm bkm79 := bchk_ok bZ_len (List.forall_mem_cons.mpr ⟨bcm78, List.forall_mem_cons.mpr ⟨bcm75, fun _ q => absurd q List.not_mem_nil⟩⟩) btm79
-- keepsBy: 19 steps
def bkm80 : bC := (223, [some (.inr [.index 338]), some (.inl (1, 1)), some (.inl (-2147483648, 2147483647))], some (.inl (-2147483648, 2147483647)), [(338, 338), (349, 349)], 8, [], [])
theorem btm80 : bchk bZ bIm bmpm bmqm bjn bgm blpm bspm bdgm bldm [bkm79] 30000 bkm80 = true := by decide +kernel
theorem bcm80 : bcon bZ bIm bkm80 := bchk_ok bZ_len (List.forall_mem_cons.mpr ⟨bcm79, fun _ q => absurd q List.not_mem_nil⟩) btm80
-- keepsBy: 25 steps
def bkm81 : bC := (223, [some (.inr [.index 338]), some (.inl (4, 4)), some (.inl (-2147483648, 2147483647))], some (.inl (-2147483648, 2147483647)), [(338, 338), (349, 349)], 8, [], [])
theorem btm81 : bchk bZ bIm bmpm bmqm bjn bgm blpm bspm bdgm bldm [bkm66, bkm79] 30000 bkm81 = true := by decide +kernel
theorem bcm81 : bcon bZ bIm bkm81 := bchk_ok bZ_len (List.forall_mem_cons.mpr ⟨bcm66, List.forall_mem_cons.mpr ⟨bcm79, fun _ q => absurd q List.not_mem_nil⟩⟩) btm81
-- keepsBy: 164 steps
def bkm82 : bC := (223, [some (.inr [.index 338]), some (.inl (0, 6)), some (.inl (-2147483648, 2147483647))], some (.inl (-2147483648, 2147483647)), [(338, 338), (349, 349)], 9, [], [])
theorem btm82 : bchk bZ bIm bmpm bmqm bjn bgm blpm bspm bdgm bldm [bkm78, bkm66, bkm75, bkm79, bkm80, bkm81] 30000 bkm82 = true := by decide +kernel
theorem bcm82 : bcon bZ bIm bkm82 := bchk_ok bZ_len (List.forall_mem_cons.mpr ⟨bcm78, List.forall_mem_cons.mpr ⟨bcm66, List.forall_mem_cons.mpr ⟨bcm75, List.forall_mem_cons.mpr ⟨bcm79, List.forall_mem_cons.mpr ⟨bcm80, List.forall_mem_cons.mpr ⟨bcm81, fun _ q => absurd q List.not_mem_nil⟩⟩⟩⟩⟩⟩) btm82
-- waitsBy: 268 steps
def bkm83 : bC := (224, [some (.inr [.index 338]), some (.inl (0, 6)), some (.inl (-2147483648, 2147483647))], some (.inl (-2147483648, 2147483647)), [(338, 338), (349, 349)], 10, [], [])
theorem btm83 : bchk bZ bIm bmpm bmqm bjn bgm blpm bspm bdgm bldm [bkm59, bkm60, bkm68, bkm75, bkm82, bkm61, bkm76, bkm77] 30000 bkm83 = true := by decide +kernel
theorem bcm83 : bcon bZ bIm bkm83 := bchk_ok bZ_len (List.forall_mem_cons.mpr ⟨bcm59, List.forall_mem_cons.mpr ⟨bcm60, List.forall_mem_cons.mpr ⟨bcm68, List.forall_mem_cons.mpr ⟨bcm75, List.forall_mem_cons.mpr ⟨bcm82, List.forall_mem_cons.mpr ⟨bcm61, List.forall_mem_cons.mpr ⟨bcm76, List.forall_mem_cons.mpr ⟨bcm77, fun _ q => absurd q List.not_mem_nil⟩⟩⟩⟩⟩⟩⟩⟩) btm83
-- error: 12 steps
def bkm84 : bC := (135, [some (.inr [.index 338]), some (.inl (6, 6))], some (.inl (-1000006, -1000006)), [(341, 341)], 0, [], [])
theorem btm84 : bchk bZ bIm bmpm bmqm bjn bgm blpm bspm bdgm bldm [] 30000 bkm84 = true := by decide +kernel
theorem bcm84 : bcon bZ bIm bkm84 := bchk_ok bZ_len (fun _ q => absurd q List.not_mem_nil) btm84
-- call: 37 steps
def bkm85 : bC := (159, [some (.inr [.index 338])], some (.inl (-1000004, 11)), [(338, 353)], 1, [], [])
theorem btm85 : bchk bZ bIm bmpm bmqm bjn bgm blpm bspm bdgm bldm [bkm0] 30000 bkm85 = true := by decide +kernel
theorem bcm85 : bcon bZ bIm bkm85 := bchk_ok bZ_len (List.forall_mem_cons.mpr ⟨bcm0, fun _ q => absurd q List.not_mem_nil⟩) btm85
-- sound: 1501 steps
def bkm86 : bC := (160, [some (.inr [.index 338]), some (.inl (-2147483648, 2147483647)), some (.inl (-2147483648, 2147483647))], some (.inl (-1000004, 12)), [(338, 353)], 2, [], [])
theorem btm86 : bchk bZ bIm bmpm bmqm bjn bgm blpm bspm bdgm bldm [bkm1, bkm0] 30000 bkm86 = true := by decide +kernel
theorem bcm86 : bcon bZ bIm bkm86 := bchk_ok bZ_len (List.forall_mem_cons.mpr ⟨bcm1, List.forall_mem_cons.mpr ⟨bcm0, fun _ q => absurd q List.not_mem_nil⟩⟩) btm86
-- soundOf: 63 steps
def bkm87 : bC := (162, [some (.inr [.index 338]), some (.inl (-2147483648, 2147483647)), some (.inl (-2147483648, 2147483647))], some (.inl (-2147483648, 2147483647)), [(338, 353)], 2, [], [])
theorem btm87 : bchk bZ bIm bmpm bmqm bjn bgm blpm bspm bdgm bldm [bkm1, bkm2] 30000 bkm87 = true := by decide +kernel
theorem bcm87 : bcon bZ bIm bkm87 := bchk_ok bZ_len (List.forall_mem_cons.mpr ⟨bcm1, List.forall_mem_cons.mpr ⟨bcm2, fun _ q => absurd q List.not_mem_nil⟩⟩) btm87
-- hush: 52 steps
def bkm88 : bC := (163, [some (.inr [.index 338]), some (.inl (-2147483648, 2147483647))], some (.inl (-1000001, 12)), [(338, 353)], 2, [], [])
theorem btm88 : bchk bZ bIm bmpm bmqm bjn bgm blpm bspm bdgm bldm [bkm1] 30000 bkm88 = true := by decide +kernel
theorem bcm88 : bcon bZ bIm bkm88 := bchk_ok bZ_len (List.forall_mem_cons.mpr ⟨bcm1, fun _ q => absurd q List.not_mem_nil⟩) btm88
-- draw: 170 steps
def bkm89 : bC := (165, [some (.inr [.index 338]), some (.inl (-2147483648, 2147483647)), some (.inl (-2147483648, 2147483647))], some (.inl (-2147483648, 2147483647)), [(338, 353)], 2, [], [])
theorem btm89 : bchk bZ bIm bmpm bmqm bjn bgm blpm bspm bdgm bldm [bkm1, bkm3] 30000 bkm89 = true := by decide +kernel
theorem bcm89 : bcon bZ bIm bkm89 := bchk_ok bZ_len (List.forall_mem_cons.mpr ⟨bcm1, List.forall_mem_cons.mpr ⟨bcm3, fun _ q => absurd q List.not_mem_nil⟩⟩) btm89
-- contrary: 54 steps
def bkm90 : bC := (166, [some (.inr [.index 338]), some (.inl (-2147483648, 2147483647))], some (.inl (-2147483648, 2147483647)), [(338, 353)], 2, [], [])
theorem btm90 : bchk bZ bIm bmpm bmqm bjn bgm blpm bspm bdgm bldm [bkm1, bkm3] 30000 bkm90 = true := by decide +kernel
theorem bcm90 : bcon bZ bIm bkm90 := bchk_ok bZ_len (List.forall_mem_cons.mpr ⟨bcm1, List.forall_mem_cons.mpr ⟨bcm3, fun _ q => absurd q List.not_mem_nil⟩⟩) btm90
-- rock: 103 steps
def bkm91 : bC := (167, [some (.inr [.index 338]), some (.inl (-2147483648, 2147483647)), some (.inl (-2147483648, 2147483647))], some (.inl (-1000004, 7)), [(338, 353)], 1, [], [])
theorem btm91 : bchk bZ bIm bmpm bmqm bjn bgm blpm bspm bdgm bldm [bkm1, bkm0] 30000 bkm91 = true := by decide +kernel
theorem bcm91 : bcon bZ bIm bkm91 := bchk_ok bZ_len (List.forall_mem_cons.mpr ⟨bcm1, List.forall_mem_cons.mpr ⟨bcm0, fun _ q => absurd q List.not_mem_nil⟩⟩) btm91
-- rockIs: 69 steps
def bkm92 : bC := (168, [some (.inr [.index 338]), some (.inl (-2147483648, 2147483647)), some (.inl (-2147483648, 2147483647))], some (.inl (-1000001, 20)), [(338, 353)], 2, [], [])
theorem btm92 : bchk bZ bIm bmpm bmqm bjn bgm blpm bspm bdgm bldm [bkm1] 30000 bkm92 = true := by decide +kernel
theorem bcm92 : bcon bZ bIm bkm92 := bchk_ok bZ_len (List.forall_mem_cons.mpr ⟨bcm1, fun _ q => absurd q List.not_mem_nil⟩) btm92
-- as: 140 steps
def bkm93 : bC := (170, [some (.inr [.index 338]), some (.inl (-2147483648, 2147483647)), some (.inl (-2147483648, 2147483647))], some (.inl (-1000005, 20)), [(338, 353)], 2, [], [])
theorem btm93 : bchk bZ bIm bmpm bmqm bjn bgm blpm bspm bdgm bldm [bkm1, bkm4] 30000 bkm93 = true := by decide +kernel
theorem bcm93 : bcon bZ bIm bkm93 := bchk_ok bZ_len (List.forall_mem_cons.mpr ⟨bcm1, List.forall_mem_cons.mpr ⟨bcm4, fun _ q => absurd q List.not_mem_nil⟩⟩) btm93
-- set: 400 steps
def bkm94 : bC := (171, [some (.inr [.index 338]), some (.inl (-2147483648, 2147483647)), some (.inl (-2147483648, 2147483647)), some (.inl (-2147483648, 2147483647))], some (.inl (-1000001, 20)), [(338, 353)], 2, [], [])
theorem btm94 : bchk bZ bIm bmpm bmqm bjn bgm blpm bspm bdgm bldm [bkm1] 30000 bkm94 = true := by decide +kernel
theorem bcm94 : bcon bZ bIm bkm94 := bchk_ok bZ_len (List.forall_mem_cons.mpr ⟨bcm1, fun _ q => absurd q List.not_mem_nil⟩) btm94
-- feed: 284 steps
def bkm95 : bC := (172, [some (.inr [.index 338]), none, some (.inl (-2147483648, 2147483647))], some (.inl (-1000004, 67)), [(338, 353)], 1, [], [])
theorem btm95 : bchk bZ bIm bmpm bmqm bjn bgm blpm bspm bdgm bldm [bkm1, bkm0] 30000 bkm95 = true := by decide +kernel
theorem bcm95 : bcon bZ bIm bkm95 := bchk_ok bZ_len (List.forall_mem_cons.mpr ⟨bcm1, List.forall_mem_cons.mpr ⟨bcm0, fun _ q => absurd q List.not_mem_nil⟩⟩) btm95
-- untell: 50 steps
def bkm96 : bC := (185, [some (.inr [.index 338]), some (.inl (-2147483648, 2147483647))], some (.inl (-1000001, 0)), [(338, 353)], 1, [], [])
theorem btm96 : bchk bZ bIm bmpm bmqm bjn bgm blpm bspm bdgm bldm [bkm1] 30000 bkm96 = true := by decide +kernel
theorem bcm96 : bcon bZ bIm bkm96 := bchk_ok bZ_len (List.forall_mem_cons.mpr ⟨bcm1, fun _ q => absurd q List.not_mem_nil⟩) btm96
