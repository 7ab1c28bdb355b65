-- ===== contracts
-- saying: 1175 steps
def bkm56 : bC := (205, [some (.inr [.index 338])], some (.inl (0, 1)), [(338, 338)], 14, [], [])
theorem btm56 : bchk bZ bIm bmpm bmqm bjn bgm blpm bspm bdgm bldm [bkm42, bkm44, bkm45, bkm46, bkm47, bkm48, bkm49, bkm50, bkm51, bkm52, bkm53, bkm54, bkm55] 30000 bkm56 = true := by decide +kernel
theorem bcm56 : bcon bZ bIm bkm56 := bchk_ok bZ_len (List.forall_mem_cons.mpr ⟨bcm42, List.forall_mem_cons.mpr ⟨bcm44, List.forall_mem_cons.mpr ⟨bcm45, List.forall_mem_cons.mpr ⟨bcm46, List.forall_mem_cons.mpr ⟨bcm47, List.forall_mem_cons.mpr ⟨bcm48, List.forall_mem_cons.mpr ⟨bcm49, List.forall_mem_cons.mpr ⟨bcm50, List.forall_mem_cons.mpr ⟨bcm51, List.forall_mem_cons.mpr ⟨bcm52, List.forall_mem_cons.mpr ⟨bcm53, List.forall_mem_cons.mpr ⟨bcm54, List.forall_mem_cons.mpr ⟨bcm55, fun _ q => absurd q List.not_mem_nil⟩⟩⟩⟩⟩⟩⟩⟩⟩⟩⟩⟩⟩) btm56
-- error: 12 steps
def bkm57 : bC := (135, [some (.inr [.index 338]), some (.inl (2, 2))], some (.inl (-1000002, -1000002)), [(341, 341)], 0, [], [])
theorem btm57 : bchk bZ bIm bmpm bmqm bjn bgm blpm bspm bdgm bldm [] 30000 bkm57 = true := by decide +kernel
theorem bcm57 : bcon bZ bIm bkm57 := bchk_ok bZ_len (fun _ q => absurd q List.not_mem_nil) btm57
-- comes: 1196 steps
def bkm58 : bC := (210, [some (.inr [.index 338])], none, [(339, 339)], 1, [], [])
theorem btm58 : bchk bZ bIm bmpm bmqm bjn bgm blpm bspm bdgm bldm [] 30000 bkm58 = true := by decide +kernel
theorem bcm58 : bcon bZ bIm bkm58 := bchk_ok bZ_len (fun _ q => absurd q List.not_mem_nil) btm58
-- call: 37 steps
def bkm59 : bC := (159, [some (.inr [.index 338])], some (.inl (-1000004, 11)), [(338, 353)], 1, [], [])
theorem btm59 : bchk bZ bIm bmpm bmqm bjn bgm blpm bspm bdgm bldm [bkm0] 30000 bkm59 = true := by decide +kernel
theorem bcm59 : bcon bZ bIm bkm59 := bchk_ok bZ_len (List.forall_mem_cons.mpr ⟨bcm0, fun _ q => absurd q List.not_mem_nil⟩) btm59
-- sound: 1501 steps
def bkm60 : bC := (160, [some (.inr [.index 338]), some (.inl (-2147483648, 2147483647)), some (.inl (-2147483648, 2147483647))], some (.inl (-1000004, 12)), [(338, 353)], 2, [], [])
theorem btm60 : bchk bZ bIm bmpm bmqm bjn bgm blpm bspm bdgm bldm [bkm1, bkm0] 30000 bkm60 = true := by decide +kernel
theorem bcm60 : bcon bZ bIm bkm60 := bchk_ok bZ_len (List.forall_mem_cons.mpr ⟨bcm1, List.forall_mem_cons.mpr ⟨bcm0, fun _ q => absurd q List.not_mem_nil⟩⟩) btm60
-- soundOf: 63 steps
def bkm61 : bC := (162, [some (.inr [.index 338]), some (.inl (-2147483648, 2147483647)), some (.inl (-2147483648, 2147483647))], some (.inl (-2147483648, 2147483647)), [(338, 353)], 2, [], [])
theorem btm61 : bchk bZ bIm bmpm bmqm bjn bgm blpm bspm bdgm bldm [bkm1, bkm2] 30000 bkm61 = true := by decide +kernel
theorem bcm61 : bcon bZ bIm bkm61 := bchk_ok bZ_len (List.forall_mem_cons.mpr ⟨bcm1, List.forall_mem_cons.mpr ⟨bcm2, fun _ q => absurd q List.not_mem_nil⟩⟩) btm61
-- hush: 52 steps
def bkm62 : bC := (163, [some (.inr [.index 338]), some (.inl (-2147483648, 2147483647))], some (.inl (-1000001, 12)), [(338, 353)], 2, [], [])
theorem btm62 : bchk bZ bIm bmpm bmqm bjn bgm blpm bspm bdgm bldm [bkm1] 30000 bkm62 = true := by decide +kernel
theorem bcm62 : bcon bZ bIm bkm62 := bchk_ok bZ_len (List.forall_mem_cons.mpr ⟨bcm1, fun _ q => absurd q List.not_mem_nil⟩) btm62
-- draw: 170 steps
def bkm63 : bC := (165, [some (.inr [.index 338]), some (.inl (-2147483648, 2147483647)), some (.inl (-2147483648, 2147483647))], some (.inl (-2147483648, 2147483647)), [(338, 353)], 2, [], [])
theorem btm63 : bchk bZ bIm bmpm bmqm bjn bgm blpm bspm bdgm bldm [bkm1, bkm3] 30000 bkm63 = true := by decide +kernel
theorem bcm63 : bcon bZ bIm bkm63 := bchk_ok bZ_len (List.forall_mem_cons.mpr ⟨bcm1, List.forall_mem_cons.mpr ⟨bcm3, fun _ q => absurd q List.not_mem_nil⟩⟩) btm63
-- contrary: 54 steps
def bkm64 : bC := (166, [some (.inr [.index 338]), some (.inl (-2147483648, 2147483647))], some (.inl (-2147483648, 2147483647)), [(338, 353)], 2, [], [])
theorem btm64 : bchk bZ bIm bmpm bmqm bjn bgm blpm bspm bdgm bldm [bkm1, bkm3] 30000 bkm64 = true := by decide +kernel
theorem bcm64 : bcon bZ bIm bkm64 := bchk_ok bZ_len (List.forall_mem_cons.mpr ⟨bcm1, List.forall_mem_cons.mpr ⟨bcm3, fun _ q => absurd q List.not_mem_nil⟩⟩) btm64
-- rock: 103 steps
def bkm65 : bC := (167, [some (.inr [.index 338]), some (.inl (-2147483648, 2147483647)), some (.inl (-2147483648, 2147483647))], some (.inl (-1000004, 7)), [(338, 353)], 1, [], [])
theorem btm65 : bchk bZ bIm bmpm bmqm bjn bgm blpm bspm bdgm bldm [bkm1, bkm0] 30000 bkm65 = true := by decide +kernel
theorem bcm65 : bcon bZ bIm bkm65 := bchk_ok bZ_len (List.forall_mem_cons.mpr ⟨bcm1, List.forall_mem_cons.mpr ⟨bcm0, fun _ q => absurd q List.not_mem_nil⟩⟩) btm65
-- rockIs: 69 steps
def bkm66 : bC := (168, [some (.inr [.index 338]), some (.inl (-2147483648, 2147483647)), some (.inl (-2147483648, 2147483647))], some (.inl (-1000001, 20)), [(338, 353)], 2, [], [])
theorem btm66 : bchk bZ bIm bmpm bmqm bjn bgm blpm bspm bdgm bldm [bkm1] 30000 bkm66 = true := by decide +kernel
theorem bcm66 : bcon bZ bIm bkm66 := bchk_ok bZ_len (List.forall_mem_cons.mpr ⟨bcm1, fun _ q => absurd q List.not_mem_nil⟩) btm66
-- as: 140 steps
def bkm67 : bC := (170, [some (.inr [.index 338]), some (.inl (-2147483648, 2147483647)), some (.inl (-2147483648, 2147483647))], some (.inl (-1000005, 20)), [(338, 353)], 2, [], [])
theorem btm67 : bchk bZ bIm bmpm bmqm bjn bgm blpm bspm bdgm bldm [bkm1, bkm4] 30000 bkm67 = true := by decide +kernel
theorem bcm67 : bcon bZ bIm bkm67 := bchk_ok bZ_len (List.forall_mem_cons.mpr ⟨bcm1, List.forall_mem_cons.mpr ⟨bcm4, fun _ q => absurd q List.not_mem_nil⟩⟩) btm67
-- set: 400 steps
def bkm68 : bC := (171, [some (.inr [.index 338]), some (.inl (-2147483648, 2147483647)), some (.inl (-2147483648, 2147483647)), some (.inl (-2147483648, 2147483647))], some (.inl (-1000001, 20)), [(338, 353)], 2, [], [])
theorem btm68 : bchk bZ bIm bmpm bmqm bjn bgm blpm bspm bdgm bldm [bkm1] 30000 bkm68 = true := by decide +kernel
theorem bcm68 : bcon bZ bIm bkm68 := bchk_ok bZ_len (List.forall_mem_cons.mpr ⟨bcm1, fun _ q => absurd q List.not_mem_nil⟩) btm68
-- feed: 284 steps
def bkm69 : bC := (172, [some (.inr [.index 338]), none, some (.inl (-2147483648, 2147483647))], some (.inl (-1000004, 67)), [(338, 353)], 1, [], [])
theorem btm69 : bchk bZ bIm bmpm bmqm bjn bgm blpm bspm bdgm bldm [bkm1, bkm0] 30000 bkm69 = true := by decide +kernel
theorem bcm69 : bcon bZ bIm bkm69 := bchk_ok bZ_len (List.forall_mem_cons.mpr ⟨bcm1, List.forall_mem_cons.mpr ⟨bcm0, fun _ q => absurd q List.not_mem_nil⟩⟩) btm69
-- untell: 50 steps
def bkm70 : bC := (185, [some (.inr [.index 338]), some (.inl (-2147483648, 2147483647))], some (.inl (-1000001, 0)), [(338, 353)], 1, [], [])
theorem btm70 : bchk bZ bIm bmpm bmqm bjn bgm blpm bspm bdgm bldm [bkm1] 30000 bkm70 = true := by decide +kernel
theorem bcm70 : bcon bZ bIm bkm70 := bchk_ok bZ_len (List.forall_mem_cons.mpr ⟨bcm1, fun _ q => absurd q List.not_mem_nil⟩) btm70
