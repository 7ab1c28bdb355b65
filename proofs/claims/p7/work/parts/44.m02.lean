-- ===== contracts
-- rock: 103 steps
def bkm67 : bC := (167, [some (.inr [.index 338]), some (.inl (-2147483648, 2147483647)), some (.inl (-2147483648, 2147483647))], some (.inl (-1000004, 7)), [(338, 353)], 1, [], [])
theorem btm67 : bchk bzf bIm bmpm bmqm bjn bgm blpm bspm bdgm bldm [bkm1, bkm0] 30000 bkm67 = true := by decide +kernel
theorem bcm67 : bcon bZ bIm bkm67 := bchk_ok bZ_len bzf_ok (List.forall_mem_cons.mpr ⟨bcm1, List.forall_mem_cons.mpr ⟨bcm0, fun _ q => absurd q List.not_mem_nil⟩⟩) btm67
-- rockIs: 69 steps
def bkm68 : bC := (168, [some (.inr [.index 338]), some (.inl (-2147483648, 2147483647)), some (.inl (-2147483648, 2147483647))], some (.inl (-1000001, 20)), [(338, 353)], 2, [], [])
theorem btm68 : bchk bzf bIm bmpm bmqm bjn bgm blpm bspm bdgm bldm [bkm1] 30000 bkm68 = true := by decide +kernel
theorem bcm68 : bcon bZ bIm bkm68 := bchk_ok bZ_len bzf_ok (List.forall_mem_cons.mpr ⟨bcm1, fun _ q => absurd q List.not_mem_nil⟩) btm68
-- as: 140 steps
def bkm69 : bC := (170, [some (.inr [.index 338]), some (.inl (-2147483648, 2147483647)), some (.inl (-2147483648, 2147483647))], some (.inl (-1000005, 20)), [(338, 353)], 2, [], [])
theorem btm69 : bchk bzf bIm bmpm bmqm bjn bgm blpm bspm bdgm bldm [bkm1, bkm4] 30000 bkm69 = true := by decide +kernel
theorem bcm69 : bcon bZ bIm bkm69 := bchk_ok bZ_len bzf_ok (List.forall_mem_cons.mpr ⟨bcm1, List.forall_mem_cons.mpr ⟨bcm4, fun _ q => absurd q List.not_mem_nil⟩⟩) btm69
-- set: 400 steps
def bkm70 : bC := (171, [some (.inr [.index 338]), some (.inl (-2147483648, 2147483647)), some (.inl (-2147483648, 2147483647)), some (.inl (-2147483648, 2147483647))], some (.inl (-1000001, 20)), [(338, 353)], 2, [], [])
theorem btm70 : bchk bzf bIm bmpm bmqm bjn bgm blpm bspm bdgm bldm [bkm1] 30000 bkm70 = true := by decide +kernel
theorem bcm70 : bcon bZ bIm bkm70 := bchk_ok bZ_len bzf_ok (List.forall_mem_cons.mpr ⟨bcm1, fun _ q => absurd q List.not_mem_nil⟩) btm70
-- feed: 284 steps
def bkm71 : bC := (172, [some (.inr [.index 338]), none, some (.inl (-2147483648, 2147483647))], some (.inl (-1000004, 67)), [(338, 353)], 1, [], [])
theorem btm71 : bchk bzf bIm bmpm bmqm bjn bgm blpm bspm bdgm bldm [bkm1, bkm0] 30000 bkm71 = true := by decide +kernel
theorem bcm71 : bcon bZ bIm bkm71 := bchk_ok bZ_len bzf_ok (List.forall_mem_cons.mpr ⟨bcm1, List.forall_mem_cons.mpr ⟨bcm0, fun _ q => absurd q List.not_mem_nil⟩⟩) btm71
-- untell: 50 steps
def bkm72 : bC := (185, [some (.inr [.index 338]), some (.inl (-2147483648, 2147483647))], some (.inl (-1000001, 0)), [(338, 353)], 1, [], [])
theorem btm72 : bchk bzf bIm bmpm bmqm bjn bgm blpm bspm bdgm bldm [bkm1] 30000 bkm72 = true := by decide +kernel
theorem bcm72 : bcon bZ bIm bkm72 := bchk_ok bZ_len bzf_ok (List.forall_mem_cons.mpr ⟨bcm1, fun _ q => absurd q List.not_mem_nil⟩) btm72
-- heard: 2010 steps
def bkm73 : bC := (188, [some (.inr [.index 338]), some (.inl (-2147483648, 2147483647)), some (.inl (-2147483648, 2147483647)), some (.inl (-2147483648, 2147483647))], some (.inl (-2147483648, 2147483647)), [(338, 353)], 5, [], [])
theorem btm73 : bchk bzf bIm bmpm bmqm bjn bgm blpm bspm bdgm bldm [bkm1, bkm10, bkm2] 30000 bkm73 = true := by decide +kernel
theorem bcm73 : bcon bZ bIm bkm73 := bchk_ok bZ_len bzf_ok (List.forall_mem_cons.mpr ⟨bcm1, List.forall_mem_cons.mpr ⟨bcm10, List.forall_mem_cons.mpr ⟨bcm2, fun _ q => absurd q List.not_mem_nil⟩⟩⟩) btm73
-- self: 2125 steps
def bkm74 : bC := (189, [some (.inr [.index 338]), some (.inl (-2147483648, 2147483647)), some (.inl (-2147483648, 2147483647))], some (.inl (-1000001, 1)), [(338, 353)], 5, [], [])
theorem btm74 : bchk bzf bIm bmpm bmqm bjn bgm blpm bspm bdgm bldm [bkm1, bkm11, bkm10] 30000 bkm74 = true := by decide +kernel
theorem bcm74 : bcon bZ bIm bkm74 := bchk_ok bZ_len bzf_ok (List.forall_mem_cons.mpr ⟨bcm1, List.forall_mem_cons.mpr ⟨bcm11, List.forall_mem_cons.mpr ⟨bcm10, fun _ q => absurd q List.not_mem_nil⟩⟩⟩) btm74
-- takes: 1031 steps
def bkm75 : bC := (190, [some (.inr [.index 338]), some (.inl (-2147483648, 2147483647))], some (.inl (-1000001, 80)), [(338, 353)], 3, [], [])
theorem btm75 : bchk bzf bIm bmpm bmqm bjn bgm blpm bspm bdgm bldm [bkm1] 30000 bkm75 = true := by decide +kernel
theorem bcm75 : bcon bZ bIm bkm75 := bchk_ok bZ_len bzf_ok (List.forall_mem_cons.mpr ⟨bcm1, fun _ q => absurd q List.not_mem_nil⟩) btm75
