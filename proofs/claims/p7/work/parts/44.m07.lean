-- ===== contracts
-- sheet: 1551 steps
def bkm116 : bC := (228, [some (.inr [.index 338]), some (.inl (-2147483648, 2147483647)), some (.inl (-2147483648, 2147483647)), some (.inl (-2147483648, 2147483647))], some (.inl (-1000003, 1)), [(338, 353)], 2, [], [])
theorem btm116 : bchk bZ bIm bmpm bmqm bjn bgm blpm bspm bdgm bldm [bkm1, bkm14] 30000 bkm116 = true := by decide +kernel
theorem bcm116 : bcon bZ bIm bkm116 := bchk_ok bZ_len (List.forall_mem_cons.mpr ⟨bcm1, List.forall_mem_cons.mpr ⟨bcm14, fun _ q => absurd q List.not_mem_nil⟩⟩) btm116
-- put: 84 steps
def bkm117 : bC := (229, [some (.inr [.index 338]), some (.inl (-2147483648, 2147483647)), some (.inl (-2147483648, 2147483647)), some (.inl (-2147483648, 2147483647))], some (.inl (-1000002, 1)), [(338, 353)], 2, [], [])
theorem btm117 : bchk bZ bIm bmpm bmqm bjn bgm blpm bspm bdgm bldm [bkm1, bkm57] 30000 bkm117 = true := by decide +kernel
theorem bcm117 : bcon bZ bIm bkm117 := bchk_ok bZ_len (List.forall_mem_cons.mpr ⟨bcm1, List.forall_mem_cons.mpr ⟨bcm57, fun _ q => absurd q List.not_mem_nil⟩⟩) btm117
-- sounds: 657 steps
def bkm118 : bC := (231, [some (.inr [.index 338]), some (.inl (-2147483648, 2147483647)), some (.inl (-2147483648, 2147483647))], some (.inl (-1000002, 12)), [(338, 353)], 2, [], [])
theorem btm118 : bchk bZ bIm bmpm bmqm bjn bgm blpm bspm bdgm bldm [bkm1, bkm57] 30000 bkm118 = true := by decide +kernel
theorem bcm118 : bcon bZ bIm bkm118 := bchk_ok bZ_len (List.forall_mem_cons.mpr ⟨bcm1, List.forall_mem_cons.mpr ⟨bcm57, fun _ q => absurd q List.not_mem_nil⟩⟩) btm118
-- image: 27 steps
def bkm119 : bC := (232, [some (.inr [.index 338])], some (.inl (-2147483648, 2147483647)), [(338, 353)], 1, [], [])
theorem btm119 : bchk bZ bIm bmpm bmqm bjn bgm blpm bspm bdgm bldm [] 30000 bkm119 = true := by decide +kernel
theorem bcm119 : bcon bZ bIm bkm119 := bchk_ok bZ_len (fun _ q => absurd q List.not_mem_nil) btm119
-- restore: 53 steps
def bkm120 : bC := (233, [some (.inr [.index 338])], some (.inl (-2147483648, 2147483647)), [(338, 353)], 1, [], [])
theorem btm120 : bchk bZ bIm bmpm bmqm bjn bgm blpm bspm bdgm bldm [bkm57] 30000 bkm120 = true := by decide +kernel
theorem bcm120 : bcon bZ bIm bkm120 := bchk_ok bZ_len (List.forall_mem_cons.mpr ⟨bcm57, fun _ q => absurd q List.not_mem_nil⟩) btm120
-- tell: 33 steps
def bkm121 : bC := (234, [some (.inr [.index 338]), some (.inl (-2147483648, 2147483647))], some (.inl (-1000004, 24)), [(338, 353)], 1, [], [])
theorem btm121 : bchk bZ bIm bmpm bmqm bjn bgm blpm bspm bdgm bldm [bkm0] 30000 bkm121 = true := by decide +kernel
theorem bcm121 : bcon bZ bIm bkm121 := bchk_ok bZ_len (List.forall_mem_cons.mpr ⟨bcm0, fun _ q => absurd q List.not_mem_nil⟩) btm121
-- check: 3605 steps
def bkm122 : bC := (235, [some (.inr [.index 338]), some (.inl (-2147483648, 2147483647)), some (.inl (-2147483648, 2147483647))], some (.inl (-1000001, 13)), [(338, 353)], 5, [], [])
theorem btm122 : bchk bZ bIm bmpm bmqm bjn bgm blpm bspm bdgm bldm [bkm1, bkm10] 30000 bkm122 = true := by decide +kernel
theorem bcm122 : bcon bZ bIm bkm122 := bchk_ok bZ_len (List.forall_mem_cons.mpr ⟨bcm1, List.forall_mem_cons.mpr ⟨bcm10, fun _ q => absurd q List.not_mem_nil⟩⟩) btm122
-- count: 58 steps
def bkm123 : bC := (236, [some (.inr [.index 338]), some (.inl (-2147483648, 2147483647))], some (.inl (-2147483648, 2147483647)), [(338, 353)], 1, [], [])
theorem btm123 : bchk bZ bIm bmpm bmqm bjn bgm blpm bspm bdgm bldm [bkm1] 30000 bkm123 = true := by decide +kernel
theorem bcm123 : bcon bZ bIm bkm123 := bchk_ok bZ_len (List.forall_mem_cons.mpr ⟨bcm1, fun _ q => absurd q List.not_mem_nil⟩) btm123
-- told: 27 steps
def bkm124 : bC := (237, [some (.inr [.index 338]), some (.inl (-2147483648, 2147483647))], some (.inl (-2147483648, 2147483647)), [(338, 353)], 1, [], [])
theorem btm124 : bchk bZ bIm bmpm bmqm bjn bgm blpm bspm bdgm bldm [bkm1] 30000 bkm124 = true := by decide +kernel
theorem bcm124 : bcon bZ bIm bkm124 := bchk_ok bZ_len (List.forall_mem_cons.mpr ⟨bcm1, fun _ q => absurd q List.not_mem_nil⟩) btm124
