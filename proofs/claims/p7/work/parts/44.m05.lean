-- ===== contracts
-- sheet: 1551 steps
def bkm90 : bC := (228, [some (.inr [.index 338]), some (.inl (-2147483648, 2147483647)), some (.inl (-2147483648, 2147483647)), some (.inl (-2147483648, 2147483647))], some (.inl (-1000003, 1)), [(338, 353)], 2, [], [])
theorem btm90 : bchk bzf bIm bmpm bmqm bjn bgm blpm bspm bdgm bldm [bkm1, bkm14] 30000 bkm90 = true := by decide +kernel
theorem bcm90 : bcon bZ bIm bkm90 := bchk_ok bZ_len bzf_ok (List.forall_mem_cons.mpr ⟨bcm1, List.forall_mem_cons.mpr ⟨bcm14, fun _ q => absurd q List.not_mem_nil⟩⟩) btm90
-- put: 84 steps
def bkm91 : bC := (229, [some (.inr [.index 338]), some (.inl (-2147483648, 2147483647)), some (.inl (-2147483648, 2147483647)), some (.inl (-2147483648, 2147483647))], some (.inl (-1000002, 1)), [(338, 353)], 2, [], [])
theorem btm91 : bchk bzf bIm bmpm bmqm bjn bgm blpm bspm bdgm bldm [bkm1, bkm33] 30000 bkm91 = true := by decide +kernel
theorem bcm91 : bcon bZ bIm bkm91 := bchk_ok bZ_len bzf_ok (List.forall_mem_cons.mpr ⟨bcm1, List.forall_mem_cons.mpr ⟨bcm33, fun _ q => absurd q List.not_mem_nil⟩⟩) btm91
-- sounds: 657 steps
def bkm92 : bC := (231, [some (.inr [.index 338]), some (.inl (-2147483648, 2147483647)), some (.inl (-2147483648, 2147483647))], some (.inl (-1000002, 12)), [(338, 353)], 2, [], [])
theorem btm92 : bchk bzf bIm bmpm bmqm bjn bgm blpm bspm bdgm bldm [bkm1, bkm33] 30000 bkm92 = true := by decide +kernel
theorem bcm92 : bcon bZ bIm bkm92 := bchk_ok bZ_len bzf_ok (List.forall_mem_cons.mpr ⟨bcm1, List.forall_mem_cons.mpr ⟨bcm33, fun _ q => absurd q List.not_mem_nil⟩⟩) btm92
-- image: 27 steps
def bkm93 : bC := (232, [some (.inr [.index 338])], some (.inl (-2147483648, 2147483647)), [(338, 353)], 1, [], [])
theorem btm93 : bchk bzf bIm bmpm bmqm bjn bgm blpm bspm bdgm bldm [] 30000 bkm93 = true := by decide +kernel
theorem bcm93 : bcon bZ bIm bkm93 := bchk_ok bZ_len bzf_ok (fun _ q => absurd q List.not_mem_nil) btm93
-- restore: 53 steps
def bkm94 : bC := (233, [some (.inr [.index 338])], some (.inl (-2147483648, 2147483647)), [(338, 353)], 1, [], [])
theorem btm94 : bchk bzf bIm bmpm bmqm bjn bgm blpm bspm bdgm bldm [bkm33] 30000 bkm94 = true := by decide +kernel
theorem bcm94 : bcon bZ bIm bkm94 := bchk_ok bZ_len bzf_ok (List.forall_mem_cons.mpr ⟨bcm33, fun _ q => absurd q List.not_mem_nil⟩) btm94
-- tell: 33 steps
def bkm95 : bC := (234, [some (.inr [.index 338]), some (.inl (-2147483648, 2147483647))], some (.inl (-1000004, 24)), [(338, 353)], 1, [], [])
theorem btm95 : bchk bzf bIm bmpm bmqm bjn bgm blpm bspm bdgm bldm [bkm0] 30000 bkm95 = true := by decide +kernel
theorem bcm95 : bcon bZ bIm bkm95 := bchk_ok bZ_len bzf_ok (List.forall_mem_cons.mpr ⟨bcm0, fun _ q => absurd q List.not_mem_nil⟩) btm95
-- check: 3605 steps
def bkm96 : bC := (235, [some (.inr [.index 338]), some (.inl (-2147483648, 2147483647)), some (.inl (-2147483648, 2147483647))], some (.inl (-1000001, 13)), [(338, 353)], 5, [], [])
theorem btm96 : bchk bzf bIm bmpm bmqm bjn bgm blpm bspm bdgm bldm [bkm1, bkm10] 30000 bkm96 = true := by decide +kernel
theorem bcm96 : bcon bZ bIm bkm96 := bchk_ok bZ_len bzf_ok (List.forall_mem_cons.mpr ⟨bcm1, List.forall_mem_cons.mpr ⟨bcm10, fun _ q => absurd q List.not_mem_nil⟩⟩) btm96
-- count: 58 steps
def bkm97 : bC := (236, [some (.inr [.index 338]), some (.inl (-2147483648, 2147483647))], some (.inl (-2147483648, 2147483647)), [(338, 353)], 1, [], [])
theorem btm97 : bchk bzf bIm bmpm bmqm bjn bgm blpm bspm bdgm bldm [bkm1] 30000 bkm97 = true := by decide +kernel
theorem bcm97 : bcon bZ bIm bkm97 := bchk_ok bZ_len bzf_ok (List.forall_mem_cons.mpr ⟨bcm1, fun _ q => absurd q List.not_mem_nil⟩) btm97
-- told: 27 steps
def bkm98 : bC := (237, [some (.inr [.index 338]), some (.inl (-2147483648, 2147483647))], some (.inl (-2147483648, 2147483647)), [(338, 353)], 1, [], [])
theorem btm98 : bchk bzf bIm bmpm bmqm bjn bgm blpm bspm bdgm bldm [bkm1] 30000 bkm98 = true := by decide +kernel
theorem bcm98 : bcon bZ bIm bkm98 := bchk_ok bZ_len bzf_ok (List.forall_mem_cons.mpr ⟨bcm1, fun _ q => absurd q List.not_mem_nil⟩) btm98
