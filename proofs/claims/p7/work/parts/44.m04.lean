-- ===== contracts
-- need: 1351 steps
def bkm79 : bC := (195, [some (.inr [.index 338]), some (.inl (-2147483648, 2147483647)), some (.inl (-2147483648, 2147483647)), some (.inl (-2147483648, 2147483647))], some (.inl (-2147483648, 2147483647)), [(338, 353)], 4, [], [])
theorem btm79 : bchk bzf bIm bmpm bmqm bjn bgm blpm bspm bdgm bldm [bkm1, bkm14, bkm10, bkm12, bkm13, bkm15, bkm16, bkm17, bkm2] 30000 bkm79 = true := by decide +kernel
theorem bcm79 : bcon bZ bIm bkm79 := bchk_ok bZ_len bzf_ok (List.forall_mem_cons.mpr ⟨bcm1, List.forall_mem_cons.mpr ⟨bcm14, List.forall_mem_cons.mpr ⟨bcm10, List.forall_mem_cons.mpr ⟨bcm12, List.forall_mem_cons.mpr ⟨bcm13, List.forall_mem_cons.mpr ⟨bcm15, List.forall_mem_cons.mpr ⟨bcm16, List.forall_mem_cons.mpr ⟨bcm17, List.forall_mem_cons.mpr ⟨bcm2, fun _ q => absurd q List.not_mem_nil⟩⟩⟩⟩⟩⟩⟩⟩⟩) btm79
-- safe: 1613 steps
def bkm80 : bC := (200, [some (.inr [.index 338]), some (.inl (-2147483648, 2147483647)), some (.inl (-2147483648, 2147483647))], some (.inl (-2147483648, 2147483647)), [(338, 353)], 7, [], [])
theorem btm80 : bchk bzf bIm bmpm bmqm bjn bgm blpm bspm bdgm bldm [bkm1, bkm3, bkm11, bkm10] 30000 bkm80 = true := by decide +kernel
theorem bcm80 : bcon bZ bIm bkm80 := bchk_ok bZ_len bzf_ok (List.forall_mem_cons.mpr ⟨bcm1, List.forall_mem_cons.mpr ⟨bcm3, List.forall_mem_cons.mpr ⟨bcm11, List.forall_mem_cons.mpr ⟨bcm10, fun _ q => absurd q List.not_mem_nil⟩⟩⟩⟩) btm80
-- reads: 73 steps
def bkm81 : bC := (206, [some (.inr [.index 338]), some (.inl (-2147483648, 2147483647))], some (.inl (-1000001, 1)), [(338, 353)], 15, [], [])
theorem btm81 : bchk bzf bIm bmpm bmqm bjn bgm blpm bspm bdgm bldm [bkm1, bkm32] 30000 bkm81 = true := by decide +kernel
theorem bcm81 : bcon bZ bIm bkm81 := bchk_ok bZ_len bzf_ok (List.forall_mem_cons.mpr ⟨bcm1, List.forall_mem_cons.mpr ⟨bcm32, fun _ q => absurd q List.not_mem_nil⟩⟩) btm81
-- so: 34 steps
def bkm82 : bC := (207, [some (.inr [.index 338]), some (.inl (-2147483648, 2147483647))], some (.inl (-1000001, 2147483647)), [(338, 353)], 1, [], [])
theorem btm82 : bchk bzf bIm bmpm bmqm bjn bgm blpm bspm bdgm bldm [bkm1] 30000 bkm82 = true := by decide +kernel
theorem bcm82 : bcon bZ bIm bkm82 := bchk_ok bZ_len bzf_ok (List.forall_mem_cons.mpr ⟨bcm1, fun _ q => absurd q List.not_mem_nil⟩) btm82
-- says: 2035 steps
def bkm83 : bC := (208, [some (.inr [.index 338]), some (.inl (-2147483648, 2147483647)), some (.inl (-2147483648, 2147483647))], some (.inl (-1000002, 1)), [(338, 353)], 15, [], [])
theorem btm83 : bchk bzf bIm bmpm bmqm bjn bgm blpm bspm bdgm bldm [bkm1, bkm33, bkm10, bkm32] 30000 bkm83 = true := by decide +kernel
theorem bcm83 : bcon bZ bIm bkm83 := bchk_ok bZ_len bzf_ok (List.forall_mem_cons.mpr ⟨bcm1, List.forall_mem_cons.mpr ⟨bcm33, List.forall_mem_cons.mpr ⟨bcm10, List.forall_mem_cons.mpr ⟨bcm32, fun _ q => absurd q List.not_mem_nil⟩⟩⟩⟩) btm83
-- shout: 448 steps
def bkm84 : bC := (211, [some (.inr [.index 338]), some (.inl (-2147483648, 2147483647)), some (.inl (-2147483648, 2147483647))], some (.inl (-2147483648, 2147483647)), [(338, 353)], 3, [], [])
theorem btm84 : bchk bzf bIm bmpm bmqm bjn bgm blpm bspm bdgm bldm [bkm1, bkm0, bkm10, bkm34] 30000 bkm84 = true := by decide +kernel
theorem bcm84 : bcon bZ bIm bkm84 := bchk_ok bZ_len bzf_ok (List.forall_mem_cons.mpr ⟨bcm1, List.forall_mem_cons.mpr ⟨bcm0, List.forall_mem_cons.mpr ⟨bcm10, List.forall_mem_cons.mpr ⟨bcm34, fun _ q => absurd q List.not_mem_nil⟩⟩⟩⟩) btm84
-- seconds: 56 steps
def bkm85 : bC := (212, [some (.inr [.index 338]), some (.inl (-2147483648, 2147483647))], some (.inl (-2147483648, 2147483647)), [(338, 353)], 2, [], [])
theorem btm85 : bchk bzf bIm bmpm bmqm bjn bgm blpm bspm bdgm bldm [bkm1, bkm14, bkm34] 30000 bkm85 = true := by decide +kernel
theorem bcm85 : bcon bZ bIm bkm85 := bchk_ok bZ_len bzf_ok (List.forall_mem_cons.mpr ⟨bcm1, List.forall_mem_cons.mpr ⟨bcm14, List.forall_mem_cons.mpr ⟨bcm34, fun _ q => absurd q List.not_mem_nil⟩⟩⟩) btm85
-- log: 553 steps
def bkm86 : bC := (213, [some (.inr [.index 338]), some (.inl (-2147483648, 2147483647)), some (.inl (-2147483648, 2147483647))], some (.inl (-2147483648, 2147483647)), [(338, 353)], 2, [], [])
theorem btm86 : bchk bzf bIm bmpm bmqm bjn bgm blpm bspm bdgm bldm [bkm33, bkm2] 30000 bkm86 = true := by decide +kernel
theorem bcm86 : bcon bZ bIm bkm86 := bchk_ok bZ_len bzf_ok (List.forall_mem_cons.mpr ⟨bcm33, List.forall_mem_cons.mpr ⟨bcm2, fun _ q => absurd q List.not_mem_nil⟩⟩) btm86
-- seed: 12 steps
def bkm87 : bC := (217, [some (.inr [.index 338]), some (.inl (-2147483648, 2147483647))], some (.inl (-2147483648, 2147483647)), [(338, 353)], 0, [], [])
theorem btm87 : bchk bzf bIm bmpm bmqm bjn bgm blpm bspm bdgm bldm [] 30000 bkm87 = true := by decide +kernel
theorem bcm87 : bcon bZ bIm bkm87 := bchk_ok bZ_len bzf_ok (fun _ q => absurd q List.not_mem_nil) btm87
-- voice: 120 steps
def bkm88 : bC := (225, [some (.inr [.index 338]), some (.inl (-2147483648, 2147483647)), some (.inl (-2147483648, 2147483647)), some (.inl (-2147483648, 2147483647))], some (.inl (-2147483648, 2147483647)), [(338, 353)], 11, [], [])
theorem btm88 : bchk bzf bIm bmpm bmqm bjn bgm blpm bspm bdgm bldm [bkm1, bkm60, bkm45, bkm51, bkm58, bkm59] 30000 bkm88 = true := by decide +kernel
theorem bcm88 : bcon bZ bIm bkm88 := bchk_ok bZ_len bzf_ok (List.forall_mem_cons.mpr ⟨bcm1, List.forall_mem_cons.mpr ⟨bcm60, List.forall_mem_cons.mpr ⟨bcm45, List.forall_mem_cons.mpr ⟨bcm51, List.forall_mem_cons.mpr ⟨bcm58, List.forall_mem_cons.mpr ⟨bcm59, fun _ q => absurd q List.not_mem_nil⟩⟩⟩⟩⟩⟩) btm88
-- body: 30 steps
def bkm89 : bC := (226, [some (.inr [.index 338]), some (.inl (-2147483648, 2147483647))], some (.inl (-1000002, 72)), [(338, 353)], 1, [], [])
theorem btm89 : bchk bzf bIm bmpm bmqm bjn bgm blpm bspm bdgm bldm [bkm33] 30000 bkm89 = true := by decide +kernel
theorem bcm89 : bcon bZ bIm bkm89 := bchk_ok bZ_len bzf_ok (List.forall_mem_cons.mpr ⟨bcm33, fun _ q => absurd q List.not_mem_nil⟩) btm89
