-- ===== contracts
-- heard: 2010 steps
def bkm71 : bC := (188, [some (.inr [.index 338]), some (.inl (-2147483648, 2147483647)), some (.inl (-2147483648, 2147483647)), some (.inl (-2147483648, 2147483647))], some (.inl (-2147483648, 2147483647)), [(338, 353)], 5, [], [])
theorem btm71 : bchk bZ bIm bmpm bmqm bjn bgm blpm bspm bdgm bldm [bkm1, bkm10, bkm2] 30000 bkm71 = true := by decide +kernel
theorem bcm71 : bcon bZ bIm bkm71 := bchk_ok bZ_len (List.forall_mem_cons.mpr ⟨bcm1, List.forall_mem_cons.mpr ⟨bcm10, List.forall_mem_cons.mpr ⟨bcm2, fun _ q => absurd q List.not_mem_nil⟩⟩⟩) btm71
-- self: 2125 steps
def bkm72 : bC := (189, [some (.inr [.index 338]), some (.inl (-2147483648, 2147483647)), some (.inl (-2147483648, 2147483647))], some (.inl (-1000001, 1)), [(338, 353)], 5, [], [])
theorem btm72 : bchk bZ bIm bmpm bmqm bjn bgm blpm bspm bdgm bldm [bkm1, bkm11, bkm10] 30000 bkm72 = true := by decide +kernel
theorem bcm72 : bcon bZ bIm bkm72 := bchk_ok bZ_len (List.forall_mem_cons.mpr ⟨bcm1, List.forall_mem_cons.mpr ⟨bcm11, List.forall_mem_cons.mpr ⟨bcm10, fun _ q => absurd q List.not_mem_nil⟩⟩⟩) btm72
-- takes: 1031 steps
def bkm73 : bC := (190, [some (.inr [.index 338]), some (.inl (-2147483648, 2147483647))], some (.inl (-1000001, 80)), [(338, 353)], 3, [], [])
theorem btm73 : bchk bZ bIm bmpm bmqm bjn bgm blpm bspm bdgm bldm [bkm1] 30000 bkm73 = true := by decide +kernel
theorem bcm73 : bcon bZ bIm bkm73 := bchk_ok bZ_len (List.forall_mem_cons.mpr ⟨bcm1, fun _ q => absurd q List.not_mem_nil⟩) btm73
