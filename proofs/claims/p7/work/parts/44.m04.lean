-- ===== contracts
-- heard: 2010 steps
def bkm97 : bC := (188, [some (.inr [.index 338]), some (.inl (-2147483648, 2147483647)), some (.inl (-2147483648, 2147483647)), some (.inl (-2147483648, 2147483647))], some (.inl (-2147483648, 2147483647)), [(338, 353)], 5, [], [])
theorem btm97 : bchk bZ bIm bmpm bmqm bjn bgm blpm bspm bdgm bldm [bkm1, bkm10, bkm2] 30000 bkm97 = true := by decide +kernel
theorem bcm97 : bcon bZ bIm bkm97 := bchk_ok bZ_len (List.forall_mem_cons.mpr ⟨bcm1, List.forall_mem_cons.mpr ⟨bcm10, List.forall_mem_cons.mpr ⟨bcm2, fun _ q => absurd q List.not_mem_nil⟩⟩⟩) btm97
-- self: 2125 steps
def bkm98 : bC := (189, [some (.inr [.index 338]), some (.inl (-2147483648, 2147483647)), some (.inl (-2147483648, 2147483647))], some (.inl (-1000001, 1)), [(338, 353)], 5, [], [])
theorem btm98 : bchk bZ bIm bmpm bmqm bjn bgm blpm bspm bdgm bldm [bkm1, bkm11, bkm10] 30000 bkm98 = true := by decide +kernel
theorem bcm98 : bcon bZ bIm bkm98 := bchk_ok bZ_len (List.forall_mem_cons.mpr ⟨bcm1, List.forall_mem_cons.mpr ⟨bcm11, List.forall_mem_cons.mpr ⟨bcm10, fun _ q => absurd q List.not_mem_nil⟩⟩⟩) btm98
-- takes: 1031 steps
def bkm99 : bC := (190, [some (.inr [.index 338]), some (.inl (-2147483648, 2147483647))], some (.inl (-1000001, 80)), [(338, 353)], 3, [], [])
theorem btm99 : bchk bZ bIm bmpm bmqm bjn bgm blpm bspm bdgm bldm [bkm1] 30000 bkm99 = true := by decide +kernel
theorem bcm99 : bcon bZ bIm bkm99 := bchk_ok bZ_len (List.forall_mem_cons.mpr ⟨bcm1, fun _ q => absurd q List.not_mem_nil⟩) btm99
