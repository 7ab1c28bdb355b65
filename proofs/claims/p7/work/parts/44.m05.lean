-- ===== contracts
-- echo: 3625 steps
def bkm100 : bC := (191, [some (.inr [.index 338]), some (.inl (-2147483648, 2147483647)), some (.inl (-2147483648, 2147483647)), some (.inl (-2147483648, 2147483647))], some (.inl (-1000001, 12)), [(338, 353)], 5, [], [])
theorem btm100 : bchk bZ bIm bmpm bmqm bjn bgm blpm bspm bdgm bldm [bkm1, bkm10] 30000 bkm100 = true := by decide +kernel
theorem bcm100 : bcon bZ bIm bkm100 := bchk_ok bZ_len (List.forall_mem_cons.mpr ⟨bcm1, List.forall_mem_cons.mpr ⟨bcm10, fun _ q => absurd q List.not_mem_nil⟩⟩) btm100
-- which: 1205 steps
def bkm101 : bC := (193, [some (.inr [.index 338]), some (.inl (-2147483648, 2147483647)), some (.inl (-2147483648, 2147483647))], some (.inl (-2147483648, 2147483647)), [(338, 353)], 6, [], [])
theorem btm101 : bchk bZ bIm bmpm bmqm bjn bgm blpm bspm bdgm bldm [bkm1, bkm11, bkm10] 30000 bkm101 = true := by decide +kernel
theorem bcm101 : bcon bZ bIm bkm101 := bchk_ok bZ_len (List.forall_mem_cons.mpr ⟨bcm1, List.forall_mem_cons.mpr ⟨bcm11, List.forall_mem_cons.mpr ⟨bcm10, fun _ q => absurd q List.not_mem_nil⟩⟩⟩) btm101
-- ways: 1535 steps
def bkm102 : bC := (194, [some (.inr [.index 338]), some (.inl (-2147483648, 2147483647)), some (.inl (-2147483648, 2147483647)), some (.inl (-2147483648, 2147483647))], some (.inl (-2147483648, 2147483647)), [(338, 353)], 6, [], [])
theorem btm102 : bchk bZ bIm bmpm bmqm bjn bgm blpm bspm bdgm bldm [bkm1, bkm11, bkm10] 30000 bkm102 = true := by decide +kernel
theorem bcm102 : bcon bZ bIm bkm102 := bchk_ok bZ_len (List.forall_mem_cons.mpr ⟨bcm1, List.forall_mem_cons.mpr ⟨bcm11, List.forall_mem_cons.mpr ⟨bcm10, fun _ q => absurd q List.not_mem_nil⟩⟩⟩) btm102
