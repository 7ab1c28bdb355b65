-- ===== contracts
-- echo: 3625 steps
def bkm76 : bC := (191, [some (.inr [.index 338]), some (.inl (-2147483648, 2147483647)), some (.inl (-2147483648, 2147483647)), some (.inl (-2147483648, 2147483647))], some (.inl (-1000001, 12)), [(338, 353)], 5, [], [])
theorem btm76 : bchk bzf bIm bmpm bmqm bjn bgm blpm bspm bdgm bldm [bkm1, bkm10] 30000 bkm76 = true := by decide +kernel
theorem bcm76 : bcon bZ bIm bkm76 := bchk_ok bZ_len bzf_ok (List.forall_mem_cons.mpr ⟨bcm1, List.forall_mem_cons.mpr ⟨bcm10, fun _ q => absurd q List.not_mem_nil⟩⟩) btm76
-- which: 1205 steps
def bkm77 : bC := (193, [some (.inr [.index 338]), some (.inl (-2147483648, 2147483647)), some (.inl (-2147483648, 2147483647))], some (.inl (-2147483648, 2147483647)), [(338, 353)], 6, [], [])
theorem btm77 : bchk bzf bIm bmpm bmqm bjn bgm blpm bspm bdgm bldm [bkm1, bkm11, bkm10] 30000 bkm77 = true := by decide +kernel
theorem bcm77 : bcon bZ bIm bkm77 := bchk_ok bZ_len bzf_ok (List.forall_mem_cons.mpr ⟨bcm1, List.forall_mem_cons.mpr ⟨bcm11, List.forall_mem_cons.mpr ⟨bcm10, fun _ q => absurd q List.not_mem_nil⟩⟩⟩) btm77
-- ways: 1535 steps
def bkm78 : bC := (194, [some (.inr [.index 338]), some (.inl (-2147483648, 2147483647)), some (.inl (-2147483648, 2147483647)), some (.inl (-2147483648, 2147483647))], some (.inl (-2147483648, 2147483647)), [(338, 353)], 6, [], [])
theorem btm78 : bchk bzf bIm bmpm bmqm bjn bgm blpm bspm bdgm bldm [bkm1, bkm11, bkm10] 30000 bkm78 = true := by decide +kernel
theorem bcm78 : bcon bZ bIm bkm78 := bchk_ok bZ_len bzf_ok (List.forall_mem_cons.mpr ⟨bcm1, List.forall_mem_cons.mpr ⟨bcm11, List.forall_mem_cons.mpr ⟨bcm10, fun _ q => absurd q List.not_mem_nil⟩⟩⟩) btm78
