-- ===== contracts
-- draw: 170 steps
def bkm77 : bC := (165, [some (.inr [.index 338]), some (.inl (-2147483648, 2147483647)), some (.inl (-2147483648, 2147483647))], some (.inl (-2147483648, 2147483647)), [(339, 339, 8, 8), (339, 339, 34, 189), (341, 341, 1, 1)], 2, [], [])
theorem btm77 : bchk bzf bIm bmpm bmqm bjn bgm blpm bspm bdgm bldm [bkm2, bkm4] [] 30000 bkm77 = true := by decide +kernel
theorem bcm77 : bcon bZ bIm bTr bkm77 := bchk_ok bZ_len bzf_ok bTr_ok (List.forall_mem_cons.mpr ⟨bcm2, List.forall_mem_cons.mpr ⟨bcm4, fun _ q => absurd q List.not_mem_nil⟩⟩) (fun _ q => absurd q List.not_mem_nil) btm77
-- contrary: 54 steps
def bkm78 : bC := (166, [some (.inr [.index 338]), some (.inl (-2147483648, 2147483647))], some (.inl (-2147483648, 2147483647)), [(341, 341, 1, 1)], 2, [], [])
theorem btm78 : bchk bzf bIm bmpm bmqm bjn bgm blpm bspm bdgm bldm [bkm2, bkm4] [] 30000 bkm78 = true := by decide +kernel
theorem bcm78 : bcon bZ bIm bTr bkm78 := bchk_ok bZ_len bzf_ok bTr_ok (List.forall_mem_cons.mpr ⟨bcm2, List.forall_mem_cons.mpr ⟨bcm4, fun _ q => absurd q List.not_mem_nil⟩⟩) (fun _ q => absurd q List.not_mem_nil) btm78
-- rock: 103 steps
def bkm79 : bC := (167, [some (.inr [.index 338]), some (.inl (-2147483648, 2147483647)), some (.inl (-2147483648, 2147483647))], some (.inl (-1000004, 7)), [(339, 339, 1, 1), (339, 339, 10, 33), (341, 341, 1, 1), (341, 341, 4, 4)], 1, [], [])
theorem btm79 : bchk bzf bIm bmpm bmqm bjn bgm blpm bspm bdgm bldm [bkm2, bkm1] [] 30000 bkm79 = true := by decide +kernel
theorem bcm79 : bcon bZ bIm bTr bkm79 := bchk_ok bZ_len bzf_ok bTr_ok (List.forall_mem_cons.mpr ⟨bcm2, List.forall_mem_cons.mpr ⟨bcm1, fun _ q => absurd q List.not_mem_nil⟩⟩) (fun _ q => absurd q List.not_mem_nil) btm79
-- rockIs: 69 steps
def bkm80 : bC := (168, [some (.inr [.index 338]), some (.inl (-2147483648, 2147483647)), some (.inl (-2147483648, 2147483647))], some (.inl (-1000001, 20)), [(341, 341, 1, 1)], 2, [], [])
theorem btm80 : bchk bzf bIm bmpm bmqm bjn bgm blpm bspm bdgm bldm [bkm2] [] 30000 bkm80 = true := by decide +kernel
theorem bcm80 : bcon bZ bIm bTr bkm80 := bchk_ok bZ_len bzf_ok bTr_ok (List.forall_mem_cons.mpr ⟨bcm2, fun _ q => absurd q List.not_mem_nil⟩) (fun _ q => absurd q List.not_mem_nil) btm80
-- as: 140 steps
def bkm81 : bC := (170, [some (.inr [.index 338]), some (.inl (-2147483648, 2147483647)), some (.inl (-2147483648, 2147483647))], some (.inl (-1000005, 20)), [(341, 341, 1, 1), (341, 341, 5, 5)], 2, [], [])
theorem btm81 : bchk bzf bIm bmpm bmqm bjn bgm blpm bspm bdgm bldm [bkm2, bkm5] [] 30000 bkm81 = true := by decide +kernel
theorem bcm81 : bcon bZ bIm bTr bkm81 := bchk_ok bZ_len bzf_ok bTr_ok (List.forall_mem_cons.mpr ⟨bcm2, List.forall_mem_cons.mpr ⟨bcm5, fun _ q => absurd q List.not_mem_nil⟩⟩) (fun _ q => absurd q List.not_mem_nil) btm81
-- set: 400 steps
def bkm82 : bC := (171, [some (.inr [.index 338]), some (.inl (-2147483648, 2147483647)), some (.inl (-2147483648, 2147483647)), some (.inl (-2147483648, 2147483647))], some (.inl (-1000001, 20)), [(339, 339, 10, 33), (341, 341, 1, 1)], 2, [], [])
theorem btm82 : bchk bzf bIm bmpm bmqm bjn bgm blpm bspm bdgm bldm [bkm2] [] 30000 bkm82 = true := by decide +kernel
theorem bcm82 : bcon bZ bIm bTr bkm82 := bchk_ok bZ_len bzf_ok bTr_ok (List.forall_mem_cons.mpr ⟨bcm2, fun _ q => absurd q List.not_mem_nil⟩) (fun _ q => absurd q List.not_mem_nil) btm82
-- feed: 1399 steps
def bkm83 : bC := (172, [some (.inr [.index 338]), none, some (.inl (-2147483648, 2147483647))], some (.inl (-1000004, 60)), [(339, 339, 6, 6), (339, 339, 684, 743), (341, 341, 1, 1), (341, 341, 4, 4)], 1, [], [])
theorem btm83 : bchk bzf bIm bmpm bmqm bjn bgm blpm bspm bdgm bldm [bkm2, bkm1] [] 30000 bkm83 = true := by decide +kernel
theorem bcm83 : bcon bZ bIm bTr bkm83 := bchk_ok bZ_len bzf_ok bTr_ok (List.forall_mem_cons.mpr ⟨bcm2, List.forall_mem_cons.mpr ⟨bcm1, fun _ q => absurd q List.not_mem_nil⟩⟩) (fun _ q => absurd q List.not_mem_nil) btm83
-- untell: 57 steps
def bkm84 : bC := (185, [some (.inr [.index 338]), some (.inl (-2147483648, 2147483647))], some (.inl (-1000001, 1)), [(339, 339, 434, 434), (339, 339, 559, 559), (341, 341, 1, 1)], 1, [], [])
theorem btm84 : bchk bzf bIm bmpm bmqm bjn bgm blpm bspm bdgm bldm [bkm2] [] 30000 bkm84 = true := by decide +kernel
theorem bcm84 : bcon bZ bIm bTr bkm84 := bchk_ok bZ_len bzf_ok bTr_ok (List.forall_mem_cons.mpr ⟨bcm2, fun _ q => absurd q List.not_mem_nil⟩) (fun _ q => absurd q List.not_mem_nil) btm84
-- heard: 2010 steps
def bkm85 : bC := (188, [some (.inr [.index 338]), some (.inl (-2147483648, 2147483647)), some (.inl (-2147483648, 2147483647)), some (.inl (-2147483648, 2147483647))], some (.inl (-2147483648, 2147483647)), [(341, 341, 1, 1), (342, 342, 0, 12), (343, 343, 0, 12), (344, 344, 0, 12), (346, 346, 105, 105), (346, 346, 109, 110), (346, 346, 115, 115), (347, 347, 0, 63)], 6, [], [])
theorem btm85 : bchk bzf bIm bmpm bmqm bjn bgm blpm bspm bdgm bldm [bkm2, bkm11, bkm3] [] 30000 bkm85 = true := by decide +kernel
theorem bcm85 : bcon bZ bIm bXm bkm85 := bchk_ok bZ_len bzf_ok (bxw_ok (by decide)) (List.forall_mem_cons.mpr ⟨bcon_of bcm2, List.forall_mem_cons.mpr ⟨bcm11, List.forall_mem_cons.mpr ⟨bcon_of bcm3, fun _ q => absurd q List.not_mem_nil⟩⟩⟩) (fun _ q => absurd q List.not_mem_nil) btm85
-- self: 2125 steps
def bkm86 : bC := (189, [some (.inr [.index 338]), some (.inl (-2147483648, 2147483647)), some (.inl (-2147483648, 2147483647))], some (.inl (-1000001, 1)), [(341, 341, 1, 1), (342, 342, 0, 12), (343, 343, 0, 12), (344, 344, 0, 12), (346, 346, 105, 105), (346, 346, 109, 110), (346, 346, 115, 115), (347, 347, 0, 63)], 6, [], [])
theorem btm86 : bchk bzf bIm bmpm bmqm bjn bgm blpm bspm bdgm bldm [bkm2, bkm12, bkm11] [] 30000 bkm86 = true := by decide +kernel
theorem bcm86 : bcon bZ bIm bXm bkm86 := bchk_ok bZ_len bzf_ok (bxw_ok (by decide)) (List.forall_mem_cons.mpr ⟨bcon_of bcm2, List.forall_mem_cons.mpr ⟨bcon_of bcm12, List.forall_mem_cons.mpr ⟨bcm11, fun _ q => absurd q List.not_mem_nil⟩⟩⟩) (fun _ q => absurd q List.not_mem_nil) btm86
