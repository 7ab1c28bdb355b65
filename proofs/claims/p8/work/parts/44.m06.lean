-- ===== contracts
-- set: 400 steps
def bkm98 : bC := (171, [some (.inr [.index 338]), some (.inl (-2147483648, 2147483647)), some (.inl (-2147483648, 2147483647)), some (.inl (-2147483648, 2147483647))], some (.inl (-1000001, 20)), [(339, 339, 10, 33), (341, 341, 1, 1)], 2, [], [])
theorem btm98 : bchk bzf bIm bmpm bmqm bjn bgm blpm bspm bdgm bldm [bkm2] [] 30000 bkm98 = true := by decide +kernel
theorem bcm98 : bcon bZ bIm bTr bkm98 := bchk_ok bZ_len bzf_ok bTr_ok (List.forall_mem_cons.mpr ⟨bcm2, fun _ q => absurd q List.not_mem_nil⟩) (fun _ q => absurd q List.not_mem_nil) btm98
-- feed: 1399 steps
def bkm99 : bC := (172, [some (.inr [.index 338]), none, some (.inl (-2147483648, 2147483647))], some (.inl (-1000004, 60)), [(339, 339, 6, 6), (339, 339, 684, 743), (341, 341, 1, 1), (341, 341, 4, 4)], 1, [], [])
theorem btm99 : bchk bzf bIm bmpm bmqm bjn bgm blpm bspm bdgm bldm [bkm2, bkm1] [] 30000 bkm99 = true := by decide +kernel
theorem bcm99 : bcon bZ bIm bTr bkm99 := bchk_ok bZ_len bzf_ok bTr_ok (List.forall_mem_cons.mpr ⟨bcm2, List.forall_mem_cons.mpr ⟨bcm1, fun _ q => absurd q List.not_mem_nil⟩⟩) (fun _ q => absurd q List.not_mem_nil) btm99
-- untell: 57 steps
def bkm100 : bC := (185, [some (.inr [.index 338]), some (.inl (-2147483648, 2147483647))], some (.inl (-1000001, 1)), [(339, 339, 434, 434), (339, 339, 559, 559), (341, 341, 1, 1)], 1, [], [])
theorem btm100 : bchk bzf bIm bmpm bmqm bjn bgm blpm bspm bdgm bldm [bkm2] [] 30000 bkm100 = true := by decide +kernel
theorem bcm100 : bcon bZ bIm bTr bkm100 := bchk_ok bZ_len bzf_ok bTr_ok (List.forall_mem_cons.mpr ⟨bcm2, fun _ q => absurd q List.not_mem_nil⟩) (fun _ q => absurd q List.not_mem_nil) btm100
-- heard: 2010 steps
def bkm101 : bC := (188, [some (.inr [.index 338]), some (.inl (-2147483648, 2147483647)), some (.inl (-2147483648, 2147483647)), some (.inl (-2147483648, 2147483647))], some (.inl (-2147483648, 2147483647)), [(341, 341, 1, 1), (342, 342, 0, 12), (343, 343, 0, 12), (344, 344, 0, 12), (346, 346, 105, 105), (346, 346, 109, 110), (346, 346, 115, 115), (347, 347, 0, 63)], 6, [], [])
theorem btm101 : bchk bzf bIm bmpm bmqm bjn bgm blpm bspm bdgm bldm [bkm2, bkm11, bkm3] [] 30000 bkm101 = true := by decide +kernel
theorem bcm101 : bcon bZ bIm bXm bkm101 := bchk_ok bZ_len bzf_ok (bxw_ok (by decide)) (List.forall_mem_cons.mpr ⟨bcon_of bcm2, List.forall_mem_cons.mpr ⟨bcm11, List.forall_mem_cons.mpr ⟨bcon_of bcm3, fun _ q => absurd q List.not_mem_nil⟩⟩⟩) (fun _ q => absurd q List.not_mem_nil) btm101
-- self: 2125 steps
def bkm102 : bC := (189, [some (.inr [.index 338]), some (.inl (-2147483648, 2147483647)), some (.inl (-2147483648, 2147483647))], some (.inl (-1000001, 1)), [(341, 341, 1, 1), (342, 342, 0, 12), (343, 343, 0, 12), (344, 344, 0, 12), (346, 346, 105, 105), (346, 346, 109, 110), (346, 346, 115, 115), (347, 347, 0, 63)], 6, [], [])
theorem btm102 : bchk bzf bIm bmpm bmqm bjn bgm blpm bspm bdgm bldm [bkm2, bkm12, bkm11] [] 30000 bkm102 = true := by decide +kernel
theorem bcm102 : bcon bZ bIm bXm bkm102 := bchk_ok bZ_len bzf_ok (bxw_ok (by decide)) (List.forall_mem_cons.mpr ⟨bcon_of bcm2, List.forall_mem_cons.mpr ⟨bcon_of bcm12, List.forall_mem_cons.mpr ⟨bcm11, fun _ q => absurd q List.not_mem_nil⟩⟩⟩) (fun _ q => absurd q List.not_mem_nil) btm102
