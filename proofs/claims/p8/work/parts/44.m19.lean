-- ===== contracts
-- check: 3605 steps
def bkm129 : bC := (235, [some (.inr [.index 338]), some (.inl (-2147483648, 2147483647)), some (.inl (-2147483648, 2147483647))], some (.inl (-1000001, 13)), [(339, 339, 7, 7), (341, 341, 1, 1), (342, 342, 0, 12), (343, 343, 0, 12), (344, 344, 0, 12), (346, 346, 105, 105), (346, 346, 109, 110), (346, 346, 115, 115), (347, 347, 0, 63)], 6, [], [])
theorem btm129 : bchk bzf bIm bmpm bmqm bjn bgm blpm bspm bdgm bldm [bkm2, bkm11] [] 30000 bkm129 = true := by decide +kernel
theorem bcm129 : bcon bZ bIm bXm bkm129 := bchk_ok bZ_len bzf_ok (bxw_ok (by decide)) (List.forall_mem_cons.mpr ⟨bcon_of bcm2, List.forall_mem_cons.mpr ⟨bcm11, fun _ q => absurd q List.not_mem_nil⟩⟩) (fun _ q => absurd q List.not_mem_nil) btm129
-- count: 58 steps
def bkm130 : bC := (236, [some (.inr [.index 338]), some (.inl (-2147483648, 2147483647))], some (.inl (-2147483648, 2147483647)), [(341, 341, 1, 1)], 1, [], [])
theorem btm130 : bchk bzf bIm bmpm bmqm bjn bgm blpm bspm bdgm bldm [bkm2] [] 30000 bkm130 = true := by decide +kernel
theorem bcm130 : bcon bZ bIm bTr bkm130 := bchk_ok bZ_len bzf_ok bTr_ok (List.forall_mem_cons.mpr ⟨bcm2, fun _ q => absurd q List.not_mem_nil⟩) (fun _ q => absurd q List.not_mem_nil) btm130
-- told: 27 steps
def bkm131 : bC := (237, [some (.inr [.index 338]), some (.inl (-2147483648, 2147483647))], some (.inl (-2147483648, 2147483647)), [(341, 341, 1, 1)], 1, [], [])
theorem btm131 : bchk bzf bIm bmpm bmqm bjn bgm blpm bspm bdgm bldm [bkm2] [] 30000 bkm131 = true := by decide +kernel
theorem bcm131 : bcon bZ bIm bTr bkm131 := bchk_ok bZ_len bzf_ok bTr_ok (List.forall_mem_cons.mpr ⟨bcm2, fun _ q => absurd q List.not_mem_nil⟩) (fun _ q => absurd q List.not_mem_nil) btm131
