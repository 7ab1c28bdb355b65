-- ===== contracts
-- takes: 1031 steps
def bkm103 : bC := (190, [some (.inr [.index 338]), some (.inl (-2147483648, 2147483647))], some (.inl (-1000001, 80)), [(341, 341, 1, 1)], 3, [], [])
theorem btm103 : bchk bzf bIm bmpm bmqm bjn bgm blpm bspm bdgm bldm [bkm2] [] 30000 bkm103 = true := by decide +kernel
theorem bcm103 : bcon bZ bIm bTr bkm103 := bchk_ok bZ_len bzf_ok bTr_ok (List.forall_mem_cons.mpr ⟨bcm2, fun _ q => absurd q List.not_mem_nil⟩) (fun _ q => absurd q List.not_mem_nil) btm103
-- echo: 3625 steps
def bkm104 : bC := (191, [some (.inr [.index 338]), some (.inl (-2147483648, 2147483647)), some (.inl (-2147483648, 2147483647)), some (.inl (-2147483648, 2147483647))], some (.inl (-1000001, 12)), [(339, 339, 34, 189), (341, 341, 1, 1), (342, 342, 0, 12), (343, 343, 0, 12), (344, 344, 0, 12), (346, 346, 105, 105), (346, 346, 109, 110), (346, 346, 115, 115), (347, 347, 0, 63)], 6, [], [])
theorem btm104 : bchk bzf bIm bmpm bmqm bjn bgm blpm bspm bdgm bldm [bkm2, bkm11] [] 30000 bkm104 = true := by decide +kernel
theorem bcm104 : bcon bZ bIm bXm bkm104 := bchk_ok bZ_len bzf_ok (bxw_ok (by decide)) (List.forall_mem_cons.mpr ⟨bcon_of bcm2, List.forall_mem_cons.mpr ⟨bcm11, fun _ q => absurd q List.not_mem_nil⟩⟩) (fun _ q => absurd q List.not_mem_nil) btm104
-- which: 1205 steps
def bkm105 : bC := (193, [some (.inr [.index 338]), some (.inl (-2147483648, 2147483647)), some (.inl (-2147483648, 2147483647))], some (.inl (-2147483648, 2147483647)), [(341, 341, 1, 1), (342, 342, 0, 12), (343, 343, 0, 12), (344, 344, 0, 12), (346, 346, 105, 105), (346, 346, 109, 110), (346, 346, 115, 115), (347, 347, 0, 63)], 7, [], [])
theorem btm105 : bchk bzf bIm bmpm bmqm bjn bgm blpm bspm bdgm bldm [bkm2, bkm12, bkm11] [] 30000 bkm105 = true := by decide +kernel
theorem bcm105 : bcon bZ bIm bXm bkm105 := bchk_ok bZ_len bzf_ok (bxw_ok (by decide)) (List.forall_mem_cons.mpr ⟨bcon_of bcm2, List.forall_mem_cons.mpr ⟨bcon_of bcm12, List.forall_mem_cons.mpr ⟨bcm11, fun _ q => absurd q List.not_mem_nil⟩⟩⟩) (fun _ q => absurd q List.not_mem_nil) btm105
