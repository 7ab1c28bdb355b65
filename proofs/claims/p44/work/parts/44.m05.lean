-- ===== contracts
-- takes: 1031 steps
def bkm87 : bC := (190, [some (.inr [.index 338]), some (.inl (-2147483648, 2147483647))], some (.inl (-1000001, 80)), [(341, 341, 1, 1)], 3, [], [])
theorem btm87 : bchk bzf bIm bmpm bmqm bjn bgm blpm bspm bdgm bldm [bkm2] [] 30000 bkm87 = true := by decide +kernel
theorem bcm87 : bcon bZ bIm bTr bkm87 := bchk_ok bZ_len bzf_ok bTr_ok (List.forall_mem_cons.mpr ⟨bcm2, fun _ q => absurd q List.not_mem_nil⟩) (fun _ q => absurd q List.not_mem_nil) btm87
-- echo: 3625 steps
def bkm88 : bC := (191, [some (.inr [.index 338]), some (.inl (-2147483648, 2147483647)), some (.inl (-2147483648, 2147483647)), some (.inl (-2147483648, 2147483647))], some (.inl (-1000001, 12)), [(339, 339, 34, 189), (341, 341, 1, 1), (342, 342, 0, 12), (343, 343, 0, 12), (344, 344, 0, 12), (346, 346, 105, 105), (346, 346, 109, 110), (346, 346, 115, 115), (347, 347, 0, 63)], 6, [], [])
theorem btm88 : bchk bzf bIm bmpm bmqm bjn bgm blpm bspm bdgm bldm [bkm2, bkm11] [] 30000 bkm88 = true := by decide +kernel
theorem bcm88 : bcon bZ bIm bXm bkm88 := bchk_ok bZ_len bzf_ok (bxw_ok (by decide)) (List.forall_mem_cons.mpr ⟨bcon_of bcm2, List.forall_mem_cons.mpr ⟨bcm11, fun _ q => absurd q List.not_mem_nil⟩⟩) (fun _ q => absurd q List.not_mem_nil) btm88
-- which: 233 steps
def bkm89 : bC := (193, [some (.inr [.index 338]), some (.inl (-2147483648, 2147483647)), some (.inl (-2147483648, 2147483647))], some (.inl (-2147483648, 2147483647)), [(341, 341, 1, 1), (342, 342, 0, 12), (343, 343, 0, 12), (344, 344, 0, 12), (346, 346, 105, 105), (346, 346, 109, 110), (346, 346, 115, 115), (347, 347, 0, 63)], 7, [], [])
theorem btm89 : bchk bzf bIm bmpm bmqm bjn bgm blpm bspm bdgm bldm [bkm2, bkm12, bkm11] [] 30000 bkm89 = true := by decide +kernel
theorem bcm89 : bcon bZ bIm bXm bkm89 := bchk_ok bZ_len bzf_ok (bxw_ok (by decide)) (List.forall_mem_cons.mpr ⟨bcon_of bcm2, List.forall_mem_cons.mpr ⟨bcon_of bcm12, List.forall_mem_cons.mpr ⟨bcm11, fun _ q => absurd q List.not_mem_nil⟩⟩⟩) (fun _ q => absurd q List.not_mem_nil) btm89
-- ways: 1535 steps
def bkm90 : bC := (194, [some (.inr [.index 338]), some (.inl (-2147483648, 2147483647)), some (.inl (-2147483648, 2147483647)), some (.inl (-2147483648, 2147483647))], some (.inl (-2147483648, 2147483647)), [(341, 341, 1, 1), (342, 342, 0, 12), (343, 343, 0, 12), (344, 344, 0, 12), (346, 346, 105, 105), (346, 346, 109, 110), (346, 346, 115, 115), (347, 347, 0, 63)], 7, [], [])
theorem btm90 : bchk bzf bIm bmpm bmqm bjn bgm blpm bspm bdgm bldm [bkm2, bkm12, bkm11] [] 30000 bkm90 = true := by decide +kernel
theorem bcm90 : bcon bZ bIm bXm bkm90 := bchk_ok bZ_len bzf_ok (bxw_ok (by decide)) (List.forall_mem_cons.mpr ⟨bcon_of bcm2, List.forall_mem_cons.mpr ⟨bcon_of bcm12, List.forall_mem_cons.mpr ⟨bcm11, fun _ q => absurd q List.not_mem_nil⟩⟩⟩) (fun _ q => absurd q List.not_mem_nil) btm90
