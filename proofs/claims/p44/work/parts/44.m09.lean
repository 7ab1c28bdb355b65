-- ===== contracts
-- put: 84 steps
def bkm107 : bC := (229, [some (.inr [.index 338]), some (.inl (-2147483648, 2147483647)), some (.inl (-2147483648, 2147483647)), some (.inl (-2147483648, 2147483647))], some (.inl (-1000002, 1)), [(341, 341, 1, 2), (352, 352, 0, 95)], 2, [], [])
theorem btm107 : bchk bzf bIm bmpm bmqm bjn bgm blpm bspm bdgm bldm [bkm2, bkm28] [] 30000 bkm107 = true := by decide +kernel
theorem bcm107 : bcon bZ bIm bTr bkm107 := bchk_ok bZ_len bzf_ok bTr_ok (List.forall_mem_cons.mpr ⟨bcm2, List.forall_mem_cons.mpr ⟨bcm28, fun _ q => absurd q List.not_mem_nil⟩⟩) (fun _ q => absurd q List.not_mem_nil) btm107
-- move: 2117 steps
def bkm108 : bC := (230, [some (.inr [.index 338]), some (.inl (-2147483648, 2147483647)), some (.inl (-2147483648, 2147483647)), some (.inl (-2147483648, 2147483647)), some (.inl (-2147483648, 2147483647)), some (.inl (-2147483648, 2147483647))], some (.inl (-1000005, 24)), [(341, 341, 1, 2), (341, 341, 5, 5), (352, 352, 0, 95), (353, 353, 0, 23)], 2, [], [])
theorem btm108 : bchk bzf bIm bmpm bmqm bjn bgm blpm bspm bdgm bldm [bkm2, bkm28, bkm5] [] 30000 bkm108 = true := by decide +kernel
theorem bcm108 : bcon bZ bIm bTr bkm108 := bchk_ok bZ_len bzf_ok bTr_ok (List.forall_mem_cons.mpr ⟨bcm2, List.forall_mem_cons.mpr ⟨bcm28, List.forall_mem_cons.mpr ⟨bcm5, fun _ q => absurd q List.not_mem_nil⟩⟩⟩) (fun _ q => absurd q List.not_mem_nil) btm108
-- sounds: 657 steps
def bkm109 : bC := (231, [some (.inr [.index 338]), some (.inl (-2147483648, 2147483647)), some (.inl (-2147483648, 2147483647))], some (.inl (-1000002, 12)), [(339, 339, 34, 189), (341, 341, 1, 2)], 2, [], [])
theorem btm109 : bchk bzf bIm bmpm bmqm bjn bgm blpm bspm bdgm bldm [bkm2, bkm28] [] 30000 bkm109 = true := by decide +kernel
theorem bcm109 : bcon bZ bIm bTr bkm109 := bchk_ok bZ_len bzf_ok bTr_ok (List.forall_mem_cons.mpr ⟨bcm2, List.forall_mem_cons.mpr ⟨bcm28, fun _ q => absurd q List.not_mem_nil⟩⟩) (fun _ q => absurd q List.not_mem_nil) btm109
-- image: 27 steps
def bkm110 : bC := (232, [some (.inr [.index 338])], some (.inl (-2147483648, 2147483647)), [(338, 338, 2, 2), (340, 340, 0, 767)], 1, [], [])
theorem btm110 : bchk bzf bIm bmpm bmqm bjn bgm blpm bspm bdgm bldm [] [] 30000 bkm110 = true := by decide +kernel
theorem bcm110 : bcon bZ bIm bTr bkm110 := bchk_ok bZ_len bzf_ok bTr_ok (fun _ q => absurd q List.not_mem_nil) (fun _ q => absurd q List.not_mem_nil) btm110
-- restore: 53 steps
def bkm111 : bC := (233, [some (.inr [.index 338])], some (.inl (-2147483648, 2147483647)), [(339, 339, 0, 767), (341, 341, 2, 2)], 1, [], [])
theorem btm111 : bchk bzf bIm bmpm bmqm bjn bgm blpm bspm bdgm bldm [bkm28] [] 30000 bkm111 = true := by decide +kernel
theorem bcm111 : bcon bZ bIm bTr bkm111 := bchk_ok bZ_len bzf_ok bTr_ok (List.forall_mem_cons.mpr ⟨bcm28, fun _ q => absurd q List.not_mem_nil⟩) (fun _ q => absurd q List.not_mem_nil) btm111
-- tell: 33 steps
def bkm112 : bC := (234, [some (.inr [.index 338]), some (.inl (-2147483648, 2147483647))], some (.inl (-1000004, 24)), [(339, 339, 7, 7), (339, 339, 744, 767), (341, 341, 4, 4)], 1, [], [])
theorem btm112 : bchk bzf bIm bmpm bmqm bjn bgm blpm bspm bdgm bldm [bkm1] [] 30000 bkm112 = true := by decide +kernel
theorem bcm112 : bcon bZ bIm bTr bkm112 := bchk_ok bZ_len bzf_ok bTr_ok (List.forall_mem_cons.mpr ⟨bcm1, fun _ q => absurd q List.not_mem_nil⟩) (fun _ q => absurd q List.not_mem_nil) btm112
-- check: 2240 steps
def bkm113 : bC := (235, [some (.inr [.index 338]), some (.inl (-2147483648, 2147483647)), some (.inl (-2147483648, 2147483647))], some (.inl (-1000001, 25)), [(339, 339, 7, 7), (341, 341, 1, 1), (342, 342, 0, 12), (343, 343, 0, 12), (344, 344, 0, 12), (346, 346, 105, 105), (346, 346, 109, 110), (346, 346, 115, 115), (347, 347, 0, 63)], 6, [], [])
theorem btm113 : bchk bzf bIm bmpm bmqm bjn bgm blpm bspm bdgm bldm [bkm2, bkm11] [] 30000 bkm113 = true := by decide +kernel
theorem bcm113 : bcon bZ bIm bXm bkm113 := bchk_ok bZ_len bzf_ok (bxw_ok (by decide)) (List.forall_mem_cons.mpr ⟨bcon_of bcm2, List.forall_mem_cons.mpr ⟨bcm11, fun _ q => absurd q List.not_mem_nil⟩⟩) (fun _ q => absurd q List.not_mem_nil) btm113
-- count: 58 steps
def bkm114 : bC := (236, [some (.inr [.index 338]), some (.inl (-2147483648, 2147483647))], some (.inl (-2147483648, 2147483647)), [(341, 341, 1, 1)], 1, [], [])
theorem btm114 : bchk bzf bIm bmpm bmqm bjn bgm blpm bspm bdgm bldm [bkm2] [] 30000 bkm114 = true := by decide +kernel
theorem bcm114 : bcon bZ bIm bTr bkm114 := bchk_ok bZ_len bzf_ok bTr_ok (List.forall_mem_cons.mpr ⟨bcm2, fun _ q => absurd q List.not_mem_nil⟩) (fun _ q => absurd q List.not_mem_nil) btm114
-- told: 27 steps
def bkm115 : bC := (237, [some (.inr [.index 338]), some (.inl (-2147483648, 2147483647))], some (.inl (-2147483648, 2147483647)), [(341, 341, 1, 1)], 1, [], [])
theorem btm115 : bchk bzf bIm bmpm bmqm bjn bgm blpm bspm bdgm bldm [bkm2] [] 30000 bkm115 = true := by decide +kernel
theorem bcm115 : bcon bZ bIm bTr bkm115 := bchk_ok bZ_len bzf_ok bTr_ok (List.forall_mem_cons.mpr ⟨bcm2, fun _ q => absurd q List.not_mem_nil⟩) (fun _ q => absurd q List.not_mem_nil) btm115
