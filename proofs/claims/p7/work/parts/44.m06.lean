-- ===== contracts
-- need: 1351 steps
def bkm103 : bC := (195, [some (.inr [.index 338]), some (.inl (-2147483648, 2147483647)), some (.inl (-2147483648, 2147483647)), some (.inl (-2147483648, 2147483647))], some (.inl (-2147483648, 2147483647)), [(338, 353)], 4, [], [])
theorem btm103 : bchk bZ bIm bmpm bmqm bjn bgm blpm bspm bdgm bldm [bkm1, bkm14, bkm10, bkm12, bkm13, bkm15, bkm16, bkm17, bkm2] 30000 bkm103 = true := by decide +kernel
theorem bcm103 : bcon bZ bIm bkm103 := bchk_ok bZ_len (List.forall_mem_cons.mpr ⟨bcm1, List.forall_mem_cons.mpr ⟨bcm14, List.forall_mem_cons.mpr ⟨bcm10, List.forall_mem_cons.mpr ⟨bcm12, List.forall_mem_cons.mpr ⟨bcm13, List.forall_mem_cons.mpr ⟨bcm15, List.forall_mem_cons.mpr ⟨bcm16, List.forall_mem_cons.mpr ⟨bcm17, List.forall_mem_cons.mpr ⟨bcm2, fun _ q => absurd q List.not_mem_nil⟩⟩⟩⟩⟩⟩⟩⟩⟩) btm103
-- meant: 61 steps
def bkm104 : bC := (197, [some (.inr [.index 338]), some (.inl (-2147483648, 2147483647)), some (.inl (-2147483648, 2147483647))], some (.inl (-1000001, 73)), [(338, 353)], 5, [], [])
theorem btm104 : bchk bZ bIm bmpm bmqm bjn bgm blpm bspm bdgm bldm [bkm1, bkm18] 30000 bkm104 = true := by decide +kernel
theorem bcm104 : bcon bZ bIm bkm104 := bchk_ok bZ_len (List.forall_mem_cons.mpr ⟨bcm1, List.forall_mem_cons.mpr ⟨bcm18, fun _ q => absurd q List.not_mem_nil⟩⟩) btm104
-- place: 272 steps
def bkm105 : bC := (199, [some (.inr [.index 338]), some (.inl (-2147483648, 2147483647)), some (.inl (-2147483648, 2147483647)), some (.inl (-2147483648, 2147483647))], some (.inl (-2147483648, 2147483647)), [(338, 353)], 5, [], [])
theorem btm105 : bchk bZ bIm bmpm bmqm bjn bgm blpm bspm bdgm bldm [bkm1, bkm18, bkm19, bkm20, bkm21, bkm22, bkm23, bkm24, bkm25, bkm26, bkm27, bkm28, bkm29, bkm30, bkm31, bkm32, bkm33, bkm34, bkm35, bkm36, bkm37, bkm38, bkm39, bkm40, bkm41] 30000 bkm105 = true := by decide +kernel
theorem bcm105 : bcon bZ bIm bkm105 := bchk_ok bZ_len (List.forall_mem_cons.mpr ⟨bcm1, List.forall_mem_cons.mpr ⟨bcm18, List.forall_mem_cons.mpr ⟨bcm19, List.forall_mem_cons.mpr ⟨bcm20, List.forall_mem_cons.mpr ⟨bcm21, List.forall_mem_cons.mpr ⟨bcm22, List.forall_mem_cons.mpr ⟨bcm23, List.forall_mem_cons.mpr ⟨bcm24, List.forall_mem_cons.mpr ⟨bcm25, List.forall_mem_cons.mpr ⟨bcm26, List.forall_mem_cons.mpr ⟨bcm27, List.forall_mem_cons.mpr ⟨bcm28, List.forall_mem_cons.mpr ⟨bcm29, List.forall_mem_cons.mpr ⟨bcm30, List.forall_mem_cons.mpr ⟨bcm31, List.forall_mem_cons.mpr ⟨bcm32, List.forall_mem_cons.mpr ⟨bcm33, List.forall_mem_cons.mpr ⟨bcm34, List.forall_mem_cons.mpr ⟨bcm35, List.forall_mem_cons.mpr ⟨bcm36, List.forall_mem_cons.mpr ⟨bcm37, List.forall_mem_cons.mpr ⟨bcm38, List.forall_mem_cons.mpr ⟨bcm39, List.forall_mem_cons.mpr ⟨bcm40, List.forall_mem_cons.mpr ⟨bcm41, fun _ q => absurd q List.not_mem_nil⟩⟩⟩⟩⟩⟩⟩⟩⟩⟩⟩⟩⟩⟩⟩⟩⟩⟩⟩⟩⟩⟩⟩⟩⟩) btm105
-- safe: 1613 steps
def bkm106 : bC := (200, [some (.inr [.index 338]), some (.inl (-2147483648, 2147483647)), some (.inl (-2147483648, 2147483647))], some (.inl (-2147483648, 2147483647)), [(338, 353)], 7, [], [])
theorem btm106 : bchk bZ bIm bmpm bmqm bjn bgm blpm bspm bdgm bldm [bkm1, bkm3, bkm11, bkm10] 30000 bkm106 = true := by decide +kernel
theorem bcm106 : bcon bZ bIm bkm106 := bchk_ok bZ_len (List.forall_mem_cons.mpr ⟨bcm1, List.forall_mem_cons.mpr ⟨bcm3, List.forall_mem_cons.mpr ⟨bcm11, List.forall_mem_cons.mpr ⟨bcm10, fun _ q => absurd q List.not_mem_nil⟩⟩⟩⟩) btm106
-- reads: 73 steps
def bkm107 : bC := (206, [some (.inr [.index 338]), some (.inl (-2147483648, 2147483647))], some (.inl (-1000001, 1)), [(338, 353)], 15, [], [])
theorem btm107 : bchk bZ bIm bmpm bmqm bjn bgm blpm bspm bdgm bldm [bkm1, bkm56] 30000 bkm107 = true := by decide +kernel
theorem bcm107 : bcon bZ bIm bkm107 := bchk_ok bZ_len (List.forall_mem_cons.mpr ⟨bcm1, List.forall_mem_cons.mpr ⟨bcm56, fun _ q => absurd q List.not_mem_nil⟩⟩) btm107
-- so: 34 steps
def bkm108 : bC := (207, [some (.inr [.index 338]), some (.inl (-2147483648, 2147483647))], some (.inl (-1000001, 2147483647)), [(338, 353)], 1, [], [])
theorem btm108 : bchk bZ bIm bmpm bmqm bjn bgm blpm bspm bdgm bldm [bkm1] 30000 bkm108 = true := by decide +kernel
theorem bcm108 : bcon bZ bIm bkm108 := bchk_ok bZ_len (List.forall_mem_cons.mpr ⟨bcm1, fun _ q => absurd q List.not_mem_nil⟩) btm108
-- says: 2035 steps
def bkm109 : bC := (208, [some (.inr [.index 338]), some (.inl (-2147483648, 2147483647)), some (.inl (-2147483648, 2147483647))], some (.inl (-1000002, 1)), [(338, 353)], 15, [], [])
theorem btm109 : bchk bZ bIm bmpm bmqm bjn bgm blpm bspm bdgm bldm [bkm1, bkm57, bkm10, bkm56] 30000 bkm109 = true := by decide +kernel
theorem bcm109 : bcon bZ bIm bkm109 := bchk_ok bZ_len (List.forall_mem_cons.mpr ⟨bcm1, List.forall_mem_cons.mpr ⟨bcm57, List.forall_mem_cons.mpr ⟨bcm10, List.forall_mem_cons.mpr ⟨bcm56, fun _ q => absurd q List.not_mem_nil⟩⟩⟩⟩) btm109
-- shout: 448 steps
def bkm110 : bC := (211, [some (.inr [.index 338]), some (.inl (-2147483648, 2147483647)), some (.inl (-2147483648, 2147483647))], some (.inl (-2147483648, 2147483647)), [(338, 353)], 3, [], [])
theorem btm110 : bchk bZ bIm bmpm bmqm bjn bgm blpm bspm bdgm bldm [bkm1, bkm0, bkm10, bkm58] 30000 bkm110 = true := by decide +kernel
theorem bcm110 : bcon bZ bIm bkm110 := bchk_ok bZ_len (List.forall_mem_cons.mpr ⟨bcm1, List.forall_mem_cons.mpr ⟨bcm0, List.forall_mem_cons.mpr ⟨bcm10, List.forall_mem_cons.mpr ⟨bcm58, fun _ q => absurd q List.not_mem_nil⟩⟩⟩⟩) btm110
-- seconds: 56 steps
def bkm111 : bC := (212, [some (.inr [.index 338]), some (.inl (-2147483648, 2147483647))], some (.inl (-2147483648, 2147483647)), [(338, 353)], 2, [], [])
theorem btm111 : bchk bZ bIm bmpm bmqm bjn bgm blpm bspm bdgm bldm [bkm1, bkm14, bkm58] 30000 bkm111 = true := by decide +kernel
theorem bcm111 : bcon bZ bIm bkm111 := bchk_ok bZ_len (List.forall_mem_cons.mpr ⟨bcm1, List.forall_mem_cons.mpr ⟨bcm14, List.forall_mem_cons.mpr ⟨bcm58, fun _ q => absurd q List.not_mem_nil⟩⟩⟩) btm111
-- log: 553 steps
def bkm112 : bC := (213, [some (.inr [.index 338]), some (.inl (-2147483648, 2147483647)), some (.inl (-2147483648, 2147483647))], some (.inl (-2147483648, 2147483647)), [(338, 353)], 2, [], [])
theorem btm112 : bchk bZ bIm bmpm bmqm bjn bgm blpm bspm bdgm bldm [bkm57, bkm2] 30000 bkm112 = true := by decide +kernel
theorem bcm112 : bcon bZ bIm bkm112 := bchk_ok bZ_len (List.forall_mem_cons.mpr ⟨bcm57, List.forall_mem_cons.mpr ⟨bcm2, fun _ q => absurd q List.not_mem_nil⟩⟩) btm112
-- seed: 12 steps
def bkm113 : bC := (217, [some (.inr [.index 338]), some (.inl (-2147483648, 2147483647))], some (.inl (-2147483648, 2147483647)), [(338, 353)], 0, [], [])
theorem btm113 : bchk bZ bIm bmpm bmqm bjn bgm blpm bspm bdgm bldm [] 30000 bkm113 = true := by decide +kernel
theorem bcm113 : bcon bZ bIm bkm113 := bchk_ok bZ_len (fun _ q => absurd q List.not_mem_nil) btm113
-- voice: 120 steps
def bkm114 : bC := (225, [some (.inr [.index 338]), some (.inl (-2147483648, 2147483647)), some (.inl (-2147483648, 2147483647)), some (.inl (-2147483648, 2147483647))], some (.inl (-2147483648, 2147483647)), [(338, 353)], 11, [], [])
theorem btm114 : bchk bZ bIm bmpm bmqm bjn bgm blpm bspm bdgm bldm [bkm1, bkm84, bkm69, bkm75, bkm82, bkm83] 30000 bkm114 = true := by decide +kernel
theorem bcm114 : bcon bZ bIm bkm114 := bchk_ok bZ_len (List.forall_mem_cons.mpr ⟨bcm1, List.forall_mem_cons.mpr ⟨bcm84, List.forall_mem_cons.mpr ⟨bcm69, List.forall_mem_cons.mpr ⟨bcm75, List.forall_mem_cons.mpr ⟨bcm82, List.forall_mem_cons.mpr ⟨bcm83, fun _ q => absurd q List.not_mem_nil⟩⟩⟩⟩⟩⟩) btm114
-- body: 30 steps
def bkm115 : bC := (226, [some (.inr [.index 338]), some (.inl (-2147483648, 2147483647))], some (.inl (-1000002, 72)), [(338, 353)], 1, [], [])
theorem btm115 : bchk bZ bIm bmpm bmqm bjn bgm blpm bspm bdgm bldm [bkm57] 30000 bkm115 = true := by decide +kernel
theorem bcm115 : bcon bZ bIm bkm115 := bchk_ok bZ_len (List.forall_mem_cons.mpr ⟨bcm57, fun _ q => absurd q List.not_mem_nil⟩) btm115
