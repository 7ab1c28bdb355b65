-- ===== contracts
-- findMeant: 21655 steps
def bkm18 : bC := (196, [some (.inr [.index 338]), some (.inl (0, 11)), some (.inl (0, 2))], none, [(338, 338), (342, 344), (348, 348)], 4, [], [])
theorem btm18 : bchk bZ bIm bmpm bmqm bjn bgm blpm bspm bdgm bldm [bkm10, bkm12, bkm13, bkm15] 30000 bkm18 = true := by decide +kernel
theorem bcm18 : bcon bZ bIm bkm18 := bchk_ok bZ_len (List.forall_mem_cons.mpr ⟨bcm10, List.forall_mem_cons.mpr ⟨bcm12, List.forall_mem_cons.mpr ⟨bcm13, List.forall_mem_cons.mpr ⟨bcm15, fun _ q => absurd q List.not_mem_nil⟩⟩⟩⟩) btm18
