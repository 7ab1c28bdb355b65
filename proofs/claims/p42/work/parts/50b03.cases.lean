-- ===== pairs of calls
-- check: 1 cases, 80 and 2240 steps
def lc41_0 : List lCs := [(([some (.inl (-2147483648, 2147483647)), some (.inl (-2147483648, 2147483647))], []), (none, [(0, (0, []))]), ([(7, 7, 1, 1), (33, 33, 0, 3), (69, 69, 0, 59), (314, 314, 1, 1), (315, 315, 0, 3), (318, 318, 1, 1), (319, 319, 0, 11), (320, 320, 1, 1), (321, 321, 0, 11), (323, 323, 1, 1)], [(339, 339, 7, 7), (341, 341, 1, 1), (342, 342, 0, 12), (343, 343, 0, 12), (344, 344, 0, 12), (346, 346, 105, 105), (346, 346, 109, 110), (346, 346, 115, 115), (347, 347, 0, 63)]))]
theorem lx41_0 : lc41_0.all (fun q => bchq bzf bIx bmpx bmqx bjn bgm blpx bspx bdgx bldx [bkx1, bkx50, bkx60, bkx213] [] 453 (lck (lpx bRP) 115 0 q.2.2.1 q) (lkk (lpx bRP) q)) = true := by decide +kernel
theorem gx41_0 : ∀ q ∈ lc41_0, bcoq bZ bIx bTr (lck (lpx bRP) 115 0 q.2.2.1 q) (lkk (lpx bRP) q) := fun q hq => bchq_ok bZ_len bzf_ok bTr_ok (List.forall_mem_cons.mpr ⟨bcx1, List.forall_mem_cons.mpr ⟨bcx50, List.forall_mem_cons.mpr ⟨bcx60, List.forall_mem_cons.mpr ⟨bcx213, fun _ h => absurd h List.not_mem_nil⟩⟩⟩⟩) (fun _ h => absurd h List.not_mem_nil) (List.all_eq_true.mp lx41_0 q hq)
theorem lm41_0 : lc41_0.all (fun q => bchq bzf bIm bmpm bmqm bjn bgm blpm bspm bdgm bldm [bkm2, bkm11] [] 453 (lck (lpm bRP) 235 338 q.2.2.2 q) (lkk (lpm bRP) q)) = true := by decide +kernel
theorem gm41_0 : ∀ q ∈ lc41_0, bcoq bZ bIm bXm (lck (lpm bRP) 235 338 q.2.2.2 q) (lkk (lpm bRP) q) := fun q hq => bchq_ok bZ_len bzf_ok (bxw_ok (List.all_eq_true.mp (show lc41_0.all (fun q => bxw q.2.2.2) = true by decide +kernel) q hq)) (List.forall_mem_cons.mpr ⟨(bcon_of bcm2), List.forall_mem_cons.mpr ⟨bcm11, fun _ h => absurd h List.not_mem_nil⟩⟩) (fun _ h => absurd h List.not_mem_nil) (List.all_eq_true.mp lm41_0 q hq)
def lc41 : List lCs := lc41_0
theorem lcq41 : lc41.all (lwC1 bRP false (lwI 2)) = true := by decide +kernel
theorem lcv41 : bcv 400 (lc41.map lcc) (lbx bRP (lwI 2) []) = true := by decide +kernel
theorem lwp41 : lwPr bRP false 115 235 (lwI 2) := lwPr_cs (f_ := 400) (cs := lc41) (ix := []) (Xm := bXm) (gx41_0) (gm41_0) (fun _ q => q) (lwFr_s lsx41) (lwFr_s lsm41) bRP_ok lcq41 (by decide) (by decide) lcv41
