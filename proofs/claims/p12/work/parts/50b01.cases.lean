-- ===== pairs of calls
-- feed: 15 cases, 1365 and 1260 steps
def lc10_0 : List lCs := [(([none, some (.inl (-2147483648, 0))], []), (some (-1000001, []), []), ([(323, 323, 1, 1)], [(341, 341, 1, 1)])),
  (([none, some (.inl (1, 1))], [(0, 0, 59)]), (some (1, [(3, 1)]), [(0, (1, [(3, 1)]))]), ([(5, 5, 1, 1), (6, 6, 0, 59)], [(339, 339, 6, 6), (339, 339, 684, 743)])),
  (([none, some (.inl (1, 1))], [(0, 60, 60)]), (some (-1000004, []), []), ([(323, 323, 4, 4)], [(341, 341, 4, 4)])),
  (([none, some (.inl (2, 2))], [(0, 0, 58)]), (some (2, [(3, 1)]), [(0, (2, [(3, 1)]))]), ([(5, 5, 1, 1), (6, 6, 0, 59)], [(339, 339, 6, 6), (339, 339, 684, 743)])),
  (([none, some (.inl (2, 2))], [(0, 59, 60)]), (some (-1000004, []), []), ([(323, 323, 4, 4)], [(341, 341, 4, 4)])),
  (([none, some (.inl (3, 3))], [(0, 0, 57)]), (some (3, [(3, 1)]), [(0, (3, [(3, 1)]))]), ([(5, 5, 1, 1), (6, 6, 0, 59)], [(339, 339, 6, 6), (339, 339, 684, 743)])),
  (([none, some (.inl (3, 3))], [(0, 58, 60)]), (some (-1000004, []), []), ([(323, 323, 4, 4)], [(341, 341, 4, 4)])),
  (([none, some (.inl (4, 4))], [(0, 0, 56)]), (some (4, [(3, 1)]), [(0, (4, [(3, 1)]))]), ([(5, 5, 1, 1), (6, 6, 0, 59)], [(339, 339, 6, 6), (339, 339, 684, 743)])),
  (([none, some (.inl (4, 4))], [(0, 57, 60)]), (some (-1000004, []), []), ([(323, 323, 4, 4)], [(341, 341, 4, 4)])),
  (([none, some (.inl (5, 5))], [(0, 0, 55)]), (some (5, [(3, 1)]), [(0, (5, [(3, 1)]))]), ([(5, 5, 1, 1), (6, 6, 0, 59)], [(339, 339, 6, 6), (339, 339, 684, 743)])),
  (([none, some (.inl (5, 5))], [(0, 56, 60)]), (some (-1000004, []), []), ([(323, 323, 4, 4)], [(341, 341, 4, 4)])),
  (([none, some (.inl (6, 6))], [(0, 0, 54)]), (some (6, [(3, 1)]), [(0, (6, [(3, 1)]))]), ([(5, 5, 1, 1), (6, 6, 0, 59)], [(339, 339, 6, 6), (339, 339, 684, 743)])),
  (([none, some (.inl (6, 6))], [(0, 55, 60)]), (some (-1000004, []), []), ([(323, 323, 4, 4)], [(341, 341, 4, 4)])),
  (([none, some (.inl (7, 7))], [(0, 0, 53)]), (some (7, [(3, 1)]), [(0, (7, [(3, 1)]))]), ([(5, 5, 1, 1), (6, 6, 0, 59)], [(339, 339, 6, 6), (339, 339, 684, 743)])),
  (([none, some (.inl (7, 7))], [(0, 54, 60)]), (some (-1000004, []), []), ([(323, 323, 4, 4)], [(341, 341, 4, 4)]))]
theorem lx10_0 : lc10_0.all (fun q => bchq bzf bIx bmp0 bmp0 bjn bgm blp0 bsp0 bdg0 bdg0 [bkx0, bkx1] [] 725 (lck (lpx bRP) 84 0 q.2.2.1 q) (lkk (lpx bRP) q)) = true := by decide +kernel
theorem gx10_0 : ∀ q ∈ lc10_0, bcoq bZ bIx bTr (lck (lpx bRP) 84 0 q.2.2.1 q) (lkk (lpx bRP) q) := fun q hq => bchq_ok bZ_len bzf_ok bTr_ok (List.forall_mem_cons.mpr ⟨bcx0, List.forall_mem_cons.mpr ⟨bcx1, fun _ h => absurd h List.not_mem_nil⟩⟩) (fun _ h => absurd h List.not_mem_nil) (List.all_eq_true.mp lx10_0 q hq)
theorem lm10_0 : lc10_0.all (fun q => bchq bzf bIm bmp0 bmp0 bjn bgm blp0 bsp0 bdg0 bdg0 [bkm1, bkm2] [] 725 (lck (lpm bRP) 172 338 q.2.2.2 q) (lkk (lpm bRP) q)) = true := by decide +kernel
theorem gm10_0 : ∀ q ∈ lc10_0, bcoq bZ bIm bTr (lck (lpm bRP) 172 338 q.2.2.2 q) (lkk (lpm bRP) q) := fun q hq => bchq_ok bZ_len bzf_ok bTr_ok (List.forall_mem_cons.mpr ⟨bcm1, List.forall_mem_cons.mpr ⟨bcm2, fun _ h => absurd h List.not_mem_nil⟩⟩) (fun _ h => absurd h List.not_mem_nil) (List.all_eq_true.mp lm10_0 q hq)
-- feed: 3 cases, 356 and 315 steps
def lc10_1 : List lCs := [(([none, some (.inl (8, 8))], [(0, 0, 52)]), (some (8, [(3, 1)]), [(0, (8, [(3, 1)]))]), ([(5, 5, 1, 1), (6, 6, 0, 59)], [(339, 339, 6, 6), (339, 339, 684, 743)])),
  (([none, some (.inl (8, 8))], [(0, 53, 60)]), (some (-1000004, []), []), ([(323, 323, 4, 4)], [(341, 341, 4, 4)])),
  (([none, some (.inl (9, 2147483647))], []), (some (-1000001, []), []), ([(323, 323, 1, 1)], [(341, 341, 1, 1)]))]
theorem lx10_1 : lc10_1.all (fun q => bchq bzf bIx bmp0 bmp0 bjn bgm blp0 bsp0 bdg0 bdg0 [bkx0, bkx1] [] 725 (lck (lpx bRP) 84 0 q.2.2.1 q) (lkk (lpx bRP) q)) = true := by decide +kernel
theorem gx10_1 : ∀ q ∈ lc10_1, bcoq bZ bIx bTr (lck (lpx bRP) 84 0 q.2.2.1 q) (lkk (lpx bRP) q) := fun q hq => bchq_ok bZ_len bzf_ok bTr_ok (List.forall_mem_cons.mpr ⟨bcx0, List.forall_mem_cons.mpr ⟨bcx1, fun _ h => absurd h List.not_mem_nil⟩⟩) (fun _ h => absurd h List.not_mem_nil) (List.all_eq_true.mp lx10_1 q hq)
theorem lm10_1 : lc10_1.all (fun q => bchq bzf bIm bmp0 bmp0 bjn bgm blp0 bsp0 bdg0 bdg0 [bkm1, bkm2] [] 725 (lck (lpm bRP) 172 338 q.2.2.2 q) (lkk (lpm bRP) q)) = true := by decide +kernel
theorem gm10_1 : ∀ q ∈ lc10_1, bcoq bZ bIm bTr (lck (lpm bRP) 172 338 q.2.2.2 q) (lkk (lpm bRP) q) := fun q hq => bchq_ok bZ_len bzf_ok bTr_ok (List.forall_mem_cons.mpr ⟨bcm1, List.forall_mem_cons.mpr ⟨bcm2, fun _ h => absurd h List.not_mem_nil⟩⟩) (fun _ h => absurd h List.not_mem_nil) (List.all_eq_true.mp lm10_1 q hq)
def lc10 : List lCs := lc10_0 ++ (lc10_1)
theorem lcq10 : lc10.all (lwC1 bRP true (lwFe)) = true := by decide +kernel
theorem lcv10 : bcv 400 (lc10.map lcc) (lbx bRP (lwFe) [0]) = true := by decide +kernel
theorem lwp10 : lwPr bRP true 84 172 (lwFe) := lwPr_cs (f_ := 400) (cs := lc10) (ix := [0]) (Xm := bTr) (List.forall_mem_append.mpr ⟨gx10_0, gx10_1⟩) (List.forall_mem_append.mpr ⟨gm10_0, gm10_1⟩) (fun _ _ => trivial) (lwFr_s lsx10) (lwFr_s lsm10) bRP_ok lcq10 (by decide) (by decide) lcv10
-- text: 1 cases, 11 and 14 steps
def lc11_0 : List lCs := [(([some (.inl (-2147483648, -1))], []), (none, []), ([(323, 323, 1, 1)], [(341, 341, 1, 1)]))]
theorem lx11_0 : lc11_0.all (fun q => bchq bzf bIx bmpx bmqx bjn bgm blpx bspx bdgx bldx [bkx1, bkx48, bkx49] [] 272 (lck (lpx bRP) 85 0 q.2.2.1 q) (lkk (lpx bRP) q)) = true := by decide +kernel
theorem gx11_0 : ∀ q ∈ lc11_0, bcoq bZ bIx bTr (lck (lpx bRP) 85 0 q.2.2.1 q) (lkk (lpx bRP) q) := fun q hq => bchq_ok bZ_len bzf_ok bTr_ok (List.forall_mem_cons.mpr ⟨bcx1, List.forall_mem_cons.mpr ⟨bcx48, List.forall_mem_cons.mpr ⟨bcx49, fun _ h => absurd h List.not_mem_nil⟩⟩⟩) (fun _ h => absurd h List.not_mem_nil) (List.all_eq_true.mp lx11_0 q hq)
theorem lm11_0 : lc11_0.all (fun q => bchq bzf bIm bmpm bmqm bjn bgm blpm bspm bdgm bldm [bkm2] [] 272 (lck (lpm bRP) 184 338 q.2.2.2 q) (lkk (lpm bRP) q)) = true := by decide +kernel
theorem gm11_0 : ∀ q ∈ lc11_0, bcoq bZ bIm bXm (lck (lpm bRP) 184 338 q.2.2.2 q) (lkk (lpm bRP) q) := fun q hq => bchq_ok bZ_len bzf_ok (bxw_ok (List.all_eq_true.mp (show lc11_0.all (fun q => bxw q.2.2.2) = true by decide +kernel) q hq)) (List.forall_mem_cons.mpr ⟨(bcon_of bcm2), fun _ h => absurd h List.not_mem_nil⟩) (fun _ h => absurd h List.not_mem_nil) (List.all_eq_true.mp lm11_0 q hq)
-- text: 1 cases, 91 and 0 steps
def lc11_1 : List lCs := [(([some (.inl (0, 1))], []), (none, [(0, (0, []))]), ([(5, 5, 1, 1), (67, 67, 1, 1), (68, 68, 0, 59), (71, 71, 1, 1), (72, 72, 0, 59), (147, 147, 1, 3), (148, 148, 1, 1), (149, 149, 0, 59)], [(338, 338, 7, 10), (339, 339, 6, 6), (339, 339, 434, 683), (341, 341, 1, 1), (345, 345, 0, 123)]))]
theorem lx11_1 : lc11_1.all (fun q => bchq bzf bIx bmpx bmqx bjn bgm blpx bspx bdgx bldx [bkx1, bkx48, bkx49] [] 272 (lck (lpx bRP) 85 0 q.2.2.1 q) (lkk (lpx bRP) q)) = true := by decide +kernel
theorem gx11_1 : ∀ q ∈ lc11_1, bcoq bZ bIx bTr (lck (lpx bRP) 85 0 q.2.2.1 q) (lkk (lpx bRP) q) := fun q hq => bchq_ok bZ_len bzf_ok bTr_ok (List.forall_mem_cons.mpr ⟨bcx1, List.forall_mem_cons.mpr ⟨bcx48, List.forall_mem_cons.mpr ⟨bcx49, fun _ h => absurd h List.not_mem_nil⟩⟩⟩) (fun _ h => absurd h List.not_mem_nil) (List.all_eq_true.mp lx11_1 q hq)
theorem gm11_1 : ∀ q ∈ lc11_1, bcoq bZ bIm bXm (lck (lpm bRP) 184 338 q.2.2.2 q) (lkk (lpm bRP) q) := fun q hq => txq_ok (List.all_eq_true.mp (show lc11_1.all (txq bRP) = true by decide +kernel) q hq)
-- text: 1 cases, 14 and 17 steps
def lc11_2 : List lCs := [(([some (.inl (2, 2147483647))], []), (none, []), ([(323, 323, 1, 1)], [(341, 341, 1, 1)]))]
theorem lx11_2 : lc11_2.all (fun q => bchq bzf bIx bmpx bmqx bjn bgm blpx bspx bdgx bldx [bkx1, bkx48, bkx49] [] 272 (lck (lpx bRP) 85 0 q.2.2.1 q) (lkk (lpx bRP) q)) = true := by decide +kernel
theorem gx11_2 : ∀ q ∈ lc11_2, bcoq bZ bIx bTr (lck (lpx bRP) 85 0 q.2.2.1 q) (lkk (lpx bRP) q) := fun q hq => bchq_ok bZ_len bzf_ok bTr_ok (List.forall_mem_cons.mpr ⟨bcx1, List.forall_mem_cons.mpr ⟨bcx48, List.forall_mem_cons.mpr ⟨bcx49, fun _ h => absurd h List.not_mem_nil⟩⟩⟩) (fun _ h => absurd h List.not_mem_nil) (List.all_eq_true.mp lx11_2 q hq)
theorem lm11_2 : lc11_2.all (fun q => bchq bzf bIm bmpm bmqm bjn bgm blpm bspm bdgm bldm [bkm2] [] 272 (lck (lpm bRP) 184 338 q.2.2.2 q) (lkk (lpm bRP) q)) = true := by decide +kernel
theorem gm11_2 : ∀ q ∈ lc11_2, bcoq bZ bIm bXm (lck (lpm bRP) 184 338 q.2.2.2 q) (lkk (lpm bRP) q) := fun q hq => bchq_ok bZ_len bzf_ok (bxw_ok (List.all_eq_true.mp (show lc11_2.all (fun q => bxw q.2.2.2) = true by decide +kernel) q hq)) (List.forall_mem_cons.mpr ⟨(bcon_of bcm2), fun _ h => absurd h List.not_mem_nil⟩) (fun _ h => absurd h List.not_mem_nil) (List.all_eq_true.mp lm11_2 q hq)
def lc11 : List lCs := lc11_0 ++ (lc11_1 ++ (lc11_2))
theorem lcq11 : lc11.all (lwC1 bRP false (lwI 1)) = true := by decide +kernel
theorem lcv11 : bcv 400 (lc11.map lcc) (lbx bRP (lwI 1) []) = true := by decide +kernel
theorem lwp11 : lwPr bRP false 85 184 (lwI 1) := lwPr_cs (f_ := 400) (cs := lc11) (ix := []) (Xm := bXm) (List.forall_mem_append.mpr ⟨gx11_0, List.forall_mem_append.mpr ⟨gx11_1, gx11_2⟩⟩) (List.forall_mem_append.mpr ⟨gm11_0, List.forall_mem_append.mpr ⟨gm11_1, gm11_2⟩⟩) (fun _ q => q) (lwFr_s lsx11) (lwFr_s lsm11) bRP_ok lcq11 (by decide) (by decide) lcv11
