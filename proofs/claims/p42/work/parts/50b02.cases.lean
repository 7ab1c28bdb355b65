-- ===== pairs of calls
-- restore: 1 cases, 1174 and 0 steps
def lc39_0 : List lCs := [(([], [(0, 0, 24), (1, 0, 24), (2, -2147483648, -1)]), (none, [(0, (0, [(2, 1)]))]), ([(1, 1, 9, 13), (5, 5, 1, 1), (6, 6, 0, 59), (7, 7, 1, 1), (8, 8, 0, 23), (9, 9, 1, 1), (10, 10, 0, 9), (11, 11, 1, 1), (12, 12, 0, 9), (13, 13, 1, 1), (14, 14, 0, 9), (15, 15, 1, 2), (17, 32, 0, 11), (34, 57, 0, 11), (58, 58, 0, 2), (59, 59, 0, 2), (60, 60, 0, 2), (61, 61, 0, 2), (62, 62, 0, 2), (63, 63, 0, 2), (64, 64, 0, 2), (65, 65, 0, 2), (67, 67, 1, 1), (68, 68, 0, 59), (71, 71, 1, 1), (72, 72, 0, 59)], [(339, 339, 0, 767)]))]
theorem lx39_0 : lc39_0.all (fun q => bchq bzf bIx bmp0 bmp0 bjn bgm blp0 bsp0 bdg0 bdg0 [bkx100] [] 1321 (lck (lpx bRP) 113 0 q.2.2.1 q) (lkk (lpx bRP) q)) = true := by decide +kernel
theorem gx39_0 : ∀ q ∈ lc39_0, bcoq bZ bIx bTr (lck (lpx bRP) 113 0 q.2.2.1 q) (lkk (lpx bRP) q) := fun q hq => bchq_ok bZ_len bzf_ok bTr_ok (List.forall_mem_cons.mpr ⟨bcx100, fun _ h => absurd h List.not_mem_nil⟩) (fun _ h => absurd h List.not_mem_nil) (List.all_eq_true.mp lx39_0 q hq)
theorem gm39_0 : ∀ q ∈ lc39_0, bcoq bZ bIm bTr (lck (lpm bRP) 233 338 q.2.2.2 q) (lkk (lpm bRP) q) := fun q hq => rsq_ok (List.all_eq_true.mp (show lc39_0.all (rsq bRP) = true by decide +kernel) q hq)
-- restore: 1 cases, 7 and 7 steps
def lc39_1 : List lCs := [(([], [(2, 0, 0)]), (none, []), ([(323, 323, 2, 2)], [(341, 341, 2, 2)]))]
theorem lx39_1 : lc39_1.all (fun q => bchq bzf bIx bmp0 bmp0 bjn bgm blp0 bsp0 bdg0 bdg0 [bkx100] [] 1321 (lck (lpx bRP) 113 0 q.2.2.1 q) (lkk (lpx bRP) q)) = true := by decide +kernel
theorem gx39_1 : ∀ q ∈ lc39_1, bcoq bZ bIx bTr (lck (lpx bRP) 113 0 q.2.2.1 q) (lkk (lpx bRP) q) := fun q hq => bchq_ok bZ_len bzf_ok bTr_ok (List.forall_mem_cons.mpr ⟨bcx100, fun _ h => absurd h List.not_mem_nil⟩) (fun _ h => absurd h List.not_mem_nil) (List.all_eq_true.mp lx39_1 q hq)
theorem lm39_1 : lc39_1.all (fun q => bchq bzf bIm bmp0 bmp0 bjn bgm blp0 bsp0 bdg0 bdg0 [bkm28] [] 1321 (lck (lpm bRP) 233 338 q.2.2.2 q) (lkk (lpm bRP) q)) = true := by decide +kernel
theorem gm39_1 : ∀ q ∈ lc39_1, bcoq bZ bIm bTr (lck (lpm bRP) 233 338 q.2.2.2 q) (lkk (lpm bRP) q) := fun q hq => bchq_ok bZ_len bzf_ok bTr_ok (List.forall_mem_cons.mpr ⟨bcm28, fun _ h => absurd h List.not_mem_nil⟩) (fun _ h => absurd h List.not_mem_nil) (List.all_eq_true.mp lm39_1 q hq)
-- restore: 1 cases, 1174 and 0 steps
def lc39_2 : List lCs := [(([], [(0, 0, 24), (1, 0, 24), (2, 1, 2147483647)]), (none, [(0, (0, [(2, 1)]))]), ([(1, 1, 9, 13), (5, 5, 1, 1), (6, 6, 0, 59), (7, 7, 1, 1), (8, 8, 0, 23), (9, 9, 1, 1), (10, 10, 0, 9), (11, 11, 1, 1), (12, 12, 0, 9), (13, 13, 1, 1), (14, 14, 0, 9), (15, 15, 1, 2), (17, 32, 0, 11), (34, 57, 0, 11), (58, 58, 0, 2), (59, 59, 0, 2), (60, 60, 0, 2), (61, 61, 0, 2), (62, 62, 0, 2), (63, 63, 0, 2), (64, 64, 0, 2), (65, 65, 0, 2), (67, 67, 1, 1), (68, 68, 0, 59), (71, 71, 1, 1), (72, 72, 0, 59)], [(339, 339, 0, 767)]))]
theorem lx39_2 : lc39_2.all (fun q => bchq bzf bIx bmp0 bmp0 bjn bgm blp0 bsp0 bdg0 bdg0 [bkx100] [] 1321 (lck (lpx bRP) 113 0 q.2.2.1 q) (lkk (lpx bRP) q)) = true := by decide +kernel
theorem gx39_2 : ∀ q ∈ lc39_2, bcoq bZ bIx bTr (lck (lpx bRP) 113 0 q.2.2.1 q) (lkk (lpx bRP) q) := fun q hq => bchq_ok bZ_len bzf_ok bTr_ok (List.forall_mem_cons.mpr ⟨bcx100, fun _ h => absurd h List.not_mem_nil⟩) (fun _ h => absurd h List.not_mem_nil) (List.all_eq_true.mp lx39_2 q hq)
theorem gm39_2 : ∀ q ∈ lc39_2, bcoq bZ bIm bTr (lck (lpm bRP) 233 338 q.2.2.2 q) (lkk (lpm bRP) q) := fun q hq => rsq_ok (List.all_eq_true.mp (show lc39_2.all (rsq bRP) = true by decide +kernel) q hq)
def lc39 : List lCs := lc39_0 ++ (lc39_1 ++ (lc39_2))
theorem lcq39 : lc39.all (lwC1 bRP false (lwI 0)) = true := by decide +kernel
theorem lcv39 : bcv 400 (lc39.map lcc) (lbx bRP (lwI 0) [0, 1, 2]) = true := by decide +kernel
theorem lwp39 : lwPr bRP false 113 233 (lwI 0) := lwPr_cs (f_ := 400) (cs := lc39) (ix := [0, 1, 2]) (Xm := bTr) (List.forall_mem_append.mpr ⟨gx39_0, List.forall_mem_append.mpr ⟨gx39_1, gx39_2⟩⟩) (List.forall_mem_append.mpr ⟨gm39_0, List.forall_mem_append.mpr ⟨gm39_1, gm39_2⟩⟩) (fun _ _ => trivial) (lwFr_s lsx39) (lwFr_s lsm39) bRP_ok lcq39 (by decide) (by decide) lcv39
-- tell: 2 cases, 49 and 39 steps
def lc40_0 : List lCs := [(([some (.inl (-2147483648, 2147483647))], [(0, 0, 23)]), (some (1, [(2, 1)]), [(0, (1, [(2, 1)]))]), ([(7, 7, 1, 1), (8, 8, 0, 23)], [(339, 339, 7, 7), (339, 339, 744, 767)])),
  (([some (.inl (-2147483648, 2147483647))], [(0, 24, 24)]), (some (-1000004, []), []), ([(323, 323, 4, 4)], [(341, 341, 4, 4)]))]
theorem lx40_0 : lc40_0.all (fun q => bchq bzf bIx bmp0 bmp0 bjn bgm blp0 bsp0 bdg0 bdg0 [bkx0] [] 257 (lck (lpx bRP) 114 0 q.2.2.1 q) (lkk (lpx bRP) q)) = true := by decide +kernel
theorem gx40_0 : ∀ q ∈ lc40_0, bcoq bZ bIx bTr (lck (lpx bRP) 114 0 q.2.2.1 q) (lkk (lpx bRP) q) := fun q hq => bchq_ok bZ_len bzf_ok bTr_ok (List.forall_mem_cons.mpr ⟨bcx0, fun _ h => absurd h List.not_mem_nil⟩) (fun _ h => absurd h List.not_mem_nil) (List.all_eq_true.mp lx40_0 q hq)
theorem lm40_0 : lc40_0.all (fun q => bchq bzf bIm bmp0 bmp0 bjn bgm blp0 bsp0 bdg0 bdg0 [bkm1] [] 257 (lck (lpm bRP) 234 338 q.2.2.2 q) (lkk (lpm bRP) q)) = true := by decide +kernel
theorem gm40_0 : ∀ q ∈ lc40_0, bcoq bZ bIm bTr (lck (lpm bRP) 234 338 q.2.2.2 q) (lkk (lpm bRP) q) := fun q hq => bchq_ok bZ_len bzf_ok bTr_ok (List.forall_mem_cons.mpr ⟨bcm1, fun _ h => absurd h List.not_mem_nil⟩) (fun _ h => absurd h List.not_mem_nil) (List.all_eq_true.mp lm40_0 q hq)
def lc40 : List lCs := lc40_0
theorem lcq40 : lc40.all (lwC1 bRP true (lwI 1)) = true := by decide +kernel
theorem lcv40 : bcv 400 (lc40.map lcc) (lbx bRP (lwI 1) [0]) = true := by decide +kernel
theorem lwp40 : lwPr bRP true 114 234 (lwI 1) := lwPr_cs (f_ := 400) (cs := lc40) (ix := [0]) (Xm := bTr) (gx40_0) (gm40_0) (fun _ _ => trivial) (lwFr_s lsx40) (lwFr_s lsm40) bRP_ok lcq40 (by decide) (by decide) lcv40
