-- ===== pairs of calls
-- restore: 1 cases, 1174 and 0 steps
def lc39_2 : List lCs := [(([], [(0, 0, 9999), (1, 0, 9999), (2, 1, 2147483647)]), (some (0, [(2, 1)]), [(0, (0, [(2, 1)]))]), ([(1, 1, 9, 13), (5, 5, 1, 1), (6, 6, 0, 59), (7, 7, 1, 1), (8, 8, 0, 23), (9, 9, 1, 1), (10, 10, 0, 9), (11, 11, 1, 1), (12, 12, 0, 9), (13, 13, 1, 1), (14, 14, 0, 9), (15, 15, 1, 2), (17, 32, 0, 11), (34, 57, 0, 11), (58, 58, 0, 2), (59, 59, 0, 2), (60, 60, 0, 2), (61, 61, 0, 2), (62, 62, 0, 2), (63, 63, 0, 2), (64, 64, 0, 2), (65, 65, 0, 2), (67, 67, 1, 1), (68, 68, 0, 59), (71, 71, 1, 1), (72, 72, 0, 59)], [(339, 339, 0, 767)]))]
theorem lx39_2 : lc39_2.all (fun q => bchq bzf bIx bmp0 bmp0 bjn bgm blp0 bsp0 bdg0 bdg0 [bkx100] [] 1321 (lck (lpx bRP) 113 0 q.2.2.1 q) (lkk (lpx bRP) q)) = true := by decide +kernel
theorem gx39_2 : ∀ q ∈ lc39_2, bcoq bZ bIx bTr (lck (lpx bRP) 113 0 q.2.2.1 q) (lkk (lpx bRP) q) := fun q hq => bchq_ok bZ_len bzf_ok bTr_ok (List.forall_mem_cons.mpr ⟨bcx100, fun _ h => absurd h List.not_mem_nil⟩) (fun _ h => absurd h List.not_mem_nil) (List.all_eq_true.mp lx39_2 q hq)
theorem gm39_2 : ∀ q ∈ lc39_2, bcoq bZ bIm bTr (lck (lpm bRP) 233 338 q.2.2.2 q) (lkk (lpm bRP) q) := fun q hq => rsq_ok (List.all_eq_true.mp (show lc39_2.all (rsq bRP) = true by decide +kernel) q hq)
def lc39 : List lCs := lc39_0 ++ (lc39_1 ++ (lc39_2))
theorem lcq39 : lc39.all (lwC1 bRP true (lwI 0)) = true := by decide +kernel
theorem lcv39 : bcv 400 (lc39.map lcc) (lbx bRP (lwI 0) [0, 1, 2]) = true := by decide +kernel
theorem lwp39 : lwPr bRP true 113 233 (lwI 0) := lwPr_cs (f_ := 400) (cs := lc39) (ix := [0, 1, 2]) (Xm := bTr) (List.forall_mem_append.mpr ⟨gx39_0, List.forall_mem_append.mpr ⟨gx39_1, gx39_2⟩⟩) (List.forall_mem_append.mpr ⟨gm39_0, List.forall_mem_append.mpr ⟨gm39_1, gm39_2⟩⟩) (fun _ _ => trivial) (lwFr_s lsx39) (lwFr_s lsm39) bRP_ok lcq39 (by decide) (by decide) lcv39
