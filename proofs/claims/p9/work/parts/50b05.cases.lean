-- ===== pairs of calls
-- rockIs: 16 cases, 439 and 704 steps
def lc7_1 : List lCs := [(([some (.inl (5, 5)), some (.inl (1, 1))], [(0, 6, 8), (18, 0, 9)]), (some (0, [(4, 1)]), []), ([], [])),
  (([some (.inl (5, 5)), some (.inl (2, 2))], [(0, 6, 8), (19, 0, 20)]), (some (0, [(4, 1)]), []), ([], [])),
  (([some (.inl (5, 5)), some (.inl (3, 2147483647))], [(0, 6, 8)]), (some (-1000001, []), []), ([(323, 323, 1, 1)], [(341, 341, 1, 1)])),
  (([some (.inl (6, 6)), some (.inl (-2147483648, 2147483647))], [(0, 0, 6)]), (some (-1000001, []), []), ([(323, 323, 1, 1)], [(341, 341, 1, 1)])),
  (([some (.inl (6, 6)), some (.inl (-2147483648, -1))], [(0, 7, 8)]), (some (-1000001, []), []), ([(323, 323, 1, 1)], [(341, 341, 1, 1)])),
  (([some (.inl (6, 6)), some (.inl (0, 0))], [(0, 7, 8), (20, 0, 6)]), (some (0, [(4, 1)]), []), ([], [])),
  (([some (.inl (6, 6)), some (.inl (1, 1))], [(0, 7, 8), (21, 0, 9)]), (some (0, [(4, 1)]), []), ([], [])),
  (([some (.inl (6, 6)), some (.inl (2, 2))], [(0, 7, 8), (22, 0, 20)]), (some (0, [(4, 1)]), []), ([], [])),
  (([some (.inl (6, 6)), some (.inl (3, 2147483647))], [(0, 7, 8)]), (some (-1000001, []), []), ([(323, 323, 1, 1)], [(341, 341, 1, 1)])),
  (([some (.inl (7, 7)), some (.inl (-2147483648, 2147483647))], [(0, 0, 7)]), (some (-1000001, []), []), ([(323, 323, 1, 1)], [(341, 341, 1, 1)])),
  (([some (.inl (7, 7)), some (.inl (-2147483648, -1))], [(0, 8, 8)]), (some (-1000001, []), []), ([(323, 323, 1, 1)], [(341, 341, 1, 1)])),
  (([some (.inl (7, 7)), some (.inl (0, 0))], [(0, 8, 8), (23, 0, 6)]), (some (0, [(4, 1)]), []), ([], [])),
  (([some (.inl (7, 7)), some (.inl (1, 1))], [(0, 8, 8), (24, 0, 9)]), (some (0, [(4, 1)]), []), ([], [])),
  (([some (.inl (7, 7)), some (.inl (2, 2))], [(0, 8, 8), (25, 0, 20)]), (some (0, [(4, 1)]), []), ([], [])),
  (([some (.inl (7, 7)), some (.inl (3, 2147483647))], [(0, 8, 8)]), (some (-1000001, []), []), ([(323, 323, 1, 1)], [(341, 341, 1, 1)])),
  (([some (.inl (8, 2147483647)), some (.inl (-2147483648, 2147483647))], []), (some (-1000001, []), []), ([(323, 323, 1, 1)], [(341, 341, 1, 1)]))]
theorem lx7_1 : lc7_1.all (fun q => bchq bzf bIx bmp0 bmp0 bjn bgm blp0 bsp0 bdg0 bdg0 [bkx1] [] 249 (lck (lpx bRP) 81 0 q.2.2.1 q) (lkk (lpx bRP) q)) = true := by decide +kernel
theorem gx7_1 : ∀ q ∈ lc7_1, bcoq bZ bIx bTr (lck (lpx bRP) 81 0 q.2.2.1 q) (lkk (lpx bRP) q) := fun q hq => bchq_ok bZ_len bzf_ok bTr_ok (List.forall_mem_cons.mpr ⟨bcx1, fun _ h => absurd h List.not_mem_nil⟩) (fun _ h => absurd h List.not_mem_nil) (List.all_eq_true.mp lx7_1 q hq)
theorem lm7_1 : lc7_1.all (fun q => bchq bzf bIm bmp0 bmp0 bjn bgm blp0 bsp0 bdg0 bdg0 [bkm2] [] 249 (lck (lpm bRP) 168 338 q.2.2.2 q) (lkk (lpm bRP) q)) = true := by decide +kernel
theorem gm7_1 : ∀ q ∈ lc7_1, bcoq bZ bIm bTr (lck (lpm bRP) 168 338 q.2.2.2 q) (lkk (lpm bRP) q) := fun q hq => bchq_ok bZ_len bzf_ok bTr_ok (List.forall_mem_cons.mpr ⟨bcm2, fun _ h => absurd h List.not_mem_nil⟩) (fun _ h => absurd h List.not_mem_nil) (List.all_eq_true.mp lm7_1 q hq)
def lc7 : List lCs := lc7_0 ++ (lc7_1)
theorem lcq7 : lc7.all (lwC1 bRP true (lwI 2)) = true := by decide +kernel
theorem lcv7 : bcv 400 (lc7.map lcc) (lbx bRP (lwI 2) [0, 2, 3, 4, 5, 6, 7, 8, 9, 10, 11, 12, 13, 14, 15, 16, 17, 18, 19, 20, 21, 22, 23, 24, 25]) = true := by decide +kernel
theorem lwp7 : lwPr bRP true 81 168 (lwI 2) := lwPr_cs (f_ := 400) (cs := lc7) (ix := [0, 2, 3, 4, 5, 6, 7, 8, 9, 10, 11, 12, 13, 14, 15, 16, 17, 18, 19, 20, 21, 22, 23, 24, 25]) (Xm := bTr) (List.forall_mem_append.mpr ⟨gx7_0, gx7_1⟩) (List.forall_mem_append.mpr ⟨gm7_0, gm7_1⟩) (fun _ _ => trivial) (lwFr_s lsx7) (lwFr_s lsm7) bRP_ok lcq7 (by decide) (by decide) lcv7
