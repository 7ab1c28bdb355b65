-- ===== pairs of calls
-- set: 21 cases, 773 and 1226 steps
def lc9_3 : List lCs := [(([some (.inl (6, 6)), some (.inl (0, 0)), some (.inl (7, 2147483647))], [(0, 7, 8), (2, 0, 6), (20, 0, 6)]), (none, []), ([(323, 323, 1, 1)], [(341, 341, 1, 1)])),
  (([some (.inl (6, 6)), some (.inl (1, 1)), some (.inl (-2147483648, -1))], [(0, 7, 8), (2, 0, 6), (20, 0, 6), (21, 0, 9)]), (none, []), ([(323, 323, 1, 1)], [(341, 341, 1, 1)])),
  (([some (.inl (6, 6)), some (.inl (1, 1)), some (.inl (0, 9))], [(0, 7, 8), (2, 0, 6), (20, 0, 6), (21, 0, 9)]), (none, [(21, (0, [(3, 1)]))]), ([(64, 64, 1, 1)], [(339, 339, 29, 29)])),
  (([some (.inl (6, 6)), some (.inl (1, 1)), some (.inl (10, 2147483647))], [(0, 7, 8), (2, 0, 6), (20, 0, 6), (21, 0, 9)]), (none, []), ([(323, 323, 1, 1)], [(341, 341, 1, 1)])),
  (([some (.inl (6, 6)), some (.inl (2, 2)), some (.inl (-2147483648, -1))], [(0, 7, 8), (2, 0, 6), (20, 0, 6), (22, 0, 20)]), (none, []), ([(323, 323, 1, 1)], [(341, 341, 1, 1)])),
  (([some (.inl (6, 6)), some (.inl (2, 2)), some (.inl (0, 20))], [(0, 7, 8), (2, 0, 6), (20, 0, 6), (22, 0, 20)]), (none, [(22, (0, [(3, 1)]))]), ([(64, 64, 2, 2)], [(339, 339, 30, 30)])),
  (([some (.inl (6, 6)), some (.inl (2, 2)), some (.inl (21, 2147483647))], [(0, 7, 8), (2, 0, 6), (20, 0, 6), (22, 0, 20)]), (none, []), ([(323, 323, 1, 1)], [(341, 341, 1, 1)])),
  (([some (.inl (6, 6)), some (.inl (3, 2147483647)), some (.inl (-2147483648, 2147483647))], [(0, 7, 8), (2, 0, 6), (20, 0, 6)]), (none, []), ([(323, 323, 1, 1)], [(341, 341, 1, 1)])),
  (([some (.inl (7, 7)), some (.inl (-2147483648, 2147483647)), some (.inl (-2147483648, 2147483647))], [(0, 0, 7), (2, 0, 6), (23, 0, 6)]), (none, []), ([(323, 323, 1, 1)], [(341, 341, 1, 1)])),
  (([some (.inl (7, 7)), some (.inl (-2147483648, -1)), some (.inl (-2147483648, 2147483647))], [(0, 8, 8), (2, 0, 6), (23, 0, 6)]), (none, []), ([(323, 323, 1, 1)], [(341, 341, 1, 1)])),
  (([some (.inl (7, 7)), some (.inl (0, 0)), some (.inl (-2147483648, -1))], [(0, 8, 8), (2, 0, 6), (23, 0, 6)]), (none, []), ([(323, 323, 1, 1)], [(341, 341, 1, 1)])),
  (([some (.inl (7, 7)), some (.inl (0, 0)), some (.inl (0, 6))], [(0, 8, 8), (2, 0, 6), (23, 0, 6)]), (none, [(23, (0, [(3, 1)]))]), ([(65, 65, 0, 0)], [(339, 339, 31, 31)])),
  (([some (.inl (7, 7)), some (.inl (0, 0)), some (.inl (7, 2147483647))], [(0, 8, 8), (2, 0, 6), (23, 0, 6)]), (none, []), ([(323, 323, 1, 1)], [(341, 341, 1, 1)])),
  (([some (.inl (7, 7)), some (.inl (1, 1)), some (.inl (-2147483648, -1))], [(0, 8, 8), (2, 0, 6), (23, 0, 6), (24, 0, 9)]), (none, []), ([(323, 323, 1, 1)], [(341, 341, 1, 1)])),
  (([some (.inl (7, 7)), some (.inl (1, 1)), some (.inl (0, 9))], [(0, 8, 8), (2, 0, 6), (23, 0, 6), (24, 0, 9)]), (none, [(24, (0, [(3, 1)]))]), ([(65, 65, 1, 1)], [(339, 339, 32, 32)])),
  (([some (.inl (7, 7)), some (.inl (1, 1)), some (.inl (10, 2147483647))], [(0, 8, 8), (2, 0, 6), (23, 0, 6), (24, 0, 9)]), (none, []), ([(323, 323, 1, 1)], [(341, 341, 1, 1)])),
  (([some (.inl (7, 7)), some (.inl (2, 2)), some (.inl (-2147483648, -1))], [(0, 8, 8), (2, 0, 6), (23, 0, 6), (25, 0, 20)]), (none, []), ([(323, 323, 1, 1)], [(341, 341, 1, 1)])),
  (([some (.inl (7, 7)), some (.inl (2, 2)), some (.inl (0, 20))], [(0, 8, 8), (2, 0, 6), (23, 0, 6), (25, 0, 20)]), (none, [(25, (0, [(3, 1)]))]), ([(65, 65, 2, 2)], [(339, 339, 33, 33)])),
  (([some (.inl (7, 7)), some (.inl (2, 2)), some (.inl (21, 2147483647))], [(0, 8, 8), (2, 0, 6), (23, 0, 6), (25, 0, 20)]), (none, []), ([(323, 323, 1, 1)], [(341, 341, 1, 1)])),
  (([some (.inl (7, 7)), some (.inl (3, 2147483647)), some (.inl (-2147483648, 2147483647))], [(0, 8, 8), (2, 0, 6), (23, 0, 6)]), (none, []), ([(323, 323, 1, 1)], [(341, 341, 1, 1)])),
  (([some (.inl (8, 2147483647)), some (.inl (-2147483648, 2147483647)), some (.inl (-2147483648, 2147483647))], [(2, 0, 6)]), (none, []), ([(323, 323, 1, 1)], [(341, 341, 1, 1)]))]
theorem lx9_3 : lc9_3.all (fun q => bchq bzf bIx bmp0 bmp0 bjn bgm blp0 bsp0 bdg0 bdg0 [bkx1] [] 275 (lck (lpx bRP) 83 0 q.2.2.1 q) (lkk (lpx bRP) q)) = true := by decide +kernel
theorem gx9_3 : ∀ q ∈ lc9_3, bcoq bZ bIx bTr (lck (lpx bRP) 83 0 q.2.2.1 q) (lkk (lpx bRP) q) := fun q hq => bchq_ok bZ_len bzf_ok bTr_ok (List.forall_mem_cons.mpr ⟨bcx1, fun _ h => absurd h List.not_mem_nil⟩) (fun _ h => absurd h List.not_mem_nil) (List.all_eq_true.mp lx9_3 q hq)
theorem lm9_3 : lc9_3.all (fun q => bchq bzf bIm bmp0 bmp0 bjn bgm blp0 bsp0 bdg0 bdg0 [bkm2] [] 275 (lck (lpm bRP) 171 338 q.2.2.2 q) (lkk (lpm bRP) q)) = true := by decide +kernel
theorem gm9_3 : ∀ q ∈ lc9_3, bcoq bZ bIm bTr (lck (lpm bRP) 171 338 q.2.2.2 q) (lkk (lpm bRP) q) := fun q hq => bchq_ok bZ_len bzf_ok bTr_ok (List.forall_mem_cons.mpr ⟨bcm2, fun _ h => absurd h List.not_mem_nil⟩) (fun _ h => absurd h List.not_mem_nil) (List.all_eq_true.mp lm9_3 q hq)
def lc9 : List lCs := lc9_0 ++ (lc9_1 ++ (lc9_2 ++ (lc9_3)))
theorem lcq9 : lc9.all (lwC1 bRP false (lwI 3)) = true := by decide +kernel
theorem lcv9 : bcv 400 (lc9.map lcc) (lbx bRP (lwI 3) [0, 2, 3, 4, 5, 6, 7, 8, 9, 10, 11, 12, 13, 14, 15, 16, 17, 18, 19, 20, 21, 22, 23, 24, 25]) = true := by decide +kernel
theorem lwp9 : lwPr bRP false 83 171 (lwI 3) := lwPr_cs (f_ := 400) (cs := lc9) (ix := [0, 2, 3, 4, 5, 6, 7, 8, 9, 10, 11, 12, 13, 14, 15, 16, 17, 18, 19, 20, 21, 22, 23, 24, 25]) (Xm := bTr) (List.forall_mem_append.mpr ⟨gx9_0, List.forall_mem_append.mpr ⟨gx9_1, List.forall_mem_append.mpr ⟨gx9_2, gx9_3⟩⟩⟩) (List.forall_mem_append.mpr ⟨gm9_0, List.forall_mem_append.mpr ⟨gm9_1, List.forall_mem_append.mpr ⟨gm9_2, gm9_3⟩⟩⟩) (fun _ _ => trivial) (lwFr_s lsx9) (lwFr_s lsm9) bRP_ok lcq9 (by decide) (by decide) lcv9
