-- ===== pairs of calls
-- as: 17 cases, 1340 and 1188 steps
def lc8_10 : List lCs := [(([some (.inl (2, 2)), some (.inl (6, 6))], [(0, 3, 8), (8, 4, 4), (10, 0, 20)]), (some (-1000005, []), []), ([(323, 323, 5, 5)], [(341, 341, 5, 5)])),
  (([some (.inl (2, 2)), some (.inl (6, 6))], [(0, 3, 8), (8, 5, 5), (10, 0, 20)]), (some (-1000005, []), []), ([(323, 323, 5, 5)], [(341, 341, 5, 5)])),
  (([some (.inl (2, 2)), some (.inl (6, 6))], [(0, 3, 8), (8, 6, 6), (10, 0, 20)]), (some (0, [(5, 1)]), []), ([], [])),
  (([some (.inl (2, 2)), some (.inl (7, 2147483647))], [(0, 3, 8)]), (some (-1000001, []), []), ([(323, 323, 1, 1)], [(341, 341, 1, 1)])),
  (([some (.inl (3, 3)), some (.inl (-2147483648, 2147483647))], [(0, 0, 3)]), (some (-1000001, []), []), ([(323, 323, 1, 1)], [(341, 341, 1, 1)])),
  (([some (.inl (3, 3)), some (.inl (-2147483648, -1))], [(0, 4, 8)]), (some (-1000001, []), []), ([(323, 323, 1, 1)], [(341, 341, 1, 1)])),
  (([some (.inl (3, 3)), some (.inl (0, 0))], [(0, 4, 8), (11, 0, 0), (13, 0, 20)]), (some (0, [(5, 1)]), []), ([], [])),
  (([some (.inl (3, 3)), some (.inl (0, 0))], [(0, 4, 8), (11, 1, 1), (13, 0, 20)]), (some (0, [(5, 1)]), []), ([], [])),
  (([some (.inl (3, 3)), some (.inl (0, 0))], [(0, 4, 8), (11, 2, 2), (13, 0, 20)]), (some (0, [(5, 1)]), []), ([], [])),
  (([some (.inl (3, 3)), some (.inl (0, 0))], [(0, 4, 8), (11, 3, 3), (13, 0, 20)]), (some (0, [(5, 1)]), []), ([], [])),
  (([some (.inl (3, 3)), some (.inl (0, 0))], [(0, 4, 8), (11, 4, 4), (13, 0, 20)]), (some (0, [(5, 1)]), []), ([], [])),
  (([some (.inl (3, 3)), some (.inl (0, 0))], [(0, 4, 8), (11, 5, 5), (13, 0, 20)]), (some (0, [(5, 1)]), []), ([], [])),
  (([some (.inl (3, 3)), some (.inl (0, 0))], [(0, 4, 8), (11, 6, 6), (13, 0, 20)]), (some (0, [(5, 1)]), []), ([], [])),
  (([some (.inl (3, 3)), some (.inl (1, 1))], [(0, 4, 8), (11, 0, 0), (13, 0, 20)]), (some (-1000005, []), []), ([(323, 323, 5, 5)], [(341, 341, 5, 5)])),
  (([some (.inl (3, 3)), some (.inl (1, 1))], [(0, 4, 8), (11, 1, 1), (13, 0, 20)]), (some (0, [(5, 1)]), []), ([], [])),
  (([some (.inl (3, 3)), some (.inl (1, 1))], [(0, 4, 8), (11, 2, 2), (13, 0, 20)]), (some (0, [(5, 1)]), []), ([], [])),
  (([some (.inl (3, 3)), some (.inl (1, 1))], [(0, 4, 8), (11, 3, 3), (13, 0, 20)]), (some (-1000005, []), []), ([(323, 323, 5, 5)], [(341, 341, 5, 5)]))]
theorem lx8_10 : lc8_10.all (fun q => bchq bzf bIx bmp0 bmp0 bjn bgm blp0 bsp0 bdg0 bdg0 [bkx1, bkx5] [] 345 (lck (lpx bRP) 82 0 q.2.2.1 q) (lkk (lpx bRP) q)) = true := by decide +kernel
theorem gx8_10 : ∀ q ∈ lc8_10, bcoq bZ bIx bTr (lck (lpx bRP) 82 0 q.2.2.1 q) (lkk (lpx bRP) q) := fun q hq => bchq_ok bZ_len bzf_ok bTr_ok (List.forall_mem_cons.mpr ⟨bcx1, List.forall_mem_cons.mpr ⟨bcx5, fun _ h => absurd h List.not_mem_nil⟩⟩) (fun _ h => absurd h List.not_mem_nil) (List.all_eq_true.mp lx8_10 q hq)
theorem lm8_10 : lc8_10.all (fun q => bchq bzf bIm bmp0 bmp0 bjn bgm blp0 bsp0 bdg0 bdg0 [bkm2, bkm5] [] 345 (lck (lpm bRP) 170 338 q.2.2.2 q) (lkk (lpm bRP) q)) = true := by decide +kernel
theorem gm8_10 : ∀ q ∈ lc8_10, bcoq bZ bIm bTr (lck (lpm bRP) 170 338 q.2.2.2 q) (lkk (lpm bRP) q) := fun q hq => bchq_ok bZ_len bzf_ok bTr_ok (List.forall_mem_cons.mpr ⟨bcm2, List.forall_mem_cons.mpr ⟨bcm5, fun _ h => absurd h List.not_mem_nil⟩⟩) (fun _ h => absurd h List.not_mem_nil) (List.all_eq_true.mp lm8_10 q hq)
