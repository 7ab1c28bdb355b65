-- ===== pairs of calls
-- as: 18 cases, 1424 and 1264 steps
def lc8_0 : List lCs := [(([some (.inl (-2147483648, -1)), some (.inl (-2147483648, 2147483647))], []), (some (-1000001, []), []), ([(323, 323, 1, 1)], [(341, 341, 1, 1)])),
  (([some (.inl (0, 0)), some (.inl (-2147483648, 2147483647))], [(0, 0, 0)]), (some (-1000001, []), []), ([(323, 323, 1, 1)], [(341, 341, 1, 1)])),
  (([some (.inl (0, 0)), some (.inl (-2147483648, -1))], [(0, 1, 8)]), (some (-1000001, []), []), ([(323, 323, 1, 1)], [(341, 341, 1, 1)])),
  (([some (.inl (0, 0)), some (.inl (0, 0))], [(0, 1, 8), (2, 0, 0), (4, 0, 20)]), (some (0, [(5, 1)]), []), ([], [])),
  (([some (.inl (0, 0)), some (.inl (0, 0))], [(0, 1, 8), (2, 1, 1), (4, 0, 20)]), (some (0, [(5, 1)]), []), ([], [])),
  (([some (.inl (0, 0)), some (.inl (0, 0))], [(0, 1, 8), (2, 2, 2), (4, 0, 20)]), (some (0, [(5, 1)]), []), ([], [])),
  (([some (.inl (0, 0)), some (.inl (0, 0))], [(0, 1, 8), (2, 3, 3), (4, 0, 20)]), (some (0, [(5, 1)]), []), ([], [])),
  (([some (.inl (0, 0)), some (.inl (0, 0))], [(0, 1, 8), (2, 4, 4), (4, 0, 20)]), (some (0, [(5, 1)]), []), ([], [])),
  (([some (.inl (0, 0)), some (.inl (0, 0))], [(0, 1, 8), (2, 5, 5), (4, 0, 20)]), (some (0, [(5, 1)]), []), ([], [])),
  (([some (.inl (0, 0)), some (.inl (0, 0))], [(0, 1, 8), (2, 6, 6), (4, 0, 20)]), (some (0, [(5, 1)]), []), ([], [])),
  (([some (.inl (0, 0)), some (.inl (1, 1))], [(0, 1, 8), (2, 0, 0), (4, 0, 20)]), (some (-1000005, []), []), ([(323, 323, 5, 5)], [(341, 341, 5, 5)])),
  (([some (.inl (0, 0)), some (.inl (1, 1))], [(0, 1, 8), (2, 1, 1), (4, 0, 20)]), (some (0, [(5, 1)]), []), ([], [])),
  (([some (.inl (0, 0)), some (.inl (1, 1))], [(0, 1, 8), (2, 2, 2), (4, 0, 20)]), (some (0, [(5, 1)]), []), ([], [])),
  (([some (.inl (0, 0)), some (.inl (1, 1))], [(0, 1, 8), (2, 3, 3), (4, 0, 20)]), (some (-1000005, []), []), ([(323, 323, 5, 5)], [(341, 341, 5, 5)])),
  (([some (.inl (0, 0)), some (.inl (1, 1))], [(0, 1, 8), (2, 4, 4), (4, 0, 20)]), (some (-1000005, []), []), ([(323, 323, 5, 5)], [(341, 341, 5, 5)])),
  (([some (.inl (0, 0)), some (.inl (1, 1))], [(0, 1, 8), (2, 5, 5), (4, 0, 20)]), (some (-1000005, []), []), ([(323, 323, 5, 5)], [(341, 341, 5, 5)])),
  (([some (.inl (0, 0)), some (.inl (1, 1))], [(0, 1, 8), (2, 6, 6), (4, 0, 20)]), (some (0, [(5, 1)]), []), ([], [])),
  (([some (.inl (0, 0)), some (.inl (2, 2))], [(0, 1, 8), (2, 0, 0), (4, 0, 20)]), (some (-1000005, []), []), ([(323, 323, 5, 5)], [(341, 341, 5, 5)]))]
theorem lx8_0 : lc8_0.all (fun q => bchq bzf bIx bmp0 bmp0 bjn bgm blp0 bsp0 bdg0 bdg0 [bkx1, bkx5] [] 345 (lck (lpx bRP) 82 0 q.2.2.1 q) (lkk (lpx bRP) q)) = true := by decide +kernel
theorem gx8_0 : ∀ q ∈ lc8_0, bcoq bZ bIx bTr (lck (lpx bRP) 82 0 q.2.2.1 q) (lkk (lpx bRP) q) := fun q hq => bchq_ok bZ_len bzf_ok bTr_ok (List.forall_mem_cons.mpr ⟨bcx1, List.forall_mem_cons.mpr ⟨bcx5, fun _ h => absurd h List.not_mem_nil⟩⟩) (fun _ h => absurd h List.not_mem_nil) (List.all_eq_true.mp lx8_0 q hq)
theorem lm8_0 : lc8_0.all (fun q => bchq bzf bIm bmp0 bmp0 bjn bgm blp0 bsp0 bdg0 bdg0 [bkm2, bkm5] [] 345 (lck (lpm bRP) 170 338 q.2.2.2 q) (lkk (lpm bRP) q)) = true := by decide +kernel
theorem gm8_0 : ∀ q ∈ lc8_0, bcoq bZ bIm bTr (lck (lpm bRP) 170 338 q.2.2.2 q) (lkk (lpm bRP) q) := fun q hq => bchq_ok bZ_len bzf_ok bTr_ok (List.forall_mem_cons.mpr ⟨bcm2, List.forall_mem_cons.mpr ⟨bcm5, fun _ h => absurd h List.not_mem_nil⟩⟩) (fun _ h => absurd h List.not_mem_nil) (List.all_eq_true.mp lm8_0 q hq)
