-- ===== pairs of calls
-- as: 16 cases, 1367 and 1055 steps
def lc8_23 : List lCs := [(([some (.inl (6, 6)), some (.inl (5, 5))], [(0, 7, 8), (20, 1, 1), (22, 0, 20)]), (some (-1000005, []), []), ([(323, 323, 5, 5)], [(341, 341, 5, 5)])),
  (([some (.inl (6, 6)), some (.inl (5, 5))], [(0, 7, 8), (20, 2, 2), (22, 0, 20)]), (some (-1000005, []), []), ([(323, 323, 5, 5)], [(341, 341, 5, 5)])),
  (([some (.inl (6, 6)), some (.inl (5, 5))], [(0, 7, 8), (20, 3, 3), (22, 0, 20)]), (some (-1000005, []), []), ([(323, 323, 5, 5)], [(341, 341, 5, 5)])),
  (([some (.inl (6, 6)), some (.inl (5, 5))], [(0, 7, 8), (20, 4, 4), (22, 0, 20)]), (some (-1000005, []), []), ([(323, 323, 5, 5)], [(341, 341, 5, 5)])),
  (([some (.inl (6, 6)), some (.inl (5, 5))], [(0, 7, 8), (20, 5, 5), (22, 0, 20)]), (some (0, [(5, 1)]), []), ([], [])),
  (([some (.inl (6, 6)), some (.inl (5, 5))], [(0, 7, 8), (20, 6, 6), (22, 0, 20)]), (some (-1000005, []), []), ([(323, 323, 5, 5)], [(341, 341, 5, 5)])),
  (([some (.inl (6, 6)), some (.inl (6, 6))], [(0, 7, 8), (20, 0, 0), (22, 0, 20)]), (some (-1000005, []), []), ([(323, 323, 5, 5)], [(341, 341, 5, 5)])),
  (([some (.inl (6, 6)), some (.inl (6, 6))], [(0, 7, 8), (20, 1, 1), (22, 0, 20)]), (some (-1000005, []), []), ([(323, 323, 5, 5)], [(341, 341, 5, 5)])),
  (([some (.inl (6, 6)), some (.inl (6, 6))], [(0, 7, 8), (20, 2, 2), (22, 0, 20)]), (some (-1000005, []), []), ([(323, 323, 5, 5)], [(341, 341, 5, 5)])),
  (([some (.inl (6, 6)), some (.inl (6, 6))], [(0, 7, 8), (20, 3, 3), (22, 0, 20)]), (some (-1000005, []), []), ([(323, 323, 5, 5)], [(341, 341, 5, 5)])),
  (([some (.inl (6, 6)), some (.inl (6, 6))], [(0, 7, 8), (20, 4, 4), (22, 0, 20)]), (some (-1000005, []), []), ([(323, 323, 5, 5)], [(341, 341, 5, 5)])),
  (([some (.inl (6, 6)), some (.inl (6, 6))], [(0, 7, 8), (20, 5, 5), (22, 0, 20)]), (some (-1000005, []), []), ([(323, 323, 5, 5)], [(341, 341, 5, 5)])),
  (([some (.inl (6, 6)), some (.inl (6, 6))], [(0, 7, 8), (20, 6, 6), (22, 0, 20)]), (some (0, [(5, 1)]), []), ([], [])),
  (([some (.inl (6, 6)), some (.inl (7, 2147483647))], [(0, 7, 8)]), (some (-1000001, []), []), ([(323, 323, 1, 1)], [(341, 341, 1, 1)])),
  (([some (.inl (7, 7)), some (.inl (-2147483648, 2147483647))], [(0, 0, 7)]), (some (-1000001, []), []), ([(323, 323, 1, 1)], [(341, 341, 1, 1)])),
  (([some (.inl (7, 7)), some (.inl (-2147483648, -1))], [(0, 8, 8)]), (some (-1000001, []), []), ([(323, 323, 1, 1)], [(341, 341, 1, 1)]))]
theorem lx8_23 : lc8_23.all (fun q => bchq bzf bIx bmp0 bmp0 bjn bgm blp0 bsp0 bdg0 bdg0 [bkx1, bkx5] [] 345 (lck (lpx bRP) 82 0 q.2.2.1 q) (lkk (lpx bRP) q)) = true := by decide +kernel
theorem gx8_23 : ∀ q ∈ lc8_23, bcoq bZ bIx bTr (lck (lpx bRP) 82 0 q.2.2.1 q) (lkk (lpx bRP) q) := fun q hq => bchq_ok bZ_len bzf_ok bTr_ok (List.forall_mem_cons.mpr ⟨bcx1, List.forall_mem_cons.mpr ⟨bcx5, fun _ h => absurd h List.not_mem_nil⟩⟩) (fun _ h => absurd h List.not_mem_nil) (List.all_eq_true.mp lx8_23 q hq)
theorem lm8_23 : lc8_23.all (fun q => bchq bzf bIm bmp0 bmp0 bjn bgm blp0 bsp0 bdg0 bdg0 [bkm2, bkm5] [] 345 (lck (lpm bRP) 170 338 q.2.2.2 q) (lkk (lpm bRP) q)) = true := by decide +kernel
theorem gm8_23 : ∀ q ∈ lc8_23, bcoq bZ bIm bTr (lck (lpm bRP) 170 338 q.2.2.2 q) (lkk (lpm bRP) q) := fun q hq => bchq_ok bZ_len bzf_ok bTr_ok (List.forall_mem_cons.mpr ⟨bcm2, List.forall_mem_cons.mpr ⟨bcm5, fun _ h => absurd h List.not_mem_nil⟩⟩) (fun _ h => absurd h List.not_mem_nil) (List.all_eq_true.mp lm8_23 q hq)
