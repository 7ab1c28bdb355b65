-- ===== pairs of calls
-- as: 14 cases, 1433 and 1019 steps
def lc8_16 : List lCs := [(([some (.inl (4, 4)), some (.inl (4, 4))], [(0, 5, 8), (14, 6, 6), (16, 0, 20)]), (some (-1000005, []), []), ([(323, 323, 5, 5)], [(341, 341, 5, 5)])),
  (([some (.inl (4, 4)), some (.inl (5, 5))], [(0, 5, 8), (14, 0, 0), (16, 0, 20)]), (some (-1000005, []), []), ([(323, 323, 5, 5)], [(341, 341, 5, 5)])),
  (([some (.inl (4, 4)), some (.inl (5, 5))], [(0, 5, 8), (14, 1, 1), (16, 0, 20)]), (some (-1000005, []), []), ([(323, 323, 5, 5)], [(341, 341, 5, 5)])),
  (([some (.inl (4, 4)), some (.inl (5, 5))], [(0, 5, 8), (14, 2, 2), (16, 0, 20)]), (some (-1000005, []), []), ([(323, 323, 5, 5)], [(341, 341, 5, 5)])),
  (([some (.inl (4, 4)), some (.inl (5, 5))], [(0, 5, 8), (14, 3, 3), (16, 0, 20)]), (some (-1000005, []), []), ([(323, 323, 5, 5)], [(341, 341, 5, 5)])),
  (([some (.inl (4, 4)), some (.inl (5, 5))], [(0, 5, 8), (14, 4, 4), (16, 0, 20)]), (some (-1000005, []), []), ([(323, 323, 5, 5)], [(341, 341, 5, 5)])),
  (([some (.inl (4, 4)), some (.inl (5, 5))], [(0, 5, 8), (14, 5, 5), (16, 0, 20)]), (some (0, [(5, 1)]), []), ([], [])),
  (([some (.inl (4, 4)), some (.inl (5, 5))], [(0, 5, 8), (14, 6, 6), (16, 0, 20)]), (some (-1000005, []), []), ([(323, 323, 5, 5)], [(341, 341, 5, 5)])),
  (([some (.inl (4, 4)), some (.inl (6, 6))], [(0, 5, 8), (14, 0, 0), (16, 0, 20)]), (some (-1000005, []), []), ([(323, 323, 5, 5)], [(341, 341, 5, 5)])),
  (([some (.inl (4, 4)), some (.inl (6, 6))], [(0, 5, 8), (14, 1, 1), (16, 0, 20)]), (some (-1000005, []), []), ([(323, 323, 5, 5)], [(341, 341, 5, 5)])),
  (([some (.inl (4, 4)), some (.inl (6, 6))], [(0, 5, 8), (14, 2, 2), (16, 0, 20)]), (some (-1000005, []), []), ([(323, 323, 5, 5)], [(341, 341, 5, 5)])),
  (([some (.inl (4, 4)), some (.inl (6, 6))], [(0, 5, 8), (14, 3, 3), (16, 0, 20)]), (some (-1000005, []), []), ([(323, 323, 5, 5)], [(341, 341, 5, 5)])),
  (([some (.inl (4, 4)), some (.inl (6, 6))], [(0, 5, 8), (14, 4, 4), (16, 0, 20)]), (some (-1000005, []), []), ([(323, 323, 5, 5)], [(341, 341, 5, 5)])),
  (([some (.inl (4, 4)), some (.inl (6, 6))], [(0, 5, 8), (14, 5, 5), (16, 0, 20)]), (some (-1000005, []), []), ([(323, 323, 5, 5)], [(341, 341, 5, 5)]))]
theorem lx8_16 : lc8_16.all (fun q => bchq bzf bIx bmp0 bmp0 bjn bgm blp0 bsp0 bdg0 bdg0 [bkx1, bkx5] [] 345 (lck (lpx bRP) 82 0 q.2.2.1 q) (lkk (lpx bRP) q)) = true := by decide +kernel
theorem gx8_16 : ∀ q ∈ lc8_16, bcoq bZ bIx bTr (lck (lpx bRP) 82 0 q.2.2.1 q) (lkk (lpx bRP) q) := fun q hq => bchq_ok bZ_len bzf_ok bTr_ok (List.forall_mem_cons.mpr ⟨bcx1, List.forall_mem_cons.mpr ⟨bcx5, fun _ h => absurd h List.not_mem_nil⟩⟩) (fun _ h => absurd h List.not_mem_nil) (List.all_eq_true.mp lx8_16 q hq)
theorem lm8_16 : lc8_16.all (fun q => bchq bzf bIm bmp0 bmp0 bjn bgm blp0 bsp0 bdg0 bdg0 [bkm2, bkm5] [] 345 (lck (lpm bRP) 170 338 q.2.2.2 q) (lkk (lpm bRP) q)) = true := by decide +kernel
theorem gm8_16 : ∀ q ∈ lc8_16, bcoq bZ bIm bTr (lck (lpm bRP) 170 338 q.2.2.2 q) (lkk (lpm bRP) q) := fun q hq => bchq_ok bZ_len bzf_ok bTr_ok (List.forall_mem_cons.mpr ⟨bcm2, List.forall_mem_cons.mpr ⟨bcm5, fun _ h => absurd h List.not_mem_nil⟩⟩) (fun _ h => absurd h List.not_mem_nil) (List.all_eq_true.mp lm8_16 q hq)
