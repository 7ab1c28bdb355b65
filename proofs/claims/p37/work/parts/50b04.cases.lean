-- ===== pairs of calls
-- sheet: 12 cases, 1280 and 1478 steps
def lc34_3 : List lCs := [(([some (.inl (2, 2)), some (.inl (8, 8)), some (.inl (0, 24))], [(0, 0, 39), (4, 0, 39)]), (none, [(4, (8, [])), (5, (0, [(3, 1)]))]), ([(328, 328, 1, 2), (329, 329, 0, 23)], [(350, 350, 2, 2), (351, 351, 2, 2), (352, 352, 48, 71)])),
  (([some (.inl (2, 2)), some (.inl (8, 8)), some (.inl (25, 2147483647))], [(0, 0, 39), (4, 0, 39)]), (none, []), ([(323, 323, 1, 1)], [(341, 341, 1, 1)])),
  (([some (.inl (2, 2)), some (.inl (9, 15)), some (.inl (-2147483648, 2147483647))], [(0, 0, 39), (4, 0, 39)]), (none, []), ([(323, 323, 1, 1)], [(341, 341, 1, 1)])),
  (([some (.inl (2, 2)), some (.inl (16, 16)), some (.inl (-2147483648, -1))], [(0, 0, 39), (4, 0, 39)]), (none, []), ([(323, 323, 3, 3)], [(341, 341, 3, 3)])),
  (([some (.inl (2, 2)), some (.inl (16, 16)), some (.inl (0, 24))], [(0, 0, 39), (4, 0, 39)]), (none, [(4, (16, [])), (5, (0, [(3, 1)]))]), ([(328, 328, 1, 2), (329, 329, 0, 23)], [(350, 350, 2, 2), (351, 351, 2, 2), (352, 352, 48, 71)])),
  (([some (.inl (2, 2)), some (.inl (16, 16)), some (.inl (25, 2147483647))], [(0, 0, 39), (4, 0, 39)]), (none, []), ([(323, 323, 1, 1)], [(341, 341, 1, 1)])),
  (([some (.inl (2, 2)), some (.inl (17, 31)), some (.inl (-2147483648, 2147483647))], [(0, 0, 39), (4, 0, 39)]), (none, []), ([(323, 323, 1, 1)], [(341, 341, 1, 1)])),
  (([some (.inl (2, 2)), some (.inl (32, 32)), some (.inl (-2147483648, -1))], [(0, 0, 39), (4, 0, 39)]), (none, []), ([(323, 323, 3, 3)], [(341, 341, 3, 3)])),
  (([some (.inl (2, 2)), some (.inl (32, 32)), some (.inl (0, 24))], [(0, 0, 39), (4, 0, 39)]), (none, [(4, (32, [])), (5, (0, [(3, 1)]))]), ([(328, 328, 1, 2), (329, 329, 0, 23)], [(350, 350, 2, 2), (351, 351, 2, 2), (352, 352, 48, 71)])),
  (([some (.inl (2, 2)), some (.inl (32, 32)), some (.inl (25, 2147483647))], [(0, 0, 39), (4, 0, 39)]), (none, []), ([(323, 323, 1, 1)], [(341, 341, 1, 1)])),
  (([some (.inl (2, 2)), some (.inl (33, 2147483647)), some (.inl (-2147483648, 2147483647))], [(0, 0, 39), (4, 0, 39)]), (none, []), ([(323, 323, 1, 1)], [(341, 341, 1, 1)])),
  (([some (.inl (3, 3)), some (.inl (-2147483648, -1)), some (.inl (-2147483648, 2147483647))], [(0, 0, 39), (6, 0, 39)]), (none, []), ([(323, 323, 1, 1)], [(341, 341, 1, 1)]))]
theorem lx34_3 : lc34_3.all (fun q => bchq bzf bIx bmp0 bmp0 bjn bgm blp0 bsp0 bdg0 bdg0 [bkx1, bkx80] [] 955 (lck (lpx bRP) 108 0 q.2.2.1 q) (lkk (lpx bRP) q)) = true := by decide +kernel
theorem gx34_3 : ∀ q ∈ lc34_3, bcoq bZ bIx bTr (lck (lpx bRP) 108 0 q.2.2.1 q) (lkk (lpx bRP) q) := fun q hq => bchq_ok bZ_len bzf_ok bTr_ok (List.forall_mem_cons.mpr ⟨bcx1, List.forall_mem_cons.mpr ⟨bcx80, fun _ h => absurd h List.not_mem_nil⟩⟩) (fun _ h => absurd h List.not_mem_nil) (List.all_eq_true.mp lx34_3 q hq)
theorem lm34_3 : lc34_3.all (fun q => bchq bzf bIm bmp0 bmp0 bjn bgm blp0 bsp0 bdg0 bdg0 [bkm2, bkm14] [] 955 (lck (lpm bRP) 228 338 q.2.2.2 q) (lkk (lpm bRP) q)) = true := by decide +kernel
theorem gm34_3 : ∀ q ∈ lc34_3, bcoq bZ bIm bTr (lck (lpm bRP) 228 338 q.2.2.2 q) (lkk (lpm bRP) q) := fun q hq => bchq_ok bZ_len bzf_ok bTr_ok (List.forall_mem_cons.mpr ⟨bcm2, List.forall_mem_cons.mpr ⟨bcm14, fun _ h => absurd h List.not_mem_nil⟩⟩) (fun _ h => absurd h List.not_mem_nil) (List.all_eq_true.mp lm34_3 q hq)
