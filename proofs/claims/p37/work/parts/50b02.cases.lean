-- ===== pairs of calls
-- sheet: 11 cases, 1232 and 1424 steps
def lc34_1 : List lCs := [(([some (.inl (0, 0)), some (.inl (32, 32)), some (.inl (0, 24))], [(0, 0, 39)]), (none, [(0, (32, [])), (1, (0, [(3, 1)]))]), ([(324, 324, 1, 2), (325, 325, 0, 23)], [(350, 350, 0, 0), (351, 351, 0, 0), (352, 352, 0, 23)])),
  (([some (.inl (0, 0)), some (.inl (32, 32)), some (.inl (25, 2147483647))], [(0, 0, 39)]), (none, []), ([(323, 323, 1, 1)], [(341, 341, 1, 1)])),
  (([some (.inl (0, 0)), some (.inl (33, 2147483647)), some (.inl (-2147483648, 2147483647))], [(0, 0, 39)]), (none, []), ([(323, 323, 1, 1)], [(341, 341, 1, 1)])),
  (([some (.inl (1, 1)), some (.inl (-2147483648, -1)), some (.inl (-2147483648, 2147483647))], [(0, 0, 39), (2, 0, 39)]), (none, []), ([(323, 323, 1, 1)], [(341, 341, 1, 1)])),
  (([some (.inl (1, 1)), some (.inl (0, 0)), some (.inl (-2147483648, 2147483647))], [(0, 0, 39), (2, 0, 39)]), (none, [(2, (0, [])), (3, (0, []))]), ([(326, 326, 1, 2), (327, 327, 0, 23)], [(350, 350, 1, 1), (351, 351, 1, 1), (352, 352, 24, 47)])),
  (([some (.inl (1, 1)), some (.inl (1, 7)), some (.inl (-2147483648, 2147483647))], [(0, 0, 39), (2, 0, 39)]), (none, []), ([(323, 323, 1, 1)], [(341, 341, 1, 1)])),
  (([some (.inl (1, 1)), some (.inl (8, 8)), some (.inl (-2147483648, -1))], [(0, 0, 39), (2, 0, 39)]), (none, []), ([(323, 323, 3, 3)], [(341, 341, 3, 3)])),
  (([some (.inl (1, 1)), some (.inl (8, 8)), some (.inl (0, 24))], [(0, 0, 39), (2, 0, 39)]), (none, [(2, (8, [])), (3, (0, [(3, 1)]))]), ([(326, 326, 1, 2), (327, 327, 0, 23)], [(350, 350, 1, 1), (351, 351, 1, 1), (352, 352, 24, 47)])),
  (([some (.inl (1, 1)), some (.inl (8, 8)), some (.inl (25, 2147483647))], [(0, 0, 39), (2, 0, 39)]), (none, []), ([(323, 323, 1, 1)], [(341, 341, 1, 1)])),
  (([some (.inl (1, 1)), some (.inl (9, 15)), some (.inl (-2147483648, 2147483647))], [(0, 0, 39), (2, 0, 39)]), (none, []), ([(323, 323, 1, 1)], [(341, 341, 1, 1)])),
  (([some (.inl (1, 1)), some (.inl (16, 16)), some (.inl (-2147483648, -1))], [(0, 0, 39), (2, 0, 39)]), (none, []), ([(323, 323, 3, 3)], [(341, 341, 3, 3)]))]
theorem lx34_1 : lc34_1.all (fun q => bchq bzf bIx bmp0 bmp0 bjn bgm blp0 bsp0 bdg0 bdg0 [bkx1, bkx80] [] 955 (lck (lpx bRP) 108 0 q.2.2.1 q) (lkk (lpx bRP) q)) = true := by decide +kernel
theorem gx34_1 : ∀ q ∈ lc34_1, bcoq bZ bIx bTr (lck (lpx bRP) 108 0 q.2.2.1 q) (lkk (lpx bRP) q) := fun q hq => bchq_ok bZ_len bzf_ok bTr_ok (List.forall_mem_cons.mpr ⟨bcx1, List.forall_mem_cons.mpr ⟨bcx80, fun _ h => absurd h List.not_mem_nil⟩⟩) (fun _ h => absurd h List.not_mem_nil) (List.all_eq_true.mp lx34_1 q hq)
theorem lm34_1 : lc34_1.all (fun q => bchq bzf bIm bmp0 bmp0 bjn bgm blp0 bsp0 bdg0 bdg0 [bkm2, bkm14] [] 955 (lck (lpm bRP) 228 338 q.2.2.2 q) (lkk (lpm bRP) q)) = true := by decide +kernel
theorem gm34_1 : ∀ q ∈ lc34_1, bcoq bZ bIm bTr (lck (lpm bRP) 228 338 q.2.2.2 q) (lkk (lpm bRP) q) := fun q hq => bchq_ok bZ_len bzf_ok bTr_ok (List.forall_mem_cons.mpr ⟨bcm2, List.forall_mem_cons.mpr ⟨bcm14, fun _ h => absurd h List.not_mem_nil⟩⟩) (fun _ h => absurd h List.not_mem_nil) (List.all_eq_true.mp lm34_1 q hq)
