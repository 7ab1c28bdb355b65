-- ===== pairs of calls
-- sheet: 4 cases, 419 and 485 steps
def lc34_5 : List lCs := [(([some (.inl (3, 3)), some (.inl (32, 32)), some (.inl (0, 24))], [(0, 0, 39), (6, 0, 39)]), (none, [(6, (32, [])), (7, (0, [(3, 1)]))]), ([(330, 330, 1, 2), (331, 331, 0, 23)], [(350, 350, 3, 3), (351, 351, 3, 3), (352, 352, 72, 95)])),
  (([some (.inl (3, 3)), some (.inl (32, 32)), some (.inl (25, 2147483647))], [(0, 0, 39), (6, 0, 39)]), (none, []), ([(323, 323, 1, 1)], [(341, 341, 1, 1)])),
  (([some (.inl (3, 3)), some (.inl (33, 2147483647)), some (.inl (-2147483648, 2147483647))], [(0, 0, 39), (6, 0, 39)]), (none, []), ([(323, 323, 1, 1)], [(341, 341, 1, 1)])),
  (([some (.inl (4, 2147483647)), some (.inl (-2147483648, 2147483647)), some (.inl (-2147483648, 2147483647))], [(0, 0, 39)]), (none, []), ([(323, 323, 1, 1)], [(341, 341, 1, 1)]))]
theorem lx34_5 : lc34_5.all (fun q => bchq bzf bIx bmp0 bmp0 bjn bgm blp0 bsp0 bdg0 bdg0 [bkx1, bkx80] [] 955 (lck (lpx bRP) 108 0 q.2.2.1 q) (lkk (lpx bRP) q)) = true := by decide +kernel
theorem gx34_5 : ∀ q ∈ lc34_5, bcoq bZ bIx bTr (lck (lpx bRP) 108 0 q.2.2.1 q) (lkk (lpx bRP) q) := fun q hq => bchq_ok bZ_len bzf_ok bTr_ok (List.forall_mem_cons.mpr ⟨bcx1, List.forall_mem_cons.mpr ⟨bcx80, fun _ h => absurd h List.not_mem_nil⟩⟩) (fun _ h => absurd h List.not_mem_nil) (List.all_eq_true.mp lx34_5 q hq)
theorem lm34_5 : lc34_5.all (fun q => bchq bzf bIm bmp0 bmp0 bjn bgm blp0 bsp0 bdg0 bdg0 [bkm2, bkm14] [] 955 (lck (lpm bRP) 228 338 q.2.2.2 q) (lkk (lpm bRP) q)) = true := by decide +kernel
theorem gm34_5 : ∀ q ∈ lc34_5, bcoq bZ bIm bTr (lck (lpm bRP) 228 338 q.2.2.2 q) (lkk (lpm bRP) q) := fun q hq => bchq_ok bZ_len bzf_ok bTr_ok (List.forall_mem_cons.mpr ⟨bcm2, List.forall_mem_cons.mpr ⟨bcm14, fun _ h => absurd h List.not_mem_nil⟩⟩) (fun _ h => absurd h List.not_mem_nil) (List.all_eq_true.mp lm34_5 q hq)
def lc34 : List lCs := lc34_0 ++ (lc34_1 ++ (lc34_2 ++ (lc34_3 ++ (lc34_4 ++ (lc34_5)))))
theorem lcq34 : lc34.all (lwC1 bRP false (lwI 3)) = true := by decide +kernel
theorem lcv34 : bcv 400 (lc34.map lcc) (lbx bRP (lwI 3) [0, 2, 4, 6]) = true := by decide +kernel
theorem lwp34 : lwPr bRP false 108 228 (lwI 3) := lwPr_cs (f_ := 400) (cs := lc34) (ix := [0, 2, 4, 6]) (Xm := bTr) (List.forall_mem_append.mpr ⟨gx34_0, List.forall_mem_append.mpr ⟨gx34_1, List.forall_mem_append.mpr ⟨gx34_2, List.forall_mem_append.mpr ⟨gx34_3, List.forall_mem_append.mpr ⟨gx34_4, gx34_5⟩⟩⟩⟩⟩) (List.forall_mem_append.mpr ⟨gm34_0, List.forall_mem_append.mpr ⟨gm34_1, List.forall_mem_append.mpr ⟨gm34_2, List.forall_mem_append.mpr ⟨gm34_3, List.forall_mem_append.mpr ⟨gm34_4, gm34_5⟩⟩⟩⟩⟩) (fun _ _ => trivial) (lwFr_s lsx34) (lwFr_s lsm34) bRP_ok lcq34 (by decide) (by decide) lcv34
