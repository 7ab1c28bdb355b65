-- ===== pairs of calls
-- sheet: 17 cases, 478 and 656 steps
def lc34_0 : List lCs := [(([some (.inl (-2147483648, -1)), some (.inl (-2147483648, 2147483647)), some (.inl (-2147483648, 2147483647))], []), (some (-1000001, []), []), ([(323, 323, 1, 1)], [(341, 341, 1, 1)])),
  (([some (.inl (0, 3)), some (.inl (-2147483648, -1)), some (.inl (-2147483648, 2147483647))], []), (some (-1000001, []), []), ([(323, 323, 1, 1)], [(341, 341, 1, 1)])),
  (([some (.inl (0, 3)), some (.inl (0, 0)), some (.inl (-2147483648, 2147483647))], []), (some (1, []), []), ([(324, 324, 1, 2), (325, 325, 0, 23), (326, 326, 1, 2), (327, 327, 0, 23), (328, 328, 1, 2), (329, 329, 0, 23), (330, 330, 1, 2), (331, 331, 0, 23)], [(350, 350, 0, 3), (351, 351, 0, 3), (352, 352, 0, 95)])),
  (([some (.inl (0, 3)), some (.inl (1, 7)), some (.inl (-2147483648, 2147483647))], []), (some (-1000001, []), []), ([(323, 323, 1, 1)], [(341, 341, 1, 1)])),
  (([some (.inl (0, 3)), some (.inl (8, 8)), some (.inl (-2147483648, -1))], []), (some (-1000003, []), []), ([(323, 323, 3, 3)], [(341, 341, 3, 3)])),
  (([some (.inl (0, 3)), some (.inl (8, 8)), some (.inl (0, 24))], []), (some (1, []), []), ([(324, 324, 1, 2), (325, 325, 0, 23), (326, 326, 1, 2), (327, 327, 0, 23), (328, 328, 1, 2), (329, 329, 0, 23), (330, 330, 1, 2), (331, 331, 0, 23)], [(350, 350, 0, 3), (351, 351, 0, 3), (352, 352, 0, 95)])),
  (([some (.inl (0, 3)), some (.inl (8, 8)), some (.inl (25, 2147483647))], []), (some (-1000001, []), []), ([(323, 323, 1, 1)], [(341, 341, 1, 1)])),
  (([some (.inl (0, 3)), some (.inl (9, 15)), some (.inl (-2147483648, 2147483647))], []), (some (-1000001, []), []), ([(323, 323, 1, 1)], [(341, 341, 1, 1)])),
  (([some (.inl (0, 3)), some (.inl (16, 16)), some (.inl (-2147483648, -1))], []), (some (-1000003, []), []), ([(323, 323, 3, 3)], [(341, 341, 3, 3)])),
  (([some (.inl (0, 3)), some (.inl (16, 16)), some (.inl (0, 24))], []), (some (1, []), []), ([(324, 324, 1, 2), (325, 325, 0, 23), (326, 326, 1, 2), (327, 327, 0, 23), (328, 328, 1, 2), (329, 329, 0, 23), (330, 330, 1, 2), (331, 331, 0, 23)], [(350, 350, 0, 3), (351, 351, 0, 3), (352, 352, 0, 95)])),
  (([some (.inl (0, 3)), some (.inl (16, 16)), some (.inl (25, 2147483647))], []), (some (-1000001, []), []), ([(323, 323, 1, 1)], [(341, 341, 1, 1)])),
  (([some (.inl (0, 3)), some (.inl (17, 31)), some (.inl (-2147483648, 2147483647))], []), (some (-1000001, []), []), ([(323, 323, 1, 1)], [(341, 341, 1, 1)])),
  (([some (.inl (0, 3)), some (.inl (32, 32)), some (.inl (-2147483648, -1))], []), (some (-1000003, []), []), ([(323, 323, 3, 3)], [(341, 341, 3, 3)])),
  (([some (.inl (0, 3)), some (.inl (32, 32)), some (.inl (0, 24))], []), (some (1, []), []), ([(324, 324, 1, 2), (325, 325, 0, 23), (326, 326, 1, 2), (327, 327, 0, 23), (328, 328, 1, 2), (329, 329, 0, 23), (330, 330, 1, 2), (331, 331, 0, 23)], [(350, 350, 0, 3), (351, 351, 0, 3), (352, 352, 0, 95)])),
  (([some (.inl (0, 3)), some (.inl (32, 32)), some (.inl (25, 2147483647))], []), (some (-1000001, []), []), ([(323, 323, 1, 1)], [(341, 341, 1, 1)])),
  (([some (.inl (0, 3)), some (.inl (33, 2147483647)), some (.inl (-2147483648, 2147483647))], []), (some (-1000001, []), []), ([(323, 323, 1, 1)], [(341, 341, 1, 1)])),
  (([some (.inl (4, 2147483647)), some (.inl (-2147483648, 2147483647)), some (.inl (-2147483648, 2147483647))], []), (some (-1000001, []), []), ([(323, 323, 1, 1)], [(341, 341, 1, 1)]))]
theorem lx34_0 : lc34_0.all (fun q => bchq bzf bIx bmpx bmqx bjn bgm blpx bspx bdgx bldx [bkx1, bkx80, bkx189, bkx190, bkx191, bkx192] [] 302 (lck (lpx bRP) 108 0 q.2.2.1 q) (lkk (lpx bRP) q)) = true := by decide +kernel
theorem gx34_0 : ∀ q ∈ lc34_0, bcoq bZ bIx bTr (lck (lpx bRP) 108 0 q.2.2.1 q) (lkk (lpx bRP) q) := fun q hq => bchq_ok bZ_len bzf_ok bTr_ok (List.forall_mem_cons.mpr ⟨bcx1, List.forall_mem_cons.mpr ⟨bcx80, List.forall_mem_cons.mpr ⟨bcx189, List.forall_mem_cons.mpr ⟨bcx190, List.forall_mem_cons.mpr ⟨bcx191, List.forall_mem_cons.mpr ⟨bcx192, fun _ h => absurd h List.not_mem_nil⟩⟩⟩⟩⟩⟩) (fun _ h => absurd h List.not_mem_nil) (List.all_eq_true.mp lx34_0 q hq)
theorem lm34_0 : lc34_0.all (fun q => bchq bzf bIm bmpm bmqm bjn bgm blpm bspm bdgm bldm [bkm2, bkm14] [] 302 (lck (lpm bRP) 228 338 q.2.2.2 q) (lkk (lpm bRP) q)) = true := by decide +kernel
theorem gm34_0 : ∀ q ∈ lc34_0, bcoq bZ bIm bTr (lck (lpm bRP) 228 338 q.2.2.2 q) (lkk (lpm bRP) q) := fun q hq => bchq_ok bZ_len bzf_ok bTr_ok (List.forall_mem_cons.mpr ⟨bcm2, List.forall_mem_cons.mpr ⟨bcm14, fun _ h => absurd h List.not_mem_nil⟩⟩) (fun _ h => absurd h List.not_mem_nil) (List.all_eq_true.mp lm34_0 q hq)
def lc34 : List lCs := lc34_0
theorem lcq34 : lc34.all (lwC1 bRP true (lwI 3)) = true := by decide +kernel
theorem lcv34 : bcv 400 (lc34.map lcc) (lbx bRP (lwI 3) []) = true := by decide +kernel
theorem lwp34 : lwPr bRP true 108 228 (lwI 3) := lwPr_cs (f_ := 400) (cs := lc34) (ix := []) (Xm := bTr) (gx34_0) (gm34_0) (fun _ _ => trivial) (lwFr_s lsx34) (lwFr_s lsm34) bRP_ok lcq34 (by decide) (by decide) lcv34
