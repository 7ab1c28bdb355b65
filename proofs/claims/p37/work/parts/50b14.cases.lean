-- ===== pairs of calls
-- put: 13 cases, 608 and 662 steps
def lc35_7 : List lCs := [(([some (.inl (3, 3)), some (.inl (18, 18)), some (.inl (-2147483648, 2147483647))], [(6, 1, 39), (7, 19, 24)]), (some (1, []), []), ([(331, 331, 18, 18)], [(352, 352, 90, 90)])),
  (([some (.inl (3, 3)), some (.inl (19, 19)), some (.inl (-2147483648, 2147483647))], [(6, 1, 39), (7, 0, 19)]), (some (-1000001, []), []), ([(323, 323, 1, 1)], [(341, 341, 1, 1)])),
  (([some (.inl (3, 3)), some (.inl (19, 19)), some (.inl (-2147483648, 2147483647))], [(6, 1, 39), (7, 20, 24)]), (some (1, []), []), ([(331, 331, 19, 19)], [(352, 352, 91, 91)])),
  (([some (.inl (3, 3)), some (.inl (20, 20)), some (.inl (-2147483648, 2147483647))], [(6, 1, 39), (7, 0, 20)]), (some (-1000001, []), []), ([(323, 323, 1, 1)], [(341, 341, 1, 1)])),
  (([some (.inl (3, 3)), some (.inl (20, 20)), some (.inl (-2147483648, 2147483647))], [(6, 1, 39), (7, 21, 24)]), (some (1, []), []), ([(331, 331, 20, 20)], [(352, 352, 92, 92)])),
  (([some (.inl (3, 3)), some (.inl (21, 21)), some (.inl (-2147483648, 2147483647))], [(6, 1, 39), (7, 0, 21)]), (some (-1000001, []), []), ([(323, 323, 1, 1)], [(341, 341, 1, 1)])),
  (([some (.inl (3, 3)), some (.inl (21, 21)), some (.inl (-2147483648, 2147483647))], [(6, 1, 39), (7, 22, 24)]), (some (1, []), []), ([(331, 331, 21, 21)], [(352, 352, 93, 93)])),
  (([some (.inl (3, 3)), some (.inl (22, 22)), some (.inl (-2147483648, 2147483647))], [(6, 1, 39), (7, 0, 22)]), (some (-1000001, []), []), ([(323, 323, 1, 1)], [(341, 341, 1, 1)])),
  (([some (.inl (3, 3)), some (.inl (22, 22)), some (.inl (-2147483648, 2147483647))], [(6, 1, 39), (7, 23, 24)]), (some (1, []), []), ([(331, 331, 22, 22)], [(352, 352, 94, 94)])),
  (([some (.inl (3, 3)), some (.inl (23, 23)), some (.inl (-2147483648, 2147483647))], [(6, 1, 39), (7, 0, 23)]), (some (-1000001, []), []), ([(323, 323, 1, 1)], [(341, 341, 1, 1)])),
  (([some (.inl (3, 3)), some (.inl (23, 23)), some (.inl (-2147483648, 2147483647))], [(6, 1, 39), (7, 24, 24)]), (some (1, []), []), ([(331, 331, 23, 23)], [(352, 352, 95, 95)])),
  (([some (.inl (3, 3)), some (.inl (24, 2147483647)), some (.inl (-2147483648, 2147483647))], [(6, 1, 39)]), (some (-1000001, []), []), ([(323, 323, 1, 1)], [(341, 341, 1, 1)])),
  (([some (.inl (4, 2147483647)), some (.inl (-2147483648, 2147483647)), some (.inl (-2147483648, 2147483647))], []), (some (-1000001, []), []), ([(323, 323, 1, 1)], [(341, 341, 1, 1)]))]
theorem lx35_7 : lc35_7.all (fun q => bchq bzf bIx bmp0 bmp0 bjn bgm blp0 bsp0 bdg0 bdg0 [bkx1, bkx100] [] 279 (lck (lpx bRP) 109 0 q.2.2.1 q) (lkk (lpx bRP) q)) = true := by decide +kernel
theorem gx35_7 : ∀ q ∈ lc35_7, bcoq bZ bIx bTr (lck (lpx bRP) 109 0 q.2.2.1 q) (lkk (lpx bRP) q) := fun q hq => bchq_ok bZ_len bzf_ok bTr_ok (List.forall_mem_cons.mpr ⟨bcx1, List.forall_mem_cons.mpr ⟨bcx100, fun _ h => absurd h List.not_mem_nil⟩⟩) (fun _ h => absurd h List.not_mem_nil) (List.all_eq_true.mp lx35_7 q hq)
theorem lm35_7 : lc35_7.all (fun q => bchq bzf bIm bmp0 bmp0 bjn bgm blp0 bsp0 bdg0 bdg0 [bkm2, bkm28] [] 279 (lck (lpm bRP) 229 338 q.2.2.2 q) (lkk (lpm bRP) q)) = true := by decide +kernel
theorem gm35_7 : ∀ q ∈ lc35_7, bcoq bZ bIm bTr (lck (lpm bRP) 229 338 q.2.2.2 q) (lkk (lpm bRP) q) := fun q hq => bchq_ok bZ_len bzf_ok bTr_ok (List.forall_mem_cons.mpr ⟨bcm2, List.forall_mem_cons.mpr ⟨bcm28, fun _ h => absurd h List.not_mem_nil⟩⟩) (fun _ h => absurd h List.not_mem_nil) (List.all_eq_true.mp lm35_7 q hq)
def lc35 : List lCs := lc35_0 ++ (lc35_1 ++ (lc35_2 ++ (lc35_3 ++ (lc35_4 ++ (lc35_5 ++ (lc35_6 ++ (lc35_7)))))))
theorem lcq35 : lc35.all (lwC1 bRP true (lwI 3)) = true := by decide +kernel
theorem lcv35 : bcv 400 (lc35.map lcc) (lbx bRP (lwI 3) [0, 1, 2, 3, 4, 5, 6, 7]) = true := by decide +kernel
theorem lwp35 : lwPr bRP true 109 229 (lwI 3) := lwPr_cs (f_ := 400) (cs := lc35) (ix := [0, 1, 2, 3, 4, 5, 6, 7]) (Xm := bTr) (List.forall_mem_append.mpr ⟨gx35_0, List.forall_mem_append.mpr ⟨gx35_1, List.forall_mem_append.mpr ⟨gx35_2, List.forall_mem_append.mpr ⟨gx35_3, List.forall_mem_append.mpr ⟨gx35_4, List.forall_mem_append.mpr ⟨gx35_5, List.forall_mem_append.mpr ⟨gx35_6, gx35_7⟩⟩⟩⟩⟩⟩⟩) (List.forall_mem_append.mpr ⟨gm35_0, List.forall_mem_append.mpr ⟨gm35_1, List.forall_mem_append.mpr ⟨gm35_2, List.forall_mem_append.mpr ⟨gm35_3, List.forall_mem_append.mpr ⟨gm35_4, List.forall_mem_append.mpr ⟨gm35_5, List.forall_mem_append.mpr ⟨gm35_6, gm35_7⟩⟩⟩⟩⟩⟩⟩) (fun _ _ => trivial) (lwFr_s lsx35) (lwFr_s lsm35) bRP_ok lcq35 (by decide) (by decide) lcv35
