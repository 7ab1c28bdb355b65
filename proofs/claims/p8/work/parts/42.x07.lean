-- ===== contracts
-- meant: 1840 steps
def bkx208 : bC := (94, [some (.inr [.index 0]), some (.inl (-2147483648, 2147483647)), some (.inl (-2147483648, 2147483647))], some (.inl (-1000001, 73)), [(33, 33, 0, 3), (69, 69, 0, 59), (155, 155, 2, 2), (157, 304, 0, 11), (323, 323, 1, 1)], 6, [], [])
theorem btx208 : bchk bzf bIx bmpx bmqx bjn bgm blpx bspx bdgx bldx [bkx90, bkx79, bkx1] [] 30000 bkx208 = true := by decide +kernel
theorem bcx208 : bcon bZ bIx bTr bkx208 := bchk_ok bZ_len bzf_ok bTr_ok (List.forall_mem_cons.mpr ⟨bcx90, List.forall_mem_cons.mpr ⟨bcx79, List.forall_mem_cons.mpr ⟨bcx1, fun _ q => absurd q List.not_mem_nil⟩⟩⟩) (fun _ q => absurd q List.not_mem_nil) btx208
-- place: 2335 steps
def bkx209 : bC := (95, [some (.inr [.index 0]), some (.inl (-2147483648, 2147483647)), some (.inl (-2147483648, 2147483647)), some (.inl (-2147483648, 2147483647))], some (.inl (-1000001, 254)), [(33, 33, 0, 3), (69, 69, 0, 59), (155, 155, 2, 2), (157, 304, 0, 11), (323, 323, 1, 1)], 6, [], [])
theorem btx209 : bchk bzf bIx bmpx bmqx bjn bgm blpx bspx bdgx bldx [bkx90, bkx79, bkx1] [] 30000 bkx209 = true := by decide +kernel
theorem bcx209 : bcon bZ bIx bTr bkx209 := bchk_ok bZ_len bzf_ok bTr_ok (List.forall_mem_cons.mpr ⟨bcx90, List.forall_mem_cons.mpr ⟨bcx79, List.forall_mem_cons.mpr ⟨bcx1, fun _ q => absurd q List.not_mem_nil⟩⟩⟩) (fun _ q => absurd q List.not_mem_nil) btx209
-- safe: 51 steps
def bkx210 : bC := (96, [some (.inr [.index 0]), some (.inl (-2147483648, 2147483647)), some (.inl (-2147483648, 2147483647))], some (.inl (-2147483648, 2147483647)), [(33, 33, 0, 3), (69, 69, 0, 59), (318, 318, 1, 1), (319, 319, 0, 11), (320, 320, 1, 1), (321, 321, 0, 11), (323, 323, 1, 1)], 5, [], [])
theorem btx210 : bchk bzf bIx bmpx bmqx bjn bgm blpx bspx bdgx bldx [bkx4, bkx1, bkx62] [] 30000 bkx210 = true := by decide +kernel
theorem bcx210 : bcon bZ bIx bTr bkx210 := bchk_ok bZ_len bzf_ok bTr_ok (List.forall_mem_cons.mpr ⟨bcx4, List.forall_mem_cons.mpr ⟨bcx1, List.forall_mem_cons.mpr ⟨bcx62, fun _ q => absurd q List.not_mem_nil⟩⟩⟩) (fun _ q => absurd q List.not_mem_nil) btx210
-- part: 82 steps
def bkx211 : bC := (97, [some (.inr [.index 0]), some (.inl (-2147483648, 2147483647)), some (.inl (-2147483648, 2147483647)), some (.inl (-2147483648, 2147483647))], some (.inl (-1000002, 12)), [(33, 33, 0, 3), (69, 69, 0, 59), (314, 314, 1, 1), (315, 315, 0, 3), (316, 316, 1, 1), (317, 317, 0, 3), (318, 318, 1, 1), (319, 319, 0, 11), (320, 320, 1, 1), (321, 321, 0, 11), (323, 323, 1, 2)], 5, [], [])
theorem btx211 : bchk bzf bIx bmpx bmqx bjn bgm blpx bspx bdgx bldx [bkx93, bkx49, bkx91, bkx58, bkx92, bkx1, bkx94] [] 30000 bkx211 = true := by decide +kernel
theorem bcx211 : bcon bZ bIx bTr bkx211 := bchk_ok bZ_len bzf_ok bTr_ok (List.forall_mem_cons.mpr ⟨bcx93, List.forall_mem_cons.mpr ⟨bcx49, List.forall_mem_cons.mpr ⟨bcx91, List.forall_mem_cons.mpr ⟨bcx58, List.forall_mem_cons.mpr ⟨bcx92, List.forall_mem_cons.mpr ⟨bcx1, List.forall_mem_cons.mpr ⟨bcx94, fun _ q => absurd q List.not_mem_nil⟩⟩⟩⟩⟩⟩⟩) (fun _ q => absurd q List.not_mem_nil) btx211
-- reads: 1535 steps
def bkx212 : bC := (98, [some (.inr [.index 0]), some (.inl (-2147483648, 2147483647))], some (.inl (-1000001, 1)), [(323, 323, 1, 1)], 2, [], [])
theorem btx212 : bchk bzf bIx bmpx bmqx bjn bgm blpx bspx bdgx bldx [bkx1] [] 30000 bkx212 = true := by decide +kernel
theorem bcx212 : bcon bZ bIx bTr bkx212 := bchk_ok bZ_len bzf_ok bTr_ok (List.forall_mem_cons.mpr ⟨bcx1, fun _ q => absurd q List.not_mem_nil⟩) (fun _ q => absurd q List.not_mem_nil) btx212
-- so: 23 steps
def bkx213 : bC := (99, [some (.inr [.index 0]), some (.inl (-2147483648, 2147483647))], some (.inl (-1000001, 2147483647)), [(1, 1, 12, 12), (323, 323, 1, 1)], 1, [], [])
theorem btx213 : bchk bzf bIx bmpx bmqx bjn bgm blpx bspx bdgx bldx [bkx1] [] 30000 bkx213 = true := by decide +kernel
theorem bcx213 : bcon bZ bIx bTr bkx213 := bchk_ok bZ_len bzf_ok bTr_ok (List.forall_mem_cons.mpr ⟨bcx1, fun _ q => absurd q List.not_mem_nil⟩) (fun _ q => absurd q List.not_mem_nil) btx213
