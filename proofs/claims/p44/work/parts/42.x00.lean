-- ===== contracts
-- error: 12 steps
def bkx0 : bC := (118, [some (.inr [.index 0]), some (.inl (4, 4))], some (.inl (-1000004, -1000004)), [(323, 323, 4, 4)], 0, [], [])
theorem btx0 : bchk bzf bIx bmpx bmqx bjn bgm blpx bspx bdgx bldx [] [] 30000 bkx0 = true := by decide +kernel
theorem bcx0 : bcon bZ bIx bTr bkx0 := bchk_ok bZ_len bzf_ok bTr_ok (fun _ q => absurd q List.not_mem_nil) (fun _ q => absurd q List.not_mem_nil) btx0
-- error: 12 steps
def bkx1 : bC := (118, [some (.inr [.index 0]), some (.inl (1, 1))], some (.inl (-1000001, -1000001)), [(323, 323, 1, 1)], 0, [], [])
theorem btx1 : bchk bzf bIx bmpx bmqx bjn bgm blpx bspx bdgx bldx [] [] 30000 bkx1 = true := by decide +kernel
theorem bcx1 : bcon bZ bIx bTr bkx1 := bchk_ok bZ_len bzf_ok bTr_ok (fun _ q => absurd q List.not_mem_nil) (fun _ q => absurd q List.not_mem_nil) btx1
-- soundOrSize: 29 steps
def bkx2 : bC := (119, [some (.inr [.index 0]), some (.inr [.index 34, .index 36, .index 38, .index 40, .index 42, .index 44, .index 46, .index 48, .index 50, .index 52, .index 54, .index 56]), some (.inl (-2147483648, 2147483647))], some (.inl (-2147483648, 2147483647)), [(323, 323, 1, 1)], 1, [], [])
theorem btx2 : bchk bzf bIx bmpx bmqx bjn bgm blpx bspx bdgx bldx [bkx1] [] 30000 bkx2 = true := by decide +kernel
theorem bcx2 : bcon bZ bIx bTr bkx2 := bchk_ok bZ_len bzf_ok bTr_ok (List.forall_mem_cons.mpr ⟨bcx1, fun _ q => absurd q List.not_mem_nil⟩) (fun _ q => absurd q List.not_mem_nil) btx2
-- contraryOf: 34 steps
def bkx3 : bC := (133, [some (.inl (-2147483648, 2147483647))], some (.inl (-2147483648, 2147483647)), [], 0, [], [])
theorem btx3 : bchk bzf bIx bmpx bmqx bjn bgm blpx bspx bdgx bldx [] [] 30000 bkx3 = true := by decide +kernel
theorem bcx3 : bcon bZ bIx bTr bkx3 := bchk_ok bZ_len bzf_ok bTr_ok (fun _ q => absurd q List.not_mem_nil) (fun _ q => absurd q List.not_mem_nil) btx3
-- unsafeSounds: 214 steps
def bkx4 : bC := (42, [some (.inr [.index 34, .index 36, .index 38, .index 40, .index 42, .index 44, .index 46, .index 48, .index 50, .index 52, .index 54, .index 56])], some (.inl (0, 12)), [], 1, [], [])
theorem btx4 : bchk bzf bIx bmpx bmqx bjn bgm blpx bspx bdgx bldx [bkx3] [] 30000 bkx4 = true := by decide +kernel
theorem bcx4 : bcon bZ bIx bTr bkx4 := bchk_ok bZ_len bzf_ok bTr_ok (List.forall_mem_cons.mpr ⟨bcx3, fun _ q => absurd q List.not_mem_nil⟩) (fun _ q => absurd q List.not_mem_nil) btx4
-- error: 12 steps
def bkx5 : bC := (118, [some (.inr [.index 0]), some (.inl (5, 5))], some (.inl (-1000005, -1000005)), [(323, 323, 5, 5)], 0, [], [])
theorem btx5 : bchk bzf bIx bmpx bmqx bjn bgm blpx bspx bdgx bldx [] [] 30000 bkx5 = true := by decide +kernel
theorem bcx5 : bcon bZ bIx bTr bkx5 := bchk_ok bZ_len bzf_ok bTr_ok (fun _ q => absurd q List.not_mem_nil) (fun _ q => absurd q List.not_mem_nil) btx5
-- readNumber: 356 steps
def bkx6 : bC := (29, [some (.inr [.index 147])], none, [(147, 147, 3, 3), (148, 148, 1, 1), (149, 149, 0, 59)], 1, [((147, 1), .inr [.index 5], none)], [((147, 1), .inr [.index 5], none)])
theorem btx6 : bchk bzf bIx bmpx bmqx bjn bgm blpx bspx bdgx bldx [] [] 30000 bkx6 = true := by decide +kernel
theorem bcx6 : bcon bZ bIx bTr bkx6 := bchk_ok bZ_len bzf_ok bTr_ok (fun _ q => absurd q List.not_mem_nil) (fun _ q => absurd q List.not_mem_nil) btx6
-- readQ: 115 steps
def bkx7 : bC := (26, [some (.inr [.index 147]), some (.inl (5, 5))], some (.inl (0, 1)), [(147, 147, 3, 3), (148, 148, 1, 1), (149, 149, 0, 59)], 4, [((147, 1), .inr [.index 5], none)], [((147, 1), .inr [.index 5], none)])
theorem btx7 : bchk bzf bIx bmpx bmqx bjn bgm blpx bspx bdgx bldx [bkx6] [] 30000 bkx7 = true := by decide +kernel
theorem bcx7 : bcon bZ bIx bTr bkx7 := bchk_ok bZ_len bzf_ok bTr_ok (List.forall_mem_cons.mpr ⟨bcx6, fun _ q => absurd q List.not_mem_nil⟩) (fun _ q => absurd q List.not_mem_nil) btx7
-- readLevel: 7 steps
def bkx8 : bC := (25, [some (.inr [.index 147]), some (.inl (5, 5)), some (.inl (5, 5))], some (.inl (0, 1)), [(147, 147, 3, 3), (148, 148, 1, 1), (149, 149, 0, 59)], 5, [((147, 1), .inr [.index 5], none)], [((147, 1), .inr [.index 5], none)])
theorem btx8 : bchk bzf bIx bmpx bmqx bjn bgm blpx bspx bdgx bldx [bkx7] [] 30000 bkx8 = true := by decide +kernel
theorem bcx8 : bcon bZ bIx bTr bkx8 := bchk_ok bZ_len bzf_ok bTr_ok (List.forall_mem_cons.mpr ⟨bcx7, fun _ q => absurd q List.not_mem_nil⟩) (fun _ q => absurd q List.not_mem_nil) btx8
-- readLevel: 147 steps
def bkx9 : bC := (25, [some (.inr [.index 147]), some (.inl (4, 4)), some (.inl (5, 5))], some (.inl (0, 1)), [(147, 147, 3, 3), (148, 148, 1, 1), (149, 149, 0, 59)], 6, [((147, 1), .inr [.index 5], none)], [((147, 1), .inr [.index 5], none)])
theorem btx9 : bchk bzf bIx bmpx bmqx bjn bgm blpx bspx bdgx bldx [bkx8] [] 30000 bkx9 = true := by decide +kernel
theorem bcx9 : bcon bZ bIx bTr bkx9 := bchk_ok bZ_len bzf_ok bTr_ok (List.forall_mem_cons.mpr ⟨bcx8, fun _ q => absurd q List.not_mem_nil⟩) (fun _ q => absurd q List.not_mem_nil) btx9
-- readLevel: 147 steps
def bkx10 : bC := (25, [some (.inr [.index 147]), some (.inl (3, 3)), some (.inl (5, 5))], some (.inl (0, 1)), [(147, 147, 3, 3), (148, 148, 1, 1), (149, 149, 0, 59)], 7, [((147, 1), .inr [.index 5], none)], [((147, 1), .inr [.index 5], none)])
theorem btx10 : bchk bzf bIx bmpx bmqx bjn bgm blpx bspx bdgx bldx [bkx9] [] 30000 bkx10 = true := by decide +kernel
theorem bcx10 : bcon bZ bIx bTr bkx10 := bchk_ok bZ_len bzf_ok bTr_ok (List.forall_mem_cons.mpr ⟨bcx9, fun _ q => absurd q List.not_mem_nil⟩) (fun _ q => absurd q List.not_mem_nil) btx10
-- readLevel: 148 steps
def bkx11 : bC := (25, [some (.inr [.index 147]), some (.inl (2, 2)), some (.inl (5, 5))], some (.inl (0, 1)), [(147, 147, 3, 3), (148, 148, 1, 1), (149, 149, 0, 59)], 8, [((147, 1), .inr [.index 5], none)], [((147, 1), .inr [.index 5], none)])
theorem btx11 : bchk bzf bIx bmpx bmqx bjn bgm blpx bspx bdgx bldx [bkx10] [] 30000 bkx11 = true := by decide +kernel
theorem bcx11 : bcon bZ bIx bTr bkx11 := bchk_ok bZ_len bzf_ok bTr_ok (List.forall_mem_cons.mpr ⟨bcx10, fun _ q => absurd q List.not_mem_nil⟩) (fun _ q => absurd q List.not_mem_nil) btx11
-- readLevel: 147 steps
def bkx12 : bC := (25, [some (.inr [.index 147]), some (.inl (1, 1)), some (.inl (5, 5))], some (.inl (0, 1)), [(147, 147, 3, 3), (148, 148, 1, 1), (149, 149, 0, 59)], 9, [((147, 1), .inr [.index 5], none)], [((147, 1), .inr [.index 5], none)])
theorem btx12 : bchk bzf bIx bmpx bmqx bjn bgm blpx bspx bdgx bldx [bkx11] [] 30000 bkx12 = true := by decide +kernel
theorem bcx12 : bcon bZ bIx bTr bkx12 := bchk_ok bZ_len bzf_ok bTr_ok (List.forall_mem_cons.mpr ⟨bcx11, fun _ q => absurd q List.not_mem_nil⟩) (fun _ q => absurd q List.not_mem_nil) btx12
-- readLevel: 147 steps
def bkx13 : bC := (25, [some (.inr [.index 147]), some (.inl (0, 0)), some (.inl (5, 5))], some (.inl (0, 1)), [(147, 147, 3, 3), (148, 148, 1, 1), (149, 149, 0, 59)], 10, [((147, 1), .inr [.index 5], none)], [((147, 1), .inr [.index 5], none)])
theorem btx13 : bchk bzf bIx bmpx bmqx bjn bgm blpx bspx bdgx bldx [bkx12] [] 30000 bkx13 = true := by decide +kernel
theorem bcx13 : bcon bZ bIx bTr bkx13 := bchk_ok bZ_len bzf_ok bTr_ok (List.forall_mem_cons.mpr ⟨bcx12, fun _ q => absurd q List.not_mem_nil⟩) (fun _ q => absurd q List.not_mem_nil) btx13
-- readQ: 242 steps
def bkx14 : bC := (26, [some (.inr [.index 147]), some (.inl (4, 4))], some (.inl (0, 1)), [(147, 147, 3, 3), (148, 148, 1, 1), (149, 149, 0, 59)], 12, [((147, 1), .inr [.index 5], none)], [((147, 1), .inr [.index 5], none)])
theorem btx14 : bchk bzf bIx bmpx bmqx bjn bgm blpx bspx bdgx bldx [bkx13, bkx7, bkx6] [] 30000 bkx14 = true := by decide +kernel
theorem bcx14 : bcon bZ bIx bTr bkx14 := bchk_ok bZ_len bzf_ok bTr_ok (List.forall_mem_cons.mpr ⟨bcx13, List.forall_mem_cons.mpr ⟨bcx7, List.forall_mem_cons.mpr ⟨bcx6, fun _ q => absurd q List.not_mem_nil⟩⟩⟩) (fun _ q => absurd q List.not_mem_nil) btx14
-- readLevel: 7 steps
def bkx15 : bC := (25, [some (.inr [.index 147]), some (.inl (5, 5)), some (.inl (4, 4))], some (.inl (0, 1)), [(147, 147, 3, 3), (148, 148, 1, 1), (149, 149, 0, 59)], 13, [((147, 1), .inr [.index 5], none)], [((147, 1), .inr [.index 5], none)])
theorem btx15 : bchk bzf bIx bmpx bmqx bjn bgm blpx bspx bdgx bldx [bkx14] [] 30000 bkx15 = true := by decide +kernel
theorem bcx15 : bcon bZ bIx bTr bkx15 := bchk_ok bZ_len bzf_ok bTr_ok (List.forall_mem_cons.mpr ⟨bcx14, fun _ q => absurd q List.not_mem_nil⟩) (fun _ q => absurd q List.not_mem_nil) btx15
-- readLevel: 147 steps
def bkx16 : bC := (25, [some (.inr [.index 147]), some (.inl (4, 4)), some (.inl (4, 4))], some (.inl (0, 1)), [(147, 147, 3, 3), (148, 148, 1, 1), (149, 149, 0, 59)], 14, [((147, 1), .inr [.index 5], none)], [((147, 1), .inr [.index 5], none)])
theorem btx16 : bchk bzf bIx bmpx bmqx bjn bgm blpx bspx bdgx bldx [bkx15] [] 30000 bkx16 = true := by decide +kernel
theorem bcx16 : bcon bZ bIx bTr bkx16 := bchk_ok bZ_len bzf_ok bTr_ok (List.forall_mem_cons.mpr ⟨bcx15, fun _ q => absurd q List.not_mem_nil⟩) (fun _ q => absurd q List.not_mem_nil) btx16
-- readLevel: 147 steps
def bkx17 : bC := (25, [some (.inr [.index 147]), some (.inl (3, 3)), some (.inl (4, 4))], some (.inl (0, 1)), [(147, 147, 3, 3), (148, 148, 1, 1), (149, 149, 0, 59)], 15, [((147, 1), .inr [.index 5], none)], [((147, 1), .inr [.index 5], none)])
theorem btx17 : bchk bzf bIx bmpx bmqx bjn bgm blpx bspx bdgx bldx [bkx16] [] 30000 bkx17 = true := by decide +kernel
theorem bcx17 : bcon bZ bIx bTr bkx17 := bchk_ok bZ_len bzf_ok bTr_ok (List.forall_mem_cons.mpr ⟨bcx16, fun _ q => absurd q List.not_mem_nil⟩) (fun _ q => absurd q List.not_mem_nil) btx17
-- readLevel: 148 steps
def bkx18 : bC := (25, [some (.inr [.index 147]), some (.inl (2, 2)), some (.inl (4, 4))], some (.inl (0, 1)), [(147, 147, 3, 3), (148, 148, 1, 1), (149, 149, 0, 59)], 16, [((147, 1), .inr [.index 5], none)], [((147, 1), .inr [.index 5], none)])
theorem btx18 : bchk bzf bIx bmpx bmqx bjn bgm blpx bspx bdgx bldx [bkx17] [] 30000 bkx18 = true := by decide +kernel
theorem bcx18 : bcon bZ bIx bTr bkx18 := bchk_ok bZ_len bzf_ok bTr_ok (List.forall_mem_cons.mpr ⟨bcx17, fun _ q => absurd q List.not_mem_nil⟩) (fun _ q => absurd q List.not_mem_nil) btx18
-- readLevel: 147 steps
def bkx19 : bC := (25, [some (.inr [.index 147]), some (.inl (1, 1)), some (.inl (4, 4))], some (.inl (0, 1)), [(147, 147, 3, 3), (148, 148, 1, 1), (149, 149, 0, 59)], 17, [((147, 1), .inr [.index 5], none)], [((147, 1), .inr [.index 5], none)])
theorem btx19 : bchk bzf bIx bmpx bmqx bjn bgm blpx bspx bdgx bldx [bkx18] [] 30000 bkx19 = true := by decide +kernel
theorem bcx19 : bcon bZ bIx bTr bkx19 := bchk_ok bZ_len bzf_ok bTr_ok (List.forall_mem_cons.mpr ⟨bcx18, fun _ q => absurd q List.not_mem_nil⟩) (fun _ q => absurd q List.not_mem_nil) btx19
-- readLevel: 147 steps
def bkx20 : bC := (25, [some (.inr [.index 147]), some (.inl (0, 0)), some (.inl (4, 4))], some (.inl (0, 1)), [(147, 147, 3, 3), (148, 148, 1, 1), (149, 149, 0, 59)], 18, [((147, 1), .inr [.index 5], none)], [((147, 1), .inr [.index 5], none)])
theorem btx20 : bchk bzf bIx bmpx bmqx bjn bgm blpx bspx bdgx bldx [bkx19] [] 30000 bkx20 = true := by decide +kernel
theorem bcx20 : bcon bZ bIx bTr bkx20 := bchk_ok bZ_len bzf_ok bTr_ok (List.forall_mem_cons.mpr ⟨bcx19, fun _ q => absurd q List.not_mem_nil⟩) (fun _ q => absurd q List.not_mem_nil) btx20
-- readQ: 242 steps
def bkx21 : bC := (26, [some (.inr [.index 147]), some (.inl (3, 3))], some (.inl (0, 1)), [(147, 147, 3, 3), (148, 148, 1, 1), (149, 149, 0, 59)], 20, [((147, 1), .inr [.index 5], none)], [((147, 1), .inr [.index 5], none)])
theorem btx21 : bchk bzf bIx bmpx bmqx bjn bgm blpx bspx bdgx bldx [bkx20, bkx14, bkx6] [] 30000 bkx21 = true := by decide +kernel
theorem bcx21 : bcon bZ bIx bTr bkx21 := bchk_ok bZ_len bzf_ok bTr_ok (List.forall_mem_cons.mpr ⟨bcx20, List.forall_mem_cons.mpr ⟨bcx14, List.forall_mem_cons.mpr ⟨bcx6, fun _ q => absurd q List.not_mem_nil⟩⟩⟩) (fun _ q => absurd q List.not_mem_nil) btx21
-- readLevel: 7 steps
def bkx22 : bC := (25, [some (.inr [.index 147]), some (.inl (5, 5)), some (.inl (3, 3))], some (.inl (0, 1)), [(147, 147, 3, 3), (148, 148, 1, 1), (149, 149, 0, 59)], 21, [((147, 1), .inr [.index 5], none)], [((147, 1), .inr [.index 5], none)])
theorem btx22 : bchk bzf bIx bmpx bmqx bjn bgm blpx bspx bdgx bldx [bkx21] [] 30000 bkx22 = true := by decide +kernel
theorem bcx22 : bcon bZ bIx bTr bkx22 := bchk_ok bZ_len bzf_ok bTr_ok (List.forall_mem_cons.mpr ⟨bcx21, fun _ q => absurd q List.not_mem_nil⟩) (fun _ q => absurd q List.not_mem_nil) btx22
-- readLevel: 147 steps
def bkx23 : bC := (25, [some (.inr [.index 147]), some (.inl (4, 4)), some (.inl (3, 3))], some (.inl (0, 1)), [(147, 147, 3, 3), (148, 148, 1, 1), (149, 149, 0, 59)], 22, [((147, 1), .inr [.index 5], none)], [((147, 1), .inr [.index 5], none)])
theorem btx23 : bchk bzf bIx bmpx bmqx bjn bgm blpx bspx bdgx bldx [bkx22] [] 30000 bkx23 = true := by decide +kernel
theorem bcx23 : bcon bZ bIx bTr bkx23 := bchk_ok bZ_len bzf_ok bTr_ok (List.forall_mem_cons.mpr ⟨bcx22, fun _ q => absurd q List.not_mem_nil⟩) (fun _ q => absurd q List.not_mem_nil) btx23
-- readLevel: 147 steps
def bkx24 : bC := (25, [some (.inr [.index 147]), some (.inl (3, 3)), some (.inl (3, 3))], some (.inl (0, 1)), [(147, 147, 3, 3), (148, 148, 1, 1), (149, 149, 0, 59)], 23, [((147, 1), .inr [.index 5], none)], [((147, 1), .inr [.index 5], none)])
theorem btx24 : bchk bzf bIx bmpx bmqx bjn bgm blpx bspx bdgx bldx [bkx23] [] 30000 bkx24 = true := by decide +kernel
theorem bcx24 : bcon bZ bIx bTr bkx24 := bchk_ok bZ_len bzf_ok bTr_ok (List.forall_mem_cons.mpr ⟨bcx23, fun _ q => absurd q List.not_mem_nil⟩) (fun _ q => absurd q List.not_mem_nil) btx24
-- readLevel: 148 steps
def bkx25 : bC := (25, [some (.inr [.index 147]), some (.inl (2, 2)), some (.inl (3, 3))], some (.inl (0, 1)), [(147, 147, 3, 3), (148, 148, 1, 1), (149, 149, 0, 59)], 24, [((147, 1), .inr [.index 5], none)], [((147, 1), .inr [.index 5], none)])
theorem btx25 : bchk bzf bIx bmpx bmqx bjn bgm blpx bspx bdgx bldx [bkx24] [] 30000 bkx25 = true := by decide +kernel
theorem bcx25 : bcon bZ bIx bTr bkx25 := bchk_ok bZ_len bzf_ok bTr_ok (List.forall_mem_cons.mpr ⟨bcx24, fun _ q => absurd q List.not_mem_nil⟩) (fun _ q => absurd q List.not_mem_nil) btx25
-- readLevel: 147 steps
def bkx26 : bC := (25, [some (.inr [.index 147]), some (.inl (1, 1)), some (.inl (3, 3))], some (.inl (0, 1)), [(147, 147, 3, 3), (148, 148, 1, 1), (149, 149, 0, 59)], 25, [((147, 1), .inr [.index 5], none)], [((147, 1), .inr [.index 5], none)])
theorem btx26 : bchk bzf bIx bmpx bmqx bjn bgm blpx bspx bdgx bldx [bkx25] [] 30000 bkx26 = true := by decide +kernel
theorem bcx26 : bcon bZ bIx bTr bkx26 := bchk_ok bZ_len bzf_ok bTr_ok (List.forall_mem_cons.mpr ⟨bcx25, fun _ q => absurd q List.not_mem_nil⟩) (fun _ q => absurd q List.not_mem_nil) btx26
-- readLevel: 147 steps
def bkx27 : bC := (25, [some (.inr [.index 147]), some (.inl (0, 0)), some (.inl (3, 3))], some (.inl (0, 1)), [(147, 147, 3, 3), (148, 148, 1, 1), (149, 149, 0, 59)], 26, [((147, 1), .inr [.index 5], none)], [((147, 1), .inr [.index 5], none)])
theorem btx27 : bchk bzf bIx bmpx bmqx bjn bgm blpx bspx bdgx bldx [bkx26] [] 30000 bkx27 = true := by decide +kernel
theorem bcx27 : bcon bZ bIx bTr bkx27 := bchk_ok bZ_len bzf_ok bTr_ok (List.forall_mem_cons.mpr ⟨bcx26, fun _ q => absurd q List.not_mem_nil⟩) (fun _ q => absurd q List.not_mem_nil) btx27
-- readQ: 242 steps
def bkx28 : bC := (26, [some (.inr [.index 147]), some (.inl (2, 2))], some (.inl (0, 1)), [(147, 147, 3, 3), (148, 148, 1, 1), (149, 149, 0, 59)], 28, [((147, 1), .inr [.index 5], none)], [((147, 1), .inr [.index 5], none)])
theorem btx28 : bchk bzf bIx bmpx bmqx bjn bgm blpx bspx bdgx bldx [bkx27, bkx21, bkx6] [] 30000 bkx28 = true := by decide +kernel
theorem bcx28 : bcon bZ bIx bTr bkx28 := bchk_ok bZ_len bzf_ok bTr_ok (List.forall_mem_cons.mpr ⟨bcx27, List.forall_mem_cons.mpr ⟨bcx21, List.forall_mem_cons.mpr ⟨bcx6, fun _ q => absurd q List.not_mem_nil⟩⟩⟩) (fun _ q => absurd q List.not_mem_nil) btx28
-- readLevel: 7 steps
def bkx29 : bC := (25, [some (.inr [.index 147]), some (.inl (5, 5)), some (.inl (2, 2))], some (.inl (0, 1)), [(147, 147, 3, 3), (148, 148, 1, 1), (149, 149, 0, 59)], 29, [((147, 1), .inr [.index 5], none)], [((147, 1), .inr [.index 5], none)])
theorem btx29 : bchk bzf bIx bmpx bmqx bjn bgm blpx bspx bdgx bldx [bkx28] [] 30000 bkx29 = true := by decide +kernel
theorem bcx29 : bcon bZ bIx bTr bkx29 := bchk_ok bZ_len bzf_ok bTr_ok (List.forall_mem_cons.mpr ⟨bcx28, fun _ q => absurd q List.not_mem_nil⟩) (fun _ q => absurd q List.not_mem_nil) btx29
-- readLevel: 147 steps
def bkx30 : bC := (25, [some (.inr [.index 147]), some (.inl (4, 4)), some (.inl (2, 2))], some (.inl (0, 1)), [(147, 147, 3, 3), (148, 148, 1, 1), (149, 149, 0, 59)], 30, [((147, 1), .inr [.index 5], none)], [((147, 1), .inr [.index 5], none)])
theorem btx30 : bchk bzf bIx bmpx bmqx bjn bgm blpx bspx bdgx bldx [bkx29] [] 30000 bkx30 = true := by decide +kernel
theorem bcx30 : bcon bZ bIx bTr bkx30 := bchk_ok bZ_len bzf_ok bTr_ok (List.forall_mem_cons.mpr ⟨bcx29, fun _ q => absurd q List.not_mem_nil⟩) (fun _ q => absurd q List.not_mem_nil) btx30
-- readLevel: 147 steps
def bkx31 : bC := (25, [some (.inr [.index 147]), some (.inl (3, 3)), some (.inl (2, 2))], some (.inl (0, 1)), [(147, 147, 3, 3), (148, 148, 1, 1), (149, 149, 0, 59)], 31, [((147, 1), .inr [.index 5], none)], [((147, 1), .inr [.index 5], none)])
theorem btx31 : bchk bzf bIx bmpx bmqx bjn bgm blpx bspx bdgx bldx [bkx30] [] 30000 bkx31 = true := by decide +kernel
theorem bcx31 : bcon bZ bIx bTr bkx31 := bchk_ok bZ_len bzf_ok bTr_ok (List.forall_mem_cons.mpr ⟨bcx30, fun _ q => absurd q List.not_mem_nil⟩) (fun _ q => absurd q List.not_mem_nil) btx31
-- readLevel: 148 steps
def bkx32 : bC := (25, [some (.inr [.index 147]), some (.inl (2, 2)), some (.inl (2, 2))], some (.inl (0, 1)), [(147, 147, 3, 3), (148, 148, 1, 1), (149, 149, 0, 59)], 32, [((147, 1), .inr [.index 5], none)], [((147, 1), .inr [.index 5], none)])
theorem btx32 : bchk bzf bIx bmpx bmqx bjn bgm blpx bspx bdgx bldx [bkx31] [] 30000 bkx32 = true := by decide +kernel
theorem bcx32 : bcon bZ bIx bTr bkx32 := bchk_ok bZ_len bzf_ok bTr_ok (List.forall_mem_cons.mpr ⟨bcx31, fun _ q => absurd q List.not_mem_nil⟩) (fun _ q => absurd q List.not_mem_nil) btx32
-- readLevel: 147 steps
def bkx33 : bC := (25, [some (.inr [.index 147]), some (.inl (1, 1)), some (.inl (2, 2))], some (.inl (0, 1)), [(147, 147, 3, 3), (148, 148, 1, 1), (149, 149, 0, 59)], 33, [((147, 1), .inr [.index 5], none)], [((147, 1), .inr [.index 5], none)])
theorem btx33 : bchk bzf bIx bmpx bmqx bjn bgm blpx bspx bdgx bldx [bkx32] [] 30000 bkx33 = true := by decide +kernel
theorem bcx33 : bcon bZ bIx bTr bkx33 := bchk_ok bZ_len bzf_ok bTr_ok (List.forall_mem_cons.mpr ⟨bcx32, fun _ q => absurd q List.not_mem_nil⟩) (fun _ q => absurd q List.not_mem_nil) btx33
-- readLevel: 147 steps
def bkx34 : bC := (25, [some (.inr [.index 147]), some (.inl (0, 0)), some (.inl (2, 2))], some (.inl (0, 1)), [(147, 147, 3, 3), (148, 148, 1, 1), (149, 149, 0, 59)], 34, [((147, 1), .inr [.index 5], none)], [((147, 1), .inr [.index 5], none)])
theorem btx34 : bchk bzf bIx bmpx bmqx bjn bgm blpx bspx bdgx bldx [bkx33] [] 30000 bkx34 = true := by decide +kernel
theorem bcx34 : bcon bZ bIx bTr bkx34 := bchk_ok bZ_len bzf_ok bTr_ok (List.forall_mem_cons.mpr ⟨bcx33, fun _ q => absurd q List.not_mem_nil⟩) (fun _ q => absurd q List.not_mem_nil) btx34
-- readQ: 242 steps
def bkx35 : bC := (26, [some (.inr [.index 147]), some (.inl (1, 1))], some (.inl (0, 1)), [(147, 147, 3, 3), (148, 148, 1, 1), (149, 149, 0, 59)], 36, [((147, 1), .inr [.index 5], none)], [((147, 1), .inr [.index 5], none)])
theorem btx35 : bchk bzf bIx bmpx bmqx bjn bgm blpx bspx bdgx bldx [bkx34, bkx28, bkx6] [] 30000 bkx35 = true := by decide +kernel
theorem bcx35 : bcon bZ bIx bTr bkx35 := bchk_ok bZ_len bzf_ok bTr_ok (List.forall_mem_cons.mpr ⟨bcx34, List.forall_mem_cons.mpr ⟨bcx28, List.forall_mem_cons.mpr ⟨bcx6, fun _ q => absurd q List.not_mem_nil⟩⟩⟩) (fun _ q => absurd q List.not_mem_nil) btx35
-- readLevel: 7 steps
def bkx36 : bC := (25, [some (.inr [.index 147]), some (.inl (5, 5)), some (.inl (1, 1))], some (.inl (0, 1)), [(147, 147, 3, 3), (148, 148, 1, 1), (149, 149, 0, 59)], 37, [((147, 1), .inr [.index 5], none)], [((147, 1), .inr [.index 5], none)])
theorem btx36 : bchk bzf bIx bmpx bmqx bjn bgm blpx bspx bdgx bldx [bkx35] [] 30000 bkx36 = true := by decide +kernel
theorem bcx36 : bcon bZ bIx bTr bkx36 := bchk_ok bZ_len bzf_ok bTr_ok (List.forall_mem_cons.mpr ⟨bcx35, fun _ q => absurd q List.not_mem_nil⟩) (fun _ q => absurd q List.not_mem_nil) btx36
-- readLevel: 147 steps
def bkx37 : bC := (25, [some (.inr [.index 147]), some (.inl (4, 4)), some (.inl (1, 1))], some (.inl (0, 1)), [(147, 147, 3, 3), (148, 148, 1, 1), (149, 149, 0, 59)], 38, [((147, 1), .inr [.index 5], none)], [((147, 1), .inr [.index 5], none)])
theorem btx37 : bchk bzf bIx bmpx bmqx bjn bgm blpx bspx bdgx bldx [bkx36] [] 30000 bkx37 = true := by decide +kernel
theorem bcx37 : bcon bZ bIx bTr bkx37 := bchk_ok bZ_len bzf_ok bTr_ok (List.forall_mem_cons.mpr ⟨bcx36, fun _ q => absurd q List.not_mem_nil⟩) (fun _ q => absurd q List.not_mem_nil) btx37
-- readLevel: 147 steps
def bkx38 : bC := (25, [some (.inr [.index 147]), some (.inl (3, 3)), some (.inl (1, 1))], some (.inl (0, 1)), [(147, 147, 3, 3), (148, 148, 1, 1), (149, 149, 0, 59)], 39, [((147, 1), .inr [.index 5], none)], [((147, 1), .inr [.index 5], none)])
theorem btx38 : bchk bzf bIx bmpx bmqx bjn bgm blpx bspx bdgx bldx [bkx37] [] 30000 bkx38 = true := by decide +kernel
theorem bcx38 : bcon bZ bIx bTr bkx38 := bchk_ok bZ_len bzf_ok bTr_ok (List.forall_mem_cons.mpr ⟨bcx37, fun _ q => absurd q List.not_mem_nil⟩) (fun _ q => absurd q List.not_mem_nil) btx38
-- readLevel: 148 steps
def bkx39 : bC := (25, [some (.inr [.index 147]), some (.inl (2, 2)), some (.inl (1, 1))], some (.inl (0, 1)), [(147, 147, 3, 3), (148, 148, 1, 1), (149, 149, 0, 59)], 40, [((147, 1), .inr [.index 5], none)], [((147, 1), .inr [.index 5], none)])
theorem btx39 : bchk bzf bIx bmpx bmqx bjn bgm blpx bspx bdgx bldx [bkx38] [] 30000 bkx39 = true := by decide +kernel
theorem bcx39 : bcon bZ bIx bTr bkx39 := bchk_ok bZ_len bzf_ok bTr_ok (List.forall_mem_cons.mpr ⟨bcx38, fun _ q => absurd q List.not_mem_nil⟩) (fun _ q => absurd q List.not_mem_nil) btx39
-- readLevel: 147 steps
def bkx40 : bC := (25, [some (.inr [.index 147]), some (.inl (1, 1)), some (.inl (1, 1))], some (.inl (0, 1)), [(147, 147, 3, 3), (148, 148, 1, 1), (149, 149, 0, 59)], 41, [((147, 1), .inr [.index 5], none)], [((147, 1), .inr [.index 5], none)])
theorem btx40 : bchk bzf bIx bmpx bmqx bjn bgm blpx bspx bdgx bldx [bkx39] [] 30000 bkx40 = true := by decide +kernel
theorem bcx40 : bcon bZ bIx bTr bkx40 := bchk_ok bZ_len bzf_ok bTr_ok (List.forall_mem_cons.mpr ⟨bcx39, fun _ q => absurd q List.not_mem_nil⟩) (fun _ q => absurd q List.not_mem_nil) btx40
-- readLevel: 147 steps
def bkx41 : bC := (25, [some (.inr [.index 147]), some (.inl (0, 0)), some (.inl (1, 1))], some (.inl (0, 1)), [(147, 147, 3, 3), (148, 148, 1, 1), (149, 149, 0, 59)], 42, [((147, 1), .inr [.index 5], none)], [((147, 1), .inr [.index 5], none)])
theorem btx41 : bchk bzf bIx bmpx bmqx bjn bgm blpx bspx bdgx bldx [bkx40] [] 30000 bkx41 = true := by decide +kernel
theorem bcx41 : bcon bZ bIx bTr bkx41 := bchk_ok bZ_len bzf_ok bTr_ok (List.forall_mem_cons.mpr ⟨bcx40, fun _ q => absurd q List.not_mem_nil⟩) (fun _ q => absurd q List.not_mem_nil) btx41
-- readQ: 242 steps
def bkx42 : bC := (26, [some (.inr [.index 147]), some (.inl (0, 0))], some (.inl (0, 1)), [(147, 147, 3, 3), (148, 148, 1, 1), (149, 149, 0, 59)], 44, [((147, 1), .inr [.index 5], none)], [((147, 1), .inr [.index 5], none)])
theorem btx42 : bchk bzf bIx bmpx bmqx bjn bgm blpx bspx bdgx bldx [bkx41, bkx35, bkx6] [] 30000 bkx42 = true := by decide +kernel
theorem bcx42 : bcon bZ bIx bTr bkx42 := bchk_ok bZ_len bzf_ok bTr_ok (List.forall_mem_cons.mpr ⟨bcx41, List.forall_mem_cons.mpr ⟨bcx35, List.forall_mem_cons.mpr ⟨bcx6, fun _ q => absurd q List.not_mem_nil⟩⟩⟩) (fun _ q => absurd q List.not_mem_nil) btx42
-- readLevel: 7 steps
def bkx43 : bC := (25, [some (.inr [.index 147]), some (.inl (5, 5)), some (.inl (0, 0))], some (.inl (0, 1)), [(147, 147, 3, 3), (148, 148, 1, 1), (149, 149, 0, 59)], 45, [((147, 1), .inr [.index 5], none)], [((147, 1), .inr [.index 5], none)])
theorem btx43 : bchk bzf bIx bmpx bmqx bjn bgm blpx bspx bdgx bldx [bkx42] [] 30000 bkx43 = true := by decide +kernel
theorem bcx43 : bcon bZ bIx bTr bkx43 := bchk_ok bZ_len bzf_ok bTr_ok (List.forall_mem_cons.mpr ⟨bcx42, fun _ q => absurd q List.not_mem_nil⟩) (fun _ q => absurd q List.not_mem_nil) btx43
-- readLevel: 147 steps
def bkx44 : bC := (25, [some (.inr [.index 147]), some (.inl (4, 4)), some (.inl (0, 0))], some (.inl (0, 1)), [(147, 147, 3, 3), (148, 148, 1, 1), (149, 149, 0, 59)], 46, [((147, 1), .inr [.index 5], none)], [((147, 1), .inr [.index 5], none)])
theorem btx44 : bchk bzf bIx bmpx bmqx bjn bgm blpx bspx bdgx bldx [bkx43] [] 30000 bkx44 = true := by decide +kernel
theorem bcx44 : bcon bZ bIx bTr bkx44 := bchk_ok bZ_len bzf_ok bTr_ok (List.forall_mem_cons.mpr ⟨bcx43, fun _ q => absurd q List.not_mem_nil⟩) (fun _ q => absurd q List.not_mem_nil) btx44
-- readLevel: 147 steps
def bkx45 : bC := (25, [some (.inr [.index 147]), some (.inl (3, 3)), some (.inl (0, 0))], some (.inl (0, 1)), [(147, 147, 3, 3), (148, 148, 1, 1), (149, 149, 0, 59)], 47, [((147, 1), .inr [.index 5], none)], [((147, 1), .inr [.index 5], none)])
theorem btx45 : bchk bzf bIx bmpx bmqx bjn bgm blpx bspx bdgx bldx [bkx44] [] 30000 bkx45 = true := by decide +kernel
theorem bcx45 : bcon bZ bIx bTr bkx45 := bchk_ok bZ_len bzf_ok bTr_ok (List.forall_mem_cons.mpr ⟨bcx44, fun _ q => absurd q List.not_mem_nil⟩) (fun _ q => absurd q List.not_mem_nil) btx45
-- readLevel: 148 steps
def bkx46 : bC := (25, [some (.inr [.index 147]), some (.inl (2, 2)), some (.inl (0, 0))], some (.inl (0, 1)), [(147, 147, 3, 3), (148, 148, 1, 1), (149, 149, 0, 59)], 48, [((147, 1), .inr [.index 5], none)], [((147, 1), .inr [.index 5], none)])
theorem btx46 : bchk bzf bIx bmpx bmqx bjn bgm blpx bspx bdgx bldx [bkx45] [] 30000 bkx46 = true := by decide +kernel
theorem bcx46 : bcon bZ bIx bTr bkx46 := bchk_ok bZ_len bzf_ok bTr_ok (List.forall_mem_cons.mpr ⟨bcx45, fun _ q => absurd q List.not_mem_nil⟩) (fun _ q => absurd q List.not_mem_nil) btx46
-- readLevel: 147 steps
def bkx47 : bC := (25, [some (.inr [.index 147]), some (.inl (1, 1)), some (.inl (0, 0))], some (.inl (0, 1)), [(147, 147, 3, 3), (148, 148, 1, 1), (149, 149, 0, 59)], 49, [((147, 1), .inr [.index 5], none)], [((147, 1), .inr [.index 5], none)])
theorem btx47 : bchk bzf bIx bmpx bmqx bjn bgm blpx bspx bdgx bldx [bkx46] [] 30000 bkx47 = true := by decide +kernel
theorem bcx47 : bcon bZ bIx bTr bkx47 := bchk_ok bZ_len bzf_ok bTr_ok (List.forall_mem_cons.mpr ⟨bcx46, fun _ q => absurd q List.not_mem_nil⟩) (fun _ q => absurd q List.not_mem_nil) btx47
-- readLevel: 147 steps
def bkx48 : bC := (25, [some (.inr [.index 147]), some (.inl (0, 0)), some (.inl (0, 0))], some (.inl (0, 1)), [(147, 147, 3, 3), (148, 148, 1, 1), (149, 149, 0, 59)], 50, [((147, 1), .inr [.index 5], none)], [((147, 1), .inr [.index 5], none)])
theorem btx48 : bchk bzf bIx bmpx bmqx bjn bgm blpx bspx bdgx bldx [bkx47] [] 30000 bkx48 = true := by decide +kernel
theorem bcx48 : bcon bZ bIx bTr bkx48 := bchk_ok bZ_len bzf_ok bTr_ok (List.forall_mem_cons.mpr ⟨bcx47, fun _ q => absurd q List.not_mem_nil⟩) (fun _ q => absurd q List.not_mem_nil) btx48
-- copyFrom: 18 steps
def bkx49 : bC := (39, [some (.inr [.index 67, .index 71]), some (.inr [.index 148])], none, [(67, 67, 1, 1), (68, 68, 0, 59), (71, 71, 1, 1), (72, 72, 0, 59)], 0, [], [])
theorem btx49 : bchk bzf bIx bmpx bmqx bjn bgm blpx bspx bdgx bldx [] [] 30000 bkx49 = true := by decide +kernel
theorem bcx49 : bcon bZ bIx bTr bkx49 := bchk_ok bZ_len bzf_ok bTr_ok (fun _ q => absurd q List.not_mem_nil) (fun _ q => absurd q List.not_mem_nil) btx49
