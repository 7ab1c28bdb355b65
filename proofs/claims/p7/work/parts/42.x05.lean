-- ===== contracts
-- put: 175 steps
def bkx122 : bC := (109, [some (.inr [.index 0]), some (.inl (-2147483648, 2147483647)), some (.inl (-2147483648, 2147483647)), some (.inl (-2147483648, 2147483647))], some (.inl (-1000002, 1)), [(0, 337)], 1, [], [])
theorem btx122 : bchk bzf bIx bmpx bmqx bjn bgm blpx bspx bdgx bldx [bkx1, bkx42] 30000 bkx122 = true := by decide +kernel
theorem bcx122 : bcon bZ bIx bkx122 := bchk_ok bZ_len bzf_ok (List.forall_mem_cons.mpr ⟨bcx1, List.forall_mem_cons.mpr ⟨bcx42, fun _ q => absurd q List.not_mem_nil⟩⟩) btx122
