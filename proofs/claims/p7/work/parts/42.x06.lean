-- ===== contracts
-- move: 7149 steps
def bkx123 : bC := (110, [some (.inr [.index 0]), some (.inl (-2147483648, 2147483647)), some (.inl (-2147483648, 2147483647)), some (.inl (-2147483648, 2147483647)), some (.inl (-2147483648, 2147483647)), some (.inl (-2147483648, 2147483647))], some (.inl (-1000005, 24)), [(0, 337)], 1, [], [])
theorem btx123 : bchk bzf bIx bmpx bmqx bjn bgm blpx bspx bdgx bldx [bkx1, bkx87, bkx42] 30000 bkx123 = true := by decide +kernel
theorem bcx123 : bcon bZ bIx bkx123 := bchk_ok bZ_len bzf_ok (List.forall_mem_cons.mpr ⟨bcx1, List.forall_mem_cons.mpr ⟨bcx87, List.forall_mem_cons.mpr ⟨bcx42, fun _ q => absurd q List.not_mem_nil⟩⟩⟩) btx123
