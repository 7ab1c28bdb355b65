-- ===== contracts
-- move: 7149 steps
def bkx121 : bC := (110, [some (.inr [.index 0]), some (.inl (-2147483648, 2147483647)), some (.inl (-2147483648, 2147483647)), some (.inl (-2147483648, 2147483647)), some (.inl (-2147483648, 2147483647)), some (.inl (-2147483648, 2147483647))], some (.inl (-1000005, 24)), [(0, 337)], 1, [], [])
theorem btx121 : bchk bZ bIx bmpx bmqx bjn bgm blpx bspx bdgx bldx [bkx1, bkx87, bkx42] 30000 bkx121 = true := by decide +kernel
theorem bcx121 : bcon bZ bIx bkx121 := bchk_ok bZ_len (List.forall_mem_cons.mpr ⟨bcx1, List.forall_mem_cons.mpr ⟨bcx87, List.forall_mem_cons.mpr ⟨bcx42, fun _ q => absurd q List.not_mem_nil⟩⟩⟩) btx121
