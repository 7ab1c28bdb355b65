-- ===== contracts
-- move: 5205 steps
def bkx250 : bC := (110, [some (.inr [.index 0]), some (.inl (-2147483648, 2147483647)), some (.inl (-2147483648, 2147483647)), some (.inl (-2147483648, 2147483647)), some (.inl (-2147483648, 2147483647)), some (.inl (-2147483648, 2147483647))], some (.inl (-1000005, 24)), [(323, 323, 1, 2), (323, 323, 5, 5), (325, 325, 0, 23), (327, 327, 0, 23), (329, 329, 0, 23), (331, 331, 0, 23)], 1, [], [])
theorem btx250 : bchk bzf bIx bmpx bmqx bjn bgm blpx bspx bdgx bldx [bkx1, bkx5, bkx100] [] 30000 bkx250 = true := by decide +kernel
theorem bcx250 : bcon bZ bIx bTr bkx250 := bchk_ok bZ_len bzf_ok bTr_ok (List.forall_mem_cons.mpr ⟨bcx1, List.forall_mem_cons.mpr ⟨bcx5, List.forall_mem_cons.mpr ⟨bcx100, fun _ q => absurd q List.not_mem_nil⟩⟩⟩) (fun _ q => absurd q List.not_mem_nil) btx250
