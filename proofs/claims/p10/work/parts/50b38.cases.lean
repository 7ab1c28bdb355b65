-- ===== pairs of calls
-- restore: 1 cases, 7 and 7 steps
def lc39_1 : List lCs := [(([], [(50, 0, 0)]), (none, []), ([(323, 323, 2, 2)], [(341, 341, 2, 2)]))]
theorem lx39_1 : lc39_1.all (fun q => bchq bzf bIx bmp0 bmp0 bjn bgm blp0 bsp0 bdg0 bdg0 [bkx100] [] 1321 (lck (lpx bRP) 113 0 q.2.2.1 q) (lkk (lpx bRP) q)) = true := by decide +kernel
theorem gx39_1 : ∀ q ∈ lc39_1, bcoq bZ bIx bTr (lck (lpx bRP) 113 0 q.2.2.1 q) (lkk (lpx bRP) q) := fun q hq => bchq_ok bZ_len bzf_ok bTr_ok (List.forall_mem_cons.mpr ⟨bcx100, fun _ h => absurd h List.not_mem_nil⟩) (fun _ h => absurd h List.not_mem_nil) (List.all_eq_true.mp lx39_1 q hq)
theorem lm39_1 : lc39_1.all (fun q => bchq bzf bIm bmp0 bmp0 bjn bgm blp0 bsp0 bdg0 bdg0 [bkm28] [] 1321 (lck (lpm bRP) 233 338 q.2.2.2 q) (lkk (lpm bRP) q)) = true := by decide +kernel
theorem gm39_1 : ∀ q ∈ lc39_1, bcoq bZ bIm bTr (lck (lpm bRP) 233 338 q.2.2.2 q) (lkk (lpm bRP) q) := fun q hq => bchq_ok bZ_len bzf_ok bTr_ok (List.forall_mem_cons.mpr ⟨bcm28, fun _ h => absurd h List.not_mem_nil⟩) (fun _ h => absurd h List.not_mem_nil) (List.all_eq_true.mp lm39_1 q hq)
