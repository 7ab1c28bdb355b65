-- ===== one level of the parser, over its operand
def pcal (m_ pc cm : Nat) : Bool := match xcd m_ pc with
  | some (.invokevirtual _, _, [_, c_, _, _, _]) => Nat.beq c_ cm
  | _ => false
theorem pcal_ok {m_ pc cm : Nat} (h : pcal m_ pc cm = true) : ∃ idx_ ln p0_ a_ b_ d_, xcd m_ pc = some (.invokevirtual idx_, ln, [p0_, cm, a_, b_, d_]) := by
  unfold pcal at h
  split at h
  · rename_i idx_ ln p0_ c_ a_ b_ d_ e
    rw [← Nat.eq_of_beq_eq_true h]
    exact ⟨idx_, ln, p0_, a_, b_, d_, e⟩
  · cases h
/-- a method of the reference of so many ints -/
def pcm (cm k_ : Nat) : Bool := Nat.beq (xn cm) k_ && (Nat.beq (xo cm) 12 && Nat.ble (k_ + 1) (xm cm))
section
variable {p : Nat → Int} {G : bE} {n : Nat} {la : bL} {ov : bO} {lo : xL} {st : List Jvm.Term} {h h1 : xH} {m_ pc cm d_ : Nat} {t_ : Option Jvm.Term}
theorem pcallO (hcal : pcal m_ pc cm = true) (hcm : pcm cm 0 = true) (R : bR bZ bIm p (G, n, la, [wth], ov) lo st h) {y_ : Int32} (Hr : ∀ D_, d_ ≤ D_ → xrun D_ cm 0 [(0, .index 338)] [] h (some (.int y_), h1, [])) : bldD (d_ + 1) m_ pc lo st h (pc + 3) lo [.int y_] h1 := by
  obtain ⟨idx_, ln, p0_, a_, b_, e, hcd⟩ := pcal_ok hcal
  simp only [pcm, Bool.and_eq_true] at hcm
  obtain ⟨k1_, k2_, k3_⟩ := hcm
  obtain ⟨t0_, s0_, rfl⟩ := bR_top R
  obtain ⟨R1, -, g0⟩ := bR_pop R
  have e0_ := List.mem_singleton.mp g0.1
  subst e0_
  have e1_ : s0_ = [] := by
    have r7 : bSr p [] s0_ := R1.2.2.2.2.2.2.1
    cases s0_ with
    | nil => rfl
    | cons a_ t_ => exact absurd r7 id
  subst e1_
  obtain ⟨c_, c1_, c2_, c3_, -⟩ := R.2.2.2.2.2.2.2.1.2 _ _ bZ_338
  have hlen : h.length = 354 := R.2.2.2.2.2.2.2.1.1.trans bZ_len
  have hx := R1.2.2.2.2.2.2.2.2.2
  unfold xok at hx
  simp only [Bool.and_eq_true] at hx
  intro D_ hD o H_
  obtain ⟨D', rfl⟩ : ∃ D', D_ = D' + 1 := ⟨D_ - 1, by omega⟩
  refine xrun_virtual (as := []) (s' := []) (c := c_) (v := some (.int y_)) hcd ?_ c1_ ?_ (Hr D' (by omega)) H_
  · rw [Nat.eq_of_beq_eq_true k1_]
    rfl
  · simp only [Bool.and_eq_true, xcc]
    rw [hlen, c2_, Nat.eq_of_beq_eq_true k2_]
    exact ⟨rfl, rfl, k3_, rfl, rfl, hx.1, rfl⟩
theorem pcallL (hcal : pcal m_ pc 175 = true) {vw vv : bV} (R : bR bZ bIm p (G, n, la, [vv, vw, wth], ov) lo st h) {x_ y_ : Int32} (hw : ∀ t_, bga p vw t_ → t_ = .int x_) (hv : ∀ t_, bga p vv t_ → t_ = .int y_) (Hr : ∀ D_, d_ ≤ D_ → xrun D_ 175 0 [(0, .index 338), (1, .int x_), (2, .int y_)] [] h (none, h1, [])) : bldD (d_ + 1) m_ pc lo st h (pc + 3) lo [] h1 := by
  obtain ⟨idx_, ln, p0_, a_, b_, e, hcd⟩ := pcal_ok hcal
  obtain ⟨t0_, s0_, rfl⟩ := bR_top R
  obtain ⟨R1, -, g0⟩ := bR_pop R
  have e0_ := hv _ g0
  subst e0_
  obtain ⟨t1_, s1_, rfl⟩ := bR_top R1
  obtain ⟨R2, -, g1⟩ := bR_pop R1
  have e1_ := hw _ g1
  subst e1_
  obtain ⟨t2_, s2_, rfl⟩ := bR_top R2
  obtain ⟨R3, -, g2⟩ := bR_pop R2
  have e2_ := List.mem_singleton.mp g2.1
  subst e2_
  have e3_ : s2_ = [] := by
    have r7 : bSr p [] s2_ := R3.2.2.2.2.2.2.1
    cases s2_ with
    | nil => rfl
    | cons a_ t_ => exact absurd r7 id
  subst e3_
  obtain ⟨c_, c1_, c2_, c3_, -⟩ := R.2.2.2.2.2.2.2.1.2 _ _ bZ_338
  have hlen : h.length = 354 := R.2.2.2.2.2.2.2.1.1.trans bZ_len
  have hx := R3.2.2.2.2.2.2.2.2.2
  unfold xok at hx
  simp only [Bool.and_eq_true] at hx
  have kk : (Nat.beq (xn 175) 2 && (Nat.beq (xo 175) 12 && Nat.ble 3 (xm 175))) = true := by decide +kernel
  simp only [Bool.and_eq_true] at kk
  obtain ⟨k1_, k2_, k3_⟩ := kk
  intro D_ hD o H_
  obtain ⟨D', rfl⟩ : ∃ D', D_ = D' + 1 := ⟨D_ - 1, by omega⟩
  refine xrun_virtual (as := [.int x_, .int y_]) (s' := []) (c := c_) (v := none) hcd ?_ c1_ ?_ (Hr D' (by omega)) H_
  · rw [Nat.eq_of_beq_eq_true k1_]
    rfl
  · simp only [Bool.and_eq_true, xcc]
    rw [hlen, c2_, Nat.eq_of_beq_eq_true k2_]
    exact ⟨rfl, rfl, k3_, rfl, rfl, hx.1, rfl⟩
end
def lJ0 : bT := ([], 0, [(0, wth)], [], [])
def lJt : bT := ([], 0, [(0, wth)], [wth], [])
def lJS (t_ : Int) : bT := ([], 0, [(0, wth)], [wcn t_], [])
def lJC : bT := ([(0, 0, 60)], 1, [(0, wth)], [], [((338, 7), some (.inl (bvr 0)))])
def lC2 (lc : Bool) : bT := match lc with
  | true => ([(1, -2147483648, 2147483647)], 2, [(0, wth), (1, some (.inl (bvr 1)))], [wth], [((338, 7), some (.inl (1, [(0, 1)])))])
  | false => ([], 1, [(0, wth)], [wth], [((338, 7), some (.inl (1, [(0, 1)])))])
def lJD (lc : Bool) (t_ : Int) : bT := match lc with
  | true => ([(0, -2147483648, 2147483647)], 1, [(0, wth), (1, some (.inl (bvr 0)))], [wcn t_], [])
  | false => ([], 0, [(0, wth)], [wcn t_], [])
def lD2 : bT := ([(1, -2147483648, 2147483647)], 2, [(0, wth)], [some (.inl (bvr 1)), wcn 3, wth], [])
noncomputable def lv (m_ op_ c2_ c3_ : Nat) (lc : Bool) : Bool :=
  ((pcal m_ 1 op_ && (pcal m_ c2_ op_ && pcal m_ c3_ 175)) && pcm op_ 0) &&
  ((pchk (prun [] m_ 0 0 [1] lJ0) (pis 1 0 lJt) pno && (pchk (prun [] m_ 4 0 [9] (lJS 1)) (pis 9 0 lJ0) pno && pchk (prun [] m_ 4 0 [9] (lJS 0)) pno (pans 0 []))) &&
  ((pchk (prun [(338, 338, 7, 7)] m_ 9 1 [c2_] lJC) (pis c2_ 1 (lC2 lc)) (pans 1 [((338, 7), bvr 0)])) &&
  ((pchk (prun [] m_ (c2_ + 3) 0 [c3_] (lJD lc 1)) (pis c3_ 1 lD2) pno && pchk (prun [] m_ (c2_ + 3) 0 [c3_] (lJD lc 0)) pno (pans 0 [])) &&
  pchk (prun [] m_ (c3_ + 3) 0 [9] lJ0) (pis 9 0 lJ0) (pans 1 []))))
theorem lv_whole : lv 176 177 29 41 false = true := by decide +kernel
theorem lv_both : lv 177 178 29 41 false = true := by decide +kernel
theorem lv_compared : lv 178 179 45 56 true = true := by decide +kernel
theorem lv_sum : lv 179 180 43 54 true = true := by decide +kernel
theorem lv_product : lv 180 182 52 63 true = true := by decide +kernel
