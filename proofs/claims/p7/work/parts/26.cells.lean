-- ===== the abstract step of what reads and writes cells
def bgot (I : Nat → Nat → Option bN) (pc w : Nat) (G : bE) (n : Nat) (la : bL) (s : List bV) (ov : bO) (a j : Nat) : Option bQ := match brd I n ov a j with
  | none => none
  | some r => match r.2 with
    | none => some (pc + w, G, n, la, r.1 :: s, ov)
    | some b => some (pc + w, (n, b.1, b.2) :: G, n + 1, la, r.1 :: s, ((a, j), r.1) :: ov)
/-- the only cell that a value may be -/
def bone (v : bV) : Option Nat := match v with
  | some (.inr [.index a]) => some a
  | _ => none
theorem bone_ok {p : Nat → Int} {v : bV} {t : Jvm.Term} {a : Nat} (h : bone v = some a) (g : bga p v t) : t = .index a := by
  unfold bone at h
  split at h
  · cases h
    exact List.mem_singleton.mp g.1
  · cases h
noncomputable def bsh (Z : List (Nat × Nat)) (I : Nat → Nat → Option bN) (mi pc : Nat) (e : Instr × Nat × List Nat) (G : bE) (n : Nat) (la : bL) (sa : List bV) (ov : bO) : Option bQ := match e.1 with
  | .getfield _ => match e.2.2 with
    | [_, ci, kf] => match sa with
      | v :: s => match bone v with
        | none => none
        | some a => match xhg Z a with
          | none => none
          | some z => match Nat.beq z.1 ci && Nat.ble (kf + 1) z.2 with
            | false => none
            | true => bgot I pc 3 G n la s ov a kf
      | _ => none
    | _ => none
  | .putfield _ => match e.2.2 with
    | [_, ci, kf] => match sa with
      | some (.inl f) :: v :: s => match bone v with
        | none => none
        | some a => match xhg Z a with
          | none => none
          | some z => match Nat.beq z.1 ci && (Nat.ble (kf + 1) z.2 && (decide (xty ci kf = .int) && !(xT ci kf).2.2.2)) with
            | false => none
            | true => some (pc + 3, G, n, la, s, ((a, kf), some (.inl f)) :: ov)
      | _ => none
    | _ => none
  | .arraylength => match sa with
    | v :: s => match bone v with
      | none => none
      | some a => match xhg Z a with
        | none => none
        | some z => match Nat.ble 20 z.1 && Nat.ble z.1 24 with
          | false => none
          | true => some (pc + 1, G, n, la, bint (Int32.ofNat z.2) :: s, ov)
    | _ => none
  | .iaload => match sa with
    | some (.inl f) :: v :: s => match bone v with
      | none => none
      | some a => match xhg Z a with
        | none => none
        | some z => match Nat.beq z.1 20 with
          | false => none
          | true => match bpos G f with
            | none => none
            | some ps => match bhull I G ov a z.2 ps with
              | none => none
              | some b => match ps with
                | [x] => bgot I pc 1 G n la s ov a x.toNat
                | _ => some (pc + 1, (n, b.1, b.2) :: G, n + 1, la, some (.inl (bvr n)) :: s, ov)
    | _ => none
  | .iastore => match sa with
    | some (.inl g) :: some (.inl f) :: v :: s => match bone v with
      | none => none
      | some a => match xhg Z a with
        | none => none
        | some z => match Nat.beq z.1 20 with
          | false => none
          | true => match bpos G f with
            | some [x] => match decide (0 ≤ x) && decide (x < (z.2 : Int)) with
              | false => none
              | true => some (pc + 1, G, n, la, s, ((a, x.toNat), some (.inl g)) :: ov)
            | _ => none
    | _ => none
  | _ => none
section
variable {Z : List (Nat × Nat)} {I : Nat → Nat → Option bN} {p : Nat → Int} {mi pc : Nat} {e : Instr × Nat × List Nat} {G : bE} {n : Nat} {la : bL} {sa : List bV} {ov : bO} {lo : xL} {st : List Jvm.Term} {h : xH}
theorem bvr_l {n : Nat} : bvl (n + 1) (some (.inl (bvr n))) = true := by
  simp only [bvl, blt, bvr, List.all_cons, List.all_nil, Bool.and_true]
  exact Nat.ble_eq_true_of_le (Nat.le_refl _)
theorem bSt_got {w a j : Nat} {z : Nat × Nat} {c : xC} {t : Jvm.Term} {s : List Jvm.Term} {q : bQ} (R : bR Z I p (G, n, la, sa, ov) lo s h) (hz : xhg Z a = some z) (hc : h[a]? = some c) (ht : c.2[j]? = some t) (hs : bgot I pc w G n la sa ov a j = some q) (hx : ∀ kk : Nat → xL → List Jvm.Term → xH → List xB → Option xO, xsp mi pc e lo st h [] kk = xpu pc w lo s h [] t kk) : bSt Z I p mi pc e n lo st h q := by
  unfold bgot at hs
  cases hb : brd I n ov a j with
  | none => rw [hb] at hs; cases hs
  | some r =>
    rw [hb] at hs
    obtain ⟨v, b⟩ := r
    have k := bR_read R hc ht ⟨z, by rw [← xhg_eq]; exact hz⟩ hb
    cases b with
    | none =>
      cases hs
      exact bSt_push R k.1 k.2 hx
    | some b =>
      obtain ⟨x, rfl, x2, x3, rfl⟩ := k
      cases hs
      have hg : bga (bup p n x.toInt) (some (.inl (bvr n))) (.int x) := ⟨x, rfl, bvr_v.symm⟩
      exact ⟨bup p n x.toInt, lo, .int x :: s, h, fun v hv => bup_ne (by omega), Nat.le_succ _, bR_push (bR_note (bR_new R x2 x3) hc ht bvr_l hg) bvr_l hg, fun kk => (hx kk).trans (by simp only [xpu, xfT_eq, xfN_eq])⟩
theorem xix_at {x : Int32} {m : Nat} (h1 : 0 ≤ x.toInt) (h2 : x.toInt < (m : Int)) : xix (.int x) m = some x.toInt.toNat := by
  have e0 : x.toNatClampNeg = x.toInt.toNat := rfl
  have e1 : decide (x < 0) = false := by
    refine decide_eq_false (fun q => ?_)
    have := Int32.lt_iff_toInt_lt.mp q
    have e : (0 : Int32).toInt = 0 := rfl
    omega
  have e2 : Nat.ble m x.toNatClampNeg = false := by
    cases e : Nat.ble m x.toNatClampNeg with
    | false => rfl
    | true =>
      have := Nat.le_of_ble_eq_true e
      omega
  simp only [xix, e1, e2, Bool.or_self]
  rw [e0]
set_option maxHeartbeats 4000000 in
theorem bsh_ok {q : bQ} (R : bR Z I p (G, n, la, sa, ov) lo st h) (hs : bsh Z I mi pc e G n la sa ov = some q) : bSt Z I p mi pc e n lo st h q := by
  obtain ⟨i, ln, ax⟩ := e
  have r1 := R.1
  cases i with
  | getfield idx =>
    simp only [bsh] at hs
    rcases ax with _ | ⟨x0, _ | ⟨ci, _ | ⟨kf, _ | ⟨x9, t9⟩⟩⟩⟩ <;> first | (cases hs; done) | skip
    rcases sa with _ | ⟨v, s⟩
    · cases hs
    simp only at hs
    cases hv : bone v with
    | none => rw [hv] at hs; cases hs
    | some a =>
    rw [hv] at hs
    simp only at hs
    cases hz : xhg Z a with
    | none => rw [hz] at hs; cases hs
    | some z =>
    rw [hz] at hs
    simp only at hs
    cases hk : (Nat.beq z.1 ci && Nat.ble (kf + 1) z.2) with
    | false => rw [hk] at hs; cases hs
    | true =>
    rw [hk] at hs
    simp only [Bool.and_eq_true] at hk
    obtain ⟨t, s', rfl⟩ := bR_top R
    obtain ⟨R1, -, g⟩ := bR_pop R
    have e0 := bone_ok hv g
    subst e0
    obtain ⟨c, c1, c2, c3, c4, c5⟩ := bR_cell R1 hz
    have hlt : kf < c.2.length := by have := Nat.le_of_ble_eq_true hk.2; omega
    exact bSt_got R1 hz c1 (List.getElem?_eq_getElem hlt) hs (fun kk => by simp only [xsp, xhg_eq, c1, c2, hk.1, cond_true, List.getElem?_eq_getElem hlt])
  | putfield idx =>
    simp only [bsh] at hs
    rcases ax with _ | ⟨x0, _ | ⟨ci, _ | ⟨kf, _ | ⟨x9, t9⟩⟩⟩⟩ <;> first | (cases hs; done) | skip
    simp only at hs
    split at hs
    · rename_i f v s
      cases hv : bone v with
      | none => rw [hv] at hs; cases hs
      | some a =>
      rw [hv] at hs
      simp only at hs
      cases hz : xhg Z a with
      | none => rw [hz] at hs; cases hs
      | some z =>
      rw [hz] at hs
      simp only at hs
      cases hk : (Nat.beq z.1 ci && (Nat.ble (kf + 1) z.2 && (decide (xty ci kf = .int) && !(xT ci kf).2.2.2))) with
      | false => rw [hk] at hs; cases hs
      | true =>
      rw [hk] at hs
      cases hs
      simp only [Bool.and_eq_true, decide_eq_true_eq] at hk
      obtain ⟨t, s', rfl⟩ := bR_top R
      obtain ⟨R1, hvl, g⟩ := bR_pop R
      obtain ⟨t2, s', rfl⟩ := bR_top R1
      obtain ⟨R2, -, g2⟩ := bR_pop R1
      have e0 := bone_ok hv g2
      subst e0
      have gI := bga_I g
      obtain ⟨c, c1, c2, c3, c4, c5⟩ := bR_cell R2 hz
      have hlt : kf < c.2.length := by have := Nat.le_of_ble_eq_true hk.2.1; omega
      have hx : xidx h.length t = true := by obtain ⟨x, rfl, -⟩ := g; rfl
      refine ⟨p, lo, s', _, fun _ _ => rfl, Nat.le_refl _, bR_put R2 c1 hlt hvl g hx, fun kk => ?_⟩
      simp only [xsp, xhg_eq, c1, c2, hk.1, Nat.ble_eq_true_of_le hlt, hx, hk.2.2.1, xfits, gI, hk.2.2.2, Bool.true_or, Bool.and_self, cond_true, xst_eq, xfN_eq]
    · cases hs
  | arraylength =>
    simp only [bsh] at hs
    rcases sa with _ | ⟨v, s⟩
    · cases hs
    simp only at hs
    cases hv : bone v with
    | none => rw [hv] at hs; cases hs
    | some a =>
    rw [hv] at hs
    simp only at hs
    cases hz : xhg Z a with
    | none => rw [hz] at hs; cases hs
    | some z =>
    rw [hz] at hs
    simp only at hs
    cases hk : (Nat.ble 20 z.1 && Nat.ble z.1 24) with
    | false => rw [hk] at hs; cases hs
    | true =>
    rw [hk] at hs
    cases hs
    obtain ⟨t, s', rfl⟩ := bR_top R
    obtain ⟨R1, -, g⟩ := bR_pop R
    have e0 := bone_ok hv g
    subst e0
    obtain ⟨c, c1, c2, c3, c4, c5⟩ := bR_cell R1 hz
    exact bSt_push R1 rfl bint_ok (fun kk => by simp only [xsp, xhg_eq, c1, c2, hk, cond_true, c3])
  | iaload =>
    simp only [bsh] at hs
    split at hs
    · rename_i f v s
      cases hv : bone v with
      | none => rw [hv] at hs; cases hs
      | some a =>
      rw [hv] at hs
      simp only at hs
      cases hz : xhg Z a with
      | none => rw [hz] at hs; cases hs
      | some z =>
      rw [hz] at hs
      simp only at hs
      cases hk : Nat.beq z.1 20 with
      | false => rw [hk] at hs; cases hs
      | true =>
      rw [hk] at hs
      simp only at hs
      cases hp : bpos G f with
      | none => rw [hp] at hs; cases hs
      | some ps =>
      rw [hp] at hs
      simp only at hs
      cases hb : bhull I G ov a z.2 ps with
      | none => rw [hb] at hs; cases hs
      | some b =>
      rw [hb] at hs
      obtain ⟨t, s', rfl⟩ := bR_top R
      obtain ⟨R1, -, x, rfl, hx⟩ := bR_pop R
      obtain ⟨t2, s', rfl⟩ := bR_top R1
      obtain ⟨R2, -, g2⟩ := bR_pop R1
      have e0 := bone_ok hv g2
      subst e0
      obtain ⟨c, c1, c2, c3, c4, c5⟩ := bR_cell R2 hz
      have hm := bpos_ok r1 hp
      obtain ⟨k1, k2, w, w1, w2, w3⟩ := bhull_ok r1 c4 c3 hb _ hm
      rw [← hx] at k1 k2 w1
      have hxi : xix (.int x) c.2.length = some x.toInt.toNat := xix_at k1 (by omega)
      have hxs : ∀ kk : Nat → xL → List Jvm.Term → xH → List xB → Option xO, xsp mi pc (.iaload, ln, ax) lo (.int x :: .index a :: s') h [] kk = xpu pc 1 lo s' h [] (.int w) kk := fun kk => by
        simp only [xsp, xhg_eq, c1, c2, hk, cond_true, hxi, w1, xI]
      simp only at hs
      split at hs
      · rename_i y
        have hy : x.toInt = y := by rw [hx]; exact List.mem_singleton.mp hm
        rw [← hy] at hs
        exact bSt_got R2 hz c1 w1 hs hxs
      · cases hs
        exact ⟨bup p n w.toInt, lo, .int w :: s', h, fun v hv => bup_ne (by omega), Nat.le_succ _, bR_push (bR_new R2 w2 w3) bvr_l ⟨w, rfl, bvr_v.symm⟩, fun kk => (hxs kk).trans (by simp only [xpu, xfT_eq, xfN_eq])⟩
    · cases hs
  | iastore =>
    simp only [bsh] at hs
    split at hs
    · rename_i g f v s
      cases hv : bone v with
      | none => rw [hv] at hs; cases hs
      | some a =>
      rw [hv] at hs
      simp only at hs
      cases hz : xhg Z a with
      | none => rw [hz] at hs; cases hs
      | some z =>
      rw [hz] at hs
      simp only at hs
      cases hk : Nat.beq z.1 20 with
      | false => rw [hk] at hs; cases hs
      | true =>
      rw [hk] at hs
      simp only at hs
      split at hs
      · rename_i y hp
        cases hr : (decide (0 ≤ y) && decide (y < (z.2 : Int))) with
        | false => rw [hr] at hs; cases hs
        | true =>
        rw [hr] at hs
        cases hs
        simp only [Bool.and_eq_true, decide_eq_true_eq] at hr
        obtain ⟨t, s', rfl⟩ := bR_top R
        obtain ⟨R0, hvl, g0⟩ := bR_pop R
        obtain ⟨t1, s', rfl⟩ := bR_top R0
        obtain ⟨R1, -, x, rfl, hx⟩ := bR_pop R0
        obtain ⟨t2, s', rfl⟩ := bR_top R1
        obtain ⟨R2, -, g2⟩ := bR_pop R1
        have e0 := bone_ok hv g2
        subst e0
        have gI := bga_I g0
        obtain ⟨c, c1, c2, c3, c4, c5⟩ := bR_cell R2 hz
        have hy : x.toInt = y := by rw [hx]; exact List.mem_singleton.mp (bpos_ok r1 hp)
        have hlt : y.toNat < c.2.length := by omega
        have hxi : xix (.int x) c.2.length = some y.toNat := by rw [← hy]; exact xix_at (by omega) (by omega)
        have hxx : xidx h.length t = true := by obtain ⟨x, rfl, -⟩ := g0; rfl
        refine ⟨p, lo, s', _, fun _ _ => rfl, Nat.le_refl _, bR_put R2 c1 hlt hvl g0 hxx, fun kk => ?_⟩
        simp only [xsp, xhg_eq, c1, c2, hk, gI, Bool.and_self, cond_true, hxi, xst_eq, xfN_eq]
      · cases hs
    · cases hs
  | _ => cases hs
end
