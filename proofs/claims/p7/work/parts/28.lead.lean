-- ===== the abstract branch
def bside (pc : Nat) (o : Option bE) (n : Nat) (la : bL) (s : List bV) (ov : bO) : List bQ := match o with
  | none => []
  | some G => [(pc, G, n, la, s, ov)]
def bbrc (pc : Nat) (off : Int) (c : Jvm.ClassFile.Cond) (G : bE) (n : Nat) (la : bL) (s : List bV) (ov : bO) (f g : bF) : Option (List bQ) := match (pc : Int) + off with
  | .negSucc _ => none
  | .ofNat t => some (bside t (bcm c G f g) n la s ov ++ bside (pc + 3) (bcm (bngc c) G f g) n la s ov)
def bbr (pc : Nat) (e : Instr × Nat × List Nat) (G : bE) (n : Nat) (la : bL) (sa : List bV) (ov : bO) : Option (List bQ) := match e.1 with
  | .ifCond c off => match sa with
    | some (.inl f) :: s => bbrc pc off c G n la s ov f (bcn 0)
    | _ => none
  | .if_icmp c off => match sa with
    | some (.inl g) :: some (.inl f) :: s => bbrc pc off c G n la s ov f g
    | _ => none
  | _ => none
section
variable {Z : List (Nat × Nat)} {I : Nat → Nat → Option bN} {p : Nat → Int} {mi pc : Nat} {e : Instr × Nat × List Nat} {G : bE} {n : Nat} {la : bL} {sa : List bV} {ov : bO} {lo : xL} {st : List Jvm.Term} {h : xH}
theorem bR_env {G' : bE} (R : bR Z I p (G, n, la, sa, ov) lo st h) (hG : bok G' p ∧ bltE n G' = true) : bR Z I p (G', n, la, sa, ov) lo st h := by
  obtain ⟨r1, r2, r3⟩ := R
  exact ⟨hG.1, hG.2, r3⟩
theorem bside_ok {t : Nat} {o : Option bE} {s : List Jvm.Term} (R : bR Z I p (G, n, la, sa, ov) lo s h) (hG : bRf n p o) (hx : ∀ kk : Nat → xL → List Jvm.Term → xH → List xB → Option xO, xsp mi pc e lo st h [] kk = kk t lo s h []) : ∃ q ∈ bside t o n la sa ov, bSt Z I p mi pc e n lo st h q := by
  cases o with
  | none => exact absurd hG id
  | some G' => exact ⟨_, List.mem_cons_self, bSt_same (bR_env R hG) hx⟩
theorem bbrc_ok {off : Int} {c : Jvm.ClassFile.Cond} {f g : bF} {x y : Int32} {s : List Jvm.Term} {qs : List bQ} (R : bR Z I p (G, n, la, sa, ov) lo s h) (hx : x.toInt = bfv p f) (hy : y.toInt = bfv p g) (hs : bbrc pc off c G n la sa ov f g = some qs)
    (hxs : ∀ kk : Nat → xL → List Jvm.Term → xH → List xB → Option xO, xsp mi pc e lo st h [] kk = xjp pc off fun t => xbr c (.int x) (.int y) [] fun z E' => match z with
      | true => kk t lo s h E'
      | false => xfN (pc + 3) fun pc' => kk pc' lo s h E') : ∃ q ∈ qs, bSt Z I p mi pc e n lo st h q := by
  unfold bbrc at hs
  split at hs
  · cases hs
  · rename_i t ht
    cases hs
    by_cases hc : xcm c x y
    · obtain ⟨q, hq, k⟩ := bside_ok (e := e) (mi := mi) (pc := pc) (st := st) (t := t) R (bcm_ok R.1 R.2.1 hx hy hc) (fun kk => by
        rw [hxs kk]
        simp only [xjp, ht, xfN_eq, xbr, xlit, xcmb_t.mpr hc])
      exact ⟨q, List.mem_append.mpr (Or.inl hq), k⟩
    · have hb : xcmb c x y = false := by
        cases hb : xcmb c x y with
        | false => rfl
        | true => exact absurd (xcmb_t.mp hb) hc
      obtain ⟨q, hq, k⟩ := bside_ok (e := e) (mi := mi) (pc := pc) (st := st) (t := pc + 3) R (bcm_ok R.1 R.2.1 hx hy (xcm_neg hc)) (fun kk => by
        rw [hxs kk]
        simp only [xjp, ht, xfN_eq, xbr, xlit, hb])
      exact ⟨q, List.mem_append.mpr (Or.inr hq), k⟩
theorem bbr_ok {qs : List bQ} (R : bR Z I p (G, n, la, sa, ov) lo st h) (hs : bbr pc e G n la sa ov = some qs) : ∃ q ∈ qs, bSt Z I p mi pc e n lo st h q := by
  obtain ⟨i, ln, ax⟩ := e
  cases i with
  | ifCond c off =>
    simp only [bbr] at hs
    split at hs
    · obtain ⟨t, s, rfl⟩ := bR_top R
      obtain ⟨R1, hv, x, rfl, hx⟩ := bR_pop R
      exact bbrc_ok (y := 0) R1 hx (by rw [bcn_v]; rfl) hs (fun kk => by simp only [xsp, xI, cond_true]; rfl)
    · cases hs
  | if_icmp c off =>
    simp only [bbr] at hs
    split at hs
    · obtain ⟨t, s, rfl⟩ := bR_top R
      obtain ⟨R1, hv, y, rfl, hy⟩ := bR_pop R
      obtain ⟨t, s, rfl⟩ := bR_top R1
      obtain ⟨R2, hw, x, rfl, hx⟩ := bR_pop R1
      exact bbrc_ok R2 hx hy hs (fun kk => by simp only [xsp, xI, Bool.and_self, cond_true]; rfl)
    · cases hs
  | _ => cases hs
end
-- ===== leading on
/-- what ends from there ends from here, alike -/
def bld (d mi pc : Nat) (lo : xL) (st : List Jvm.Term) (h : xH) (pc' : Nat) (lo' : xL) (st' : List Jvm.Term) (h' : xH) : Prop := ∀ o : xO, xrun d mi pc' lo' st' h' o → xrun d mi pc lo st h o
theorem bld_step {d mi pc pc' : Nat} {e : Instr × Nat × List Nat} {lo lo' : xL} {st st' : List Jvm.Term} {h h' : xH} (hcd : xcd mi pc = some e) (hp : xpl e = true) (hs : xcst mi pc e lo st h pc' lo' st' h') : bld d mi pc lo st h pc' lo' st' h' := fun _ H => xrun_step hcd hp hs H
theorem bld_tt {d mi pc pc1 pc2 : Nat} {lo lo1 lo2 : xL} {st st1 st2 : List Jvm.Term} {h h1 h2 : xH} (a : bld d mi pc lo st h pc1 lo1 st1 h1) (b : bld d mi pc1 lo1 st1 h1 pc2 lo2 st2 h2) : bld d mi pc lo st h pc2 lo2 st2 h2 := fun o H => a o (b o H)
/-- all plain steps: what may stand behind one -/
noncomputable def bnx (Z : List (Nat × Nat)) (I : Nat → Nat → Option bN) (mi pc : Nat) (e : Instr × Nat × List Nat) (S : bT) : Option (List bQ) := match bst mi pc e S.1 S.2.1 S.2.2.1 S.2.2.2.1 S.2.2.2.2 with
  | some q => some [q]
  | none => match bsh Z I mi pc e S.1 S.2.1 S.2.2.1 S.2.2.2.1 S.2.2.2.2 with
    | some q => some [q]
    | none => match bsa pc e S.1 S.2.1 S.2.2.1 S.2.2.2.1 S.2.2.2.2 with
      | some q => some [q]
      | none => bbr pc e S.1 S.2.1 S.2.2.1 S.2.2.2.1 S.2.2.2.2
theorem bnx_ok {Z : List (Nat × Nat)} {I : Nat → Nat → Option bN} {p : Nat → Int} {mi pc : Nat} {e : Instr × Nat × List Nat} {S : bT} {lo : xL} {st : List Jvm.Term} {h : xH} {qs : List bQ} (R : bR Z I p S lo st h) (hs : bnx Z I mi pc e S = some qs) : ∃ q ∈ qs, bSt Z I p mi pc e S.2.1 lo st h q := by
  unfold bnx at hs
  cases h1 : bst mi pc e S.1 S.2.1 S.2.2.1 S.2.2.2.1 S.2.2.2.2 with
  | some q =>
    rw [h1] at hs
    cases hs
    exact ⟨q, List.mem_cons_self, bst_ok R h1⟩
  | none =>
    rw [h1] at hs
    simp only at hs
    cases h2 : bsh Z I mi pc e S.1 S.2.1 S.2.2.1 S.2.2.2.1 S.2.2.2.2 with
    | some q =>
      rw [h2] at hs
      cases hs
      exact ⟨q, List.mem_cons_self, bsh_ok R h2⟩
    | none =>
      rw [h2] at hs
      simp only at hs
      cases h3 : bsa pc e S.1 S.2.1 S.2.2.1 S.2.2.2.1 S.2.2.2.2 with
      | some q =>
        rw [h3] at hs
        cases hs
        exact ⟨q, List.mem_cons_self, bsa_ok R h3⟩
      | none =>
        rw [h3] at hs
        exact bbr_ok R hs
