-- ===== the abstract branch
def bbrc (pc : Nat) (off_ : Int) (c_ : Jvm.ClassFile.Cond) (G : bE) (n : Nat) (la : bL) (s_ : List bV) (ov : bO) (f_ g_ : bF) : Option (List bQ) := match (pc : Int) + off_ with
  | .negSucc _ => none
  | .ofNat t_ => some ((bcms c_ G f_ g_).map (fun G' => (t_, G', n, la, s_, ov)) ++ (bcms (bngc c_) G f_ g_).map (fun G' => (pc + 3, G', n, la, s_, ov)))
def bbr (pc : Nat) (e : Instr × Nat × List Nat) (G : bE) (n : Nat) (la : bL) (sa : List bV) (ov : bO) : Option (List bQ) := match e.1 with
  | .ifCond c_ off_ => match sa with
    | some (.inl f_) :: s_ => bbrc pc off_ c_ G n la s_ ov f_ (bcn 0)
    | _ => none
  | .if_icmp c_ off_ => match sa with
    | some (.inl g_) :: some (.inl f_) :: s_ => bbrc pc off_ c_ G n la s_ ov f_ g_
    | _ => none
  | _ => none
section
variable {Z : List (Nat × Nat)} {I : Nat → Nat → Option bN} {W : bW} {p : Nat → Int} {mi pc : Nat} {e : Instr × Nat × List Nat} {G : bE} {n : Nat} {la : bL} {sa : List bV} {ov : bO} {lo : xL} {st : List Jvm.Term} {h : xH}
theorem bbrc_ok {off_ : Int} {c_ : Jvm.ClassFile.Cond} {f_ g_ : bF} {x_ y_ : Int32} {s_ : List Jvm.Term} {qs : List bQ} (R : bR Z I p (G, n, la, sa, ov) lo s_ h) (hx : x_.toInt = bfv p f_) (hy : y_.toInt = bfv p g_) (hs : bbrc pc off_ c_ G n la sa ov f_ g_ = some qs)
    (hxs : ∀ kk : Nat → xL → List Jvm.Term → xH → List xB → Option xO, xsp mi pc e lo st h [] kk = xjp pc off_ fun t_ => xbr c_ (.int x_) (.int y_) [] fun z_ E'_ => match z_ with
      | true => kk t_ lo s_ h E'_
      | false => xfN (pc + 3) fun pc' => kk pc' lo s_ h E'_) : ∃ q_ ∈ qs, bSt Z I W p mi pc e n lo st h q_ := by
  unfold bbrc at hs
  split at hs
  · cases hs
  · rename_i t_ ht
    cases hs
    by_cases hc_ : xcm c_ x_ y_
    · obtain ⟨G', hG', k_⟩ := bcms_ok R.1 R.2.1 hx hy hc_
      refine ⟨_, List.mem_append.mpr (Or.inl (List.mem_map.mpr ⟨G', hG', rfl⟩)), bSt_same (bR_env R k_) (fun kk => ?_)⟩
      rw [hxs kk]
      simp only [xjp, ht, xfN_eq, xbr, xlit, xcmb_t.mpr hc_]
    · have hb_ : xcmb c_ x_ y_ = false := by
        cases hb_ : xcmb c_ x_ y_ with
        | false => rfl
        | true => exact absurd (xcmb_t.mp hb_) hc_
      obtain ⟨G', hG', k_⟩ := bcms_ok R.1 R.2.1 hx hy (xcm_neg hc_)
      refine ⟨_, List.mem_append.mpr (Or.inr (List.mem_map.mpr ⟨G', hG', rfl⟩)), bSt_same (bR_env R k_) (fun kk => ?_)⟩
      rw [hxs kk]
      simp only [xjp, ht, xfN_eq, xbr, xlit, hb_]
theorem bbr_ok {qs : List bQ} (R : bR Z I p (G, n, la, sa, ov) lo st h) (hs : bbr pc e G n la sa ov = some qs) : ∃ q_ ∈ qs, bSt Z I W p mi pc e n lo st h q_ := by
  obtain ⟨i_, ln, ax⟩ := e
  cases i_ with
  | ifCond c_ off_ =>
    simp only [bbr] at hs
    split at hs
    · obtain ⟨t_, s_, rfl⟩ := bR_top R
      obtain ⟨R1, hv, x_, rfl, hx⟩ := bR_pop R
      exact bbrc_ok (y_ := 0) R1 hx (by rw [bcn_v]; rfl) hs (fun kk => by simp only [xsp, xI, cond_true]; rfl)
    · cases hs
  | if_icmp c_ off_ =>
    simp only [bbr] at hs
    split at hs
    · obtain ⟨t_, s_, rfl⟩ := bR_top R
      obtain ⟨R1, hv, y_, rfl, hy⟩ := bR_pop R
      obtain ⟨t_, s_, rfl⟩ := bR_top R1
      obtain ⟨R2, hw, x_, rfl, hx⟩ := bR_pop R1
      exact bbrc_ok R2 hx hy hs (fun kk => by simp only [xsp, xI, Bool.and_self, cond_true]; rfl)
    · cases hs
  | _ => cases hs
end
-- ===== leading on
/-- what ends from there ends from here, alike -/
def bld (d_ mi pc : Nat) (lo : xL) (st : List Jvm.Term) (h : xH) (pc' : Nat) (lo' : xL) (st' : List Jvm.Term) (h' : xH) : Prop := ∀ o : xO, xrun d_ mi pc' lo' st' h' o → xrun d_ mi pc lo st h o
theorem bld_step {d_ mi pc pc' : Nat} {e : Instr × Nat × List Nat} {lo lo' : xL} {st st' : List Jvm.Term} {h h' : xH} (hcd : xcd mi pc = some e) (hp : xpl e = true) (hs : xcst mi pc e lo st h pc' lo' st' h') : bld d_ mi pc lo st h pc' lo' st' h' := fun _ H_ => xrun_step hcd hp hs H_
theorem bld_tt {d_ mi pc pc1 pc2 : Nat} {lo lo1 lo2 : xL} {st st1_ st2_ : List Jvm.Term} {h h1 h2 : xH} (a_ : bld d_ mi pc lo st h pc1 lo1 st1_ h1) (b_ : bld d_ mi pc1 lo1 st1_ h1 pc2 lo2 st2_ h2) : bld d_ mi pc lo st h pc2 lo2 st2_ h2 := fun o H_ => a_ o (b_ o H_)
/-- which of the steps an instruction is -/
def bcls (i_ : Instr) : Nat := match i_ with
  | .getfield _ => 1
  | .arraylength => 1
  | .iaload => 9
  | .aaload => 1
  | .putfield _ => 2
  | .iastore => 2
  | .ifCond _ _ => 3
  | .if_icmp _ _ => 3
  | .imul => 4
  | .idiv => 4
  | .irem => 4
  | .iand => 5
  | .ior => 5
  | .ixor => 5
  | .ishl => 5
  | .ishr => 5
  | .iushr => 5
  | .ineg => 5
  | .i2b => 5
  | .i2s => 5
  | .l2i => 5
  | .i2l => 5
  | .lushr => 5
  | .lshr => 5
  | .lshl => 5
  | .land => 5
  | .lor => 5
  | .lload_n _ => 5
  | .ldc2_w _ => 5
  | .getstatic _ => 8
  | .ldc _ => 8
  | .lload _ => 8
  | .lconst _ => 8
  | .ladd => 8
  | .lsub => 8
  | .i2c => 8
  | .lstore_n _ => 8
  | .lstore _ => 8
  | .aload_n _ => 6
  | .aload _ => 6
  | .ifnonnull _ => 6
  | .lookupswitch _ _ => 6
  | .tableswitch _ _ _ _ => 6
  | .invokestatic _ => 7
  | _ => 0
def bone1 (o : Option bQ) : Option (List bQ) := match o with
  | some q_ => some [q_]
  | none => none
noncomputable def bnx (zf : Nat → Option (Nat × Nat)) (I : Nat → Nat → Option bN) (W : bW) (mi pc : Nat) (e : Instr × Nat × List Nat) (S_ : bT) : Option (List bQ) := match bcls e.1 with
  | 0 => bone1 (bst mi pc e S_.1 S_.2.1 S_.2.2.1 S_.2.2.2.1 S_.2.2.2.2)
  | 1 => bone1 (bsr zf I pc e S_.1 S_.2.1 S_.2.2.1 S_.2.2.2.1 S_.2.2.2.2)
  | 2 => (match bswp zf I W pc e S_.1 S_.2.1 S_.2.2.1 S_.2.2.2.1 S_.2.2.2.2 with
    | some q_ => some [q_]
    | none => bone1 (bsw zf I W pc e S_.1 S_.2.1 S_.2.2.1 S_.2.2.2.1 S_.2.2.2.2))
  | 3 => bbr pc e S_.1 S_.2.1 S_.2.2.1 S_.2.2.2.1 S_.2.2.2.2
  | 4 => bone1 (bsa pc e S_.1 S_.2.1 S_.2.2.1 S_.2.2.2.1 S_.2.2.2.2)
  | 5 => bone1 (bsb pc e S_.1 S_.2.1 S_.2.2.1 S_.2.2.2.1 S_.2.2.2.2)
  | 6 => (match bbs pc e S_.1 S_.2.1 S_.2.2.1 S_.2.2.2.1 S_.2.2.2.2 with
    | some qs => some qs
    | none => bone1 (bst mi pc e S_.1 S_.2.1 S_.2.2.1 S_.2.2.2.1 S_.2.2.2.2))
  | 8 => (match bst mi pc e S_.1 S_.2.1 S_.2.2.1 S_.2.2.2.1 S_.2.2.2.2 with
    | some q_ => some [q_]
    | none => bone1 (bsmo mi pc e S_.1 S_.2.1 S_.2.2.1 S_.2.2.2.1 S_.2.2.2.2))
  | 9 => (match bsrw zf I pc e S_.1 S_.2.1 S_.2.2.1 S_.2.2.2.1 S_.2.2.2.2 with
    | some q_ => some [q_]
    | none => (match bsr zf I pc e S_.1 S_.2.1 S_.2.2.1 S_.2.2.2.1 S_.2.2.2.2 with
      | some q_ => some [q_]
      | none => bone1 (bsmo mi pc e S_.1 S_.2.1 S_.2.2.1 S_.2.2.2.1 S_.2.2.2.2)))
  | _ => (match bsw zf I W pc e S_.1 S_.2.1 S_.2.2.1 S_.2.2.2.1 S_.2.2.2.2 with
    | some q_ => some [q_]
    | none => bone1 (bsb pc e S_.1 S_.2.1 S_.2.2.1 S_.2.2.2.1 S_.2.2.2.2))
section
variable {Z : List (Nat × Nat)} {I : Nat → Nat → Option bN} {W : bW} {p : Nat → Int} {mi pc : Nat} {e : Instr × Nat × List Nat} {n : Nat} {lo : xL} {st : List Jvm.Term} {h : xH}
theorem bone1_ok {o : Option bQ} {qs : List bQ} (hq : ∀ q_, o = some q_ → bSt Z I W p mi pc e n lo st h q_) (hs : bone1 o = some qs) : ∃ q_ ∈ qs, bSt Z I W p mi pc e n lo st h q_ := by
  unfold bone1 at hs
  cases o with
  | none => cases hs
  | some q_ =>
    cases hs
    exact ⟨q_, List.mem_cons_self, hq q_ rfl⟩
theorem bnx_ok (hZ : Z.length = 354) {zf : Nat → Option (Nat × Nat)} (hz : ∀ a_ z_, zf a_ = some z_ → xhg Z a_ = some z_) {S_ : bT} {qs : List bQ} (R : bR Z I p S_ lo st h) (hs : bnx zf I W mi pc e S_ = some qs) : ∃ q_ ∈ qs, bSt Z I W p mi pc e S_.2.1 lo st h q_ := by
  unfold bnx at hs
  split at hs
  · exact bone1_ok (fun q_ hq => bst_ok R hq) hs
  · exact bone1_ok (fun q_ hq => bsr_ok hz R hq) hs
  · split at hs
    · rename_i q_ hb_
      cases hs
      exact ⟨q_, List.mem_cons_self, bswp_ok hZ hz R hb_⟩
    · exact bone1_ok (fun q_ hq => bsw_ok hZ hz R hq) hs
  · exact bbr_ok R hs
  · exact bone1_ok (fun q_ hq => bsa_ok R hq) hs
  · exact bone1_ok (fun q_ hq => bsb_ok R hq) hs
  · split at hs
    · rename_i qs' hb_
      cases hs
      exact bbs_ok R hb_
    · exact bone1_ok (fun q_ hq => bst_ok R hq) hs
  · split at hs
    · rename_i q_ hb_
      cases hs
      exact ⟨q_, List.mem_cons_self, bst_ok R hb_⟩
    · exact bone1_ok (fun q_ hq => bsmo_ok R hq) hs
  · split at hs
    · rename_i q_ hb_
      cases hs
      exact ⟨q_, List.mem_cons_self, bsrw_ok hz R hb_⟩
    · split at hs
      · rename_i q_ hb_
        cases hs
        exact ⟨q_, List.mem_cons_self, bsr_ok hz R hb_⟩
      · exact bone1_ok (fun q_ hq => bsmo_ok R hq) hs
  · split at hs
    · rename_i q_ hb_
      cases hs
      exact ⟨q_, List.mem_cons_self, bsw_ok hZ hz R hb_⟩
    · exact bone1_ok (fun q_ hq => bsb_ok R hq) hs
end
