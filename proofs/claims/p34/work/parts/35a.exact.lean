-- ===== an exact evaluator: ints as terms over unknowns, places known ahead, an open branch gives two ends. First: terms
def yv (r : Nat → Value) (t : Jvm.Term) : Int32 := xti (xdv r xid t)
/-- what a term stands for, as a literal; references by their names -/
def ysb (r : Nat → Value) (g : Nat → Nat) (t : Jvm.Term) : Jvm.Term := match xI t with
  | true => .int (yv r t)
  | false => match xG t with
    | true => .long (xtl (xdv r xid t))
    | false => match t with
      | .index n => .index (g n)
      | t => t
theorem xI_noG {t : Jvm.Term} (h : xI t = true) : xG t = false := by
  cases hg : xG t with
  | false => rfl
  | true =>
    exfalso
    cases t <;> simp only [xI] at h <;> simp only [xG] at hg <;> first | (exact absurd h (by decide)) | (exact absurd hg (by decide)) | skip
    · rw [h] at hg
      exact absurd hg (by decide)
    · rename_i o a b
      cases o <;> first | (exact absurd h (by decide)) | (exact absurd hg (by decide))
    · rename_i o a
      cases o <;> first | (exact absurd h (by decide)) | (exact absurd hg (by decide))
theorem ble_no {a b : Nat} (h : b < a) : Nat.ble a b = false := by
  cases k : Nat.ble a b with
  | false => rfl
  | true => exact absurd (Nat.le_of_ble_eq_true k) (by omega)
theorem xF_noI {t : Jvm.Term} (h : xF t = true) : xI t = false := by
  cases t <;> first | rfl | (exfalso; revert h; simp [xF]; done) | skip
  rename_i i
  simp only [xF] at h
  simp only [xI]
  cases h1 : xiv i with
  | false => rfl
  | true => rw [h1] at h; exact absurd h (by decide)
section
variable {r : Nat → Value} {g : Nat → Nat} {a b t : Jvm.Term}
theorem ysb_I (h : xI t = true) : ysb r g t = .int (yv r t) := by
  unfold ysb
  rw [h]
theorem ysb_G (h : xG t = true) : ysb r g t = .long (xtl (xdv r xid t)) := by
  have k : xI t = false := by
    cases hi : xI t with
    | false => rfl
    | true => rw [xI_noG hi] at h; cases h
  unfold ysb
  rw [k]
  simp only [h]
theorem ysb_k (r : Nat → Value) (g : Nat → Nat) (t : Jvm.Term) : (xI t = true ∧ ysb r g t = .int (yv r t)) ∨ (xI t = false ∧ xG t = true ∧ ysb r g t = .long (xtl (xdv r xid t))) ∨ (xI t = false ∧ xG t = false ∧ ((∃ n, t = .index n ∧ ysb r g t = .index (g n)) ∨ ysb r g t = t)) := by
  cases hi : xI t with
  | true => exact Or.inl ⟨rfl, ysb_I hi⟩
  | false =>
    cases hg : xG t with
    | true => exact Or.inr (Or.inl ⟨rfl, rfl, ysb_G hg⟩)
    | false =>
      refine Or.inr (Or.inr ⟨rfl, rfl, ?_⟩)
      unfold ysb
      rw [hi]
      simp only [hg]
      split
      · exact Or.inl ⟨_, rfl, rfl⟩
      · exact Or.inr rfl
theorem xI_y : xI (ysb r g t) = xI t := by
  rcases ysb_k r g t with ⟨h, e⟩ | ⟨h, h2, e⟩ | ⟨h, h2, ⟨n, e1, e⟩ | e⟩
  · exact (congrArg xI e).trans h.symm
  · exact (congrArg xI e).trans h.symm
  · subst e1
    rfl
  · rw [e]
theorem xG_y : xG (ysb r g t) = xG t := by
  rcases ysb_k r g t with ⟨h, e⟩ | ⟨h, h2, e⟩ | ⟨h, h2, ⟨n, e1, e⟩ | e⟩
  · exact (congrArg xG e).trans (xI_noG h).symm
  · exact (congrArg xG e).trans h2.symm
  · subst e1
    rfl
  · rw [e]
theorem xF_y (h : xF t = true) : xF (ysb r g t) = true := by
  rcases ysb_k r g t with ⟨k, e⟩ | ⟨k, h2, e⟩ | ⟨k, h2, ⟨n, e1, e⟩ | e⟩
  · rw [xF_noI h] at k
    cases k
  · rw [xF_notG h] at h2
    cases h2
  · subst e1
    rfl
  · rw [e]
    exact h
theorem xlit_y {x : Int32} (h : xlit t = some x) : xlit (ysb r g t) = some x := by
  rw [xlit_eq h]
  rfl
theorem xfits_y {ty : FieldType} (h : xfits ty t = true) : xfits ty (ysb r g t) = true := by
  cases ty <;> first | (cases h; done) | skip
  all_goals simp only [xfits] at h ⊢
  all_goals first | (rw [xI_y]; exact h) | (exact xF_y h) | skip
  cases hx : xlit t with
  | none => rw [hx] at h; cases h
  | some x => rw [hx] at h; rw [xlit_y hx]; exact h
theorem xrt_y {ty : Option FieldType} (h : xrt ty t = true) : xrt ty (ysb r g t) = true := by
  rcases ty with _ | ty
  · cases h
  cases ty <;> first | (cases h; done) | skip
  all_goals simp only [xrt] at h ⊢
  all_goals first | (rw [xI_y]; exact h) | skip
  cases hx : xlit t with
  | none => rw [hx] at h; cases h
  | some x => rw [hx] at h; rw [xlit_y hx]; exact h
theorem xrr_y {ty : Option FieldType} (h : xrr ty t = true) : xrr ty (ysb r g t) = true := by
  rcases ty with _ | ty
  · cases h
  cases ty <;> first | (cases h; done) | (exact xF_y h)
def ylo (r : Nat → Value) (g : Nat → Nat) (lo : xL) : xL := lo.map (fun q => (q.1, ysb r g q.2))
theorem xlk_y {lo : xL} {i : Nat} (h : xlk lo i = some t) : xlk (ylo r g lo) i = some (ysb r g t) := by
  induction lo with
  | nil => cases h
  | cons q l ih =>
    simp only [xlk] at h
    simp only [ylo, List.map_cons, xlk]
    cases e : Nat.beq q.1 i with
    | true => rw [e] at h; cases h; rfl
    | false => rw [e] at h; exact ih h
theorem xs1_y {lo : xL} {i : Nat} : xs1 (ylo r g lo) i (ysb r g t) = ylo r g (xs1 lo i t) := by
  unfold xs1 ylo
  rw [List.map_cons, List.filter_map]
  refine congrArg (List.cons _) (congrArg (List.map _) (List.filter_congr (fun q _ => ?_)))
  simp only [Function.comp, xG_y]
theorem xs2_y {lo : xL} {i : Nat} : xs2 (ylo r g lo) i (ysb r g t) = ylo r g (xs2 lo i t) := by
  unfold xs2 ylo
  rw [List.map_cons, List.filter_map]
  refine congrArg (List.cons _) (congrArg (List.map _) (List.filter_congr (fun q _ => ?_)))
  simp only [Function.comp, xG_y]
theorem xtk_y {n : Nat} : ∀ {st acc as s : List Jvm.Term}, xtk n st acc = some (as, s) → xtk n (st.map (ysb r g)) (acc.map (ysb r g)) = some (as.map (ysb r g), s.map (ysb r g)) := by
  induction n with
  | zero =>
    intro st acc as s h
    simp only [xtk] at h ⊢
    cases h
    rfl
  | succ n ih =>
    intro st acc as s h
    cases st with
    | nil => cases h
    | cons u w =>
      simp only [xtk] at h
      exact ih (acc := u :: acc) h
theorem xal_y : ∀ {l : List Jvm.Term} {i : Nat}, xal i (l.map (ysb r g)) = ylo r g (xal i l) := by
  intro l
  induction l with
  | nil => intro i; rfl
  | cons u w ih =>
    intro i
    show (i, ysb r g u) :: xal (bif xG (ysb r g u) then i + 2 else i + 1) (w.map (ysb r g)) = (i, ysb r g u) :: ylo r g (xal (bif xG u then i + 2 else i + 1) w)
    rw [xG_y, ih]
theorem xasz_y : ∀ {l : List Jvm.Term}, xasz (l.map (ysb r g)) = xasz l := by
  intro l
  induction l with
  | nil => rfl
  | cons u w ih =>
    show (bif xG (ysb r g u) then 2 else 1) + xasz (w.map (ysb r g)) = (bif xG u then 2 else 1) + xasz w
    rw [xG_y, ih]
theorem notG_y {s : List Jvm.Term} (h : s.all (fun t => !(xG t)) = true) : (s.map (ysb r g)).all (fun t => !(xG t)) = true := by
  rw [List.all_map]
  refine List.all_eq_true.mpr (fun u hu => ?_)
  show (!(xG (ysb r g u))) = true
  rw [xG_y]
  exact List.all_eq_true.mp h u hu
theorem xad_I (ha : xI a = true) (hb : xI b = true) : ysb r g (xad a b) = xad (ysb r g a) (ysb r g b) := by
  have h1 : xI (xad a b) = true := by
    cases hx : xlit a <;> cases hy : xlit b <;> simp only [xad, hx, hy] <;> rfl
  rw [ysb_I h1, ysb_I ha, ysb_I hb]
  show Jvm.Term.int (xti (xdv r xid (xad a b))) = .int (yv r a + yv r b)
  rw [xad_dv]
  rfl
theorem xsb_I (ha : xI a = true) (hb : xI b = true) : ysb r g (xsb a b) = xsb (ysb r g a) (ysb r g b) := by
  have h1 : xI (xsb a b) = true := by
    cases hx : xlit a <;> cases hy : xlit b <;> simp only [xsb, hx, hy] <;> rfl
  rw [ysb_I h1, ysb_I ha, ysb_I hb]
  show Jvm.Term.int (xti (xdv r xid (xsb a b))) = .int (yv r a - yv r b)
  rw [xsb_dv]
  rfl
theorem xml_I (ha : xI a = true) (hb : xI b = true) : ysb r g (xml a b) = xml (ysb r g a) (ysb r g b) := by
  have h1 : xI (xml a b) = true := by
    cases hx : xlit a <;> cases hy : xlit b <;> simp only [xml, hx, hy] <;> rfl
  rw [ysb_I h1, ysb_I ha, ysb_I hb]
  show Jvm.Term.int (xti (xdv r xid (xml a b))) = .int (yv r a * yv r b)
  rw [xml_dv]
  rfl
theorem xdi_I (ha : xI a = true) (hb : xI b = true) : ysb r g (xdi a b) = xdi (ysb r g a) (ysb r g b) := by
  have h1 : xI (xdi a b) = true := by
    cases hx : xlit a <;> cases hy : xlit b <;> simp only [xdi, hx, hy] <;> rfl
  rw [ysb_I h1, ysb_I ha, ysb_I hb]
  show Jvm.Term.int (xti (xdv r xid (xdi a b))) = .int (yv r a / yv r b)
  rw [xdi_dv]
  rfl
theorem xrm_I (ha : xI a = true) (hb : xI b = true) : ysb r g (xrm a b) = xrm (ysb r g a) (ysb r g b) := by
  have h1 : xI (xrm a b) = true := by
    cases hx : xlit a <;> cases hy : xlit b <;> simp only [xrm, hx, hy] <;> rfl
  rw [ysb_I h1, ysb_I ha, ysb_I hb]
  show Jvm.Term.int (xti (xdv r xid (xrm a b))) = .int (yv r a - yv r a / yv r b * yv r b)
  rw [xrm_dv]
  rfl
theorem xo2_I {o : Binary} (ho : xI (.op2 o a b) = true) (v u : Value) : xti (xo2 o v u) = xti (xo2 o (.int (xti v)) (.int (xti u))) := by
  simp only [xI] at ho
  cases o <;> first | rfl | (exact absurd ho (by decide))
theorem xb2_I {o : Binary} (ho : xI (.op2 o a b) = true) (ha : xI a = true) (hb : xI b = true) : ysb r g (xb2 o a b) = xb2 o (ysb r g a) (ysb r g b) := by
  have h1 : xI (xb2 o a b) = true := by
    cases hx : xlit a <;> cases hy : xlit b <;> simp only [xb2, hx, hy] <;> first | rfl | exact ho
  have h2 : yv r (xb2 o a b) = xti (xo2 o (.int (yv r a)) (.int (yv r b))) := by
    cases hx : xlit a <;> cases hy : xlit b <;> simp only [xb2, hx, hy] <;> first | (rw [xlit_eq hx, xlit_eq hy]; rfl) | exact xo2_I ho _ _
  rw [ysb_I h1, ysb_I ha, ysb_I hb, h2]
  rfl
theorem xo1_I {o : Unary} (ho : xI (.op1 o a) = true) (hn : o ≠ .l2i) (v : Value) : xti (xo1 o v) = xti (xo1 o (.int (xti v))) := by
  simp only [xI] at ho
  cases o <;> first | rfl | (exact absurd ho (by decide)) | (exact absurd rfl hn)
theorem xb1_I {o : Unary} (ho : xI (.op1 o a) = true) (hn : o ≠ .l2i) (ha : xI a = true) : ysb r g (xb1 o a) = xb1 o (ysb r g a) := by
  have h1 : xI (xb1 o a) = true := by
    cases hx : xlit a <;> simp only [xb1, hx] <;> first | rfl | exact ho
  have h2 : yv r (xb1 o a) = xti (xo1 o (.int (yv r a))) := by
    cases hx : xlit a <;> simp only [xb1, hx] <;> first | (rw [xlit_eq hx]; rfl) | exact xo1_I ho hn _
  rw [ysb_I h1, ysb_I ha, h2]
  rfl
theorem xl2_v {o : Binary} : xtl (xdv r xid (xl2 o a b)) = xtl (xo2 o (xdv r xid a) (xdv r xid b)) := by
  unfold xl2
  split
  · split <;> rfl
  · rfl
theorem xl2_G {o : Binary} (ho : xG (.op2 o a b) = true) : xG (xl2 o a b) = true := by
  unfold xl2
  split
  · split <;> first | rfl | exact ho
  · exact ho
theorem xl2_I {o : Binary} (ho : xG (.op2 o a b) = true) (hs : o = .lushr ∨ o = .lshr ∨ o = .lshl) (ha : xG a = true) (hb : xI b = true) : ysb r g (xl2 o a b) = xl2 o (ysb r g a) (ysb r g b) := by
  rw [ysb_G (xl2_G ho), ysb_G ha, ysb_I hb, xl2_v]
  rcases hs with rfl | rfl | rfl <;> rfl
theorem xl2_L {o : Binary} (ho : xG (.op2 o a b) = true) (hs : o = .land ∨ o = .lor ∨ o = .ladd ∨ o = .lsub) (ha : xG a = true) (hb : xG b = true) : ysb r g (xl2 o a b) = xl2 o (ysb r g a) (ysb r g b) := by
  rw [ysb_G (xl2_G ho), ysb_G ha, ysb_G hb, xl2_v]
  rcases hs with rfl | rfl | rfl | rfl <;> rfl
theorem xl1_I (ha : xG a = true) : ysb r g (xl1 a) = xl1 (ysb r g a) := by
  have h1 : xI (xl1 a) = true := by
    unfold xl1
    split <;> rfl
  have h2 : yv r (xl1 a) = (xtl (xdv r xid a)).toInt32 := by
    unfold xl1
    split <;> rfl
  rw [ysb_I h1, ysb_G ha, h2]
  rfl
theorem xl0_I (ha : xI a = true) : ysb r g (xl0 a) = xl0 (ysb r g a) := by
  have h1 : xG (xl0 a) = true := by
    unfold xl0
    split <;> rfl
  have h2 : xtl (xdv r xid (xl0 a)) = (yv r a).toInt64 := by
    unfold xl0
    split <;> rfl
  rw [ysb_G h1, ysb_I ha, h2]
  rfl
theorem ysb_st {j : Nat} (h : Nat.ble j 40 = true) : ysb r g (.arg (150 + j)) = .arg (150 + j) := by
  have k := Nat.le_of_ble_eq_true h
  have h1 : xiv (150 + j) = false := by
    unfold xiv
    rw [Bool.or_eq_false_iff]
    exact ⟨ble_no (by omega), ble_no (by omega)⟩
  have h2 : xG (.arg (150 + j)) = false := by
    simp only [xG, h1, cond_false]
    exact ble_no (by omega)
  unfold ysb
  simp only [xI, h1, h2]
theorem ysb_sr {j : Nat} (h : Nat.ble j 40 = true) : ysb r g (.arg (101 + j)) = .arg (101 + j) := by
  have k := Nat.le_of_ble_eq_true h
  have h1 : xiv (101 + j) = false := by
    unfold xiv
    rw [Bool.or_eq_false_iff]
    exact ⟨ble_no (by omega), ble_no (by omega)⟩
  have h2 : xG (.arg (101 + j)) = false := by
    simp only [xG, h1, cond_false]
    exact ble_no (by omega)
  unfold ysb
  simp only [xI, h1, h2]
end
/-- instructions that look at no cell -/
def ypn (e : Instr × Nat × List Nat) : Bool := match e.1 with
  | .iconst _ => true
  | .bipush _ => true
  | .sipush _ => true
  | .lconst _ => true
  | .aconst_null => true
  | .iload_n _ => true
  | .iload _ => true
  | .aload_n _ => true
  | .aload _ => true
  | .lload_n _ => true
  | .lload _ => true
  | .istore_n _ => true
  | .istore _ => true
  | .astore_n _ => true
  | .astore _ => true
  | .lstore_n _ => true
  | .lstore _ => true
  | .iinc _ _ => true
  | .iadd => true
  | .isub => true
  | .imul => true
  | .iand => true
  | .ior => true
  | .ixor => true
  | .ishl => true
  | .ishr => true
  | .iushr => true
  | .lushr => true
  | .lshr => true
  | .lshl => true
  | .land => true
  | .lor => true
  | .ladd => true
  | .lsub => true
  | .ineg => true
  | .i2b => true
  | .i2s => true
  | .i2c => true
  | .l2i => true
  | .i2l => true
  | .dup => true
  | .pop => true
  | .dup2 => true
  | .goto _ => true
  | .getstatic _ => match e.2.2 with
    | [_, j] => Nat.ble j 40
    | _ => true
  | .ldc _ => match e.2.2 with
    | [_, j, _] => Nat.ble j 40
    | _ => true
  | .ldc_w _ => true
  | .ldc2_w _ => true
  | .tableswitch _ _ _ _ => true
  | .lookupswitch _ _ => true
  | .invokestatic _ => true
  | .iaload => true
  | _ => false
section
variable {r : Nat → Value} {g : Nat → Nat}
theorem ypn_ok {mi pc pc' : Nat} {e : Instr × Nat × List Nat} {lo lo' : xL} {st st' : List Jvm.Term} (hp : ypn e = true) (hs : xsp (β := Nat × xL × List Jvm.Term) mi pc e lo st [] [] (fun a b c _ _ => some (a, b, c)) = some (pc', lo', st')) (h : xH) : xcst mi pc e (ylo r g lo) (st.map (ysb r g)) h pc' (ylo r g lo') (st'.map (ysb r g)) h := by
  obtain ⟨i, ln, ax⟩ := e
  cases i with
  | iconst n =>
    simp only [xsp, xpu, xfT_eq, xfN_eq] at hs
    cases hs
    intro k
    simp only [xsp, xpu, xfT_eq, xfN_eq]
    rfl
  | bipush n =>
    simp only [xsp, xpu, xfT_eq, xfN_eq] at hs
    cases hs
    intro k
    simp only [xsp, xpu, xfT_eq, xfN_eq]
    rfl
  | sipush n =>
    simp only [xsp, xpu, xfT_eq, xfN_eq] at hs
    cases hs
    intro k
    simp only [xsp, xpu, xfT_eq, xfN_eq]
    rfl
  | lconst n =>
    simp only [xsp, xpu, xfT_eq, xfN_eq] at hs
    cases hs
    intro k
    simp only [xsp, xpu, xfT_eq, xfN_eq]
    rfl
  | aconst_null =>
    simp only [xsp, xpu, xfT_eq, xfN_eq] at hs
    cases hs
    intro k
    simp only [xsp, xpu, xfT_eq, xfN_eq]
    rfl
  | iload_n i =>
    simp only [xsp, xpu, xfT_eq, xfN_eq] at hs
    cases hk : xlk lo i.val with
    | none => simp [hk] at hs
    | some t =>
      cases ht : xI t with
      | false => simp [hk, ht] at hs
      | true =>
        simp only [hk, ht, cond_true] at hs
        cases hs
        intro k
        simp only [xsp, xpu, xfT_eq, xfN_eq, xlk_y hk, (show xI (ysb r g t) = true from xI_y.trans ht), cond_true]
        rfl
  | iload i =>
    simp only [xsp, xpu, xfT_eq, xfN_eq] at hs
    cases hk : xlk lo i with
    | none => simp [hk] at hs
    | some t =>
      cases ht : xI t with
      | false => simp [hk, ht] at hs
      | true =>
        simp only [hk, ht, cond_true] at hs
        cases hs
        intro k
        simp only [xsp, xpu, xfT_eq, xfN_eq, xlk_y hk, (show xI (ysb r g t) = true from xI_y.trans ht), cond_true]
        rfl
  | aload_n i =>
    simp only [xsp, xpu, xfT_eq, xfN_eq] at hs
    cases hk : xlk lo i.val with
    | none => simp [hk] at hs
    | some t =>
      cases ht : xF t with
      | false => simp [hk, ht] at hs
      | true =>
        simp only [hk, ht, cond_true] at hs
        cases hs
        intro k
        simp only [xsp, xpu, xfT_eq, xfN_eq, xlk_y hk, (show xF (ysb r g t) = true from xF_y ht), cond_true]
        rfl
  | aload i =>
    simp only [xsp, xpu, xfT_eq, xfN_eq] at hs
    cases hk : xlk lo i with
    | none => simp [hk] at hs
    | some t =>
      cases ht : xF t with
      | false => simp [hk, ht] at hs
      | true =>
        simp only [hk, ht, cond_true] at hs
        cases hs
        intro k
        simp only [xsp, xpu, xfT_eq, xfN_eq, xlk_y hk, (show xF (ysb r g t) = true from xF_y ht), cond_true]
        rfl
  | lload_n i =>
    simp only [xsp, xpu, xfT_eq, xfN_eq] at hs
    cases hk : xlk lo i.val with
    | none => simp [hk] at hs
    | some t =>
      cases ht : xG t with
      | false => simp [hk, ht] at hs
      | true =>
        simp only [hk, ht, cond_true] at hs
        cases hs
        intro k
        simp only [xsp, xpu, xfT_eq, xfN_eq, xlk_y hk, (show xG (ysb r g t) = true from xG_y.trans ht), cond_true]
        rfl
  | lload i =>
    simp only [xsp, xpu, xfT_eq, xfN_eq] at hs
    cases hk : xlk lo i with
    | none => simp [hk] at hs
    | some t =>
      cases ht : xG t with
      | false => simp [hk, ht] at hs
      | true =>
        simp only [hk, ht, cond_true] at hs
        cases hs
        intro k
        simp only [xsp, xpu, xfT_eq, xfN_eq, xlk_y hk, (show xG (ysb r g t) = true from xG_y.trans ht), cond_true]
        rfl
  | istore_n i =>
    simp only [xsp] at hs
    rcases st with _ | ⟨t, s⟩
    · cases hs
    simp only [xfL_eq, xfN_eq] at hs
    cases ht : xI t with
    | false => simp [ht] at hs
    | true =>
      cases hm : Nat.ble (i.val + 1) (xm mi) with
      | false => simp [ht, hm] at hs
      | true =>
        simp only [ht, hm, Bool.and_self, cond_true] at hs
        cases hs
        intro k
        simp only [xsp, List.map_cons, xfL_eq, xfN_eq, (show xI (ysb r g t) = true from xI_y.trans ht), hm, Bool.and_self, cond_true, xs1_y]
  | istore i =>
    simp only [xsp] at hs
    rcases st with _ | ⟨t, s⟩
    · cases hs
    simp only [xfL_eq, xfN_eq] at hs
    cases ht : xI t with
    | false => simp [ht] at hs
    | true =>
      cases hm : Nat.ble (i + 1) (xm mi) with
      | false => simp [ht, hm] at hs
      | true =>
        simp only [ht, hm, Bool.and_self, cond_true] at hs
        cases hs
        intro k
        simp only [xsp, List.map_cons, xfL_eq, xfN_eq, (show xI (ysb r g t) = true from xI_y.trans ht), hm, Bool.and_self, cond_true, xs1_y]
  | astore_n i =>
    simp only [xsp] at hs
    rcases st with _ | ⟨t, s⟩
    · cases hs
    simp only [xfL_eq, xfN_eq] at hs
    cases ht : xF t with
    | false => simp [ht] at hs
    | true =>
      cases hm : Nat.ble (i.val + 1) (xm mi) with
      | false => simp [ht, hm] at hs
      | true =>
        simp only [ht, hm, Bool.and_self, cond_true] at hs
        cases hs
        intro k
        simp only [xsp, List.map_cons, xfL_eq, xfN_eq, (show xF (ysb r g t) = true from xF_y ht), hm, Bool.and_self, cond_true, xs1_y]
  | astore i =>
    simp only [xsp] at hs
    rcases st with _ | ⟨t, s⟩
    · cases hs
    simp only [xfL_eq, xfN_eq] at hs
    cases ht : xF t with
    | false => simp [ht] at hs
    | true =>
      cases hm : Nat.ble (i + 1) (xm mi) with
      | false => simp [ht, hm] at hs
      | true =>
        simp only [ht, hm, Bool.and_self, cond_true] at hs
        cases hs
        intro k
        simp only [xsp, List.map_cons, xfL_eq, xfN_eq, (show xF (ysb r g t) = true from xF_y ht), hm, Bool.and_self, cond_true, xs1_y]
  | lstore_n i =>
    simp only [xsp] at hs
    rcases st with _ | ⟨t, s⟩
    · cases hs
    simp only [xfL_eq, xfN_eq] at hs
    cases ht : xG t with
    | false => simp [ht] at hs
    | true =>
      cases hm : Nat.ble (i.val + 2) (xm mi) with
      | false => simp [ht, hm] at hs
      | true =>
        simp only [ht, hm, Bool.and_self, cond_true] at hs
        cases hs
        intro k
        simp only [xsp, List.map_cons, xfL_eq, xfN_eq, (show xG (ysb r g t) = true from xG_y.trans ht), hm, Bool.and_self, cond_true, xs2_y]
  | lstore i =>
    simp only [xsp] at hs
    rcases st with _ | ⟨t, s⟩
    · cases hs
    simp only [xfL_eq, xfN_eq] at hs
    cases ht : xG t with
    | false => simp [ht] at hs
    | true =>
      cases hm : Nat.ble (i + 2) (xm mi) with
      | false => simp [ht, hm] at hs
      | true =>
        simp only [ht, hm, Bool.and_self, cond_true] at hs
        cases hs
        intro k
        simp only [xsp, List.map_cons, xfL_eq, xfN_eq, (show xG (ysb r g t) = true from xG_y.trans ht), hm, Bool.and_self, cond_true, xs2_y]
  | iinc i n =>
    simp only [xsp, xfL_eq, xfT_eq, xfN_eq] at hs
    cases hk : xlk lo i with
    | none => simp [hk] at hs
    | some t =>
      cases ht : xI t with
      | false => simp [hk, ht] at hs
      | true =>
        cases hm : Nat.ble (i + 1) (xm mi) with
        | false => simp [hk, ht, hm] at hs
        | true =>
          simp only [hk, ht, hm, Bool.and_self, cond_true] at hs
          cases hs
          intro k
          simp only [xsp, xfL_eq, xfT_eq, xfN_eq, xlk_y hk, (show xI (ysb r g t) = true from xI_y.trans ht), hm, Bool.and_self, cond_true]
          rw [← xs1_y, xad_I ht (show xI (.int (Int32.ofInt n)) = true from rfl)]
          rfl
  | iadd =>
    simp only [xsp, xpu, xfT_eq, xfN_eq] at hs
    rcases st with _ | ⟨b, _ | ⟨a, s⟩⟩
    · cases hs
    · cases hs
    simp only at hs
    cases ha : xI a with
    | false => simp [ha] at hs
    | true =>
      cases hb : xI b with
      | false => simp [ha, hb] at hs
      | true =>
        simp only [ha, hb, Bool.and_self, cond_true] at hs
        cases hs
        intro k
        simp only [xsp, xpu, xfT_eq, xfN_eq, List.map_cons, (show xI (ysb r g a) = true from xI_y.trans ha), (show xI (ysb r g b) = true from xI_y.trans hb), Bool.and_self, cond_true, xad_I ha hb]
  | isub =>
    simp only [xsp, xpu, xfT_eq, xfN_eq] at hs
    rcases st with _ | ⟨b, _ | ⟨a, s⟩⟩
    · cases hs
    · cases hs
    simp only at hs
    cases ha : xI a with
    | false => simp [ha] at hs
    | true =>
      cases hb : xI b with
      | false => simp [ha, hb] at hs
      | true =>
        simp only [ha, hb, Bool.and_self, cond_true] at hs
        cases hs
        intro k
        simp only [xsp, xpu, xfT_eq, xfN_eq, List.map_cons, (show xI (ysb r g a) = true from xI_y.trans ha), (show xI (ysb r g b) = true from xI_y.trans hb), Bool.and_self, cond_true, xsb_I ha hb]
  | imul =>
    simp only [xsp, xpu, xfT_eq, xfN_eq] at hs
    rcases st with _ | ⟨b, _ | ⟨a, s⟩⟩
    · cases hs
    · cases hs
    simp only at hs
    cases ha : xI a with
    | false => simp [ha] at hs
    | true =>
      cases hb : xI b with
      | false => simp [ha, hb] at hs
      | true =>
        simp only [ha, hb, Bool.and_self, cond_true] at hs
        cases hs
        intro k
        simp only [xsp, xpu, xfT_eq, xfN_eq, List.map_cons, (show xI (ysb r g a) = true from xI_y.trans ha), (show xI (ysb r g b) = true from xI_y.trans hb), Bool.and_self, cond_true, xml_I ha hb]
  | iand =>
    simp only [xsp, xpu, xfT_eq, xfN_eq] at hs
    rcases st with _ | ⟨b, _ | ⟨a, s⟩⟩
    · cases hs
    · cases hs
    simp only at hs
    cases ha : xI a with
    | false => simp [ha] at hs
    | true =>
      cases hb : xI b with
      | false => simp [ha, hb] at hs
      | true =>
        simp only [ha, hb, Bool.and_self, cond_true] at hs
        cases hs
        intro k
        simp only [xsp, xpu, xfT_eq, xfN_eq, List.map_cons, (show xI (ysb r g a) = true from xI_y.trans ha), (show xI (ysb r g b) = true from xI_y.trans hb), Bool.and_self, cond_true, (xb2_I (o := .iand) rfl ha hb)]
  | ior =>
    simp only [xsp, xpu, xfT_eq, xfN_eq] at hs
    rcases st with _ | ⟨b, _ | ⟨a, s⟩⟩
    · cases hs
    · cases hs
    simp only at hs
    cases ha : xI a with
    | false => simp [ha] at hs
    | true =>
      cases hb : xI b with
      | false => simp [ha, hb] at hs
      | true =>
        simp only [ha, hb, Bool.and_self, cond_true] at hs
        cases hs
        intro k
        simp only [xsp, xpu, xfT_eq, xfN_eq, List.map_cons, (show xI (ysb r g a) = true from xI_y.trans ha), (show xI (ysb r g b) = true from xI_y.trans hb), Bool.and_self, cond_true, (xb2_I (o := .ior) rfl ha hb)]
  | ixor =>
    simp only [xsp, xpu, xfT_eq, xfN_eq] at hs
    rcases st with _ | ⟨b, _ | ⟨a, s⟩⟩
    · cases hs
    · cases hs
    simp only at hs
    cases ha : xI a with
    | false => simp [ha] at hs
    | true =>
      cases hb : xI b with
      | false => simp [ha, hb] at hs
      | true =>
        simp only [ha, hb, Bool.and_self, cond_true] at hs
        cases hs
        intro k
        simp only [xsp, xpu, xfT_eq, xfN_eq, List.map_cons, (show xI (ysb r g a) = true from xI_y.trans ha), (show xI (ysb r g b) = true from xI_y.trans hb), Bool.and_self, cond_true, (xb2_I (o := .ixor) rfl ha hb)]
  | ishl =>
    simp only [xsp, xpu, xfT_eq, xfN_eq] at hs
    rcases st with _ | ⟨b, _ | ⟨a, s⟩⟩
    · cases hs
    · cases hs
    simp only at hs
    cases ha : xI a with
    | false => simp [ha] at hs
    | true =>
      cases hb : xI b with
      | false => simp [ha, hb] at hs
      | true =>
        simp only [ha, hb, Bool.and_self, cond_true] at hs
        cases hs
        intro k
        simp only [xsp, xpu, xfT_eq, xfN_eq, List.map_cons, (show xI (ysb r g a) = true from xI_y.trans ha), (show xI (ysb r g b) = true from xI_y.trans hb), Bool.and_self, cond_true, (xb2_I (o := .ishl) rfl ha hb)]
  | ishr =>
    simp only [xsp, xpu, xfT_eq, xfN_eq] at hs
    rcases st with _ | ⟨b, _ | ⟨a, s⟩⟩
    · cases hs
    · cases hs
    simp only at hs
    cases ha : xI a with
    | false => simp [ha] at hs
    | true =>
      cases hb : xI b with
      | false => simp [ha, hb] at hs
      | true =>
        simp only [ha, hb, Bool.and_self, cond_true] at hs
        cases hs
        intro k
        simp only [xsp, xpu, xfT_eq, xfN_eq, List.map_cons, (show xI (ysb r g a) = true from xI_y.trans ha), (show xI (ysb r g b) = true from xI_y.trans hb), Bool.and_self, cond_true, (xb2_I (o := .ishr) rfl ha hb)]
  | iushr =>
    simp only [xsp, xpu, xfT_eq, xfN_eq] at hs
    rcases st with _ | ⟨b, _ | ⟨a, s⟩⟩
    · cases hs
    · cases hs
    simp only at hs
    cases ha : xI a with
    | false => simp [ha] at hs
    | true =>
      cases hb : xI b with
      | false => simp [ha, hb] at hs
      | true =>
        simp only [ha, hb, Bool.and_self, cond_true] at hs
        cases hs
        intro k
        simp only [xsp, xpu, xfT_eq, xfN_eq, List.map_cons, (show xI (ysb r g a) = true from xI_y.trans ha), (show xI (ysb r g b) = true from xI_y.trans hb), Bool.and_self, cond_true, (xb2_I (o := .iushr) rfl ha hb)]
  | lushr =>
    simp only [xsp, xpu, xfT_eq, xfN_eq] at hs
    rcases st with _ | ⟨b, _ | ⟨a, s⟩⟩
    · cases hs
    · cases hs
    simp only at hs
    cases ha : xG a with
    | false => simp [ha] at hs
    | true =>
      cases hb : xI b with
      | false => simp [ha, hb] at hs
      | true =>
        simp only [ha, hb, Bool.and_self, cond_true] at hs
        cases hs
        intro k
        simp only [xsp, xpu, xfT_eq, xfN_eq, List.map_cons, (show xG (ysb r g a) = true from xG_y.trans ha), (show xI (ysb r g b) = true from xI_y.trans hb), Bool.and_self, cond_true, (xl2_I (o := .lushr) rfl (by simp) ha hb)]
  | lshr =>
    simp only [xsp, xpu, xfT_eq, xfN_eq] at hs
    rcases st with _ | ⟨b, _ | ⟨a, s⟩⟩
    · cases hs
    · cases hs
    simp only at hs
    cases ha : xG a with
    | false => simp [ha] at hs
    | true =>
      cases hb : xI b with
      | false => simp [ha, hb] at hs
      | true =>
        simp only [ha, hb, Bool.and_self, cond_true] at hs
        cases hs
        intro k
        simp only [xsp, xpu, xfT_eq, xfN_eq, List.map_cons, (show xG (ysb r g a) = true from xG_y.trans ha), (show xI (ysb r g b) = true from xI_y.trans hb), Bool.and_self, cond_true, (xl2_I (o := .lshr) rfl (by simp) ha hb)]
  | lshl =>
    simp only [xsp, xpu, xfT_eq, xfN_eq] at hs
    rcases st with _ | ⟨b, _ | ⟨a, s⟩⟩
    · cases hs
    · cases hs
    simp only at hs
    cases ha : xG a with
    | false => simp [ha] at hs
    | true =>
      cases hb : xI b with
      | false => simp [ha, hb] at hs
      | true =>
        simp only [ha, hb, Bool.and_self, cond_true] at hs
        cases hs
        intro k
        simp only [xsp, xpu, xfT_eq, xfN_eq, List.map_cons, (show xG (ysb r g a) = true from xG_y.trans ha), (show xI (ysb r g b) = true from xI_y.trans hb), Bool.and_self, cond_true, (xl2_I (o := .lshl) rfl (by simp) ha hb)]
  | land =>
    simp only [xsp, xpu, xfT_eq, xfN_eq] at hs
    rcases st with _ | ⟨b, _ | ⟨a, s⟩⟩
    · cases hs
    · cases hs
    simp only at hs
    cases ha : xG a with
    | false => simp [ha] at hs
    | true =>
      cases hb : xG b with
      | false => simp [ha, hb] at hs
      | true =>
        simp only [ha, hb, Bool.and_self, cond_true] at hs
        cases hs
        intro k
        simp only [xsp, xpu, xfT_eq, xfN_eq, List.map_cons, (show xG (ysb r g a) = true from xG_y.trans ha), (show xG (ysb r g b) = true from xG_y.trans hb), Bool.and_self, cond_true, (xl2_L (o := .land) rfl (by simp) ha hb)]
  | lor =>
    simp only [xsp, xpu, xfT_eq, xfN_eq] at hs
    rcases st with _ | ⟨b, _ | ⟨a, s⟩⟩
    · cases hs
    · cases hs
    simp only at hs
    cases ha : xG a with
    | false => simp [ha] at hs
    | true =>
      cases hb : xG b with
      | false => simp [ha, hb] at hs
      | true =>
        simp only [ha, hb, Bool.and_self, cond_true] at hs
        cases hs
        intro k
        simp only [xsp, xpu, xfT_eq, xfN_eq, List.map_cons, (show xG (ysb r g a) = true from xG_y.trans ha), (show xG (ysb r g b) = true from xG_y.trans hb), Bool.and_self, cond_true, (xl2_L (o := .lor) rfl (by simp) ha hb)]
  | ladd =>
    simp only [xsp, xpu, xfT_eq, xfN_eq] at hs
    rcases st with _ | ⟨b, _ | ⟨a, s⟩⟩
    · cases hs
    · cases hs
    simp only at hs
    cases ha : xG a with
    | false => simp [ha] at hs
    | true =>
      cases hb : xG b with
      | false => simp [ha, hb] at hs
      | true =>
        simp only [ha, hb, Bool.and_self, cond_true] at hs
        cases hs
        intro k
        simp only [xsp, xpu, xfT_eq, xfN_eq, List.map_cons, (show xG (ysb r g a) = true from xG_y.trans ha), (show xG (ysb r g b) = true from xG_y.trans hb), Bool.and_self, cond_true, (xl2_L (o := .ladd) rfl (by simp) ha hb)]
  | lsub =>
    simp only [xsp, xpu, xfT_eq, xfN_eq] at hs
    rcases st with _ | ⟨b, _ | ⟨a, s⟩⟩
    · cases hs
    · cases hs
    simp only at hs
    cases ha : xG a with
    | false => simp [ha] at hs
    | true =>
      cases hb : xG b with
      | false => simp [ha, hb] at hs
      | true =>
        simp only [ha, hb, Bool.and_self, cond_true] at hs
        cases hs
        intro k
        simp only [xsp, xpu, xfT_eq, xfN_eq, List.map_cons, (show xG (ysb r g a) = true from xG_y.trans ha), (show xG (ysb r g b) = true from xG_y.trans hb), Bool.and_self, cond_true, (xl2_L (o := .lsub) rfl (by simp) ha hb)]
  | ineg =>
    simp only [xsp, xpu, xfT_eq, xfN_eq] at hs
    rcases st with _ | ⟨a, s⟩
    · cases hs
    simp only at hs
    cases ha : xI a with
    | false => simp [ha] at hs
    | true =>
      simp only [ha, cond_true] at hs
      cases hs
      intro k
      simp only [xsp, xpu, xfT_eq, xfN_eq, List.map_cons, (show xI (ysb r g a) = true from xI_y.trans ha), cond_true, (xb1_I (o := .ineg) rfl (by decide) ha)]
  | i2b =>
    simp only [xsp, xpu, xfT_eq, xfN_eq] at hs
    rcases st with _ | ⟨a, s⟩
    · cases hs
    simp only at hs
    cases ha : xI a with
    | false => simp [ha] at hs
    | true =>
      simp only [ha, cond_true] at hs
      cases hs
      intro k
      simp only [xsp, xpu, xfT_eq, xfN_eq, List.map_cons, (show xI (ysb r g a) = true from xI_y.trans ha), cond_true, (xb1_I (o := .i2b) rfl (by decide) ha)]
  | i2s =>
    simp only [xsp, xpu, xfT_eq, xfN_eq] at hs
    rcases st with _ | ⟨a, s⟩
    · cases hs
    simp only at hs
    cases ha : xI a with
    | false => simp [ha] at hs
    | true =>
      simp only [ha, cond_true] at hs
      cases hs
      intro k
      simp only [xsp, xpu, xfT_eq, xfN_eq, List.map_cons, (show xI (ysb r g a) = true from xI_y.trans ha), cond_true, (xb1_I (o := .i2s) rfl (by decide) ha)]
  | i2c =>
    simp only [xsp, xpu, xfT_eq, xfN_eq] at hs
    rcases st with _ | ⟨a, s⟩
    · cases hs
    simp only at hs
    cases ha : xI a with
    | false => simp [ha] at hs
    | true =>
      simp only [ha, cond_true] at hs
      cases hs
      intro k
      simp only [xsp, xpu, xfT_eq, xfN_eq, List.map_cons, (show xI (ysb r g a) = true from xI_y.trans ha), cond_true, (xb1_I (o := .i2c) rfl (by decide) ha)]
  | l2i =>
    simp only [xsp, xpu, xfT_eq, xfN_eq] at hs
    rcases st with _ | ⟨a, s⟩
    · cases hs
    simp only at hs
    cases ha : xG a with
    | false => simp [ha] at hs
    | true =>
      simp only [ha, cond_true] at hs
      cases hs
      intro k
      simp only [xsp, xpu, xfT_eq, xfN_eq, List.map_cons, (show xG (ysb r g a) = true from xG_y.trans ha), cond_true, xl1_I ha]
  | i2l =>
    simp only [xsp, xpu, xfT_eq, xfN_eq] at hs
    rcases st with _ | ⟨a, s⟩
    · cases hs
    simp only at hs
    cases ha : xI a with
    | false => simp [ha] at hs
    | true =>
      simp only [ha, cond_true] at hs
      cases hs
      intro k
      simp only [xsp, xpu, xfT_eq, xfN_eq, List.map_cons, (show xI (ysb r g a) = true from xI_y.trans ha), cond_true, xl0_I ha]
  | dup =>
    simp only [xsp, xpu, xfT_eq, xfN_eq] at hs
    rcases st with _ | ⟨a, s⟩
    · cases hs
    simp only at hs
    cases ha : xG a with
    | true => simp [ha] at hs
    | false =>
      simp only [ha, cond_false] at hs
      cases hs
      intro k
      simp only [xsp, xpu, xfT_eq, xfN_eq, List.map_cons, (show xG (ysb r g a) = false from xG_y.trans ha), cond_false]
  | pop =>
    simp only [xsp, xfN_eq] at hs
    rcases st with _ | ⟨a, s⟩
    · cases hs
    simp only at hs
    cases ha : xG a with
    | true => simp [ha] at hs
    | false =>
      simp only [ha, cond_false] at hs
      cases hs
      intro k
      simp only [xsp, xfN_eq, List.map_cons, (show xG (ysb r g a) = false from xG_y.trans ha), cond_false]
  | dup2 =>
    simp only [xsp, xfN_eq] at hs
    rcases st with _ | ⟨a, _ | ⟨b, s⟩⟩
    · cases hs
    · cases hs
    simp only at hs
    cases ha : xG a with
    | true => simp [ha] at hs
    | false =>
      cases hb : xG b with
      | true => simp [ha, hb] at hs
      | false =>
        simp only [ha, hb, Bool.or_self, cond_false] at hs
        cases hs
        intro k
        simp only [xsp, xfN_eq, List.map_cons, (show xG (ysb r g a) = false from xG_y.trans ha), (show xG (ysb r g b) = false from xG_y.trans hb), Bool.or_self, cond_false]
  | goto off =>
    simp only [xsp, xjp] at hs
    split at hs
    · rename_i m hm
      simp only [xfN_eq] at hs
      cases hs
      intro k
      simp only [xsp, xjp, hm, xfN_eq]
    · cases hs
  | getstatic q =>
    rcases ax with _ | ⟨p0, _ | ⟨j, _ | ⟨z9, t9⟩⟩⟩ <;> first | (cases hs; done) | skip
    have hj : Nat.ble j 40 = true := hp
    simp only [xsp, xpu, xfT_eq, xfN_eq] at hs
    cases hs
    intro k
    simp only [xsp, xpu, xfT_eq, xfN_eq, List.map_cons, ysb_st hj]
  | ldc q =>
    rcases ax with _ | ⟨p0, _ | ⟨j, _ | ⟨z9, _ | ⟨z8, t9⟩⟩⟩⟩ <;> first | (cases hs; done) | skip
    · simp only [xsp, xpu, xfT_eq, xfN_eq] at hs
      cases hs
      intro k
      simp only [xsp, xpu, xfT_eq, xfN_eq]
      rfl
    · have hj : Nat.ble j 40 = true := hp
      simp only [xsp, xpu, xfT_eq, xfN_eq] at hs
      cases hs
      intro k
      simp only [xsp, xpu, xfT_eq, xfN_eq, List.map_cons, ysb_sr hj]
  | ldc_w q =>
    rcases ax with _ | ⟨p0, _ | ⟨j, _ | ⟨z9, t9⟩⟩⟩ <;> first | (cases hs; done) | skip
    simp only [xsp, xpu, xfT_eq, xfN_eq] at hs
    cases hs
    intro k
    simp only [xsp, xpu, xfT_eq, xfN_eq]
    rfl
  | ldc2_w q =>
    rcases ax with _ | ⟨p0, _ | ⟨j, _ | ⟨z9, t9⟩⟩⟩ <;> first | (cases hs; done) | skip
    simp only [xsp, xpu, xfT_eq, xfN_eq] at hs
    cases hs
    intro k
    simp only [xsp, xpu, xfT_eq, xfN_eq]
    rfl
  | tableswitch dflt low high offs =>
    simp only [xsp] at hs
    rcases st with _ | ⟨t, s⟩
    · cases hs
    simp only at hs
    cases hx : xlit t with
    | none => rw [hx] at hs; cases hs
    | some x =>
      rw [hx] at hs
      simp only at hs
      intro k
      simp only [xsp, List.map_cons, xlit_y hx]
      split at hs
      · rename_i hc
        simp only [xjp] at hs ⊢
        split at hs
        · rename_i m hm
          simp only [xfN_eq] at hs
          cases hs
          simp only [hc, hm, xfN_eq]
        · cases hs
      · rename_i hc
        split at hs
        · rename_i off ho
          simp only [xjp] at hs ⊢
          split at hs
          · rename_i m hm
            simp only [xfN_eq] at hs
            cases hs
            simp only [hc, ho, hm, xfN_eq]
          · cases hs
        · cases hs
  | lookupswitch dflt ps =>
    simp only [xsp] at hs
    rcases st with _ | ⟨t, s⟩
    · cases hs
    cases t <;> first | (cases hs; done) | skip
    rename_i v
    simp only at hs
    split at hs
    · rename_i hc
      simp only [xjp] at hs
      split at hs
      · rename_i m hm
        simp only [xfN_eq] at hs
        cases hs
        intro k
        show xsp mi pc (.lookupswitch dflt ps, ln, ax) (ylo r g lo') (.int v :: s.map (ysb r g)) h [] k = _
        simp only [xsp, hc, xjp, hm, xfN_eq]
      · cases hs
    · cases hs
  | invokestatic q =>
    rcases ax with _ | ⟨p0, _ | ⟨cm, _ | ⟨a1, _ | ⟨b1, _ | ⟨d1, _ | ⟨x9, t9⟩⟩⟩⟩⟩⟩ <;> first | (cases hs; done) | skip
    simp only [xsp] at hs
    rcases st with _ | ⟨b, _ | ⟨a, s⟩⟩
    · cases hs
    · cases hs
    simp only at hs
    cases h1 : (Nat.ble s.length 6 && (s.all (fun t => !(xG t)) && (xI a && xI b))) with
    | false => simp [h1] at hs
    | true =>
    simp only [h1, cond_true] at hs
    simp only [Bool.and_eq_true] at h1
    obtain ⟨k1, k2, ha, hb⟩ := h1
    have h2 : (Nat.ble (s.map (ysb r g)).length 6 && ((s.map (ysb r g)).all (fun t => !(xG t)) && (xI (ysb r g a) && xI (ysb r g b)))) = true := by
      rw [List.length_map, k1, notG_y k2, xI_y, xI_y, ha, hb]
      rfl
    intro k
    simp only [xsp, List.map_cons, h2, cond_true]
    cases h901 : Nat.beq cm 901 with
    | true =>
      simp only [h901, cond_true, xpu, xfT_eq, xfN_eq] at hs ⊢
      cases hs
      simp only [List.map_cons, (xb2_I (o := .fcmpl) rfl ha hb)]
    | false =>
    cases h902 : Nat.beq cm 902 with
    | true =>
      simp only [h901, h902, cond_true, cond_false, xpu, xfT_eq, xfN_eq] at hs ⊢
      cases hs
      simp only [List.map_cons, (xb2_I (o := .fcmpg) rfl ha hb)]
    | false =>
    cases h903 : Nat.beq cm 903 with
    | false => simp [h901, h902, h903] at hs
    | true =>
    exfalso
    simp only [h901, h902, h903, cond_true, cond_false] at hs
    split at hs
    · split at hs
      · split at hs
        · simp [xhg_eq] at hs
        · cases hs
      · cases hs
    · cases hs
  | iaload =>
    simp only [xsp] at hs
    rcases st with _ | ⟨i, _ | ⟨q, s⟩⟩
    · cases hs
    · cases hs
    cases q <;> first | (cases hs; done) | skip
    · rename_i z
      simp only at hs
      cases hz : (Nat.beq z 100 && Nat.beq mi xlaw) with
      | true =>
        exfalso
        simp only [hz, cond_true] at hs
        split at hs
        · cases hs
        · cases hs
      | false =>
        simp only [hz, cond_false] at hs
        cases hy : (Nat.ble 150 z && Nat.ble z 199) with
        | false => simp [hy] at hs
        | true =>
          simp only [hy, cond_true] at hs
          split at hs
          · rename_i q1 hq1
            split at hs
            · rename_i j hj
              simp only [xpu, xfT_eq, xfN_eq] at hs
              cases hs
              simp only [Bool.and_eq_true] at hy
              have y1 := Nat.le_of_ble_eq_true hy.1
              have y2 := Nat.le_of_ble_eq_true hy.2
              have ez : ysb r g (.arg z) = .arg z := by
                have h1 : xiv z = false := by
                  unfold xiv
                  rw [Bool.or_eq_false_iff]
                  exact ⟨ble_no (by omega), ble_no (by omega)⟩
                have h2 : xG (.arg z) = false := by
                  simp only [xG, h1, cond_false]
                  exact ble_no (by omega)
                unfold ysb
                simp only [xI, h1, h2]
              have ei : ysb r g i = i := by
                cases i <;> first | rfl | (cases hj; done)
              intro k
              simp only [xsp, List.map_cons, ez, ei, hz, cond_false, hy.1, hy.2, Bool.and_self, cond_true, hq1, hj, xpu, xfT_eq, xfN_eq]
              rfl
            · cases hs
          · cases hs
    · simp [xhg_eq] at hs
  | _ => cases hp
end
