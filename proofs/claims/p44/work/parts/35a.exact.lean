-- ===== an exact evaluator: ints as terms over unknowns, places known ahead, an open branch gives two ends. First: terms
def yv (r_ : Nat → Value) (t_ : Jvm.Term) : Int32 := xti (xdv r_ xid t_)
/-- what a term stands for, as a literal; references by their names -/
def ysb (r_ : Nat → Value) (g_ : Nat → Nat) (t_ : Jvm.Term) : Jvm.Term := match xI t_ with
  | true => .int (yv r_ t_)
  | false => match xG t_ with
    | true => .long (xtl (xdv r_ xid t_))
    | false => match t_ with
      | .index n_ => .index (g_ n_)
      | t_ => t_
theorem xI_noG {t_ : Jvm.Term} (h_ : xI t_ = true) : xG t_ = false := by
  cases hg : xG t_ with
  | false => rfl
  | true =>
    exfalso
    cases t_ <;> simp only [xI] at h_ <;> simp only [xG] at hg <;> first | (exact absurd h_ (by decide)) | (exact absurd hg (by decide)) | skip
    · rw [h_] at hg
      cases hg
    · rename_i o a_ b_
      cases o <;> first | (exact absurd h_ (by decide)) | (exact absurd hg (by decide))
    · rename_i o a_
      cases o <;> first | (exact absurd h_ (by decide)) | (exact absurd hg (by decide))
theorem ble_no {a_ b_ : Nat} (h_ : b_ < a_) : Nat.ble a_ b_ = false := by
  cases k_ : Nat.ble a_ b_ with
  | false => rfl
  | true => exact absurd (Nat.le_of_ble_eq_true k_) (by omega)
theorem xF_noI {t_ : Jvm.Term} (h_ : xF t_ = true) : xI t_ = false := by
  cases t_ <;> first | rfl | (exfalso; revert h_; simp [xF]; done) | skip
  rename_i i_
  simp only [xF] at h_
  simp only [xI]
  cases h1 : xiv i_ with
  | false => rfl
  | true => rw [h1] at h_; cases h_
section
variable {r_ : Nat → Value} {g_ : Nat → Nat} {a_ b_ t_ : Jvm.Term}
theorem ysb_I (h_ : xI t_ = true) : ysb r_ g_ t_ = .int (yv r_ t_) := by
  unfold ysb
  rw [h_]
theorem ysb_G (h_ : xG t_ = true) : ysb r_ g_ t_ = .long (xtl (xdv r_ xid t_)) := by
  have k_ : xI t_ = false := by
    cases hi_ : xI t_ with
    | false => rfl
    | true => rw [xI_noG hi_] at h_; cases h_
  unfold ysb
  rw [k_]
  simp only [h_]
theorem ysb_k (r_ : Nat → Value) (g_ : Nat → Nat) (t_ : Jvm.Term) : (xI t_ = true ∧ ysb r_ g_ t_ = .int (yv r_ t_)) ∨ (xI t_ = false ∧ xG t_ = true ∧ ysb r_ g_ t_ = .long (xtl (xdv r_ xid t_))) ∨ (xI t_ = false ∧ xG t_ = false ∧ ((∃ n_, t_ = .index n_ ∧ ysb r_ g_ t_ = .index (g_ n_)) ∨ ysb r_ g_ t_ = t_)) := by
  cases hi_ : xI t_ with
  | true => exact Or.inl ⟨rfl, ysb_I hi_⟩
  | false =>
    cases hg : xG t_ with
    | true => exact Or.inr (Or.inl ⟨rfl, rfl, ysb_G hg⟩)
    | false =>
      refine Or.inr (Or.inr ⟨rfl, rfl, ?_⟩)
      unfold ysb
      rw [hi_]
      simp only [hg]
      split
      · exact Or.inl ⟨_, rfl, rfl⟩
      · exact Or.inr rfl
theorem xI_y : xI (ysb r_ g_ t_) = xI t_ := by
  rcases ysb_k r_ g_ t_ with ⟨h_, e_⟩ | ⟨h_, h2, e_⟩ | ⟨h_, h2, ⟨n_, e1_, e_⟩ | e_⟩
  · exact (congrArg xI e_).trans h_.symm
  · exact (congrArg xI e_).trans h_.symm
  · subst e1_
    rfl
  · rw [e_]
theorem xG_y : xG (ysb r_ g_ t_) = xG t_ := by
  rcases ysb_k r_ g_ t_ with ⟨h_, e_⟩ | ⟨h_, h2, e_⟩ | ⟨h_, h2, ⟨n_, e1_, e_⟩ | e_⟩
  · exact (congrArg xG e_).trans (xI_noG h_).symm
  · exact (congrArg xG e_).trans h2.symm
  · subst e1_
    rfl
  · rw [e_]
theorem xF_y (h_ : xF t_ = true) : xF (ysb r_ g_ t_) = true := by
  rcases ysb_k r_ g_ t_ with ⟨k_, e_⟩ | ⟨k_, h2, e_⟩ | ⟨k_, h2, ⟨n_, e1_, e_⟩ | e_⟩
  · rw [xF_noI h_] at k_
    cases k_
  · rw [xF_notG h_] at h2
    cases h2
  · subst e1_
    rfl
  · rw [e_]
    exact h_
theorem xlit_y {x_ : Int32} (h_ : xlit t_ = some x_) : xlit (ysb r_ g_ t_) = some x_ := by
  rw [xlit_eq h_]
  rfl
theorem xfits_y {ty_ : FieldType} (h_ : xfits ty_ t_ = true) : xfits ty_ (ysb r_ g_ t_) = true := by
  cases ty_ <;> first | (cases h_; done) | skip
  all_goals simp only [xfits] at h_ ⊢
  all_goals first | (rw [xI_y]; exact h_) | (exact xF_y h_) | skip
  cases hx : xlit t_ with
  | none => rw [hx] at h_; cases h_
  | some x_ => rw [hx] at h_; rw [xlit_y hx]; exact h_
theorem xrt_y {ty_ : Option FieldType} (h_ : xrt ty_ t_ = true) : xrt ty_ (ysb r_ g_ t_) = true := by
  rcases ty_ with _ | ty_
  · cases h_
  cases ty_ <;> first | (cases h_; done) | skip
  all_goals simp only [xrt] at h_ ⊢
  all_goals first | (rw [xI_y]; exact h_) | skip
  cases hx : xlit t_ with
  | none => rw [hx] at h_; cases h_
  | some x_ => rw [hx] at h_; rw [xlit_y hx]; exact h_
theorem xrr_y {ty_ : Option FieldType} (h_ : xrr ty_ t_ = true) : xrr ty_ (ysb r_ g_ t_) = true := by
  rcases ty_ with _ | ty_
  · cases h_
  cases ty_ <;> first | (cases h_; done) | (exact xF_y h_)
def ylo (r_ : Nat → Value) (g_ : Nat → Nat) (lo_ : xL) : xL := lo_.map (fun q_ => (q_.1, ysb r_ g_ q_.2))
theorem xlk_y {lo_ : xL} {i_ : Nat} (h_ : xlk lo_ i_ = some t_) : xlk (ylo r_ g_ lo_) i_ = some (ysb r_ g_ t_) := by
  induction lo_ with
  | nil => cases h_
  | cons q_ l ih_ =>
    simp only [xlk] at h_
    simp only [ylo, List.map_cons, xlk]
    cases e_ : Nat.beq q_.1 i_ with
    | true => rw [e_] at h_; cases h_; rfl
    | false => rw [e_] at h_; exact ih_ h_
theorem xs1_y {lo_ : xL} {i_ : Nat} : xs1 (ylo r_ g_ lo_) i_ (ysb r_ g_ t_) = ylo r_ g_ (xs1 lo_ i_ t_) := by
  unfold xs1 ylo
  rw [List.map_cons, List.filter_map]
  refine congrArg (List.cons _) (congrArg (List.map _) (List.filter_congr (fun q_ _ => ?_)))
  simp only [Function.comp, xG_y]
theorem xs2_y {lo_ : xL} {i_ : Nat} : xs2 (ylo r_ g_ lo_) i_ (ysb r_ g_ t_) = ylo r_ g_ (xs2 lo_ i_ t_) := by
  unfold xs2 ylo
  rw [List.map_cons, List.filter_map]
  refine congrArg (List.cons _) (congrArg (List.map _) (List.filter_congr (fun q_ _ => ?_)))
  simp only [Function.comp, xG_y]
theorem xtk_y {n_ : Nat} : ∀ {st_ acc as_ s_ : List Jvm.Term}, xtk n_ st_ acc = some (as_, s_) → xtk n_ (st_.map (ysb r_ g_)) (acc.map (ysb r_ g_)) = some (as_.map (ysb r_ g_), s_.map (ysb r_ g_)) := by
  induction n_ with
  | zero =>
    intro st_ acc as_ s_ h_
    simp only [xtk] at h_ ⊢
    cases h_
    rfl
  | succ n_ ih_ =>
    intro st_ acc as_ s_ h_
    cases st_ with
    | nil => cases h_
    | cons u_ w_ =>
      simp only [xtk] at h_
      exact ih_ (acc := u_ :: acc) h_
theorem xal_y : ∀ {l : List Jvm.Term} {i_ : Nat}, xal i_ (l.map (ysb r_ g_)) = ylo r_ g_ (xal i_ l) := by
  intro l
  induction l with
  | nil => intro i_; rfl
  | cons u_ w_ ih_ =>
    intro i_
    show (i_, ysb r_ g_ u_) :: xal (bif xG (ysb r_ g_ u_) then i_ + 2 else i_ + 1) (w_.map (ysb r_ g_)) = (i_, ysb r_ g_ u_) :: ylo r_ g_ (xal (bif xG u_ then i_ + 2 else i_ + 1) w_)
    rw [xG_y, ih_]
theorem xasz_y : ∀ {l : List Jvm.Term}, xasz (l.map (ysb r_ g_)) = xasz l := by
  intro l
  induction l with
  | nil => rfl
  | cons u_ w_ ih_ =>
    show (bif xG (ysb r_ g_ u_) then 2 else 1) + xasz (w_.map (ysb r_ g_)) = (bif xG u_ then 2 else 1) + xasz w_
    rw [xG_y, ih_]
theorem notG_y {s_ : List Jvm.Term} (h_ : s_.all (fun t_ => !(xG t_)) = true) : (s_.map (ysb r_ g_)).all (fun t_ => !(xG t_)) = true := by
  rw [List.all_map]
  refine List.all_eq_true.mpr (fun u_ hu => ?_)
  show (!(xG (ysb r_ g_ u_))) = true
  rw [xG_y]
  exact List.all_eq_true.mp h_ u_ hu
theorem xad_I (ha_ : xI a_ = true) (hb_ : xI b_ = true) : ysb r_ g_ (xad a_ b_) = xad (ysb r_ g_ a_) (ysb r_ g_ b_) := by
  have h1 : xI (xad a_ b_) = true := by
    cases hx : xlit a_ <;> cases hy : xlit b_ <;> simp only [xad, hx, hy] <;> rfl
  rw [ysb_I h1, ysb_I ha_, ysb_I hb_]
  show Jvm.Term.int (xti (xdv r_ xid (xad a_ b_))) = .int (yv r_ a_ + yv r_ b_)
  rw [xad_dv]
  rfl
theorem xsb_I (ha_ : xI a_ = true) (hb_ : xI b_ = true) : ysb r_ g_ (xsb a_ b_) = xsb (ysb r_ g_ a_) (ysb r_ g_ b_) := by
  have h1 : xI (xsb a_ b_) = true := by
    cases hx : xlit a_ <;> cases hy : xlit b_ <;> simp only [xsb, hx, hy] <;> rfl
  rw [ysb_I h1, ysb_I ha_, ysb_I hb_]
  show Jvm.Term.int (xti (xdv r_ xid (xsb a_ b_))) = .int (yv r_ a_ - yv r_ b_)
  rw [xsb_dv]
  rfl
theorem xml_I (ha_ : xI a_ = true) (hb_ : xI b_ = true) : ysb r_ g_ (xml a_ b_) = xml (ysb r_ g_ a_) (ysb r_ g_ b_) := by
  have h1 : xI (xml a_ b_) = true := by
    cases hx : xlit a_ <;> cases hy : xlit b_ <;> simp only [xml, hx, hy] <;> rfl
  rw [ysb_I h1, ysb_I ha_, ysb_I hb_]
  show Jvm.Term.int (xti (xdv r_ xid (xml a_ b_))) = .int (yv r_ a_ * yv r_ b_)
  rw [xml_dv]
  rfl
theorem xdi_I (ha_ : xI a_ = true) (hb_ : xI b_ = true) : ysb r_ g_ (xdi a_ b_) = xdi (ysb r_ g_ a_) (ysb r_ g_ b_) := by
  have h1 : xI (xdi a_ b_) = true := by
    cases hx : xlit a_ <;> cases hy : xlit b_ <;> simp only [xdi, hx, hy] <;> rfl
  rw [ysb_I h1, ysb_I ha_, ysb_I hb_]
  show Jvm.Term.int (xti (xdv r_ xid (xdi a_ b_))) = .int (yv r_ a_ / yv r_ b_)
  rw [xdi_dv]
  rfl
theorem xrm_I (ha_ : xI a_ = true) (hb_ : xI b_ = true) : ysb r_ g_ (xrm a_ b_) = xrm (ysb r_ g_ a_) (ysb r_ g_ b_) := by
  have h1 : xI (xrm a_ b_) = true := by
    cases hx : xlit a_ <;> cases hy : xlit b_ <;> simp only [xrm, hx, hy] <;> rfl
  rw [ysb_I h1, ysb_I ha_, ysb_I hb_]
  show Jvm.Term.int (xti (xdv r_ xid (xrm a_ b_))) = .int (yv r_ a_ - yv r_ a_ / yv r_ b_ * yv r_ b_)
  rw [xrm_dv]
  rfl
theorem xo2_I {o : Binary} (ho : xI (.op2 o a_ b_) = true) (v_ u_ : Value) : xti (xo2 o v_ u_) = xti (xo2 o (.int (xti v_)) (.int (xti u_))) := by
  simp only [xI] at ho
  cases o <;> first | (exact absurd ho (by decide)) | (simp only [xo2, xti]; done) | rfl
theorem xb2_I {o : Binary} (ho : xI (.op2 o a_ b_) = true) (ha_ : xI a_ = true) (hb_ : xI b_ = true) : ysb r_ g_ (xb2 o a_ b_) = xb2 o (ysb r_ g_ a_) (ysb r_ g_ b_) := by
  have h1 : xI (xb2 o a_ b_) = true := by
    cases hx : xlit a_ <;> cases hy : xlit b_ <;> simp only [xb2, hx, hy] <;> first | rfl | exact ho
  have h2 : yv r_ (xb2 o a_ b_) = xti (xo2 o (.int (yv r_ a_)) (.int (yv r_ b_))) := by
    cases hx : xlit a_ <;> cases hy : xlit b_ <;> simp only [xb2, hx, hy] <;> first | (rw [xlit_eq hx, xlit_eq hy]; rfl) | exact xo2_I ho _ _
  rw [ysb_I h1, ysb_I ha_, ysb_I hb_, h2]
  rfl
theorem xo1_I {o : Unary} (ho : xI (.op1 o a_) = true) (hn : o ≠ .l2i) (v_ : Value) : xti (xo1 o v_) = xti (xo1 o (.int (xti v_))) := by
  simp only [xI] at ho
  cases o <;> first | (exact absurd ho (by decide)) | (exact absurd rfl hn) | (simp only [xo1, xti]; done)
theorem xb1_I {o : Unary} (ho : xI (.op1 o a_) = true) (hn : o ≠ .l2i) (ha_ : xI a_ = true) : ysb r_ g_ (xb1 o a_) = xb1 o (ysb r_ g_ a_) := by
  have h1 : xI (xb1 o a_) = true := by
    cases hx : xlit a_ <;> simp only [xb1, hx] <;> first | rfl | exact ho
  have h2 : yv r_ (xb1 o a_) = xti (xo1 o (.int (yv r_ a_))) := by
    cases hx : xlit a_ <;> simp only [xb1, hx] <;> first | (rw [xlit_eq hx]; rfl) | exact xo1_I ho hn _
  rw [ysb_I h1, ysb_I ha_, h2]
  rfl
theorem xl2_v {o : Binary} : xtl (xdv r_ xid (xl2 o a_ b_)) = xtl (xo2 o (xdv r_ xid a_) (xdv r_ xid b_)) := by
  unfold xl2
  split
  · split <;> rfl
  · rfl
theorem xl2_G {o : Binary} (ho : xG (.op2 o a_ b_) = true) : xG (xl2 o a_ b_) = true := by
  unfold xl2
  split
  · split <;> first | rfl | exact ho
  · exact ho
theorem xl2_I {o : Binary} (ho : xG (.op2 o a_ b_) = true) (hs : o = .lushr ∨ o = .lshr ∨ o = .lshl) (ha_ : xG a_ = true) (hb_ : xI b_ = true) : ysb r_ g_ (xl2 o a_ b_) = xl2 o (ysb r_ g_ a_) (ysb r_ g_ b_) := by
  rw [ysb_G (xl2_G ho), ysb_G ha_, ysb_I hb_, xl2_v]
  rcases hs with rfl | rfl | rfl <;> rfl
theorem xl2_L {o : Binary} (ho : xG (.op2 o a_ b_) = true) (hs : o = .land ∨ o = .lor ∨ o = .ladd ∨ o = .lsub) (ha_ : xG a_ = true) (hb_ : xG b_ = true) : ysb r_ g_ (xl2 o a_ b_) = xl2 o (ysb r_ g_ a_) (ysb r_ g_ b_) := by
  rw [ysb_G (xl2_G ho), ysb_G ha_, ysb_G hb_, xl2_v]
  rcases hs with rfl | rfl | rfl | rfl <;> rfl
theorem xl1_I (ha_ : xG a_ = true) : ysb r_ g_ (xl1 a_) = xl1 (ysb r_ g_ a_) := by
  have h1 : xI (xl1 a_) = true := by
    unfold xl1
    split <;> rfl
  have h2 : yv r_ (xl1 a_) = (xtl (xdv r_ xid a_)).toInt32 := by
    unfold xl1
    split <;> rfl
  rw [ysb_I h1, ysb_G ha_, h2]
  rfl
theorem xl0_I (ha_ : xI a_ = true) : ysb r_ g_ (xl0 a_) = xl0 (ysb r_ g_ a_) := by
  have h1 : xG (xl0 a_) = true := by
    unfold xl0
    split <;> rfl
  have h2 : xtl (xdv r_ xid (xl0 a_)) = (yv r_ a_).toInt64 := by
    unfold xl0
    split <;> rfl
  rw [ysb_G h1, ysb_I ha_, h2]
  rfl
theorem ysb_st {j_ : Nat} (h_ : Nat.ble j_ 40 = true) : ysb r_ g_ (.arg (150 + j_)) = .arg (150 + j_) := by
  have k_ := Nat.le_of_ble_eq_true h_
  have h1 : xiv (150 + j_) = false := by
    unfold xiv
    rw [Bool.or_eq_false_iff]
    exact ⟨ble_no (by omega), ble_no (by omega)⟩
  have h2 : xG (.arg (150 + j_)) = false := by
    simp only [xG, h1, cond_false]
    exact ble_no (by omega)
  unfold ysb
  simp only [xI, h1, h2]
theorem ysb_sr {j_ : Nat} (h_ : Nat.ble j_ 40 = true) : ysb r_ g_ (.arg (101 + j_)) = .arg (101 + j_) := by
  have k_ := Nat.le_of_ble_eq_true h_
  have h1 : xiv (101 + j_) = false := by
    unfold xiv
    rw [Bool.or_eq_false_iff]
    exact ⟨ble_no (by omega), ble_no (by omega)⟩
  have h2 : xG (.arg (101 + j_)) = false := by
    simp only [xG, h1, cond_false]
    exact ble_no (by omega)
  unfold ysb
  simp only [xI, h1, h2]
end
/-- instructions that look at no cell -/
def ypn (e_ : Instr × Nat × List Nat) : Bool := match e_.1 with
  | .iconst _ => true
  | .bipush _ => true
  | .sipush _ => true
  | .lconst _ => true
  | .aconst_null => true
  | .iload_n _ => true
  | .iload _ => true
  | .aload_n _ => true
  | .aload _ => true
  | .lload_n _ => true
  | .lload _ => true
  | .istore_n _ => true
  | .istore _ => true
  | .astore_n _ => true
  | .astore _ => true
  | .lstore_n _ => true
  | .lstore _ => true
  | .iinc _ _ => true
  | .iadd => true
  | .isub => true
  | .imul => true
  | .iand => true
  | .ior => true
  | .ixor => true
  | .ishl => true
  | .ishr => true
  | .iushr => true
  | .lushr => true
  | .lshr => true
  | .lshl => true
  | .land => true
  | .lor => true
  | .ladd => true
  | .lsub => true
  | .ineg => true
  | .i2b => true
  | .i2s => true
  | .i2c => true
  | .l2i => true
  | .i2l => true
  | .dup => true
  | .pop => true
  | .dup2 => true
  | .goto _ => true
  | .getstatic _ => match e_.2.2 with
    | [_, j_] => Nat.ble j_ 40
    | _ => true
  | .ldc _ => match e_.2.2 with
    | [_, j_, _] => Nat.ble j_ 40
    | _ => true
  | .ldc_w _ => true
  | .ldc2_w _ => true
  | .tableswitch _ _ _ _ => true
  | .lookupswitch _ _ => true
  | .invokestatic _ => true
  | .iaload => true
  | _ => false
section
variable {r_ : Nat → Value} {g_ : Nat → Nat}
theorem ypn_ok {mi pc pc' : Nat} {e_ : Instr × Nat × List Nat} {lo_ lo' : xL} {st_ st' : List Jvm.Term} (hp : ypn e_ = true) (hs : xsp (β := Nat × xL × List Jvm.Term) mi pc e_ lo_ st_ [] [] (fun a_ b_ c_ _ _ => some (a_, b_, c_)) = some (pc', lo', st')) (h_ : xH) : xcst mi pc e_ (ylo r_ g_ lo_) (st_.map (ysb r_ g_)) h_ pc' (ylo r_ g_ lo') (st'.map (ysb r_ g_)) h_ := by
  obtain ⟨i_, ln, ax⟩ := e_
  cases i_ with
  | iconst n_ =>
    simp only [xsp, xpu, xfT_eq, xfN_eq] at hs
    cases hs
    intro k_
    simp only [xsp, xpu, xfT_eq, xfN_eq]
    rfl
  | bipush n_ =>
    simp only [xsp, xpu, xfT_eq, xfN_eq] at hs
    cases hs
    intro k_
    simp only [xsp, xpu, xfT_eq, xfN_eq]
    rfl
  | sipush n_ =>
    simp only [xsp, xpu, xfT_eq, xfN_eq] at hs
    cases hs
    intro k_
    simp only [xsp, xpu, xfT_eq, xfN_eq]
    rfl
  | lconst n_ =>
    simp only [xsp, xpu, xfT_eq, xfN_eq] at hs
    cases hs
    intro k_
    simp only [xsp, xpu, xfT_eq, xfN_eq]
    rfl
  | aconst_null =>
    simp only [xsp, xpu, xfT_eq, xfN_eq] at hs
    cases hs
    intro k_
    simp only [xsp, xpu, xfT_eq, xfN_eq]
    rfl
  | iload_n i_ =>
    simp only [xsp, xpu, xfT_eq, xfN_eq] at hs
    cases hk : xlk lo_ i_.val with
    | none => simp [hk] at hs
    | some t_ =>
      cases ht : xI t_ with
      | false => simp [hk, ht] at hs
      | true =>
        simp only [hk, ht, cond_true] at hs
        cases hs
        intro k_
        simp only [xsp, xpu, xfT_eq, xfN_eq, xlk_y hk, (show xI (ysb r_ g_ t_) = true from xI_y.trans ht), cond_true]
        rfl
  | iload i_ =>
    simp only [xsp, xpu, xfT_eq, xfN_eq] at hs
    cases hk : xlk lo_ i_ with
    | none => simp [hk] at hs
    | some t_ =>
      cases ht : xI t_ with
      | false => simp [hk, ht] at hs
      | true =>
        simp only [hk, ht, cond_true] at hs
        cases hs
        intro k_
        simp only [xsp, xpu, xfT_eq, xfN_eq, xlk_y hk, (show xI (ysb r_ g_ t_) = true from xI_y.trans ht), cond_true]
        rfl
  | aload_n i_ =>
    simp only [xsp, xpu, xfT_eq, xfN_eq] at hs
    cases hk : xlk lo_ i_.val with
    | none => simp [hk] at hs
    | some t_ =>
      cases ht : xF t_ with
      | false => simp [hk, ht] at hs
      | true =>
        simp only [hk, ht, cond_true] at hs
        cases hs
        intro k_
        simp only [xsp, xpu, xfT_eq, xfN_eq, xlk_y hk, (show xF (ysb r_ g_ t_) = true from xF_y ht), cond_true]
        rfl
  | aload i_ =>
    simp only [xsp, xpu, xfT_eq, xfN_eq] at hs
    cases hk : xlk lo_ i_ with
    | none => simp [hk] at hs
    | some t_ =>
      cases ht : xF t_ with
      | false => simp [hk, ht] at hs
      | true =>
        simp only [hk, ht, cond_true] at hs
        cases hs
        intro k_
        simp only [xsp, xpu, xfT_eq, xfN_eq, xlk_y hk, (show xF (ysb r_ g_ t_) = true from xF_y ht), cond_true]
        rfl
  | lload_n i_ =>
    simp only [xsp, xpu, xfT_eq, xfN_eq] at hs
    cases hk : xlk lo_ i_.val with
    | none => simp [hk] at hs
    | some t_ =>
      cases ht : xG t_ with
      | false => simp [hk, ht] at hs
      | true =>
        simp only [hk, ht, cond_true] at hs
        cases hs
        intro k_
        simp only [xsp, xpu, xfT_eq, xfN_eq, xlk_y hk, (show xG (ysb r_ g_ t_) = true from xG_y.trans ht), cond_true]
        rfl
  | lload i_ =>
    simp only [xsp, xpu, xfT_eq, xfN_eq] at hs
    cases hk : xlk lo_ i_ with
    | none => simp [hk] at hs
    | some t_ =>
      cases ht : xG t_ with
      | false => simp [hk, ht] at hs
      | true =>
        simp only [hk, ht, cond_true] at hs
        cases hs
        intro k_
        simp only [xsp, xpu, xfT_eq, xfN_eq, xlk_y hk, (show xG (ysb r_ g_ t_) = true from xG_y.trans ht), cond_true]
        rfl
  | istore_n i_ =>
    simp only [xsp] at hs
    rcases st_ with _ | ⟨t_, s_⟩
    · cases hs
    simp only [xfL_eq, xfN_eq] at hs
    cases ht : xI t_ with
    | false => simp [ht] at hs
    | true =>
      cases hm_ : Nat.ble (i_.val + 1) (xm mi) with
      | false => simp [ht, hm_] at hs
      | true =>
        simp only [ht, hm_, Bool.and_self, cond_true] at hs
        cases hs
        intro k_
        simp only [xsp, List.map_cons, xfL_eq, xfN_eq, (show xI (ysb r_ g_ t_) = true from xI_y.trans ht), hm_, Bool.and_self, cond_true, xs1_y]
  | istore i_ =>
    simp only [xsp] at hs
    rcases st_ with _ | ⟨t_, s_⟩
    · cases hs
    simp only [xfL_eq, xfN_eq] at hs
    cases ht : xI t_ with
    | false => simp [ht] at hs
    | true =>
      cases hm_ : Nat.ble (i_ + 1) (xm mi) with
      | false => simp [ht, hm_] at hs
      | true =>
        simp only [ht, hm_, Bool.and_self, cond_true] at hs
        cases hs
        intro k_
        simp only [xsp, List.map_cons, xfL_eq, xfN_eq, (show xI (ysb r_ g_ t_) = true from xI_y.trans ht), hm_, Bool.and_self, cond_true, xs1_y]
  | astore_n i_ =>
    simp only [xsp] at hs
    rcases st_ with _ | ⟨t_, s_⟩
    · cases hs
    simp only [xfL_eq, xfN_eq] at hs
    cases ht : xF t_ with
    | false => simp [ht] at hs
    | true =>
      cases hm_ : Nat.ble (i_.val + 1) (xm mi) with
      | false => simp [ht, hm_] at hs
      | true =>
        simp only [ht, hm_, Bool.and_self, cond_true] at hs
        cases hs
        intro k_
        simp only [xsp, List.map_cons, xfL_eq, xfN_eq, (show xF (ysb r_ g_ t_) = true from xF_y ht), hm_, Bool.and_self, cond_true, xs1_y]
  | astore i_ =>
    simp only [xsp] at hs
    rcases st_ with _ | ⟨t_, s_⟩
    · cases hs
    simp only [xfL_eq, xfN_eq] at hs
    cases ht : xF t_ with
    | false => simp [ht] at hs
    | true =>
      cases hm_ : Nat.ble (i_ + 1) (xm mi) with
      | false => simp [ht, hm_] at hs
      | true =>
        simp only [ht, hm_, Bool.and_self, cond_true] at hs
        cases hs
        intro k_
        simp only [xsp, List.map_cons, xfL_eq, xfN_eq, (show xF (ysb r_ g_ t_) = true from xF_y ht), hm_, Bool.and_self, cond_true, xs1_y]
  | lstore_n i_ =>
    simp only [xsp] at hs
    rcases st_ with _ | ⟨t_, s_⟩
    · cases hs
    simp only [xfL_eq, xfN_eq] at hs
    cases ht : xG t_ with
    | false => simp [ht] at hs
    | true =>
      cases hm_ : Nat.ble (i_.val + 2) (xm mi) with
      | false => simp [ht, hm_] at hs
      | true =>
        simp only [ht, hm_, Bool.and_self, cond_true] at hs
        cases hs
        intro k_
        simp only [xsp, List.map_cons, xfL_eq, xfN_eq, (show xG (ysb r_ g_ t_) = true from xG_y.trans ht), hm_, Bool.and_self, cond_true, xs2_y]
  | lstore i_ =>
    simp only [xsp] at hs
    rcases st_ with _ | ⟨t_, s_⟩
    · cases hs
    simp only [xfL_eq, xfN_eq] at hs
    cases ht : xG t_ with
    | false => simp [ht] at hs
    | true =>
      cases hm_ : Nat.ble (i_ + 2) (xm mi) with
      | false => simp [ht, hm_] at hs
      | true =>
        simp only [ht, hm_, Bool.and_self, cond_true] at hs
        cases hs
        intro k_
        simp only [xsp, List.map_cons, xfL_eq, xfN_eq, (show xG (ysb r_ g_ t_) = true from xG_y.trans ht), hm_, Bool.and_self, cond_true, xs2_y]
  | iinc i_ n_ =>
    simp only [xsp, xfL_eq, xfT_eq, xfN_eq] at hs
    cases hk : xlk lo_ i_ with
    | none => simp [hk] at hs
    | some t_ =>
      cases ht : xI t_ with
      | false => simp [hk, ht] at hs
      | true =>
        cases hm_ : Nat.ble (i_ + 1) (xm mi) with
        | false => simp [hk, ht, hm_] at hs
        | true =>
          simp only [hk, ht, hm_, Bool.and_self, cond_true] at hs
          cases hs
          intro k_
          simp only [xsp, xfL_eq, xfT_eq, xfN_eq, xlk_y hk, (show xI (ysb r_ g_ t_) = true from xI_y.trans ht), hm_, Bool.and_self, cond_true]
          rw [← xs1_y, xad_I ht (show xI (.int (Int32.ofInt n_)) = true from rfl)]
          rfl
  | iadd =>
    simp only [xsp, xpu, xfT_eq, xfN_eq] at hs
    rcases st_ with _ | ⟨b_, _ | ⟨a_, s_⟩⟩
    · cases hs
    · cases hs
    simp only at hs
    cases ha_ : xI a_ with
    | false => simp [ha_] at hs
    | true =>
      cases hb_ : xI b_ with
      | false => simp [ha_, hb_] at hs
      | true =>
        simp only [ha_, hb_, Bool.and_self, cond_true] at hs
        cases hs
        intro k_
        simp only [xsp, xpu, xfT_eq, xfN_eq, List.map_cons, (show xI (ysb r_ g_ a_) = true from xI_y.trans ha_), (show xI (ysb r_ g_ b_) = true from xI_y.trans hb_), Bool.and_self, cond_true, xad_I ha_ hb_]
  | isub =>
    simp only [xsp, xpu, xfT_eq, xfN_eq] at hs
    rcases st_ with _ | ⟨b_, _ | ⟨a_, s_⟩⟩
    · cases hs
    · cases hs
    simp only at hs
    cases ha_ : xI a_ with
    | false => simp [ha_] at hs
    | true =>
      cases hb_ : xI b_ with
      | false => simp [ha_, hb_] at hs
      | true =>
        simp only [ha_, hb_, Bool.and_self, cond_true] at hs
        cases hs
        intro k_
        simp only [xsp, xpu, xfT_eq, xfN_eq, List.map_cons, (show xI (ysb r_ g_ a_) = true from xI_y.trans ha_), (show xI (ysb r_ g_ b_) = true from xI_y.trans hb_), Bool.and_self, cond_true, xsb_I ha_ hb_]
  | imul =>
    simp only [xsp, xpu, xfT_eq, xfN_eq] at hs
    rcases st_ with _ | ⟨b_, _ | ⟨a_, s_⟩⟩
    · cases hs
    · cases hs
    simp only at hs
    cases ha_ : xI a_ with
    | false => simp [ha_] at hs
    | true =>
      cases hb_ : xI b_ with
      | false => simp [ha_, hb_] at hs
      | true =>
        simp only [ha_, hb_, Bool.and_self, cond_true] at hs
        cases hs
        intro k_
        simp only [xsp, xpu, xfT_eq, xfN_eq, List.map_cons, (show xI (ysb r_ g_ a_) = true from xI_y.trans ha_), (show xI (ysb r_ g_ b_) = true from xI_y.trans hb_), Bool.and_self, cond_true, xml_I ha_ hb_]
  | iand =>
    simp only [xsp, xpu, xfT_eq, xfN_eq] at hs
    rcases st_ with _ | ⟨b_, _ | ⟨a_, s_⟩⟩
    · cases hs
    · cases hs
    simp only at hs
    cases ha_ : xI a_ with
    | false => simp [ha_] at hs
    | true =>
      cases hb_ : xI b_ with
      | false => simp [ha_, hb_] at hs
      | true =>
        simp only [ha_, hb_, Bool.and_self, cond_true] at hs
        cases hs
        intro k_
        simp only [xsp, xpu, xfT_eq, xfN_eq, List.map_cons, (show xI (ysb r_ g_ a_) = true from xI_y.trans ha_), (show xI (ysb r_ g_ b_) = true from xI_y.trans hb_), Bool.and_self, cond_true, (xb2_I (o := .iand) rfl ha_ hb_)]
  | ior =>
    simp only [xsp, xpu, xfT_eq, xfN_eq] at hs
    rcases st_ with _ | ⟨b_, _ | ⟨a_, s_⟩⟩
    · cases hs
    · cases hs
    simp only at hs
    cases ha_ : xI a_ with
    | false => simp [ha_] at hs
    | true =>
      cases hb_ : xI b_ with
      | false => simp [ha_, hb_] at hs
      | true =>
        simp only [ha_, hb_, Bool.and_self, cond_true] at hs
        cases hs
        intro k_
        simp only [xsp, xpu, xfT_eq, xfN_eq, List.map_cons, (show xI (ysb r_ g_ a_) = true from xI_y.trans ha_), (show xI (ysb r_ g_ b_) = true from xI_y.trans hb_), Bool.and_self, cond_true, (xb2_I (o := .ior) rfl ha_ hb_)]
  | ixor =>
    simp only [xsp, xpu, xfT_eq, xfN_eq] at hs
    rcases st_ with _ | ⟨b_, _ | ⟨a_, s_⟩⟩
    · cases hs
    · cases hs
    simp only at hs
    cases ha_ : xI a_ with
    | false => simp [ha_] at hs
    | true =>
      cases hb_ : xI b_ with
      | false => simp [ha_, hb_] at hs
      | true =>
        simp only [ha_, hb_, Bool.and_self, cond_true] at hs
        cases hs
        intro k_
        simp only [xsp, xpu, xfT_eq, xfN_eq, List.map_cons, (show xI (ysb r_ g_ a_) = true from xI_y.trans ha_), (show xI (ysb r_ g_ b_) = true from xI_y.trans hb_), Bool.and_self, cond_true, (xb2_I (o := .ixor) rfl ha_ hb_)]
  | ishl =>
    simp only [xsp, xpu, xfT_eq, xfN_eq] at hs
    rcases st_ with _ | ⟨b_, _ | ⟨a_, s_⟩⟩
    · cases hs
    · cases hs
    simp only at hs
    cases ha_ : xI a_ with
    | false => simp [ha_] at hs
    | true =>
      cases hb_ : xI b_ with
      | false => simp [ha_, hb_] at hs
      | true =>
        simp only [ha_, hb_, Bool.and_self, cond_true] at hs
        cases hs
        intro k_
        simp only [xsp, xpu, xfT_eq, xfN_eq, List.map_cons, (show xI (ysb r_ g_ a_) = true from xI_y.trans ha_), (show xI (ysb r_ g_ b_) = true from xI_y.trans hb_), Bool.and_self, cond_true, (xb2_I (o := .ishl) rfl ha_ hb_)]
  | ishr =>
    simp only [xsp, xpu, xfT_eq, xfN_eq] at hs
    rcases st_ with _ | ⟨b_, _ | ⟨a_, s_⟩⟩
    · cases hs
    · cases hs
    simp only at hs
    cases ha_ : xI a_ with
    | false => simp [ha_] at hs
    | true =>
      cases hb_ : xI b_ with
      | false => simp [ha_, hb_] at hs
      | true =>
        simp only [ha_, hb_, Bool.and_self, cond_true] at hs
        cases hs
        intro k_
        simp only [xsp, xpu, xfT_eq, xfN_eq, List.map_cons, (show xI (ysb r_ g_ a_) = true from xI_y.trans ha_), (show xI (ysb r_ g_ b_) = true from xI_y.trans hb_), Bool.and_self, cond_true, (xb2_I (o := .ishr) rfl ha_ hb_)]
  | iushr =>
    simp only [xsp, xpu, xfT_eq, xfN_eq] at hs
    rcases st_ with _ | ⟨b_, _ | ⟨a_, s_⟩⟩
    · cases hs
    · cases hs
    simp only at hs
    cases ha_ : xI a_ with
    | false => simp [ha_] at hs
    | true =>
      cases hb_ : xI b_ with
      | false => simp [ha_, hb_] at hs
      | true =>
        simp only [ha_, hb_, Bool.and_self, cond_true] at hs
        cases hs
        intro k_
        simp only [xsp, xpu, xfT_eq, xfN_eq, List.map_cons, (show xI (ysb r_ g_ a_) = true from xI_y.trans ha_), (show xI (ysb r_ g_ b_) = true from xI_y.trans hb_), Bool.and_self, cond_true, (xb2_I (o := .iushr) rfl ha_ hb_)]
  | lushr =>
    simp only [xsp, xpu, xfT_eq, xfN_eq] at hs
    rcases st_ with _ | ⟨b_, _ | ⟨a_, s_⟩⟩
    · cases hs
    · cases hs
    simp only at hs
    cases ha_ : xG a_ with
    | false => simp [ha_] at hs
    | true =>
      cases hb_ : xI b_ with
      | false => simp [ha_, hb_] at hs
      | true =>
        simp only [ha_, hb_, Bool.and_self, cond_true] at hs
        cases hs
        intro k_
        simp only [xsp, xpu, xfT_eq, xfN_eq, List.map_cons, (show xG (ysb r_ g_ a_) = true from xG_y.trans ha_), (show xI (ysb r_ g_ b_) = true from xI_y.trans hb_), Bool.and_self, cond_true, (xl2_I (o := .lushr) rfl (by simp) ha_ hb_)]
  | lshr =>
    simp only [xsp, xpu, xfT_eq, xfN_eq] at hs
    rcases st_ with _ | ⟨b_, _ | ⟨a_, s_⟩⟩
    · cases hs
    · cases hs
    simp only at hs
    cases ha_ : xG a_ with
    | false => simp [ha_] at hs
    | true =>
      cases hb_ : xI b_ with
      | false => simp [ha_, hb_] at hs
      | true =>
        simp only [ha_, hb_, Bool.and_self, cond_true] at hs
        cases hs
        intro k_
        simp only [xsp, xpu, xfT_eq, xfN_eq, List.map_cons, (show xG (ysb r_ g_ a_) = true from xG_y.trans ha_), (show xI (ysb r_ g_ b_) = true from xI_y.trans hb_), Bool.and_self, cond_true, (xl2_I (o := .lshr) rfl (by simp) ha_ hb_)]
  | lshl =>
    simp only [xsp, xpu, xfT_eq, xfN_eq] at hs
    rcases st_ with _ | ⟨b_, _ | ⟨a_, s_⟩⟩
    · cases hs
    · cases hs
    simp only at hs
    cases ha_ : xG a_ with
    | false => simp [ha_] at hs
    | true =>
      cases hb_ : xI b_ with
      | false => simp [ha_, hb_] at hs
      | true =>
        simp only [ha_, hb_, Bool.and_self, cond_true] at hs
        cases hs
        intro k_
        simp only [xsp, xpu, xfT_eq, xfN_eq, List.map_cons, (show xG (ysb r_ g_ a_) = true from xG_y.trans ha_), (show xI (ysb r_ g_ b_) = true from xI_y.trans hb_), Bool.and_self, cond_true, (xl2_I (o := .lshl) rfl (by simp) ha_ hb_)]
  | land =>
    simp only [xsp, xpu, xfT_eq, xfN_eq] at hs
    rcases st_ with _ | ⟨b_, _ | ⟨a_, s_⟩⟩
    · cases hs
    · cases hs
    simp only at hs
    cases ha_ : xG a_ with
    | false => simp [ha_] at hs
    | true =>
      cases hb_ : xG b_ with
      | false => simp [ha_, hb_] at hs
      | true =>
        simp only [ha_, hb_, Bool.and_self, cond_true] at hs
        cases hs
        intro k_
        simp only [xsp, xpu, xfT_eq, xfN_eq, List.map_cons, (show xG (ysb r_ g_ a_) = true from xG_y.trans ha_), (show xG (ysb r_ g_ b_) = true from xG_y.trans hb_), Bool.and_self, cond_true, (xl2_L (o := .land) rfl (by simp) ha_ hb_)]
  | lor =>
    simp only [xsp, xpu, xfT_eq, xfN_eq] at hs
    rcases st_ with _ | ⟨b_, _ | ⟨a_, s_⟩⟩
    · cases hs
    · cases hs
    simp only at hs
    cases ha_ : xG a_ with
    | false => simp [ha_] at hs
    | true =>
      cases hb_ : xG b_ with
      | false => simp [ha_, hb_] at hs
      | true =>
        simp only [ha_, hb_, Bool.and_self, cond_true] at hs
        cases hs
        intro k_
        simp only [xsp, xpu, xfT_eq, xfN_eq, List.map_cons, (show xG (ysb r_ g_ a_) = true from xG_y.trans ha_), (show xG (ysb r_ g_ b_) = true from xG_y.trans hb_), Bool.and_self, cond_true, (xl2_L (o := .lor) rfl (by simp) ha_ hb_)]
  | ladd =>
    simp only [xsp, xpu, xfT_eq, xfN_eq] at hs
    rcases st_ with _ | ⟨b_, _ | ⟨a_, s_⟩⟩
    · cases hs
    · cases hs
    simp only at hs
    cases ha_ : xG a_ with
    | false => simp [ha_] at hs
    | true =>
      cases hb_ : xG b_ with
      | false => simp [ha_, hb_] at hs
      | true =>
        simp only [ha_, hb_, Bool.and_self, cond_true] at hs
        cases hs
        intro k_
        simp only [xsp, xpu, xfT_eq, xfN_eq, List.map_cons, (show xG (ysb r_ g_ a_) = true from xG_y.trans ha_), (show xG (ysb r_ g_ b_) = true from xG_y.trans hb_), Bool.and_self, cond_true, (xl2_L (o := .ladd) rfl (by simp) ha_ hb_)]
  | lsub =>
    simp only [xsp, xpu, xfT_eq, xfN_eq] at hs
    rcases st_ with _ | ⟨b_, _ | ⟨a_, s_⟩⟩
    · cases hs
    · cases hs
    simp only at hs
    cases ha_ : xG a_ with
    | false => simp [ha_] at hs
    | true =>
      cases hb_ : xG b_ with
      | false => simp [ha_, hb_] at hs
      | true =>
        simp only [ha_, hb_, Bool.and_self, cond_true] at hs
        cases hs
        intro k_
        simp only [xsp, xpu, xfT_eq, xfN_eq, List.map_cons, (show xG (ysb r_ g_ a_) = true from xG_y.trans ha_), (show xG (ysb r_ g_ b_) = true from xG_y.trans hb_), Bool.and_self, cond_true, (xl2_L (o := .lsub) rfl (by simp) ha_ hb_)]
  | ineg =>
    simp only [xsp, xpu, xfT_eq, xfN_eq] at hs
    rcases st_ with _ | ⟨a_, s_⟩
    · cases hs
    simp only at hs
    cases ha_ : xI a_ with
    | false => simp [ha_] at hs
    | true =>
      simp only [ha_, cond_true] at hs
      cases hs
      intro k_
      simp only [xsp, xpu, xfT_eq, xfN_eq, List.map_cons, (show xI (ysb r_ g_ a_) = true from xI_y.trans ha_), cond_true, (xb1_I (o := .ineg) rfl (by decide) ha_)]
  | i2b =>
    simp only [xsp, xpu, xfT_eq, xfN_eq] at hs
    rcases st_ with _ | ⟨a_, s_⟩
    · cases hs
    simp only at hs
    cases ha_ : xI a_ with
    | false => simp [ha_] at hs
    | true =>
      simp only [ha_, cond_true] at hs
      cases hs
      intro k_
      simp only [xsp, xpu, xfT_eq, xfN_eq, List.map_cons, (show xI (ysb r_ g_ a_) = true from xI_y.trans ha_), cond_true, (xb1_I (o := .i2b) rfl (by decide) ha_)]
  | i2s =>
    simp only [xsp, xpu, xfT_eq, xfN_eq] at hs
    rcases st_ with _ | ⟨a_, s_⟩
    · cases hs
    simp only at hs
    cases ha_ : xI a_ with
    | false => simp [ha_] at hs
    | true =>
      simp only [ha_, cond_true] at hs
      cases hs
      intro k_
      simp only [xsp, xpu, xfT_eq, xfN_eq, List.map_cons, (show xI (ysb r_ g_ a_) = true from xI_y.trans ha_), cond_true, (xb1_I (o := .i2s) rfl (by decide) ha_)]
  | i2c =>
    simp only [xsp, xpu, xfT_eq, xfN_eq] at hs
    rcases st_ with _ | ⟨a_, s_⟩
    · cases hs
    simp only at hs
    cases ha_ : xI a_ with
    | false => simp [ha_] at hs
    | true =>
      simp only [ha_, cond_true] at hs
      cases hs
      intro k_
      simp only [xsp, xpu, xfT_eq, xfN_eq, List.map_cons, (show xI (ysb r_ g_ a_) = true from xI_y.trans ha_), cond_true, (xb1_I (o := .i2c) rfl (by decide) ha_)]
  | l2i =>
    simp only [xsp, xpu, xfT_eq, xfN_eq] at hs
    rcases st_ with _ | ⟨a_, s_⟩
    · cases hs
    simp only at hs
    cases ha_ : xG a_ with
    | false => simp [ha_] at hs
    | true =>
      simp only [ha_, cond_true] at hs
      cases hs
      intro k_
      simp only [xsp, xpu, xfT_eq, xfN_eq, List.map_cons, (show xG (ysb r_ g_ a_) = true from xG_y.trans ha_), cond_true, xl1_I ha_]
  | i2l =>
    simp only [xsp, xpu, xfT_eq, xfN_eq] at hs
    rcases st_ with _ | ⟨a_, s_⟩
    · cases hs
    simp only at hs
    cases ha_ : xI a_ with
    | false => simp [ha_] at hs
    | true =>
      simp only [ha_, cond_true] at hs
      cases hs
      intro k_
      simp only [xsp, xpu, xfT_eq, xfN_eq, List.map_cons, (show xI (ysb r_ g_ a_) = true from xI_y.trans ha_), cond_true, xl0_I ha_]
  | dup =>
    simp only [xsp, xpu, xfT_eq, xfN_eq] at hs
    rcases st_ with _ | ⟨a_, s_⟩
    · cases hs
    simp only at hs
    cases ha_ : xG a_ with
    | true => simp [ha_] at hs
    | false =>
      simp only [ha_, cond_false] at hs
      cases hs
      intro k_
      simp only [xsp, xpu, xfT_eq, xfN_eq, List.map_cons, (show xG (ysb r_ g_ a_) = false from xG_y.trans ha_), cond_false]
  | pop =>
    simp only [xsp, xfN_eq] at hs
    rcases st_ with _ | ⟨a_, s_⟩
    · cases hs
    simp only at hs
    cases ha_ : xG a_ with
    | true => simp [ha_] at hs
    | false =>
      simp only [ha_, cond_false] at hs
      cases hs
      intro k_
      simp only [xsp, xfN_eq, List.map_cons, (show xG (ysb r_ g_ a_) = false from xG_y.trans ha_), cond_false]
  | dup2 =>
    simp only [xsp, xfN_eq] at hs
    rcases st_ with _ | ⟨a_, _ | ⟨b_, s_⟩⟩
    · cases hs
    · cases hs
    simp only at hs
    cases ha_ : xG a_ with
    | true => simp [ha_] at hs
    | false =>
      cases hb_ : xG b_ with
      | true => simp [ha_, hb_] at hs
      | false =>
        simp only [ha_, hb_, Bool.or_self, cond_false] at hs
        cases hs
        intro k_
        simp only [xsp, xfN_eq, List.map_cons, (show xG (ysb r_ g_ a_) = false from xG_y.trans ha_), (show xG (ysb r_ g_ b_) = false from xG_y.trans hb_), Bool.or_self, cond_false]
  | goto off_ =>
    simp only [xsp, xjp] at hs
    split at hs
    · rename_i m_ hm_
      simp only [xfN_eq] at hs
      cases hs
      intro k_
      simp only [xsp, xjp, hm_, xfN_eq]
    · cases hs
  | getstatic q_ =>
    simp only [xsp, xpu, xfT_eq, xfN_eq] at hs
    rcases ax with _ | ⟨p0_, _ | ⟨j_, _ | ⟨z9, t9⟩⟩⟩ <;> first | (cases hs; done) | skip
    have hj : Nat.ble j_ 40 = true := hp
    cases hs
    intro k_
    simp only [xsp, xpu, xfT_eq, xfN_eq, List.map_cons, ysb_st hj]
  | ldc q_ =>
    simp only [xsp, xpu, xfT_eq, xfN_eq] at hs
    rcases ax with _ | ⟨p0_, _ | ⟨j_, _ | ⟨z9, _ | ⟨z8, t9⟩⟩⟩⟩ <;> first | (cases hs; done) | skip
    · cases hs
      intro k_
      simp only [xsp, xpu, xfT_eq, xfN_eq]
      rfl
    · have hj : Nat.ble j_ 40 = true := hp
      cases hs
      intro k_
      simp only [xsp, xpu, xfT_eq, xfN_eq, List.map_cons, ysb_sr hj]
  | ldc_w q_ =>
    simp only [xsp, xpu, xfT_eq, xfN_eq] at hs
    rcases ax with _ | ⟨p0_, _ | ⟨j_, _ | ⟨z9, t9⟩⟩⟩ <;> first | (cases hs; done) | skip
    cases hs
    intro k_
    simp only [xsp, xpu, xfT_eq, xfN_eq]
    rfl
  | ldc2_w q_ =>
    simp only [xsp, xpu, xfT_eq, xfN_eq] at hs
    rcases ax with _ | ⟨p0_, _ | ⟨j_, _ | ⟨z9, t9⟩⟩⟩ <;> first | (cases hs; done) | skip
    cases hs
    intro k_
    simp only [xsp, xpu, xfT_eq, xfN_eq]
    rfl
  | tableswitch dflt low_ high_ offs =>
    simp only [xsp] at hs
    rcases st_ with _ | ⟨t_, s_⟩
    · cases hs
    simp only at hs
    cases hx : xlit t_ with
    | none => rw [hx] at hs; cases hs
    | some x_ =>
      rw [hx] at hs
      simp only at hs
      intro k_
      simp only [xsp, List.map_cons, xlit_y hx]
      split at hs
      · rename_i hc_
        simp only [xjp] at hs ⊢
        split at hs
        · rename_i m_ hm_
          simp only [xfN_eq] at hs
          cases hs
          simp only [hc_, hm_, xfN_eq]
        · cases hs
      · rename_i hc_
        split at hs
        · rename_i off_ ho
          simp only [xjp] at hs ⊢
          split at hs
          · rename_i m_ hm_
            simp only [xfN_eq] at hs
            cases hs
            simp only [hc_, ho, hm_, xfN_eq]
          · cases hs
        · cases hs
  | lookupswitch dflt ps_ =>
    simp only [xsp] at hs
    rcases st_ with _ | ⟨t_, s_⟩
    · cases hs
    cases t_
    case int v_ =>
      simp only at hs
      split at hs
      · rename_i hc_
        simp only [xjp] at hs
        split at hs
        · rename_i m_ hm_
          simp only [xfN_eq] at hs
          cases hs
          intro k_
          show xsp mi pc (.lookupswitch dflt ps_, ln, ax) _ (.int v_ :: List.map (ysb r_ g_) _) h_ [] k_ = _
          simp only [xsp, hc_, xjp, hm_, xfN_eq]
        · cases hs
      · cases hs
    all_goals simp only at hs
    all_goals cases hs
  | invokestatic q_ =>
    simp only [xsp] at hs
    rcases ax with _ | ⟨p0_, _ | ⟨cm, _ | ⟨a1_, _ | ⟨b1, _ | ⟨d1_, _ | ⟨x9, t9⟩⟩⟩⟩⟩⟩ <;> first | (cases hs; done) | skip
    simp only at hs
    rcases st_ with _ | ⟨b_, _ | ⟨a_, s_⟩⟩
    · cases hs
    · cases hs
    simp only at hs
    cases h1 : (Nat.ble s_.length 6 && (s_.all (fun t_ => !(xG t_)) && (xI a_ && xI b_))) with
    | false => simp [h1] at hs
    | true =>
    simp only [h1, cond_true] at hs
    simp only [Bool.and_eq_true] at h1
    obtain ⟨k1_, k2_, ha_, hb_⟩ := h1
    have h2 : (Nat.ble (s_.map (ysb r_ g_)).length 6 && ((s_.map (ysb r_ g_)).all (fun t_ => !(xG t_)) && (xI (ysb r_ g_ a_) && xI (ysb r_ g_ b_)))) = true := by
      rw [List.length_map, k1_, notG_y k2_, xI_y, xI_y, ha_, hb_]
      rfl
    intro k_
    simp only [xsp, List.map_cons, h2, cond_true]
    cases h901 : Nat.beq cm 901 with
    | true =>
      simp only [h901, cond_true, xpu, xfT_eq, xfN_eq] at hs ⊢
      cases hs
      simp only [List.map_cons, (xb2_I (o := .fcmpl) rfl ha_ hb_)]
    | false =>
    cases h902 : Nat.beq cm 902 with
    | true =>
      simp only [h901, h902, cond_true, cond_false, xpu, xfT_eq, xfN_eq] at hs ⊢
      cases hs
      simp only [List.map_cons, (xb2_I (o := .fcmpg) rfl ha_ hb_)]
    | false =>
    cases h903 : Nat.beq cm 903 with
    | false => simp [h901, h902, h903] at hs
    | true =>
    exfalso
    simp only [h901, h902, h903, cond_true, cond_false, xhg_eq, List.getElem?_nil] at hs
    repeat' (first | (cases hs; done) | split at hs)
  | iaload =>
    simp only [xsp] at hs
    rcases st_ with _ | ⟨i_, _ | ⟨q_, s_⟩⟩
    · cases hs
    · cases hs
    cases q_
    case index n_ =>
      exfalso
      simp only [xhg_eq, List.getElem?_nil] at hs
      cases hs
    case arg z_ =>
      simp only at hs
      cases hz : (Nat.beq z_ 100 && Nat.beq mi xlaw) with
      | true =>
        exfalso
        simp only [hz, cond_true] at hs
        split at hs
        · cases hs
        · cases hs
      | false =>
        simp only [hz, cond_false] at hs
        cases hy : (Nat.ble 150 z_ && Nat.ble z_ 199) with
        | false => simp [hy] at hs
        | true =>
          simp only [hy, cond_true] at hs
          cases hq1 : xsta (z_ - 150) with
          | none => simp [hq1] at hs
          | some q1_ =>
            simp only [hq1] at hs
            cases hj : xix i_ q1_.2.2.2.length with
            | none => simp [hj] at hs
            | some j_ =>
              simp only [hj, xpu, xfT_eq, xfN_eq] at hs
              cases hs
              simp only [Bool.and_eq_true] at hy
              have y1 := Nat.le_of_ble_eq_true hy.1
              have y2 := Nat.le_of_ble_eq_true hy.2
              have ez : ysb r_ g_ (.arg z_) = .arg z_ := by
                have h1 : xiv z_ = false := by
                  unfold xiv
                  rw [Bool.or_eq_false_iff]
                  exact ⟨ble_no (by omega), ble_no (by omega)⟩
                have h2 : xG (.arg z_) = false := by
                  simp only [xG, h1, cond_false]
                  exact ble_no (by omega)
                unfold ysb
                simp only [xI, h1, h2]
              have ei : ysb r_ g_ i_ = i_ := by
                cases i_ <;> first | rfl | (cases hj; done)
              intro k_
              simp only [xsp, List.map_cons, ez, ei, hz, cond_false, hy.1, hy.2, Bool.and_self, cond_true, hq1, hj, xpu, xfT_eq, xfN_eq]
              rfl
    all_goals simp only at hs
    all_goals cases hs
  | _ => cases hp
end
