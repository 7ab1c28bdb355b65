-- ===== one instruction: places, branches
def yxi (A_ : yA) (t_ : Jvm.Term) : Bool := match t_ with
  | .index n_ => (A_.1 n_).isSome
  | _ => true
noncomputable def yhp (A_ : yA) (e_ : Instr × Nat × List Nat) (pc : Nat) (lo_ : xL) (st_ : List Jvm.Term) (M_ : yM) : Option yS := match e_.1 with
  | .getfield _ => match e_.2.2 with
    | [_, ci, kf] => match st_ with
      | .index n_ :: s_ => match A_.1 n_ with
        | some z_ => bif Nat.beq z_.1 ci && Nat.ble kf 1000 then (match yrd n_ (.int (Int32.ofNat kf)) M_.1 with
          | some t_ => xfN (pc + 3) fun pc' => some (pc', lo_, t_ :: s_, M_)
          | none => none) else none
        | none => none
      | _ => none
    | _ => none
  | .putfield _ => match e_.2.2 with
    | [_, ci, kf] => match st_ with
      | t_ :: .index n_ :: s_ => match A_.1 n_ with
        | some z_ => bif (Nat.beq z_.1 ci && Nat.ble kf 1000) && (Nat.ble (kf + 1) z_.2 && (yxi A_ t_ && (xfits (xty ci kf) t_ && !((xT ci kf).2.2.2)))) then (xfT (.int (Int32.ofNat kf)) fun i_ => xfL (ywr A_ n_ i_ t_ M_.1) fun ov => xfN (pc + 3) fun pc' => some (pc', lo_, s_, ov, M_.2.1, (n_, i_) :: M_.2.2)) else none
        | none => none
      | _ => none
    | _ => none
  | .arraylength => match st_ with
    | .index n_ :: s_ => match A_.1 n_ with
      | some z_ => bif Nat.ble 20 z_.1 && Nat.ble z_.1 24 then (xfT (.int (Int32.ofNat z_.2)) fun t_ => xfN (pc + 1) fun pc' => some (pc', lo_, t_ :: s_, M_)) else none
      | none => none
    | _ => none
  | .iaload => match st_ with
    | i_ :: .index n_ :: s_ => match A_.1 n_ with
      | some z_ => bif Nat.beq z_.1 20 && (xI i_ && ybk A_ i_ z_.2) then (match yrd n_ i_ M_.1 with
        | some t_ => bif xI t_ then (xfN (pc + 1) fun pc' => some (pc', lo_, t_ :: s_, M_)) else none
        | none => none) else none
      | none => none
    | _ => none
  | .aaload => match st_ with
    | i_ :: .index n_ :: s_ => match A_.1 n_ with
      | some z_ => bif (Nat.ble 21 z_.1 && Nat.ble z_.1 24) && (xI i_ && ybk A_ i_ z_.2) then (match yrd n_ i_ M_.1 with
        | some t_ => bif xF t_ then (xfN (pc + 1) fun pc' => some (pc', lo_, t_ :: s_, M_)) else none
        | none => none) else none
      | none => none
    | _ => none
  | .iastore => match st_ with
    | t_ :: i_ :: .index n_ :: s_ => match A_.1 n_ with
      | some z_ => bif (Nat.beq z_.1 20 && xI t_) && (xI i_ && ybk A_ i_ z_.2) then (xfL (ywr A_ n_ i_ t_ M_.1) fun ov => xfN (pc + 1) fun pc' => some (pc', lo_, s_, ov, M_.2.1, (n_, i_) :: M_.2.2)) else none
      | none => none
    | _ => none
  | _ => none
def ybr (pc : Nat) (c_ : Jvm.ClassFile.Cond) (off_ : Int) (lo_ : xL) (s_ : List Jvm.Term) (M_ : yM) (a_ b_ : Jvm.Term) : Option (List yS) := match (pc : Int) + off_ with
  | .negSucc _ => none
  | .ofNat t_ => xfN t_ fun t_ => xfN (pc + 3) fun q_ => match ydc (ync c_) a_ b_ M_.2.1 with
    | some z_ => (match z_ ^^ ynf c_ with
      | true => some [(t_, lo_, s_, M_)]
      | false => some [(q_, lo_, s_, M_)])
    | none => some [(t_, lo_, s_, M_.1, (ync c_, a_, b_, !(ynf c_)) :: M_.2.1, M_.2.2), (q_, lo_, s_, M_.1, (ync c_, a_, b_, ynf c_) :: M_.2.1, M_.2.2)]
/-- this divisor isn't 0 -/
def ynz (b_ : Jvm.Term) (C_ : List xB) : Bool := match ydc .eq b_ (.int 0) C_ with
  | some z_ => !z_
  | none => false
noncomputable def yst (A_ : yA) (mi pc : Nat) (e_ : Instr × Nat × List Nat) (lo_ : xL) (st_ : List Jvm.Term) (M_ : yM) : Option (List yS) := match e_.1 with
  | .ifCond c_ off_ => match st_ with
    | a_ :: s_ => bif xI a_ then ybr pc c_ off_ lo_ s_ M_ a_ (.int 0) else none
    | _ => none
  | .if_icmp c_ off_ => match st_ with
    | b_ :: a_ :: s_ => bif xI a_ && xI b_ then ybr pc c_ off_ lo_ s_ M_ a_ b_ else none
    | _ => none
  | .idiv => match st_ with
    | b_ :: a_ :: s_ => bif xI a_ && (xI b_ && ynz b_ M_.2.1) then (xfT (xdi a_ b_) fun t_ => xfN (pc + 1) fun q_ => some [(q_, lo_, t_ :: s_, M_)]) else none
    | _ => none
  | .irem => match st_ with
    | b_ :: a_ :: s_ => bif xI a_ && (xI b_ && ynz b_ M_.2.1) then (xfT (xrm a_ b_) fun t_ => xfN (pc + 1) fun q_ => some [(q_, lo_, t_ :: s_, M_)]) else none
    | _ => none
  | _ => match yhp A_ e_ pc lo_ st_ M_ with
    | some S_ => some [S_]
    | none => bif ypn e_ then (match xsp (β := Nat × xL × List Jvm.Term) mi pc e_ lo_ st_ [] [] (fun a_ b_ c_ _ _ => some (a_, b_, c_)) with
      | some q_ => some [(q_.1, q_.2.1, q_.2.2, M_)]
      | none => none) else none
section
variable {A_ : yA} {r_ : Nat → Value} {g_ : Nat → Nat} {h0 h_ : xH} {mi pc : Nat} {e_ : Instr × Nat × List Nat} {lo_ : xL} {st_ : List Jvm.Term} {M_ : yM}
def ySt (A_ : yA) (r_ : Nat → Value) (g_ : Nat → Nat) (h0 : xH) (mi pc : Nat) (e_ : Instr × Nat × List Nat) (lo_ : xL) (st_ : List Jvm.Term) (h_ : xH) (S_ : yS) : Prop := ∃ h', yok A_ r_ g_ h0 S_.2.2.2 h' ∧ xcst mi pc e_ (ylo r_ g_ lo_) (st_.map (ysb r_ g_)) h_ S_.1 (ylo r_ g_ S_.2.1) (S_.2.2.1.map (ysb r_ g_)) h'
theorem ykf {kf : Nat} (h_ : Nat.ble kf 1000 = true) : yix r_ (.int (Int32.ofNat kf)) = kf := by
  have k_ := Nat.le_of_ble_eq_true h_
  show (Int32.ofNat kf).toInt.toNat = kf
  rw [Int32.toInt_ofNat_of_lt (by omega)]
  rfl
theorem yxi_ok {t_ : Jvm.Term} (hs : ysh A_.1 g_ h_) (k_ : yxi A_ t_ = true) : xidx h_.length (ysb r_ g_ t_) = true := by
  rcases ysb_k r_ g_ t_ with ⟨-, e_⟩ | ⟨-, -, e_⟩ | ⟨-, -, ⟨n_, e1_, e_⟩ | e_⟩
  · rw [e_]
    rfl
  · rw [e_]
    rfl
  · rw [e_]
    subst e1_
    simp only [yxi] at k_
    cases hz : A_.1 n_ with
    | none => rw [hz] at k_; cases k_
    | some z_ =>
      obtain ⟨c_, c1_, -⟩ := hs n_ z_ hz
      exact Nat.ble_eq_true_of_le (List.getElem?_eq_some_iff.mp c1_).1
  · rw [e_]
    cases t_ <;> first | rfl | skip
    rename_i n_
    have e2_ : Jvm.Term.index (g_ n_) = .index n_ := e_
    simp only [yxi] at k_
    cases hz : A_.1 n_ with
    | none => rw [hz] at k_; cases k_
    | some z_ =>
      obtain ⟨c_, c1_, -⟩ := hs n_ z_ hz
      rw [Jvm.Term.index.inj e2_] at c1_
      exact Nat.ble_eq_true_of_le (List.getElem?_eq_some_iff.mp c1_).1
theorem yhp_ok {S_ : yS} (hA : yas A_ r_ g_) (H_ : yok A_ r_ g_ h0 M_ h_) (hs : yhp A_ e_ pc lo_ st_ M_ = some S_) : ySt A_ r_ g_ h0 mi pc e_ lo_ st_ h_ S_ := by
  obtain ⟨i_, ln, ax⟩ := e_
  obtain ⟨ov, C_, W_⟩ := M_
  cases i_ with
  | getfield q_ =>
    simp only [yhp] at hs
    rcases ax with _ | ⟨p0_, _ | ⟨ci, _ | ⟨kf, _ | ⟨z9, t9⟩⟩⟩⟩ <;> first | (cases hs; done) | skip
    rcases st_ with _ | ⟨t_, s_⟩
    · cases hs
    cases t_ <;> try simp only at hs
    all_goals first | (cases hs; done) | skip
    rename_i n_
    cases hz : A_.1 n_ with
    | none => rw [hz] at hs; cases hs
    | some z_ =>
    rw [hz] at hs
    simp only at hs
    cases h1 : (Nat.beq z_.1 ci && Nat.ble kf 1000) with
    | false => simp [h1] at hs
    | true =>
    simp only [h1, cond_true] at hs
    simp only [Bool.and_eq_true] at h1
    cases hy : yrd n_ (.int (Int32.ofNat kf)) ov with
    | none => rw [hy] at hs; cases hs
    | some t_ =>
    rw [hy] at hs
    simp only [xfN_eq] at hs
    cases hs
    obtain ⟨c_, c1_, c2_⟩ := yrd_ok H_.2.1 hy
    rw [ykf h1.2] at c2_
    obtain ⟨d_, d1_, d2_, d3_⟩ := H_.1 n_ z_ hz
    rw [c1_] at d1_
    cases d1_
    refine ⟨h_, H_, fun k_ => ?_⟩
    have e1_ : Nat.beq c_.1 ci = true := by rw [d2_]; exact h1.1
    show xsp mi pc (.getfield q_, ln, [p0_, ci, kf]) (ylo r_ g_ lo_) (.index (g_ n_) :: s_.map (ysb r_ g_)) h_ [] k_ = _
    simp only [xsp, xhg_eq, c1_, e1_, cond_true, c2_, xpu, xfT_eq, xfN_eq]
    rfl
  | putfield q_ =>
    simp only [yhp] at hs
    rcases ax with _ | ⟨p0_, _ | ⟨ci, _ | ⟨kf, _ | ⟨z9, t9⟩⟩⟩⟩ <;> first | (cases hs; done) | skip
    rcases st_ with _ | ⟨t_, _ | ⟨u_, s_⟩⟩
    · cases hs
    · cases hs
    cases u_ <;> try simp only at hs
    all_goals first | (cases hs; done) | skip
    rename_i n_
    cases hz : A_.1 n_ with
    | none => rw [hz] at hs; cases hs
    | some z_ =>
    rw [hz] at hs
    simp only at hs
    cases h1 : ((Nat.beq z_.1 ci && Nat.ble kf 1000) && (Nat.ble (kf + 1) z_.2 && (yxi A_ t_ && (xfits (xty ci kf) t_ && !((xT ci kf).2.2.2))))) with
    | false => simp only [h1, cond_false] at hs; cases hs
    | true =>
    simp only [h1, cond_true, xfT_eq, xfL_eq, xfN_eq] at hs
    cases hs
    simp only [Bool.and_eq_true] at h1
    obtain ⟨⟨k1_, k2_⟩, k3_, k4_, k5_, k6_⟩ := h1
    obtain ⟨d_, d1_, d2_, d3_⟩ := H_.1 n_ z_ hz
    have k3' := Nat.le_of_ble_eq_true k3_
    have e1_ : (Nat.beq d_.1 ci && (Nat.ble (kf + 1) d_.2.length && (xidx h_.length (ysb r_ g_ t_) && (xfits (xty ci kf) (ysb r_ g_ t_) && ((!((xT ci kf).2.2.2)) || (xisInit mi && Nat.beq (xo mi) ci)))))) = true := by
      rw [d2_, d3_, k1_, k3_, yxi_ok H_.1 k4_, xfits_y k5_, k6_]
      rfl
    refine ⟨_, ywr_ok hA H_ d1_ (by rw [ykf k2_, d3_]; omega) t_, fun k_ => ?_⟩
    show xsp mi pc (.putfield q_, ln, [p0_, ci, kf]) (ylo r_ g_ lo_) (ysb r_ g_ t_ :: .index (g_ n_) :: s_.map (ysb r_ g_)) h_ [] k_ = _
    simp only [xsp, xhg_eq, d1_, e1_, cond_true, xst_eq, xfN_eq, ykf k2_]
  | arraylength =>
    simp only [yhp] at hs
    rcases st_ with _ | ⟨t_, s_⟩
    · cases hs
    cases t_ <;> try simp only at hs
    all_goals first | (cases hs; done) | skip
    rename_i n_
    cases hz : A_.1 n_ with
    | none => rw [hz] at hs; cases hs
    | some z_ =>
    rw [hz] at hs
    simp only at hs
    cases h1 : (Nat.ble 20 z_.1 && Nat.ble z_.1 24) with
    | false => simp [h1] at hs
    | true =>
    simp only [h1, cond_true, xfT_eq, xfN_eq] at hs
    cases hs
    obtain ⟨d_, d1_, d2_, d3_⟩ := H_.1 n_ z_ hz
    refine ⟨h_, H_, fun k_ => ?_⟩
    show xsp mi pc (.arraylength, ln, ax) (ylo r_ g_ lo_) (.index (g_ n_) :: s_.map (ysb r_ g_)) h_ [] k_ = _
    simp only [xsp, xhg_eq, d1_, d2_, h1, d3_, cond_true, xpu, xfT_eq, xfN_eq]
    rfl
  | iaload =>
    simp only [yhp] at hs
    rcases st_ with _ | ⟨i_, _ | ⟨t_, s_⟩⟩
    · cases hs
    · cases hs
    cases t_ <;> try simp only at hs
    all_goals first | (cases hs; done) | skip
    rename_i n_
    cases hz : A_.1 n_ with
    | none => rw [hz] at hs; cases hs
    | some z_ =>
    rw [hz] at hs
    simp only at hs
    cases h1 : (Nat.beq z_.1 20 && (xI i_ && ybk A_ i_ z_.2)) with
    | false => simp [h1] at hs
    | true =>
    simp only [h1, cond_true] at hs
    simp only [Bool.and_eq_true] at h1
    obtain ⟨k1_, k2_, k3_⟩ := h1
    cases hy : yrd n_ i_ ov with
    | none => rw [hy] at hs; cases hs
    | some t_ =>
    rw [hy] at hs
    simp only at hs
    cases ht : xI t_ with
    | false => simp [ht] at hs
    | true =>
    simp only [ht, cond_true, xfN_eq] at hs
    cases hs
    obtain ⟨c_, c1_, c2_⟩ := yrd_ok H_.2.1 hy
    obtain ⟨d_, d1_, d2_, d3_⟩ := H_.1 n_ z_ hz
    rw [c1_] at d1_
    cases d1_
    have b_ := (ybk_ok hA k3_).1
    rw [← d3_] at b_
    refine ⟨h_, H_, fun k_ => ?_⟩
    show xsp mi pc (.iaload, ln, ax) (ylo r_ g_ lo_) (ysb r_ g_ i_ :: .index (g_ n_) :: s_.map (ysb r_ g_)) h_ [] k_ = _
    rw [ysb_I k2_]
    simp only [xsp, xhg_eq, c1_, d2_, k1_, cond_true, b_, c2_, (show xI (ysb r_ g_ t_) = true from xI_y.trans ht), xpu, xfT_eq, xfN_eq]
    rfl
  | aaload =>
    simp only [yhp] at hs
    rcases st_ with _ | ⟨i_, _ | ⟨t_, s_⟩⟩
    · cases hs
    · cases hs
    cases t_ <;> try simp only at hs
    all_goals first | (cases hs; done) | skip
    rename_i n_
    cases hz : A_.1 n_ with
    | none => rw [hz] at hs; cases hs
    | some z_ =>
    rw [hz] at hs
    simp only at hs
    cases h1 : ((Nat.ble 21 z_.1 && Nat.ble z_.1 24) && (xI i_ && ybk A_ i_ z_.2)) with
    | false => simp [h1] at hs
    | true =>
    simp only [h1, cond_true] at hs
    rw [Bool.and_eq_true] at h1
    obtain ⟨k1_, h2⟩ := h1
    rw [Bool.and_eq_true] at h2
    obtain ⟨k2_, k3_⟩ := h2
    cases hy : yrd n_ i_ ov with
    | none => rw [hy] at hs; cases hs
    | some t_ =>
    rw [hy] at hs
    simp only at hs
    cases ht : xF t_ with
    | false => simp [ht] at hs
    | true =>
    simp only [ht, cond_true, xfN_eq] at hs
    cases hs
    obtain ⟨c_, c1_, c2_⟩ := yrd_ok H_.2.1 hy
    obtain ⟨d_, d1_, d2_, d3_⟩ := H_.1 n_ z_ hz
    rw [c1_] at d1_
    cases d1_
    have b_ := (ybk_ok hA k3_).1
    rw [← d3_] at b_
    refine ⟨h_, H_, fun k_ => ?_⟩
    show xsp mi pc (.aaload, ln, ax) (ylo r_ g_ lo_) (ysb r_ g_ i_ :: .index (g_ n_) :: s_.map (ysb r_ g_)) h_ [] k_ = _
    rw [ysb_I k2_]
    simp only [xsp, xhg_eq, c1_, d2_, k1_, cond_true, b_, c2_, (show xF (ysb r_ g_ t_) = true from xF_y ht), xpu, xfT_eq, xfN_eq]
    rfl
  | iastore =>
    simp only [yhp] at hs
    rcases st_ with _ | ⟨t_, _ | ⟨i_, _ | ⟨u_, s_⟩⟩⟩
    · cases hs
    · cases hs
    · cases hs
    cases u_ <;> try simp only at hs
    all_goals first | (cases hs; done) | skip
    rename_i n_
    cases hz : A_.1 n_ with
    | none => rw [hz] at hs; cases hs
    | some z_ =>
    rw [hz] at hs
    simp only at hs
    cases h1 : ((Nat.beq z_.1 20 && xI t_) && (xI i_ && ybk A_ i_ z_.2)) with
    | false => simp [h1] at hs
    | true =>
    simp only [h1, cond_true, xfL_eq, xfN_eq] at hs
    cases hs
    simp only [Bool.and_eq_true] at h1
    obtain ⟨⟨k1_, k2_⟩, k3_, k4_⟩ := h1
    obtain ⟨d_, d1_, d2_, d3_⟩ := H_.1 n_ z_ hz
    have b_ := ybk_ok hA k4_
    rw [← d3_] at b_
    refine ⟨_, ywr_ok hA H_ d1_ b_.2 t_, fun k_ => ?_⟩
    show xsp mi pc (.iastore, ln, ax) (ylo r_ g_ lo_) (ysb r_ g_ t_ :: ysb r_ g_ i_ :: .index (g_ n_) :: s_.map (ysb r_ g_)) h_ [] k_ = _
    rw [ysb_I k3_]
    simp only [xsp, xhg_eq, d1_, (show (Nat.beq d_.1 20 && xI (ysb r_ g_ t_)) = true by rw [d2_, k1_, xI_y, k2_]; rfl), cond_true, b_.1, xst_eq, xfN_eq]
  | _ => cases hs
theorem ybr_ok {c_ : Jvm.ClassFile.Cond} {off_ : Int} {s_ : List Jvm.Term} {a_ b_ : Jvm.Term} {l : List yS} (H_ : yok A_ r_ g_ h0 M_ h_) (hs : ybr pc c_ off_ lo_ s_ M_ a_ b_ = some l) (hx : ∀ k_ : Nat → xL → List Jvm.Term → xH → List xB → Option xO, xsp mi pc e_ (ylo r_ g_ lo_) (st_.map (ysb r_ g_)) h_ [] k_ = xjp pc off_ fun t_ => xbr c_ (.int (yv r_ a_)) (.int (yv r_ b_)) [] fun z_ E'_ => match z_ with
      | true => k_ t_ (ylo r_ g_ lo_) (s_.map (ysb r_ g_)) h_ E'_
      | false => xfN (pc + 3) fun pc' => k_ pc' (ylo r_ g_ lo_) (s_.map (ysb r_ g_)) h_ E'_) : ∃ S_ ∈ l, ySt A_ r_ g_ h0 mi pc e_ lo_ st_ h_ S_ := by
  unfold ybr at hs
  split at hs
  · cases hs
  · rename_i t_ ht
    simp only [xfN_eq] at hs
    have go_ : ∀ z_, xcmb c_ (yv r_ a_) (yv r_ b_) = z_ → ∀ k_ : Nat → xL → List Jvm.Term → xH → List xB → Option xO, xsp mi pc e_ (ylo r_ g_ lo_) (st_.map (ysb r_ g_)) h_ [] k_ = (match z_ with
        | true => k_ t_ (ylo r_ g_ lo_) (s_.map (ysb r_ g_)) h_ []
        | false => k_ (pc + 3) (ylo r_ g_ lo_) (s_.map (ysb r_ g_)) h_ []) := by
      intro z_ hz k_
      rw [hx k_]
      simp only [xjp, ht, xfN_eq, xbr, xlit, hz]
    cases hd_ : ydc (ync c_) a_ b_ M_.2.1 with
    | some z_ =>
      rw [hd_] at hs
      simp only at hs
      have k_ := ydc_ok H_.2.2.1 hd_
      have k2_ : xcmb c_ (yv r_ a_) (yv r_ b_) = (z_ ^^ ynf c_) := by rw [ync_ok, k_]
      cases hz : (z_ ^^ ynf c_) with
      | true =>
        rw [hz] at hs k2_
        cases hs
        exact ⟨_, List.mem_singleton.mpr rfl, h_, H_, go_ true k2_⟩
      | false =>
        rw [hz] at hs k2_
        cases hs
        exact ⟨_, List.mem_singleton.mpr rfl, h_, H_, go_ false k2_⟩
    | none =>
      rw [hd_] at hs
      cases hs
      cases hz : xcmb c_ (yv r_ a_) (yv r_ b_) with
      | true =>
        have k2_ := hz
        rw [ync_ok] at k2_
        refine ⟨_, List.mem_cons_self, h_, ⟨H_.1, H_.2.1, fun q_ hq => ?_, H_.2.2.2⟩, go_ true hz⟩
        rcases List.mem_cons.mp hq with e_ | hq
        · subst e_
          refine xhold_o ?_
          show xcmb (ync c_) (yv r_ a_) (yv r_ b_) = !(ynf c_)
          cases h1 : xcmb (ync c_) (yv r_ a_) (yv r_ b_) <;> cases h2 : ynf c_ <;> rw [h1, h2] at k2_ <;> first | rfl | cases k2_
        · exact H_.2.2.1 q_ hq
      | false =>
        have k2_ := hz
        rw [ync_ok] at k2_
        refine ⟨_, List.mem_cons_of_mem _ List.mem_cons_self, h_, ⟨H_.1, H_.2.1, fun q_ hq => ?_, H_.2.2.2⟩, go_ false hz⟩
        rcases List.mem_cons.mp hq with e_ | hq
        · subst e_
          refine xhold_o ?_
          show xcmb (ync c_) (yv r_ a_) (yv r_ b_) = ynf c_
          cases h1 : xcmb (ync c_) (yv r_ a_) (yv r_ b_) <;> cases h2 : ynf c_ <;> rw [h1, h2] at k2_ <;> first | rfl | cases k2_
        · exact H_.2.2.1 q_ hq
theorem ynz_ok {b_ : Jvm.Term} {C_ : List xB} (hC : ∀ q_ ∈ C_, xhold r_ q_) (h_ : ynz b_ C_ = true) : xnz (.int (yv r_ b_)) = true := by
  unfold ynz at h_
  split at h_
  · rename_i z_ hz
    have k_ := ydc_ok hC hz
    rw [Bool.not_eq_true'] at h_
    rw [h_] at k_
    have k_ : decide (yv r_ b_ = 0) = false := k_
    show decide (¬ yv r_ b_ = 0) = true
    rw [decide_not, k_]
    rfl
  · cases h_
theorem yst_ok {l : List yS} (hA : yas A_ r_ g_) (H_ : yok A_ r_ g_ h0 M_ h_) (hs : yst A_ mi pc e_ lo_ st_ M_ = some l) : ∃ S_ ∈ l, ySt A_ r_ g_ h0 mi pc e_ lo_ st_ h_ S_ := by
  have other : (match yhp A_ e_ pc lo_ st_ M_ with
    | some S_ => some [S_]
    | none => bif ypn e_ then (match xsp (β := Nat × xL × List Jvm.Term) mi pc e_ lo_ st_ [] [] (fun a_ b_ c_ _ _ => some (a_, b_, c_)) with
      | some q_ => some [(q_.1, q_.2.1, q_.2.2, M_)]
      | none => none) else none) = some l → ∃ S_ ∈ l, ySt A_ r_ g_ h0 mi pc e_ lo_ st_ h_ S_ := by
    intro hs
    cases h1 : yhp A_ e_ pc lo_ st_ M_ with
    | some S_ =>
      rw [h1] at hs
      cases hs
      exact ⟨S_, List.mem_singleton.mpr rfl, yhp_ok hA H_ h1⟩
    | none =>
      rw [h1] at hs
      simp only at hs
      cases hp : ypn e_ with
      | false => simp [hp] at hs
      | true =>
        simp only [hp, cond_true] at hs
        split at hs
        · rename_i q_ hq
          cases hs
          obtain ⟨a_, b_, c_⟩ := q_
          exact ⟨_, List.mem_singleton.mpr rfl, h_, H_, ypn_ok hp hq h_⟩
        · cases hs
  obtain ⟨i_, ln, ax⟩ := e_
  cases i_ with
  | ifCond c_ off_ =>
    simp only [yst] at hs
    rcases st_ with _ | ⟨a_, s_⟩
    · cases hs
    simp only at hs
    cases ha_ : xI a_ with
    | false => simp [ha_] at hs
    | true =>
      simp only [ha_, cond_true] at hs
      refine ybr_ok (b_ := .int 0) H_ hs (fun k_ => ?_)
      show xsp mi pc (.ifCond c_ off_, ln, ax) (ylo r_ g_ lo_) (ysb r_ g_ a_ :: s_.map (ysb r_ g_)) h_ [] k_ = _
      rw [ysb_I ha_]
      simp only [xsp, xI, cond_true]
      rfl
  | if_icmp c_ off_ =>
    simp only [yst] at hs
    rcases st_ with _ | ⟨b_, _ | ⟨a_, s_⟩⟩
    · cases hs
    · cases hs
    simp only at hs
    cases ha_ : xI a_ with
    | false => simp [ha_] at hs
    | true =>
      cases hb_ : xI b_ with
      | false => simp [hb_] at hs
      | true =>
        simp only [ha_, hb_, Bool.and_self, cond_true] at hs
        refine ybr_ok H_ hs (fun k_ => ?_)
        show xsp mi pc (.if_icmp c_ off_, ln, ax) (ylo r_ g_ lo_) (ysb r_ g_ b_ :: ysb r_ g_ a_ :: s_.map (ysb r_ g_)) h_ [] k_ = _
        rw [ysb_I ha_, ysb_I hb_]
        simp only [xsp, xI, Bool.and_self, cond_true]
        rfl
  | idiv =>
    simp only [yst] at hs
    rcases st_ with _ | ⟨b_, _ | ⟨a_, s_⟩⟩
    · cases hs
    · cases hs
    simp only at hs
    cases h1 : (xI a_ && (xI b_ && ynz b_ M_.2.1)) with
    | false => simp [h1] at hs
    | true =>
      simp only [h1, cond_true, xfT_eq, xfN_eq] at hs
      cases hs
      simp only [Bool.and_eq_true] at h1
      obtain ⟨ha_, hb_, hn⟩ := h1
      have k1_ := ynz_ok H_.2.2.1 hn
      refine ⟨_, List.mem_singleton.mpr rfl, h_, H_, fun k_ => ?_⟩
      show xsp mi pc (.idiv, ln, ax) (ylo r_ g_ lo_) (ysb r_ g_ b_ :: ysb r_ g_ a_ :: s_.map (ysb r_ g_)) h_ [] k_ = k_ (pc + 1) (ylo r_ g_ lo_) (ysb r_ g_ (xdi a_ b_) :: s_.map (ysb r_ g_)) h_ []
      rw [xdi_I ha_ hb_, ysb_I ha_, ysb_I hb_]
      simp only [xsp, xI, k1_, Bool.and_self, cond_true, xpu, xfT_eq, xfN_eq]
  | irem =>
    simp only [yst] at hs
    rcases st_ with _ | ⟨b_, _ | ⟨a_, s_⟩⟩
    · cases hs
    · cases hs
    simp only at hs
    cases h1 : (xI a_ && (xI b_ && ynz b_ M_.2.1)) with
    | false => simp [h1] at hs
    | true =>
      simp only [h1, cond_true, xfT_eq, xfN_eq] at hs
      cases hs
      simp only [Bool.and_eq_true] at h1
      obtain ⟨ha_, hb_, hn⟩ := h1
      have k1_ := ynz_ok H_.2.2.1 hn
      refine ⟨_, List.mem_singleton.mpr rfl, h_, H_, fun k_ => ?_⟩
      show xsp mi pc (.irem, ln, ax) (ylo r_ g_ lo_) (ysb r_ g_ b_ :: ysb r_ g_ a_ :: s_.map (ysb r_ g_)) h_ [] k_ = k_ (pc + 1) (ylo r_ g_ lo_) (ysb r_ g_ (xrm a_ b_) :: s_.map (ysb r_ g_)) h_ []
      rw [xrm_I ha_ hb_, ysb_I ha_, ysb_I hb_]
      simp only [xsp, xI, k1_, Bool.and_self, cond_true, xpu, xfT_eq, xfN_eq]
  | _ => exact other hs
end
