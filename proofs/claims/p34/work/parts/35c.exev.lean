-- ===== one instruction: places, branches
def yxi (A : yA) (t : Jvm.Term) : Bool := match t with
  | .index n => (A.1 n).isSome
  | _ => true
noncomputable def yhp (A : yA) (e : Instr × Nat × List Nat) (pc : Nat) (lo : xL) (st : List Jvm.Term) (M : yM) : Option yS := match e.1 with
  | .getfield _ => match e.2.2 with
    | [_, ci, kf] => match st with
      | .index n :: s => match A.1 n with
        | some z => bif Nat.beq z.1 ci && Nat.ble kf 1000 then (match yrd n (.int (Int32.ofNat kf)) M.1 with
          | some t => xfN (pc + 3) fun pc' => some (pc', lo, t :: s, M)
          | none => none) else none
        | none => none
      | _ => none
    | _ => none
  | .putfield _ => match e.2.2 with
    | [_, ci, kf] => match st with
      | t :: .index n :: s => match A.1 n with
        | some z => bif (Nat.beq z.1 ci && Nat.ble kf 1000) && (Nat.ble (kf + 1) z.2 && (yxi A t && (xfits (xty ci kf) t && !((xT ci kf).2.2.2)))) then (xfT (.int (Int32.ofNat kf)) fun i => xfL (ywr A n i t M.1) fun ov => xfN (pc + 3) fun pc' => some (pc', lo, s, ov, M.2.1, (n, i) :: M.2.2)) else none
        | none => none
      | _ => none
    | _ => none
  | .arraylength => match st with
    | .index n :: s => match A.1 n with
      | some z => bif Nat.ble 20 z.1 && Nat.ble z.1 24 then (xfT (.int (Int32.ofNat z.2)) fun t => xfN (pc + 1) fun pc' => some (pc', lo, t :: s, M)) else none
      | none => none
    | _ => none
  | .iaload => match st with
    | i :: .index n :: s => match A.1 n with
      | some z => bif Nat.beq z.1 20 && (xI i && ybk A i z.2) then (match yrd n i M.1 with
        | some t => bif xI t then (xfN (pc + 1) fun pc' => some (pc', lo, t :: s, M)) else none
        | none => none) else none
      | none => none
    | _ => none
  | .aaload => match st with
    | i :: .index n :: s => match A.1 n with
      | some z => bif (Nat.ble 21 z.1 && Nat.ble z.1 24) && (xI i && ybk A i z.2) then (match yrd n i M.1 with
        | some t => bif xF t then (xfN (pc + 1) fun pc' => some (pc', lo, t :: s, M)) else none
        | none => none) else none
      | none => none
    | _ => none
  | .iastore => match st with
    | t :: i :: .index n :: s => match A.1 n with
      | some z => bif (Nat.beq z.1 20 && xI t) && (xI i && ybk A i z.2) then (xfL (ywr A n i t M.1) fun ov => xfN (pc + 1) fun pc' => some (pc', lo, s, ov, M.2.1, (n, i) :: M.2.2)) else none
      | none => none
    | _ => none
  | _ => none
def ybr (pc : Nat) (c : Jvm.ClassFile.Cond) (off : Int) (lo : xL) (s : List Jvm.Term) (M : yM) (a b : Jvm.Term) : Option (List yS) := match (pc : Int) + off with
  | .negSucc _ => none
  | .ofNat t => xfN t fun t => xfN (pc + 3) fun q => match ydc (ync c) a b M.2.1 with
    | some z => (match z ^^ ynf c with
      | true => some [(t, lo, s, M)]
      | false => some [(q, lo, s, M)])
    | none => some [(t, lo, s, M.1, (ync c, a, b, !(ynf c)) :: M.2.1, M.2.2), (q, lo, s, M.1, (ync c, a, b, ynf c) :: M.2.1, M.2.2)]
/-- this divisor isn't 0 -/
def ynz (b : Jvm.Term) (C : List xB) : Bool := match ydc .eq b (.int 0) C with
  | some z => !z
  | none => false
noncomputable def yst (A : yA) (mi pc : Nat) (e : Instr × Nat × List Nat) (lo : xL) (st : List Jvm.Term) (M : yM) : Option (List yS) := match e.1 with
  | .ifCond c off => match st with
    | a :: s => bif xI a then ybr pc c off lo s M a (.int 0) else none
    | _ => none
  | .if_icmp c off => match st with
    | b :: a :: s => bif xI a && xI b then ybr pc c off lo s M a b else none
    | _ => none
  | .idiv => match st with
    | b :: a :: s => bif xI a && (xI b && ynz b M.2.1) then (xfT (xdi a b) fun t => xfN (pc + 1) fun q => some [(q, lo, t :: s, M)]) else none
    | _ => none
  | .irem => match st with
    | b :: a :: s => bif xI a && (xI b && ynz b M.2.1) then (xfT (xrm a b) fun t => xfN (pc + 1) fun q => some [(q, lo, t :: s, M)]) else none
    | _ => none
  | _ => match yhp A e pc lo st M with
    | some S => some [S]
    | none => bif ypn e then (match xsp (β := Nat × xL × List Jvm.Term) mi pc e lo st [] [] (fun a b c _ _ => some (a, b, c)) with
      | some q => some [(q.1, q.2.1, q.2.2, M)]
      | none => none) else none
section
variable {A : yA} {r : Nat → Value} {g : Nat → Nat} {h0 h : xH} {mi pc : Nat} {e : Instr × Nat × List Nat} {lo : xL} {st : List Jvm.Term} {M : yM}
def ySt (A : yA) (r : Nat → Value) (g : Nat → Nat) (h0 : xH) (mi pc : Nat) (e : Instr × Nat × List Nat) (lo : xL) (st : List Jvm.Term) (h : xH) (S : yS) : Prop := ∃ h', yok A r g h0 S.2.2.2 h' ∧ xcst mi pc e (ylo r g lo) (st.map (ysb r g)) h S.1 (ylo r g S.2.1) (S.2.2.1.map (ysb r g)) h'
theorem ykf {kf : Nat} (h : Nat.ble kf 1000 = true) : yix r (.int (Int32.ofNat kf)) = kf := by
  have k := Nat.le_of_ble_eq_true h
  show (Int32.ofNat kf).toInt.toNat = kf
  rw [Int32.toInt_ofNat_of_lt (by omega)]
  rfl
theorem yxi_ok {t : Jvm.Term} (hs : ysh A.1 g h) (k : yxi A t = true) : xidx h.length (ysb r g t) = true := by
  rcases ysb_k r g t with ⟨-, e⟩ | ⟨-, -, e⟩ | ⟨-, -, ⟨n, e1, e⟩ | e⟩
  · rw [e]
    rfl
  · rw [e]
    rfl
  · rw [e]
    subst e1
    simp only [yxi] at k
    cases hz : A.1 n with
    | none => rw [hz] at k; cases k
    | some z =>
      obtain ⟨c, c1, -⟩ := hs n z hz
      exact Nat.ble_eq_true_of_le (List.getElem?_eq_some_iff.mp c1).1
  · rw [e]
    cases t <;> first | rfl | skip
    rename_i n
    have e2 : Jvm.Term.index (g n) = .index n := e
    simp only [yxi] at k
    cases hz : A.1 n with
    | none => rw [hz] at k; cases k
    | some z =>
      obtain ⟨c, c1, -⟩ := hs n z hz
      rw [Jvm.Term.index.inj e2] at c1
      exact Nat.ble_eq_true_of_le (List.getElem?_eq_some_iff.mp c1).1
theorem yhp_ok {S : yS} (hA : yas A r g) (H : yok A r g h0 M h) (hs : yhp A e pc lo st M = some S) : ySt A r g h0 mi pc e lo st h S := by
  obtain ⟨i, ln, ax⟩ := e
  obtain ⟨ov, C, W⟩ := M
  cases i with
  | getfield q =>
    simp only [yhp] at hs
    rcases ax with _ | ⟨p0, _ | ⟨ci, _ | ⟨kf, _ | ⟨z9, t9⟩⟩⟩⟩ <;> first | (cases hs; done) | skip
    rcases st with _ | ⟨t, s⟩
    · cases hs
    cases t <;> first | (cases hs; done) | skip
    rename_i n
    simp only at hs
    cases hz : A.1 n with
    | none => rw [hz] at hs; cases hs
    | some z =>
    rw [hz] at hs
    simp only at hs
    cases h1 : (Nat.beq z.1 ci && Nat.ble kf 1000) with
    | false => simp [h1] at hs
    | true =>
    simp only [h1, cond_true] at hs
    simp only [Bool.and_eq_true] at h1
    cases hy : yrd n (.int (Int32.ofNat kf)) ov with
    | none => rw [hy] at hs; cases hs
    | some t =>
    rw [hy] at hs
    simp only [xfN_eq] at hs
    cases hs
    obtain ⟨c, c1, c2⟩ := yrd_ok H.2.1 hy
    rw [ykf h1.2] at c2
    obtain ⟨d, d1, d2, d3⟩ := H.1 n z hz
    rw [c1] at d1
    cases d1
    refine ⟨h, H, fun k => ?_⟩
    have e1 : Nat.beq c.1 ci = true := by rw [d2]; exact h1.1
    show xsp mi pc (.getfield q, ln, [p0, ci, kf]) (ylo r g lo) (.index (g n) :: s.map (ysb r g)) h [] k = _
    simp only [xsp, xhg_eq, c1, e1, cond_true, c2, xpu, xfT_eq, xfN_eq]
    rfl
  | putfield q =>
    simp only [yhp] at hs
    rcases ax with _ | ⟨p0, _ | ⟨ci, _ | ⟨kf, _ | ⟨z9, t9⟩⟩⟩⟩ <;> first | (cases hs; done) | skip
    rcases st with _ | ⟨t, _ | ⟨u, s⟩⟩
    · cases hs
    · cases hs
    cases u <;> first | (cases hs; done) | skip
    rename_i n
    simp only at hs
    cases hz : A.1 n with
    | none => rw [hz] at hs; cases hs
    | some z =>
    rw [hz] at hs
    simp only at hs
    cases h1 : ((Nat.beq z.1 ci && Nat.ble kf 1000) && (Nat.ble (kf + 1) z.2 && (yxi A t && (xfits (xty ci kf) t && !((xT ci kf).2.2.2))))) with
    | false => simp only [h1, cond_false] at hs; cases hs
    | true =>
    simp only [h1, cond_true, xfT_eq, xfL_eq, xfN_eq] at hs
    cases hs
    simp only [Bool.and_eq_true] at h1
    obtain ⟨⟨k1, k2⟩, k3, k4, k5, k6⟩ := h1
    obtain ⟨d, d1, d2, d3⟩ := H.1 n z hz
    have k3' := Nat.le_of_ble_eq_true k3
    have e1 : (Nat.beq d.1 ci && (Nat.ble (kf + 1) d.2.length && (xidx h.length (ysb r g t) && (xfits (xty ci kf) (ysb r g t) && ((!((xT ci kf).2.2.2)) || (xisInit mi && Nat.beq (xo mi) ci)))))) = true := by
      rw [d2, d3, k1, k3, yxi_ok H.1 k4, xfits_y k5, k6]
      rfl
    refine ⟨_, ywr_ok hA H d1 (by rw [ykf k2, d3]; omega) t, fun k => ?_⟩
    show xsp mi pc (.putfield q, ln, [p0, ci, kf]) (ylo r g lo) (ysb r g t :: .index (g n) :: s.map (ysb r g)) h [] k = _
    simp only [xsp, xhg_eq, d1, e1, cond_true, xst_eq, xfN_eq, ykf k2]
  | arraylength =>
    simp only [yhp] at hs
    rcases st with _ | ⟨t, s⟩
    · cases hs
    cases t <;> first | (cases hs; done) | skip
    rename_i n
    simp only at hs
    cases hz : A.1 n with
    | none => rw [hz] at hs; cases hs
    | some z =>
    rw [hz] at hs
    simp only at hs
    cases h1 : (Nat.ble 20 z.1 && Nat.ble z.1 24) with
    | false => simp [h1] at hs
    | true =>
    simp only [h1, cond_true, xfT_eq, xfN_eq] at hs
    cases hs
    obtain ⟨d, d1, d2, d3⟩ := H.1 n z hz
    refine ⟨h, H, fun k => ?_⟩
    show xsp mi pc (.arraylength, ln, ax) (ylo r g lo) (.index (g n) :: s.map (ysb r g)) h [] k = _
    simp only [xsp, xhg_eq, d1, d2, h1, d3, cond_true, xpu, xfT_eq, xfN_eq]
    rfl
  | iaload =>
    simp only [yhp] at hs
    rcases st with _ | ⟨i, _ | ⟨t, s⟩⟩
    · cases hs
    · cases hs
    cases t <;> first | (cases hs; done) | skip
    rename_i n
    simp only at hs
    cases hz : A.1 n with
    | none => rw [hz] at hs; cases hs
    | some z =>
    rw [hz] at hs
    simp only at hs
    cases h1 : (Nat.beq z.1 20 && (xI i && ybk A i z.2)) with
    | false => simp [h1] at hs
    | true =>
    simp only [h1, cond_true] at hs
    simp only [Bool.and_eq_true] at h1
    obtain ⟨k1, k2, k3⟩ := h1
    cases hy : yrd n i ov with
    | none => rw [hy] at hs; cases hs
    | some t =>
    rw [hy] at hs
    simp only at hs
    cases ht : xI t with
    | false => simp [ht] at hs
    | true =>
    simp only [ht, cond_true, xfN_eq] at hs
    cases hs
    obtain ⟨c, c1, c2⟩ := yrd_ok H.2.1 hy
    obtain ⟨d, d1, d2, d3⟩ := H.1 n z hz
    rw [c1] at d1
    cases d1
    have b := (ybk_ok hA k3).1
    rw [← d3] at b
    refine ⟨h, H, fun k => ?_⟩
    show xsp mi pc (.iaload, ln, ax) (ylo r g lo) (ysb r g i :: .index (g n) :: s.map (ysb r g)) h [] k = _
    rw [ysb_I k2]
    simp only [xsp, xhg_eq, c1, d2, k1, cond_true, b, c2, (show xI (ysb r g t) = true from xI_y.trans ht), xpu, xfT_eq, xfN_eq]
    rfl
  | aaload =>
    simp only [yhp] at hs
    rcases st with _ | ⟨i, _ | ⟨t, s⟩⟩
    · cases hs
    · cases hs
    cases t <;> first | (cases hs; done) | skip
    rename_i n
    simp only at hs
    cases hz : A.1 n with
    | none => rw [hz] at hs; cases hs
    | some z =>
    rw [hz] at hs
    simp only at hs
    cases h1 : ((Nat.ble 21 z.1 && Nat.ble z.1 24) && (xI i && ybk A i z.2)) with
    | false => simp [h1] at hs
    | true =>
    simp only [h1, cond_true] at hs
    rw [Bool.and_eq_true] at h1
    obtain ⟨k1, h2⟩ := h1
    rw [Bool.and_eq_true] at h2
    obtain ⟨k2, k3⟩ := h2
    cases hy : yrd n i ov with
    | none => rw [hy] at hs; cases hs
    | some t =>
    rw [hy] at hs
    simp only at hs
    cases ht : xF t with
    | false => simp [ht] at hs
    | true =>
    simp only [ht, cond_true, xfN_eq] at hs
    cases hs
    obtain ⟨c, c1, c2⟩ := yrd_ok H.2.1 hy
    obtain ⟨d, d1, d2, d3⟩ := H.1 n z hz
    rw [c1] at d1
    cases d1
    have b := (ybk_ok hA k3).1
    rw [← d3] at b
    refine ⟨h, H, fun k => ?_⟩
    show xsp mi pc (.aaload, ln, ax) (ylo r g lo) (ysb r g i :: .index (g n) :: s.map (ysb r g)) h [] k = _
    rw [ysb_I k2]
    simp only [xsp, xhg_eq, c1, d2, k1, cond_true, b, c2, (show xF (ysb r g t) = true from xF_y ht), xpu, xfT_eq, xfN_eq]
    rfl
  | iastore =>
    simp only [yhp] at hs
    rcases st with _ | ⟨t, _ | ⟨i, _ | ⟨u, s⟩⟩⟩
    · cases hs
    · cases hs
    · cases hs
    cases u <;> first | (cases hs; done) | skip
    rename_i n
    simp only at hs
    cases hz : A.1 n with
    | none => rw [hz] at hs; cases hs
    | some z =>
    rw [hz] at hs
    simp only at hs
    cases h1 : ((Nat.beq z.1 20 && xI t) && (xI i && ybk A i z.2)) with
    | false => simp [h1] at hs
    | true =>
    simp only [h1, cond_true, xfL_eq, xfN_eq] at hs
    cases hs
    simp only [Bool.and_eq_true] at h1
    obtain ⟨⟨k1, k2⟩, k3, k4⟩ := h1
    obtain ⟨d, d1, d2, d3⟩ := H.1 n z hz
    have b := ybk_ok hA k4
    rw [← d3] at b
    refine ⟨_, ywr_ok hA H d1 b.2 t, fun k => ?_⟩
    show xsp mi pc (.iastore, ln, ax) (ylo r g lo) (ysb r g t :: ysb r g i :: .index (g n) :: s.map (ysb r g)) h [] k = _
    rw [ysb_I k3]
    simp only [xsp, xhg_eq, d1, (show (Nat.beq d.1 20 && xI (ysb r g t)) = true by rw [d2, k1, xI_y, k2]; rfl), cond_true, b.1, xst_eq, xfN_eq]
  | _ => cases hs
theorem ybr_ok {c : Jvm.ClassFile.Cond} {off : Int} {s : List Jvm.Term} {a b : Jvm.Term} {l : List yS} (H : yok A r g h0 M h) (hs : ybr pc c off lo s M a b = some l) (hx : ∀ k : Nat → xL → List Jvm.Term → xH → List xB → Option xO, xsp mi pc e (ylo r g lo) (st.map (ysb r g)) h [] k = xjp pc off fun t => xbr c (.int (yv r a)) (.int (yv r b)) [] fun z E' => match z with
      | true => k t (ylo r g lo) (s.map (ysb r g)) h E'
      | false => xfN (pc + 3) fun pc' => k pc' (ylo r g lo) (s.map (ysb r g)) h E') : ∃ S ∈ l, ySt A r g h0 mi pc e lo st h S := by
  unfold ybr at hs
  split at hs
  · cases hs
  · rename_i t ht
    simp only [xfN_eq] at hs
    have go : ∀ z, xcmb c (yv r a) (yv r b) = z → ∀ k : Nat → xL → List Jvm.Term → xH → List xB → Option xO, xsp mi pc e (ylo r g lo) (st.map (ysb r g)) h [] k = (match z with
        | true => k t (ylo r g lo) (s.map (ysb r g)) h []
        | false => k (pc + 3) (ylo r g lo) (s.map (ysb r g)) h []) := by
      intro z hz k
      rw [hx k]
      simp only [xjp, ht, xfN_eq, xbr, xlit, hz]
      cases z <;> simp only [xfN_eq]
    cases hd : ydc (ync c) a b M.2.1 with
    | some z =>
      rw [hd] at hs
      simp only at hs
      have k := ydc_ok H.2.2.1 hd
      have k2 : xcmb c (yv r a) (yv r b) = (z ^^ ynf c) := by rw [ync_ok, k]
      cases hz : (z ^^ ynf c) with
      | true =>
        rw [hz] at hs k2
        cases hs
        exact ⟨_, List.mem_singleton.mpr rfl, h, H, go true k2⟩
      | false =>
        rw [hz] at hs k2
        cases hs
        exact ⟨_, List.mem_singleton.mpr rfl, h, H, go false k2⟩
    | none =>
      rw [hd] at hs
      cases hs
      cases hz : xcmb c (yv r a) (yv r b) with
      | true =>
        have k2 := hz
        rw [ync_ok] at k2
        refine ⟨_, List.mem_cons_self, h, ⟨H.1, H.2.1, fun q hq => ?_, H.2.2.2⟩, go true hz⟩
        rcases List.mem_cons.mp hq with e | hq
        · subst e
          refine xhold_o ?_
          show xcmb (ync c) (yv r a) (yv r b) = !(ynf c)
          cases h1 : xcmb (ync c) (yv r a) (yv r b) <;> cases h2 : ynf c <;> rw [h1, h2] at k2 <;> first | rfl | cases k2
        · exact H.2.2.1 q hq
      | false =>
        have k2 := hz
        rw [ync_ok] at k2
        refine ⟨_, List.mem_cons_of_mem _ List.mem_cons_self, h, ⟨H.1, H.2.1, fun q hq => ?_, H.2.2.2⟩, go false hz⟩
        rcases List.mem_cons.mp hq with e | hq
        · subst e
          refine xhold_o ?_
          show xcmb (ync c) (yv r a) (yv r b) = ynf c
          cases h1 : xcmb (ync c) (yv r a) (yv r b) <;> cases h2 : ynf c <;> rw [h1, h2] at k2 <;> first | rfl | cases k2
        · exact H.2.2.1 q hq
theorem ynz_ok {b : Jvm.Term} {C : List xB} (hC : ∀ q ∈ C, xhold r q) (h : ynz b C = true) : xnz (.int (yv r b)) = true := by
  unfold ynz at h
  split at h
  · rename_i z hz
    have k := ydc_ok hC hz
    rw [Bool.not_eq_true'] at h
    rw [h] at k
    have k : decide (yv r b = 0) = false := k
    show decide (¬ yv r b = 0) = true
    rw [decide_not, k]
    rfl
  · cases h
theorem yst_ok {l : List yS} (hA : yas A r g) (H : yok A r g h0 M h) (hs : yst A mi pc e lo st M = some l) : ∃ S ∈ l, ySt A r g h0 mi pc e lo st h S := by
  have other : (match yhp A e pc lo st M with
    | some S => some [S]
    | none => bif ypn e then (match xsp (β := Nat × xL × List Jvm.Term) mi pc e lo st [] [] (fun a b c _ _ => some (a, b, c)) with
      | some q => some [(q.1, q.2.1, q.2.2, M)]
      | none => none) else none) = some l → ∃ S ∈ l, ySt A r g h0 mi pc e lo st h S := by
    intro hs
    cases h1 : yhp A e pc lo st M with
    | some S =>
      rw [h1] at hs
      cases hs
      exact ⟨S, List.mem_singleton.mpr rfl, yhp_ok hA H h1⟩
    | none =>
      rw [h1] at hs
      simp only at hs
      cases hp : ypn e with
      | false => simp [hp] at hs
      | true =>
        simp only [hp, cond_true] at hs
        split at hs
        · rename_i q hq
          cases hs
          obtain ⟨a, b, c⟩ := q
          exact ⟨_, List.mem_singleton.mpr rfl, h, H, ypn_ok hp hq h⟩
        · cases hs
  obtain ⟨i, ln, ax⟩ := e
  cases i with
  | ifCond c off =>
    simp only [yst] at hs
    rcases st with _ | ⟨a, s⟩
    · cases hs
    simp only at hs
    cases ha : xI a with
    | false => simp [ha] at hs
    | true =>
      simp only [ha, cond_true] at hs
      refine ybr_ok (b := .int 0) H hs (fun k => ?_)
      show xsp mi pc (.ifCond c off, ln, ax) (ylo r g lo) (ysb r g a :: s.map (ysb r g)) h [] k = _
      rw [ysb_I ha]
      simp only [xsp, xI, cond_true]
      rfl
  | if_icmp c off =>
    simp only [yst] at hs
    rcases st with _ | ⟨b, _ | ⟨a, s⟩⟩
    · cases hs
    · cases hs
    simp only at hs
    cases ha : xI a with
    | false => simp [ha] at hs
    | true =>
      cases hb : xI b with
      | false => simp [hb] at hs
      | true =>
        simp only [ha, hb, Bool.and_self, cond_true] at hs
        refine ybr_ok H hs (fun k => ?_)
        show xsp mi pc (.if_icmp c off, ln, ax) (ylo r g lo) (ysb r g b :: ysb r g a :: s.map (ysb r g)) h [] k = _
        rw [ysb_I ha, ysb_I hb]
        simp only [xsp, xI, Bool.and_self, cond_true]
        rfl
  | idiv =>
    simp only [yst] at hs
    rcases st with _ | ⟨b, _ | ⟨a, s⟩⟩
    · cases hs
    · cases hs
    simp only at hs
    cases h1 : (xI a && (xI b && ynz b M.2.1)) with
    | false => simp [h1] at hs
    | true =>
      simp only [h1, cond_true, xfT_eq, xfN_eq] at hs
      cases hs
      simp only [Bool.and_eq_true] at h1
      obtain ⟨ha, hb, hn⟩ := h1
      have k1 := ynz_ok H.2.2.1 hn
      refine ⟨_, List.mem_singleton.mpr rfl, h, H, fun k => ?_⟩
      show xsp mi pc (.idiv, ln, ax) (ylo r g lo) (ysb r g b :: ysb r g a :: s.map (ysb r g)) h [] k = k (pc + 1) (ylo r g lo) (ysb r g (xdi a b) :: s.map (ysb r g)) h []
      rw [xdi_I ha hb, ysb_I ha, ysb_I hb]
      simp only [xsp, xI, k1, Bool.and_self, cond_true, xpu, xfT_eq, xfN_eq]
  | irem =>
    simp only [yst] at hs
    rcases st with _ | ⟨b, _ | ⟨a, s⟩⟩
    · cases hs
    · cases hs
    simp only at hs
    cases h1 : (xI a && (xI b && ynz b M.2.1)) with
    | false => simp [h1] at hs
    | true =>
      simp only [h1, cond_true, xfT_eq, xfN_eq] at hs
      cases hs
      simp only [Bool.and_eq_true] at h1
      obtain ⟨ha, hb, hn⟩ := h1
      have k1 := ynz_ok H.2.2.1 hn
      refine ⟨_, List.mem_singleton.mpr rfl, h, H, fun k => ?_⟩
      show xsp mi pc (.irem, ln, ax) (ylo r g lo) (ysb r g b :: ysb r g a :: s.map (ysb r g)) h [] k = k (pc + 1) (ylo r g lo) (ysb r g (xrm a b) :: s.map (ysb r g)) h []
      rw [xrm_I ha hb, ysb_I ha, ysb_I hb]
      simp only [xsp, xI, k1, Bool.and_self, cond_true, xpu, xfT_eq, xfN_eq]
  | _ => exact other hs
end
