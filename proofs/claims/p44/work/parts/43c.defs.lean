-- ===== worked: a text is worked out
/-- what ends, keeps the invariant -/
theorem bans_ok {Z : List (Nat × Nat)} {zf : Nat → Option (Nat × Nat)} {I : Nat → Nat → Option bN} {a_ : Option bN} {hq : bH} {r0 : bRet} {p : Nat → Int} {t_ : Option Jvm.Term} {h' : xH} (hz : ∀ a_ z_, zf a_ = some z_ → xhg Z a_ = some z_) (ha_ : bans zf I a_ hq r0 = true) (b3 : bRt Z I p r0 t_ h') : bInv Z I h' ∧ bav a_ t_ ∧ bHp h' hq := by
  unfold bans at ha_
  simp only [Bool.and_eq_true] at ha_
  obtain ⟨g1, g2, g3_, g4, g5_, g6⟩ := b3
  refine ⟨⟨bHr_dropn g1 ha_.1.1 g4, g5_⟩, ?_, bhpk_ok hz g1 g4 ha_.1.2⟩
  have ha2 := ha_.2
  unfold bav
  cases a_ with
  | none =>
    cases hv : r0.1 with
    | none =>
      rw [hv] at g6
      exact g6
    | some v_ => rw [hv] at ha2; cases ha2
  | some b_ =>
    cases hv : r0.1 with
    | none => rw [hv] at ha2; cases ha2
    | some v_ =>
      rw [hv] at ha2 g6
      obtain ⟨u_, u1_, u2_, -⟩ := g6
      exact ⟨u_, u1_, bkv_ok g1 ha2 u2_⟩
/-- a place of numbers is one -/
theorem bint_at {Z : List (Nat × Nat)} {I : Nat → Nat → Option bN} {h : xH} {a_ j_ : Nat} {z_ : Nat × Nat} {l u_ : Int} (H_ : bHr Z I (fun _ => 0) [] h) (hz : Z[a_]? = some z_) (hj : j_ < z_.2) (hI : I a_ j_ = some (.inl (l, u_))) : ∃ (c_ : xC) (x_ : Int32), h[a_]? = some c_ ∧ c_.2[j_]? = some (.int x_) ∧ tv h a_ j_ = x_.toInt ∧ l ≤ x_.toInt ∧ x_.toInt ≤ u_ := by
  obtain ⟨c_, c1_, c2_, c3_, c4_⟩ := H_.2 a_ z_ hz
  have hlt : j_ < c_.2.length := by omega
  have ht := List.getElem?_eq_getElem hlt
  have k_ : ∃ e, I a_ j_ = some e ∧ bnv e c_.2[j_] := c4_ j_ _ ht
  obtain ⟨e, e1_, e2_⟩ := k_
  rw [hI] at e1_
  cases e1_
  obtain ⟨x_, x1_, x2_, x3⟩ := e2_
  rw [x1_] at ht
  refine ⟨c_, x_, c1_, ht, ?_, x2_, x3⟩
  unfold tv
  rw [bpat_at c1_, ht]
def wcn (x_ : Int) : bV := some (.inl (bcn x_))
def wth : bV := some (.inr [.index 338])
def wany : bN := .inl (-2147483648, 2147483647)
def bkmJoin : bC := (186, [some wany, some wany, some wany], some wany, [], 0, [], [])
theorem btmJoin : bchk bzf bIm bmpm bmqm bjn bgm blpm bspm bdgm bldm [] [] 30000 bkmJoin = true := by decide +kernel
theorem bcmJoin : bcon bZ bIm bTr bkmJoin := bchk_ok bZ_len bzf_ok bTr_ok (fun _ q_ => absurd q_ List.not_mem_nil) (fun _ q_ => absurd q_ List.not_mem_nil) btmJoin
def bkmWorked : bC := (187, [some (.inr [.index 338]), some (.inl (0, 1))], some wany, [(347, 347, 0, 63)], 1, [], [])
def wkL (u_ : Nat) (vn : bV) (k_ : Nat) : bL := [(0, wth), (1, wcn (u_ : Int)), (2, wcn ((434 + 125 * u_ : Nat) : Int)), (3, vn), (4, wcn (k_ : Int))]
def wkB (u_ k_ g_ : Nat) : bT := ([], 0, wkL u_ (wcn (g_ : Int)) k_, [], [])
def wkH (u_ k_ : Nat) (d_ : Int) : bT := ([], 1, wkL u_ (some (.inl (d_, [(0, 1)]))) k_, [], [])
def wlo (kd : Nat) : Int := match kd with
  | 0 => 0
  | 1 => 0
  | 2 => 1
  | _ => 2
def whi (kd : Nat) : Int := match kd with
  | 0 => 59
  | 1 => 59
  | _ => 60
def wdl (kd : Nat) : Int := match kd with
  | 0 => 1
  | 1 => 1
  | 2 => 0
  | _ => -1
def wvl (kd : Nat) : Int × Int := match kd with
  | 1 => (98, 116)
  | _ => (-2147483648, 2147483647)
def wkJ (u_ k_ kd : Nat) : bT := ([(2, (wvl kd).1, (wvl kd).2), (1, (k_ : Int) + 1, 60), (0, wlo kd, whi kd)], 3, wkL u_ (some (.inl (bvr 0))) k_, [], [((339, 434 + 125 * u_ + 1 + 2 * k_ + 1), some (.inl (bvr 2))), ((339, 434 + 125 * u_ + 1 + 2 * k_), wcn (kd : Int)), ((339, 434 + 125 * u_), some (.inl (bvr 1)))])
def wkX (u_ k_ : Nat) : bT := ([(0, 0, 60)], 1, wkL u_ (some (.inl (bvr 0))) k_, [], [((339, 434 + 125 * u_), wcn (k_ : Int))])
def wkA (u_ : Nat) : bT := ([], 0, [(0, wth), (1, wcn (u_ : Int))], [], [])
noncomputable def wrun (hd_ : Bool) (pc nb : Nat) (J_ : bT) : Option bRs := babs bzf bIm [(347, 347, 0, 63)] [bkmJoin] bmpm bmqm bjn bgm blpm bspm bdgm bldm [] 2000 hd_ 1 187 pc [14] nb [J_]
noncomputable def wkc (u_ k_ kd : Nat) : Bool := match wrun true 14 3 (wkJ u_ k_ kd) with
  | none => false
  | some r_ => (match r_.2 with
    | [] => true
    | _ :: _ => false) && r_.1.all (fun q_ => Nat.beq q_.1 14 && bmS bIm 1 [] q_.2 (wkH u_ (k_ + 1) (wdl kd)))
noncomputable def wke (u_ k_ : Nat) : Bool := match wrun true 14 1 (wkX u_ k_) with
  | none => false
  | some r_ => (match r_.1 with
    | [] => true
    | _ :: _ => false) && r_.2.all (bans bzf bIm (some wany) [])
noncomputable def wka (u_ : Nat) : Bool := match wrun false 0 0 (wkA u_) with
  | none => false
  | some r_ => (match r_.2 with
    | [] => true
    | _ :: _ => false) && r_.1.all (fun q_ => Nat.beq q_.1 14 && bmS bIm 0 [] q_.2 (wkB u_ 0 0))
/-- what the places of the texts hold -/
def wki (l u_ : Int) (a_ j_ : Nat) : Bool := match bIm a_ j_ with
  | some (.inl b_) => decide (b_.1 = l) && decide (b_.2 = u_)
  | _ => false
theorem wki_ok {l u_ : Int} {a_ j_ : Nat} (h : wki l u_ a_ j_ = true) : bIm a_ j_ = some (.inl (l, u_)) := by
  unfold wki at h
  split at h
  · rename_i b_ hb_
    simp only [Bool.and_eq_true, decide_eq_true_eq] at h
    obtain ⟨b1, b2⟩ := b_
    obtain ⟨rfl, rfl⟩ := h
    exact hb_
  · cases h
theorem bZ_339 : bZ[339]? = some (20, 768) := by decide +kernel
