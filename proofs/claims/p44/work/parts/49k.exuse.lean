-- ===== the exact evaluator at this world: places of Inv
section
variable {I_ : Nat → Nat → Option bN} {h_ h0 : xH} {L_ : List (Nat × Nat × Nat)} {s_ : Nat → Nat} {r_ : Nat → Value}
theorem ysh_of (H_ : bInv bZ I_ h_) (hL : ∀ q_ ∈ L_, 1000 ≤ q_.1 ∧ ∃ c_, h_[s_ q_.1]? = some c_ ∧ c_.1 = q_.2.1 ∧ c_.2.length = q_.2.2) : ysh (yZ L_) (yg s_) h_ := by
  intro n_ z_ hz
  unfold yZ at hz
  cases e_ : Nat.ble n_ 999 with
  | true =>
    rw [e_] at hz
    have l := Nat.le_of_ble_eq_true e_
    obtain ⟨c_, c1_, c2_, c3_, -⟩ := H_.1.2 n_ z_ (bzf_at hz)
    exact ⟨c_, by rw [yg_lo (by omega)]; exact c1_, c2_, c3_⟩
  | false =>
    rw [e_] at hz
    obtain ⟨k1_, c_, c1_, c2_, c3_⟩ := hL _ (yzl_in hz)
    exact ⟨c_, by rw [yg_hi k1_]; exact c1_, c2_, c3_⟩
/-- what an int place holds -/
theorem yint {a_ j_ : Nat} {z_ : Nat × Nat} (H_ : bInv bZ I_ h_) (hz : bZ[a_]? = some z_) (hj : j_ < z_.2) {l u_ : Int} (hI : I_ a_ j_ = some (.inl (l, u_))) : ∃ c_, h_[a_]? = some c_ ∧ c_.2[j_]? = some (.int (Int32.ofInt (tv h_ a_ j_))) := by
  obtain ⟨c_, x_, c1_, c2_, c3_, -⟩ := bint_at H_.1 hz hj hI
  exact ⟨c_, c1_, by rw [c2_, c3_, Int32.ofInt_toInt]⟩
theorem yref {a_ j_ : Nat} {z_ : Nat × Nat} {t_ : Jvm.Term} (H_ : bInv bZ I_ h_) (hz : bZ[a_]? = some z_) (hj : j_ < z_.2) (hI : I_ a_ j_ = some (.inr [t_])) : ∃ c_, h_[a_]? = some c_ ∧ c_.2[j_]? = some t_ := by
  obtain ⟨c_, c1_, c2_, c3_, c4_⟩ := H_.1.2 a_ z_ hz
  have hlt : j_ < c_.2.length := by omega
  have ht := List.getElem?_eq_getElem hlt
  have k_ : ∃ e_, I_ a_ j_ = some e_ ∧ bnv e_ c_.2[j_] := c4_ j_ _ ht
  obtain ⟨e_, e1_, e2_⟩ := k_
  rw [hI] at e1_
  cases e1_
  refine ⟨c_, c1_, ?_⟩
  rw [ht]
  exact congrArg some (List.mem_singleton.mp e2_.1)
/-- the places that are told: by Inv's single references, or by unknowns with their sources -/
def yo1 (I_ : Nat → Nat → Option bN) (P_ : List ((Nat × Nat) × (Nat × Nat))) (S_ : List (Nat × Nat × Nat)) (q_ : Nat × Jvm.Term × Jvm.Term) : Bool := match xlit q_.2.1 with
  | none => false
  | some v_ => Nat.ble q_.1 999 && (match bzf q_.1 with
    | none => false
    | some z_ => Nat.ble (v_.toNatClampNeg + 1) z_.2 && (match I_ q_.1 v_.toNatClampNeg with
      | none => false
      | some (.inr l) => (match l with
        | [u_] => ytq q_.2.2 u_ && (match u_ with
          | .index m_ => Nat.ble m_ 999
          | .null => true
          | _ => false)
        | _ => false)
      | some (.inl _) => (match q_.2.2 with
        | .arg k_ => xiv k_ && (match yzl S_ k_ with
          | some p_ => (Nat.beq p_.1 q_.1 && Nat.beq p_.2 v_.toNatClampNeg) || P_.any (fun w_ => (Nat.beq w_.1.1 p_.1 && Nat.beq w_.1.2 p_.2) && (Nat.beq w_.2.1 q_.1 && Nat.beq w_.2.2 v_.toNatClampNeg))
          | none => false)
        | _ => false)))
theorem yo1_ok {P_ : List ((Nat × Nat) × (Nat × Nat))} {S_ : List (Nat × Nat × Nat)} {q_ : Nat × Jvm.Term × Jvm.Term} (H_ : bInv bZ I_ h_) (hP : ∀ w_ ∈ P_, tv h0 w_.1.1 w_.1.2 = tv h_ w_.2.1 w_.2.2) (hS_ : ∀ k_ p_, yzl S_ k_ = some p_ → r_ k_ = .int (Int32.ofInt (tv h0 p_.1 p_.2)) ∧ (tv h0 p_.1 p_.2 = tv h_ p_.1 p_.2 ∨ ¬ Nat.beq p_.1 q_.1 = true)) (hk : yo1 I_ P_ S_ q_ = true) : ∃ c_, h_[yg s_ q_.1]? = some c_ ∧ c_.2[yix r_ q_.2.1]? = some (ysb r_ (yg s_) q_.2.2) := by
  obtain ⟨n_, i_, t_⟩ := q_
  unfold yo1 at hk
  simp only at hk hS_
  show ∃ c_, h_[yg s_ n_]? = some c_ ∧ c_.2[yix r_ i_]? = some (ysb r_ (yg s_) t_)
  cases hv : xlit i_ with
  | none => rw [hv] at hk; cases hk
  | some v_ =>
    rw [hv] at hk
    rw [xlit_eq hv]
    simp only [Bool.and_eq_true] at hk
    obtain ⟨k1_, k2_⟩ := hk
    have l := Nat.le_of_ble_eq_true k1_
    rw [yg_lo (by omega)]
    show ∃ c_, h_[n_]? = some c_ ∧ c_.2[v_.toNatClampNeg]? = some (ysb r_ (yg s_) t_)
    cases hz : bzf n_ with
    | none => rw [hz] at k2_; cases k2_
    | some z_ =>
      rw [hz] at k2_
      simp only [Bool.and_eq_true] at k2_
      obtain ⟨k3_, k4_⟩ := k2_
      have lj := Nat.le_of_ble_eq_true k3_
      have hb_ := bzf_at hz
      cases hI : I_ n_ v_.toNatClampNeg with
      | none => rw [hI] at k4_; cases k4_
      | some e_ =>
        rw [hI] at k4_
        rcases e_ with ⟨lo_, up_⟩ | m_
        · simp only at k4_
          split at k4_
          · rename_i k_
            simp only [Bool.and_eq_true] at k4_
            obtain ⟨k5_, k6_⟩ := k4_
            cases hp : yzl S_ k_ with
            | none => rw [hp] at k6_; cases k6_
            | some p_ =>
              rw [hp] at k6_
              simp only [Bool.or_eq_true, Bool.and_eq_true] at k6_
              obtain ⟨r1_, r2⟩ := hS_ k_ p_ hp
              obtain ⟨c_, c1_, c2_⟩ := yint H_ hb_ (show v_.toNatClampNeg < z_.2 by omega) hI
              refine ⟨c_, c1_, ?_⟩
              have e1_ : ysb r_ (yg s_) (.arg k_) = .int (xti (r_ k_)) := ysb_I (show xI (.arg k_) = true from k5_)
              rw [e1_, r1_, c2_]
              show some (Jvm.Term.int (Int32.ofInt (tv h_ n_ v_.toNatClampNeg))) = some (.int (Int32.ofInt (tv h0 p_.1 p_.2)))
              rcases k6_ with ⟨g1, g2⟩ | g_
              · have e3_ := Nat.eq_of_beq_eq_true g1
                have e4_ := Nat.eq_of_beq_eq_true g2
                rcases r2 with r2 | r2
                · rw [r2, e3_, e4_]
                · exact absurd g1 r2
              · obtain ⟨w_, hw, g_⟩ := List.any_eq_true.mp g_
                simp only [Bool.and_eq_true] at g_
                obtain ⟨⟨g1, g2⟩, g3_, g4⟩ := g_
                have f_ := hP w_ hw
                rw [Nat.eq_of_beq_eq_true g1, Nat.eq_of_beq_eq_true g2, Nat.eq_of_beq_eq_true g3_, Nat.eq_of_beq_eq_true g4] at f_
                rw [f_]
          · cases k4_
        · simp only at k4_
          split at k4_
          · rename_i u_
            simp only [Bool.and_eq_true] at k4_
            obtain ⟨k5_, k6_⟩ := k4_
            obtain ⟨c_, c1_, c2_⟩ := yref H_ hb_ (show v_.toNatClampNeg < z_.2 by omega) hI
            refine ⟨c_, c1_, ?_⟩
            rw [c2_, ytq_eq k5_]
            split at k6_
            · have l2 := Nat.le_of_ble_eq_true k6_
              show _ = some (Jvm.Term.index (yg s_ _))
              rw [yg_lo (by omega)]
            · rfl
            · cases k6_
          · cases k4_
/-- what an end says of a place -/
theorem yget {g_ : Nat → Nat} {ov : yO} {n_ : Nat} {i_ t_ : Jvm.Term} (hm_ : ymem r_ g_ ov h_) (hy : yrd n_ i_ ov = some t_) (ht : xI t_ = true) : tv h_ (g_ n_) (yix r_ i_) = (yv r_ t_).toInt := by
  obtain ⟨c_, c1_, c2_⟩ := yrd_ok hm_ hy
  unfold tv
  rw [bpat_at c1_, c2_, ysb_I ht]
/-- what no write reached -/
theorem yfr_tv {g_ : Nat → Nat} {W_ : yW} (hf : yfr r_ g_ W_ h0 h_) {a_ j_ : Nat} (hw : ∀ q_ ∈ W_, ¬ (g_ q_.1 = a_ ∧ yix r_ q_.2 = j_)) : tv h_ a_ j_ = tv h0 a_ j_ := by
  unfold tv
  cases e_ : h0[a_]? with
  | none =>
    have l : h0.length ≤ a_ := List.getElem?_eq_none_iff.mp e_
    have e2_ : h_[a_]? = none := List.getElem?_eq_none_iff.mpr (by rw [hf.1]; exact l)
    simp only [bpat, e_, e2_]
  | some c_ =>
    obtain ⟨c', c1_, c2_, c3_, c4_⟩ := hf.2 a_ c_ e_
    rw [bpat_at c1_, bpat_at e_, c4_ j_ hw]
end
theorem fx_k : fxl.all (fun q_ => (match bIj q_.1 q_.2.1 with
  | some (.inr [.index m_]) => Nat.beq m_ q_.2.2
  | _ => false) && (match bzf q_.1 with
  | some z_ => Nat.ble (q_.2.1 + 1) z_.2
  | none => false)) = true := by decide +kernel
theorem fx_ok {h_ : xH} (H_ : bInv bZ bIj h_) : fxr h_ := by
  intro q_ hq
  have k_ := List.all_eq_true.mp fx_k q_ hq
  rw [Bool.and_eq_true] at k_
  cases hz : bzf q_.1 with
  | none => rw [hz] at k_; exact absurd k_.2 Bool.false_ne_true
  | some z_ =>
    rw [hz] at k_
    have l := Nat.le_of_ble_eq_true k_.2
    have k1_ := k_.1
    split at k1_
    · rename_i m_ hm_
      rw [← Nat.eq_of_beq_eq_true k1_]
      exact bpat_of (yref H_ (bzf_at hz) (show q_.2.1 < z_.2 by omega) hm_)
    · cases k1_
theorem sHp_of {h_ : xH} (H_ : bInv bZ bIj h_) : sHp h_ := by
  refine ⟨fun n_ z_ hz => ?_, fx_ok H_⟩
  obtain ⟨c_, c1_, c2_, c3_, -⟩ := H_.1.2 n_ z_ (bzf_at hz)
  exact ⟨c_, c1_, c2_, c3_⟩
