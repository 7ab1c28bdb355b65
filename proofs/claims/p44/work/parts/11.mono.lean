-- ===== a step makes no cell smaller, and none goes
section
variable {mi pc : Nat} {lo : xL} {st : List Jvm.Term} {h : xH} {E : List xB} {β : Type} {res : β} {k : Nat → xL → List Jvm.Term → xH → List xB → Option β}
def xM (h : xH) (β : Type) (k : Nat → xL → List Jvm.Term → xH → List xB → Option β) (res : β) : Prop := ∃ pc' lo' st' h' E', k pc' lo' st' h' E' = some res ∧ h.length ≤ h'.length ∧ xhz h ≤ xhz h' ∧ (xhw h → xhw h')
theorem xM_same {pc' : Nat} {lo' : xL} {st' : List Jvm.Term} {E' : List xB} (hk : k pc' lo' st' h E' = some res) : xM h β k res := ⟨_, _, _, _, _, hk, Nat.le_refl _, Nat.le_refl _, fun q => q⟩
theorem xM_set {pc' : Nat} {lo' : xL} {st' : List Jvm.Term} {E' : List xB} {a : Nat} {c c' : xC} (hk : k pc' lo' st' (h.set a c') E' = some res) (hc : h[a]? = some c) (hl : c'.2.length = c.2.length) (hk2 : xhw h → xokc h.length c' = true) : xM h β k res := ⟨_, _, _, _, _, hk, by rw [List.length_set]; exact Nat.le_refl _, by rw [xhz_set hc hl]; exact Nat.le_refl _, fun q => xhw_set q (hk2 q)⟩
theorem xM_app {pc' : Nat} {lo' : xL} {st' : List Jvm.Term} {E' : List xB} {c : xC} (hk : k pc' lo' st' (h ++ [c]) E' = some res) (hk2 : xokc h.length c = true) : xM h β k res := ⟨_, _, _, _, _, hk, by rw [List.length_append]; omega, by rw [xhz_app]; omega, fun q => xhw_app q hk2⟩
theorem xM_jp {off : Int} {f : Nat → Option β} (hs : xjp pc off f = some res) (hf : ∀ t, f t = some res → xM h β k res) : xM h β k res := by
  obtain ⟨t, -, hs⟩ := xjp_go hs
  exact hf t hs
theorem xM_bo {cd : Jvm.ClassFile.Cond} {a b : Jvm.Term} {f : Bool → List xB → Option β} (hs : xbo cd a b E f = some res) (hf : ∀ z E', f z E' = some res → xM h β k res) : xM h β k res := by
  cases E with
  | nil => cases hs
  | cons q E' =>
    simp only [xbo] at hs
    split at hs
    · exact hf _ _ hs
    · cases hs
theorem xM_br {cd : Jvm.ClassFile.Cond} {a b : Jvm.Term} {f : Bool → List xB → Option β} (hs : xbr cd a b E f = some res) (hf : ∀ z E', f z E' = some res → xM h β k res) : xM h β k res := by
  unfold xbr at hs
  split at hs
  · split at hs
    · exact hf _ _ hs
    · exact xM_bo hs hf
  · exact xM_bo hs hf
theorem xM_ts {dflt low high : Int} {offs : Array Int} {t : Jvm.Term} {f : Nat → List xB → Option β} (hs : xts pc dflt low high offs t E f = some res) (hf : ∀ z E', f z E' = some res → xM h β k res) : xM h β k res := by
  cases E with
  | nil => cases hs
  | cons q E' =>
    simp only [xts] at hs
    repeat' (first | (cases hs; done) | (exact xM_jp hs (fun t q => hf _ _ q)) | split at hs)
theorem xdf_all (n ci : Nat) : (xdf ci).all (xidx n) = true := by
  unfold xdf
  simp only [Bool.cond_eq_ite]
  repeat' split
  all_goals rfl
theorem xrep_all (n N : Nat) {t : Jvm.Term} (ht : xidx n t = true) : (List.replicate N t).all (xidx n) = true := List.all_eq_true.mpr (fun u hu => by rw [List.eq_of_mem_replicate hu]; exact ht)
set_option maxRecDepth 10000 in
set_option maxHeartbeats 8000000 in
theorem xsp_mono {e : Instr × Nat × List Nat} (hs : xsp mi pc e lo st h E k = some res) : xM h β k res := by
  obtain ⟨i, ln, ax⟩ := e
  cases i <;> simp only [xsp, xhg_eq] at hs <;> first | (cases hs; done) | skip
  all_goals try simp only [xls, xpu, xfT_eq, xfN_eq, xfL_eq, xst_eq, xap_eq, Bool.cond_eq_ite] at hs
  all_goals repeat' (first | (exact xM_same hs) | (exact xM_app hs (xokc_all (xdf_all _ _))) | (exact xM_app hs (xokc_all (xrep_all _ _ rfl))) | (cases hs; done) | (refine xM_jp hs (fun t hs => ?_)) | (refine xM_br hs (fun z E' hs => ?_)) | (refine xM_ts hs (fun z E' hs => ?_)) | split at hs)
  · refine xM_set hs (by assumption) (by simp) (fun q => xokc_set q (by assumption) ?_)
    rename_i hv _ _ _ _
    exact Nat.ble_eq_true_of_le (List.getElem?_eq_some_iff.mp hv).1
  · rename_i hh _ _ _
    simp only [Bool.and_eq_true] at hh
    refine xM_set hs (by assumption) (by simp) (fun q => ?_)
    rw [Nat.eq_of_beq_eq_true hh.1]
    exact xokc_20
  · rename_i hh
    simp only [Bool.and_eq_true] at hh
    obtain ⟨-, -, -, -, -, k5, k6⟩ := hh
    have k5 := Nat.le_of_ble_eq_true k5
    have k6 := Nat.le_of_ble_eq_true k6
    refine xM_set hs (by assumption) ?_ (fun _ => xokc_20)
    simp only [List.length_append, List.length_take, List.length_drop]
    omega
  · rename_i hh
    simp only [Bool.and_eq_true] at hh
    exact xM_set hs (by assumption) (by simp) (fun q => xokc_set q (by assumption) hh.2.2.1)
end
