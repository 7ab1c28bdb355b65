-- ===== a step makes no cell smaller, and none goes
section
variable {mi pc : Nat} {lo : xL} {st : List Jvm.Term} {h : xH} {E : List xB} {β : Type} {res : β} {k : Nat → xL → List Jvm.Term → xH → List xB → Option β}
def xM (h : xH) (β : Type) (k : Nat → xL → List Jvm.Term → xH → List xB → Option β) (res : β) : Prop := ∃ pc' lo' st' h' E', k pc' lo' st' h' E' = some res ∧ h.length ≤ h'.length ∧ xhz h ≤ xhz h'
theorem xM_same {pc' : Nat} {lo' : xL} {st' : List Jvm.Term} {E' : List xB} (hk : k pc' lo' st' h E' = some res) : xM h β k res := ⟨_, _, _, _, _, hk, Nat.le_refl _, Nat.le_refl _⟩
theorem xM_set {pc' : Nat} {lo' : xL} {st' : List Jvm.Term} {E' : List xB} {a : Nat} {c c' : xC} (hk : k pc' lo' st' (h.set a c') E' = some res) (hc : h[a]? = some c) (hl : c'.2.length = c.2.length) : xM h β k res := ⟨_, _, _, _, _, hk, by rw [List.length_set]; exact Nat.le_refl _, by rw [xhz_set hc hl]; exact Nat.le_refl _⟩
theorem xM_app {pc' : Nat} {lo' : xL} {st' : List Jvm.Term} {E' : List xB} {c : xC} (hk : k pc' lo' st' (h ++ [c]) E' = some res) : xM h β k res := ⟨_, _, _, _, _, hk, by rw [List.length_append]; omega, by rw [xhz_app]; omega⟩
theorem xM_jp {off : Int} {f : Nat → Option β} (hs : xjp pc off f = some res) (hf : ∀ t, f t = some res → xM h β k res) : xM h β k res := by
  obtain ⟨t, -, hs⟩ := xjp_go hs
  exact hf t hs
theorem xM_bo {cd : Jvm.ClassFile.Cond} {a b : Jvm.Term} {f : Bool → List xB → Option β} (hs : xbo cd a b E f = some res) (hf : ∀ z E', f z E' = some res → xM h β k res) : xM h β k res := by
  cases E with
  | nil => cases hs
  | cons q E' =>
    simp only [xbo] at hs
    split at hs
    · exact hf _ _ hs
    · cases hs
theorem xM_br {cd : Jvm.ClassFile.Cond} {a b : Jvm.Term} {f : Bool → List xB → Option β} (hs : xbr cd a b E f = some res) (hf : ∀ z E', f z E' = some res → xM h β k res) : xM h β k res := by
  unfold xbr at hs
  split at hs
  · split at hs
    · exact hf _ _ hs
    · exact xM_bo hs hf
  · exact xM_bo hs hf
theorem xM_ts {dflt low high : Int} {t : Jvm.Term} {f : Nat → List xB → Option β} (hs : xts pc dflt low high t E f = some res) (hf : ∀ z E', f z E' = some res → xM h β k res) : xM h β k res := by
  cases E with
  | nil => cases hs
  | cons q E' =>
    simp only [xts] at hs
    split at hs
    · cases hs
    · split at hs
      · exact xM_jp hs (fun t q => hf _ _ q)
      · cases hs
set_option maxHeartbeats 8000000 in
theorem xsp_mono {e : Instr × Nat × List Nat} (hs : xsp mi pc e lo st h E k = some res) : xM h β k res := by
  obtain ⟨i, ln, ax⟩ := e
  cases i <;> simp only [xsp] at hs <;> first | (cases hs; done) | skip
  all_goals try simp only [xpu, xfT_eq, xfN_eq, xfL_eq, xst_eq, xap_eq, Bool.cond_eq_ite] at hs
  all_goals repeat' (first | (exact xM_same hs) | (exact xM_app hs) | (cases hs; done) | (refine xM_jp hs (fun t hs => ?_)) | (refine xM_br hs (fun z E' hs => ?_)) | (refine xM_ts hs (fun z E' hs => ?_)) | (refine xM_set hs (by assumption) ?_; simp; done) | split at hs)
end
