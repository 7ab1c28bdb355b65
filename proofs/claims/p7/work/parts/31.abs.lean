-- ===== the abstract interpreter
abbrev bRet : Type := Option bV × bT
def bcol {A B C : Type} (F : A → Option (List B × List C)) (l : List A) : Option (List B × List C) := match l with
  | [] => some ([], [])
  | x :: t => match F x with
    | none => none
    | some r => match bcol F t with
      | none => none
      | some q => some (r.1 ++ q.1, r.2 ++ q.2)
theorem bcol_ok {A B C : Type} {F : A → Option (List B × List C)} : ∀ {l : List A} {r : List B × List C}, bcol F l = some r → ∀ x ∈ l, ∃ q, F x = some q ∧ (∀ b ∈ q.1, b ∈ r.1) ∧ (∀ c ∈ q.2, c ∈ r.2) := by
  intro l
  induction l with
  | nil => intro r _ x hx; cases hx
  | cons y t ih =>
    intro r h x hx
    simp only [bcol] at h
    cases h1 : F y with
    | none => rw [h1] at h; cases h
    | some q =>
    rw [h1] at h
    simp only at h
    cases h2 : bcol F t with
    | none => rw [h2] at h; cases h
    | some w =>
    rw [h2] at h
    cases h
    rcases List.mem_cons.mp hx with rfl | hx
    · exact ⟨q, h1, fun b hb => List.mem_append.mpr (Or.inl hb), fun c hc => List.mem_append.mpr (Or.inl hc)⟩
    · obtain ⟨z, z1, z2, z3⟩ := ih h2 x hx
      exact ⟨z, z1, fun b hb => List.mem_append.mpr (Or.inr (z2 b hb)), fun c hc => List.mem_append.mpr (Or.inr (z3 c hc))⟩
/-- each of these is a case of one of those -/
def bcov (I : Nat → Nat → Option bN) (gm : Nat → bT → bT → bG) (n0 : Nat) (ss js : List bT) : Bool := ss.all (fun s => js.any (fun j => Nat.ble n0 j.2.1 && bmS I n0 (gm n0 s j) s j))
def bcl (la : bL) (s : List bV) (r : bRet) : bT := (r.2.1, r.2.2.1, la, (match r.1 with
  | none => s
  | some v => v :: s), r.2.2.2.2.2)
noncomputable def babs (Z : List (Nat × Nat)) (I : Nat → Nat → Option bN) (mp : Nat → Nat → Nat) (mq : Nat → Nat → Nat → Nat) (jn : Nat → List bT → List bT) (gm : Nat → bT → bT → bG) (f d mi pc stop nb : Nat) (Ss : List bT) : Option (List bT × List bRet) := match f with
  | 0 => none
  | f + 1 => match Nat.beq pc stop with
    | true => some (Ss, [])
    | false => match Ss with
      | [] => some ([], [])
      | S :: S2 :: T => (match bcol (fun S => babs Z I mp mq jn gm f d mi pc (mq mi pc stop) nb [S]) (S :: S2 :: T) with
        | none => none
        | some r => match Nat.beq (mq mi pc stop) stop with
          | true => some r
          | false => match bcov I gm nb r.1 (jn nb r.1) with
            | false => none
            | true => match babs Z I mp mq jn gm f d mi (mq mi pc stop) stop nb (jn nb r.1) with
              | none => none
              | some q => some (q.1, r.2 ++ q.2))
      | [S] => (match xcd mi pc with
        | none => none
        | some e => match e.1 with
          | .return_ => (match S.2.2.2.1 with
            | [] => (match xr mi with
              | none => some ([], [(none, S)])
              | some _ => none)
            | _ => none)
          | .ireturn => (match S.2.2.2.1 with
            | [v] => (match brtv (xr mi) S.1 v with
              | true => some ([], [(some v, S)])
              | false => none)
            | _ => none)
          | .areturn => none
          | .invokespecial _ => none
          | .invokestatic _ => (match e.2.2 with
            | [_, cm, _, _] => (match d with
              | 0 => none
              | d' + 1 => match btk (xn cm) S.2.2.2.1 [] with
                | none => none
                | some q => match Nat.ble (basz q.1) (xm cm) && bcc q.2 with
                  | false => none
                  | true => match babs Z I mp mq jn gm f d' cm 0 99999 S.2.1 [(S.1, S.2.1, bal 0 q.1, [], S.2.2.2.2)] with
                    | none => none
                    | some r => match r.1 with
                      | _ :: _ => none
                      | [] => match bcov I gm S.2.1 (r.2.map (bcl S.2.2.1 q.2)) (jn S.2.1 (r.2.map (bcl S.2.2.1 q.2))) with
                        | false => none
                        | true => babs Z I mp mq jn gm f (d' + 1) mi (pc + 3) stop S.2.1 (jn S.2.1 (r.2.map (bcl S.2.2.1 q.2))))
            | _ => none)
          | .invokevirtual _ => (match e.2.2 with
            | [_, cm, _, _, _] => (match d with
              | 0 => none
              | d' + 1 => match btk (xn cm) S.2.2.2.1 [] with
                | none => none
                | some q => match q.2 with
                  | [] => none
                  | v :: s => (match bone v with
                    | none => none
                    | some a => match xhg Z a with
                      | none => none
                      | some z => match Nat.beq z.1 (xo cm) && (Nat.ble z.1 12 && (Nat.ble (basz (v :: q.1)) (xm cm) && bcc s)) with
                        | false => none
                        | true => match babs Z I mp mq jn gm f d' cm 0 99999 S.2.1 [(S.1, S.2.1, bal 0 (v :: q.1), [], S.2.2.2.2)] with
                          | none => none
                          | some r => match r.1 with
                            | _ :: _ => none
                            | [] => match bcov I gm S.2.1 (r.2.map (bcl S.2.2.1 s)) (jn S.2.1 (r.2.map (bcl S.2.2.1 s))) with
                              | false => none
                              | true => babs Z I mp mq jn gm f (d' + 1) mi (pc + 3) stop S.2.1 (jn S.2.1 (r.2.map (bcl S.2.2.1 s)))))
            | _ => none)
          | _ => match bnx Z I mi pc e S with
            | none => none
            | some qs => match bcol (fun q : bQ => babs Z I mp mq jn gm f d mi q.1 (mp mi pc) S.2.1 [q.2]) qs with
              | none => none
              | some r => match Nat.beq (mp mi pc) stop with
                | true => some r
                | false => match bcov I gm S.2.1 r.1 (jn S.2.1 r.1) with
                  | false => none
                  | true => match babs Z I mp mq jn gm f d mi (mp mi pc) stop S.2.1 (jn S.2.1 r.1) with
                    | none => none
                    | some q => some (q.1, r.2 ++ q.2))
-- ===== what it says
def bRt (Z : List (Nat × Nat)) (I : Nat → Nat → Option bN) (p : Nat → Int) (r : bRet) (t : Option Jvm.Term) (h : xH) : Prop := bok r.2.1 p ∧ bltE r.2.2.1 r.2.1 = true ∧ bOl r.2.2.1 r.2.2.2.2.2 = true ∧ bHr Z I p r.2.2.2.2.2 h ∧ xhw h ∧ (match r.1 with
  | none => t = none
  | some v => ∃ u, t = some u ∧ bga p v u ∧ bvl r.2.2.1 v = true)
def bEnd (Z : List (Nat × Nat)) (I : Nat → Nat → Option bN) (p : Nat → Int) (nb d mi pc : Nat) (lo : xL) (st : List Jvm.Term) (h : xH) (stop : Nat) (ss : List bT) (rs : List bRet) : Prop :=
  (∃ S ∈ ss, ∃ p' lo' st' h', (∀ v, v < nb → p' v = p v) ∧ nb ≤ S.2.1 ∧ bR Z I p' S lo' st' h' ∧ bld d mi pc lo st h stop lo' st' h') ∨
  (∃ r ∈ rs, ∃ p' t h', (∀ v, v < nb → p' v = p v) ∧ nb ≤ r.2.2.1 ∧ bRt Z I p' r t h' ∧ xrun d mi pc lo st h (t, h', []))
section
variable {Z : List (Nat × Nat)} {I : Nat → Nat → Option bN} {p p1 : Nat → Int} {nb n1 d mi pc pc1 stop : Nat} {lo lo1 : xL} {st st1 : List Jvm.Term} {h h1 : xH} {ss ss1 : List bT} {rs rs1 : List bRet}
theorem bEnd_led (hag : ∀ v, v < nb → p1 v = p v) (hn : nb ≤ n1) (hl : bld d mi pc lo st h pc1 lo1 st1 h1) (hs : ∀ S ∈ ss, S ∈ ss1) (hr : ∀ r ∈ rs, r ∈ rs1) (H : bEnd Z I p1 n1 d mi pc1 lo1 st1 h1 stop ss rs) : bEnd Z I p nb d mi pc lo st h stop ss1 rs1 := by
  rcases H with ⟨S, m, p', lo', st', h', a1, a2, a3, a4⟩ | ⟨r, m, p', t, h', a1, a2, a3, a4⟩
  · exact Or.inl ⟨S, hs S m, p', lo', st', h', fun v hv => (a1 v (by omega)).trans (hag v hv), by omega, a3, bld_tt hl a4⟩
  · exact Or.inr ⟨r, hr r m, p', t, h', fun v hv => (a1 v (by omega)).trans (hag v hv), by omega, a3, hl _ a4⟩
theorem bcov_ok {gm : Nat → bT → bT → bG} {n0 : Nat} {js : List bT} {S : bT} (R : bR Z I p S lo st h) (hm : S ∈ ss) (hc : bcov I gm n0 ss js = true) : ∃ J ∈ js, n0 ≤ J.2.1 ∧ ∃ p', (∀ v, v < n0 → p' v = p v) ∧ bR Z I p' J lo st h := by
  obtain ⟨J, hJ, k⟩ := List.any_eq_true.mp (List.all_eq_true.mp hc S hm)
  simp only [Bool.and_eq_true] at k
  exact ⟨J, hJ, Nat.le_of_ble_eq_true k.1, bmS_ok R k.2⟩
/-- behind a meeting place -/
theorem bEnd_meet {gm : Nat → bT → bT → bG} {js : List bT} {m : Nat} (H : bEnd Z I p nb d mi pc lo st h m ss rs) (hc : bcov I gm nb ss js = true)
    (K : ∀ J ∈ js, nb ≤ J.2.1 → ∀ (p' : Nat → Int) (lo' : xL) (st' : List Jvm.Term) (h' : xH), bR Z I p' J lo' st' h' → bEnd Z I p' nb d mi m lo' st' h' stop ss1 rs1) : bEnd Z I p nb d mi pc lo st h stop ss1 (rs ++ rs1) := by
  rcases H with ⟨S, hm, p', lo', st', h', a1, a2, a3, a4⟩ | ⟨r, hm, p', t, h', a1, a2, a3, a4⟩
  · obtain ⟨J, hJ, b1, p2, b2, b3⟩ := bcov_ok a3 hm hc
    exact bEnd_led (fun v hv => (b2 v hv).trans (a1 v hv)) (Nat.le_refl _) a4 (fun _ q => q) (fun _ q => List.mem_append.mpr (Or.inr q)) (K J hJ b1 p2 lo' st' h' b3)
  · exact Or.inr ⟨r, List.mem_append.mpr (Or.inl hm), p', t, h', a1, a2, a3, a4⟩
end
