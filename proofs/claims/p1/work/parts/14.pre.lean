-- ===== what is alike
def xeT (a b : Jvm.Term) : Bool := match a with
  | .index i => match b with
    | .index j => Nat.beq i j
    | _ => false
  | .null => match b with
    | .null => true
    | _ => false
  | a => xq a b
theorem xeT_eq {a b : Jvm.Term} (h : xeT a b = true) : a = b := by
  unfold xeT at h
  split at h
  · split at h
    · rw [Nat.eq_of_beq_eq_true h]
    · cases h
  · split at h
    · rfl
    · cases h
  · exact xq_eq _ _ h
def xeL (l l' : List Jvm.Term) : Bool := match l with
  | [] => match l' with
    | [] => true
    | _ => false
  | a :: t => match l' with
    | [] => false
    | b :: t' => xeT a b && xeL t t'
theorem xeL_eq : ∀ {l l' : List Jvm.Term}, xeL l l' = true → l = l' := by
  intro l
  induction l with
  | nil => intro l' h; cases l' with
    | nil => rfl
    | cons b t' => cases h
  | cons a t ih => intro l' h; cases l' with
    | nil => cases h
    | cons b t' =>
      simp only [xeL, Bool.and_eq_true] at h
      rw [xeT_eq h.1, ih h.2]
def xeH (l l' : xH) : Bool := match l with
  | [] => match l' with
    | [] => true
    | _ => false
  | a :: t => match l' with
    | [] => false
    | b :: t' => (Nat.beq a.1 b.1 && xeL a.2 b.2) && xeH t t'
theorem xeH_eq : ∀ {l l' : xH}, xeH l l' = true → l = l' := by
  intro l
  induction l with
  | nil => intro l' h; cases l' with
    | nil => rfl
    | cons b t' => cases h
  | cons a t ih => intro l' h; cases l' with
    | nil => cases h
    | cons b t' =>
      obtain ⟨a1, a2⟩ := a
      obtain ⟨b1, b2⟩ := b
      simp only [xeH, Bool.and_eq_true] at h
      rw [Nat.eq_of_beq_eq_true h.1.1, xeL_eq h.1.2, ih h.2]
def xeO (l l' : xL) : Bool := match l with
  | [] => match l' with
    | [] => true
    | _ => false
  | a :: t => match l' with
    | [] => false
    | b :: t' => (Nat.beq a.1 b.1 && xeT a.2 b.2) && xeO t t'
theorem xeO_eq : ∀ {l l' : xL}, xeO l l' = true → l = l' := by
  intro l
  induction l with
  | nil => intro l' h; cases l' with
    | nil => rfl
    | cons b t' => cases h
  | cons a t ih => intro l' h; cases l' with
    | nil => cases h
    | cons b t' =>
      obtain ⟨a1, a2⟩ := a
      obtain ⟨b1, b2⟩ := b
      simp only [xeO, Bool.and_eq_true] at h
      rw [Nat.eq_of_beq_eq_true h.1.1, xeT_eq h.1.2, ih h.2]
/-- a stretch ends just so, with no condition left -/
def xeZ (z : Option xZ) (pc : Nat) (lo : xL) (h : xH) : Bool := match z with
  | none => false
  | some q => Nat.beq q.1 pc && (xeO q.2.1 lo && (xeL q.2.2.1 [] && (xeH q.2.2.2.1 h && (match q.2.2.2.2 with
    | [] => true
    | _ => false))))
theorem xeZ_eq {z : Option xZ} {pc : Nat} {lo : xL} {h : xH} (q : xeZ z pc lo h = true) : z = some (pc, lo, [], h, []) := by
  cases z with
  | none => cases q
  | some z =>
    obtain ⟨z1, z2, z3, z4, z5⟩ := z
    simp only [xeZ, Bool.and_eq_true] at q
    obtain ⟨q1, q2, q3, q4, q5⟩ := q
    cases z5 with
    | cons a t => cases q5
    | nil => rw [Nat.eq_of_beq_eq_true q1, xeO_eq q2, xeL_eq q3, xeH_eq q4]
/-- an evaluation ends with the answer 1 -/
def xis1 (o : Option xO) : Bool := match o with
  | none => false
  | some q => match q.1 with
    | none => false
    | some t => xeT t (.int 1)
/-- the world behind the two constructors -/
def xh0 : xH := [(11, [.index 1, .index 74, .index 147, .index 152, .index 155, .index 305, .index 310, .index 313, .index 314, .index 316, .index 318, .index 320, .index 322, .index 323, .int 0]),
  (10, [.index 2, .index 3, .index 4, .index 5, .index 7, .index 9, .index 11, .index 13, .index 15, .int 0, .int 0, .int 0, .int 0, .int 1, .index 33]),
  (21, [.index 34, .index 36, .index 38, .index 40, .index 42, .index 44, .index 46, .index 48, .index 50, .index 52, .index 54, .index 56]),
  (22, [.index 58, .index 59, .index 60, .index 61, .index 62, .index 63, .index 64, .index 65]),
  (23, [.index 66, .index 70]),
  (6, [.index 6, .int 0]),
  (20, List.replicate 60 (.int 0)),
  (6, [.index 8, .int 0]),
  (20, [.int 0, .int 0, .int 0, .int 0, .int 0, .int 0, .int 0, .int 0, .int 0, .int 0, .int 0, .int 0, .int 0, .int 0, .int 0, .int 0, .int 0, .int 0, .int 0, .int 0, .int 0, .int 0, .int 0, .int 0]),
  (6, [.index 10, .int 0]),
  (20, [.int 0, .int 0, .int 0, .int 0, .int 0, .int 0, .int 0, .int 0, .int 0, .int 0]),
  (6, [.index 12, .int 0]),
  (20, [.int 0, .int 0, .int 0, .int 0, .int 0, .int 0, .int 0, .int 0, .int 0, .int 0]),
  (6, [.index 14, .int 0]),
  (20, [.int 0, .int 0, .int 0, .int 0, .int 0, .int 0, .int 0, .int 0, .int 0, .int 0]),
  (2, [.index 16, .int 0, .int 0]),
  (21, [.index 17, .index 19, .index 21, .index 23, .index 25, .index 27, .index 29, .index 31]),
  (6, [.index 18, .int 0]),
  (20, [.int 0, .int 0, .int 0, .int 0, .int 0, .int 0, .int 0, .int 0, .int 0, .int 0, .int 0, .int 0]),
  (6, [.index 20, .int 0]),
  (20, [.int 0, .int 0, .int 0, .int 0, .int 0, .int 0, .int 0, .int 0, .int 0, .int 0, .int 0, .int 0]),
  (6, [.index 22, .int 0]),
  (20, [.int 0, .int 0, .int 0, .int 0, .int 0, .int 0, .int 0, .int 0, .int 0, .int 0, .int 0, .int 0]),
  (6, [.index 24, .int 0]),
  (20, [.int 0, .int 0, .int 0, .int 0, .int 0, .int 0, .int 0, .int 0, .int 0, .int 0, .int 0, .int 0]),
  (6, [.index 26, .int 0]),
  (20, [.int 0, .int 0, .int 0, .int 0, .int 0, .int 0, .int 0, .int 0, .int 0, .int 0, .int 0, .int 0]),
  (6, [.index 28, .int 0]),
  (20, [.int 0, .int 0, .int 0, .int 0, .int 0, .int 0, .int 0, .int 0, .int 0, .int 0, .int 0, .int 0]),
  (6, [.index 30, .int 0]),
  (20, [.int 0, .int 0, .int 0, .int 0, .int 0, .int 0, .int 0, .int 0, .int 0, .int 0, .int 0, .int 0]),
  (6, [.index 32, .int 0]),
  (20, [.int 0, .int 0, .int 0, .int 0, .int 0, .int 0, .int 0, .int 0, .int 0, .int 0, .int 0, .int 0]),
  (20, [.int 0, .int 0, .int 0, .int 0]),
  (6, [.index 35, .int 0]),
  (20, [.int 0, .int 0, .int 0, .int 0, .int 0, .int 0, .int 0, .int 0, .int 0, .int 0, .int 0, .int 0]),
  (6, [.index 37, .int 0]),
  (20, [.int 0, .int 0, .int 0, .int 0, .int 0, .int 0, .int 0, .int 0, .int 0, .int 0, .int 0, .int 0]),
  (6, [.index 39, .int 0]),
  (20, [.int 0, .int 0, .int 0, .int 0, .int 0, .int 0, .int 0, .int 0, .int 0, .int 0, .int 0, .int 0]),
  (6, [.index 41, .int 0]),
  (20, [.int 0, .int 0, .int 0, .int 0, .int 0, .int 0, .int 0, .int 0, .int 0, .int 0, .int 0, .int 0]),
  (6, [.index 43, .int 0]),
  (20, [.int 0, .int 0, .int 0, .int 0, .int 0, .int 0, .int 0, .int 0, .int 0, .int 0, .int 0, .int 0]),
  (6, [.index 45, .int 0]),
  (20, [.int 0, .int 0, .int 0, .int 0, .int 0, .int 0, .int 0, .int 0, .int 0, .int 0, .int 0, .int 0]),
  (6, [.index 47, .int 0]),
  (20, [.int 0, .int 0, .int 0, .int 0, .int 0, .int 0, .int 0, .int 0, .int 0, .int 0, .int 0, .int 0]),
  (6, [.index 49, .int 0]),
  (20, [.int 0, .int 0, .int 0, .int 0, .int 0, .int 0, .int 0, .int 0, .int 0, .int 0, .int 0, .int 0]),
  (6, [.index 51, .int 0]),
  (20, [.int 0, .int 0, .int 0, .int 0, .int 0, .int 0, .int 0, .int 0, .int 0, .int 0, .int 0, .int 0]),
  (6, [.index 53, .int 0]),
  (20, [.int 0, .int 0, .int 0, .int 0, .int 0, .int 0, .int 0, .int 0, .int 0, .int 0, .int 0, .int 0]),
  (6, [.index 55, .int 0]),
  (20, [.int 0, .int 0, .int 0, .int 0, .int 0, .int 0, .int 0, .int 0, .int 0, .int 0, .int 0, .int 0]),
  (6, [.index 57, .int 0]),
  (20, [.int 0, .int 0, .int 0, .int 0, .int 0, .int 0, .int 0, .int 0, .int 0, .int 0, .int 0, .int 0]),
  (5, [.int 0, .int 0, .int 0]),
  (5, [.int 0, .int 0, .int 0]),
  (5, [.int 0, .int 0, .int 0]),
  (5, [.int 0, .int 0, .int 0]),
  (5, [.int 0, .int 0, .int 0]),
  (5, [.int 0, .int 0, .int 0]),
  (5, [.int 0, .int 0, .int 0]),
  (5, [.int 0, .int 0, .int 0]),
  (9, [.index 67, .index 69]),
  (6, [.index 68, .int 0]),
  (20, List.replicate 60 (.int 0)),
  (20, List.replicate 60 (.int 0)),
  (9, [.index 71, .index 73]),
  (6, [.index 72, .int 0]),
  (20, List.replicate 60 (.int 0)),
  (20, List.replicate 60 (.int 0)),
  (10, [.index 75, .index 76, .index 77, .index 78, .index 80, .index 82, .index 84, .index 86, .index 88, .int 0, .int 0, .int 0, .int 0, .int 1, .index 106]),
  (21, [.index 107, .index 109, .index 111, .index 113, .index 115, .index 117, .index 119, .index 121, .index 123, .index 125, .index 127, .index 129]),
  (22, [.index 131, .index 132, .index 133, .index 134, .index 135, .index 136, .index 137, .index 138]),
  (23, [.index 139, .index 143]),
  (6, [.index 79, .int 0]),
  (20, List.replicate 60 (.int 0)),
  (6, [.index 81, .int 0]),
  (20, [.int 0, .int 0, .int 0, .int 0, .int 0, .int 0, .int 0, .int 0, .int 0, .int 0, .int 0, .int 0, .int 0, .int 0, .int 0, .int 0, .int 0, .int 0, .int 0, .int 0, .int 0, .int 0, .int 0, .int 0]),
  (6, [.index 83, .int 0]),
  (20, [.int 0, .int 0, .int 0, .int 0, .int 0, .int 0, .int 0, .int 0, .int 0, .int 0]),
  (6, [.index 85, .int 0]),
  (20, [.int 0, .int 0, .int 0, .int 0, .int 0, .int 0, .int 0, .int 0, .int 0, .int 0]),
  (6, [.index 87, .int 0]),
  (20, [.int 0, .int 0, .int 0, .int 0, .int 0, .int 0, .int 0, .int 0, .int 0, .int 0]),
  (2, [.index 89, .int 0, .int 0]),
  (21, [.index 90, .index 92, .index 94, .index 96, .index 98, .index 100, .index 102, .index 104]),
  (6, [.index 91, .int 0]),
  (20, [.int 0, .int 0, .int 0, .int 0, .int 0, .int 0, .int 0, .int 0, .int 0, .int 0, .int 0, .int 0]),
  (6, [.index 93, .int 0]),
  (20, [.int 0, .int 0, .int 0, .int 0, .int 0, .int 0, .int 0, .int 0, .int 0, .int 0, .int 0, .int 0]),
  (6, [.index 95, .int 0]),
  (20, [.int 0, .int 0, .int 0, .int 0, .int 0, .int 0, .int 0, .int 0, .int 0, .int 0, .int 0, .int 0]),
  (6, [.index 97, .int 0]),
  (20, [.int 0, .int 0, .int 0, .int 0, .int 0, .int 0, .int 0, .int 0, .int 0, .int 0, .int 0, .int 0]),
  (6, [.index 99, .int 0]),
  (20, [.int 0, .int 0, .int 0, .int 0, .int 0, .int 0, .int 0, .int 0, .int 0, .int 0, .int 0, .int 0]),
  (6, [.index 101, .int 0]),
  (20, [.int 0, .int 0, .int 0, .int 0, .int 0, .int 0, .int 0, .int 0, .int 0, .int 0, .int 0, .int 0]),
  (6, [.index 103, .int 0]),
  (20, [.int 0, .int 0, .int 0, .int 0, .int 0, .int 0, .int 0, .int 0, .int 0, .int 0, .int 0, .int 0]),
  (6, [.index 105, .int 0]),
  (20, [.int 0, .int 0, .int 0, .int 0, .int 0, .int 0, .int 0, .int 0, .int 0, .int 0, .int 0, .int 0]),
  (20, [.int 0, .int 0, .int 0, .int 0]),
  (6, [.index 108, .int 0]),
  (20, [.int 0, .int 0, .int 0, .int 0, .int 0, .int 0, .int 0, .int 0, .int 0, .int 0, .int 0, .int 0]),
  (6, [.index 110, .int 0]),
  (20, [.int 0, .int 0, .int 0, .int 0, .int 0, .int 0, .int 0, .int 0, .int 0, .int 0, .int 0, .int 0]),
  (6, [.index 112, .int 0]),
  (20, [.int 0, .int 0, .int 0, .int 0, .int 0, .int 0, .int 0, .int 0, .int 0, .int 0, .int 0, .int 0]),
  (6, [.index 114, .int 0]),
  (20, [.int 0, .int 0, .int 0, .int 0, .int 0, .int 0, .int 0, .int 0, .int 0, .int 0, .int 0, .int 0]),
  (6, [.index 116, .int 0]),
  (20, [.int 0, .int 0, .int 0, .int 0, .int 0, .int 0, .int 0, .int 0, .int 0, .int 0, .int 0, .int 0]),
  (6, [.index 118, .int 0]),
  (20, [.int 0, .int 0, .int 0, .int 0, .int 0, .int 0, .int 0, .int 0, .int 0, .int 0, .int 0, .int 0]),
  (6, [.index 120, .int 0]),
  (20, [.int 0, .int 0, .int 0, .int 0, .int 0, .int 0, .int 0, .int 0, .int 0, .int 0, .int 0, .int 0]),
  (6, [.index 122, .int 0]),
  (20, [.int 0, .int 0, .int 0, .int 0, .int 0, .int 0, .int 0, .int 0, .int 0, .int 0, .int 0, .int 0]),
  (6, [.index 124, .int 0]),
  (20, [.int 0, .int 0, .int 0, .int 0, .int 0, .int 0, .int 0, .int 0, .int 0, .int 0, .int 0, .int 0]),
  (6, [.index 126, .int 0]),
  (20, [.int 0, .int 0, .int 0, .int 0, .int 0, .int 0, .int 0, .int 0, .int 0, .int 0, .int 0, .int 0]),
  (6, [.index 128, .int 0]),
  (20, [.int 0, .int 0, .int 0, .int 0, .int 0, .int 0, .int 0, .int 0, .int 0, .int 0, .int 0, .int 0]),
  (6, [.index 130, .int 0]),
  (20, [.int 0, .int 0, .int 0, .int 0, .int 0, .int 0, .int 0, .int 0, .int 0, .int 0, .int 0, .int 0]),
  (5, [.int 0, .int 0, .int 0]),
  (5, [.int 0, .int 0, .int 0]),
  (5, [.int 0, .int 0, .int 0]),
  (5, [.int 0, .int 0, .int 0]),
  (5, [.int 0, .int 0, .int 0]),
  (5, [.int 0, .int 0, .int 0]),
  (5, [.int 0, .int 0, .int 0]),
  (5, [.int 0, .int 0, .int 0]),
  (9, [.index 140, .index 142]),
  (6, [.index 141, .int 0]),
  (20, List.replicate 60 (.int 0)),
  (20, List.replicate 60 (.int 0)),
  (9, [.index 144, .index 146]),
  (6, [.index 145, .int 0]),
  (20, List.replicate 60 (.int 0)),
  (20, List.replicate 60 (.int 0)),
  (4, [.index 148, .index 150, .arg 101, .int 0]),
  (6, [.index 149, .int 0]),
  (20, List.replicate 60 (.int 0)),
  (6, [.index 151, .int 0]),
  (20, []),
  (1, [.index 153, .int 0, .int 0]),
  (6, [.index 154, .int 0]),
  (20, [.int 0, .int 0, .int 0, .int 0, .int 0, .int 0, .int 0, .int 0, .int 0, .int 0, .int 0, .int 0]),
  (3, [.index 156, .index 157, .int 0]),
  (21, [.index 159, .index 161, .index 163, .index 165, .index 167, .index 169, .index 171, .index 173, .index 175, .index 177, .index 179, .index 181, .index 183, .index 185, .index 187, .index 189, .index 191, .index 193, .index 195, .index 197, .index 199, .index 201, .index 203, .index 205, .index 207, .index 209, .index 211, .index 213, .index 215, .index 217, .index 219, .index 221, .index 223, .index 225, .index 227, .index 229, .index 231, .index 233, .index 235, .index 237, .index 239, .index 241, .index 243, .index 245, .index 247, .index 249, .index 251, .index 253, .index 255, .index 257, .index 259, .index 261, .index 263, .index 265, .index 267, .index 269, .index 271, .index 273, .index 275, .index 277, .index 279, .index 281, .index 283, .index 285, .index 287, .index 289, .index 291, .index 293, .index 295, .index 297, .index 299, .index 301, .index 303]),
  (6, [.index 158, .int 0]),
  (20, [.int 0, .int 0, .int 0, .int 0, .int 0, .int 0, .int 0, .int 0, .int 0, .int 0, .int 0, .int 0]),
  (6, [.index 160, .int 0]),
  (20, [.int 0, .int 0, .int 0, .int 0, .int 0, .int 0, .int 0, .int 0, .int 0, .int 0, .int 0, .int 0]),
  (6, [.index 162, .int 0]),
  (20, [.int 0, .int 0, .int 0, .int 0, .int 0, .int 0, .int 0, .int 0, .int 0, .int 0, .int 0, .int 0]),
  (6, [.index 164, .int 0]),
  (20, [.int 0, .int 0, .int 0, .int 0, .int 0, .int 0, .int 0, .int 0, .int 0, .int 0, .int 0, .int 0]),
  (6, [.index 166, .int 0]),
  (20, [.int 0, .int 0, .int 0, .int 0, .int 0, .int 0, .int 0, .int 0, .int 0, .int 0, .int 0, .int 0]),
  (6, [.index 168, .int 0]),
  (20, [.int 0, .int 0, .int 0, .int 0, .int 0, .int 0, .int 0, .int 0, .int 0, .int 0, .int 0, .int 0]),
  (6, [.index 170, .int 0]),
  (20, [.int 0, .int 0, .int 0, .int 0, .int 0, .int 0, .int 0, .int 0, .int 0, .int 0, .int 0, .int 0]),
  (6, [.index 172, .int 0]),
  (20, [.int 0, .int 0, .int 0, .int 0, .int 0, .int 0, .int 0, .int 0, .int 0, .int 0, .int 0, .int 0]),
  (6, [.index 174, .int 0]),
  (20, [.int 0, .int 0, .int 0, .int 0, .int 0, .int 0, .int 0, .int 0, .int 0, .int 0, .int 0, .int 0]),
  (6, [.index 176, .int 0]),
  (20, [.int 0, .int 0, .int 0, .int 0, .int 0, .int 0, .int 0, .int 0, .int 0, .int 0, .int 0, .int 0]),
  (6, [.index 178, .int 0]),
  (20, [.int 0, .int 0, .int 0, .int 0, .int 0, .int 0, .int 0, .int 0, .int 0, .int 0, .int 0, .int 0]),
  (6, [.index 180, .int 0]),
  (20, [.int 0, .int 0, .int 0, .int 0, .int 0, .int 0, .int 0, .int 0, .int 0, .int 0, .int 0, .int 0]),
  (6, [.index 182, .int 0]),
  (20, [.int 0, .int 0, .int 0, .int 0, .int 0, .int 0, .int 0, .int 0, .int 0, .int 0, .int 0, .int 0]),
  (6, [.index 184, .int 0]),
  (20, [.int 0, .int 0, .int 0, .int 0, .int 0, .int 0, .int 0, .int 0, .int 0, .int 0, .int 0, .int 0]),
  (6, [.index 186, .int 0]),
  (20, [.int 0, .int 0, .int 0, .int 0, .int 0, .int 0, .int 0, .int 0, .int 0, .int 0, .int 0, .int 0]),
  (6, [.index 188, .int 0]),
  (20, [.int 0, .int 0, .int 0, .int 0, .int 0, .int 0, .int 0, .int 0, .int 0, .int 0, .int 0, .int 0]),
  (6, [.index 190, .int 0]),
  (20, [.int 0, .int 0, .int 0, .int 0, .int 0, .int 0, .int 0, .int 0, .int 0, .int 0, .int 0, .int 0]),
  (6, [.index 192, .int 0]),
  (20, [.int 0, .int 0, .int 0, .int 0, .int 0, .int 0, .int 0, .int 0, .int 0, .int 0, .int 0, .int 0]),
  (6, [.index 194, .int 0]),
  (20, [.int 0, .int 0, .int 0, .int 0, .int 0, .int 0, .int 0, .int 0, .int 0, .int 0, .int 0, .int 0]),
  (6, [.index 196, .int 0]),
  (20, [.int 0, .int 0, .int 0, .int 0, .int 0, .int 0, .int 0, .int 0, .int 0, .int 0, .int 0, .int 0]),
  (6, [.index 198, .int 0]),
  (20, [.int 0, .int 0, .int 0, .int 0, .int 0, .int 0, .int 0, .int 0, .int 0, .int 0, .int 0, .int 0]),
  (6, [.index 200, .int 0]),
  (20, [.int 0, .int 0, .int 0, .int 0, .int 0, .int 0, .int 0, .int 0, .int 0, .int 0, .int 0, .int 0]),
  (6, [.index 202, .int 0]),
  (20, [.int 0, .int 0, .int 0, .int 0, .int 0, .int 0, .int 0, .int 0, .int 0, .int 0, .int 0, .int 0]),
  (6, [.index 204, .int 0]),
  (20, [.int 0, .int 0, .int 0, .int 0, .int 0, .int 0, .int 0, .int 0, .int 0, .int 0, .int 0, .int 0]),
  (6, [.index 206, .int 0]),
  (20, [.int 0, .int 0, .int 0, .int 0, .int 0, .int 0, .int 0, .int 0, .int 0, .int 0, .int 0, .int 0]),
  (6, [.index 208, .int 0]),
  (20, [.int 0, .int 0, .int 0, .int 0, .int 0, .int 0, .int 0, .int 0, .int 0, .int 0, .int 0, .int 0]),
  (6, [.index 210, .int 0]),
  (20, [.int 0, .int 0, .int 0, .int 0, .int 0, .int 0, .int 0, .int 0, .int 0, .int 0, .int 0, .int 0]),
  (6, [.index 212, .int 0]),
  (20, [.int 0, .int 0, .int 0, .int 0, .int 0, .int 0, .int 0, .int 0, .int 0, .int 0, .int 0, .int 0]),
  (6, [.index 214, .int 0]),
  (20, [.int 0, .int 0, .int 0, .int 0, .int 0, .int 0, .int 0, .int 0, .int 0, .int 0, .int 0, .int 0]),
  (6, [.index 216, .int 0]),
  (20, [.int 0, .int 0, .int 0, .int 0, .int 0, .int 0, .int 0, .int 0, .int 0, .int 0, .int 0, .int 0]),
  (6, [.index 218, .int 0]),
  (20, [.int 0, .int 0, .int 0, .int 0, .int 0, .int 0, .int 0, .int 0, .int 0, .int 0, .int 0, .int 0]),
  (6, [.index 220, .int 0]),
  (20, [.int 0, .int 0, .int 0, .int 0, .int 0, .int 0, .int 0, .int 0, .int 0, .int 0, .int 0, .int 0]),
  (6, [.index 222, .int 0]),
  (20, [.int 0, .int 0, .int 0, .int 0, .int 0, .int 0, .int 0, .int 0, .int 0, .int 0, .int 0, .int 0]),
  (6, [.index 224, .int 0]),
  (20, [.int 0, .int 0, .int 0, .int 0, .int 0, .int 0, .int 0, .int 0, .int 0, .int 0, .int 0, .int 0]),
  (6, [.index 226, .int 0]),
  (20, [.int 0, .int 0, .int 0, .int 0, .int 0, .int 0, .int 0, .int 0, .int 0, .int 0, .int 0, .int 0]),
  (6, [.index 228, .int 0]),
  (20, [.int 0, .int 0, .int 0, .int 0, .int 0, .int 0, .int 0, .int 0, .int 0, .int 0, .int 0, .int 0]),
  (6, [.index 230, .int 0]),
  (20, [.int 0, .int 0, .int 0, .int 0, .int 0, .int 0, .int 0, .int 0, .int 0, .int 0, .int 0, .int 0]),
  (6, [.index 232, .int 0]),
  (20, [.int 0, .int 0, .int 0, .int 0, .int 0, .int 0, .int 0, .int 0, .int 0, .int 0, .int 0, .int 0]),
  (6, [.index 234, .int 0]),
  (20, [.int 0, .int 0, .int 0, .int 0, .int 0, .int 0, .int 0, .int 0, .int 0, .int 0, .int 0, .int 0]),
  (6, [.index 236, .int 0]),
  (20, [.int 0, .int 0, .int 0, .int 0, .int 0, .int 0, .int 0, .int 0, .int 0, .int 0, .int 0, .int 0]),
  (6, [.index 238, .int 0]),
  (20, [.int 0, .int 0, .int 0, .int 0, .int 0, .int 0, .int 0, .int 0, .int 0, .int 0, .int 0, .int 0]),
  (6, [.index 240, .int 0]),
  (20, [.int 0, .int 0, .int 0, .int 0, .int 0, .int 0, .int 0, .int 0, .int 0, .int 0, .int 0, .int 0]),
  (6, [.index 242, .int 0]),
  (20, [.int 0, .int 0, .int 0, .int 0, .int 0, .int 0, .int 0, .int 0, .int 0, .int 0, .int 0, .int 0]),
  (6, [.index 244, .int 0]),
  (20, [.int 0, .int 0, .int 0, .int 0, .int 0, .int 0, .int 0, .int 0, .int 0, .int 0, .int 0, .int 0]),
  (6, [.index 246, .int 0]),
  (20, [.int 0, .int 0, .int 0, .int 0, .int 0, .int 0, .int 0, .int 0, .int 0, .int 0, .int 0, .int 0]),
  (6, [.index 248, .int 0]),
  (20, [.int 0, .int 0, .int 0, .int 0, .int 0, .int 0, .int 0, .int 0, .int 0, .int 0, .int 0, .int 0]),
  (6, [.index 250, .int 0]),
  (20, [.int 0, .int 0, .int 0, .int 0, .int 0, .int 0, .int 0, .int 0, .int 0, .int 0, .int 0, .int 0]),
  (6, [.index 252, .int 0]),
  (20, [.int 0, .int 0, .int 0, .int 0, .int 0, .int 0, .int 0, .int 0, .int 0, .int 0, .int 0, .int 0]),
  (6, [.index 254, .int 0]),
  (20, [.int 0, .int 0, .int 0, .int 0, .int 0, .int 0, .int 0, .int 0, .int 0, .int 0, .int 0, .int 0]),
  (6, [.index 256, .int 0]),
  (20, [.int 0, .int 0, .int 0, .int 0, .int 0, .int 0, .int 0, .int 0, .int 0, .int 0, .int 0, .int 0]),
  (6, [.index 258, .int 0]),
  (20, [.int 0, .int 0, .int 0, .int 0, .int 0, .int 0, .int 0, .int 0, .int 0, .int 0, .int 0, .int 0]),
  (6, [.index 260, .int 0]),
  (20, [.int 0, .int 0, .int 0, .int 0, .int 0, .int 0, .int 0, .int 0, .int 0, .int 0, .int 0, .int 0]),
  (6, [.index 262, .int 0]),
  (20, [.int 0, .int 0, .int 0, .int 0, .int 0, .int 0, .int 0, .int 0, .int 0, .int 0, .int 0, .int 0]),
  (6, [.index 264, .int 0]),
  (20, [.int 0, .int 0, .int 0, .int 0, .int 0, .int 0, .int 0, .int 0, .int 0, .int 0, .int 0, .int 0]),
  (6, [.index 266, .int 0]),
  (20, [.int 0, .int 0, .int 0, .int 0, .int 0, .int 0, .int 0, .int 0, .int 0, .int 0, .int 0, .int 0]),
  (6, [.index 268, .int 0]),
  (20, [.int 0, .int 0, .int 0, .int 0, .int 0, .int 0, .int 0, .int 0, .int 0, .int 0, .int 0, .int 0]),
  (6, [.index 270, .int 0]),
  (20, [.int 0, .int 0, .int 0, .int 0, .int 0, .int 0, .int 0, .int 0, .int 0, .int 0, .int 0, .int 0]),
  (6, [.index 272, .int 0]),
  (20, [.int 0, .int 0, .int 0, .int 0, .int 0, .int 0, .int 0, .int 0, .int 0, .int 0, .int 0, .int 0]),
  (6, [.index 274, .int 0]),
  (20, [.int 0, .int 0, .int 0, .int 0, .int 0, .int 0, .int 0, .int 0, .int 0, .int 0, .int 0, .int 0]),
  (6, [.index 276, .int 0]),
  (20, [.int 0, .int 0, .int 0, .int 0, .int 0, .int 0, .int 0, .int 0, .int 0, .int 0, .int 0, .int 0]),
  (6, [.index 278, .int 0]),
  (20, [.int 0, .int 0, .int 0, .int 0, .int 0, .int 0, .int 0, .int 0, .int 0, .int 0, .int 0, .int 0]),
  (6, [.index 280, .int 0]),
  (20, [.int 0, .int 0, .int 0, .int 0, .int 0, .int 0, .int 0, .int 0, .int 0, .int 0, .int 0, .int 0]),
  (6, [.index 282, .int 0]),
  (20, [.int 0, .int 0, .int 0, .int 0, .int 0, .int 0, .int 0, .int 0, .int 0, .int 0, .int 0, .int 0]),
  (6, [.index 284, .int 0]),
  (20, [.int 0, .int 0, .int 0, .int 0, .int 0, .int 0, .int 0, .int 0, .int 0, .int 0, .int 0, .int 0]),
  (6, [.index 286, .int 0]),
  (20, [.int 0, .int 0, .int 0, .int 0, .int 0, .int 0, .int 0, .int 0, .int 0, .int 0, .int 0, .int 0]),
  (6, [.index 288, .int 0]),
  (20, [.int 0, .int 0, .int 0, .int 0, .int 0, .int 0, .int 0, .int 0, .int 0, .int 0, .int 0, .int 0]),
  (6, [.index 290, .int 0]),
  (20, [.int 0, .int 0, .int 0, .int 0, .int 0, .int 0, .int 0, .int 0, .int 0, .int 0, .int 0, .int 0]),
  (6, [.index 292, .int 0]),
  (20, [.int 0, .int 0, .int 0, .int 0, .int 0, .int 0, .int 0, .int 0, .int 0, .int 0, .int 0, .int 0]),
  (6, [.index 294, .int 0]),
  (20, [.int 0, .int 0, .int 0, .int 0, .int 0, .int 0, .int 0, .int 0, .int 0, .int 0, .int 0, .int 0]),
  (6, [.index 296, .int 0]),
  (20, [.int 0, .int 0, .int 0, .int 0, .int 0, .int 0, .int 0, .int 0, .int 0, .int 0, .int 0, .int 0]),
  (6, [.index 298, .int 0]),
  (20, [.int 0, .int 0, .int 0, .int 0, .int 0, .int 0, .int 0, .int 0, .int 0, .int 0, .int 0, .int 0]),
  (6, [.index 300, .int 0]),
  (20, [.int 0, .int 0, .int 0, .int 0, .int 0, .int 0, .int 0, .int 0, .int 0, .int 0, .int 0, .int 0]),
  (6, [.index 302, .int 0]),
  (20, [.int 0, .int 0, .int 0, .int 0, .int 0, .int 0, .int 0, .int 0, .int 0, .int 0, .int 0, .int 0]),
  (6, [.index 304, .int 0]),
  (20, [.int 0, .int 0, .int 0, .int 0, .int 0, .int 0, .int 0, .int 0, .int 0, .int 0, .int 0, .int 0]),
  (0, [.index 306, .index 308, .int 0, .int 0, .int (-1), .int (-1), .int 0, .int 0]),
  (6, [.index 307, .int 0]),
  (20, [.int 0, .int 0, .int 0, .int 0, .int 0, .int 0, .int 0, .int 0, .int 0, .int 0, .int 0, .int 0]),
  (6, [.index 309, .int 0]),
  (20, [.int 0, .int 0, .int 0, .int 0, .int 0, .int 0, .int 0, .int 0, .int 0, .int 0, .int 0, .int 0]),
  (8, [.index 311, .int 0, .int 0, .int 0, .int 0]),
  (6, [.index 312, .int 0]),
  (20, [.int 0, .int 0, .int 0, .int 0, .int 0, .int 0, .int 0, .int 0, .int 0, .int 0, .int 0, .int 0, .int 0, .int 0, .int 0, .int 0, .int 0, .int 0, .int 0, .int 0, .int 0, .int 0, .int 0, .int 0, .int 0, .int 0, .int 0, .int 0, .int 0, .int 0]),
  (24, [.index 324, .index 326, .index 328, .index 330]),
  (6, [.index 315, .int 0]),
  (20, [.int 0, .int 0, .int 0, .int 0]),
  (6, [.index 317, .int 0]),
  (20, [.int 0, .int 0, .int 0, .int 0]),
  (6, [.index 319, .int 0]),
  (20, [.int 0, .int 0, .int 0, .int 0, .int 0, .int 0, .int 0, .int 0, .int 0, .int 0, .int 0, .int 0]),
  (6, [.index 321, .int 0]),
  (20, [.int 0, .int 0, .int 0, .int 0, .int 0, .int 0, .int 0, .int 0, .int 0, .int 0, .int 0, .int 0]),
  (21, [.index 332, .index 334, .index 336]),
  (20, [.int 0, .int 0, .int 0, .int 0, .int 0, .int 0, .int 0]),
  (7, [.index 325, .int 0, .int 0]),
  (20, [.int 0, .int 0, .int 0, .int 0, .int 0, .int 0, .int 0, .int 0, .int 0, .int 0, .int 0, .int 0, .int 0, .int 0, .int 0, .int 0, .int 0, .int 0, .int 0, .int 0, .int 0, .int 0, .int 0, .int 0]),
  (7, [.index 327, .int 0, .int 0]),
  (20, [.int 0, .int 0, .int 0, .int 0, .int 0, .int 0, .int 0, .int 0, .int 0, .int 0, .int 0, .int 0, .int 0, .int 0, .int 0, .int 0, .int 0, .int 0, .int 0, .int 0, .int 0, .int 0, .int 0, .int 0]),
  (7, [.index 329, .int 0, .int 0]),
  (20, [.int 0, .int 0, .int 0, .int 0, .int 0, .int 0, .int 0, .int 0, .int 0, .int 0, .int 0, .int 0, .int 0, .int 0, .int 0, .int 0, .int 0, .int 0, .int 0, .int 0, .int 0, .int 0, .int 0, .int 0]),
  (7, [.index 331, .int 0, .int 0]),
  (20, [.int 0, .int 0, .int 0, .int 0, .int 0, .int 0, .int 0, .int 0, .int 0, .int 0, .int 0, .int 0, .int 0, .int 0, .int 0, .int 0, .int 0, .int 0, .int 0, .int 0, .int 0, .int 0, .int 0, .int 0]),
  (6, [.index 333, .int 0]),
  (20, [.int 0, .int 0, .int 0, .int 0, .int 0, .int 0, .int 0, .int 0, .int 0, .int 0, .int 0, .int 0]),
  (6, [.index 335, .int 0]),
  (20, [.int 0, .int 0, .int 0, .int 0, .int 0, .int 0, .int 0, .int 0, .int 0, .int 0, .int 0, .int 0]),
  (6, [.index 337, .int 0]),
  (20, [.int 0, .int 0, .int 0, .int 0, .int 0, .int 0, .int 0, .int 0, .int 0, .int 0, .int 0, .int 0]),
  (12, [.index 339, .index 340, .int 0, .index 341, .index 342, .index 343, .index 344, .int 0, .int 0, .int 0, .int 0, .index 345, .index 346, .index 347, .index 348, .int 0, .int 0, .int 0, .index 349, .int 0, .int 0, .int 0, .index 350, .index 351, .index 352, .index 353]),
  (20, (List.replicate 768 (.int 0)).set 8 (.int 1)),
  (20, List.replicate 768 (.int 0)),
  (20, [.int 0, .int 0, .int 0, .int 0, .int 0, .int 0, .int 0]),
  (20, [.int 0, .int 0, .int 0, .int 0, .int 0, .int 0, .int 0, .int 0, .int 0, .int 0, .int 0, .int 0, .int 0]),
  (20, [.int 0, .int 0, .int 0, .int 0, .int 0, .int 0, .int 0, .int 0, .int 0, .int 0, .int 0, .int 0, .int 0]),
  (20, [.int 0, .int 0, .int 0, .int 0, .int 0, .int 0, .int 0, .int 0, .int 0, .int 0, .int 0, .int 0, .int 0]),
  (20, List.replicate 124 (.int 0)),
  (20, List.replicate 128 (.int 0)),
  (20, List.replicate 64 (.int 0)),
  (20, List.replicate 1040 (.int 0)),
  (20, [.int 0, .int 0, .int 0, .int 0, .int 0, .int 0, .int 0, .int 0, .int 0, .int 0, .int 0, .int 0, .int 0, .int 0, .int 0, .int 0, .int 0, .int 0, .int 0, .int 0, .int 0, .int 0, .int 0, .int 0, .int 0, .int 0, .int 0, .int 0, .int 0, .int 0]),
  (20, [.int 0, .int 0, .int 0, .int 0]),
  (20, [.int 0, .int 0, .int 0, .int 0]),
  (20, List.replicate 96 (.int 0)),
  (20, [.int 0, .int 0, .int 0, .int 0, .int 0, .int 0, .int 0, .int 0, .int 0, .int 0, .int 0, .int 0, .int 0, .int 0, .int 0, .int 0, .int 0, .int 0, .int 0, .int 0, .int 0, .int 0, .int 0, .int 0])]
def xlo0 : xL := [(3, .int 0), (2, .index 338), (1, .index 0), (0, .arg 100)]
theorem xpre : xeZ (xgo 10 8000 20 xlaw 0 [(0, .arg 100)] [] [] []) 18 xlo0 xh0 = true := by decide +kernel
