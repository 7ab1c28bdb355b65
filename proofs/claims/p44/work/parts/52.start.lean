-- ===== what is alike
def xeT (a_ b_ : Jvm.Term) : Bool := match a_ with
  | .index i_ => match b_ with
    | .index j_ => Nat.beq i_ j_
    | _ => false
  | .null => match b_ with
    | .null => true
    | _ => false
  | a_ => xq a_ b_
theorem xeT_eq {a_ b_ : Jvm.Term} (h : xeT a_ b_ = true) : a_ = b_ := by
  unfold xeT at h
  split at h
  · split at h
    · rw [Nat.eq_of_beq_eq_true h]
    · cases h
  · split at h
    · rfl
    · cases h
  · exact xq_eq _ _ h
def xeL (l l' : List Jvm.Term) : Bool := match l with
  | [] => match l' with
    | [] => true
    | _ => false
  | a_ :: t_ => match l' with
    | [] => false
    | b_ :: t' => xeT a_ b_ && xeL t_ t'
theorem xeL_eq : ∀ {l l' : List Jvm.Term}, xeL l l' = true → l = l' := by
  intro l
  induction l with
  | nil => intro l' h; cases l' with
    | nil => rfl
    | cons b_ t' => cases h
  | cons a_ t_ ih_ => intro l' h; cases l' with
    | nil => cases h
    | cons b_ t' =>
      simp only [xeL, Bool.and_eq_true] at h
      rw [xeT_eq h.1, ih_ h.2]
def xeH (l l' : xH) : Bool := match l with
  | [] => match l' with
    | [] => true
    | _ => false
  | a_ :: t_ => match l' with
    | [] => false
    | b_ :: t' => (Nat.beq a_.1 b_.1 && xeL a_.2 b_.2) && xeH t_ t'
theorem xeH_eq : ∀ {l l' : xH}, xeH l l' = true → l = l' := by
  intro l
  induction l with
  | nil => intro l' h; cases l' with
    | nil => rfl
    | cons b_ t' => cases h
  | cons a_ t_ ih_ => intro l' h; cases l' with
    | nil => cases h
    | cons b_ t' =>
      obtain ⟨a1_, a2⟩ := a_
      obtain ⟨b1, b2⟩ := b_
      simp only [xeH, Bool.and_eq_true] at h
      rw [Nat.eq_of_beq_eq_true h.1.1, xeL_eq h.1.2, ih_ h.2]
def xeO (l l' : xL) : Bool := match l with
  | [] => match l' with
    | [] => true
    | _ => false
  | a_ :: t_ => match l' with
    | [] => false
    | b_ :: t' => (Nat.beq a_.1 b_.1 && xeT a_.2 b_.2) && xeO t_ t'
theorem xeO_eq : ∀ {l l' : xL}, xeO l l' = true → l = l' := by
  intro l
  induction l with
  | nil => intro l' h; cases l' with
    | nil => rfl
    | cons b_ t' => cases h
  | cons a_ t_ ih_ => intro l' h; cases l' with
    | nil => cases h
    | cons b_ t' =>
      obtain ⟨a1_, a2⟩ := a_
      obtain ⟨b1, b2⟩ := b_
      simp only [xeO, Bool.and_eq_true] at h
      rw [Nat.eq_of_beq_eq_true h.1.1, xeT_eq h.1.2, ih_ h.2]
/-- a stretch ends just so, with no condition left -/
def xeZ (z_ : Option xZ) (pc : Nat) (lo : xL) (h : xH) : Bool := match z_ with
  | none => false
  | some q_ => Nat.beq q_.1 pc && (xeO q_.2.1 lo && (xeL q_.2.2.1 [] && (xeH q_.2.2.2.1 h && (match q_.2.2.2.2 with
    | [] => true
    | _ => false))))
theorem xeZ_eq {z_ : Option xZ} {pc : Nat} {lo : xL} {h : xH} (q_ : xeZ z_ pc lo h = true) : z_ = some (pc, lo, [], h, []) := by
  cases z_ with
  | none => cases q_
  | some z_ =>
    obtain ⟨z1, z2, z3, z4, z5⟩ := z_
    simp only [xeZ, Bool.and_eq_true] at q_
    obtain ⟨q1_, q2_, q3_, q4_, q5_⟩ := q_
    cases z5 with
    | cons a_ t_ => cases q5_
    | nil => rw [Nat.eq_of_beq_eq_true q1_, xeO_eq q2_, xeL_eq q3_, xeH_eq q4_]
/-- the world behind the two constructors -/
def xh0 : xH := [(11, [.index 1, .index 74, .index 147, .index 152, .index 155, .index 305, .index 310, .index 313, .index 314, .index 316, .index 318, .index 320, .index 322, .index 323, .int 0]),
  (10, [.index 2, .index 3, .index 4, .index 5, .index 7, .index 9, .index 11, .index 13, .index 15, .int 0, .int 0, .int 0, .int 0, .int 1, .index 33]),
  (21, [.index 34, .index 36, .index 38, .index 40, .index 42, .index 44, .index 46, .index 48, .index 50, .index 52, .index 54, .index 56]),
  (22, [.index 58, .index 59, .index 60, .index 61, .index 62, .index 63, .index 64, .index 65]),
  (23, [.index 66, .index 70]),
  (6, [.index 6, .int 0]),
  (20, List.replicate 60 (.int 0)),
  (6, [.index 8, .int 0]),
  (20, [.int 0, .int 0, .int 0, .int 0, .int 0, .int 0, .int 0, .int 0, .int 0, .int 0, .int 0, .int 0, .int 0, .int 0, .int 0, .int 0, .int 0, .int 0, .int 0, .int 0, .int 0, .int 0, .int 0, .int 0]),
  (6, [.index 10, .int 0]),
  (20, [.int 0, .int 0, .int 0, .int 0, .int 0, .int 0, .int 0, .int 0, .int 0, .int 0]),
  (6, [.index 12, .int 0]),
  (20, [.int 0, .int 0, .int 0, .int 0, .int 0, .int 0, .int 0, .int 0, .int 0, .int 0]),
  (6, [.index 14, .int 0]),
  (20, [.int 0, .int 0, .int 0, .int 0, .int 0, .int 0, .int 0, .int 0, .int 0, .int 0]),
  (2, [.index 16, .int 0, .int 0]),
  (21, [.index 17, .index 19, .index 21, .index 23, .index 25, .index 27, .index 29, .index 31]),
  (6, [.index 18, .int 0]),
  (20, [.int 0, .int 0, .int 0, .int 0, .int 0, .int 0, .int 0, .int 0, .int 0, .int 0, .int 0, .int 0]),
  (6, [.index 20, .int 0]),
  (20, [.int 0, .int 0, .int 0, .int 0, .int 0, .int 0, .int 0, .int 0, .int 0, .int 0, .int 0, .int 0]),
  (6, [.index 22, .int 0]),
  (20, [.int 0, .int 0, .int 0, .int 0, .int 0, .int 0, .int 0, .int 0, .int 0, .int 0, .int 0, .int 0]),
  (6, [.index 24, .int 0]),
  (20, [.int 0, .int 0, .int 0, .int 0, .int 0, .int 0, .int 0, .int 0, .int 0, .int 0, .int 0, .int 0]),
  (6, [.index 26, .int 0]),
  (20, [.int 0, .int 0, .int 0, .int 0, .int 0, .int 0, .int 0, .int 0, .int 0, .int 0, .int 0, .int 0]),
  (6, [.index 28, .int 0]),
  (20, [.int 0, .int 0, .int 0, .int 0, .int 0, .int 0, .int 0, .int 0, .int 0, .int 0, .int 0, .int 0]),
  (6, [.index 30, .int 0]),
  (20, [.int 0, .int 0, .int 0, .int 0, .int 0, .int 0, .int 0, .int 0, .int 0, .int 0, .int 0, .int 0]),
  (6, [.index 32, .int 0]),
  (20, [.int 0, .int 0, .int 0, .int 0, .int 0, .int 0, .int 0, .int 0, .int 0, .int 0, .int 0, .int 0]),
  (20, [.int 0, .int 0, .int 0, .int 0]),
  (6, [.index 35, .int 0]),
  (20, [.int 0, .int 0, .int 0, .int 0, .int 0, .int 0, .int 0, .int 0, .int 0, .int 0, .int 0, .int 0]),
  (6, [.index 37, .int 0]),
  (20, [.int 0, .int 0, .int 0, .int 0, .int 0, .int 0, .int 0, .int 0, .int 0, .int 0, .int 0, .int 0]),
  (6, [.index 39, .int 0]),
  (20, [.int 0, .int 0, .int 0, .int 0, .int 0, .int 0, .int 0, .int 0, .int 0, .int 0, .int 0, .int 0]),
  (6, [.index 41, .int 0]),
  (20, [.int 0, .int 0, .int 0, .int 0, .int 0, .int 0, .int 0, .int 0, .int 0, .int 0, .int 0, .int 0]),
  (6, [.index 43, .int 0]),
  (20, [.int 0, .int 0, .int 0, .int 0, .int 0, .int 0, .int 0, .int 0, .int 0, .int 0, .int 0, .int 0]),
  (6, [.index 45, .int 0]),
  (20, [.int 0, .int 0, .int 0, .int 0, .int 0, .int 0, .int 0, .int 0, .int 0, .int 0, .int 0, .int 0]),
  (6, [.index 47, .int 0]),
  (20, [.int 0, .int 0, .int 0, .int 0, .int 0, .int 0, .int 0, .int 0, .int 0, .int 0, .int 0, .int 0]),
  (6, [.index 49, .int 0]),
  (20, [.int 0, .int 0, .int 0, .int 0, .int 0, .int 0, .int 0, .int 0, .int 0, .int 0, .int 0, .int 0]),
  (6, [.index 51, .int 0]),
  (20, [.int 0, .int 0, .int 0, .int 0, .int 0, .int 0, .int 0, .int 0, .int 0, .int 0, .int 0, .int 0]),
  (6, [.index 53, .int 0]),
  (20, [.int 0, .int 0, .int 0, .int 0, .int 0, .int 0, .int 0, .int 0, .int 0, .int 0, .int 0, .int 0]),
  (6, [.index 55, .int 0]),
  (20, [.int 0, .int 0, .int 0, .int 0, .int 0, .int 0, .int 0, .int 0, .int 0, .int 0, .int 0, .int 0]),
  (6, [.index 57, .int 0]),
  (20, [.int 0, .int 0, .int 0, .int 0, .int 0, .int 0, .int 0, .int 0, .int 0, .int 0, .int 0, .int 0]),
  (5, [.int 0, .int 0, .int 0]),
  (5, [.int 0, .int 0, .int 0]),
  (5, [.int 0, .int 0, .int 0]),
  (5, [.int 0, .int 0, .int 0]),
  (5, [.int 0, .int 0, .int 0]),
  (5, [.int 0, .int 0, .int 0]),
  (5, [.int 0, .int 0, .int 0]),
  (5, [.int 0, .int 0, .int 0]),
  (9, [.index 67, .index 69]),
  (6, [.index 68, .int 0]),
  (20, List.replicate 60 (.int 0)),
  (20, List.replicate 60 (.int 0)),
  (9, [.index 71, .index 73]),
  (6, [.index 72, .int 0]),
  (20, List.replicate 60 (.int 0)),
  (20, List.replicate 60 (.int 0)),
  (10, [.index 75, .index 76, .index 77, .index 78, .index 80, .index 82, .index 84, .index 86, .index 88, .int 0, .int 0, .int 0, .int 0, .int 1, .index 106]),
  (21, [.index 107, .index 109, .index 111, .index 113, .index 115, .index 117, .index 119, .index 121, .index 123, .index 125, .index 127, .index 129]),
  (22, [.index 131, .index 132, .index 133, .index 134, .index 135, .index 136, .index 137, .index 138]),
  (23, [.index 139, .index 143]),
  (6, [.index 79, .int 0]),
  (20, List.replicate 60 (.int 0)),
  (6, [.index 81, .int 0]),
  (20, [.int 0, .int 0, .int 0, .int 0, .int 0, .int 0, .int 0, .int 0, .int 0, .int 0, .int 0, .int 0, .int 0, .int 0, .int 0, .int 0, .int 0, .int 0, .int 0, .int 0, .int 0, .int 0, .int 0, .int 0]),
  (6, [.index 83, .int 0]),
  (20, [.int 0, .int 0, .int 0, .int 0, .int 0, .int 0, .int 0, .int 0, .int 0, .int 0]),
  (6, [.index 85, .int 0]),
  (20, [.int 0, .int 0, .int 0, .int 0, .int 0, .int 0, .int 0, .int 0, .int 0, .int 0]),
  (6, [.index 87, .int 0]),
  (20, [.int 0, .int 0, .int 0, .int 0, .int 0, .int 0, .int 0, .int 0, .int 0, .int 0]),
  (2, [.index 89, .int 0, .int 0]),
  (21, [.index 90, .index 92, .index 94, .index 96, .index 98, .index 100, .index 102, .index 104]),
  (6, [.index 91, .int 0]),
  (20, [.int 0, .int 0, .int 0, .int 0, .int 0, .int 0, .int 0, .int 0, .int 0, .int 0, .int 0, .int 0]),
  (6, [.index 93, .int 0]),
  (20, [.int 0, .int 0, .int 0, .int 0, .int 0, .int 0, .int 0, .int 0, .int 0, .int 0, .int 0, .int 0]),
  (6, [.index 95, .int 0]),
  (20, [.int 0, .int 0, .int 0, .int 0, .int 0, .int 0, .int 0, .int 0, .int 0, .int 0, .int 0, .int 0]),
  (6, [.index 97, .int 0]),
  (20, [.int 0, .int 0, .int 0, .int 0, .int 0, .int 0, .int 0, .int 0, .int 0, .int 0, .int 0, .int 0]),
  (6, [.index 99, .int 0]),
  (20, [.int 0, .int 0, .int 0, .int 0, .int 0, .int 0, .int 0, .int 0, .int 0, .int 0, .int 0, .int 0]),
  (6, [.index 101, .int 0]),
  (20, [.int 0, .int 0, .int 0, .int 0, .int 0, .int 0, .int 0, .int 0, .int 0, .int 0, .int 0, .int 0]),
  (6, [.index 103, .int 0]),
  (20, [.int 0, .int 0, .int 0, .int 0, .int 0, .int 0, .int 0, .int 0, .int 0, .int 0, .int 0, .int 0]),
  (6, [.index 105, .int 0]),
  (20, [.int 0, .int 0, .int 0, .int 0, .int 0, .int 0, .int 0, .int 0, .int 0, .int 0, .int 0, .int 0]),
  (20, [.int 0, .int 0, .int 0, .int 0]),
  (6, [.index 108, .int 0]),
  (20, [.int 0, .int 0, .int 0, .int 0, .int 0, .int 0, .int 0, .int 0, .int 0, .int 0, .int 0, .int 0]),
  (6, [.index 110, .int 0]),
  (20, [.int 0, .int 0, .int 0, .int 0, .int 0, .int 0, .int 0, .int 0, .int 0, .int 0, .int 0, .int 0]),
  (6, [.index 112, .int 0]),
  (20, [.int 0, .int 0, .int 0, .int 0, .int 0, .int 0, .int 0, .int 0, .int 0, .int 0, .int 0, .int 0]),
  (6, [.index 114, .int 0]),
  (20, [.int 0, .int 0, .int 0, .int 0, .int 0, .int 0, .int 0, .int 0, .int 0, .int 0, .int 0, .int 0]),
  (6, [.index 116, .int 0]),
  (20, [.int 0, .int 0, .int 0, .int 0, .int 0, .int 0, .int 0, .int 0, .int 0, .int 0, .int 0, .int 0]),
  (6, [.index 118, .int 0]),
  (20, [.int 0, .int 0, .int 0, .int 0, .int 0, .int 0, .int 0, .int 0, .int 0, .int 0, .int 0, .int 0]),
  (6, [.index 120, .int 0]),
  (20, [.int 0, .int 0, .int 0, .int 0, .int 0, .int 0, .int 0, .int 0, .int 0, .int 0, .int 0, .int 0]),
  (6, [.index 122, .int 0]),
  (20, [.int 0, .int 0, .int 0, .int 0, .int 0, .int 0, .int 0, .int 0, .int 0, .int 0, .int 0, .int 0]),
  (6, [.index 124, .int 0]),
  (20, [.int 0, .int 0, .int 0, .int 0, .int 0, .int 0, .int 0, .int 0, .int 0, .int 0, .int 0, .int 0]),
  (6, [.index 126, .int 0]),
  (20, [.int 0, .int 0, .int 0, .int 0, .int 0, .int 0, .int 0, .int 0, .int 0, .int 0, .int 0, .int 0]),
  (6, [.index 128, .int 0]),
  (20, [.int 0, .int 0, .int 0, .int 0, .int 0, .int 0, .int 0, .int 0, .int 0, .int 0, .int 0, .int 0]),
  (6, [.index 130, .int 0]),
  (20, [.int 0, .int 0, .int 0, .int 0, .int 0, .int 0, .int 0, .int 0, .int 0, .int 0, .int 0, .int 0]),
  (5, [.int 0, .int 0, .int 0]),
  (5, [.int 0, .int 0, .int 0]),
  (5, [.int 0, .int 0, .int 0]),
  (5, [.int 0, .int 0, .int 0]),
  (5, [.int 0, .int 0, .int 0]),
  (5, [.int 0, .int 0, .int 0]),
  (5, [.int 0, .int 0, .int 0]),
  (5, [.int 0, .int 0, .int 0]),
  (9, [.index 140, .index 142]),
  (6, [.index 141, .int 0]),
  (20, List.replicate 60 (.int 0)),
  (20, List.replicate 60 (.int 0)),
  (9, [.index 144, .index 146]),
  (6, [.index 145, .int 0]),
  (20, List.replicate 60 (.int 0)),
  (20, List.replicate 60 (.int 0)),
  (4, [.index 148, .index 150, .arg 101, .int 0]),
  (6, [.index 149, .int 0]),
  (20, List.replicate 60 (.int 0)),
  (6, [.index 151, .int 0]),
  (20, []),
  (1, [.index 153, .int 0, .int 0]),
  (6, [.index 154, .int 0]),
  (20, [.int 0, .int 0, .int 0, .int 0, .int 0, .int 0, .int 0, .int 0, .int 0, .int 0, .int 0, .int 0]),
  (3, [.index 156, .index 157, .int 0]),
  (21, [.index 159, .index 161, .index 163, .index 165, .index 167, .index 169, .index 171, .index 173, .index 175, .index 177, .index 179, .index 181, .index 183, .index 185, .index 187, .index 189, .index 191, .index 193, .index 195, .index 197, .index 199, .index 201, .index 203, .index 205, .index 207, .index 209, .index 211, .index 213, .index 215, .index 217, .index 219, .index 221, .index 223, .index 225, .index 227, .index 229, .index 231, .index 233, .index 235, .index 237, .index 239, .index 241, .index 243, .index 245, .index 247, .index 249, .index 251, .index 253, .index 255, .index 257, .index 259, .index 261, .index 263, .index 265, .index 267, .index 269, .index 271, .index 273, .index 275, .index 277, .index 279, .index 281, .index 283, .index 285, .index 287, .index 289, .index 291, .index 293, .index 295, .index 297, .index 299, .index 301, .index 303]),
  (6, [.index 158, .int 0]),
  (20, [.int 0, .int 0, .int 0, .int 0, .int 0, .int 0, .int 0, .int 0, .int 0, .int 0, .int 0, .int 0]),
  (6, [.index 160, .int 0]),
  (20, [.int 0, .int 0, .int 0, .int 0, .int 0, .int 0, .int 0, .int 0, .int 0, .int 0, .int 0, .int 0]),
  (6, [.index 162, .int 0]),
  (20, [.int 0, .int 0, .int 0, .int 0, .int 0, .int 0, .int 0, .int 0, .int 0, .int 0, .int 0, .int 0]),
  (6, [.index 164, .int 0]),
  (20, [.int 0, .int 0, .int 0, .int 0, .int 0, .int 0, .int 0, .int 0, .int 0, .int 0, .int 0, .int 0]),
  (6, [.index 166, .int 0]),
  (20, [.int 0, .int 0, .int 0, .int 0, .int 0, .int 0, .int 0, .int 0, .int 0, .int 0, .int 0, .int 0]),
  (6, [.index 168, .int 0]),
  (20, [.int 0, .int 0, .int 0, .int 0, .int 0, .int 0, .int 0, .int 0, .int 0, .int 0, .int 0, .int 0]),
  (6, [.index 170, .int 0]),
  (20, [.int 0, .int 0, .int 0, .int 0, .int 0, .int 0, .int 0, .int 0, .int 0, .int 0, .int 0, .int 0]),
  (6, [.index 172, .int 0]),
  (20, [.int 0, .int 0, .int 0, .int 0, .int 0, .int 0, .int 0, .int 0, .int 0, .int 0, .int 0, .int 0]),
  (6, [.index 174, .int 0]),
  (20, [.int 0, .int 0, .int 0, .int 0, .int 0, .int 0, .int 0, .int 0, .int 0, .int 0, .int 0, .int 0]),
  (6, [.index 176, .int 0]),
  (20, [.int 0, .int 0, .int 0, .int 0, .int 0, .int 0, .int 0, .int 0, .int 0, .int 0, .int 0, .int 0]),
  (6, [.index 178, .int 0]),
  (20, [.int 0, .int 0, .int 0, .int 0, .int 0, .int 0, .int 0, .int 0, .int 0, .int 0, .int 0, .int 0]),
  (6, [.index 180, .int 0]),
  (20, [.int 0, .int 0, .int 0, .int 0, .int 0, .int 0, .int 0, .int 0, .int 0, .int 0, .int 0, .int 0]),
  (6, [.index 182, .int 0]),
  (20, [.int 0, .int 0, .int 0, .int 0, .int 0, .int 0, .int 0, .int 0, .int 0, .int 0, .int 0, .int 0]),
  (6, [.index 184, .int 0]),
  (20, [.int 0, .int 0, .int 0, .int 0, .int 0, .int 0, .int 0, .int 0, .int 0, .int 0, .int 0, .int 0]),
  (6, [.index 186, .int 0]),
  (20, [.int 0, .int 0, .int 0, .int 0, .int 0, .int 0, .int 0, .int 0, .int 0, .int 0, .int 0, .int 0]),
  (6, [.index 188, .int 0]),
  (20, [.int 0, .int 0, .int 0, .int 0, .int 0, .int 0, .int 0, .int 0, .int 0, .int 0, .int 0, .int 0]),
  (6, [.index 190, .int 0]),
  (20, [.int 0, .int 0, .int 0, .int 0, .int 0, .int 0, .int 0, .int 0, .int 0, .int 0, .int 0, .int 0]),
  (6, [.index 192, .int 0]),
  (20, [.int 0, .int 0, .int 0, .int 0, .int 0, .int 0, .int 0, .int 0, .int 0, .int 0, .int 0, .int 0]),
  (6, [.index 194, .int 0]),
  (20, [.int 0, .int 0, .int 0, .int 0, .int 0, .int 0, .int 0, .int 0, .int 0, .int 0, .int 0, .int 0]),
  (6, [.index 196, .int 0]),
  (20, [.int 0, .int 0, .int 0, .int 0, .int 0, .int 0, .int 0, .int 0, .int 0, .int 0, .int 0, .int 0]),
  (6, [.index 198, .int 0]),
  (20, [.int 0, .int 0, .int 0, .int 0, .int 0, .int 0, .int 0, .int 0, .int 0, .int 0, .int 0, .int 0]),
  (6, [.index 200, .int 0]),
  (20, [.int 0, .int 0, .int 0, .int 0, .int 0, .int 0, .int 0, .int 0, .int 0, .int 0, .int 0, .int 0]),
  (6, [.index 202, .int 0]),
  (20, [.int 0, .int 0, .int 0, .int 0, .int 0, .int 0, .int 0, .int 0, .int 0, .int 0, .int 0, .int 0]),
  (6, [.index 204, .int 0]),
  (20, [.int 0, .int 0, .int 0, .int 0, .int 0, .int 0, .int 0, .int 0, .int 0, .int 0, .int 0, .int 0]),
  (6, [.index 206, .int 0]),
  (20, [.int 0, .int 0, .int 0, .int 0, .int 0, .int 0, .int 0, .int 0, .int 0, .int 0, .int 0, .int 0]),
  (6, [.index 208, .int 0]),
  (20, [.int 0, .int 0, .int 0, .int 0, .int 0, .int 0, .int 0, .int 0, .int 0, .int 0, .int 0, .int 0]),
  (6, [.index 210, .int 0]),
  (20, [.int 0, .int 0, .int 0, .int 0, .int 0, .int 0, .int 0, .int 0, .int 0, .int 0, .int 0, .int 0]),
  (6, [.index 212, .int 0]),
  (20, [.int 0, .int 0, .int 0, .int 0, .int 0, .int 0, .int 0, .int 0, .int 0, .int 0, .int 0, .int 0]),
  (6, [.index 214, .int 0]),
  (20, [.int 0, .int 0, .int 0, .int 0, .int 0, .int 0, .int 0, .int 0, .int 0, .int 0, .int 0, .int 0]),
  (6, [.index 216, .int 0]),
  (20, [.int 0, .int 0, .int 0, .int 0, .int 0, .int 0, .int 0, .int 0, .int 0, .int 0, .int 0, .int 0]),
  (6, [.index 218, .int 0]),
  (20, [.int 0, .int 0, .int 0, .int 0, .int 0, .int 0, .int 0, .int 0, .int 0, .int 0, .int 0, .int 0]),
  (6, [.index 220, .int 0]),
  (20, [.int 0, .int 0, .int 0, .int 0, .int 0, .int 0, .int 0, .int 0, .int 0, .int 0, .int 0, .int 0]),
  (6, [.index 222, .int 0]),
  (20, [.int 0, .int 0, .int 0, .int 0, .int 0, .int 0, .int 0, .int 0, .int 0, .int 0, .int 0, .int 0]),
  (6, [.index 224, .int 0]),
  (20, [.int 0, .int 0, .int 0, .int 0, .int 0, .int 0, .int 0, .int 0, .int 0, .int 0, .int 0, .int 0]),
  (6, [.index 226, .int 0]),
  (20, [.int 0, .int 0, .int 0, .int 0, .int 0, .int 0, .int 0, .int 0, .int 0, .int 0, .int 0, .int 0]),
  (6, [.index 228, .int 0]),
  (20, [.int 0, .int 0, .int 0, .int 0, .int 0, .int 0, .int 0, .int 0, .int 0, .int 0, .int 0, .int 0]),
  (6, [.index 230, .int 0]),
  (20, [.int 0, .int 0, .int 0, .int 0, .int 0, .int 0, .int 0, .int 0, .int 0, .int 0, .int 0, .int 0]),
  (6, [.index 232, .int 0]),
  (20, [.int 0, .int 0, .int 0, .int 0, .int 0, .int 0, .int 0, .int 0, .int 0, .int 0, .int 0, .int 0]),
  (6, [.index 234, .int 0]),
  (20, [.int 0, .int 0, .int 0, .int 0, .int 0, .int 0, .int 0, .int 0, .int 0, .int 0, .int 0, .int 0]),
  (6, [.index 236, .int 0]),
  (20, [.int 0, .int 0, .int 0, .int 0, .int 0, .int 0, .int 0, .int 0, .int 0, .int 0, .int 0, .int 0]),
  (6, [.index 238, .int 0]),
  (20, [.int 0, .int 0, .int 0, .int 0, .int 0, .int 0, .int 0, .int 0, .int 0, .int 0, .int 0, .int 0]),
  (6, [.index 240, .int 0]),
  (20, [.int 0, .int 0, .int 0, .int 0, .int 0, .int 0, .int 0, .int 0, .int 0, .int 0, .int 0, .int 0]),
  (6, [.index 242, .int 0]),
  (20, [.int 0, .int 0, .int 0, .int 0, .int 0, .int 0, .int 0, .int 0, .int 0, .int 0, .int 0, .int 0]),
  (6, [.index 244, .int 0]),
  (20, [.int 0, .int 0, .int 0, .int 0, .int 0, .int 0, .int 0, .int 0, .int 0, .int 0, .int 0, .int 0]),
  (6, [.index 246, .int 0]),
  (20, [.int 0, .int 0, .int 0, .int 0, .int 0, .int 0, .int 0, .int 0, .int 0, .int 0, .int 0, .int 0]),
  (6, [.index 248, .int 0]),
  (20, [.int 0, .int 0, .int 0, .int 0, .int 0, .int 0, .int 0, .int 0, .int 0, .int 0, .int 0, .int 0]),
  (6, [.index 250, .int 0]),
  (20, [.int 0, .int 0, .int 0, .int 0, .int 0, .int 0, .int 0, .int 0, .int 0, .int 0, .int 0, .int 0]),
  (6, [.index 252, .int 0]),
  (20, [.int 0, .int 0, .int 0, .int 0, .int 0, .int 0, .int 0, .int 0, .int 0, .int 0, .int 0, .int 0]),
  (6, [.index 254, .int 0]),
  (20, [.int 0, .int 0, .int 0, .int 0, .int 0, .int 0, .int 0, .int 0, .int 0, .int 0, .int 0, .int 0]),
  (6, [.index 256, .int 0]),
  (20, [.int 0, .int 0, .int 0, .int 0, .int 0, .int 0, .int 0, .int 0, .int 0, .int 0, .int 0, .int 0]),
  (6, [.index 258, .int 0]),
  (20, [.int 0, .int 0, .int 0, .int 0, .int 0, .int 0, .int 0, .int 0, .int 0, .int 0, .int 0, .int 0]),
  (6, [.index 260, .int 0]),
  (20, [.int 0, .int 0, .int 0, .int 0, .int 0, .int 0, .int 0, .int 0, .int 0, .int 0, .int 0, .int 0]),
  (6, [.index 262, .int 0]),
  (20, [.int 0, .int 0, .int 0, .int 0, .int 0, .int 0, .int 0, .int 0, .int 0, .int 0, .int 0, .int 0]),
  (6, [.index 264, .int 0]),
  (20, [.int 0, .int 0, .int 0, .int 0, .int 0, .int 0, .int 0, .int 0, .int 0, .int 0, .int 0, .int 0]),
  (6, [.index 266, .int 0]),
  (20, [.int 0, .int 0, .int 0, .int 0, .int 0, .int 0, .int 0, .int 0, .int 0, .int 0, .int 0, .int 0]),
  (6, [.index 268, .int 0]),
  (20, [.int 0, .int 0, .int 0, .int 0, .int 0, .int 0, .int 0, .int 0, .int 0, .int 0, .int 0, .int 0]),
  (6, [.index 270, .int 0]),
  (20, [.int 0, .int 0, .int 0, .int 0, .int 0, .int 0, .int 0, .int 0, .int 0, .int 0, .int 0, .int 0]),
  (6, [.index 272, .int 0]),
  (20, [.int 0, .int 0, .int 0, .int 0, .int 0, .int 0, .int 0, .int 0, .int 0, .int 0, .int 0, .int 0]),
  (6, [.index 274, .int 0]),
  (20, [.int 0, .int 0, .int 0, .int 0, .int 0, .int 0, .int 0, .int 0, .int 0, .int 0, .int 0, .int 0]),
  (6, [.index 276, .int 0]),
  (20, [.int 0, .int 0, .int 0, .int 0, .int 0, .int 0, .int 0, .int 0, .int 0, .int 0, .int 0, .int 0]),
  (6, [.index 278, .int 0]),
  (20, [.int 0, .int 0, .int 0, .int 0, .int 0, .int 0, .int 0, .int 0, .int 0, .int 0, .int 0, .int 0]),
  (6, [.index 280, .int 0]),
  (20, [.int 0, .int 0, .int 0, .int 0, .int 0, .int 0, .int 0, .int 0, .int 0, .int 0, .int 0, .int 0]),
  (6, [.index 282, .int 0]),
  (20, [.int 0, .int 0, .int 0, .int 0, .int 0, .int 0, .int 0, .int 0, .int 0, .int 0, .int 0, .int 0]),
  (6, [.index 284, .int 0]),
  (20, [.int 0, .int 0, .int 0, .int 0, .int 0, .int 0, .int 0, .int 0, .int 0, .int 0, .int 0, .int 0]),
  (6, [.index 286, .int 0]),
  (20, [.int 0, .int 0, .int 0, .int 0, .int 0, .int 0, .int 0, .int 0, .int 0, .int 0, .int 0, .int 0]),
  (6, [.index 288, .int 0]),
  (20, [.int 0, .int 0, .int 0, .int 0, .int 0, .int 0, .int 0, .int 0, .int 0, .int 0, .int 0, .int 0]),
  (6, [.index 290, .int 0]),
  (20, [.int 0, .int 0, .int 0, .int 0, .int 0, .int 0, .int 0, .int 0, .int 0, .int 0, .int 0, .int 0]),
  (6, [.index 292, .int 0]),
  (20, [.int 0, .int 0, .int 0, .int 0, .int 0, .int 0, .int 0, .int 0, .int 0, .int 0, .int 0, .int 0]),
  (6, [.index 294, .int 0]),
  (20, [.int 0, .int 0, .int 0, .int 0, .int 0, .int 0, .int 0, .int 0, .int 0, .int 0, .int 0, .int 0]),
  (6, [.index 296, .int 0]),
  (20, [.int 0, .int 0, .int 0, .int 0, .int 0, .int 0, .int 0, .int 0, .int 0, .int 0, .int 0, .int 0]),
  (6, [.index 298, .int 0]),
  (20, [.int 0, .int 0, .int 0, .int 0, .int 0, .int 0, .int 0, .int 0, .int 0, .int 0, .int 0, .int 0]),
  (6, [.index 300, .int 0]),
  (20, [.int 0, .int 0, .int 0, .int 0, .int 0, .int 0, .int 0, .int 0, .int 0, .int 0, .int 0, .int 0]),
  (6, [.index 302, .int 0]),
  (20, [.int 0, .int 0, .int 0, .int 0, .int 0, .int 0, .int 0, .int 0, .int 0, .int 0, .int 0, .int 0]),
  (6, [.index 304, .int 0]),
  (20, [.int 0, .int 0, .int 0, .int 0, .int 0, .int 0, .int 0, .int 0, .int 0, .int 0, .int 0, .int 0]),
  (0, [.index 306, .index 308, .int 0, .int 0, .int (-1), .int (-1), .int 0, .int 0]),
  (6, [.index 307, .int 0]),
  (20, [.int 0, .int 0, .int 0, .int 0, .int 0, .int 0, .int 0, .int 0, .int 0, .int 0, .int 0, .int 0]),
  (6, [.index 309, .int 0]),
  (20, [.int 0, .int 0, .int 0, .int 0, .int 0, .int 0, .int 0, .int 0, .int 0, .int 0, .int 0, .int 0]),
  (8, [.index 311, .int 0, .int 0, .int 0, .int 0]),
  (6, [.index 312, .int 0]),
  (20, [.int 0, .int 0, .int 0, .int 0, .int 0, .int 0, .int 0, .int 0, .int 0, .int 0, .int 0, .int 0, .int 0, .int 0, .int 0, .int 0, .int 0, .int 0, .int 0, .int 0, .int 0, .int 0, .int 0, .int 0, .int 0, .int 0, .int 0, .int 0, .int 0, .int 0]),
  (24, [.index 324, .index 326, .index 328, .index 330]),
  (6, [.index 315, .int 0]),
  (20, [.int 0, .int 0, .int 0, .int 0]),
  (6, [.index 317, .int 0]),
  (20, [.int 0, .int 0, .int 0, .int 0]),
  (6, [.index 319, .int 0]),
  (20, [.int 0, .int 0, .int 0, .int 0, .int 0, .int 0, .int 0, .int 0, .int 0, .int 0, .int 0, .int 0]),
  (6, [.index 321, .int 0]),
  (20, [.int 0, .int 0, .int 0, .int 0, .int 0, .int 0, .int 0, .int 0, .int 0, .int 0, .int 0, .int 0]),
  (21, [.index 332, .index 334, .index 336]),
  (20, [.int 0, .int 0, .int 0, .int 0, .int 0, .int 0, .int 0]),
  (7, [.index 325, .int 0, .int 0]),
  (20, [.int 0, .int 0, .int 0, .int 0, .int 0, .int 0, .int 0, .int 0, .int 0, .int 0, .int 0, .int 0, .int 0, .int 0, .int 0, .int 0, .int 0, .int 0, .int 0, .int 0, .int 0, .int 0, .int 0, .int 0]),
  (7, [.index 327, .int 0, .int 0]),
  (20, [.int 0, .int 0, .int 0, .int 0, .int 0, .int 0, .int 0, .int 0, .int 0, .int 0, .int 0, .int 0, .int 0, .int 0, .int 0, .int 0, .int 0, .int 0, .int 0, .int 0, .int 0, .int 0, .int 0, .int 0]),
  (7, [.index 329, .int 0, .int 0]),
  (20, [.int 0, .int 0, .int 0, .int 0, .int 0, .int 0, .int 0, .int 0, .int 0, .int 0, .int 0, .int 0, .int 0, .int 0, .int 0, .int 0, .int 0, .int 0, .int 0, .int 0, .int 0, .int 0, .int 0, .int 0]),
  (7, [.index 331, .int 0, .int 0]),
  (20, [.int 0, .int 0, .int 0, .int 0, .int 0, .int 0, .int 0, .int 0, .int 0, .int 0, .int 0, .int 0, .int 0, .int 0, .int 0, .int 0, .int 0, .int 0, .int 0, .int 0, .int 0, .int 0, .int 0, .int 0]),
  (6, [.index 333, .int 0]),
  (20, [.int 0, .int 0, .int 0, .int 0, .int 0, .int 0, .int 0, .int 0, .int 0, .int 0, .int 0, .int 0]),
  (6, [.index 335, .int 0]),
  (20, [.int 0, .int 0, .int 0, .int 0, .int 0, .int 0, .int 0, .int 0, .int 0, .int 0, .int 0, .int 0]),
  (6, [.index 337, .int 0]),
  (20, [.int 0, .int 0, .int 0, .int 0, .int 0, .int 0, .int 0, .int 0, .int 0, .int 0, .int 0, .int 0]),
  (12, [.index 339, .index 340, .int 0, .index 341, .index 342, .index 343, .index 344, .int 0, .int 0, .int 0, .int 0, .index 345, .index 346, .index 347, .index 348, .int 0, .int 0, .int 0, .index 349, .int 0, .int 0, .int 0, .index 350, .index 351, .index 352, .index 353]),
  (20, (List.replicate 768 (.int 0)).set 8 (.int 1)),
  (20, List.replicate 768 (.int 0)),
  (20, [.int 0, .int 0, .int 0, .int 0, .int 0, .int 0, .int 0]),
  (20, [.int 0, .int 0, .int 0, .int 0, .int 0, .int 0, .int 0, .int 0, .int 0, .int 0, .int 0, .int 0, .int 0]),
  (20, [.int 0, .int 0, .int 0, .int 0, .int 0, .int 0, .int 0, .int 0, .int 0, .int 0, .int 0, .int 0, .int 0]),
  (20, [.int 0, .int 0, .int 0, .int 0, .int 0, .int 0, .int 0, .int 0, .int 0, .int 0, .int 0, .int 0, .int 0]),
  (20, List.replicate 124 (.int 0)),
  (20, List.replicate 128 (.int 0)),
  (20, List.replicate 64 (.int 0)),
  (20, List.replicate 1040 (.int 0)),
  (20, [.int 0, .int 0, .int 0, .int 0, .int 0, .int 0, .int 0, .int 0, .int 0, .int 0, .int 0, .int 0, .int 0, .int 0, .int 0, .int 0, .int 0, .int 0, .int 0, .int 0, .int 0, .int 0, .int 0, .int 0, .int 0, .int 0, .int 0, .int 0, .int 0, .int 0]),
  (20, [.int 0, .int 0, .int 0, .int 0]),
  (20, [.int 0, .int 0, .int 0, .int 0]),
  (20, List.replicate 96 (.int 0)),
  (20, [.int 0, .int 0, .int 0, .int 0, .int 0, .int 0, .int 0, .int 0, .int 0, .int 0, .int 0, .int 0, .int 0, .int 0, .int 0, .int 0, .int 0, .int 0, .int 0, .int 0, .int 0, .int 0, .int 0, .int 0])]
def xlo0 : xL := [(3, .int 0), (2, .index 338), (1, .index 0), (0, .arg 100)]
theorem xpre : xeZ (xgo 10 8000 1000 xlaw 0 [(0, .arg 100)] [] [] []) 18 xlo0 xh0 = true := by decide +kernel
theorem lwS_0 : lwS 0 = xlo0 := by
  unfold lwS
  rw [nI_0]
  rfl
-- ===== it keeps what is known of the heap
def sOn (e : bN) (t_ : Jvm.Term) : Bool := match e with
  | .inl b_ => match t_ with
    | .int x_ => decide (b_.1 ≤ x_.toInt) && decide (x_.toInt ≤ b_.2)
    | _ => false
  | .inr l => l.any (fun u_ => xeT u_ t_) && (xF t_ && xidx 354 t_)
theorem sOn_ok {e : bN} {t_ : Jvm.Term} (h : sOn e t_ = true) : bnv e t_ := by
  unfold sOn at h
  split at h
  · split at h
    · rename_i b_ x_
      simp only [Bool.and_eq_true, decide_eq_true_eq] at h
      exact ⟨x_, rfl, h.1, h.2⟩
    · cases h
  · simp only [Bool.and_eq_true] at h
    obtain ⟨h1, h2, h3⟩ := h
    obtain ⟨u_, hu, hq⟩ := List.any_eq_true.mp h1
    rw [xeT_eq hq] at hu
    exact ⟨hu, h2, h3⟩
def sOl (i_ j_ : Nat) (l : List Jvm.Term) : Bool := match l with
  | [] => true
  | t_ :: u_ => (match bIj i_ j_ with
    | some e => sOn e t_
    | none => false) && sOl i_ (j_ + 1) u_
theorem sOl_ok {i_ : Nat} : ∀ {l : List Jvm.Term} {j_ : Nat}, sOl i_ j_ l = true → ∀ k_ t_, l[k_]? = some t_ → ∃ e, bIj i_ (j_ + k_) = some e ∧ bnv e t_ := by
  intro l
  induction l with
  | nil => intro j_ _ k_ t_ h; cases h
  | cons t_ u_ ih_ =>
    intro j_ h k_ t2_ hk
    simp only [sOl, Bool.and_eq_true] at h
    obtain ⟨h1, h2⟩ := h
    cases k_ with
    | zero =>
      have e : t_ = t2_ := Option.some.inj hk
      subst e
      cases hb_ : bIj i_ j_ with
      | none => rw [hb_] at h1; cases h1
      | some e =>
        rw [hb_] at h1
        exact ⟨e, rfl, sOn_ok h1⟩
    | succ k_ =>
      have w_ := ih_ h2 k_ t2_ hk
      rw [show j_ + 1 + k_ = j_ + (k_ + 1) by omega] at w_
      exact w_
def sOh (i_ : Nat) (Z : List (Nat × Nat)) (h : xH) : Bool := match Z with
  | [] => (match h with
    | [] => true
    | _ => false)
  | q_ :: Z' => match h with
    | [] => false
    | c_ :: h' => (Nat.beq c_.1 q_.1 && (Nat.beq c_.2.length q_.2 && sOl i_ 0 c_.2)) && sOh (i_ + 1) Z' h'
theorem sOh_ok : ∀ {Z : List (Nat × Nat)} {h : xH} {i_ : Nat}, sOh i_ Z h = true → h.length = Z.length ∧ ∀ k_ q_, Z[k_]? = some q_ → ∃ c_, h[k_]? = some c_ ∧ c_.1 = q_.1 ∧ c_.2.length = q_.2 ∧ ∀ j_ t_, c_.2[j_]? = some t_ → ∃ e, bIj (i_ + k_) j_ = some e ∧ bnv e t_ := by
  intro Z
  induction Z with
  | nil =>
    intro h i_ hs
    cases h with
    | nil => exact ⟨rfl, fun k_ q_ hk => by cases hk⟩
    | cons c_ h => cases hs
  | cons q_ Z ih_ =>
    intro h i_ hs
    cases h with
    | nil => cases hs
    | cons c_ h =>
      simp only [sOh, Bool.and_eq_true] at hs
      obtain ⟨⟨s1_, s2_, s3_⟩, s4_⟩ := hs
      obtain ⟨g1, g2⟩ := ih_ s4_
      refine ⟨by rw [List.length_cons, List.length_cons, g1], fun k_ q2_ hk => ?_⟩
      cases k_ with
      | zero =>
        have e : q_ = q2_ := Option.some.inj hk
        subst e
        refine ⟨c_, rfl, Nat.eq_of_beq_eq_true s1_, Nat.eq_of_beq_eq_true s2_, fun j_ t_ ht => ?_⟩
        have w_ := sOl_ok s3_ j_ t_ ht
        rw [Nat.zero_add] at w_
        exact w_
      | succ k_ =>
        obtain ⟨c2_, c3_, c4_, c5_, c6_⟩ := g2 k_ q2_ hk
        refine ⟨c2_, c3_, c4_, c5_, fun j_ t_ ht => ?_⟩
        have w_ := c6_ j_ t_ ht
        rw [show i_ + 1 + k_ = i_ + (k_ + 1) by omega] at w_
        exact w_
theorem xh0_s : sOh 0 bZ xh0 = true := by decide +kernel
theorem xh0_w : xhw xh0 := by
  show xh0.all (xokc xh0.length) = true
  decide +kernel
theorem xh0_inv : bInv bZ bIj xh0 := by
  obtain ⟨h1, h2⟩ := sOh_ok xh0_s
  refine ⟨⟨h1, fun i_ q_ hq => ?_⟩, xh0_w⟩
  obtain ⟨c_, c1_, c2_, c3_, c4_⟩ := h2 i_ q_ hq
  refine ⟨c_, c1_, c2_, c3_, fun j_ t_ ht => ?_⟩
  show ∃ e, bIj i_ j_ = some e ∧ bnv e t_
  have w_ := c4_ j_ t_ ht
  rw [Nat.zero_add] at w_
  exact w_
theorem xh0_t : (decide (tv xh0 339 434 = 0) && (decide (tv xh0 339 559 = 0) && (decide (tv xh0 340 434 = 0) && decide (tv xh0 340 559 = 0)))) = true := by decide +kernel
theorem ttx_0 {h : xH} {a_ b_ : Nat} (e : tv h a_ b_ = 0) : ttx h a_ b_ := by
  refine ⟨by rw [e]; decide, 0, ?_⟩
  rw [e]
  rfl
theorem xh0_X : bXm xh0 := by
  have k_ := xh0_t
  simp only [Bool.and_eq_true, decide_eq_true_eq] at k_
  exact ⟨⟨ttx_0 k_.1, ttx_0 k_.2.1⟩, ⟨ttx_0 k_.2.2.1, ttx_0 k_.2.2.2⟩⟩
-- ===== the state at the start
def stW (k_ : Nat) : List Int32 := if 40 ≤ k_ ∧ k_ < 44 then List.replicate 24 0 else []
def stV (k_ : Nat) : Int32 := if k_ = 4 ∨ k_ = 104 then 1 else 0
theorem W0_n {k_ : Nat} (h_ : ¬ (40 ≤ k_ ∧ k_ < 44)) : stW k_ = [] := if_neg h_
theorem W0_s {k_ : Nat} (h_ : 40 ≤ k_ ∧ k_ < 44) : stW k_ = List.replicate 24 0 := if_pos h_
theorem V0_n {k_ : Nat} (h_ : ¬ (k_ = 4 ∨ k_ = 104)) : stV k_ = 0 := if_neg h_
def hIs (h_ : xH) (a_ j_ : Nat) (t_ : Jvm.Term) : Bool := match bpat h_ a_ j_ with
  | some u_ => xeT u_ t_
  | none => false
theorem hIs_ok {h_ : xH} {a_ j_ : Nat} {t_ : Jvm.Term} (k_ : hIs h_ a_ j_ t_ = true) : bpat h_ a_ j_ = some t_ := by
  unfold hIs at k_
  split at k_
  · rename_i u_ e_
    rw [e_, xeT_eq k_]
  · cases k_
def hCq (h_ : xH) (a_ k_ l : Nat) : Bool := match h_[a_]? with
  | some c_ => Nat.beq c_.1 k_ && Nat.beq c_.2.length l
  | none => false
theorem hCq_ok {h_ : xH} {a_ k_ l : Nat} (q_ : hCq h_ a_ k_ l = true) : bcq h_ a_ k_ l := by
  unfold hCq at q_
  split at q_
  · rename_i c_ e_
    rw [Bool.and_eq_true] at q_
    exact ⟨c_, e_, Nat.eq_of_beq_eq_true q_.1, Nat.eq_of_beq_eq_true q_.2⟩
  · cases q_
theorem st_x : [(0, 0), (73, 100)].all (fun o => wvX.all (fun p_ => hIs xh0 (p_.1.1 + o.1) p_.1.2 (.int (stV (o.2 + p_.2)))) && wrX.all (fun p_ => (hCq xh0 (p_.1 + o.1) 6 2 && hCq xh0 (p_.2.1 + o.1) 20 p_.2.2.1) && ((hIs xh0 (p_.1 + o.1) 0 (.index (p_.2.1 + o.1)) && hIs xh0 (p_.1 + o.1) 1 (.int 0)) && Nat.ble (p_.2.2.2 + 1) 40))) = true := by decide +kernel
theorem st_s : (hIs xh0 0 14 (.int 0) && (List.range 4).all (fun k_ => (hIs xh0 (324 + 2 * k_) 1 (.int 0) && hIs xh0 (324 + 2 * k_) 2 (.int 0)) && (List.range 24).all (fun j_ => hIs xh0 (325 + 2 * k_) j_ (.int 0)))) = true := by decide +kernel
theorem st_m : [(339, 0), (340, 100)].all (fun o => wvM.all (fun p_ => hIs xh0 o.1 p_.1 (.int (stV (o.2 + p_.2)))) && (wrM.all (fun p_ => hIs xh0 o.1 p_.1 (.int 0) && Nat.ble (p_.2.2.2.2 + 1) 40) && (hIs xh0 o.1 434 (.int 0) && hIs xh0 o.1 559 (.int 0)))) = true := by decide +kernel
theorem st_n : ((hIs xh0 339 8 (.int 1) && hIs xh0 338 2 (.int 0)) && (List.range 4).all (fun k_ => (hIs xh0 350 k_ (.int 0) && hIs xh0 351 k_ (.int 0)) && (List.range 24).all (fun j_ => hIs xh0 352 (24 * k_ + j_) (.int 0)))) = true := by decide +kernel
theorem rep_at {n_ j_ : Nat} {x_ : Int32} (h_ : (List.replicate n_ (0 : Int32))[j_]? = some x_) : j_ < n_ ∧ x_ = 0 := by
  have l := (List.getElem?_eq_some_iff.mp h_).1
  rw [List.length_replicate] at l
  rw [List.getElem?_replicate, if_pos l] at h_
  exact ⟨l, (Option.some.inj h_).symm⟩
theorem XW0 {o : Nat × Nat} (ho : o ∈ [(0, 0), (73, 100)]) (h2 : o.2 = 0 ∨ o.2 = 100) : XW o.1 o.2 stW stV xh0 := by
  have k_ := List.all_eq_true.mp st_x o ho
  rw [Bool.and_eq_true] at k_
  refine ⟨fun p_ hp => hIs_ok (List.all_eq_true.mp k_.1 p_ hp), fun p_ hp => ?_⟩
  have e_ := List.all_eq_true.mp k_.2 p_ hp
  simp only [Bool.and_eq_true] at e_
  obtain ⟨⟨e1_, e2_⟩, ⟨e3_, e4_⟩, e5_⟩ := e_
  have e5_ := Nat.le_of_ble_eq_true e5_
  rw [W0_n (by omega)]
  exact ⟨⟨hCq_ok e1_, hCq_ok e2_⟩, ⟨hIs_ok e3_, hIs_ok e4_⟩, Nat.zero_le _, fun j_ x_ hx => by cases hx⟩
theorem MW0 {o : Nat × Nat} (ho : o ∈ [(339, 0), (340, 100)]) (h2 : o.2 = 0 ∨ o.2 = 100) : MW o.1 o.2 stW stV xh0 := by
  have k_ := List.all_eq_true.mp st_m o ho
  simp only [Bool.and_eq_true] at k_
  obtain ⟨k1_, k2_, k3_, k4_⟩ := k_
  refine ⟨fun p_ hp => hIs_ok (List.all_eq_true.mp k1_ p_ hp), fun p_ hp => ?_, ?_, ?_⟩
  · have e_ := List.all_eq_true.mp k2_ p_ hp
    rw [Bool.and_eq_true] at e_
    have e5_ := Nat.le_of_ble_eq_true e_.2
    rw [W0_n (by omega)]
    exact ⟨hIs_ok e_.1, fun j_ x_ hx => by cases hx⟩
  · rw [W0_n (by omega)]
    exact ⟨hIs_ok k3_, fun j_ x_ hx => by cases hx⟩
  · rw [W0_n (by omega)]
    exact ⟨hIs_ok k4_, fun j_ x_ hx => by cases hx⟩
theorem okW0 {q_ : Nat} (hq : q_ = 0 ∨ q_ = 100) : okW q_ stW stV := by
  have z_ : ∀ u_ : Int, 0 ≤ u_ → i3b (0 : Int32) u_ := fun u_ hu => ⟨Int.le_refl _, hu⟩
  refine ⟨⟨⟨?_, ?_⟩, ⟨?_, ?_⟩, ?_⟩, fun k_ hk => ⟨?_, ?_, ?_⟩, fun c_ hc_ => ?_, ?_, ?_, ⟨?_, ?_, ?_⟩, fun u_ hu => ?_⟩
  · rw [V0_n (by omega)]; exact z_ _ (by decide)
  · rw [V0_n (by omega)]; exact z_ _ (by decide)
  · rw [V0_n (by omega)]; exact z_ _ (by decide)
  · rw [V0_n (by omega)]; exact z_ _ (by decide)
  · rw [V0_n (by omega)]; exact z_ _ (by decide)
  · rw [V0_n (by omega)]; exact z_ _ (by decide)
  · rw [V0_n (by omega)]; exact z_ _ (by decide)
  · rw [V0_n (by omega)]; exact z_ _ (by decide)
  · rw [W0_n (by omega)]; exact ⟨Nat.zero_le _, fun x_ hx => absurd hx List.not_mem_nil⟩
  · rw [W0_n (by omega)]; exact ⟨Nat.zero_le _, fun x_ hx => absurd hx List.not_mem_nil⟩
  · rw [W0_n (by omega)]; exact Nat.zero_le _
  · rw [W0_n (by omega)]; exact Nat.zero_le _
  · rw [W0_n (by omega), W0_n (by omega)]
  · rw [W0_n (by omega), W0_n (by omega)]
  · rw [W0_n (by omega)]; exact ⟨Nat.zero_le _, fun x_ hx => absurd hx List.not_mem_nil, fun e_ => absurd rfl e_⟩
theorem xh0_S : RS xh0 := by
  have ks_ := st_s
  simp only [Bool.and_eq_true] at ks_
  have kn_ := st_n
  simp only [Bool.and_eq_true] at kn_
  obtain ⟨⟨n1_, n2_⟩, n3_⟩ := kn_
  refine ⟨stW, stV, ⟨okW0 (Or.inl rfl), okW0 (Or.inr rfl), fun k_ hk => ⟨⟨?_, Or.inl ?_⟩, ?_⟩⟩, ⟨sHp_of xh0_inv, XW0 (o := (0, 0)) List.mem_cons_self (Or.inl rfl), XW0 (o := (73, 100)) (List.mem_cons_of_mem _ List.mem_cons_self) (Or.inr rfl), ?_, fun k_ hk => ?_⟩, sHp_of xh0_inv, ⟨MW0 (o := (339, 0)) List.mem_cons_self (Or.inl rfl), hIs_ok n1_⟩, ⟨MW0 (o := (340, 100)) (List.mem_cons_of_mem _ List.mem_cons_self) (Or.inr rfl), Or.inl (V0_n (by omega))⟩, ?_, fun k_ hk => ?_⟩
  · rw [W0_s (by omega), List.length_replicate]
  · rw [V0_n (by omega)]
    rfl
  · rw [V0_n (by omega)]
    exact ⟨Int.le_refl _, by decide⟩
  · rw [V0_n (by omega)]
    exact hIs_ok ks_.1
  · have e_ := List.all_eq_true.mp ks_.2 k_ (List.mem_range.mpr hk)
    simp only [Bool.and_eq_true] at e_
    rw [V0_n (by omega), V0_n (by omega), W0_s (by omega)]
    refine ⟨hIs_ok e_.1.1, hIs_ok e_.1.2, fun j_ x_ hx => ?_⟩
    obtain ⟨l, rfl⟩ := rep_at hx
    exact hIs_ok (List.all_eq_true.mp e_.2 j_ (List.mem_range.mpr l))
  · rw [V0_n (by omega)]
    exact hIs_ok n2_
  · have e_ := List.all_eq_true.mp n3_ k_ (List.mem_range.mpr hk)
    simp only [Bool.and_eq_true] at e_
    rw [V0_n (by omega), V0_n (by omega), W0_s (by omega)]
    refine ⟨hIs_ok e_.1.1, hIs_ok e_.1.2, fun j_ x_ hx => ?_⟩
    obtain ⟨l, rfl⟩ := rep_at hx
    exact hIs_ok (List.all_eq_true.mp e_.2 j_ (List.mem_range.mpr l))
-- ===== echoes at the start
theorem st_e : ([(9, 10), (11, 12), (13, 14), (82, 83), (84, 85), (86, 87)].all (fun p_ => (hCq xh0 p_.1 6 2 && hCq xh0 p_.2 20 10) && (hIs xh0 p_.1 0 (.index p_.2) && hIs xh0 p_.1 1 (.int 0))) && ([(1, 11), (74, 11), (15, 1), (15, 2), (88, 1), (88, 2), (339, 2), (339, 3), (339, 4), (340, 2), (340, 3), (340, 4)].all (fun p_ => hIs xh0 p_.1 p_.2 (.int 0)) && hIs xh0 15 0 (.index 16))) = true := by decide +kernel
theorem rwx0 {a_ b_ : Nat} (hp : (a_, b_) ∈ [(9, 10), (11, 12), (13, 14), (82, 83), (84, 85), (86, 87)]) : rwx xh0 a_ b_ 10 [] := by
  have k_ := st_e
  simp only [Bool.and_eq_true] at k_
  have e_ := List.all_eq_true.mp k_.1 _ hp
  simp only [Bool.and_eq_true] at e_
  obtain ⟨⟨e1_, e2_⟩, e3_, e4_⟩ := e_
  exact ⟨⟨hCq_ok e1_, hCq_ok e2_⟩, ⟨hIs_ok e3_, hIs_ok e4_⟩, Nat.zero_le _, fun j_ x_ hx => by cases hx⟩
theorem int0 {a_ j_ : Nat} (hp : (a_, j_) ∈ [(1, 11), (74, 11), (15, 1), (15, 2), (88, 1), (88, 2), (339, 2), (339, 3), (339, 4), (340, 2), (340, 3), (340, 4)]) : bpat xh0 a_ j_ = some (.int 0) := by
  have k_ := st_e
  simp only [Bool.and_eq_true] at k_
  exact hIs_ok (List.all_eq_true.mp k_.2.1 _ hp)
theorem okE0 : okE ([], ((0 : Int32), 0)) := ⟨Nat.zero_le _, fun e_ he => absurd he List.not_mem_nil, ⟨by decide, by decide⟩, Nat.zero_le _⟩
theorem xh0_E : RE xh0 := by
  have k_ := st_e
  simp only [Bool.and_eq_true] at k_
  exact ⟨xh0_S, ([], ((0 : Int32), 0)), ([], ((0 : Int32), 0)), ⟨okE0, okE0⟩, ⟨⟨⟨int0 (by decide), hIs_ok k_.2.2⟩, ⟨rwx0 (by decide), rwx0 (by decide), rwx0 (by decide)⟩, int0 (by decide), 0, by decide, int0 (by decide)⟩, int0 (by decide), ⟨rwx0 (by decide), rwx0 (by decide), rwx0 (by decide)⟩, int0 (by decide), 0, by decide, int0 (by decide)⟩, ⟨⟨int0 (by decide), int0 (by decide)⟩, int0 (by decide), fun k_ t_ hk => by cases hk⟩, ⟨int0 (by decide), int0 (by decide)⟩, int0 (by decide), fun k_ t_ hk => by cases hk⟩
-- ===== THE TRACE at the start
theorem st_c : vTr.all (fun q_ => decide (tv xh0 q_.1.1 q_.1.2 = tv xh0 q_.2.1 q_.2.2)) = true := by decide +kernel
theorem xh0_C : RC xh0 := ⟨xh0_E, fun q_ hq => of_decide_eq_true (List.all_eq_true.mp st_c q_ hq)⟩
/-- THE LAW, from its first instruction on -/
theorem lw_all {r_ : Nat → Value} {L_ : Nat} (hT_ : xTok) (hr : xRr r_) (hL : r_ 49 = .int (nI L_)) (hL31 : L_ < 1000) : ∃ h' : xH, h'.length ≤ 2000 ∧ xhz h' ≤ 20000 ∧ xS1 r_ 1000 xlaw 0 [(0, .arg 100)] [] [] [] (some (.int 1), h', []) := by
  obtain ⟨h', H_, S_⟩ := lw_loop (RR := RC) hT_ hr hL hL31 (fun i_ k_ h hi_ hk hh hX hR => lw_case hT_ hr hL (by omega) hi_ hh hX hR k_ hk) L_ 0 xh0 (by omega) (by omega) xh0_inv xh0_X xh0_C
  rw [lwS_0] at S_
  have hP := xgo_sound hT_ hr _ _ _ _ _ _ _ _ _ _ (xeZ_eq xpre)
  refine ⟨h', ?_, ?_, Nat.zero_le _, Nat.zero_le _, fun hE p l e R s_ m_ args_ below meth_ c_ Q_ D_ dA A_ n0_ z0 ad0 G f1_ f2_ f3_ f4_ hQ => ?_⟩
  · rw [H_.1.1, bZ_len]
    decide
  · rw [xhz_inv H_]
    have k_ := bZ_sum
    revert k_
    generalize (bZ.map (fun q_ => q_.2)).sum = n
    exact fun k_ => Nat.le_of_ble_eq_true k_
  · exact hP.2.2 (fun q_ hq => absurd hq List.not_mem_nil) p l e R s_ m_ args_ below meth_ c_ Q_ D_ dA A_ n0_ z0 ad0 G f1_ f2_ (by
      have q1_ : xh0.length ≤ h'.length := S_.1
      have q3_ : h'.length - n0_ ≤ R.cells := f3_
      show xh0.length - n0_ ≤ R.cells
      omega) (by
      have q1_ : xhz xh0 ≤ xhz h' := S_.2.1
      have q3_ : xhz h' - z0 ≤ R.slots := f4_
      show xhz xh0 - z0 ≤ R.slots
      omega) (fun _ => S_.2.2 hE p l e R s_ m_ args_ below meth_ c_ Q_ D_ dA A_ n0_ z0 ad0 G f1_ f2_ f3_ f4_ hQ)
