-- ===== decoding, an opcode each
section
variable {code_ : ByteArray} {p_ : Nat}
theorem qu1 {b_ : UInt8} (h : code_.data.toList[p_]? = some b_) : (Jvm.ClassFile.Reader.u1 : Jvm.ClassFile.Reader Jvm.ClassFile.DecodeError Nat) code_ p_ = .ok (b_.toNat, p_ + 1) := by
  obtain ⟨h1, h2⟩ := List.getElem?_eq_some_iff.mp h
  have hlt : p_ < code_.size := h1
  have hb : code_[p_] = b_ := h2
  show (if h : p_ < code_.size then (do set (p_ + 1); pure code_[p_].toNat : Jvm.ClassFile.Reader Jvm.ClassFile.DecodeError Nat) else throw (Jvm.ClassFile.HasTruncated.truncated p_)) code_ p_ = _
  rw [dif_pos hlt, hb]
  rfl
theorem qbind {A B : Type} {x : Jvm.ClassFile.Reader Jvm.ClassFile.DecodeError A} {f : A → Jvm.ClassFile.Reader Jvm.ClassFile.DecodeError B} {a : A} {s : Nat} (h : x code_ p_ = .ok (a, s)) : (x >>= f) code_ p_ = f a code_ s := by
  show Except.bind (x code_ p_) (fun q => f q.1 code_ q.2) = _
  rw [h]
  rfl
theorem qmap {A B : Type} {x : Jvm.ClassFile.Reader Jvm.ClassFile.DecodeError A} {g : A → B} {a : A} {s : Nat} (h : x code_ p_ = .ok (a, s)) : (g <$> x) code_ p_ = .ok (g a, s) := by
  show Except.bind (x code_ p_) (fun q => .ok (g q.1, q.2)) = _
  rw [h]
  rfl
theorem qdec {i : Jvm.ClassFile.Instr} {n : Nat} (h : Jvm.ClassFile.Decoder.instr p_ code_ p_ = .ok (i, p_ + n)) : decode code_ p_ = .ok (i, n) := by
  show Except.bind (Jvm.ClassFile.Decoder.instr p_ code_ p_) (fun q => .ok (q.1, q.2 - p_)) = _
  rw [h]
  show Except.ok (i, p_ + n - p_) = _
  rw [Nat.add_sub_cancel_left]
theorem qu2 {a b : Nat} (h1 : (Jvm.ClassFile.Reader.u1 : Jvm.ClassFile.Reader Jvm.ClassFile.DecodeError Nat) code_ p_ = .ok (a, p_ + 1)) (h2 : (Jvm.ClassFile.Reader.u1 : Jvm.ClassFile.Reader Jvm.ClassFile.DecodeError Nat) code_ (p_ + 1) = .ok (b, p_ + 2)) : (Jvm.ClassFile.Reader.u2 : Jvm.ClassFile.Reader Jvm.ClassFile.DecodeError Nat) code_ p_ = .ok (a * 256 + b, p_ + 2) := by
  unfold Jvm.ClassFile.Reader.u2
  exact (qbind h1).trans ((qbind h2).trans rfl)
theorem qs1 {a s : Nat} (h1 : (Jvm.ClassFile.Reader.u1 : Jvm.ClassFile.Reader Jvm.ClassFile.DecodeError Nat) code_ p_ = .ok (a, s)) : (Jvm.ClassFile.Reader.s1 : Jvm.ClassFile.Reader Jvm.ClassFile.DecodeError Int) code_ p_ = .ok (Jvm.ClassFile.Reader.signed 8 a, s) := qmap h1
theorem qs2 {a s : Nat} (h1 : (Jvm.ClassFile.Reader.u2 : Jvm.ClassFile.Reader Jvm.ClassFile.DecodeError Nat) code_ p_ = .ok (a, s)) : (Jvm.ClassFile.Reader.s2 : Jvm.ClassFile.Reader Jvm.ClassFile.DecodeError Int) code_ p_ = .ok (Jvm.ClassFile.Reader.signed 16 a, s) := qmap h1
/-- k bytes are there: o, a, b -/
def qhy (code_ : ByteArray) (p_ k o a b : Nat) : Prop := (Jvm.ClassFile.Reader.u1 : Jvm.ClassFile.Reader Jvm.ClassFile.DecodeError Nat) code_ p_ = .ok (o, p_ + 1) ∧ (2 ≤ k → (Jvm.ClassFile.Reader.u1 : Jvm.ClassFile.Reader Jvm.ClassFile.DecodeError Nat) code_ (p_ + 1) = .ok (a, p_ + 2)) ∧ (3 ≤ k → (Jvm.ClassFile.Reader.u1 : Jvm.ClassFile.Reader Jvm.ClassFile.DecodeError Nat) code_ (p_ + 2) = .ok (b, p_ + 3))
theorem qi42 (h0 : (Jvm.ClassFile.Reader.u1 : Jvm.ClassFile.Reader Jvm.ClassFile.DecodeError Nat) code_ p_ = .ok (42, p_ + 1)) : Jvm.ClassFile.Decoder.instr p_ code_ p_ = .ok (Jvm.ClassFile.Instr.aload_n 0, p_ + 1) := by
  unfold Jvm.ClassFile.Decoder.instr
  exact (qbind h0).trans rfl
theorem qi180 (h0 : (Jvm.ClassFile.Reader.u1 : Jvm.ClassFile.Reader Jvm.ClassFile.DecodeError Nat) code_ p_ = .ok (180, p_ + 1)) {x : Nat} (h1 : (Jvm.ClassFile.Reader.u2 : Jvm.ClassFile.Reader Jvm.ClassFile.DecodeError Nat) code_ (p_ + 1) = .ok (x, p_ + 3)) : Jvm.ClassFile.Decoder.instr p_ code_ p_ = .ok (Jvm.ClassFile.Instr.getfield x, p_ + 3) := by
  unfold Jvm.ClassFile.Decoder.instr
  refine (qbind h0).trans ?_
  show (Jvm.ClassFile.Reader.u2 >>= fun a => pure (Jvm.ClassFile.Instr.getfield a) : Jvm.ClassFile.Reader Jvm.ClassFile.DecodeError Jvm.ClassFile.Instr) code_ (p_ + 1) = _
  exact (qbind h1).trans rfl
theorem qi182 (h0 : (Jvm.ClassFile.Reader.u1 : Jvm.ClassFile.Reader Jvm.ClassFile.DecodeError Nat) code_ p_ = .ok (182, p_ + 1)) {x : Nat} (h1 : (Jvm.ClassFile.Reader.u2 : Jvm.ClassFile.Reader Jvm.ClassFile.DecodeError Nat) code_ (p_ + 1) = .ok (x, p_ + 3)) : Jvm.ClassFile.Decoder.instr p_ code_ p_ = .ok (Jvm.ClassFile.Instr.invokevirtual x, p_ + 3) := by
  unfold Jvm.ClassFile.Decoder.instr
  refine (qbind h0).trans ?_
  show (Jvm.ClassFile.Reader.u2 >>= fun a => pure (Jvm.ClassFile.Instr.invokevirtual a) : Jvm.ClassFile.Reader Jvm.ClassFile.DecodeError Jvm.ClassFile.Instr) code_ (p_ + 1) = _
  exact (qbind h1).trans rfl
theorem qi4 (h0 : (Jvm.ClassFile.Reader.u1 : Jvm.ClassFile.Reader Jvm.ClassFile.DecodeError Nat) code_ p_ = .ok (4, p_ + 1)) : Jvm.ClassFile.Decoder.instr p_ code_ p_ = .ok (Jvm.ClassFile.Instr.iconst 1, p_ + 1) := by
  unfold Jvm.ClassFile.Decoder.instr
  exact (qbind h0).trans rfl
theorem qi172 (h0 : (Jvm.ClassFile.Reader.u1 : Jvm.ClassFile.Reader Jvm.ClassFile.DecodeError Nat) code_ p_ = .ok (172, p_ + 1)) : Jvm.ClassFile.Decoder.instr p_ code_ p_ = .ok (Jvm.ClassFile.Instr.ireturn, p_ + 1) := by
  unfold Jvm.ClassFile.Decoder.instr
  exact (qbind h0).trans rfl
theorem qi29 (h0 : (Jvm.ClassFile.Reader.u1 : Jvm.ClassFile.Reader Jvm.ClassFile.DecodeError Nat) code_ p_ = .ok (29, p_ + 1)) : Jvm.ClassFile.Decoder.instr p_ code_ p_ = .ok (Jvm.ClassFile.Instr.iload_n 3, p_ + 1) := by
  unfold Jvm.ClassFile.Decoder.instr
  exact (qbind h0).trans rfl
theorem qi27 (h0 : (Jvm.ClassFile.Reader.u1 : Jvm.ClassFile.Reader Jvm.ClassFile.DecodeError Nat) code_ p_ = .ok (27, p_ + 1)) : Jvm.ClassFile.Decoder.instr p_ code_ p_ = .ok (Jvm.ClassFile.Instr.iload_n 1, p_ + 1) := by
  unfold Jvm.ClassFile.Decoder.instr
  exact (qbind h0).trans rfl
theorem qi3 (h0 : (Jvm.ClassFile.Reader.u1 : Jvm.ClassFile.Reader Jvm.ClassFile.DecodeError Nat) code_ p_ = .ok (3, p_ + 1)) : Jvm.ClassFile.Decoder.instr p_ code_ p_ = .ok (Jvm.ClassFile.Instr.iconst 0, p_ + 1) := by
  unfold Jvm.ClassFile.Decoder.instr
  exact (qbind h0).trans rfl
theorem qi16 (h0 : (Jvm.ClassFile.Reader.u1 : Jvm.ClassFile.Reader Jvm.ClassFile.DecodeError Nat) code_ p_ = .ok (16, p_ + 1)) {x : Int} (h1 : (Jvm.ClassFile.Reader.s1 : Jvm.ClassFile.Reader Jvm.ClassFile.DecodeError Int) code_ (p_ + 1) = .ok (x, p_ + 2)) : Jvm.ClassFile.Decoder.instr p_ code_ p_ = .ok (Jvm.ClassFile.Instr.bipush x, p_ + 2) := by
  unfold Jvm.ClassFile.Decoder.instr
  refine (qbind h0).trans ?_
  show (Jvm.ClassFile.Reader.s1 >>= fun a => pure (Jvm.ClassFile.Instr.bipush a) : Jvm.ClassFile.Reader Jvm.ClassFile.DecodeError Jvm.ClassFile.Instr) code_ (p_ + 1) = _
  exact (qbind h1).trans rfl
theorem qi46 (h0 : (Jvm.ClassFile.Reader.u1 : Jvm.ClassFile.Reader Jvm.ClassFile.DecodeError Nat) code_ p_ = .ok (46, p_ + 1)) : Jvm.ClassFile.Decoder.instr p_ code_ p_ = .ok (Jvm.ClassFile.Instr.iaload, p_ + 1) := by
  unfold Jvm.ClassFile.Decoder.instr
  exact (qbind h0).trans rfl
theorem qi96 (h0 : (Jvm.ClassFile.Reader.u1 : Jvm.ClassFile.Reader Jvm.ClassFile.DecodeError Nat) code_ p_ = .ok (96, p_ + 1)) : Jvm.ClassFile.Decoder.instr p_ code_ p_ = .ok (Jvm.ClassFile.Instr.iadd, p_ + 1) := by
  unfold Jvm.ClassFile.Decoder.instr
  exact (qbind h0).trans rfl
theorem qi28 (h0 : (Jvm.ClassFile.Reader.u1 : Jvm.ClassFile.Reader Jvm.ClassFile.DecodeError Nat) code_ p_ = .ok (28, p_ + 1)) : Jvm.ClassFile.Decoder.instr p_ code_ p_ = .ok (Jvm.ClassFile.Instr.iload_n 2, p_ + 1) := by
  unfold Jvm.ClassFile.Decoder.instr
  exact (qbind h0).trans rfl
theorem qi167 (h0 : (Jvm.ClassFile.Reader.u1 : Jvm.ClassFile.Reader Jvm.ClassFile.DecodeError Nat) code_ p_ = .ok (167, p_ + 1)) {x : Int} (h1 : (Jvm.ClassFile.Reader.s2 : Jvm.ClassFile.Reader Jvm.ClassFile.DecodeError Int) code_ (p_ + 1) = .ok (x, p_ + 3)) : Jvm.ClassFile.Decoder.instr p_ code_ p_ = .ok (Jvm.ClassFile.Instr.goto x, p_ + 3) := by
  unfold Jvm.ClassFile.Decoder.instr
  refine (qbind h0).trans ?_
  show (Jvm.ClassFile.Reader.s2 >>= fun a => pure (Jvm.ClassFile.Instr.goto a) : Jvm.ClassFile.Reader Jvm.ClassFile.DecodeError Jvm.ClassFile.Instr) code_ (p_ + 1) = _
  exact (qbind h1).trans rfl
theorem qi21 (h0 : (Jvm.ClassFile.Reader.u1 : Jvm.ClassFile.Reader Jvm.ClassFile.DecodeError Nat) code_ p_ = .ok (21, p_ + 1)) {x : Nat} (h1 : (Jvm.ClassFile.Reader.u1 : Jvm.ClassFile.Reader Jvm.ClassFile.DecodeError Nat) code_ (p_ + 1) = .ok (x, p_ + 2)) : Jvm.ClassFile.Decoder.instr p_ code_ p_ = .ok (Jvm.ClassFile.Instr.iload x, p_ + 2) := by
  unfold Jvm.ClassFile.Decoder.instr
  refine (qbind h0).trans ?_
  show (Jvm.ClassFile.Reader.u1 >>= fun a => pure (Jvm.ClassFile.Instr.iload a) : Jvm.ClassFile.Reader Jvm.ClassFile.DecodeError Jvm.ClassFile.Instr) code_ (p_ + 1) = _
  exact (qbind h1).trans rfl
theorem qi181 (h0 : (Jvm.ClassFile.Reader.u1 : Jvm.ClassFile.Reader Jvm.ClassFile.DecodeError Nat) code_ p_ = .ok (181, p_ + 1)) {x : Nat} (h1 : (Jvm.ClassFile.Reader.u2 : Jvm.ClassFile.Reader Jvm.ClassFile.DecodeError Nat) code_ (p_ + 1) = .ok (x, p_ + 3)) : Jvm.ClassFile.Decoder.instr p_ code_ p_ = .ok (Jvm.ClassFile.Instr.putfield x, p_ + 3) := by
  unfold Jvm.ClassFile.Decoder.instr
  refine (qbind h0).trans ?_
  show (Jvm.ClassFile.Reader.u2 >>= fun a => pure (Jvm.ClassFile.Instr.putfield a) : Jvm.ClassFile.Reader Jvm.ClassFile.DecodeError Jvm.ClassFile.Instr) code_ (p_ + 1) = _
  exact (qbind h1).trans rfl
theorem qi153 (h0 : (Jvm.ClassFile.Reader.u1 : Jvm.ClassFile.Reader Jvm.ClassFile.DecodeError Nat) code_ p_ = .ok (153, p_ + 1)) {x : Int} (h1 : (Jvm.ClassFile.Reader.s2 : Jvm.ClassFile.Reader Jvm.ClassFile.DecodeError Int) code_ (p_ + 1) = .ok (x, p_ + 3)) : Jvm.ClassFile.Decoder.instr p_ code_ p_ = .ok (Jvm.ClassFile.Instr.ifCond .eq x, p_ + 3) := by
  unfold Jvm.ClassFile.Decoder.instr
  refine (qbind h0).trans ?_
  show (Jvm.ClassFile.Reader.s2 >>= fun a => pure (Jvm.ClassFile.Instr.ifCond .eq a) : Jvm.ClassFile.Reader Jvm.ClassFile.DecodeError Jvm.ClassFile.Instr) code_ (p_ + 1) = _
  exact (qbind h1).trans rfl
theorem qi5 (h0 : (Jvm.ClassFile.Reader.u1 : Jvm.ClassFile.Reader Jvm.ClassFile.DecodeError Nat) code_ p_ = .ok (5, p_ + 1)) : Jvm.ClassFile.Decoder.instr p_ code_ p_ = .ok (Jvm.ClassFile.Instr.iconst 2, p_ + 1) := by
  unfold Jvm.ClassFile.Decoder.instr
  exact (qbind h0).trans rfl
theorem qi154 (h0 : (Jvm.ClassFile.Reader.u1 : Jvm.ClassFile.Reader Jvm.ClassFile.DecodeError Nat) code_ p_ = .ok (154, p_ + 1)) {x : Int} (h1 : (Jvm.ClassFile.Reader.s2 : Jvm.ClassFile.Reader Jvm.ClassFile.DecodeError Int) code_ (p_ + 1) = .ok (x, p_ + 3)) : Jvm.ClassFile.Decoder.instr p_ code_ p_ = .ok (Jvm.ClassFile.Instr.ifCond .ne x, p_ + 3) := by
  unfold Jvm.ClassFile.Decoder.instr
  refine (qbind h0).trans ?_
  show (Jvm.ClassFile.Reader.s2 >>= fun a => pure (Jvm.ClassFile.Instr.ifCond .ne a) : Jvm.ClassFile.Reader Jvm.ClassFile.DecodeError Jvm.ClassFile.Instr) code_ (p_ + 1) = _
  exact (qbind h1).trans rfl
theorem qi43 (h0 : (Jvm.ClassFile.Reader.u1 : Jvm.ClassFile.Reader Jvm.ClassFile.DecodeError Nat) code_ p_ = .ok (43, p_ + 1)) : Jvm.ClassFile.Decoder.instr p_ code_ p_ = .ok (Jvm.ClassFile.Instr.aload_n 1, p_ + 1) := by
  unfold Jvm.ClassFile.Decoder.instr
  exact (qbind h0).trans rfl
theorem qi184 (h0 : (Jvm.ClassFile.Reader.u1 : Jvm.ClassFile.Reader Jvm.ClassFile.DecodeError Nat) code_ p_ = .ok (184, p_ + 1)) {x : Nat} (h1 : (Jvm.ClassFile.Reader.u2 : Jvm.ClassFile.Reader Jvm.ClassFile.DecodeError Nat) code_ (p_ + 1) = .ok (x, p_ + 3)) : Jvm.ClassFile.Decoder.instr p_ code_ p_ = .ok (Jvm.ClassFile.Instr.invokestatic x, p_ + 3) := by
  unfold Jvm.ClassFile.Decoder.instr
  refine (qbind h0).trans ?_
  show (Jvm.ClassFile.Reader.u2 >>= fun a => pure (Jvm.ClassFile.Instr.invokestatic a) : Jvm.ClassFile.Reader Jvm.ClassFile.DecodeError Jvm.ClassFile.Instr) code_ (p_ + 1) = _
  exact (qbind h1).trans rfl
theorem qi54 (h0 : (Jvm.ClassFile.Reader.u1 : Jvm.ClassFile.Reader Jvm.ClassFile.DecodeError Nat) code_ p_ = .ok (54, p_ + 1)) {x : Nat} (h1 : (Jvm.ClassFile.Reader.u1 : Jvm.ClassFile.Reader Jvm.ClassFile.DecodeError Nat) code_ (p_ + 1) = .ok (x, p_ + 2)) : Jvm.ClassFile.Decoder.instr p_ code_ p_ = .ok (Jvm.ClassFile.Instr.istore x, p_ + 2) := by
  unfold Jvm.ClassFile.Decoder.instr
  refine (qbind h0).trans ?_
  show (Jvm.ClassFile.Reader.u1 >>= fun a => pure (Jvm.ClassFile.Instr.istore a) : Jvm.ClassFile.Reader Jvm.ClassFile.DecodeError Jvm.ClassFile.Instr) code_ (p_ + 1) = _
  exact (qbind h1).trans rfl
theorem qi162 (h0 : (Jvm.ClassFile.Reader.u1 : Jvm.ClassFile.Reader Jvm.ClassFile.DecodeError Nat) code_ p_ = .ok (162, p_ + 1)) {x : Int} (h1 : (Jvm.ClassFile.Reader.s2 : Jvm.ClassFile.Reader Jvm.ClassFile.DecodeError Int) code_ (p_ + 1) = .ok (x, p_ + 3)) : Jvm.ClassFile.Decoder.instr p_ code_ p_ = .ok (Jvm.ClassFile.Instr.if_icmp .ge x, p_ + 3) := by
  unfold Jvm.ClassFile.Decoder.instr
  refine (qbind h0).trans ?_
  show (Jvm.ClassFile.Reader.s2 >>= fun a => pure (Jvm.ClassFile.Instr.if_icmp .ge a) : Jvm.ClassFile.Reader Jvm.ClassFile.DecodeError Jvm.ClassFile.Instr) code_ (p_ + 1) = _
  exact (qbind h1).trans rfl
theorem qi87 (h0 : (Jvm.ClassFile.Reader.u1 : Jvm.ClassFile.Reader Jvm.ClassFile.DecodeError Nat) code_ p_ = .ok (87, p_ + 1)) : Jvm.ClassFile.Decoder.instr p_ code_ p_ = .ok (Jvm.ClassFile.Instr.pop, p_ + 1) := by
  unfold Jvm.ClassFile.Decoder.instr
  exact (qbind h0).trans rfl
theorem qi132 (h0 : (Jvm.ClassFile.Reader.u1 : Jvm.ClassFile.Reader Jvm.ClassFile.DecodeError Nat) code_ p_ = .ok (132, p_ + 1)) {x : Nat} {y : Int} (h1 : (Jvm.ClassFile.Reader.u1 : Jvm.ClassFile.Reader Jvm.ClassFile.DecodeError Nat) code_ (p_ + 1) = .ok (x, p_ + 2)) (h2 : (Jvm.ClassFile.Reader.s1 : Jvm.ClassFile.Reader Jvm.ClassFile.DecodeError Int) code_ (p_ + 2) = .ok (y, p_ + 3)) : Jvm.ClassFile.Decoder.instr p_ code_ p_ = .ok (Jvm.ClassFile.Instr.iinc x y, p_ + 3) := by
  unfold Jvm.ClassFile.Decoder.instr
  refine (qbind h0).trans ?_
  show (Jvm.ClassFile.Reader.u1 >>= fun a => Jvm.ClassFile.Reader.s1 >>= fun b => pure (Jvm.ClassFile.Instr.iinc a b) : Jvm.ClassFile.Reader Jvm.ClassFile.DecodeError Jvm.ClassFile.Instr) code_ (p_ + 1) = _
  exact (qbind h1).trans ((qbind h2).trans rfl)
theorem qi79 (h0 : (Jvm.ClassFile.Reader.u1 : Jvm.ClassFile.Reader Jvm.ClassFile.DecodeError Nat) code_ p_ = .ok (79, p_ + 1)) : Jvm.ClassFile.Decoder.instr p_ code_ p_ = .ok (Jvm.ClassFile.Instr.iastore, p_ + 1) := by
  unfold Jvm.ClassFile.Decoder.instr
  exact (qbind h0).trans rfl
theorem qi160 (h0 : (Jvm.ClassFile.Reader.u1 : Jvm.ClassFile.Reader Jvm.ClassFile.DecodeError Nat) code_ p_ = .ok (160, p_ + 1)) {x : Int} (h1 : (Jvm.ClassFile.Reader.s2 : Jvm.ClassFile.Reader Jvm.ClassFile.DecodeError Int) code_ (p_ + 1) = .ok (x, p_ + 3)) : Jvm.ClassFile.Decoder.instr p_ code_ p_ = .ok (Jvm.ClassFile.Instr.if_icmp .ne x, p_ + 3) := by
  unfold Jvm.ClassFile.Decoder.instr
  refine (qbind h0).trans ?_
  show (Jvm.ClassFile.Reader.s2 >>= fun a => pure (Jvm.ClassFile.Instr.if_icmp .ne a) : Jvm.ClassFile.Reader Jvm.ClassFile.DecodeError Jvm.ClassFile.Instr) code_ (p_ + 1) = _
  exact (qbind h1).trans rfl
theorem qi44 (h0 : (Jvm.ClassFile.Reader.u1 : Jvm.ClassFile.Reader Jvm.ClassFile.DecodeError Nat) code_ p_ = .ok (44, p_ + 1)) : Jvm.ClassFile.Decoder.instr p_ code_ p_ = .ok (Jvm.ClassFile.Instr.aload_n 2, p_ + 1) := by
  unfold Jvm.ClassFile.Decoder.instr
  exact (qbind h0).trans rfl
theorem qi100 (h0 : (Jvm.ClassFile.Reader.u1 : Jvm.ClassFile.Reader Jvm.ClassFile.DecodeError Nat) code_ p_ = .ok (100, p_ + 1)) : Jvm.ClassFile.Decoder.instr p_ code_ p_ = .ok (Jvm.ClassFile.Instr.isub, p_ + 1) := by
  unfold Jvm.ClassFile.Decoder.instr
  exact (qbind h0).trans rfl
theorem qi62 (h0 : (Jvm.ClassFile.Reader.u1 : Jvm.ClassFile.Reader Jvm.ClassFile.DecodeError Nat) code_ p_ = .ok (62, p_ + 1)) : Jvm.ClassFile.Decoder.instr p_ code_ p_ = .ok (Jvm.ClassFile.Instr.istore_n 3, p_ + 1) := by
  unfold Jvm.ClassFile.Decoder.instr
  exact (qbind h0).trans rfl
theorem qi61 (h0 : (Jvm.ClassFile.Reader.u1 : Jvm.ClassFile.Reader Jvm.ClassFile.DecodeError Nat) code_ p_ = .ok (61, p_ + 1)) : Jvm.ClassFile.Decoder.instr p_ code_ p_ = .ok (Jvm.ClassFile.Instr.istore_n 2, p_ + 1) := by
  unfold Jvm.ClassFile.Decoder.instr
  exact (qbind h0).trans rfl
theorem qi89 (h0 : (Jvm.ClassFile.Reader.u1 : Jvm.ClassFile.Reader Jvm.ClassFile.DecodeError Nat) code_ p_ = .ok (89, p_ + 1)) : Jvm.ClassFile.Decoder.instr p_ code_ p_ = .ok (Jvm.ClassFile.Instr.dup, p_ + 1) := by
  unfold Jvm.ClassFile.Decoder.instr
  exact (qbind h0).trans rfl
theorem qi50 (h0 : (Jvm.ClassFile.Reader.u1 : Jvm.ClassFile.Reader Jvm.ClassFile.DecodeError Nat) code_ p_ = .ok (50, p_ + 1)) : Jvm.ClassFile.Decoder.instr p_ code_ p_ = .ok (Jvm.ClassFile.Instr.aaload, p_ + 1) := by
  unfold Jvm.ClassFile.Decoder.instr
  exact (qbind h0).trans rfl
theorem qi6 (h0 : (Jvm.ClassFile.Reader.u1 : Jvm.ClassFile.Reader Jvm.ClassFile.DecodeError Nat) code_ p_ = .ok (6, p_ + 1)) : Jvm.ClassFile.Decoder.instr p_ code_ p_ = .ok (Jvm.ClassFile.Instr.iconst 3, p_ + 1) := by
  unfold Jvm.ClassFile.Decoder.instr
  exact (qbind h0).trans rfl
theorem qi26 (h0 : (Jvm.ClassFile.Reader.u1 : Jvm.ClassFile.Reader Jvm.ClassFile.DecodeError Nat) code_ p_ = .ok (26, p_ + 1)) : Jvm.ClassFile.Decoder.instr p_ code_ p_ = .ok (Jvm.ClassFile.Instr.iload_n 0, p_ + 1) := by
  unfold Jvm.ClassFile.Decoder.instr
  exact (qbind h0).trans rfl
theorem qi104 (h0 : (Jvm.ClassFile.Reader.u1 : Jvm.ClassFile.Reader Jvm.ClassFile.DecodeError Nat) code_ p_ = .ok (104, p_ + 1)) : Jvm.ClassFile.Decoder.instr p_ code_ p_ = .ok (Jvm.ClassFile.Instr.imul, p_ + 1) := by
  unfold Jvm.ClassFile.Decoder.instr
  exact (qbind h0).trans rfl
theorem qi177 (h0 : (Jvm.ClassFile.Reader.u1 : Jvm.ClassFile.Reader Jvm.ClassFile.DecodeError Nat) code_ p_ = .ok (177, p_ + 1)) : Jvm.ClassFile.Decoder.instr p_ code_ p_ = .ok (Jvm.ClassFile.Instr.return_, p_ + 1) := by
  unfold Jvm.ClassFile.Decoder.instr
  exact (qbind h0).trans rfl
theorem qi183 (h0 : (Jvm.ClassFile.Reader.u1 : Jvm.ClassFile.Reader Jvm.ClassFile.DecodeError Nat) code_ p_ = .ok (183, p_ + 1)) {x : Nat} (h1 : (Jvm.ClassFile.Reader.u2 : Jvm.ClassFile.Reader Jvm.ClassFile.DecodeError Nat) code_ (p_ + 1) = .ok (x, p_ + 3)) : Jvm.ClassFile.Decoder.instr p_ code_ p_ = .ok (Jvm.ClassFile.Instr.invokespecial x, p_ + 3) := by
  unfold Jvm.ClassFile.Decoder.instr
  refine (qbind h0).trans ?_
  show (Jvm.ClassFile.Reader.u2 >>= fun a => pure (Jvm.ClassFile.Instr.invokespecial a) : Jvm.ClassFile.Reader Jvm.ClassFile.DecodeError Jvm.ClassFile.Instr) code_ (p_ + 1) = _
  exact (qbind h1).trans rfl
theorem qi159 (h0 : (Jvm.ClassFile.Reader.u1 : Jvm.ClassFile.Reader Jvm.ClassFile.DecodeError Nat) code_ p_ = .ok (159, p_ + 1)) {x : Int} (h1 : (Jvm.ClassFile.Reader.s2 : Jvm.ClassFile.Reader Jvm.ClassFile.DecodeError Int) code_ (p_ + 1) = .ok (x, p_ + 3)) : Jvm.ClassFile.Decoder.instr p_ code_ p_ = .ok (Jvm.ClassFile.Instr.if_icmp .eq x, p_ + 3) := by
  unfold Jvm.ClassFile.Decoder.instr
  refine (qbind h0).trans ?_
  show (Jvm.ClassFile.Reader.s2 >>= fun a => pure (Jvm.ClassFile.Instr.if_icmp .eq a) : Jvm.ClassFile.Reader Jvm.ClassFile.DecodeError Jvm.ClassFile.Instr) code_ (p_ + 1) = _
  exact (qbind h1).trans rfl
theorem qi7 (h0 : (Jvm.ClassFile.Reader.u1 : Jvm.ClassFile.Reader Jvm.ClassFile.DecodeError Nat) code_ p_ = .ok (7, p_ + 1)) : Jvm.ClassFile.Decoder.instr p_ code_ p_ = .ok (Jvm.ClassFile.Instr.iconst 4, p_ + 1) := by
  unfold Jvm.ClassFile.Decoder.instr
  exact (qbind h0).trans rfl
theorem qi17 (h0 : (Jvm.ClassFile.Reader.u1 : Jvm.ClassFile.Reader Jvm.ClassFile.DecodeError Nat) code_ p_ = .ok (17, p_ + 1)) {x : Int} (h1 : (Jvm.ClassFile.Reader.s2 : Jvm.ClassFile.Reader Jvm.ClassFile.DecodeError Int) code_ (p_ + 1) = .ok (x, p_ + 3)) : Jvm.ClassFile.Decoder.instr p_ code_ p_ = .ok (Jvm.ClassFile.Instr.sipush x, p_ + 3) := by
  unfold Jvm.ClassFile.Decoder.instr
  refine (qbind h0).trans ?_
  show (Jvm.ClassFile.Reader.s2 >>= fun a => pure (Jvm.ClassFile.Instr.sipush a) : Jvm.ClassFile.Reader Jvm.ClassFile.DecodeError Jvm.ClassFile.Instr) code_ (p_ + 1) = _
  exact (qbind h1).trans rfl
theorem qi155 (h0 : (Jvm.ClassFile.Reader.u1 : Jvm.ClassFile.Reader Jvm.ClassFile.DecodeError Nat) code_ p_ = .ok (155, p_ + 1)) {x : Int} (h1 : (Jvm.ClassFile.Reader.s2 : Jvm.ClassFile.Reader Jvm.ClassFile.DecodeError Int) code_ (p_ + 1) = .ok (x, p_ + 3)) : Jvm.ClassFile.Decoder.instr p_ code_ p_ = .ok (Jvm.ClassFile.Instr.ifCond .lt x, p_ + 3) := by
  unfold Jvm.ClassFile.Decoder.instr
  refine (qbind h0).trans ?_
  show (Jvm.ClassFile.Reader.s2 >>= fun a => pure (Jvm.ClassFile.Instr.ifCond .lt a) : Jvm.ClassFile.Reader Jvm.ClassFile.DecodeError Jvm.ClassFile.Instr) code_ (p_ + 1) = _
  exact (qbind h1).trans rfl
theorem qi187 (h0 : (Jvm.ClassFile.Reader.u1 : Jvm.ClassFile.Reader Jvm.ClassFile.DecodeError Nat) code_ p_ = .ok (187, p_ + 1)) {x : Nat} (h1 : (Jvm.ClassFile.Reader.u2 : Jvm.ClassFile.Reader Jvm.ClassFile.DecodeError Nat) code_ (p_ + 1) = .ok (x, p_ + 3)) : Jvm.ClassFile.Decoder.instr p_ code_ p_ = .ok (Jvm.ClassFile.Instr.new x, p_ + 3) := by
  unfold Jvm.ClassFile.Decoder.instr
  refine (qbind h0).trans ?_
  show (Jvm.ClassFile.Reader.u2 >>= fun a => pure (Jvm.ClassFile.Instr.new a) : Jvm.ClassFile.Reader Jvm.ClassFile.DecodeError Jvm.ClassFile.Instr) code_ (p_ + 1) = _
  exact (qbind h1).trans rfl
theorem qi161 (h0 : (Jvm.ClassFile.Reader.u1 : Jvm.ClassFile.Reader Jvm.ClassFile.DecodeError Nat) code_ p_ = .ok (161, p_ + 1)) {x : Int} (h1 : (Jvm.ClassFile.Reader.s2 : Jvm.ClassFile.Reader Jvm.ClassFile.DecodeError Int) code_ (p_ + 1) = .ok (x, p_ + 3)) : Jvm.ClassFile.Decoder.instr p_ code_ p_ = .ok (Jvm.ClassFile.Instr.if_icmp .lt x, p_ + 3) := by
  unfold Jvm.ClassFile.Decoder.instr
  refine (qbind h0).trans ?_
  show (Jvm.ClassFile.Reader.s2 >>= fun a => pure (Jvm.ClassFile.Instr.if_icmp .lt a) : Jvm.ClassFile.Reader Jvm.ClassFile.DecodeError Jvm.ClassFile.Instr) code_ (p_ + 1) = _
  exact (qbind h1).trans rfl
theorem qi164 (h0 : (Jvm.ClassFile.Reader.u1 : Jvm.ClassFile.Reader Jvm.ClassFile.DecodeError Nat) code_ p_ = .ok (164, p_ + 1)) {x : Int} (h1 : (Jvm.ClassFile.Reader.s2 : Jvm.ClassFile.Reader Jvm.ClassFile.DecodeError Int) code_ (p_ + 1) = .ok (x, p_ + 3)) : Jvm.ClassFile.Decoder.instr p_ code_ p_ = .ok (Jvm.ClassFile.Instr.if_icmp .le x, p_ + 3) := by
  unfold Jvm.ClassFile.Decoder.instr
  refine (qbind h0).trans ?_
  show (Jvm.ClassFile.Reader.s2 >>= fun a => pure (Jvm.ClassFile.Instr.if_icmp .le a) : Jvm.ClassFile.Reader Jvm.ClassFile.DecodeError Jvm.ClassFile.Instr) code_ (p_ + 1) = _
  exact (qbind h1).trans rfl
theorem qi45 (h0 : (Jvm.ClassFile.Reader.u1 : Jvm.ClassFile.Reader Jvm.ClassFile.DecodeError Nat) code_ p_ = .ok (45, p_ + 1)) : Jvm.ClassFile.Decoder.instr p_ code_ p_ = .ok (Jvm.ClassFile.Instr.aload_n 3, p_ + 1) := by
  unfold Jvm.ClassFile.Decoder.instr
  exact (qbind h0).trans rfl
theorem qi163 (h0 : (Jvm.ClassFile.Reader.u1 : Jvm.ClassFile.Reader Jvm.ClassFile.DecodeError Nat) code_ p_ = .ok (163, p_ + 1)) {x : Int} (h1 : (Jvm.ClassFile.Reader.s2 : Jvm.ClassFile.Reader Jvm.ClassFile.DecodeError Int) code_ (p_ + 1) = .ok (x, p_ + 3)) : Jvm.ClassFile.Decoder.instr p_ code_ p_ = .ok (Jvm.ClassFile.Instr.if_icmp .gt x, p_ + 3) := by
  unfold Jvm.ClassFile.Decoder.instr
  refine (qbind h0).trans ?_
  show (Jvm.ClassFile.Reader.s2 >>= fun a => pure (Jvm.ClassFile.Instr.if_icmp .gt a) : Jvm.ClassFile.Reader Jvm.ClassFile.DecodeError Jvm.ClassFile.Instr) code_ (p_ + 1) = _
  exact (qbind h1).trans rfl
theorem qi2 (h0 : (Jvm.ClassFile.Reader.u1 : Jvm.ClassFile.Reader Jvm.ClassFile.DecodeError Nat) code_ p_ = .ok (2, p_ + 1)) : Jvm.ClassFile.Decoder.instr p_ code_ p_ = .ok (Jvm.ClassFile.Instr.iconst (-1), p_ + 1) := by
  unfold Jvm.ClassFile.Decoder.instr
  exact (qbind h0).trans rfl
theorem qi60 (h0 : (Jvm.ClassFile.Reader.u1 : Jvm.ClassFile.Reader Jvm.ClassFile.DecodeError Nat) code_ p_ = .ok (60, p_ + 1)) : Jvm.ClassFile.Decoder.instr p_ code_ p_ = .ok (Jvm.ClassFile.Instr.istore_n 1, p_ + 1) := by
  unfold Jvm.ClassFile.Decoder.instr
  exact (qbind h0).trans rfl
theorem qi25 (h0 : (Jvm.ClassFile.Reader.u1 : Jvm.ClassFile.Reader Jvm.ClassFile.DecodeError Nat) code_ p_ = .ok (25, p_ + 1)) {x : Nat} (h1 : (Jvm.ClassFile.Reader.u1 : Jvm.ClassFile.Reader Jvm.ClassFile.DecodeError Nat) code_ (p_ + 1) = .ok (x, p_ + 2)) : Jvm.ClassFile.Decoder.instr p_ code_ p_ = .ok (Jvm.ClassFile.Instr.aload x, p_ + 2) := by
  unfold Jvm.ClassFile.Decoder.instr
  refine (qbind h0).trans ?_
  show (Jvm.ClassFile.Reader.u1 >>= fun a => pure (Jvm.ClassFile.Instr.aload a) : Jvm.ClassFile.Reader Jvm.ClassFile.DecodeError Jvm.ClassFile.Instr) code_ (p_ + 1) = _
  exact (qbind h1).trans rfl
theorem qi112 (h0 : (Jvm.ClassFile.Reader.u1 : Jvm.ClassFile.Reader Jvm.ClassFile.DecodeError Nat) code_ p_ = .ok (112, p_ + 1)) : Jvm.ClassFile.Decoder.instr p_ code_ p_ = .ok (Jvm.ClassFile.Instr.irem, p_ + 1) := by
  unfold Jvm.ClassFile.Decoder.instr
  exact (qbind h0).trans rfl
theorem qi8 (h0 : (Jvm.ClassFile.Reader.u1 : Jvm.ClassFile.Reader Jvm.ClassFile.DecodeError Nat) code_ p_ = .ok (8, p_ + 1)) : Jvm.ClassFile.Decoder.instr p_ code_ p_ = .ok (Jvm.ClassFile.Instr.iconst 5, p_ + 1) := by
  unfold Jvm.ClassFile.Decoder.instr
  exact (qbind h0).trans rfl
theorem qi108 (h0 : (Jvm.ClassFile.Reader.u1 : Jvm.ClassFile.Reader Jvm.ClassFile.DecodeError Nat) code_ p_ = .ok (108, p_ + 1)) : Jvm.ClassFile.Decoder.instr p_ code_ p_ = .ok (Jvm.ClassFile.Instr.idiv, p_ + 1) := by
  unfold Jvm.ClassFile.Decoder.instr
  exact (qbind h0).trans rfl
theorem qi188 (h0 : (Jvm.ClassFile.Reader.u1 : Jvm.ClassFile.Reader Jvm.ClassFile.DecodeError Nat) code_ p_ = .ok (188, p_ + 1)) (h1 : (Jvm.ClassFile.Reader.u1 : Jvm.ClassFile.Reader Jvm.ClassFile.DecodeError Nat) code_ (p_ + 1) = .ok (10, p_ + 2)) : Jvm.ClassFile.Decoder.instr p_ code_ p_ = .ok (Jvm.ClassFile.Instr.newarray .int, p_ + 2) := by
  unfold Jvm.ClassFile.Decoder.instr
  refine (qbind h0).trans ?_
  show Jvm.ClassFile.Decoder.newarray p_ code_ (p_ + 1) = _
  unfold Jvm.ClassFile.Decoder.newarray
  exact (qbind h1).trans rfl
theorem qi190 (h0 : (Jvm.ClassFile.Reader.u1 : Jvm.ClassFile.Reader Jvm.ClassFile.DecodeError Nat) code_ p_ = .ok (190, p_ + 1)) : Jvm.ClassFile.Decoder.instr p_ code_ p_ = .ok (Jvm.ClassFile.Instr.arraylength, p_ + 1) := by
  unfold Jvm.ClassFile.Decoder.instr
  exact (qbind h0).trans rfl
theorem qi30 (h0 : (Jvm.ClassFile.Reader.u1 : Jvm.ClassFile.Reader Jvm.ClassFile.DecodeError Nat) code_ p_ = .ok (30, p_ + 1)) : Jvm.ClassFile.Decoder.instr p_ code_ p_ = .ok (Jvm.ClassFile.Instr.lload_n 0, p_ + 1) := by
  unfold Jvm.ClassFile.Decoder.instr
  exact (qbind h0).trans rfl
theorem qi92 (h0 : (Jvm.ClassFile.Reader.u1 : Jvm.ClassFile.Reader Jvm.ClassFile.DecodeError Nat) code_ p_ = .ok (92, p_ + 1)) : Jvm.ClassFile.Decoder.instr p_ code_ p_ = .ok (Jvm.ClassFile.Instr.dup2, p_ + 1) := by
  unfold Jvm.ClassFile.Decoder.instr
  exact (qbind h0).trans rfl
theorem qi156 (h0 : (Jvm.ClassFile.Reader.u1 : Jvm.ClassFile.Reader Jvm.ClassFile.DecodeError Nat) code_ p_ = .ok (156, p_ + 1)) {x : Int} (h1 : (Jvm.ClassFile.Reader.s2 : Jvm.ClassFile.Reader Jvm.ClassFile.DecodeError Int) code_ (p_ + 1) = .ok (x, p_ + 3)) : Jvm.ClassFile.Decoder.instr p_ code_ p_ = .ok (Jvm.ClassFile.Instr.ifCond .ge x, p_ + 3) := by
  unfold Jvm.ClassFile.Decoder.instr
  refine (qbind h0).trans ?_
  show (Jvm.ClassFile.Reader.s2 >>= fun a => pure (Jvm.ClassFile.Instr.ifCond .ge a) : Jvm.ClassFile.Reader Jvm.ClassFile.DecodeError Jvm.ClassFile.Instr) code_ (p_ + 1) = _
  exact (qbind h1).trans rfl
theorem qi158 (h0 : (Jvm.ClassFile.Reader.u1 : Jvm.ClassFile.Reader Jvm.ClassFile.DecodeError Nat) code_ p_ = .ok (158, p_ + 1)) {x : Int} (h1 : (Jvm.ClassFile.Reader.s2 : Jvm.ClassFile.Reader Jvm.ClassFile.DecodeError Int) code_ (p_ + 1) = .ok (x, p_ + 3)) : Jvm.ClassFile.Decoder.instr p_ code_ p_ = .ok (Jvm.ClassFile.Instr.ifCond .le x, p_ + 3) := by
  unfold Jvm.ClassFile.Decoder.instr
  refine (qbind h0).trans ?_
  show (Jvm.ClassFile.Reader.s2 >>= fun a => pure (Jvm.ClassFile.Instr.ifCond .le a) : Jvm.ClassFile.Reader Jvm.ClassFile.DecodeError Jvm.ClassFile.Instr) code_ (p_ + 1) = _
  exact (qbind h1).trans rfl
theorem qi58 (h0 : (Jvm.ClassFile.Reader.u1 : Jvm.ClassFile.Reader Jvm.ClassFile.DecodeError Nat) code_ p_ = .ok (58, p_ + 1)) {x : Nat} (h1 : (Jvm.ClassFile.Reader.u1 : Jvm.ClassFile.Reader Jvm.ClassFile.DecodeError Nat) code_ (p_ + 1) = .ok (x, p_ + 2)) : Jvm.ClassFile.Decoder.instr p_ code_ p_ = .ok (Jvm.ClassFile.Instr.astore x, p_ + 2) := by
  unfold Jvm.ClassFile.Decoder.instr
  refine (qbind h0).trans ?_
  show (Jvm.ClassFile.Reader.u1 >>= fun a => pure (Jvm.ClassFile.Instr.astore a) : Jvm.ClassFile.Reader Jvm.ClassFile.DecodeError Jvm.ClassFile.Instr) code_ (p_ + 1) = _
  exact (qbind h1).trans rfl
theorem qi78 (h0 : (Jvm.ClassFile.Reader.u1 : Jvm.ClassFile.Reader Jvm.ClassFile.DecodeError Nat) code_ p_ = .ok (78, p_ + 1)) : Jvm.ClassFile.Decoder.instr p_ code_ p_ = .ok (Jvm.ClassFile.Instr.astore_n 3, p_ + 1) := by
  unfold Jvm.ClassFile.Decoder.instr
  exact (qbind h0).trans rfl
theorem qi20 (h0 : (Jvm.ClassFile.Reader.u1 : Jvm.ClassFile.Reader Jvm.ClassFile.DecodeError Nat) code_ p_ = .ok (20, p_ + 1)) {x : Nat} (h1 : (Jvm.ClassFile.Reader.u2 : Jvm.ClassFile.Reader Jvm.ClassFile.DecodeError Nat) code_ (p_ + 1) = .ok (x, p_ + 3)) : Jvm.ClassFile.Decoder.instr p_ code_ p_ = .ok (Jvm.ClassFile.Instr.ldc2_w x, p_ + 3) := by
  unfold Jvm.ClassFile.Decoder.instr
  refine (qbind h0).trans ?_
  show (Jvm.ClassFile.Reader.u2 >>= fun a => pure (Jvm.ClassFile.Instr.ldc2_w a) : Jvm.ClassFile.Reader Jvm.ClassFile.DecodeError Jvm.ClassFile.Instr) code_ (p_ + 1) = _
  exact (qbind h1).trans rfl
theorem qi127 (h0 : (Jvm.ClassFile.Reader.u1 : Jvm.ClassFile.Reader Jvm.ClassFile.DecodeError Nat) code_ p_ = .ok (127, p_ + 1)) : Jvm.ClassFile.Decoder.instr p_ code_ p_ = .ok (Jvm.ClassFile.Instr.land, p_ + 1) := by
  unfold Jvm.ClassFile.Decoder.instr
  exact (qbind h0).trans rfl
theorem qi189 (h0 : (Jvm.ClassFile.Reader.u1 : Jvm.ClassFile.Reader Jvm.ClassFile.DecodeError Nat) code_ p_ = .ok (189, p_ + 1)) {x : Nat} (h1 : (Jvm.ClassFile.Reader.u2 : Jvm.ClassFile.Reader Jvm.ClassFile.DecodeError Nat) code_ (p_ + 1) = .ok (x, p_ + 3)) : Jvm.ClassFile.Decoder.instr p_ code_ p_ = .ok (Jvm.ClassFile.Instr.anewarray x, p_ + 3) := by
  unfold Jvm.ClassFile.Decoder.instr
  refine (qbind h0).trans ?_
  show (Jvm.ClassFile.Reader.u2 >>= fun a => pure (Jvm.ClassFile.Instr.anewarray a) : Jvm.ClassFile.Reader Jvm.ClassFile.DecodeError Jvm.ClassFile.Instr) code_ (p_ + 1) = _
  exact (qbind h1).trans rfl
theorem qi83 (h0 : (Jvm.ClassFile.Reader.u1 : Jvm.ClassFile.Reader Jvm.ClassFile.DecodeError Nat) code_ p_ = .ok (83, p_ + 1)) : Jvm.ClassFile.Decoder.instr p_ code_ p_ = .ok (Jvm.ClassFile.Instr.aastore, p_ + 1) := by
  unfold Jvm.ClassFile.Decoder.instr
  exact (qbind h0).trans rfl
theorem qi18 (h0 : (Jvm.ClassFile.Reader.u1 : Jvm.ClassFile.Reader Jvm.ClassFile.DecodeError Nat) code_ p_ = .ok (18, p_ + 1)) {x : Nat} (h1 : (Jvm.ClassFile.Reader.u1 : Jvm.ClassFile.Reader Jvm.ClassFile.DecodeError Nat) code_ (p_ + 1) = .ok (x, p_ + 2)) : Jvm.ClassFile.Decoder.instr p_ code_ p_ = .ok (Jvm.ClassFile.Instr.ldc x, p_ + 2) := by
  unfold Jvm.ClassFile.Decoder.instr
  refine (qbind h0).trans ?_
  show (Jvm.ClassFile.Reader.u1 >>= fun a => pure (Jvm.ClassFile.Instr.ldc a) : Jvm.ClassFile.Reader Jvm.ClassFile.DecodeError Jvm.ClassFile.Instr) code_ (p_ + 1) = _
  exact (qbind h1).trans rfl
theorem qi125 (h0 : (Jvm.ClassFile.Reader.u1 : Jvm.ClassFile.Reader Jvm.ClassFile.DecodeError Nat) code_ p_ = .ok (125, p_ + 1)) : Jvm.ClassFile.Decoder.instr p_ code_ p_ = .ok (Jvm.ClassFile.Instr.lushr, p_ + 1) := by
  unfold Jvm.ClassFile.Decoder.instr
  exact (qbind h0).trans rfl
theorem qi63 (h0 : (Jvm.ClassFile.Reader.u1 : Jvm.ClassFile.Reader Jvm.ClassFile.DecodeError Nat) code_ p_ = .ok (63, p_ + 1)) : Jvm.ClassFile.Decoder.instr p_ code_ p_ = .ok (Jvm.ClassFile.Instr.lstore_n 0, p_ + 1) := by
  unfold Jvm.ClassFile.Decoder.instr
  exact (qbind h0).trans rfl
theorem qi126 (h0 : (Jvm.ClassFile.Reader.u1 : Jvm.ClassFile.Reader Jvm.ClassFile.DecodeError Nat) code_ p_ = .ok (126, p_ + 1)) : Jvm.ClassFile.Decoder.instr p_ code_ p_ = .ok (Jvm.ClassFile.Instr.iand, p_ + 1) := by
  unfold Jvm.ClassFile.Decoder.instr
  exact (qbind h0).trans rfl
theorem qi178 (h0 : (Jvm.ClassFile.Reader.u1 : Jvm.ClassFile.Reader Jvm.ClassFile.DecodeError Nat) code_ p_ = .ok (178, p_ + 1)) {x : Nat} (h1 : (Jvm.ClassFile.Reader.u2 : Jvm.ClassFile.Reader Jvm.ClassFile.DecodeError Nat) code_ (p_ + 1) = .ok (x, p_ + 3)) : Jvm.ClassFile.Decoder.instr p_ code_ p_ = .ok (Jvm.ClassFile.Instr.getstatic x, p_ + 3) := by
  unfold Jvm.ClassFile.Decoder.instr
  refine (qbind h0).trans ?_
  show (Jvm.ClassFile.Reader.u2 >>= fun a => pure (Jvm.ClassFile.Instr.getstatic a) : Jvm.ClassFile.Reader Jvm.ClassFile.DecodeError Jvm.ClassFile.Instr) code_ (p_ + 1) = _
  exact (qbind h1).trans rfl
theorem qi97 (h0 : (Jvm.ClassFile.Reader.u1 : Jvm.ClassFile.Reader Jvm.ClassFile.DecodeError Nat) code_ p_ = .ok (97, p_ + 1)) : Jvm.ClassFile.Decoder.instr p_ code_ p_ = .ok (Jvm.ClassFile.Instr.ladd, p_ + 1) := by
  unfold Jvm.ClassFile.Decoder.instr
  exact (qbind h0).trans rfl
theorem qi133 (h0 : (Jvm.ClassFile.Reader.u1 : Jvm.ClassFile.Reader Jvm.ClassFile.DecodeError Nat) code_ p_ = .ok (133, p_ + 1)) : Jvm.ClassFile.Decoder.instr p_ code_ p_ = .ok (Jvm.ClassFile.Instr.i2l, p_ + 1) := by
  unfold Jvm.ClassFile.Decoder.instr
  exact (qbind h0).trans rfl
theorem qi121 (h0 : (Jvm.ClassFile.Reader.u1 : Jvm.ClassFile.Reader Jvm.ClassFile.DecodeError Nat) code_ p_ = .ok (121, p_ + 1)) : Jvm.ClassFile.Decoder.instr p_ code_ p_ = .ok (Jvm.ClassFile.Instr.lshl, p_ + 1) := by
  unfold Jvm.ClassFile.Decoder.instr
  exact (qbind h0).trans rfl
theorem qi129 (h0 : (Jvm.ClassFile.Reader.u1 : Jvm.ClassFile.Reader Jvm.ClassFile.DecodeError Nat) code_ p_ = .ok (129, p_ + 1)) : Jvm.ClassFile.Decoder.instr p_ code_ p_ = .ok (Jvm.ClassFile.Instr.lor, p_ + 1) := by
  unfold Jvm.ClassFile.Decoder.instr
  exact (qbind h0).trans rfl
theorem qi122 (h0 : (Jvm.ClassFile.Reader.u1 : Jvm.ClassFile.Reader Jvm.ClassFile.DecodeError Nat) code_ p_ = .ok (122, p_ + 1)) : Jvm.ClassFile.Decoder.instr p_ code_ p_ = .ok (Jvm.ClassFile.Instr.ishr, p_ + 1) := by
  unfold Jvm.ClassFile.Decoder.instr
  exact (qbind h0).trans rfl
theorem qi176 (h0 : (Jvm.ClassFile.Reader.u1 : Jvm.ClassFile.Reader Jvm.ClassFile.DecodeError Nat) code_ p_ = .ok (176, p_ + 1)) : Jvm.ClassFile.Decoder.instr p_ code_ p_ = .ok (Jvm.ClassFile.Instr.areturn, p_ + 1) := by
  unfold Jvm.ClassFile.Decoder.instr
  exact (qbind h0).trans rfl
theorem qi130 (h0 : (Jvm.ClassFile.Reader.u1 : Jvm.ClassFile.Reader Jvm.ClassFile.DecodeError Nat) code_ p_ = .ok (130, p_ + 1)) : Jvm.ClassFile.Decoder.instr p_ code_ p_ = .ok (Jvm.ClassFile.Instr.ixor, p_ + 1) := by
  unfold Jvm.ClassFile.Decoder.instr
  exact (qbind h0).trans rfl
theorem qi136 (h0 : (Jvm.ClassFile.Reader.u1 : Jvm.ClassFile.Reader Jvm.ClassFile.DecodeError Nat) code_ p_ = .ok (136, p_ + 1)) : Jvm.ClassFile.Decoder.instr p_ code_ p_ = .ok (Jvm.ClassFile.Instr.l2i, p_ + 1) := by
  unfold Jvm.ClassFile.Decoder.instr
  exact (qbind h0).trans rfl
theorem qi120 (h0 : (Jvm.ClassFile.Reader.u1 : Jvm.ClassFile.Reader Jvm.ClassFile.DecodeError Nat) code_ p_ = .ok (120, p_ + 1)) : Jvm.ClassFile.Decoder.instr p_ code_ p_ = .ok (Jvm.ClassFile.Instr.ishl, p_ + 1) := by
  unfold Jvm.ClassFile.Decoder.instr
  exact (qbind h0).trans rfl
theorem qi77 (h0 : (Jvm.ClassFile.Reader.u1 : Jvm.ClassFile.Reader Jvm.ClassFile.DecodeError Nat) code_ p_ = .ok (77, p_ + 1)) : Jvm.ClassFile.Decoder.instr p_ code_ p_ = .ok (Jvm.ClassFile.Instr.astore_n 2, p_ + 1) := by
  unfold Jvm.ClassFile.Decoder.instr
  exact (qbind h0).trans rfl
theorem qi9 (h0 : (Jvm.ClassFile.Reader.u1 : Jvm.ClassFile.Reader Jvm.ClassFile.DecodeError Nat) code_ p_ = .ok (9, p_ + 1)) : Jvm.ClassFile.Decoder.instr p_ code_ p_ = .ok (Jvm.ClassFile.Instr.lconst 0, p_ + 1) := by
  unfold Jvm.ClassFile.Decoder.instr
  exact (qbind h0).trans rfl
theorem qi65 (h0 : (Jvm.ClassFile.Reader.u1 : Jvm.ClassFile.Reader Jvm.ClassFile.DecodeError Nat) code_ p_ = .ok (65, p_ + 1)) : Jvm.ClassFile.Decoder.instr p_ code_ p_ = .ok (Jvm.ClassFile.Instr.lstore_n 2, p_ + 1) := by
  unfold Jvm.ClassFile.Decoder.instr
  exact (qbind h0).trans rfl
theorem qi55 (h0 : (Jvm.ClassFile.Reader.u1 : Jvm.ClassFile.Reader Jvm.ClassFile.DecodeError Nat) code_ p_ = .ok (55, p_ + 1)) {x : Nat} (h1 : (Jvm.ClassFile.Reader.u1 : Jvm.ClassFile.Reader Jvm.ClassFile.DecodeError Nat) code_ (p_ + 1) = .ok (x, p_ + 2)) : Jvm.ClassFile.Decoder.instr p_ code_ p_ = .ok (Jvm.ClassFile.Instr.lstore x, p_ + 2) := by
  unfold Jvm.ClassFile.Decoder.instr
  refine (qbind h0).trans ?_
  show (Jvm.ClassFile.Reader.u1 >>= fun a => pure (Jvm.ClassFile.Instr.lstore a) : Jvm.ClassFile.Reader Jvm.ClassFile.DecodeError Jvm.ClassFile.Instr) code_ (p_ + 1) = _
  exact (qbind h1).trans rfl
theorem qi32 (h0 : (Jvm.ClassFile.Reader.u1 : Jvm.ClassFile.Reader Jvm.ClassFile.DecodeError Nat) code_ p_ = .ok (32, p_ + 1)) : Jvm.ClassFile.Decoder.instr p_ code_ p_ = .ok (Jvm.ClassFile.Instr.lload_n 2, p_ + 1) := by
  unfold Jvm.ClassFile.Decoder.instr
  exact (qbind h0).trans rfl
theorem qi10 (h0 : (Jvm.ClassFile.Reader.u1 : Jvm.ClassFile.Reader Jvm.ClassFile.DecodeError Nat) code_ p_ = .ok (10, p_ + 1)) : Jvm.ClassFile.Decoder.instr p_ code_ p_ = .ok (Jvm.ClassFile.Instr.lconst 1, p_ + 1) := by
  unfold Jvm.ClassFile.Decoder.instr
  exact (qbind h0).trans rfl
theorem qi22 (h0 : (Jvm.ClassFile.Reader.u1 : Jvm.ClassFile.Reader Jvm.ClassFile.DecodeError Nat) code_ p_ = .ok (22, p_ + 1)) {x : Nat} (h1 : (Jvm.ClassFile.Reader.u1 : Jvm.ClassFile.Reader Jvm.ClassFile.DecodeError Nat) code_ (p_ + 1) = .ok (x, p_ + 2)) : Jvm.ClassFile.Decoder.instr p_ code_ p_ = .ok (Jvm.ClassFile.Instr.lload x, p_ + 2) := by
  unfold Jvm.ClassFile.Decoder.instr
  refine (qbind h0).trans ?_
  show (Jvm.ClassFile.Reader.u1 >>= fun a => pure (Jvm.ClassFile.Instr.lload a) : Jvm.ClassFile.Reader Jvm.ClassFile.DecodeError Jvm.ClassFile.Instr) code_ (p_ + 1) = _
  exact (qbind h1).trans rfl
theorem qi124 (h0 : (Jvm.ClassFile.Reader.u1 : Jvm.ClassFile.Reader Jvm.ClassFile.DecodeError Nat) code_ p_ = .ok (124, p_ + 1)) : Jvm.ClassFile.Decoder.instr p_ code_ p_ = .ok (Jvm.ClassFile.Instr.iushr, p_ + 1) := by
  unfold Jvm.ClassFile.Decoder.instr
  exact (qbind h0).trans rfl
theorem qi31 (h0 : (Jvm.ClassFile.Reader.u1 : Jvm.ClassFile.Reader Jvm.ClassFile.DecodeError Nat) code_ p_ = .ok (31, p_ + 1)) : Jvm.ClassFile.Decoder.instr p_ code_ p_ = .ok (Jvm.ClassFile.Instr.lload_n 1, p_ + 1) := by
  unfold Jvm.ClassFile.Decoder.instr
  exact (qbind h0).trans rfl
theorem qi19 (h0 : (Jvm.ClassFile.Reader.u1 : Jvm.ClassFile.Reader Jvm.ClassFile.DecodeError Nat) code_ p_ = .ok (19, p_ + 1)) {x : Nat} (h1 : (Jvm.ClassFile.Reader.u2 : Jvm.ClassFile.Reader Jvm.ClassFile.DecodeError Nat) code_ (p_ + 1) = .ok (x, p_ + 3)) : Jvm.ClassFile.Decoder.instr p_ code_ p_ = .ok (Jvm.ClassFile.Instr.ldc_w x, p_ + 3) := by
  unfold Jvm.ClassFile.Decoder.instr
  refine (qbind h0).trans ?_
  show (Jvm.ClassFile.Reader.u2 >>= fun a => pure (Jvm.ClassFile.Instr.ldc_w a) : Jvm.ClassFile.Reader Jvm.ClassFile.DecodeError Jvm.ClassFile.Instr) code_ (p_ + 1) = _
  exact (qbind h1).trans rfl
theorem qi128 (h0 : (Jvm.ClassFile.Reader.u1 : Jvm.ClassFile.Reader Jvm.ClassFile.DecodeError Nat) code_ p_ = .ok (128, p_ + 1)) : Jvm.ClassFile.Decoder.instr p_ code_ p_ = .ok (Jvm.ClassFile.Instr.ior, p_ + 1) := by
  unfold Jvm.ClassFile.Decoder.instr
  exact (qbind h0).trans rfl
theorem qi116 (h0 : (Jvm.ClassFile.Reader.u1 : Jvm.ClassFile.Reader Jvm.ClassFile.DecodeError Nat) code_ p_ = .ok (116, p_ + 1)) : Jvm.ClassFile.Decoder.instr p_ code_ p_ = .ok (Jvm.ClassFile.Instr.ineg, p_ + 1) := by
  unfold Jvm.ClassFile.Decoder.instr
  exact (qbind h0).trans rfl
theorem qi76 (h0 : (Jvm.ClassFile.Reader.u1 : Jvm.ClassFile.Reader Jvm.ClassFile.DecodeError Nat) code_ p_ = .ok (76, p_ + 1)) : Jvm.ClassFile.Decoder.instr p_ code_ p_ = .ok (Jvm.ClassFile.Instr.astore_n 1, p_ + 1) := by
  unfold Jvm.ClassFile.Decoder.instr
  exact (qbind h0).trans rfl
theorem qi1 (h0 : (Jvm.ClassFile.Reader.u1 : Jvm.ClassFile.Reader Jvm.ClassFile.DecodeError Nat) code_ p_ = .ok (1, p_ + 1)) : Jvm.ClassFile.Decoder.instr p_ code_ p_ = .ok (Jvm.ClassFile.Instr.aconst_null, p_ + 1) := by
  unfold Jvm.ClassFile.Decoder.instr
  exact (qbind h0).trans rfl
theorem qi146 (h0 : (Jvm.ClassFile.Reader.u1 : Jvm.ClassFile.Reader Jvm.ClassFile.DecodeError Nat) code_ p_ = .ok (146, p_ + 1)) : Jvm.ClassFile.Decoder.instr p_ code_ p_ = .ok (Jvm.ClassFile.Instr.i2c, p_ + 1) := by
  unfold Jvm.ClassFile.Decoder.instr
  exact (qbind h0).trans rfl
theorem qi157 (h0 : (Jvm.ClassFile.Reader.u1 : Jvm.ClassFile.Reader Jvm.ClassFile.DecodeError Nat) code_ p_ = .ok (157, p_ + 1)) {x : Int} (h1 : (Jvm.ClassFile.Reader.s2 : Jvm.ClassFile.Reader Jvm.ClassFile.DecodeError Int) code_ (p_ + 1) = .ok (x, p_ + 3)) : Jvm.ClassFile.Decoder.instr p_ code_ p_ = .ok (Jvm.ClassFile.Instr.ifCond .gt x, p_ + 3) := by
  unfold Jvm.ClassFile.Decoder.instr
  refine (qbind h0).trans ?_
  show (Jvm.ClassFile.Reader.s2 >>= fun a => pure (Jvm.ClassFile.Instr.ifCond .gt a) : Jvm.ClassFile.Reader Jvm.ClassFile.DecodeError Jvm.ClassFile.Instr) code_ (p_ + 1) = _
  exact (qbind h1).trans rfl
theorem qi145 (h0 : (Jvm.ClassFile.Reader.u1 : Jvm.ClassFile.Reader Jvm.ClassFile.DecodeError Nat) code_ p_ = .ok (145, p_ + 1)) : Jvm.ClassFile.Decoder.instr p_ code_ p_ = .ok (Jvm.ClassFile.Instr.i2b, p_ + 1) := by
  unfold Jvm.ClassFile.Decoder.instr
  exact (qbind h0).trans rfl
theorem qi147 (h0 : (Jvm.ClassFile.Reader.u1 : Jvm.ClassFile.Reader Jvm.ClassFile.DecodeError Nat) code_ p_ = .ok (147, p_ + 1)) : Jvm.ClassFile.Decoder.instr p_ code_ p_ = .ok (Jvm.ClassFile.Instr.i2s, p_ + 1) := by
  unfold Jvm.ClassFile.Decoder.instr
  exact (qbind h0).trans rfl
theorem qi199 (h0 : (Jvm.ClassFile.Reader.u1 : Jvm.ClassFile.Reader Jvm.ClassFile.DecodeError Nat) code_ p_ = .ok (199, p_ + 1)) {x : Int} (h1 : (Jvm.ClassFile.Reader.s2 : Jvm.ClassFile.Reader Jvm.ClassFile.DecodeError Int) code_ (p_ + 1) = .ok (x, p_ + 3)) : Jvm.ClassFile.Decoder.instr p_ code_ p_ = .ok (Jvm.ClassFile.Instr.ifnonnull x, p_ + 3) := by
  unfold Jvm.ClassFile.Decoder.instr
  refine (qbind h0).trans ?_
  show (Jvm.ClassFile.Reader.s2 >>= fun a => pure (Jvm.ClassFile.Instr.ifnonnull a) : Jvm.ClassFile.Reader Jvm.ClassFile.DecodeError Jvm.ClassFile.Instr) code_ (p_ + 1) = _
  exact (qbind h1).trans rfl
theorem qi123 (h0 : (Jvm.ClassFile.Reader.u1 : Jvm.ClassFile.Reader Jvm.ClassFile.DecodeError Nat) code_ p_ = .ok (123, p_ + 1)) : Jvm.ClassFile.Decoder.instr p_ code_ p_ = .ok (Jvm.ClassFile.Instr.lshr, p_ + 1) := by
  unfold Jvm.ClassFile.Decoder.instr
  exact (qbind h0).trans rfl
theorem qi101 (h0 : (Jvm.ClassFile.Reader.u1 : Jvm.ClassFile.Reader Jvm.ClassFile.DecodeError Nat) code_ p_ = .ok (101, p_ + 1)) : Jvm.ClassFile.Decoder.instr p_ code_ p_ = .ok (Jvm.ClassFile.Instr.lsub, p_ + 1) := by
  unfold Jvm.ClassFile.Decoder.instr
  exact (qbind h0).trans rfl
def fd0 (o a b : Nat) : Option (Jvm.ClassFile.Instr × Nat) := bif Nat.beq o 42 then some (Jvm.ClassFile.Instr.aload_n 0, 1) else (bif Nat.beq o 180 then some (Jvm.ClassFile.Instr.getfield (a * 256 + b), 3) else (bif Nat.beq o 182 then some (Jvm.ClassFile.Instr.invokevirtual (a * 256 + b), 3) else (bif Nat.beq o 4 then some (Jvm.ClassFile.Instr.iconst 1, 1) else (bif Nat.beq o 172 then some (Jvm.ClassFile.Instr.ireturn, 1) else (bif Nat.beq o 29 then some (Jvm.ClassFile.Instr.iload_n 3, 1) else (bif Nat.beq o 27 then some (Jvm.ClassFile.Instr.iload_n 1, 1) else (bif Nat.beq o 3 then some (Jvm.ClassFile.Instr.iconst 0, 1) else (bif Nat.beq o 16 then some (Jvm.ClassFile.Instr.bipush (Jvm.ClassFile.Reader.signed 8 a), 2) else (bif Nat.beq o 46 then some (Jvm.ClassFile.Instr.iaload, 1) else (none))))))))))
theorem fd0_ok {k o a b : Nat} {r : Jvm.ClassFile.Instr × Nat} (H : qhy code_ p_ k o a b) (hk : r.2 ≤ k) (h : fd0 o a b = some r) : decode code_ p_ = .ok r := by
  obtain ⟨h0, h1, h2⟩ := H
  unfold fd0 at h
  cases hq42 : (Nat.beq o 42) with
  | true =>
    rw [hq42] at h
    cases h
    rw [Nat.eq_of_beq_eq_true hq42] at h0
    exact qdec (qi42 h0)
  | false =>
  rw [hq42] at h
  simp only [cond_false] at h
  cases hq180 : (Nat.beq o 180) with
  | true =>
    rw [hq180] at h
    cases h
    rw [Nat.eq_of_beq_eq_true hq180] at h0
    exact qdec (qi180 h0 (qu2 (h1 (Nat.le_of_succ_le hk)) (h2 hk)))
  | false =>
  rw [hq180] at h
  simp only [cond_false] at h
  cases hq182 : (Nat.beq o 182) with
  | true =>
    rw [hq182] at h
    cases h
    rw [Nat.eq_of_beq_eq_true hq182] at h0
    exact qdec (qi182 h0 (qu2 (h1 (Nat.le_of_succ_le hk)) (h2 hk)))
  | false =>
  rw [hq182] at h
  simp only [cond_false] at h
  cases hq4 : (Nat.beq o 4) with
  | true =>
    rw [hq4] at h
    cases h
    rw [Nat.eq_of_beq_eq_true hq4] at h0
    exact qdec (qi4 h0)
  | false =>
  rw [hq4] at h
  simp only [cond_false] at h
  cases hq172 : (Nat.beq o 172) with
  | true =>
    rw [hq172] at h
    cases h
    rw [Nat.eq_of_beq_eq_true hq172] at h0
    exact qdec (qi172 h0)
  | false =>
  rw [hq172] at h
  simp only [cond_false] at h
  cases hq29 : (Nat.beq o 29) with
  | true =>
    rw [hq29] at h
    cases h
    rw [Nat.eq_of_beq_eq_true hq29] at h0
    exact qdec (qi29 h0)
  | false =>
  rw [hq29] at h
  simp only [cond_false] at h
  cases hq27 : (Nat.beq o 27) with
  | true =>
    rw [hq27] at h
    cases h
    rw [Nat.eq_of_beq_eq_true hq27] at h0
    exact qdec (qi27 h0)
  | false =>
  rw [hq27] at h
  simp only [cond_false] at h
  cases hq3 : (Nat.beq o 3) with
  | true =>
    rw [hq3] at h
    cases h
    rw [Nat.eq_of_beq_eq_true hq3] at h0
    exact qdec (qi3 h0)
  | false =>
  rw [hq3] at h
  simp only [cond_false] at h
  cases hq16 : (Nat.beq o 16) with
  | true =>
    rw [hq16] at h
    cases h
    rw [Nat.eq_of_beq_eq_true hq16] at h0
    exact qdec (qi16 h0 (qs1 (h1 hk)))
  | false =>
  rw [hq16] at h
  simp only [cond_false] at h
  cases hq46 : (Nat.beq o 46) with
  | true =>
    rw [hq46] at h
    cases h
    rw [Nat.eq_of_beq_eq_true hq46] at h0
    exact qdec (qi46 h0)
  | false =>
  rw [hq46] at h
  simp only [cond_false] at h
  cases h
def fd1 (o a b : Nat) : Option (Jvm.ClassFile.Instr × Nat) := bif Nat.beq o 96 then some (Jvm.ClassFile.Instr.iadd, 1) else (bif Nat.beq o 28 then some (Jvm.ClassFile.Instr.iload_n 2, 1) else (bif Nat.beq o 167 then some (Jvm.ClassFile.Instr.goto (Jvm.ClassFile.Reader.signed 16 (a * 256 + b)), 3) else (bif Nat.beq o 21 then some (Jvm.ClassFile.Instr.iload a, 2) else (bif Nat.beq o 181 then some (Jvm.ClassFile.Instr.putfield (a * 256 + b), 3) else (bif Nat.beq o 153 then some (Jvm.ClassFile.Instr.ifCond .eq (Jvm.ClassFile.Reader.signed 16 (a * 256 + b)), 3) else (bif Nat.beq o 5 then some (Jvm.ClassFile.Instr.iconst 2, 1) else (bif Nat.beq o 154 then some (Jvm.ClassFile.Instr.ifCond .ne (Jvm.ClassFile.Reader.signed 16 (a * 256 + b)), 3) else (bif Nat.beq o 43 then some (Jvm.ClassFile.Instr.aload_n 1, 1) else (bif Nat.beq o 184 then some (Jvm.ClassFile.Instr.invokestatic (a * 256 + b), 3) else (none))))))))))
theorem fd1_ok {k o a b : Nat} {r : Jvm.ClassFile.Instr × Nat} (H : qhy code_ p_ k o a b) (hk : r.2 ≤ k) (h : fd1 o a b = some r) : decode code_ p_ = .ok r := by
  obtain ⟨h0, h1, h2⟩ := H
  unfold fd1 at h
  cases hq96 : (Nat.beq o 96) with
  | true =>
    rw [hq96] at h
    cases h
    rw [Nat.eq_of_beq_eq_true hq96] at h0
    exact qdec (qi96 h0)
  | false =>
  rw [hq96] at h
  simp only [cond_false] at h
  cases hq28 : (Nat.beq o 28) with
  | true =>
    rw [hq28] at h
    cases h
    rw [Nat.eq_of_beq_eq_true hq28] at h0
    exact qdec (qi28 h0)
  | false =>
  rw [hq28] at h
  simp only [cond_false] at h
  cases hq167 : (Nat.beq o 167) with
  | true =>
    rw [hq167] at h
    cases h
    rw [Nat.eq_of_beq_eq_true hq167] at h0
    exact qdec (qi167 h0 (qs2 (qu2 (h1 (Nat.le_of_succ_le hk)) (h2 hk))))
  | false =>
  rw [hq167] at h
  simp only [cond_false] at h
  cases hq21 : (Nat.beq o 21) with
  | true =>
    rw [hq21] at h
    cases h
    rw [Nat.eq_of_beq_eq_true hq21] at h0
    exact qdec (qi21 h0 (h1 hk))
  | false =>
  rw [hq21] at h
  simp only [cond_false] at h
  cases hq181 : (Nat.beq o 181) with
  | true =>
    rw [hq181] at h
    cases h
    rw [Nat.eq_of_beq_eq_true hq181] at h0
    exact qdec (qi181 h0 (qu2 (h1 (Nat.le_of_succ_le hk)) (h2 hk)))
  | false =>
  rw [hq181] at h
  simp only [cond_false] at h
  cases hq153 : (Nat.beq o 153) with
  | true =>
    rw [hq153] at h
    cases h
    rw [Nat.eq_of_beq_eq_true hq153] at h0
    exact qdec (qi153 h0 (qs2 (qu2 (h1 (Nat.le_of_succ_le hk)) (h2 hk))))
  | false =>
  rw [hq153] at h
  simp only [cond_false] at h
  cases hq5 : (Nat.beq o 5) with
  | true =>
    rw [hq5] at h
    cases h
    rw [Nat.eq_of_beq_eq_true hq5] at h0
    exact qdec (qi5 h0)
  | false =>
  rw [hq5] at h
  simp only [cond_false] at h
  cases hq154 : (Nat.beq o 154) with
  | true =>
    rw [hq154] at h
    cases h
    rw [Nat.eq_of_beq_eq_true hq154] at h0
    exact qdec (qi154 h0 (qs2 (qu2 (h1 (Nat.le_of_succ_le hk)) (h2 hk))))
  | false =>
  rw [hq154] at h
  simp only [cond_false] at h
  cases hq43 : (Nat.beq o 43) with
  | true =>
    rw [hq43] at h
    cases h
    rw [Nat.eq_of_beq_eq_true hq43] at h0
    exact qdec (qi43 h0)
  | false =>
  rw [hq43] at h
  simp only [cond_false] at h
  cases hq184 : (Nat.beq o 184) with
  | true =>
    rw [hq184] at h
    cases h
    rw [Nat.eq_of_beq_eq_true hq184] at h0
    exact qdec (qi184 h0 (qu2 (h1 (Nat.le_of_succ_le hk)) (h2 hk)))
  | false =>
  rw [hq184] at h
  simp only [cond_false] at h
  cases h
def fd2 (o a b : Nat) : Option (Jvm.ClassFile.Instr × Nat) := bif Nat.beq o 54 then some (Jvm.ClassFile.Instr.istore a, 2) else (bif Nat.beq o 162 then some (Jvm.ClassFile.Instr.if_icmp .ge (Jvm.ClassFile.Reader.signed 16 (a * 256 + b)), 3) else (bif Nat.beq o 87 then some (Jvm.ClassFile.Instr.pop, 1) else (bif Nat.beq o 132 then some (Jvm.ClassFile.Instr.iinc a (Jvm.ClassFile.Reader.signed 8 b), 3) else (bif Nat.beq o 79 then some (Jvm.ClassFile.Instr.iastore, 1) else (bif Nat.beq o 160 then some (Jvm.ClassFile.Instr.if_icmp .ne (Jvm.ClassFile.Reader.signed 16 (a * 256 + b)), 3) else (bif Nat.beq o 44 then some (Jvm.ClassFile.Instr.aload_n 2, 1) else (bif Nat.beq o 100 then some (Jvm.ClassFile.Instr.isub, 1) else (bif Nat.beq o 62 then some (Jvm.ClassFile.Instr.istore_n 3, 1) else (bif Nat.beq o 61 then some (Jvm.ClassFile.Instr.istore_n 2, 1) else (none))))))))))
theorem fd2_ok {k o a b : Nat} {r : Jvm.ClassFile.Instr × Nat} (H : qhy code_ p_ k o a b) (hk : r.2 ≤ k) (h : fd2 o a b = some r) : decode code_ p_ = .ok r := by
  obtain ⟨h0, h1, h2⟩ := H
  unfold fd2 at h
  cases hq54 : (Nat.beq o 54) with
  | true =>
    rw [hq54] at h
    cases h
    rw [Nat.eq_of_beq_eq_true hq54] at h0
    exact qdec (qi54 h0 (h1 hk))
  | false =>
  rw [hq54] at h
  simp only [cond_false] at h
  cases hq162 : (Nat.beq o 162) with
  | true =>
    rw [hq162] at h
    cases h
    rw [Nat.eq_of_beq_eq_true hq162] at h0
    exact qdec (qi162 h0 (qs2 (qu2 (h1 (Nat.le_of_succ_le hk)) (h2 hk))))
  | false =>
  rw [hq162] at h
  simp only [cond_false] at h
  cases hq87 : (Nat.beq o 87) with
  | true =>
    rw [hq87] at h
    cases h
    rw [Nat.eq_of_beq_eq_true hq87] at h0
    exact qdec (qi87 h0)
  | false =>
  rw [hq87] at h
  simp only [cond_false] at h
  cases hq132 : (Nat.beq o 132) with
  | true =>
    rw [hq132] at h
    cases h
    rw [Nat.eq_of_beq_eq_true hq132] at h0
    exact qdec (qi132 h0 (h1 (Nat.le_of_succ_le hk)) (qs1 (h2 hk)))
  | false =>
  rw [hq132] at h
  simp only [cond_false] at h
  cases hq79 : (Nat.beq o 79) with
  | true =>
    rw [hq79] at h
    cases h
    rw [Nat.eq_of_beq_eq_true hq79] at h0
    exact qdec (qi79 h0)
  | false =>
  rw [hq79] at h
  simp only [cond_false] at h
  cases hq160 : (Nat.beq o 160) with
  | true =>
    rw [hq160] at h
    cases h
    rw [Nat.eq_of_beq_eq_true hq160] at h0
    exact qdec (qi160 h0 (qs2 (qu2 (h1 (Nat.le_of_succ_le hk)) (h2 hk))))
  | false =>
  rw [hq160] at h
  simp only [cond_false] at h
  cases hq44 : (Nat.beq o 44) with
  | true =>
    rw [hq44] at h
    cases h
    rw [Nat.eq_of_beq_eq_true hq44] at h0
    exact qdec (qi44 h0)
  | false =>
  rw [hq44] at h
  simp only [cond_false] at h
  cases hq100 : (Nat.beq o 100) with
  | true =>
    rw [hq100] at h
    cases h
    rw [Nat.eq_of_beq_eq_true hq100] at h0
    exact qdec (qi100 h0)
  | false =>
  rw [hq100] at h
  simp only [cond_false] at h
  cases hq62 : (Nat.beq o 62) with
  | true =>
    rw [hq62] at h
    cases h
    rw [Nat.eq_of_beq_eq_true hq62] at h0
    exact qdec (qi62 h0)
  | false =>
  rw [hq62] at h
  simp only [cond_false] at h
  cases hq61 : (Nat.beq o 61) with
  | true =>
    rw [hq61] at h
    cases h
    rw [Nat.eq_of_beq_eq_true hq61] at h0
    exact qdec (qi61 h0)
  | false =>
  rw [hq61] at h
  simp only [cond_false] at h
  cases h
def fd3 (o a b : Nat) : Option (Jvm.ClassFile.Instr × Nat) := bif Nat.beq o 89 then some (Jvm.ClassFile.Instr.dup, 1) else (bif Nat.beq o 50 then some (Jvm.ClassFile.Instr.aaload, 1) else (bif Nat.beq o 6 then some (Jvm.ClassFile.Instr.iconst 3, 1) else (bif Nat.beq o 26 then some (Jvm.ClassFile.Instr.iload_n 0, 1) else (bif Nat.beq o 104 then some (Jvm.ClassFile.Instr.imul, 1) else (bif Nat.beq o 177 then some (Jvm.ClassFile.Instr.return_, 1) else (bif Nat.beq o 183 then some (Jvm.ClassFile.Instr.invokespecial (a * 256 + b), 3) else (bif Nat.beq o 159 then some (Jvm.ClassFile.Instr.if_icmp .eq (Jvm.ClassFile.Reader.signed 16 (a * 256 + b)), 3) else (bif Nat.beq o 7 then some (Jvm.ClassFile.Instr.iconst 4, 1) else (bif Nat.beq o 17 then some (Jvm.ClassFile.Instr.sipush (Jvm.ClassFile.Reader.signed 16 (a * 256 + b)), 3) else (none))))))))))
theorem fd3_ok {k o a b : Nat} {r : Jvm.ClassFile.Instr × Nat} (H : qhy code_ p_ k o a b) (hk : r.2 ≤ k) (h : fd3 o a b = some r) : decode code_ p_ = .ok r := by
  obtain ⟨h0, h1, h2⟩ := H
  unfold fd3 at h
  cases hq89 : (Nat.beq o 89) with
  | true =>
    rw [hq89] at h
    cases h
    rw [Nat.eq_of_beq_eq_true hq89] at h0
    exact qdec (qi89 h0)
  | false =>
  rw [hq89] at h
  simp only [cond_false] at h
  cases hq50 : (Nat.beq o 50) with
  | true =>
    rw [hq50] at h
    cases h
    rw [Nat.eq_of_beq_eq_true hq50] at h0
    exact qdec (qi50 h0)
  | false =>
  rw [hq50] at h
  simp only [cond_false] at h
  cases hq6 : (Nat.beq o 6) with
  | true =>
    rw [hq6] at h
    cases h
    rw [Nat.eq_of_beq_eq_true hq6] at h0
    exact qdec (qi6 h0)
  | false =>
  rw [hq6] at h
  simp only [cond_false] at h
  cases hq26 : (Nat.beq o 26) with
  | true =>
    rw [hq26] at h
    cases h
    rw [Nat.eq_of_beq_eq_true hq26] at h0
    exact qdec (qi26 h0)
  | false =>
  rw [hq26] at h
  simp only [cond_false] at h
  cases hq104 : (Nat.beq o 104) with
  | true =>
    rw [hq104] at h
    cases h
    rw [Nat.eq_of_beq_eq_true hq104] at h0
    exact qdec (qi104 h0)
  | false =>
  rw [hq104] at h
  simp only [cond_false] at h
  cases hq177 : (Nat.beq o 177) with
  | true =>
    rw [hq177] at h
    cases h
    rw [Nat.eq_of_beq_eq_true hq177] at h0
    exact qdec (qi177 h0)
  | false =>
  rw [hq177] at h
  simp only [cond_false] at h
  cases hq183 : (Nat.beq o 183) with
  | true =>
    rw [hq183] at h
    cases h
    rw [Nat.eq_of_beq_eq_true hq183] at h0
    exact qdec (qi183 h0 (qu2 (h1 (Nat.le_of_succ_le hk)) (h2 hk)))
  | false =>
  rw [hq183] at h
  simp only [cond_false] at h
  cases hq159 : (Nat.beq o 159) with
  | true =>
    rw [hq159] at h
    cases h
    rw [Nat.eq_of_beq_eq_true hq159] at h0
    exact qdec (qi159 h0 (qs2 (qu2 (h1 (Nat.le_of_succ_le hk)) (h2 hk))))
  | false =>
  rw [hq159] at h
  simp only [cond_false] at h
  cases hq7 : (Nat.beq o 7) with
  | true =>
    rw [hq7] at h
    cases h
    rw [Nat.eq_of_beq_eq_true hq7] at h0
    exact qdec (qi7 h0)
  | false =>
  rw [hq7] at h
  simp only [cond_false] at h
  cases hq17 : (Nat.beq o 17) with
  | true =>
    rw [hq17] at h
    cases h
    rw [Nat.eq_of_beq_eq_true hq17] at h0
    exact qdec (qi17 h0 (qs2 (qu2 (h1 (Nat.le_of_succ_le hk)) (h2 hk))))
  | false =>
  rw [hq17] at h
  simp only [cond_false] at h
  cases h
def fd4 (o a b : Nat) : Option (Jvm.ClassFile.Instr × Nat) := bif Nat.beq o 155 then some (Jvm.ClassFile.Instr.ifCond .lt (Jvm.ClassFile.Reader.signed 16 (a * 256 + b)), 3) else (bif Nat.beq o 187 then some (Jvm.ClassFile.Instr.new (a * 256 + b), 3) else (bif Nat.beq o 161 then some (Jvm.ClassFile.Instr.if_icmp .lt (Jvm.ClassFile.Reader.signed 16 (a * 256 + b)), 3) else (bif Nat.beq o 164 then some (Jvm.ClassFile.Instr.if_icmp .le (Jvm.ClassFile.Reader.signed 16 (a * 256 + b)), 3) else (bif Nat.beq o 45 then some (Jvm.ClassFile.Instr.aload_n 3, 1) else (bif Nat.beq o 163 then some (Jvm.ClassFile.Instr.if_icmp .gt (Jvm.ClassFile.Reader.signed 16 (a * 256 + b)), 3) else (bif Nat.beq o 2 then some (Jvm.ClassFile.Instr.iconst (-1), 1) else (bif Nat.beq o 60 then some (Jvm.ClassFile.Instr.istore_n 1, 1) else (bif Nat.beq o 25 then some (Jvm.ClassFile.Instr.aload a, 2) else (bif Nat.beq o 112 then some (Jvm.ClassFile.Instr.irem, 1) else (none))))))))))
theorem fd4_ok {k o a b : Nat} {r : Jvm.ClassFile.Instr × Nat} (H : qhy code_ p_ k o a b) (hk : r.2 ≤ k) (h : fd4 o a b = some r) : decode code_ p_ = .ok r := by
  obtain ⟨h0, h1, h2⟩ := H
  unfold fd4 at h
  cases hq155 : (Nat.beq o 155) with
  | true =>
    rw [hq155] at h
    cases h
    rw [Nat.eq_of_beq_eq_true hq155] at h0
    exact qdec (qi155 h0 (qs2 (qu2 (h1 (Nat.le_of_succ_le hk)) (h2 hk))))
  | false =>
  rw [hq155] at h
  simp only [cond_false] at h
  cases hq187 : (Nat.beq o 187) with
  | true =>
    rw [hq187] at h
    cases h
    rw [Nat.eq_of_beq_eq_true hq187] at h0
    exact qdec (qi187 h0 (qu2 (h1 (Nat.le_of_succ_le hk)) (h2 hk)))
  | false =>
  rw [hq187] at h
  simp only [cond_false] at h
  cases hq161 : (Nat.beq o 161) with
  | true =>
    rw [hq161] at h
    cases h
    rw [Nat.eq_of_beq_eq_true hq161] at h0
    exact qdec (qi161 h0 (qs2 (qu2 (h1 (Nat.le_of_succ_le hk)) (h2 hk))))
  | false =>
  rw [hq161] at h
  simp only [cond_false] at h
  cases hq164 : (Nat.beq o 164) with
  | true =>
    rw [hq164] at h
    cases h
    rw [Nat.eq_of_beq_eq_true hq164] at h0
    exact qdec (qi164 h0 (qs2 (qu2 (h1 (Nat.le_of_succ_le hk)) (h2 hk))))
  | false =>
  rw [hq164] at h
  simp only [cond_false] at h
  cases hq45 : (Nat.beq o 45) with
  | true =>
    rw [hq45] at h
    cases h
    rw [Nat.eq_of_beq_eq_true hq45] at h0
    exact qdec (qi45 h0)
  | false =>
  rw [hq45] at h
  simp only [cond_false] at h
  cases hq163 : (Nat.beq o 163) with
  | true =>
    rw [hq163] at h
    cases h
    rw [Nat.eq_of_beq_eq_true hq163] at h0
    exact qdec (qi163 h0 (qs2 (qu2 (h1 (Nat.le_of_succ_le hk)) (h2 hk))))
  | false =>
  rw [hq163] at h
  simp only [cond_false] at h
  cases hq2 : (Nat.beq o 2) with
  | true =>
    rw [hq2] at h
    cases h
    rw [Nat.eq_of_beq_eq_true hq2] at h0
    exact qdec (qi2 h0)
  | false =>
  rw [hq2] at h
  simp only [cond_false] at h
  cases hq60 : (Nat.beq o 60) with
  | true =>
    rw [hq60] at h
    cases h
    rw [Nat.eq_of_beq_eq_true hq60] at h0
    exact qdec (qi60 h0)
  | false =>
  rw [hq60] at h
  simp only [cond_false] at h
  cases hq25 : (Nat.beq o 25) with
  | true =>
    rw [hq25] at h
    cases h
    rw [Nat.eq_of_beq_eq_true hq25] at h0
    exact qdec (qi25 h0 (h1 hk))
  | false =>
  rw [hq25] at h
  simp only [cond_false] at h
  cases hq112 : (Nat.beq o 112) with
  | true =>
    rw [hq112] at h
    cases h
    rw [Nat.eq_of_beq_eq_true hq112] at h0
    exact qdec (qi112 h0)
  | false =>
  rw [hq112] at h
  simp only [cond_false] at h
  cases h
def fd5 (o a b : Nat) : Option (Jvm.ClassFile.Instr × Nat) := bif Nat.beq o 8 then some (Jvm.ClassFile.Instr.iconst 5, 1) else (bif Nat.beq o 108 then some (Jvm.ClassFile.Instr.idiv, 1) else (bif Nat.beq o 188 && Nat.beq a 10 then some (Jvm.ClassFile.Instr.newarray .int, 2) else (bif Nat.beq o 190 then some (Jvm.ClassFile.Instr.arraylength, 1) else (bif Nat.beq o 30 then some (Jvm.ClassFile.Instr.lload_n 0, 1) else (bif Nat.beq o 92 then some (Jvm.ClassFile.Instr.dup2, 1) else (bif Nat.beq o 156 then some (Jvm.ClassFile.Instr.ifCond .ge (Jvm.ClassFile.Reader.signed 16 (a * 256 + b)), 3) else (bif Nat.beq o 158 then some (Jvm.ClassFile.Instr.ifCond .le (Jvm.ClassFile.Reader.signed 16 (a * 256 + b)), 3) else (bif Nat.beq o 58 then some (Jvm.ClassFile.Instr.astore a, 2) else (bif Nat.beq o 78 then some (Jvm.ClassFile.Instr.astore_n 3, 1) else (none))))))))))
theorem fd5_ok {k o a b : Nat} {r : Jvm.ClassFile.Instr × Nat} (H : qhy code_ p_ k o a b) (hk : r.2 ≤ k) (h : fd5 o a b = some r) : decode code_ p_ = .ok r := by
  obtain ⟨h0, h1, h2⟩ := H
  unfold fd5 at h
  cases hq8 : (Nat.beq o 8) with
  | true =>
    rw [hq8] at h
    cases h
    rw [Nat.eq_of_beq_eq_true hq8] at h0
    exact qdec (qi8 h0)
  | false =>
  rw [hq8] at h
  simp only [cond_false] at h
  cases hq108 : (Nat.beq o 108) with
  | true =>
    rw [hq108] at h
    cases h
    rw [Nat.eq_of_beq_eq_true hq108] at h0
    exact qdec (qi108 h0)
  | false =>
  rw [hq108] at h
  simp only [cond_false] at h
  cases hq188 : (Nat.beq o 188 && Nat.beq a 10) with
  | true =>
    rw [hq188] at h
    cases h
    simp only [Bool.and_eq_true] at hq188
    rw [Nat.eq_of_beq_eq_true hq188.1] at h0
    have g1 := h1 hk
    rw [Nat.eq_of_beq_eq_true hq188.2] at g1
    exact qdec (qi188 h0 g1)
  | false =>
  rw [hq188] at h
  simp only [cond_false] at h
  cases hq190 : (Nat.beq o 190) with
  | true =>
    rw [hq190] at h
    cases h
    rw [Nat.eq_of_beq_eq_true hq190] at h0
    exact qdec (qi190 h0)
  | false =>
  rw [hq190] at h
  simp only [cond_false] at h
  cases hq30 : (Nat.beq o 30) with
  | true =>
    rw [hq30] at h
    cases h
    rw [Nat.eq_of_beq_eq_true hq30] at h0
    exact qdec (qi30 h0)
  | false =>
  rw [hq30] at h
  simp only [cond_false] at h
  cases hq92 : (Nat.beq o 92) with
  | true =>
    rw [hq92] at h
    cases h
    rw [Nat.eq_of_beq_eq_true hq92] at h0
    exact qdec (qi92 h0)
  | false =>
  rw [hq92] at h
  simp only [cond_false] at h
  cases hq156 : (Nat.beq o 156) with
  | true =>
    rw [hq156] at h
    cases h
    rw [Nat.eq_of_beq_eq_true hq156] at h0
    exact qdec (qi156 h0 (qs2 (qu2 (h1 (Nat.le_of_succ_le hk)) (h2 hk))))
  | false =>
  rw [hq156] at h
  simp only [cond_false] at h
  cases hq158 : (Nat.beq o 158) with
  | true =>
    rw [hq158] at h
    cases h
    rw [Nat.eq_of_beq_eq_true hq158] at h0
    exact qdec (qi158 h0 (qs2 (qu2 (h1 (Nat.le_of_succ_le hk)) (h2 hk))))
  | false =>
  rw [hq158] at h
  simp only [cond_false] at h
  cases hq58 : (Nat.beq o 58) with
  | true =>
    rw [hq58] at h
    cases h
    rw [Nat.eq_of_beq_eq_true hq58] at h0
    exact qdec (qi58 h0 (h1 hk))
  | false =>
  rw [hq58] at h
  simp only [cond_false] at h
  cases hq78 : (Nat.beq o 78) with
  | true =>
    rw [hq78] at h
    cases h
    rw [Nat.eq_of_beq_eq_true hq78] at h0
    exact qdec (qi78 h0)
  | false =>
  rw [hq78] at h
  simp only [cond_false] at h
  cases h
def fd6 (o a b : Nat) : Option (Jvm.ClassFile.Instr × Nat) := bif Nat.beq o 20 then some (Jvm.ClassFile.Instr.ldc2_w (a * 256 + b), 3) else (bif Nat.beq o 127 then some (Jvm.ClassFile.Instr.land, 1) else (bif Nat.beq o 189 then some (Jvm.ClassFile.Instr.anewarray (a * 256 + b), 3) else (bif Nat.beq o 83 then some (Jvm.ClassFile.Instr.aastore, 1) else (bif Nat.beq o 18 then some (Jvm.ClassFile.Instr.ldc a, 2) else (bif Nat.beq o 125 then some (Jvm.ClassFile.Instr.lushr, 1) else (bif Nat.beq o 63 then some (Jvm.ClassFile.Instr.lstore_n 0, 1) else (bif Nat.beq o 126 then some (Jvm.ClassFile.Instr.iand, 1) else (bif Nat.beq o 178 then some (Jvm.ClassFile.Instr.getstatic (a * 256 + b), 3) else (bif Nat.beq o 97 then some (Jvm.ClassFile.Instr.ladd, 1) else (none))))))))))
theorem fd6_ok {k o a b : Nat} {r : Jvm.ClassFile.Instr × Nat} (H : qhy code_ p_ k o a b) (hk : r.2 ≤ k) (h : fd6 o a b = some r) : decode code_ p_ = .ok r := by
  obtain ⟨h0, h1, h2⟩ := H
  unfold fd6 at h
  cases hq20 : (Nat.beq o 20) with
  | true =>
    rw [hq20] at h
    cases h
    rw [Nat.eq_of_beq_eq_true hq20] at h0
    exact qdec (qi20 h0 (qu2 (h1 (Nat.le_of_succ_le hk)) (h2 hk)))
  | false =>
  rw [hq20] at h
  simp only [cond_false] at h
  cases hq127 : (Nat.beq o 127) with
  | true =>
    rw [hq127] at h
    cases h
    rw [Nat.eq_of_beq_eq_true hq127] at h0
    exact qdec (qi127 h0)
  | false =>
  rw [hq127] at h
  simp only [cond_false] at h
  cases hq189 : (Nat.beq o 189) with
  | true =>
    rw [hq189] at h
    cases h
    rw [Nat.eq_of_beq_eq_true hq189] at h0
    exact qdec (qi189 h0 (qu2 (h1 (Nat.le_of_succ_le hk)) (h2 hk)))
  | false =>
  rw [hq189] at h
  simp only [cond_false] at h
  cases hq83 : (Nat.beq o 83) with
  | true =>
    rw [hq83] at h
    cases h
    rw [Nat.eq_of_beq_eq_true hq83] at h0
    exact qdec (qi83 h0)
  | false =>
  rw [hq83] at h
  simp only [cond_false] at h
  cases hq18 : (Nat.beq o 18) with
  | true =>
    rw [hq18] at h
    cases h
    rw [Nat.eq_of_beq_eq_true hq18] at h0
    exact qdec (qi18 h0 (h1 hk))
  | false =>
  rw [hq18] at h
  simp only [cond_false] at h
  cases hq125 : (Nat.beq o 125) with
  | true =>
    rw [hq125] at h
    cases h
    rw [Nat.eq_of_beq_eq_true hq125] at h0
    exact qdec (qi125 h0)
  | false =>
  rw [hq125] at h
  simp only [cond_false] at h
  cases hq63 : (Nat.beq o 63) with
  | true =>
    rw [hq63] at h
    cases h
    rw [Nat.eq_of_beq_eq_true hq63] at h0
    exact qdec (qi63 h0)
  | false =>
  rw [hq63] at h
  simp only [cond_false] at h
  cases hq126 : (Nat.beq o 126) with
  | true =>
    rw [hq126] at h
    cases h
    rw [Nat.eq_of_beq_eq_true hq126] at h0
    exact qdec (qi126 h0)
  | false =>
  rw [hq126] at h
  simp only [cond_false] at h
  cases hq178 : (Nat.beq o 178) with
  | true =>
    rw [hq178] at h
    cases h
    rw [Nat.eq_of_beq_eq_true hq178] at h0
    exact qdec (qi178 h0 (qu2 (h1 (Nat.le_of_succ_le hk)) (h2 hk)))
  | false =>
  rw [hq178] at h
  simp only [cond_false] at h
  cases hq97 : (Nat.beq o 97) with
  | true =>
    rw [hq97] at h
    cases h
    rw [Nat.eq_of_beq_eq_true hq97] at h0
    exact qdec (qi97 h0)
  | false =>
  rw [hq97] at h
  simp only [cond_false] at h
  cases h
def fd7 (o a b : Nat) : Option (Jvm.ClassFile.Instr × Nat) := bif Nat.beq o 133 then some (Jvm.ClassFile.Instr.i2l, 1) else (bif Nat.beq o 121 then some (Jvm.ClassFile.Instr.lshl, 1) else (bif Nat.beq o 129 then some (Jvm.ClassFile.Instr.lor, 1) else (bif Nat.beq o 122 then some (Jvm.ClassFile.Instr.ishr, 1) else (bif Nat.beq o 176 then some (Jvm.ClassFile.Instr.areturn, 1) else (bif Nat.beq o 130 then some (Jvm.ClassFile.Instr.ixor, 1) else (bif Nat.beq o 136 then some (Jvm.ClassFile.Instr.l2i, 1) else (bif Nat.beq o 120 then some (Jvm.ClassFile.Instr.ishl, 1) else (bif Nat.beq o 77 then some (Jvm.ClassFile.Instr.astore_n 2, 1) else (bif Nat.beq o 9 then some (Jvm.ClassFile.Instr.lconst 0, 1) else (none))))))))))
theorem fd7_ok {k o a b : Nat} {r : Jvm.ClassFile.Instr × Nat} (H : qhy code_ p_ k o a b) (hk : r.2 ≤ k) (h : fd7 o a b = some r) : decode code_ p_ = .ok r := by
  obtain ⟨h0, h1, h2⟩ := H
  unfold fd7 at h
  cases hq133 : (Nat.beq o 133) with
  | true =>
    rw [hq133] at h
    cases h
    rw [Nat.eq_of_beq_eq_true hq133] at h0
    exact qdec (qi133 h0)
  | false =>
  rw [hq133] at h
  simp only [cond_false] at h
  cases hq121 : (Nat.beq o 121) with
  | true =>
    rw [hq121] at h
    cases h
    rw [Nat.eq_of_beq_eq_true hq121] at h0
    exact qdec (qi121 h0)
  | false =>
  rw [hq121] at h
  simp only [cond_false] at h
  cases hq129 : (Nat.beq o 129) with
  | true =>
    rw [hq129] at h
    cases h
    rw [Nat.eq_of_beq_eq_true hq129] at h0
    exact qdec (qi129 h0)
  | false =>
  rw [hq129] at h
  simp only [cond_false] at h
  cases hq122 : (Nat.beq o 122) with
  | true =>
    rw [hq122] at h
    cases h
    rw [Nat.eq_of_beq_eq_true hq122] at h0
    exact qdec (qi122 h0)
  | false =>
  rw [hq122] at h
  simp only [cond_false] at h
  cases hq176 : (Nat.beq o 176) with
  | true =>
    rw [hq176] at h
    cases h
    rw [Nat.eq_of_beq_eq_true hq176] at h0
    exact qdec (qi176 h0)
  | false =>
  rw [hq176] at h
  simp only [cond_false] at h
  cases hq130 : (Nat.beq o 130) with
  | true =>
    rw [hq130] at h
    cases h
    rw [Nat.eq_of_beq_eq_true hq130] at h0
    exact qdec (qi130 h0)
  | false =>
  rw [hq130] at h
  simp only [cond_false] at h
  cases hq136 : (Nat.beq o 136) with
  | true =>
    rw [hq136] at h
    cases h
    rw [Nat.eq_of_beq_eq_true hq136] at h0
    exact qdec (qi136 h0)
  | false =>
  rw [hq136] at h
  simp only [cond_false] at h
  cases hq120 : (Nat.beq o 120) with
  | true =>
    rw [hq120] at h
    cases h
    rw [Nat.eq_of_beq_eq_true hq120] at h0
    exact qdec (qi120 h0)
  | false =>
  rw [hq120] at h
  simp only [cond_false] at h
  cases hq77 : (Nat.beq o 77) with
  | true =>
    rw [hq77] at h
    cases h
    rw [Nat.eq_of_beq_eq_true hq77] at h0
    exact qdec (qi77 h0)
  | false =>
  rw [hq77] at h
  simp only [cond_false] at h
  cases hq9 : (Nat.beq o 9) with
  | true =>
    rw [hq9] at h
    cases h
    rw [Nat.eq_of_beq_eq_true hq9] at h0
    exact qdec (qi9 h0)
  | false =>
  rw [hq9] at h
  simp only [cond_false] at h
  cases h
def fd8 (o a b : Nat) : Option (Jvm.ClassFile.Instr × Nat) := bif Nat.beq o 65 then some (Jvm.ClassFile.Instr.lstore_n 2, 1) else (bif Nat.beq o 55 then some (Jvm.ClassFile.Instr.lstore a, 2) else (bif Nat.beq o 32 then some (Jvm.ClassFile.Instr.lload_n 2, 1) else (bif Nat.beq o 10 then some (Jvm.ClassFile.Instr.lconst 1, 1) else (bif Nat.beq o 22 then some (Jvm.ClassFile.Instr.lload a, 2) else (bif Nat.beq o 124 then some (Jvm.ClassFile.Instr.iushr, 1) else (bif Nat.beq o 31 then some (Jvm.ClassFile.Instr.lload_n 1, 1) else (bif Nat.beq o 19 then some (Jvm.ClassFile.Instr.ldc_w (a * 256 + b), 3) else (bif Nat.beq o 128 then some (Jvm.ClassFile.Instr.ior, 1) else (bif Nat.beq o 116 then some (Jvm.ClassFile.Instr.ineg, 1) else (none))))))))))
theorem fd8_ok {k o a b : Nat} {r : Jvm.ClassFile.Instr × Nat} (H : qhy code_ p_ k o a b) (hk : r.2 ≤ k) (h : fd8 o a b = some r) : decode code_ p_ = .ok r := by
  obtain ⟨h0, h1, h2⟩ := H
  unfold fd8 at h
  cases hq65 : (Nat.beq o 65) with
  | true =>
    rw [hq65] at h
    cases h
    rw [Nat.eq_of_beq_eq_true hq65] at h0
    exact qdec (qi65 h0)
  | false =>
  rw [hq65] at h
  simp only [cond_false] at h
  cases hq55 : (Nat.beq o 55) with
  | true =>
    rw [hq55] at h
    cases h
    rw [Nat.eq_of_beq_eq_true hq55] at h0
    exact qdec (qi55 h0 (h1 hk))
  | false =>
  rw [hq55] at h
  simp only [cond_false] at h
  cases hq32 : (Nat.beq o 32) with
  | true =>
    rw [hq32] at h
    cases h
    rw [Nat.eq_of_beq_eq_true hq32] at h0
    exact qdec (qi32 h0)
  | false =>
  rw [hq32] at h
  simp only [cond_false] at h
  cases hq10 : (Nat.beq o 10) with
  | true =>
    rw [hq10] at h
    cases h
    rw [Nat.eq_of_beq_eq_true hq10] at h0
    exact qdec (qi10 h0)
  | false =>
  rw [hq10] at h
  simp only [cond_false] at h
  cases hq22 : (Nat.beq o 22) with
  | true =>
    rw [hq22] at h
    cases h
    rw [Nat.eq_of_beq_eq_true hq22] at h0
    exact qdec (qi22 h0 (h1 hk))
  | false =>
  rw [hq22] at h
  simp only [cond_false] at h
  cases hq124 : (Nat.beq o 124) with
  | true =>
    rw [hq124] at h
    cases h
    rw [Nat.eq_of_beq_eq_true hq124] at h0
    exact qdec (qi124 h0)
  | false =>
  rw [hq124] at h
  simp only [cond_false] at h
  cases hq31 : (Nat.beq o 31) with
  | true =>
    rw [hq31] at h
    cases h
    rw [Nat.eq_of_beq_eq_true hq31] at h0
    exact qdec (qi31 h0)
  | false =>
  rw [hq31] at h
  simp only [cond_false] at h
  cases hq19 : (Nat.beq o 19) with
  | true =>
    rw [hq19] at h
    cases h
    rw [Nat.eq_of_beq_eq_true hq19] at h0
    exact qdec (qi19 h0 (qu2 (h1 (Nat.le_of_succ_le hk)) (h2 hk)))
  | false =>
  rw [hq19] at h
  simp only [cond_false] at h
  cases hq128 : (Nat.beq o 128) with
  | true =>
    rw [hq128] at h
    cases h
    rw [Nat.eq_of_beq_eq_true hq128] at h0
    exact qdec (qi128 h0)
  | false =>
  rw [hq128] at h
  simp only [cond_false] at h
  cases hq116 : (Nat.beq o 116) with
  | true =>
    rw [hq116] at h
    cases h
    rw [Nat.eq_of_beq_eq_true hq116] at h0
    exact qdec (qi116 h0)
  | false =>
  rw [hq116] at h
  simp only [cond_false] at h
  cases h
def fd9 (o a b : Nat) : Option (Jvm.ClassFile.Instr × Nat) := bif Nat.beq o 76 then some (Jvm.ClassFile.Instr.astore_n 1, 1) else (bif Nat.beq o 1 then some (Jvm.ClassFile.Instr.aconst_null, 1) else (bif Nat.beq o 146 then some (Jvm.ClassFile.Instr.i2c, 1) else (bif Nat.beq o 157 then some (Jvm.ClassFile.Instr.ifCond .gt (Jvm.ClassFile.Reader.signed 16 (a * 256 + b)), 3) else (bif Nat.beq o 145 then some (Jvm.ClassFile.Instr.i2b, 1) else (bif Nat.beq o 147 then some (Jvm.ClassFile.Instr.i2s, 1) else (bif Nat.beq o 199 then some (Jvm.ClassFile.Instr.ifnonnull (Jvm.ClassFile.Reader.signed 16 (a * 256 + b)), 3) else (bif Nat.beq o 123 then some (Jvm.ClassFile.Instr.lshr, 1) else (bif Nat.beq o 101 then some (Jvm.ClassFile.Instr.lsub, 1) else (none)))))))))
theorem fd9_ok {k o a b : Nat} {r : Jvm.ClassFile.Instr × Nat} (H : qhy code_ p_ k o a b) (hk : r.2 ≤ k) (h : fd9 o a b = some r) : decode code_ p_ = .ok r := by
  obtain ⟨h0, h1, h2⟩ := H
  unfold fd9 at h
  cases hq76 : (Nat.beq o 76) with
  | true =>
    rw [hq76] at h
    cases h
    rw [Nat.eq_of_beq_eq_true hq76] at h0
    exact qdec (qi76 h0)
  | false =>
  rw [hq76] at h
  simp only [cond_false] at h
  cases hq1 : (Nat.beq o 1) with
  | true =>
    rw [hq1] at h
    cases h
    rw [Nat.eq_of_beq_eq_true hq1] at h0
    exact qdec (qi1 h0)
  | false =>
  rw [hq1] at h
  simp only [cond_false] at h
  cases hq146 : (Nat.beq o 146) with
  | true =>
    rw [hq146] at h
    cases h
    rw [Nat.eq_of_beq_eq_true hq146] at h0
    exact qdec (qi146 h0)
  | false =>
  rw [hq146] at h
  simp only [cond_false] at h
  cases hq157 : (Nat.beq o 157) with
  | true =>
    rw [hq157] at h
    cases h
    rw [Nat.eq_of_beq_eq_true hq157] at h0
    exact qdec (qi157 h0 (qs2 (qu2 (h1 (Nat.le_of_succ_le hk)) (h2 hk))))
  | false =>
  rw [hq157] at h
  simp only [cond_false] at h
  cases hq145 : (Nat.beq o 145) with
  | true =>
    rw [hq145] at h
    cases h
    rw [Nat.eq_of_beq_eq_true hq145] at h0
    exact qdec (qi145 h0)
  | false =>
  rw [hq145] at h
  simp only [cond_false] at h
  cases hq147 : (Nat.beq o 147) with
  | true =>
    rw [hq147] at h
    cases h
    rw [Nat.eq_of_beq_eq_true hq147] at h0
    exact qdec (qi147 h0)
  | false =>
  rw [hq147] at h
  simp only [cond_false] at h
  cases hq199 : (Nat.beq o 199) with
  | true =>
    rw [hq199] at h
    cases h
    rw [Nat.eq_of_beq_eq_true hq199] at h0
    exact qdec (qi199 h0 (qs2 (qu2 (h1 (Nat.le_of_succ_le hk)) (h2 hk))))
  | false =>
  rw [hq199] at h
  simp only [cond_false] at h
  cases hq123 : (Nat.beq o 123) with
  | true =>
    rw [hq123] at h
    cases h
    rw [Nat.eq_of_beq_eq_true hq123] at h0
    exact qdec (qi123 h0)
  | false =>
  rw [hq123] at h
  simp only [cond_false] at h
  cases hq101 : (Nat.beq o 101) with
  | true =>
    rw [hq101] at h
    cases h
    rw [Nat.eq_of_beq_eq_true hq101] at h0
    exact qdec (qi101 h0)
  | false =>
  rw [hq101] at h
  simp only [cond_false] at h
  cases h
def fdec (o a b : Nat) : Option (Jvm.ClassFile.Instr × Nat) := match fd0 o a b with
  | some r => some r
  | none => match fd1 o a b with
  | some r => some r
  | none => match fd2 o a b with
  | some r => some r
  | none => match fd3 o a b with
  | some r => some r
  | none => match fd4 o a b with
  | some r => some r
  | none => match fd5 o a b with
  | some r => some r
  | none => match fd6 o a b with
  | some r => some r
  | none => match fd7 o a b with
  | some r => some r
  | none => match fd8 o a b with
  | some r => some r
  | none => fd9 o a b
theorem fdec_ok {k o a b : Nat} {r : Jvm.ClassFile.Instr × Nat} (H : qhy code_ p_ k o a b) (hk : r.2 ≤ k) (h : fdec o a b = some r) : decode code_ p_ = .ok r := by
  unfold fdec at h
  cases e0 : fd0 o a b with
  | some s =>
    rw [e0] at h
    cases h
    exact fd0_ok H hk e0
  | none =>
  rw [e0] at h
  simp only at h
  cases e1 : fd1 o a b with
  | some s =>
    rw [e1] at h
    cases h
    exact fd1_ok H hk e1
  | none =>
  rw [e1] at h
  simp only at h
  cases e2 : fd2 o a b with
  | some s =>
    rw [e2] at h
    cases h
    exact fd2_ok H hk e2
  | none =>
  rw [e2] at h
  simp only at h
  cases e3 : fd3 o a b with
  | some s =>
    rw [e3] at h
    cases h
    exact fd3_ok H hk e3
  | none =>
  rw [e3] at h
  simp only at h
  cases e4 : fd4 o a b with
  | some s =>
    rw [e4] at h
    cases h
    exact fd4_ok H hk e4
  | none =>
  rw [e4] at h
  simp only at h
  cases e5 : fd5 o a b with
  | some s =>
    rw [e5] at h
    cases h
    exact fd5_ok H hk e5
  | none =>
  rw [e5] at h
  simp only at h
  cases e6 : fd6 o a b with
  | some s =>
    rw [e6] at h
    cases h
    exact fd6_ok H hk e6
  | none =>
  rw [e6] at h
  simp only at h
  cases e7 : fd7 o a b with
  | some s =>
    rw [e7] at h
    cases h
    exact fd7_ok H hk e7
  | none =>
  rw [e7] at h
  simp only at h
  cases e8 : fd8 o a b with
  | some s =>
    rw [e8] at h
    cases h
    exact fd8_ok H hk e8
  | none =>
  rw [e8] at h
  simp only at h
  exact fd9_ok H hk h
end
def qhd (l : List UInt8) : Nat := match l with
  | [] => 0
  | b :: _ => b.toNat
def qlen (l : List UInt8) : Nat := match l with
  | [] => 1
  | _ :: t => match t with
    | [] => 2
    | _ => 3
theorem qhy_of {code_ : ByteArray} {p_ : Nat} {b_ : UInt8} {t_ : List UInt8} (h : code_.data.toList.drop p_ = b_ :: t_) : qhy code_ p_ (qlen t_) b_.toNat (qhd t_) (qhd (t_.drop 1)) := by
  have at_ : ∀ j c, (b_ :: t_)[j]? = some c → code_.data.toList[p_ + j]? = some c := by
    intro j c hj
    rw [← h, List.getElem?_drop] at hj
    exact hj
  refine ⟨qu1 (at_ 0 b_ rfl), fun h2 => ?_, fun h3 => ?_⟩
  · cases t_ with
    | nil => exact absurd h2 (by decide)
    | cons c u => exact qu1 (at_ 1 c rfl)
  · cases t_ with
    | nil => exact absurd h3 (by decide)
    | cons c u => cases u with
      | nil => exact absurd h3 (show ¬ 3 ≤ 2 by decide)
      | cons d v => exact qu1 (at_ 2 d rfl)
def qchk (code_ : ByteArray) (b_ : UInt8) (t_ : List UInt8) (p_ : Nat) (e : Instr × Nat × List Nat) : Bool := match fdec b_.toNat (qhd t_) (qhd (t_.drop 1)) with
  | some r => decide (r.1 = e.1) && (Nat.beq r.2 e.2.1 && Nat.ble r.2 (qlen t_))
  | none => decide (decode code_ p_ = .ok (e.1, e.2.1))
theorem qchk_ok {code_ : ByteArray} {b_ : UInt8} {t_ : List UInt8} {p_ : Nat} {e : Instr × Nat × List Nat} (h : code_.data.toList.drop p_ = b_ :: t_) (hk : qchk code_ b_ t_ p_ e = true) : decode code_ p_ = .ok (e.1, e.2.1) := by
  unfold qchk at hk
  cases hf : fdec b_.toNat (qhd t_) (qhd (t_.drop 1)) with
  | none =>
    rw [hf] at hk
    exact of_decide_eq_true hk
  | some r =>
    rw [hf] at hk
    simp only [Bool.and_eq_true, decide_eq_true_eq] at hk
    have k := fdec_ok (qhy_of h) (Nat.le_of_ble_eq_true hk.2.2) hf
    rw [k, ← hk.1, ← Nat.eq_of_beq_eq_true hk.2.1]
def xfq_ {β : Type} (n : Nat) (k : Nat → β) : β := match n with
  | 0 => k 0
  | m + 1 => k (m + 1)
theorem xfq_eq_ {β : Type} (n : Nat) (k : Nat → β) : xfq_ n k = k n := by cases n <;> rfl
-- ===== the words by numbers
def xwt_0_0_0_0 (p : Nat) : Option (List Nat) := bif Nat.ble p 1 then (bif Nat.ble p 0 then (bif Nat.beq p 0 then some [15, 118] else none) else (bif Nat.beq p 1 then some [15, 120] else none)) else (bif Nat.ble p 2 then (bif Nat.beq p 2 then some [15, 119] else none) else (bif Nat.beq p 3 then some [15, 121] else none))
def xwt_0_0_0_1 (p : Nat) : Option (List Nat) := bif Nat.ble p 5 then (bif Nat.ble p 4 then (bif Nat.beq p 4 then some [15, 25] else none) else (bif Nat.beq p 5 then some [15, 26] else none)) else (bif Nat.ble p 6 then (bif Nat.beq p 6 then some [15, 23] else none) else (bif Nat.beq p 7 then some [15, 29] else none))
def xwt_0_0_0_2 (p : Nat) : Option (List Nat) := bif Nat.ble p 9 then (bif Nat.ble p 8 then (bif Nat.beq p 8 then some [15, 27] else none) else (bif Nat.beq p 9 then some [15, 28] else none)) else (bif Nat.ble p 10 then (bif Nat.beq p 10 then some [15, 67] else none) else (bif Nat.beq p 11 then some [15, 128] else none))
def xwt_0_0_0_3_0 (p : Nat) : Option (List Nat) := bif Nat.beq p 12 then some [15, 129] else none
def xwt_0_0_0_3_1 (p : Nat) : Option (List Nat) := bif Nat.beq p 13 then some [15, 18] else none
def xwt_0_0_0_3_2 (p : Nat) : Option (List Nat) := bif Nat.beq p 14 then some [15, 17] else none
def xwt_0_0_0_3_3 (p : Nat) : Option (List Nat) := bif Nat.ble p 15 then (bif Nat.beq p 15 then some [15, 8] else none) else (bif Nat.beq p 16 then some [15, 7] else none)
def xwt_0_0_0_3 (p : Nat) : Option (List Nat) := bif Nat.ble p 13 then (bif Nat.ble p 12 then (xwt_0_0_0_3_0 p) else (xwt_0_0_0_3_1 p)) else (bif Nat.ble p 14 then (xwt_0_0_0_3_2 p) else (xwt_0_0_0_3_3 p))
def xwt_0_0_0 (p : Nat) : Option (List Nat) := bif Nat.ble p 7 then (bif Nat.ble p 3 then (xwt_0_0_0_0 p) else (xwt_0_0_0_1 p)) else (bif Nat.ble p 11 then (xwt_0_0_0_2 p) else (xwt_0_0_0_3 p))
def xwt_0_0_1_0 (p : Nat) : Option (List Nat) := bif Nat.ble p 18 then (bif Nat.ble p 17 then (bif Nat.beq p 17 then some [15, 9] else none) else (bif Nat.beq p 18 then some [15, 10] else none)) else (bif Nat.ble p 19 then (bif Nat.beq p 19 then some [15, 3] else none) else (bif Nat.beq p 20 then some [15, 54] else none))
def xwt_0_0_1_1 (p : Nat) : Option (List Nat) := bif Nat.ble p 22 then (bif Nat.ble p 21 then (bif Nat.beq p 21 then some [15, 55] else none) else (bif Nat.beq p 22 then some [15, 135] else none)) else (bif Nat.ble p 23 then (bif Nat.beq p 23 then some [15, 139] else none) else (bif Nat.beq p 24 then some [15, 145] else none))
def xwt_0_0_1_2 (p : Nat) : Option (List Nat) := bif Nat.ble p 26 then (bif Nat.ble p 25 then (bif Nat.beq p 25 then some [15, 161] else none) else (bif Nat.beq p 26 then some [15, 164] else none)) else (bif Nat.ble p 27 then (bif Nat.beq p 27 then some [15, 140] else none) else (bif Nat.beq p 28 then some [15, 141] else none))
def xwt_0_0_1_3_0 (p : Nat) : Option (List Nat) := bif Nat.beq p 29 then some [15, 176] else none
def xwt_0_0_1_3_1 (p : Nat) : Option (List Nat) := bif Nat.beq p 30 then some [15, 177] else none
def xwt_0_0_1_3_2 (p : Nat) : Option (List Nat) := bif Nat.beq p 31 then some [15, 178] else none
def xwt_0_0_1_3_3 (p : Nat) : Option (List Nat) := bif Nat.ble p 32 then (bif Nat.beq p 32 then some [15, 179] else none) else (bif Nat.beq p 33 then some [15, 180] else none)
def xwt_0_0_1_3 (p : Nat) : Option (List Nat) := bif Nat.ble p 30 then (bif Nat.ble p 29 then (xwt_0_0_1_3_0 p) else (xwt_0_0_1_3_1 p)) else (bif Nat.ble p 31 then (xwt_0_0_1_3_2 p) else (xwt_0_0_1_3_3 p))
def xwt_0_0_1 (p : Nat) : Option (List Nat) := bif Nat.ble p 24 then (bif Nat.ble p 20 then (xwt_0_0_1_0 p) else (xwt_0_0_1_1 p)) else (bif Nat.ble p 28 then (xwt_0_0_1_2 p) else (xwt_0_0_1_3 p))
def xwt_0_0_2_0 (p : Nat) : Option (List Nat) := bif Nat.ble p 35 then (bif Nat.ble p 34 then (bif Nat.beq p 34 then some [15, 182] else none) else (bif Nat.beq p 35 then some [15, 173] else none)) else (bif Nat.ble p 36 then (bif Nat.beq p 36 then some [15, 174] else none) else (bif Nat.beq p 37 then some [15, 175] else none))
def xwt_0_0_2_1 (p : Nat) : Option (List Nat) := bif Nat.ble p 39 then (bif Nat.ble p 38 then (bif Nat.beq p 38 then some [15, 181] else none) else (bif Nat.beq p 39 then some [15, 183] else none)) else (bif Nat.ble p 40 then (bif Nat.beq p 40 then some [15, 152] else none) else (bif Nat.beq p 41 then some [15, 156] else none))
def xwt_0_0_2_2 (p : Nat) : Option (List Nat) := bif Nat.ble p 43 then (bif Nat.ble p 42 then (bif Nat.beq p 42 then some [15, 155] else none) else (bif Nat.beq p 43 then some [15, 151] else none)) else (bif Nat.ble p 44 then (bif Nat.beq p 44 then some [15, 147] else none) else (bif Nat.beq p 45 then some [15, 149] else none))
def xwt_0_0_2_3_0 (p : Nat) : Option (List Nat) := bif Nat.beq p 46 then some [15, 150] else none
def xwt_0_0_2_3_1 (p : Nat) : Option (List Nat) := bif Nat.beq p 47 then some [15, 187] else none
def xwt_0_0_2_3_2 (p : Nat) : Option (List Nat) := bif Nat.beq p 48 then some [15, 146] else none
def xwt_0_0_2_3_3 (p : Nat) : Option (List Nat) := bif Nat.ble p 49 then (bif Nat.beq p 49 then some [15, 192] else none) else (bif Nat.beq p 50 then some [15, 157] else none)
def xwt_0_0_2_3 (p : Nat) : Option (List Nat) := bif Nat.ble p 47 then (bif Nat.ble p 46 then (xwt_0_0_2_3_0 p) else (xwt_0_0_2_3_1 p)) else (bif Nat.ble p 48 then (xwt_0_0_2_3_2 p) else (xwt_0_0_2_3_3 p))
def xwt_0_0_2 (p : Nat) : Option (List Nat) := bif Nat.ble p 41 then (bif Nat.ble p 37 then (xwt_0_0_2_0 p) else (xwt_0_0_2_1 p)) else (bif Nat.ble p 45 then (xwt_0_0_2_2 p) else (xwt_0_0_2_3 p))
def xwt_0_0_3_0 (p : Nat) : Option (List Nat) := bif Nat.ble p 52 then (bif Nat.ble p 51 then (bif Nat.beq p 51 then some [15, 158] else none) else (bif Nat.beq p 52 then some [15, 196] else none)) else (bif Nat.ble p 53 then (bif Nat.beq p 53 then some [15, 198] else none) else (bif Nat.beq p 54 then some [15, 205] else none))
def xwt_0_0_3_1 (p : Nat) : Option (List Nat) := bif Nat.ble p 56 then (bif Nat.ble p 55 then (bif Nat.beq p 55 then some [15, 204] else none) else (bif Nat.beq p 56 then some [15, 202] else none)) else (bif Nat.ble p 57 then (bif Nat.beq p 57 then some [15, 203] else none) else (bif Nat.beq p 58 then some [15, 210] else none))
def xwt_0_0_3_2 (p : Nat) : Option (List Nat) := bif Nat.ble p 60 then (bif Nat.ble p 59 then (bif Nat.beq p 59 then some [15, 209] else none) else (bif Nat.beq p 60 then some [15, 215] else none)) else (bif Nat.ble p 61 then (bif Nat.beq p 61 then some [15, 214] else none) else (bif Nat.beq p 62 then some [15, 220] else none))
def xwt_0_0_3_3_0 (p : Nat) : Option (List Nat) := bif Nat.beq p 63 then some [15, 221] else none
def xwt_0_0_3_3_1 (p : Nat) : Option (List Nat) := bif Nat.beq p 64 then some [15, 218] else none
def xwt_0_0_3_3_2 (p : Nat) : Option (List Nat) := bif Nat.beq p 65 then some [15, 222] else none
def xwt_0_0_3_3_3 (p : Nat) : Option (List Nat) := bif Nat.ble p 66 then (bif Nat.beq p 66 then some [15, 223] else none) else (bif Nat.beq p 67 then some [15, 224] else none)
def xwt_0_0_3_3 (p : Nat) : Option (List Nat) := bif Nat.ble p 64 then (bif Nat.ble p 63 then (xwt_0_0_3_3_0 p) else (xwt_0_0_3_3_1 p)) else (bif Nat.ble p 65 then (xwt_0_0_3_3_2 p) else (xwt_0_0_3_3_3 p))
def xwt_0_0_3 (p : Nat) : Option (List Nat) := bif Nat.ble p 58 then (bif Nat.ble p 54 then (xwt_0_0_3_0 p) else (xwt_0_0_3_1 p)) else (bif Nat.ble p 62 then (xwt_0_0_3_2 p) else (xwt_0_0_3_3 p))
def xwt_0_0 (p : Nat) : Option (List Nat) := bif Nat.ble p 33 then (bif Nat.ble p 16 then (xwt_0_0_0 p) else (xwt_0_0_1 p)) else (bif Nat.ble p 50 then (xwt_0_0_2 p) else (xwt_0_0_3 p))
def xwt_0_1_0_0 (p : Nat) : Option (List Nat) := bif Nat.ble p 70 then (bif Nat.ble p 69 then (bif Nat.beq p 69 then some [5, 11] else none) else (bif Nat.beq p 70 then some [5, 10] else none)) else (bif Nat.ble p 71 then (bif Nat.beq p 71 then some [5, 6] else none) else (bif Nat.beq p 73 then some [5, 2] else none))
def xwt_0_1_0_1 (p : Nat) : Option (List Nat) := bif Nat.ble p 75 then (bif Nat.ble p 74 then (bif Nat.beq p 74 then some [5, 5] else none) else (bif Nat.beq p 75 then some [5, 9] else none)) else (bif Nat.ble p 76 then (bif Nat.beq p 76 then some [5, 4] else none) else (bif Nat.beq p 77 then some [5, 1] else none))
def xwt_0_1_0_2 (p : Nat) : Option (List Nat) := bif Nat.ble p 79 then (bif Nat.ble p 78 then (bif Nat.beq p 78 then some [5, 3] else none) else (bif Nat.beq p 79 then some [5, 0] else none)) else (bif Nat.ble p 80 then (bif Nat.beq p 80 then some [5, 8] else none) else (bif Nat.beq p 81 then some [5, 7] else none))
def xwt_0_1_0_3_0 (p : Nat) : Option (List Nat) := bif Nat.beq p 82 then some [5, 12] else none
def xwt_0_1_0_3_1 (p : Nat) : Option (List Nat) := bif Nat.beq p 89 then some [5, 14] else none
def xwt_0_1_0_3_2 (p : Nat) : Option (List Nat) := bif Nat.beq p 92 then some [0, 13, 9, 73] else none
def xwt_0_1_0_3_3 (p : Nat) : Option (List Nat) := bif Nat.ble p 93 then (bif Nat.beq p 93 then some [13, 73] else none) else (bif Nat.beq p 94 then some [16, 73] else none)
def xwt_0_1_0_3 (p : Nat) : Option (List Nat) := bif Nat.ble p 89 then (bif Nat.ble p 82 then (xwt_0_1_0_3_0 p) else (xwt_0_1_0_3_1 p)) else (bif Nat.ble p 92 then (xwt_0_1_0_3_2 p) else (xwt_0_1_0_3_3 p))
def xwt_0_1_0 (p : Nat) : Option (List Nat) := bif Nat.ble p 77 then (bif Nat.ble p 73 then (xwt_0_1_0_0 p) else (xwt_0_1_0_1 p)) else (bif Nat.ble p 81 then (xwt_0_1_0_2 p) else (xwt_0_1_0_3 p))
def xwt_0_1_1_0 (p : Nat) : Option (List Nat) := bif Nat.ble p 101 then (bif Nat.ble p 100 then (bif Nat.beq p 100 then some [0, 11, 9, 62] else none) else (bif Nat.beq p 101 then some [13, 62] else none)) else (bif Nat.ble p 102 then (bif Nat.beq p 102 then some [16, 62] else none) else (bif Nat.beq p 111 then some [0, 10, 29, 36] else none))
def xwt_0_1_1_1 (p : Nat) : Option (List Nat) := bif Nat.ble p 113 then (bif Nat.ble p 112 then (bif Nat.beq p 112 then some [13, 36] else none) else (bif Nat.beq p 113 then some [16, 36] else none)) else (bif Nat.ble p 118 then (bif Nat.beq p 118 then some [1, 6, 19, 6, 0] else none) else (bif Nat.beq p 119 then some [1, 1, 30, 6, 0] else none))
def xwt_0_1_1_2 (p : Nat) : Option (List Nat) := bif Nat.ble p 121 then (bif Nat.ble p 120 then (bif Nat.beq p 120 then some [1, 4, 43, 6, 0] else none) else (bif Nat.beq p 121 then some [1, 9, 28, 6, 0] else none)) else (bif Nat.ble p 122 then (bif Nat.beq p 122 then some [1, 0, 66, 6, 0] else none) else (bif Nat.beq p 123 then some [1, 3, 63, 6, 0] else none))
def xwt_0_1_1_3_0 (p : Nat) : Option (List Nat) := bif Nat.beq p 124 then some [1, 10, 128, 6, 0] else none
def xwt_0_1_1_3_1 (p : Nat) : Option (List Nat) := bif Nat.beq p 125 then some [1, 11, 221, 6, 0] else none
def xwt_0_1_1_3_2 (p : Nat) : Option (List Nat) := bif Nat.beq p 126 then some [1, 6, 7, 6, 1] else none
def xwt_0_1_1_3_3 (p : Nat) : Option (List Nat) := bif Nat.ble p 127 then (bif Nat.beq p 127 then some [1, 9, 24, 6, 1] else none) else (bif Nat.beq p 128 then some [1, 1, 27, 6, 1] else none)
def xwt_0_1_1_3 (p : Nat) : Option (List Nat) := bif Nat.ble p 125 then (bif Nat.ble p 124 then (xwt_0_1_1_3_0 p) else (xwt_0_1_1_3_1 p)) else (bif Nat.ble p 126 then (xwt_0_1_1_3_2 p) else (xwt_0_1_1_3_3 p))
def xwt_0_1_1 (p : Nat) : Option (List Nat) := bif Nat.ble p 119 then (bif Nat.ble p 111 then (xwt_0_1_1_0 p) else (xwt_0_1_1_1 p)) else (bif Nat.ble p 123 then (xwt_0_1_1_2 p) else (xwt_0_1_1_3 p))
def xwt_0_1_2_0 (p : Nat) : Option (List Nat) := bif Nat.ble p 130 then (bif Nat.ble p 129 then (bif Nat.beq p 129 then some [1, 4, 40, 6, 1] else none) else (bif Nat.beq p 130 then some [1, 11, 114, 6, 1] else none)) else (bif Nat.ble p 131 then (bif Nat.beq p 131 then some [1, 0, 63, 6, 1] else none) else (bif Nat.beq p 132 then some [1, 10, 94, 6, 1] else none))
def xwt_0_1_2_1 (p : Nat) : Option (List Nat) := bif Nat.ble p 142 then (bif Nat.ble p 133 then (bif Nat.beq p 133 then some [1, 3, 62, 6, 1] else none) else (bif Nat.beq p 142 then some [0, 10, 50, 11] else none)) else (bif Nat.ble p 143 then (bif Nat.beq p 143 then some [13, 11] else none) else (bif Nat.beq p 144 then some [16, 11] else none))
def xwt_0_1_2_2 (p : Nat) : Option (List Nat) := bif Nat.ble p 148 then (bif Nat.ble p 147 then (bif Nat.beq p 147 then some [0, 2, 24, 36] else none) else (bif Nat.beq p 148 then some [1, 2, 11, 2, 0] else none)) else (bif Nat.ble p 149 then (bif Nat.beq p 149 then some [1, 2, 17, 2, 1] else none) else (bif Nat.beq p 150 then some [1, 2, 21, 2, 2] else none))
def xwt_0_1_2_3_0 (p : Nat) : Option (List Nat) := bif Nat.beq p 151 then some [1, 11, 357, 2, 2] else none
def xwt_0_1_2_3_1 (p : Nat) : Option (List Nat) := bif Nat.beq p 161 then some [13, 31] else none
def xwt_0_1_2_3_2 (p : Nat) : Option (List Nat) := bif Nat.beq p 162 then some [16, 31] else none
def xwt_0_1_2_3_3 (p : Nat) : Option (List Nat) := bif Nat.ble p 164 then (bif Nat.beq p 164 then some [1, 5, 9, 5, 0] else none) else (bif Nat.beq p 165 then some [1, 8, 34, 5, 0] else none)
def xwt_0_1_2_3 (p : Nat) : Option (List Nat) := bif Nat.ble p 161 then (bif Nat.ble p 151 then (xwt_0_1_2_3_0 p) else (xwt_0_1_2_3_1 p)) else (bif Nat.ble p 162 then (xwt_0_1_2_3_2 p) else (xwt_0_1_2_3_3 p))
def xwt_0_1_2 (p : Nat) : Option (List Nat) := bif Nat.ble p 144 then (bif Nat.ble p 132 then (xwt_0_1_2_0 p) else (xwt_0_1_2_1 p)) else (bif Nat.ble p 150 then (xwt_0_1_2_2 p) else (xwt_0_1_2_3 p))
def xwt_0_1_3_0 (p : Nat) : Option (List Nat) := bif Nat.ble p 167 then (bif Nat.ble p 166 then (bif Nat.beq p 166 then some [1, 10, 101, 5, 0] else none) else (bif Nat.beq p 167 then some [1, 11, 144, 5, 0] else none)) else (bif Nat.ble p 168 then (bif Nat.beq p 168 then some [1, 5, 15, 5, 1] else none) else (bif Nat.beq p 169 then some [1, 8, 37, 5, 1] else none))
def xwt_0_1_3_1 (p : Nat) : Option (List Nat) := bif Nat.ble p 171 then (bif Nat.ble p 170 then (bif Nat.beq p 170 then some [1, 10, 114, 5, 1] else none) else (bif Nat.beq p 171 then some [1, 11, 149, 5, 1] else none)) else (bif Nat.ble p 172 then (bif Nat.beq p 172 then some [1, 5, 18, 5, 2] else none) else (bif Nat.beq p 173 then some [1, 11, 152, 5, 2] else none))
def xwt_0_1_3_2 (p : Nat) : Option (List Nat) := bif Nat.ble p 184 then (bif Nat.ble p 183 then (bif Nat.beq p 183 then some [13, 57] else none) else (bif Nat.beq p 184 then some [16, 57] else none)) else (bif Nat.ble p 187 then (bif Nat.beq p 187 then some [0, 9, 11, 36] else none) else (bif Nat.beq p 188 then some [1, 9, 14, 9, 0] else none))
def xwt_0_1_3_3_0 (p : Nat) : Option (List Nat) := bif Nat.beq p 189 then some [1, 10, 84, 9, 0] else none
def xwt_0_1_3_3_1 (p : Nat) : Option (List Nat) := bif Nat.beq p 190 then some [1, 11, 193, 9, 0] else none
def xwt_0_1_3_3_2 (p : Nat) : Option (List Nat) := bif Nat.beq p 191 then some [1, 9, 20, 9, 1] else none
def xwt_0_1_3_3_3 (p : Nat) : Option (List Nat) := bif Nat.ble p 197 then (bif Nat.beq p 197 then some [1, 10, 11, 10, 0] else none) else (bif Nat.beq p 198 then some [1, 11, 98, 10, 0] else none)
def xwt_0_1_3_3 (p : Nat) : Option (List Nat) := bif Nat.ble p 190 then (bif Nat.ble p 189 then (xwt_0_1_3_3_0 p) else (xwt_0_1_3_3_1 p)) else (bif Nat.ble p 191 then (xwt_0_1_3_3_2 p) else (xwt_0_1_3_3_3 p))
def xwt_0_1_3 (p : Nat) : Option (List Nat) := bif Nat.ble p 173 then (bif Nat.ble p 169 then (xwt_0_1_3_0 p) else (xwt_0_1_3_1 p)) else (bif Nat.ble p 188 then (xwt_0_1_3_2 p) else (xwt_0_1_3_3 p))
def xwt_0_1 (p : Nat) : Option (List Nat) := bif Nat.ble p 128 then (bif Nat.ble p 94 then (xwt_0_1_0 p) else (xwt_0_1_1 p)) else (bif Nat.ble p 165 then (xwt_0_1_2 p) else (xwt_0_1_3 p))
def xwt_0_2_0_0 (p : Nat) : Option (List Nat) := bif Nat.ble p 200 then (bif Nat.ble p 199 then (bif Nat.beq p 199 then some [1, 10, 19, 10, 1] else none) else (bif Nat.beq p 200 then some [1, 3, 41, 10, 1] else none)) else (bif Nat.ble p 201 then (bif Nat.beq p 201 then some [1, 11, 140, 10, 1] else none) else (bif Nat.beq p 202 then some [1, 10, 25, 10, 2] else none))
def xwt_0_2_0_1 (p : Nat) : Option (List Nat) := bif Nat.ble p 204 then (bif Nat.ble p 203 then (bif Nat.beq p 203 then some [1, 11, 189, 10, 2] else none) else (bif Nat.beq p 204 then some [1, 10, 32, 10, 3] else none)) else (bif Nat.ble p 205 then (bif Nat.beq p 205 then some [1, 11, 175, 10, 3] else none) else (bif Nat.beq p 206 then some [1, 10, 36, 10, 4] else none))
def xwt_0_2_0_2 (p : Nat) : Option (List Nat) := bif Nat.ble p 208 then (bif Nat.ble p 207 then (bif Nat.beq p 207 then some [1, 11, 354, 10, 4] else none) else (bif Nat.beq p 208 then some [1, 10, 39, 10, 5] else none)) else (bif Nat.ble p 209 then (bif Nat.beq p 209 then some [1, 10, 42, 10, 6] else none) else (bif Nat.beq p 210 then some [1, 10, 45, 10, 7] else none))
def xwt_0_2_0_3_0 (p : Nat) : Option (List Nat) := bif Nat.beq p 211 then some [1, 11, 264, 10, 7] else none
def xwt_0_2_0_3_1 (p : Nat) : Option (List Nat) := bif Nat.beq p 212 then some [1, 10, 51, 10, 8] else none
def xwt_0_2_0_3_2 (p : Nat) : Option (List Nat) := bif Nat.beq p 213 then some [1, 11, 280, 10, 8] else none
def xwt_0_2_0_3_3 (p : Nat) : Option (List Nat) := bif Nat.ble p 214 then (bif Nat.beq p 214 then some [1, 10, 55, 10, 9] else none) else (bif Nat.beq p 215 then some [1, 11, 91, 10, 9] else none)
def xwt_0_2_0_3 (p : Nat) : Option (List Nat) := bif Nat.ble p 212 then (bif Nat.ble p 211 then (xwt_0_2_0_3_0 p) else (xwt_0_2_0_3_1 p)) else (bif Nat.ble p 213 then (xwt_0_2_0_3_2 p) else (xwt_0_2_0_3_3 p))
def xwt_0_2_0 (p : Nat) : Option (List Nat) := bif Nat.ble p 206 then (bif Nat.ble p 202 then (xwt_0_2_0_0 p) else (xwt_0_2_0_1 p)) else (bif Nat.ble p 210 then (xwt_0_2_0_2 p) else (xwt_0_2_0_3 p))
def xwt_0_2_1_0 (p : Nat) : Option (List Nat) := bif Nat.ble p 217 then (bif Nat.ble p 216 then (bif Nat.beq p 216 then some [1, 10, 59, 10, 10] else none) else (bif Nat.beq p 217 then some [1, 3, 36, 10, 10] else none)) else (bif Nat.ble p 218 then (bif Nat.beq p 218 then some [1, 11, 137, 10, 10] else none) else (bif Nat.beq p 219 then some [1, 10, 62, 10, 11] else none))
def xwt_0_2_1_1 (p : Nat) : Option (List Nat) := bif Nat.ble p 221 then (bif Nat.ble p 220 then (bif Nat.beq p 220 then some [1, 11, 267, 10, 11] else none) else (bif Nat.beq p 221 then some [1, 10, 65, 10, 12] else none)) else (bif Nat.ble p 222 then (bif Nat.beq p 222 then some [1, 11, 257, 10, 12] else none) else (bif Nat.beq p 223 then some [1, 10, 68, 10, 13] else none))
def xwt_0_2_1_2 (p : Nat) : Option (List Nat) := bif Nat.ble p 225 then (bif Nat.ble p 224 then (bif Nat.beq p 224 then some [1, 11, 309, 10, 13] else none) else (bif Nat.beq p 225 then some [1, 10, 71, 10, 14] else none)) else (bif Nat.ble p 260 then (bif Nat.beq p 260 then some [13, 21] else none) else (bif Nat.beq p 261 then some [16, 21] else none))
def xwt_0_2_1_3_0 (p : Nat) : Option (List Nat) := bif Nat.beq p 264 then some [0, 4, 11, 36] else none
def xwt_0_2_1_3_1 (p : Nat) : Option (List Nat) := bif Nat.beq p 266 then some [1, 4, 14, 4, 0] else none
def xwt_0_2_1_3_2 (p : Nat) : Option (List Nat) := bif Nat.beq p 267 then some [1, 11, 198, 4, 0] else none
def xwt_0_2_1_3_3 (p : Nat) : Option (List Nat) := bif Nat.ble p 268 then (bif Nat.beq p 268 then some [1, 4, 20, 4, 1] else none) else (bif Nat.beq p 269 then some [1, 4, 25, 4, 2] else none)
def xwt_0_2_1_3 (p : Nat) : Option (List Nat) := bif Nat.ble p 266 then (bif Nat.ble p 264 then (xwt_0_2_1_3_0 p) else (xwt_0_2_1_3_1 p)) else (bif Nat.ble p 267 then (xwt_0_2_1_3_2 p) else (xwt_0_2_1_3_3 p))
def xwt_0_2_1 (p : Nat) : Option (List Nat) := bif Nat.ble p 223 then (bif Nat.ble p 219 then (xwt_0_2_1_0 p) else (xwt_0_2_1_1 p)) else (bif Nat.ble p 261 then (xwt_0_2_1_2 p) else (xwt_0_2_1_3 p))
def xwt_0_2_2_0 (p : Nat) : Option (List Nat) := bif Nat.ble p 284 then (bif Nat.ble p 270 then (bif Nat.beq p 270 then some [1, 4, 29, 4, 3] else none) else (bif Nat.beq p 284 then some [13, 4] else none)) else (bif Nat.ble p 285 then (bif Nat.beq p 285 then some [16, 4] else none) else (bif Nat.beq p 288 then some [0, 1, 11, 36] else none))
def xwt_0_2_2_1 (p : Nat) : Option (List Nat) := bif Nat.ble p 290 then (bif Nat.ble p 289 then (bif Nat.beq p 289 then some [1, 1, 14, 1, 0] else none) else (bif Nat.beq p 290 then some [1, 1, 20, 1, 1] else none)) else (bif Nat.ble p 291 then (bif Nat.beq p 291 then some [1, 1, 24, 1, 2] else none) else (bif Nat.beq p 301 then some [0, 11, 35, 15] else none))
def xwt_0_2_2_2 (p : Nat) : Option (List Nat) := bif Nat.ble p 303 then (bif Nat.ble p 302 then (bif Nat.beq p 302 then some [13, 15] else none) else (bif Nat.beq p 303 then some [16, 15] else none)) else (bif Nat.ble p 306 then (bif Nat.beq p 306 then some [0, 3, 17, 36] else none) else (bif Nat.beq p 307 then some [1, 3, 11, 3, 0] else none))
def xwt_0_2_2_3_0 (p : Nat) : Option (List Nat) := bif Nat.beq p 308 then some [1, 3, 20, 3, 1] else none
def xwt_0_2_2_3_1 (p : Nat) : Option (List Nat) := bif Nat.beq p 309 then some [1, 3, 24, 3, 2] else none
def xwt_0_2_2_3_2 (p : Nat) : Option (List Nat) := bif Nat.beq p 310 then some [1, 11, 243, 3, 2] else none
def xwt_0_2_2_3_3 (p : Nat) : Option (List Nat) := bif Nat.ble p 321 then (bif Nat.beq p 321 then some [13, 0] else none) else (bif Nat.beq p 322 then some [16, 0] else none)
def xwt_0_2_2_3 (p : Nat) : Option (List Nat) := bif Nat.ble p 309 then (bif Nat.ble p 308 then (xwt_0_2_2_3_0 p) else (xwt_0_2_2_3_1 p)) else (bif Nat.ble p 310 then (xwt_0_2_2_3_2 p) else (xwt_0_2_2_3_3 p))
def xwt_0_2_2 (p : Nat) : Option (List Nat) := bif Nat.ble p 301 then (bif Nat.ble p 288 then (xwt_0_2_2_0 p) else (xwt_0_2_2_1 p)) else (bif Nat.ble p 307 then (xwt_0_2_2_2 p) else (xwt_0_2_2_3 p))
def xwt_0_2_3_0 (p : Nat) : Option (List Nat) := bif Nat.ble p 326 then (bif Nat.ble p 325 then (bif Nat.beq p 325 then some [0, 0, 11, 36] else none) else (bif Nat.beq p 326 then some [1, 0, 14, 0, 0] else none)) else (bif Nat.ble p 327 then (bif Nat.beq p 327 then some [1, 0, 20, 0, 1] else none) else (bif Nat.beq p 328 then some [1, 0, 23, 0, 2] else none))
def xwt_0_2_3_1 (p : Nat) : Option (List Nat) := bif Nat.ble p 330 then (bif Nat.ble p 329 then (bif Nat.beq p 329 then some [1, 11, 297, 0, 2] else none) else (bif Nat.beq p 330 then some [1, 0, 27, 0, 3] else none)) else (bif Nat.ble p 331 then (bif Nat.beq p 331 then some [1, 11, 300, 0, 3] else none) else (bif Nat.beq p 332 then some [1, 0, 30, 0, 4] else none))
def xwt_0_2_3_2 (p : Nat) : Option (List Nat) := bif Nat.ble p 334 then (bif Nat.ble p 333 then (bif Nat.beq p 333 then some [1, 11, 303, 0, 4] else none) else (bif Nat.beq p 334 then some [1, 0, 33, 0, 5] else none)) else (bif Nat.ble p 335 then (bif Nat.beq p 335 then some [1, 11, 306, 0, 5] else none) else (bif Nat.beq p 336 then some [1, 0, 36, 0, 6] else none))
def xwt_0_2_3_3_0 (p : Nat) : Option (List Nat) := bif Nat.beq p 337 then some [1, 0, 39, 0, 7] else none
def xwt_0_2_3_3_1 (p : Nat) : Option (List Nat) := bif Nat.beq p 358 then some [13, 52] else none
def xwt_0_2_3_3_2 (p : Nat) : Option (List Nat) := bif Nat.beq p 359 then some [16, 52] else none
def xwt_0_2_3_3_3 (p : Nat) : Option (List Nat) := bif Nat.ble p 362 then (bif Nat.beq p 362 then some [0, 8, 11, 36] else none) else (bif Nat.beq p 363 then some [1, 8, 14, 8, 0] else none)
def xwt_0_2_3_3 (p : Nat) : Option (List Nat) := bif Nat.ble p 358 then (bif Nat.ble p 337 then (xwt_0_2_3_3_0 p) else (xwt_0_2_3_3_1 p)) else (bif Nat.ble p 359 then (xwt_0_2_3_3_2 p) else (xwt_0_2_3_3_3 p))
def xwt_0_2_3 (p : Nat) : Option (List Nat) := bif Nat.ble p 332 then (bif Nat.ble p 328 then (xwt_0_2_3_0 p) else (xwt_0_2_3_1 p)) else (bif Nat.ble p 336 then (xwt_0_2_3_2 p) else (xwt_0_2_3_3 p))
def xwt_0_2 (p : Nat) : Option (List Nat) := bif Nat.ble p 269 then (bif Nat.ble p 215 then (xwt_0_2_0 p) else (xwt_0_2_1 p)) else (bif Nat.ble p 322 then (xwt_0_2_2 p) else (xwt_0_2_3 p))
def xwt_0_3_0_0 (p : Nat) : Option (List Nat) := bif Nat.ble p 365 then (bif Nat.ble p 364 then (bif Nat.beq p 364 then some [1, 11, 320, 8, 0] else none) else (bif Nat.beq p 365 then some [1, 8, 20, 8, 1] else none)) else (bif Nat.ble p 366 then (bif Nat.beq p 366 then some [1, 11, 316, 8, 1] else none) else (bif Nat.beq p 367 then some [1, 8, 24, 8, 2] else none))
def xwt_0_3_0_1 (p : Nat) : Option (List Nat) := bif Nat.ble p 369 then (bif Nat.ble p 368 then (bif Nat.beq p 368 then some [1, 8, 28, 8, 3] else none) else (bif Nat.beq p 369 then some [1, 8, 31, 8, 4] else none)) else (bif Nat.ble p 384 then (bif Nat.beq p 384 then some [0, 11, 62, 36] else none) else (bif Nat.beq p 387 then some [13, 47] else none))
def xwt_0_3_0_2 (p : Nat) : Option (List Nat) := bif Nat.ble p 390 then (bif Nat.ble p 388 then (bif Nat.beq p 388 then some [16, 47] else none) else (bif Nat.beq p 390 then some [1, 7, 9, 7, 0] else none)) else (bif Nat.ble p 391 then (bif Nat.beq p 391 then some [1, 11, 333, 7, 0] else none) else (bif Nat.beq p 392 then some [1, 7, 15, 7, 1] else none))
def xwt_0_3_0_3_0 (p : Nat) : Option (List Nat) := bif Nat.beq p 393 then some [1, 11, 339, 7, 1] else none
def xwt_0_3_0_3_1 (p : Nat) : Option (List Nat) := bif Nat.beq p 394 then some [1, 7, 19, 7, 2] else none
def xwt_0_3_0_3_2 (p : Nat) : Option (List Nat) := bif Nat.beq p 395 then some [1, 11, 332, 7, 2] else none
def xwt_0_3_0_3_3 (p : Nat) : Option (List Nat) := bif Nat.ble p 403 then (bif Nat.beq p 403 then some [1, 11, 10, 11, 0] else none) else (bif Nat.beq p 404 then some [1, 11, 16, 11, 1] else none)
def xwt_0_3_0_3 (p : Nat) : Option (List Nat) := bif Nat.ble p 394 then (bif Nat.ble p 393 then (xwt_0_3_0_3_0 p) else (xwt_0_3_0_3_1 p)) else (bif Nat.ble p 395 then (xwt_0_3_0_3_2 p) else (xwt_0_3_0_3_3 p))
def xwt_0_3_0 (p : Nat) : Option (List Nat) := bif Nat.ble p 387 then (bif Nat.ble p 367 then (xwt_0_3_0_0 p) else (xwt_0_3_0_1 p)) else (bif Nat.ble p 392 then (xwt_0_3_0_2 p) else (xwt_0_3_0_3 p))
def xwt_0_3_1_0 (p : Nat) : Option (List Nat) := bif Nat.ble p 406 then (bif Nat.ble p 405 then (bif Nat.beq p 405 then some [1, 11, 22, 11, 2] else none) else (bif Nat.beq p 406 then some [1, 11, 29, 11, 3] else none)) else (bif Nat.ble p 407 then (bif Nat.beq p 407 then some [1, 11, 36, 11, 4] else none) else (bif Nat.beq p 408 then some [1, 11, 43, 11, 5] else none))
def xwt_0_3_1_1 (p : Nat) : Option (List Nat) := bif Nat.ble p 410 then (bif Nat.ble p 409 then (bif Nat.beq p 409 then some [1, 11, 50, 11, 6] else none) else (bif Nat.beq p 410 then some [1, 11, 56, 11, 7] else none)) else (bif Nat.ble p 411 then (bif Nat.beq p 411 then some [1, 11, 65, 11, 8] else none) else (bif Nat.beq p 412 then some [1, 11, 69, 11, 9] else none))
def xwt_0_3_1_2 (p : Nat) : Option (List Nat) := bif Nat.ble p 414 then (bif Nat.ble p 413 then (bif Nat.beq p 413 then some [1, 11, 72, 11, 10] else none) else (bif Nat.beq p 414 then some [1, 11, 75, 11, 11] else none)) else (bif Nat.ble p 415 then (bif Nat.beq p 415 then some [1, 11, 78, 11, 12] else none) else (bif Nat.beq p 416 then some [1, 11, 82, 11, 13] else none))
def xwt_0_3_1_3_0 (p : Nat) : Option (List Nat) := bif Nat.beq p 417 then some [1, 11, 86, 11, 14] else none
def xwt_0_3_1_3_1 (p : Nat) : Option (List Nat) := bif Nat.beq p 449 then some [0, 13, 13, 74] else none
def xwt_0_3_1_3_2 (p : Nat) : Option (List Nat) := bif Nat.beq p 450 then some [13, 74] else none
def xwt_0_3_1_3_3 (p : Nat) : Option (List Nat) := bif Nat.ble p 451 then (bif Nat.beq p 451 then some [15, 74] else none) else (bif Nat.beq p 452 then some [16, 74] else none)
def xwt_0_3_1_3 (p : Nat) : Option (List Nat) := bif Nat.ble p 449 then (bif Nat.ble p 417 then (xwt_0_3_1_3_0 p) else (xwt_0_3_1_3_1 p)) else (bif Nat.ble p 450 then (xwt_0_3_1_3_2 p) else (xwt_0_3_1_3_3 p))
def xwt_0_3_1 (p : Nat) : Option (List Nat) := bif Nat.ble p 412 then (bif Nat.ble p 408 then (xwt_0_3_1_0 p) else (xwt_0_3_1_1 p)) else (bif Nat.ble p 416 then (xwt_0_3_1_2 p) else (xwt_0_3_1_3 p))
def xwt_0_3_2_0 (p : Nat) : Option (List Nat) := bif Nat.ble p 455 then (bif Nat.ble p 453 then (bif Nat.beq p 453 then some [0, 11, 94, 118] else none) else (bif Nat.beq p 455 then some [13, 118] else none)) else (bif Nat.ble p 456 then (bif Nat.beq p 456 then some [16, 118] else none) else (bif Nat.beq p 458 then some [0, 11, 101, 37] else none))
def xwt_0_3_2_1 (p : Nat) : Option (List Nat) := bif Nat.ble p 460 then (bif Nat.ble p 459 then (bif Nat.beq p 459 then some [13, 37] else none) else (bif Nat.beq p 460 then some [15, 37] else none)) else (bif Nat.ble p 461 then (bif Nat.beq p 461 then some [16, 37] else none) else (bif Nat.beq p 462 then some [0, 13, 18, 75] else none))
def xwt_0_3_2_2 (p : Nat) : Option (List Nat) := bif Nat.ble p 464 then (bif Nat.ble p 463 then (bif Nat.beq p 463 then some [13, 75] else none) else (bif Nat.beq p 464 then some [15, 75] else none)) else (bif Nat.ble p 465 then (bif Nat.beq p 465 then some [16, 75] else none) else (bif Nat.beq p 466 then some [0, 11, 104, 120] else none))
def xwt_0_3_2_3_0 (p : Nat) : Option (List Nat) := bif Nat.beq p 468 then some [13, 120] else none
def xwt_0_3_2_3_1 (p : Nat) : Option (List Nat) := bif Nat.beq p 469 then some [16, 120] else none
def xwt_0_3_2_3_2 (p : Nat) : Option (List Nat) := bif Nat.beq p 470 then some [0, 11, 108, 130] else none
def xwt_0_3_2_3_3 (p : Nat) : Option (List Nat) := bif Nat.ble p 471 then (bif Nat.beq p 471 then some [14, 130] else none) else (bif Nat.beq p 472 then some [16, 130] else none)
def xwt_0_3_2_3 (p : Nat) : Option (List Nat) := bif Nat.ble p 469 then (bif Nat.ble p 468 then (xwt_0_3_2_3_0 p) else (xwt_0_3_2_3_1 p)) else (bif Nat.ble p 470 then (xwt_0_3_2_3_2 p) else (xwt_0_3_2_3_3 p))
def xwt_0_3_2 (p : Nat) : Option (List Nat) := bif Nat.ble p 462 then (bif Nat.ble p 458 then (xwt_0_3_2_0 p) else (xwt_0_3_2_1 p)) else (bif Nat.ble p 466 then (xwt_0_3_2_2 p) else (xwt_0_3_2_3 p))
def xwt_0_3_3_0 (p : Nat) : Option (List Nat) := bif Nat.ble p 474 then (bif Nat.ble p 473 then (bif Nat.beq p 473 then some [0, 11, 111, 38] else none) else (bif Nat.beq p 474 then some [13, 38] else none)) else (bif Nat.ble p 475 then (bif Nat.beq p 475 then some [15, 38] else none) else (bif Nat.beq p 476 then some [16, 38] else none))
def xwt_0_3_3_1 (p : Nat) : Option (List Nat) := bif Nat.ble p 478 then (bif Nat.ble p 477 then (bif Nat.beq p 477 then some [0, 13, 23, 76] else none) else (bif Nat.beq p 478 then some [13, 76] else none)) else (bif Nat.ble p 479 then (bif Nat.beq p 479 then some [15, 76] else none) else (bif Nat.beq p 480 then some [16, 76] else none))
def xwt_0_3_3_2 (p : Nat) : Option (List Nat) := bif Nat.ble p 483 then (bif Nat.ble p 481 then (bif Nat.beq p 481 then some [0, 11, 117, 119] else none) else (bif Nat.beq p 483 then some [13, 119] else none)) else (bif Nat.ble p 484 then (bif Nat.beq p 484 then some [16, 119] else none) else (bif Nat.beq p 485 then some [0, 13, 27, 77] else none))
def xwt_0_3_3_3_0 (p : Nat) : Option (List Nat) := bif Nat.beq p 486 then some [13, 77] else none
def xwt_0_3_3_3_1 (p : Nat) : Option (List Nat) := bif Nat.beq p 487 then some [15, 77] else none
def xwt_0_3_3_3_2 (p : Nat) : Option (List Nat) := bif Nat.beq p 488 then some [16, 77] else none
def xwt_0_3_3_3_3 (p : Nat) : Option (List Nat) := bif Nat.ble p 489 then (bif Nat.beq p 489 then some [0, 13, 32, 78] else none) else (bif Nat.beq p 490 then some [13, 78] else none)
def xwt_0_3_3_3 (p : Nat) : Option (List Nat) := bif Nat.ble p 487 then (bif Nat.ble p 486 then (xwt_0_3_3_3_0 p) else (xwt_0_3_3_3_1 p)) else (bif Nat.ble p 488 then (xwt_0_3_3_3_2 p) else (xwt_0_3_3_3_3 p))
def xwt_0_3_3 (p : Nat) : Option (List Nat) := bif Nat.ble p 480 then (bif Nat.ble p 476 then (xwt_0_3_3_0 p) else (xwt_0_3_3_1 p)) else (bif Nat.ble p 485 then (xwt_0_3_3_2 p) else (xwt_0_3_3_3 p))
def xwt_0_3 (p : Nat) : Option (List Nat) := bif Nat.ble p 452 then (bif Nat.ble p 404 then (xwt_0_3_0 p) else (xwt_0_3_1 p)) else (bif Nat.ble p 472 then (xwt_0_3_2 p) else (xwt_0_3_3 p))
def xwt_0 (p : Nat) : Option (List Nat) := bif Nat.ble p 198 then (bif Nat.ble p 67 then (xwt_0_0 p) else (xwt_0_1 p)) else (bif Nat.ble p 363 then (xwt_0_2 p) else (xwt_0_3 p))
def xwt_1_0_0_0 (p : Nat) : Option (List Nat) := bif Nat.ble p 492 then (bif Nat.ble p 491 then (bif Nat.beq p 491 then some [15, 78] else none) else (bif Nat.beq p 492 then some [16, 78] else none)) else (bif Nat.ble p 493 then (bif Nat.beq p 493 then some [0, 11, 121, 64] else none) else (bif Nat.beq p 494 then some [13, 64] else none))
def xwt_1_0_0_1 (p : Nat) : Option (List Nat) := bif Nat.ble p 496 then (bif Nat.ble p 495 then (bif Nat.beq p 495 then some [15, 64] else none) else (bif Nat.beq p 496 then some [16, 64] else none)) else (bif Nat.ble p 498 then (bif Nat.beq p 498 then some [0, 11, 125, 132] else none) else (bif Nat.beq p 499 then some [14, 132] else none))
def xwt_1_0_0_2 (p : Nat) : Option (List Nat) := bif Nat.ble p 501 then (bif Nat.ble p 500 then (bif Nat.beq p 500 then some [16, 132] else none) else (bif Nat.beq p 501 then some [0, 11, 128, 42] else none)) else (bif Nat.ble p 502 then (bif Nat.beq p 502 then some [13, 42] else none) else (bif Nat.beq p 503 then some [15, 42] else none))
def xwt_1_0_0_3_0 (p : Nat) : Option (List Nat) := bif Nat.beq p 504 then some [16, 42] else none
def xwt_1_0_0_3_1 (p : Nat) : Option (List Nat) := bif Nat.beq p 506 then some [14, 133] else none
def xwt_1_0_0_3_2 (p : Nat) : Option (List Nat) := bif Nat.beq p 507 then some [16, 133] else none
def xwt_1_0_0_3_3 (p : Nat) : Option (List Nat) := bif Nat.ble p 508 then (bif Nat.beq p 508 then some [0, 13, 36, 79] else none) else (bif Nat.beq p 509 then some [13, 79] else none)
def xwt_1_0_0_3 (p : Nat) : Option (List Nat) := bif Nat.ble p 506 then (bif Nat.ble p 504 then (xwt_1_0_0_3_0 p) else (xwt_1_0_0_3_1 p)) else (bif Nat.ble p 507 then (xwt_1_0_0_3_2 p) else (xwt_1_0_0_3_3 p))
def xwt_1_0_0 (p : Nat) : Option (List Nat) := bif Nat.ble p 499 then (bif Nat.ble p 494 then (xwt_1_0_0_0 p) else (xwt_1_0_0_1 p)) else (bif Nat.ble p 503 then (xwt_1_0_0_2 p) else (xwt_1_0_0_3 p))
def xwt_1_0_1_0 (p : Nat) : Option (List Nat) := bif Nat.ble p 511 then (bif Nat.ble p 510 then (bif Nat.beq p 510 then some [15, 79] else none) else (bif Nat.beq p 511 then some [16, 79] else none)) else (bif Nat.ble p 512 then (bif Nat.beq p 512 then some [0, 11, 131, 133] else none) else (bif Nat.beq p 513 then some [0, 13, 40, 80] else none))
def xwt_1_0_1_1 (p : Nat) : Option (List Nat) := bif Nat.ble p 515 then (bif Nat.ble p 514 then (bif Nat.beq p 514 then some [13, 80] else none) else (bif Nat.beq p 515 then some [15, 80] else none)) else (bif Nat.ble p 516 then (bif Nat.beq p 516 then some [16, 80] else none) else (bif Nat.beq p 517 then some [0, 11, 134, 124] else none))
def xwt_1_0_1_2 (p : Nat) : Option (List Nat) := bif Nat.ble p 519 then (bif Nat.ble p 518 then (bif Nat.beq p 518 then some [14, 124] else none) else (bif Nat.beq p 519 then some [16, 124] else none)) else (bif Nat.ble p 520 then (bif Nat.beq p 520 then some [0, 13, 44, 81] else none) else (bif Nat.beq p 521 then some [13, 81] else none))
def xwt_1_0_1_3_0 (p : Nat) : Option (List Nat) := bif Nat.beq p 522 then some [15, 81] else none
def xwt_1_0_1_3_1 (p : Nat) : Option (List Nat) := bif Nat.beq p 523 then some [16, 81] else none
def xwt_1_0_1_3_2 (p : Nat) : Option (List Nat) := bif Nat.beq p 524 then some [0, 11, 155, 121] else none
def xwt_1_0_1_3_3 (p : Nat) : Option (List Nat) := bif Nat.ble p 526 then (bif Nat.beq p 526 then some [13, 121] else none) else (bif Nat.beq p 527 then some [16, 121] else none)
def xwt_1_0_1_3 (p : Nat) : Option (List Nat) := bif Nat.ble p 523 then (bif Nat.ble p 522 then (xwt_1_0_1_3_0 p) else (xwt_1_0_1_3_1 p)) else (bif Nat.ble p 524 then (xwt_1_0_1_3_2 p) else (xwt_1_0_1_3_3 p))
def xwt_1_0_1 (p : Nat) : Option (List Nat) := bif Nat.ble p 517 then (bif Nat.ble p 513 then (xwt_1_0_1_0 p) else (xwt_1_0_1_1 p)) else (bif Nat.ble p 521 then (xwt_1_0_1_2 p) else (xwt_1_0_1_3 p))
def xwt_1_0_2_0 (p : Nat) : Option (List Nat) := bif Nat.ble p 529 then (bif Nat.ble p 528 then (bif Nat.beq p 528 then some [0, 11, 158, 32] else none) else (bif Nat.beq p 529 then some [13, 32] else none)) else (bif Nat.ble p 530 then (bif Nat.beq p 530 then some [15, 32] else none) else (bif Nat.beq p 531 then some [16, 32] else none))
def xwt_1_0_2_1 (p : Nat) : Option (List Nat) := bif Nat.ble p 533 then (bif Nat.ble p 532 then (bif Nat.beq p 532 then some [0, 13, 48, 82] else none) else (bif Nat.beq p 533 then some [13, 82] else none)) else (bif Nat.ble p 534 then (bif Nat.beq p 534 then some [15, 82] else none) else (bif Nat.beq p 535 then some [16, 82] else none))
def xwt_1_0_2_2 (p : Nat) : Option (List Nat) := bif Nat.ble p 537 then (bif Nat.ble p 536 then (bif Nat.beq p 536 then some [0, 11, 161, 123] else none) else (bif Nat.beq p 537 then some [14, 123] else none)) else (bif Nat.ble p 538 then (bif Nat.beq p 538 then some [16, 123] else none) else (bif Nat.beq p 539 then some [0, 11, 164, 127] else none))
def xwt_1_0_2_3_0 (p : Nat) : Option (List Nat) := bif Nat.beq p 540 then some [14, 127] else none
def xwt_1_0_2_3_1 (p : Nat) : Option (List Nat) := bif Nat.beq p 541 then some [16, 127] else none
def xwt_1_0_2_3_2 (p : Nat) : Option (List Nat) := bif Nat.beq p 544 then some [0, 13, 52, 83] else none
def xwt_1_0_2_3_3 (p : Nat) : Option (List Nat) := bif Nat.ble p 545 then (bif Nat.beq p 545 then some [13, 83] else none) else (bif Nat.beq p 546 then some [15, 83] else none)
def xwt_1_0_2_3 (p : Nat) : Option (List Nat) := bif Nat.ble p 541 then (bif Nat.ble p 540 then (xwt_1_0_2_3_0 p) else (xwt_1_0_2_3_1 p)) else (bif Nat.ble p 544 then (xwt_1_0_2_3_2 p) else (xwt_1_0_2_3_3 p))
def xwt_1_0_2 (p : Nat) : Option (List Nat) := bif Nat.ble p 535 then (bif Nat.ble p 531 then (xwt_1_0_2_0 p) else (xwt_1_0_2_1 p)) else (bif Nat.ble p 539 then (xwt_1_0_2_2 p) else (xwt_1_0_2_3 p))
def xwt_1_0_3_0 (p : Nat) : Option (List Nat) := bif Nat.ble p 548 then (bif Nat.ble p 547 then (bif Nat.beq p 547 then some [16, 83] else none) else (bif Nat.beq p 548 then some [0, 11, 168, 126] else none)) else (bif Nat.ble p 549 then (bif Nat.beq p 549 then some [14, 126] else none) else (bif Nat.beq p 550 then some [16, 126] else none))
def xwt_1_0_3_1 (p : Nat) : Option (List Nat) := bif Nat.ble p 552 then (bif Nat.ble p 551 then (bif Nat.beq p 551 then some [0, 11, 171, 33] else none) else (bif Nat.beq p 552 then some [13, 33] else none)) else (bif Nat.ble p 553 then (bif Nat.beq p 553 then some [15, 33] else none) else (bif Nat.beq p 554 then some [16, 33] else none))
def xwt_1_0_3_2 (p : Nat) : Option (List Nat) := bif Nat.ble p 556 then (bif Nat.ble p 555 then (bif Nat.beq p 555 then some [0, 13, 59, 84] else none) else (bif Nat.beq p 556 then some [13, 84] else none)) else (bif Nat.ble p 557 then (bif Nat.beq p 557 then some [15, 84] else none) else (bif Nat.beq p 558 then some [16, 84] else none))
def xwt_1_0_3_3_0 (p : Nat) : Option (List Nat) := bif Nat.beq p 559 then some [0, 13, 64, 85] else none
def xwt_1_0_3_3_1 (p : Nat) : Option (List Nat) := bif Nat.beq p 560 then some [13, 85] else none
def xwt_1_0_3_3_2 (p : Nat) : Option (List Nat) := bif Nat.beq p 561 then some [15, 85] else none
def xwt_1_0_3_3_3 (p : Nat) : Option (List Nat) := bif Nat.ble p 562 then (bif Nat.beq p 562 then some [16, 85] else none) else (bif Nat.beq p 563 then some [0, 11, 178, 125] else none)
def xwt_1_0_3_3 (p : Nat) : Option (List Nat) := bif Nat.ble p 560 then (bif Nat.ble p 559 then (xwt_1_0_3_3_0 p) else (xwt_1_0_3_3_1 p)) else (bif Nat.ble p 561 then (xwt_1_0_3_3_2 p) else (xwt_1_0_3_3_3 p))
def xwt_1_0_3 (p : Nat) : Option (List Nat) := bif Nat.ble p 554 then (bif Nat.ble p 550 then (xwt_1_0_3_0 p) else (xwt_1_0_3_1 p)) else (bif Nat.ble p 558 then (xwt_1_0_3_2 p) else (xwt_1_0_3_3 p))
def xwt_1_0 (p : Nat) : Option (List Nat) := bif Nat.ble p 527 then (bif Nat.ble p 509 then (xwt_1_0_0 p) else (xwt_1_0_1 p)) else (bif Nat.ble p 546 then (xwt_1_0_2 p) else (xwt_1_0_3 p))
def xwt_1_1_0_0 (p : Nat) : Option (List Nat) := bif Nat.ble p 565 then (bif Nat.ble p 564 then (bif Nat.beq p 564 then some [14, 125] else none) else (bif Nat.beq p 565 then some [16, 125] else none)) else (bif Nat.ble p 568 then (bif Nat.beq p 568 then some [0, 11, 185, 22] else none) else (bif Nat.beq p 569 then some [13, 22] else none))
def xwt_1_1_0_1 (p : Nat) : Option (List Nat) := bif Nat.ble p 571 then (bif Nat.ble p 570 then (bif Nat.beq p 570 then some [15, 22] else none) else (bif Nat.beq p 571 then some [16, 22] else none)) else (bif Nat.ble p 572 then (bif Nat.beq p 572 then some [0, 4, 33, 37] else none) else (bif Nat.beq p 573 then some [0, 4, 36, 25] else none))
def xwt_1_1_0_2 (p : Nat) : Option (List Nat) := bif Nat.ble p 576 then (bif Nat.ble p 575 then (bif Nat.beq p 575 then some [13, 25] else none) else (bif Nat.beq p 576 then some [16, 25] else none)) else (bif Nat.ble p 577 then (bif Nat.beq p 577 then some [0, 4, 47, 26] else none) else (bif Nat.beq p 579 then some [13, 26] else none))
def xwt_1_1_0_3_0 (p : Nat) : Option (List Nat) := bif Nat.beq p 580 then some [16, 26] else none
def xwt_1_1_0_3_1 (p : Nat) : Option (List Nat) := bif Nat.beq p 581 then some [0, 4, 51, 23] else none
def xwt_1_1_0_3_2 (p : Nat) : Option (List Nat) := bif Nat.beq p 583 then some [13, 23] else none
def xwt_1_1_0_3_3 (p : Nat) : Option (List Nat) := bif Nat.ble p 584 then (bif Nat.beq p 584 then some [16, 23] else none) else (bif Nat.beq p 585 then some [0, 4, 64, 30] else none)
def xwt_1_1_0_3 (p : Nat) : Option (List Nat) := bif Nat.ble p 581 then (bif Nat.ble p 580 then (xwt_1_1_0_3_0 p) else (xwt_1_1_0_3_1 p)) else (bif Nat.ble p 583 then (xwt_1_1_0_3_2 p) else (xwt_1_1_0_3_3 p))
def xwt_1_1_0 (p : Nat) : Option (List Nat) := bif Nat.ble p 573 then (bif Nat.ble p 569 then (xwt_1_1_0_0 p) else (xwt_1_1_0_1 p)) else (bif Nat.ble p 579 then (xwt_1_1_0_2 p) else (xwt_1_1_0_3 p))
def xwt_1_1_1_0 (p : Nat) : Option (List Nat) := bif Nat.ble p 587 then (bif Nat.ble p 586 then (bif Nat.beq p 586 then some [14, 30] else none) else (bif Nat.beq p 587 then some [16, 30] else none)) else (bif Nat.ble p 588 then (bif Nat.beq p 588 then some [0, 4, 67, 29] else none) else (bif Nat.beq p 590 then some [13, 29] else none))
def xwt_1_1_1_1 (p : Nat) : Option (List Nat) := bif Nat.ble p 592 then (bif Nat.ble p 591 then (bif Nat.beq p 591 then some [16, 29] else none) else (bif Nat.beq p 592 then some [0, 4, 61, 38] else none)) else (bif Nat.ble p 677 then (bif Nat.beq p 677 then some [0, 4, 75, 27] else none) else (bif Nat.beq p 679 then some [13, 27] else none))
def xwt_1_1_1_2 (p : Nat) : Option (List Nat) := bif Nat.ble p 681 then (bif Nat.ble p 680 then (bif Nat.beq p 680 then some [16, 27] else none) else (bif Nat.beq p 681 then some [0, 4, 78, 28] else none)) else (bif Nat.ble p 683 then (bif Nat.beq p 683 then some [13, 28] else none) else (bif Nat.beq p 684 then some [16, 28] else none))
def xwt_1_1_1_3_0 (p : Nat) : Option (List Nat) := bif Nat.beq p 685 then some [0, 4, 55, 24] else none
def xwt_1_1_1_3_1 (p : Nat) : Option (List Nat) := bif Nat.beq p 686 then some [14, 24] else none
def xwt_1_1_1_3_2 (p : Nat) : Option (List Nat) := bif Nat.beq p 687 then some [16, 24] else none
def xwt_1_1_1_3_3 (p : Nat) : Option (List Nat) := bif Nat.ble p 688 then (bif Nat.beq p 688 then some [0, 11, 201, 39] else none) else (bif Nat.beq p 689 then some [13, 39] else none)
def xwt_1_1_1_3 (p : Nat) : Option (List Nat) := bif Nat.ble p 686 then (bif Nat.ble p 685 then (xwt_1_1_1_3_0 p) else (xwt_1_1_1_3_1 p)) else (bif Nat.ble p 687 then (xwt_1_1_1_3_2 p) else (xwt_1_1_1_3_3 p))
def xwt_1_1_1 (p : Nat) : Option (List Nat) := bif Nat.ble p 679 then (bif Nat.ble p 590 then (xwt_1_1_1_0 p) else (xwt_1_1_1_1 p)) else (bif Nat.ble p 684 then (xwt_1_1_1_2 p) else (xwt_1_1_1_3 p))
def xwt_1_1_2_0 (p : Nat) : Option (List Nat) := bif Nat.ble p 691 then (bif Nat.ble p 690 then (bif Nat.beq p 690 then some [15, 39] else none) else (bif Nat.beq p 691 then some [16, 39] else none)) else (bif Nat.ble p 696 then (bif Nat.beq p 696 then some [0, 13, 68, 86] else none) else (bif Nat.beq p 697 then some [13, 86] else none))
def xwt_1_1_2_1 (p : Nat) : Option (List Nat) := bif Nat.ble p 699 then (bif Nat.ble p 698 then (bif Nat.beq p 698 then some [15, 86] else none) else (bif Nat.beq p 699 then some [16, 86] else none)) else (bif Nat.ble p 700 then (bif Nat.beq p 700 then some [0, 11, 205, 58] else none) else (bif Nat.beq p 701 then some [13, 58] else none))
def xwt_1_1_2_2 (p : Nat) : Option (List Nat) := bif Nat.ble p 703 then (bif Nat.ble p 702 then (bif Nat.beq p 702 then some [15, 58] else none) else (bif Nat.beq p 703 then some [16, 58] else none)) else (bif Nat.ble p 704 then (bif Nat.beq p 704 then some [0, 13, 72, 87] else none) else (bif Nat.beq p 705 then some [13, 87] else none))
def xwt_1_1_2_3_0 (p : Nat) : Option (List Nat) := bif Nat.beq p 706 then some [15, 87] else none
def xwt_1_1_2_3_1 (p : Nat) : Option (List Nat) := bif Nat.beq p 707 then some [16, 87] else none
def xwt_1_1_2_3_2 (p : Nat) : Option (List Nat) := bif Nat.beq p 708 then some [0, 11, 209, 65] else none
def xwt_1_1_2_3_3 (p : Nat) : Option (List Nat) := bif Nat.ble p 709 then (bif Nat.beq p 709 then some [13, 65] else none) else (bif Nat.beq p 710 then some [15, 65] else none)
def xwt_1_1_2_3 (p : Nat) : Option (List Nat) := bif Nat.ble p 707 then (bif Nat.ble p 706 then (xwt_1_1_2_3_0 p) else (xwt_1_1_2_3_1 p)) else (bif Nat.ble p 708 then (xwt_1_1_2_3_2 p) else (xwt_1_1_2_3_3 p))
def xwt_1_1_2 (p : Nat) : Option (List Nat) := bif Nat.ble p 701 then (bif Nat.ble p 697 then (xwt_1_1_2_0 p) else (xwt_1_1_2_1 p)) else (bif Nat.ble p 705 then (xwt_1_1_2_2 p) else (xwt_1_1_2_3 p))
def xwt_1_1_3_0 (p : Nat) : Option (List Nat) := bif Nat.ble p 712 then (bif Nat.ble p 711 then (bif Nat.beq p 711 then some [16, 65] else none) else (bif Nat.beq p 712 then some [0, 10, 91, 37] else none)) else (bif Nat.ble p 713 then (bif Nat.beq p 713 then some [0, 10, 97, 38] else none) else (bif Nat.beq p 714 then some [0, 11, 213, 68] else none))
def xwt_1_1_3_1 (p : Nat) : Option (List Nat) := bif Nat.ble p 716 then (bif Nat.ble p 715 then (bif Nat.beq p 715 then some [13, 68] else none) else (bif Nat.beq p 716 then some [15, 68] else none)) else (bif Nat.ble p 717 then (bif Nat.beq p 717 then some [16, 68] else none) else (bif Nat.beq p 718 then some [0, 10, 77, 39] else none))
def xwt_1_1_3_2 (p : Nat) : Option (List Nat) := bif Nat.ble p 720 then (bif Nat.ble p 719 then (bif Nat.beq p 719 then some [0, 10, 139, 66] else none) else (bif Nat.beq p 720 then some [13, 66] else none)) else (bif Nat.ble p 721 then (bif Nat.beq p 721 then some [15, 66] else none) else (bif Nat.beq p 722 then some [16, 66] else none))
def xwt_1_1_3_3_0 (p : Nat) : Option (List Nat) := bif Nat.beq p 723 then some [0, 10, 104, 43] else none
def xwt_1_1_3_3_1 (p : Nat) : Option (List Nat) := bif Nat.beq p 724 then some [13, 43] else none
def xwt_1_1_3_3_2 (p : Nat) : Option (List Nat) := bif Nat.beq p 725 then some [15, 43] else none
def xwt_1_1_3_3_3 (p : Nat) : Option (List Nat) := bif Nat.ble p 726 then (bif Nat.beq p 726 then some [16, 43] else none) else (bif Nat.beq p 728 then some [14, 131] else none)
def xwt_1_1_3_3 (p : Nat) : Option (List Nat) := bif Nat.ble p 724 then (bif Nat.ble p 723 then (xwt_1_1_3_3_0 p) else (xwt_1_1_3_3_1 p)) else (bif Nat.ble p 725 then (xwt_1_1_3_3_2 p) else (xwt_1_1_3_3_3 p))
def xwt_1_1_3 (p : Nat) : Option (List Nat) := bif Nat.ble p 718 then (bif Nat.ble p 714 then (xwt_1_1_3_0 p) else (xwt_1_1_3_1 p)) else (bif Nat.ble p 722 then (xwt_1_1_3_2 p) else (xwt_1_1_3_3 p))
def xwt_1_1 (p : Nat) : Option (List Nat) := bif Nat.ble p 689 then (bif Nat.ble p 585 then (xwt_1_1_0 p) else (xwt_1_1_1 p)) else (bif Nat.ble p 710 then (xwt_1_1_2 p) else (xwt_1_1_3 p))
def xwt_1_2_0_0 (p : Nat) : Option (List Nat) := bif Nat.ble p 730 then (bif Nat.ble p 729 then (bif Nat.beq p 729 then some [16, 131] else none) else (bif Nat.beq p 730 then some [0, 10, 108, 44] else none)) else (bif Nat.ble p 731 then (bif Nat.beq p 731 then some [13, 44] else none) else (bif Nat.beq p 732 then some [15, 44] else none))
def xwt_1_2_0_1 (p : Nat) : Option (List Nat) := bif Nat.ble p 734 then (bif Nat.ble p 733 then (bif Nat.beq p 733 then some [16, 44] else none) else (bif Nat.beq p 734 then some [0, 10, 111, 45] else none)) else (bif Nat.ble p 735 then (bif Nat.beq p 735 then some [13, 45] else none) else (bif Nat.beq p 736 then some [15, 45] else none))
def xwt_1_2_0_2 (p : Nat) : Option (List Nat) := bif Nat.ble p 738 then (bif Nat.ble p 737 then (bif Nat.beq p 737 then some [16, 45] else none) else (bif Nat.beq p 738 then some [0, 10, 117, 46] else none)) else (bif Nat.ble p 739 then (bif Nat.beq p 739 then some [13, 46] else none) else (bif Nat.beq p 740 then some [15, 46] else none))
def xwt_1_2_0_3_0 (p : Nat) : Option (List Nat) := bif Nat.beq p 741 then some [16, 46] else none
def xwt_1_2_0_3_1 (p : Nat) : Option (List Nat) := bif Nat.beq p 742 then some [0, 10, 120, 67] else none
def xwt_1_2_0_3_2 (p : Nat) : Option (List Nat) := bif Nat.beq p 744 then some [13, 67] else none
def xwt_1_2_0_3_3 (p : Nat) : Option (List Nat) := bif Nat.ble p 745 then (bif Nat.beq p 745 then some [16, 67] else none) else (bif Nat.beq p 746 then some [0, 10, 124, 58] else none)
def xwt_1_2_0_3 (p : Nat) : Option (List Nat) := bif Nat.ble p 742 then (bif Nat.ble p 741 then (xwt_1_2_0_3_0 p) else (xwt_1_2_0_3_1 p)) else (bif Nat.ble p 744 then (xwt_1_2_0_3_2 p) else (xwt_1_2_0_3_3 p))
def xwt_1_2_0 (p : Nat) : Option (List Nat) := bif Nat.ble p 736 then (bif Nat.ble p 732 then (xwt_1_2_0_0 p) else (xwt_1_2_0_1 p)) else (bif Nat.ble p 740 then (xwt_1_2_0_2 p) else (xwt_1_2_0_3 p))
def xwt_1_2_1_0 (p : Nat) : Option (List Nat) := bif Nat.ble p 748 then (bif Nat.ble p 747 then (bif Nat.beq p 747 then some [0, 10, 131, 59] else none) else (bif Nat.beq p 748 then some [13, 59] else none)) else (bif Nat.ble p 749 then (bif Nat.beq p 749 then some [15, 59] else none) else (bif Nat.beq p 750 then some [16, 59] else none))
def xwt_1_2_1_1 (p : Nat) : Option (List Nat) := bif Nat.ble p 752 then (bif Nat.ble p 751 then (bif Nat.beq p 751 then some [0, 9, 31, 60] else none) else (bif Nat.beq p 752 then some [14, 60] else none)) else (bif Nat.ble p 753 then (bif Nat.beq p 753 then some [16, 60] else none) else (bif Nat.beq p 754 then some [0, 9, 35, 61] else none))
def xwt_1_2_1_2 (p : Nat) : Option (List Nat) := bif Nat.ble p 756 then (bif Nat.ble p 755 then (bif Nat.beq p 755 then some [14, 61] else none) else (bif Nat.beq p 756 then some [16, 61] else none)) else (bif Nat.ble p 758 then (bif Nat.beq p 758 then some [0, 13, 76, 88] else none) else (bif Nat.beq p 759 then some [13, 88] else none))
def xwt_1_2_1_3_0 (p : Nat) : Option (List Nat) := bif Nat.beq p 760 then some [15, 88] else none
def xwt_1_2_1_3_1 (p : Nat) : Option (List Nat) := bif Nat.beq p 761 then some [16, 88] else none
def xwt_1_2_1_3_2 (p : Nat) : Option (List Nat) := bif Nat.beq p 762 then some [0, 11, 217, 41] else none
def xwt_1_2_1_3_3 (p : Nat) : Option (List Nat) := bif Nat.ble p 763 then (bif Nat.beq p 763 then some [13, 41] else none) else (bif Nat.beq p 764 then some [15, 41] else none)
def xwt_1_2_1_3 (p : Nat) : Option (List Nat) := bif Nat.ble p 761 then (bif Nat.ble p 760 then (xwt_1_2_1_3_0 p) else (xwt_1_2_1_3_1 p)) else (bif Nat.ble p 762 then (xwt_1_2_1_3_2 p) else (xwt_1_2_1_3_3 p))
def xwt_1_2_1 (p : Nat) : Option (List Nat) := bif Nat.ble p 754 then (bif Nat.ble p 750 then (xwt_1_2_1_0 p) else (xwt_1_2_1_1 p)) else (bif Nat.ble p 759 then (xwt_1_2_1_2 p) else (xwt_1_2_1_3 p))
def xwt_1_2_2_0 (p : Nat) : Option (List Nat) := bif Nat.ble p 766 then (bif Nat.ble p 765 then (bif Nat.beq p 765 then some [16, 41] else none) else (bif Nat.beq p 766 then some [0, 6, 32, 40] else none)) else (bif Nat.ble p 767 then (bif Nat.beq p 767 then some [13, 40] else none) else (bif Nat.beq p 768 then some [15, 40] else none))
def xwt_1_2_2_1 (p : Nat) : Option (List Nat) := bif Nat.ble p 770 then (bif Nat.ble p 769 then (bif Nat.beq p 769 then some [16, 40] else none) else (bif Nat.beq p 770 then some [0, 13, 80, 89] else none)) else (bif Nat.ble p 771 then (bif Nat.beq p 771 then some [13, 89] else none) else (bif Nat.beq p 772 then some [15, 89] else none))
def xwt_1_2_2_2 (p : Nat) : Option (List Nat) := bif Nat.ble p 774 then (bif Nat.ble p 773 then (bif Nat.beq p 773 then some [16, 89] else none) else (bif Nat.beq p 774 then some [0, 13, 84, 90] else none)) else (bif Nat.ble p 775 then (bif Nat.beq p 775 then some [13, 90] else none) else (bif Nat.beq p 776 then some [15, 90] else none))
def xwt_1_2_2_3_0 (p : Nat) : Option (List Nat) := bif Nat.beq p 777 then some [16, 90] else none
def xwt_1_2_2_3_1 (p : Nat) : Option (List Nat) := bif Nat.beq p 778 then some [0, 13, 88, 91] else none
def xwt_1_2_2_3_2 (p : Nat) : Option (List Nat) := bif Nat.beq p 779 then some [13, 91] else none
def xwt_1_2_2_3_3 (p : Nat) : Option (List Nat) := bif Nat.ble p 780 then (bif Nat.beq p 780 then some [15, 91] else none) else (bif Nat.beq p 781 then some [16, 91] else none)
def xwt_1_2_2_3 (p : Nat) : Option (List Nat) := bif Nat.ble p 778 then (bif Nat.ble p 777 then (xwt_1_2_2_3_0 p) else (xwt_1_2_2_3_1 p)) else (bif Nat.ble p 779 then (xwt_1_2_2_3_2 p) else (xwt_1_2_2_3_3 p))
def xwt_1_2_2 (p : Nat) : Option (List Nat) := bif Nat.ble p 772 then (bif Nat.ble p 768 then (xwt_1_2_2_0 p) else (xwt_1_2_2_1 p)) else (bif Nat.ble p 776 then (xwt_1_2_2_2 p) else (xwt_1_2_2_3 p))
def xwt_1_2_3_0 (p : Nat) : Option (List Nat) := bif Nat.ble p 784 then (bif Nat.ble p 782 then (bif Nat.beq p 782 then some [0, 11, 224, 128] else none) else (bif Nat.beq p 784 then some [13, 128] else none)) else (bif Nat.ble p 785 then (bif Nat.beq p 785 then some [16, 128] else none) else (bif Nat.beq p 786 then some [0, 11, 235, 66] else none))
def xwt_1_2_3_1 (p : Nat) : Option (List Nat) := bif Nat.ble p 788 then (bif Nat.ble p 787 then (bif Nat.beq p 787 then some [0, 13, 92, 92] else none) else (bif Nat.beq p 788 then some [13, 92] else none)) else (bif Nat.ble p 789 then (bif Nat.beq p 789 then some [15, 92] else none) else (bif Nat.beq p 790 then some [16, 92] else none))
def xwt_1_2_3_2 (p : Nat) : Option (List Nat) := bif Nat.ble p 793 then (bif Nat.ble p 791 then (bif Nat.beq p 791 then some [0, 11, 228, 129] else none) else (bif Nat.beq p 793 then some [13, 129] else none)) else (bif Nat.ble p 794 then (bif Nat.beq p 794 then some [16, 129] else none) else (bif Nat.beq p 795 then some [0, 13, 96, 93] else none))
def xwt_1_2_3_3_0 (p : Nat) : Option (List Nat) := bif Nat.beq p 796 then some [13, 93] else none
def xwt_1_2_3_3_1 (p : Nat) : Option (List Nat) := bif Nat.beq p 797 then some [15, 93] else none
def xwt_1_2_3_3_2 (p : Nat) : Option (List Nat) := bif Nat.beq p 798 then some [16, 93] else none
def xwt_1_2_3_3_3 (p : Nat) : Option (List Nat) := bif Nat.ble p 799 then (bif Nat.beq p 799 then some [0, 11, 232, 35] else none) else (bif Nat.beq p 800 then some [13, 35] else none)
def xwt_1_2_3_3 (p : Nat) : Option (List Nat) := bif Nat.ble p 797 then (bif Nat.ble p 796 then (xwt_1_2_3_3_0 p) else (xwt_1_2_3_3_1 p)) else (bif Nat.ble p 798 then (xwt_1_2_3_3_2 p) else (xwt_1_2_3_3_3 p))
def xwt_1_2_3 (p : Nat) : Option (List Nat) := bif Nat.ble p 790 then (bif Nat.ble p 786 then (xwt_1_2_3_0 p) else (xwt_1_2_3_1 p)) else (bif Nat.ble p 795 then (xwt_1_2_3_2 p) else (xwt_1_2_3_3 p))
def xwt_1_2 (p : Nat) : Option (List Nat) := bif Nat.ble p 764 then (bif Nat.ble p 746 then (xwt_1_2_0 p) else (xwt_1_2_1 p)) else (bif Nat.ble p 781 then (xwt_1_2_2 p) else (xwt_1_2_3 p))
def xwt_1_3_0_0 (p : Nat) : Option (List Nat) := bif Nat.ble p 802 then (bif Nat.ble p 801 then (bif Nat.beq p 801 then some [15, 35] else none) else (bif Nat.beq p 802 then some [16, 35] else none)) else (bif Nat.ble p 803 then (bif Nat.beq p 803 then some [0, 13, 100, 94] else none) else (bif Nat.beq p 804 then some [13, 94] else none))
def xwt_1_3_0_1 (p : Nat) : Option (List Nat) := bif Nat.ble p 806 then (bif Nat.ble p 805 then (bif Nat.beq p 805 then some [15, 94] else none) else (bif Nat.beq p 806 then some [16, 94] else none)) else (bif Nat.ble p 807 then (bif Nat.beq p 807 then some [0, 11, 239, 16] else none) else (bif Nat.beq p 808 then some [13, 16] else none))
def xwt_1_3_0_2 (p : Nat) : Option (List Nat) := bif Nat.ble p 810 then (bif Nat.ble p 809 then (bif Nat.beq p 809 then some [15, 16] else none) else (bif Nat.beq p 810 then some [16, 16] else none)) else (bif Nat.ble p 811 then (bif Nat.beq p 811 then some [0, 3, 28, 18] else none) else (bif Nat.beq p 813 then some [13, 18] else none))
def xwt_1_3_0_3_0 (p : Nat) : Option (List Nat) := bif Nat.beq p 814 then some [16, 18] else none
def xwt_1_3_0_3_1 (p : Nat) : Option (List Nat) := bif Nat.beq p 815 then some [0, 3, 58, 41] else none
def xwt_1_3_0_3_2 (p : Nat) : Option (List Nat) := bif Nat.beq p 816 then some [0, 3, 51, 39] else none
def xwt_1_3_0_3_3 (p : Nat) : Option (List Nat) := bif Nat.ble p 817 then (bif Nat.beq p 817 then some [0, 3, 32, 17] else none) else (bif Nat.beq p 819 then some [13, 17] else none)
def xwt_1_3_0_3 (p : Nat) : Option (List Nat) := bif Nat.ble p 815 then (bif Nat.ble p 814 then (xwt_1_3_0_3_0 p) else (xwt_1_3_0_3_1 p)) else (bif Nat.ble p 816 then (xwt_1_3_0_3_2 p) else (xwt_1_3_0_3_3 p))
def xwt_1_3_0 (p : Nat) : Option (List Nat) := bif Nat.ble p 808 then (bif Nat.ble p 804 then (xwt_1_3_0_0 p) else (xwt_1_3_0_1 p)) else (bif Nat.ble p 813 then (xwt_1_3_0_2 p) else (xwt_1_3_0_3 p))
def xwt_1_3_1_0 (p : Nat) : Option (List Nat) := bif Nat.ble p 821 then (bif Nat.ble p 820 then (bif Nat.beq p 820 then some [16, 17] else none) else (bif Nat.beq p 821 then some [0, 3, 45, 35] else none)) else (bif Nat.ble p 822 then (bif Nat.beq p 822 then some [0, 3, 54, 66] else none) else (bif Nat.beq p 823 then some [0, 13, 104, 95] else none))
def xwt_1_3_1_1 (p : Nat) : Option (List Nat) := bif Nat.ble p 825 then (bif Nat.ble p 824 then (bif Nat.beq p 824 then some [13, 95] else none) else (bif Nat.beq p 825 then some [15, 95] else none)) else (bif Nat.ble p 826 then (bif Nat.beq p 826 then some [16, 95] else none) else (bif Nat.beq p 827 then some [0, 11, 244, 20] else none))
def xwt_1_3_1_2 (p : Nat) : Option (List Nat) := bif Nat.ble p 829 then (bif Nat.ble p 828 then (bif Nat.beq p 828 then some [13, 20] else none) else (bif Nat.beq p 829 then some [15, 20] else none)) else (bif Nat.ble p 830 then (bif Nat.beq p 830 then some [16, 20] else none) else (bif Nat.beq p 831 then some [0, 3, 73, 19] else none))
def xwt_1_3_1_3_0 (p : Nat) : Option (List Nat) := bif Nat.beq p 832 then some [13, 19] else none
def xwt_1_3_1_3_1 (p : Nat) : Option (List Nat) := bif Nat.beq p 833 then some [15, 19] else none
def xwt_1_3_1_3_2 (p : Nat) : Option (List Nat) := bif Nat.beq p 834 then some [16, 19] else none
def xwt_1_3_1_3_3 (p : Nat) : Option (List Nat) := bif Nat.ble p 835 then (bif Nat.beq p 835 then some [0, 3, 67, 238] else none) else (bif Nat.beq p 836 then some [14, 238] else none)
def xwt_1_3_1_3 (p : Nat) : Option (List Nat) := bif Nat.ble p 833 then (bif Nat.ble p 832 then (xwt_1_3_1_3_0 p) else (xwt_1_3_1_3_1 p)) else (bif Nat.ble p 834 then (xwt_1_3_1_3_2 p) else (xwt_1_3_1_3_3 p))
def xwt_1_3_1 (p : Nat) : Option (List Nat) := bif Nat.ble p 827 then (bif Nat.ble p 823 then (xwt_1_3_1_0 p) else (xwt_1_3_1_1 p)) else (bif Nat.ble p 831 then (xwt_1_3_1_2 p) else (xwt_1_3_1_3 p))
def xwt_1_3_2_0 (p : Nat) : Option (List Nat) := bif Nat.ble p 841 then (bif Nat.ble p 837 then (bif Nat.beq p 837 then some [16, 238] else none) else (bif Nat.beq p 841 then some [0, 11, 247, 19] else none)) else (bif Nat.ble p 842 then (bif Nat.beq p 842 then some [0, 13, 108, 96] else none) else (bif Nat.beq p 843 then some [13, 96] else none))
def xwt_1_3_2_1 (p : Nat) : Option (List Nat) := bif Nat.ble p 845 then (bif Nat.ble p 844 then (bif Nat.beq p 844 then some [15, 96] else none) else (bif Nat.beq p 845 then some [16, 96] else none)) else (bif Nat.ble p 846 then (bif Nat.beq p 846 then some [0, 13, 112, 97] else none) else (bif Nat.beq p 847 then some [13, 97] else none))
def xwt_1_3_2_2 (p : Nat) : Option (List Nat) := bif Nat.ble p 849 then (bif Nat.ble p 848 then (bif Nat.beq p 848 then some [15, 97] else none) else (bif Nat.beq p 849 then some [16, 97] else none)) else (bif Nat.ble p 850 then (bif Nat.beq p 850 then some [0, 11, 250, 40] else none) else (bif Nat.beq p 851 then some [0, 13, 116, 98] else none))
def xwt_1_3_2_3_0 (p : Nat) : Option (List Nat) := bif Nat.beq p 852 then some [13, 98] else none
def xwt_1_3_2_3_1 (p : Nat) : Option (List Nat) := bif Nat.beq p 853 then some [15, 98] else none
def xwt_1_3_2_3_2 (p : Nat) : Option (List Nat) := bif Nat.beq p 854 then some [16, 98] else none
def xwt_1_3_2_3_3 (p : Nat) : Option (List Nat) := bif Nat.ble p 855 then (bif Nat.beq p 855 then some [0, 11, 254, 5] else none) else (bif Nat.beq p 856 then some [13, 5] else none)
def xwt_1_3_2_3 (p : Nat) : Option (List Nat) := bif Nat.ble p 853 then (bif Nat.ble p 852 then (xwt_1_3_2_3_0 p) else (xwt_1_3_2_3_1 p)) else (bif Nat.ble p 854 then (xwt_1_3_2_3_2 p) else (xwt_1_3_2_3_3 p))
def xwt_1_3_2 (p : Nat) : Option (List Nat) := bif Nat.ble p 847 then (bif Nat.ble p 843 then (xwt_1_3_2_0 p) else (xwt_1_3_2_1 p)) else (bif Nat.ble p 851 then (xwt_1_3_2_2 p) else (xwt_1_3_2_3 p))
def xwt_1_3_3_0 (p : Nat) : Option (List Nat) := bif Nat.ble p 858 then (bif Nat.ble p 857 then (bif Nat.beq p 857 then some [15, 5] else none) else (bif Nat.beq p 858 then some [16, 5] else none)) else (bif Nat.ble p 860 then (bif Nat.beq p 860 then some [0, 13, 120, 99] else none) else (bif Nat.beq p 861 then some [13, 99] else none))
def xwt_1_3_3_1_0 (p : Nat) : Option (List Nat) := bif Nat.beq p 862 then some [15, 99] else none
def xwt_1_3_3_1_1 (p : Nat) : Option (List Nat) := bif Nat.beq p 863 then some [16, 99] else none
def xwt_1_3_3_1_2 (p : Nat) : Option (List Nat) := bif Nat.beq p 865 then some [0, 13, 124, 100] else none
def xwt_1_3_3_1_3 (p : Nat) : Option (List Nat) := bif Nat.ble p 866 then (bif Nat.beq p 866 then some [13, 100] else none) else (bif Nat.beq p 867 then some [15, 100] else none)
def xwt_1_3_3_1 (p : Nat) : Option (List Nat) := bif Nat.ble p 863 then (bif Nat.ble p 862 then (xwt_1_3_3_1_0 p) else (xwt_1_3_3_1_1 p)) else (bif Nat.ble p 865 then (xwt_1_3_3_1_2 p) else (xwt_1_3_3_1_3 p))
def xwt_1_3_3_2 (p : Nat) : Option (List Nat) := bif Nat.ble p 869 then (bif Nat.ble p 868 then (bif Nat.beq p 868 then some [16, 100] else none) else (bif Nat.beq p 869 then some [0, 11, 260, 6] else none)) else (bif Nat.ble p 870 then (bif Nat.beq p 870 then some [13, 6] else none) else (bif Nat.beq p 871 then some [15, 6] else none))
def xwt_1_3_3_3_0 (p : Nat) : Option (List Nat) := bif Nat.beq p 872 then some [16, 6] else none
def xwt_1_3_3_3_1 (p : Nat) : Option (List Nat) := bif Nat.beq p 873 then some [0, 1, 38, 8] else none
def xwt_1_3_3_3_2 (p : Nat) : Option (List Nat) := bif Nat.beq p 875 then some [13, 8] else none
def xwt_1_3_3_3_3 (p : Nat) : Option (List Nat) := bif Nat.ble p 876 then (bif Nat.beq p 876 then some [16, 8] else none) else (bif Nat.beq p 877 then some [0, 1, 41, 7] else none)
def xwt_1_3_3_3 (p : Nat) : Option (List Nat) := bif Nat.ble p 873 then (bif Nat.ble p 872 then (xwt_1_3_3_3_0 p) else (xwt_1_3_3_3_1 p)) else (bif Nat.ble p 875 then (xwt_1_3_3_3_2 p) else (xwt_1_3_3_3_3 p))
def xwt_1_3_3 (p : Nat) : Option (List Nat) := bif Nat.ble p 867 then (bif Nat.ble p 861 then (xwt_1_3_3_0 p) else (xwt_1_3_3_1 p)) else (bif Nat.ble p 871 then (xwt_1_3_3_2 p) else (xwt_1_3_3_3 p))
def xwt_1_3 (p : Nat) : Option (List Nat) := bif Nat.ble p 836 then (bif Nat.ble p 819 then (xwt_1_3_0 p) else (xwt_1_3_1 p)) else (bif Nat.ble p 856 then (xwt_1_3_2 p) else (xwt_1_3_3 p))
def xwt_1 (p : Nat) : Option (List Nat) := bif Nat.ble p 728 then (bif Nat.ble p 563 then (xwt_1_0 p) else (xwt_1_1 p)) else (bif Nat.ble p 800 then (xwt_1_2 p) else (xwt_1_3 p))
def xwt_2_0_0_0 (p : Nat) : Option (List Nat) := bif Nat.ble p 880 then (bif Nat.ble p 879 then (bif Nat.beq p 879 then some [13, 7] else none) else (bif Nat.beq p 880 then some [16, 7] else none)) else (bif Nat.ble p 881 then (bif Nat.beq p 881 then some [0, 1, 45, 9] else none) else (bif Nat.beq p 883 then some [13, 9] else none))
def xwt_2_0_0_1 (p : Nat) : Option (List Nat) := bif Nat.ble p 885 then (bif Nat.ble p 884 then (bif Nat.beq p 884 then some [16, 9] else none) else (bif Nat.beq p 885 then some [0, 1, 48, 10] else none)) else (bif Nat.ble p 887 then (bif Nat.beq p 887 then some [13, 10] else none) else (bif Nat.beq p 888 then some [16, 10] else none))
def xwt_2_0_0_2 (p : Nat) : Option (List Nat) := bif Nat.ble p 890 then (bif Nat.ble p 889 then (bif Nat.beq p 889 then some [0, 13, 128, 101] else none) else (bif Nat.beq p 890 then some [13, 101] else none)) else (bif Nat.ble p 891 then (bif Nat.beq p 891 then some [15, 101] else none) else (bif Nat.beq p 892 then some [16, 101] else none))
def xwt_2_0_0_3_0 (p : Nat) : Option (List Nat) := bif Nat.beq p 893 then some [0, 11, 270, 69] else none
def xwt_2_0_0_3_1 (p : Nat) : Option (List Nat) := bif Nat.beq p 894 then some [13, 69] else none
def xwt_2_0_0_3_2 (p : Nat) : Option (List Nat) := bif Nat.beq p 895 then some [15, 69] else none
def xwt_2_0_0_3_3 (p : Nat) : Option (List Nat) := bif Nat.ble p 896 then (bif Nat.beq p 896 then some [16, 69] else none) else (bif Nat.beq p 897 then some [0, 10, 143, 12] else none)
def xwt_2_0_0_3 (p : Nat) : Option (List Nat) := bif Nat.ble p 894 then (bif Nat.ble p 893 then (xwt_2_0_0_3_0 p) else (xwt_2_0_0_3_1 p)) else (bif Nat.ble p 895 then (xwt_2_0_0_3_2 p) else (xwt_2_0_0_3_3 p))
def xwt_2_0_0 (p : Nat) : Option (List Nat) := bif Nat.ble p 888 then (bif Nat.ble p 883 then (xwt_2_0_0_0 p) else (xwt_2_0_0_1 p)) else (bif Nat.ble p 892 then (xwt_2_0_0_2 p) else (xwt_2_0_0_3 p))
def xwt_2_0_1_0 (p : Nat) : Option (List Nat) := bif Nat.ble p 899 then (bif Nat.ble p 898 then (bif Nat.beq p 898 then some [13, 12] else none) else (bif Nat.beq p 899 then some [15, 12] else none)) else (bif Nat.ble p 900 then (bif Nat.beq p 900 then some [16, 12] else none) else (bif Nat.beq p 902 then some [0, 11, 273, 70] else none))
def xwt_2_0_1_1 (p : Nat) : Option (List Nat) := bif Nat.ble p 904 then (bif Nat.ble p 903 then (bif Nat.beq p 903 then some [13, 70] else none) else (bif Nat.beq p 904 then some [15, 70] else none)) else (bif Nat.ble p 905 then (bif Nat.beq p 905 then some [16, 70] else none) else (bif Nat.beq p 906 then some [0, 13, 132, 102] else none))
def xwt_2_0_1_2 (p : Nat) : Option (List Nat) := bif Nat.ble p 908 then (bif Nat.ble p 907 then (bif Nat.beq p 907 then some [13, 102] else none) else (bif Nat.beq p 908 then some [15, 102] else none)) else (bif Nat.ble p 909 then (bif Nat.beq p 909 then some [16, 102] else none) else (bif Nat.beq p 910 then some [0, 11, 277, 71] else none))
def xwt_2_0_1_3_0 (p : Nat) : Option (List Nat) := bif Nat.beq p 911 then some [13, 71] else none
def xwt_2_0_1_3_1 (p : Nat) : Option (List Nat) := bif Nat.beq p 912 then some [15, 71] else none
def xwt_2_0_1_3_2 (p : Nat) : Option (List Nat) := bif Nat.beq p 913 then some [16, 71] else none
def xwt_2_0_1_3_3 (p : Nat) : Option (List Nat) := bif Nat.ble p 914 then (bif Nat.beq p 914 then some [0, 10, 147, 69] else none) else (bif Nat.beq p 915 then some [0, 10, 151, 70] else none)
def xwt_2_0_1_3 (p : Nat) : Option (List Nat) := bif Nat.ble p 912 then (bif Nat.ble p 911 then (xwt_2_0_1_3_0 p) else (xwt_2_0_1_3_1 p)) else (bif Nat.ble p 913 then (xwt_2_0_1_3_2 p) else (xwt_2_0_1_3_3 p))
def xwt_2_0_1 (p : Nat) : Option (List Nat) := bif Nat.ble p 906 then (bif Nat.ble p 902 then (xwt_2_0_1_0 p) else (xwt_2_0_1_1 p)) else (bif Nat.ble p 910 then (xwt_2_0_1_2 p) else (xwt_2_0_1_3 p))
def xwt_2_0_2_0 (p : Nat) : Option (List Nat) := bif Nat.ble p 917 then (bif Nat.ble p 916 then (bif Nat.beq p 916 then some [0, 13, 136, 103] else none) else (bif Nat.beq p 917 then some [13, 103] else none)) else (bif Nat.ble p 918 then (bif Nat.beq p 918 then some [15, 103] else none) else (bif Nat.beq p 919 then some [16, 103] else none))
def xwt_2_0_2_1 (p : Nat) : Option (List Nat) := bif Nat.ble p 921 then (bif Nat.ble p 920 then (bif Nat.beq p 920 then some [0, 11, 284, 13] else none) else (bif Nat.beq p 921 then some [13, 13] else none)) else (bif Nat.ble p 922 then (bif Nat.beq p 922 then some [15, 13] else none) else (bif Nat.beq p 923 then some [16, 13] else none))
def xwt_2_0_2_2 (p : Nat) : Option (List Nat) := bif Nat.ble p 925 then (bif Nat.ble p 924 then (bif Nat.beq p 924 then some [0, 13, 140, 104] else none) else (bif Nat.beq p 925 then some [13, 104] else none)) else (bif Nat.ble p 926 then (bif Nat.beq p 926 then some [15, 104] else none) else (bif Nat.beq p 927 then some [16, 104] else none))
def xwt_2_0_2_3_0 (p : Nat) : Option (List Nat) := bif Nat.beq p 928 then some [0, 11, 290, 1] else none
def xwt_2_0_2_3_1 (p : Nat) : Option (List Nat) := bif Nat.beq p 929 then some [13, 1] else none
def xwt_2_0_2_3_2 (p : Nat) : Option (List Nat) := bif Nat.beq p 930 then some [15, 1] else none
def xwt_2_0_2_3_3 (p : Nat) : Option (List Nat) := bif Nat.ble p 931 then (bif Nat.beq p 931 then some [16, 1] else none) else (bif Nat.beq p 932 then some [0, 11, 293, 2] else none)
def xwt_2_0_2_3 (p : Nat) : Option (List Nat) := bif Nat.ble p 929 then (bif Nat.ble p 928 then (xwt_2_0_2_3_0 p) else (xwt_2_0_2_3_1 p)) else (bif Nat.ble p 930 then (xwt_2_0_2_3_2 p) else (xwt_2_0_2_3_3 p))
def xwt_2_0_2 (p : Nat) : Option (List Nat) := bif Nat.ble p 923 then (bif Nat.ble p 919 then (xwt_2_0_2_0 p) else (xwt_2_0_2_1 p)) else (bif Nat.ble p 927 then (xwt_2_0_2_2 p) else (xwt_2_0_2_3 p))
def xwt_2_0_3_0 (p : Nat) : Option (List Nat) := bif Nat.ble p 934 then (bif Nat.ble p 933 then (bif Nat.beq p 933 then some [13, 2] else none) else (bif Nat.beq p 934 then some [15, 2] else none)) else (bif Nat.ble p 935 then (bif Nat.beq p 935 then some [16, 2] else none) else (bif Nat.beq p 936 then some [0, 0, 42, 3] else none))
def xwt_2_0_3_1 (p : Nat) : Option (List Nat) := bif Nat.ble p 939 then (bif Nat.ble p 938 then (bif Nat.beq p 938 then some [13, 3] else none) else (bif Nat.beq p 939 then some [16, 3] else none)) else (bif Nat.ble p 940 then (bif Nat.beq p 940 then some [0, 0, 52, 37] else none) else (bif Nat.beq p 941 then some [0, 0, 55, 38] else none))
def xwt_2_0_3_2 (p : Nat) : Option (List Nat) := bif Nat.ble p 944 then (bif Nat.ble p 942 then (bif Nat.beq p 942 then some [0, 0, 59, 68] else none) else (bif Nat.beq p 944 then some [0, 0, 46, 72] else none)) else (bif Nat.ble p 945 then (bif Nat.beq p 945 then some [13, 72] else none) else (bif Nat.beq p 946 then some [15, 72] else none))
def xwt_2_0_3_3_0 (p : Nat) : Option (List Nat) := bif Nat.beq p 947 then some [16, 72] else none
def xwt_2_0_3_3_1 (p : Nat) : Option (List Nat) := bif Nat.beq p 950 then some [0, 13, 145, 105] else none
def xwt_2_0_3_3_2 (p : Nat) : Option (List Nat) := bif Nat.beq p 951 then some [13, 105] else none
def xwt_2_0_3_3_3 (p : Nat) : Option (List Nat) := bif Nat.ble p 952 then (bif Nat.beq p 952 then some [15, 105] else none) else (bif Nat.beq p 953 then some [16, 105] else none)
def xwt_2_0_3_3 (p : Nat) : Option (List Nat) := bif Nat.ble p 950 then (bif Nat.ble p 947 then (xwt_2_0_3_3_0 p) else (xwt_2_0_3_3_1 p)) else (bif Nat.ble p 951 then (xwt_2_0_3_3_2 p) else (xwt_2_0_3_3_3 p))
def xwt_2_0_3 (p : Nat) : Option (List Nat) := bif Nat.ble p 941 then (bif Nat.ble p 936 then (xwt_2_0_3_0 p) else (xwt_2_0_3_1 p)) else (bif Nat.ble p 946 then (xwt_2_0_3_2 p) else (xwt_2_0_3_3 p))
def xwt_2_0 (p : Nat) : Option (List Nat) := bif Nat.ble p 915 then (bif Nat.ble p 897 then (xwt_2_0_0 p) else (xwt_2_0_1 p)) else (bif Nat.ble p 932 then (xwt_2_0_2 p) else (xwt_2_0_3 p))
def xwt_2_1_0_0 (p : Nat) : Option (List Nat) := bif Nat.ble p 955 then (bif Nat.ble p 954 then (bif Nat.beq p 954 then some [0, 13, 149, 106] else none) else (bif Nat.beq p 955 then some [13, 106] else none)) else (bif Nat.ble p 956 then (bif Nat.beq p 956 then some [15, 106] else none) else (bif Nat.beq p 957 then some [16, 106] else none))
def xwt_2_1_0_1 (p : Nat) : Option (List Nat) := bif Nat.ble p 959 then (bif Nat.ble p 958 then (bif Nat.beq p 958 then some [0, 11, 312, 53] else none) else (bif Nat.beq p 959 then some [13, 53] else none)) else (bif Nat.ble p 960 then (bif Nat.beq p 960 then some [15, 53] else none) else (bif Nat.beq p 961 then some [16, 53] else none))
def xwt_2_1_0_2 (p : Nat) : Option (List Nat) := bif Nat.ble p 963 then (bif Nat.ble p 962 then (bif Nat.beq p 962 then some [0, 8, 38, 37] else none) else (bif Nat.beq p 963 then some [0, 8, 41, 54] else none)) else (bif Nat.ble p 965 then (bif Nat.beq p 965 then some [13, 54] else none) else (bif Nat.beq p 966 then some [16, 54] else none))
def xwt_2_1_0_3_0 (p : Nat) : Option (List Nat) := bif Nat.beq p 967 then some [0, 8, 45, 56] else none
def xwt_2_1_0_3_1 (p : Nat) : Option (List Nat) := bif Nat.beq p 968 then some [14, 56] else none
def xwt_2_1_0_3_2 (p : Nat) : Option (List Nat) := bif Nat.beq p 969 then some [16, 56] else none
def xwt_2_1_0_3_3 (p : Nat) : Option (List Nat) := bif Nat.ble p 974 then (bif Nat.beq p 974 then some [0, 8, 53, 38] else none) else (bif Nat.beq p 975 then some [0, 8, 60, 55] else none)
def xwt_2_1_0_3 (p : Nat) : Option (List Nat) := bif Nat.ble p 968 then (bif Nat.ble p 967 then (xwt_2_1_0_3_0 p) else (xwt_2_1_0_3_1 p)) else (bif Nat.ble p 969 then (xwt_2_1_0_3_2 p) else (xwt_2_1_0_3_3 p))
def xwt_2_1_0 (p : Nat) : Option (List Nat) := bif Nat.ble p 961 then (bif Nat.ble p 957 then (xwt_2_1_0_0 p) else (xwt_2_1_0_1 p)) else (bif Nat.ble p 966 then (xwt_2_1_0_2 p) else (xwt_2_1_0_3 p))
def xwt_2_1_1_0 (p : Nat) : Option (List Nat) := bif Nat.ble p 978 then (bif Nat.ble p 977 then (bif Nat.beq p 977 then some [13, 55] else none) else (bif Nat.beq p 978 then some [16, 55] else none)) else (bif Nat.ble p 979 then (bif Nat.beq p 979 then some [0, 13, 153, 107] else none) else (bif Nat.beq p 980 then some [13, 107] else none))
def xwt_2_1_1_1 (p : Nat) : Option (List Nat) := bif Nat.ble p 982 then (bif Nat.ble p 981 then (bif Nat.beq p 981 then some [15, 107] else none) else (bif Nat.beq p 982 then some [16, 107] else none)) else (bif Nat.ble p 983 then (bif Nat.beq p 983 then some [0, 13, 157, 108] else none) else (bif Nat.beq p 984 then some [13, 108] else none))
def xwt_2_1_1_2 (p : Nat) : Option (List Nat) := bif Nat.ble p 986 then (bif Nat.ble p 985 then (bif Nat.beq p 985 then some [15, 108] else none) else (bif Nat.beq p 986 then some [16, 108] else none)) else (bif Nat.ble p 987 then (bif Nat.beq p 987 then some [0, 11, 323, 122] else none) else (bif Nat.beq p 988 then some [14, 122] else none))
def xwt_2_1_1_3_0 (p : Nat) : Option (List Nat) := bif Nat.beq p 989 then some [16, 122] else none
def xwt_2_1_1_3_1 (p : Nat) : Option (List Nat) := bif Nat.beq p 990 then some [0, 11, 326, 49] else none
def xwt_2_1_1_3_2 (p : Nat) : Option (List Nat) := bif Nat.beq p 991 then some [13, 49] else none
def xwt_2_1_1_3_3 (p : Nat) : Option (List Nat) := bif Nat.ble p 992 then (bif Nat.beq p 992 then some [15, 49] else none) else (bif Nat.beq p 993 then some [16, 49] else none)
def xwt_2_1_1_3 (p : Nat) : Option (List Nat) := bif Nat.ble p 990 then (bif Nat.ble p 989 then (xwt_2_1_1_3_0 p) else (xwt_2_1_1_3_1 p)) else (bif Nat.ble p 991 then (xwt_2_1_1_3_2 p) else (xwt_2_1_1_3_3 p))
def xwt_2_1_1 (p : Nat) : Option (List Nat) := bif Nat.ble p 984 then (bif Nat.ble p 980 then (xwt_2_1_1_0 p) else (xwt_2_1_1_1 p)) else (bif Nat.ble p 988 then (xwt_2_1_1_2 p) else (xwt_2_1_1_3 p))
def xwt_2_1_2_0 (p : Nat) : Option (List Nat) := bif Nat.ble p 995 then (bif Nat.ble p 994 then (bif Nat.beq p 994 then some [0, 13, 161, 109] else none) else (bif Nat.beq p 995 then some [13, 109] else none)) else (bif Nat.ble p 996 then (bif Nat.beq p 996 then some [15, 109] else none) else (bif Nat.beq p 997 then some [16, 109] else none))
def xwt_2_1_2_1 (p : Nat) : Option (List Nat) := bif Nat.ble p 999 then (bif Nat.ble p 998 then (bif Nat.beq p 998 then some [0, 11, 329, 48] else none) else (bif Nat.beq p 999 then some [13, 48] else none)) else (bif Nat.ble p 1000 then (bif Nat.beq p 1000 then some [15, 48] else none) else (bif Nat.beq p 1001 then some [16, 48] else none))
def xwt_2_1_2_2 (p : Nat) : Option (List Nat) := bif Nat.ble p 1003 then (bif Nat.ble p 1002 then (bif Nat.beq p 1002 then some [0, 11, 336, 50] else none) else (bif Nat.beq p 1003 then some [13, 50] else none)) else (bif Nat.ble p 1004 then (bif Nat.beq p 1004 then some [15, 50] else none) else (bif Nat.beq p 1005 then some [16, 50] else none))
def xwt_2_1_2_3_0 (p : Nat) : Option (List Nat) := bif Nat.beq p 1006 then some [0, 13, 165, 110] else none
def xwt_2_1_2_3_1 (p : Nat) : Option (List Nat) := bif Nat.beq p 1007 then some [13, 110] else none
def xwt_2_1_2_3_2 (p : Nat) : Option (List Nat) := bif Nat.beq p 1008 then some [15, 110] else none
def xwt_2_1_2_3_3 (p : Nat) : Option (List Nat) := bif Nat.ble p 1009 then (bif Nat.beq p 1009 then some [16, 110] else none) else (bif Nat.beq p 1010 then some [0, 11, 342, 51] else none)
def xwt_2_1_2_3 (p : Nat) : Option (List Nat) := bif Nat.ble p 1007 then (bif Nat.ble p 1006 then (xwt_2_1_2_3_0 p) else (xwt_2_1_2_3_1 p)) else (bif Nat.ble p 1008 then (xwt_2_1_2_3_2 p) else (xwt_2_1_2_3_3 p))
def xwt_2_1_2 (p : Nat) : Option (List Nat) := bif Nat.ble p 1001 then (bif Nat.ble p 997 then (xwt_2_1_2_0 p) else (xwt_2_1_2_1 p)) else (bif Nat.ble p 1005 then (xwt_2_1_2_2 p) else (xwt_2_1_2_3 p))
def xwt_2_1_3_0 (p : Nat) : Option (List Nat) := bif Nat.ble p 1012 then (bif Nat.ble p 1011 then (bif Nat.beq p 1011 then some [13, 51] else none) else (bif Nat.beq p 1012 then some [15, 51] else none)) else (bif Nat.ble p 1013 then (bif Nat.beq p 1013 then some [16, 51] else none) else (bif Nat.beq p 1015 then some [0, 13, 169, 111] else none))
def xwt_2_1_3_1 (p : Nat) : Option (List Nat) := bif Nat.ble p 1017 then (bif Nat.ble p 1016 then (bif Nat.beq p 1016 then some [13, 111] else none) else (bif Nat.beq p 1017 then some [15, 111] else none)) else (bif Nat.ble p 1018 then (bif Nat.beq p 1018 then some [16, 111] else none) else (bif Nat.beq p 1019 then some [0, 13, 173, 112] else none))
def xwt_2_1_3_2 (p : Nat) : Option (List Nat) := bif Nat.ble p 1021 then (bif Nat.ble p 1020 then (bif Nat.beq p 1020 then some [13, 112] else none) else (bif Nat.beq p 1021 then some [15, 112] else none)) else (bif Nat.ble p 1022 then (bif Nat.beq p 1022 then some [16, 112] else none) else (bif Nat.beq p 1023 then some [0, 11, 351, 63] else none))
def xwt_2_1_3_3_0 (p : Nat) : Option (List Nat) := bif Nat.beq p 1024 then some [13, 63] else none
def xwt_2_1_3_3_1 (p : Nat) : Option (List Nat) := bif Nat.beq p 1025 then some [15, 63] else none
def xwt_2_1_3_3_2 (p : Nat) : Option (List Nat) := bif Nat.beq p 1026 then some [16, 63] else none
def xwt_2_1_3_3_3 (p : Nat) : Option (List Nat) := bif Nat.ble p 1027 then (bif Nat.beq p 1027 then some [0, 10, 81, 34] else none) else (bif Nat.beq p 1028 then some [13, 34] else none)
def xwt_2_1_3_3 (p : Nat) : Option (List Nat) := bif Nat.ble p 1025 then (bif Nat.ble p 1024 then (xwt_2_1_3_3_0 p) else (xwt_2_1_3_3_1 p)) else (bif Nat.ble p 1026 then (xwt_2_1_3_3_2 p) else (xwt_2_1_3_3_3 p))
def xwt_2_1_3 (p : Nat) : Option (List Nat) := bif Nat.ble p 1019 then (bif Nat.ble p 1015 then (xwt_2_1_3_0 p) else (xwt_2_1_3_1 p)) else (bif Nat.ble p 1023 then (xwt_2_1_3_2 p) else (xwt_2_1_3_3 p))
def xwt_2_1 (p : Nat) : Option (List Nat) := bif Nat.ble p 993 then (bif Nat.ble p 975 then (xwt_2_1_0 p) else (xwt_2_1_1 p)) else (bif Nat.ble p 1010 then (xwt_2_1_2 p) else (xwt_2_1_3 p))
def xwt_2_2_0_0 (p : Nat) : Option (List Nat) := bif Nat.ble p 1030 then (bif Nat.ble p 1029 then (bif Nat.beq p 1029 then some [15, 34] else none) else (bif Nat.beq p 1030 then some [16, 34] else none)) else (bif Nat.ble p 1031 then (bif Nat.beq p 1031 then some [0, 10, 87, 14] else none) else (bif Nat.beq p 1032 then some [13, 14] else none))
def xwt_2_2_0_1 (p : Nat) : Option (List Nat) := bif Nat.ble p 1034 then (bif Nat.ble p 1033 then (bif Nat.beq p 1033 then some [15, 14] else none) else (bif Nat.beq p 1034 then some [16, 14] else none)) else (bif Nat.ble p 1035 then (bif Nat.beq p 1035 then some [0, 2, 33, 39] else none) else (bif Nat.beq p 1036 then some [0, 13, 177, 113] else none))
def xwt_2_2_0_2 (p : Nat) : Option (List Nat) := bif Nat.ble p 1038 then (bif Nat.ble p 1037 then (bif Nat.beq p 1037 then some [13, 113] else none) else (bif Nat.beq p 1038 then some [15, 113] else none)) else (bif Nat.ble p 1039 then (bif Nat.beq p 1039 then some [16, 113] else none) else (bif Nat.beq p 1040 then some [0, 13, 181, 114] else none))
def xwt_2_2_0_3_0 (p : Nat) : Option (List Nat) := bif Nat.beq p 1041 then some [13, 114] else none
def xwt_2_2_0_3_1 (p : Nat) : Option (List Nat) := bif Nat.beq p 1042 then some [15, 114] else none
def xwt_2_2_0_3_2 (p : Nat) : Option (List Nat) := bif Nat.beq p 1043 then some [16, 114] else none
def xwt_2_2_0_3_3 (p : Nat) : Option (List Nat) := bif Nat.ble p 1044 then (bif Nat.beq p 1044 then some [0, 13, 185, 115] else none) else (bif Nat.beq p 1045 then some [13, 115] else none)
def xwt_2_2_0_3 (p : Nat) : Option (List Nat) := bif Nat.ble p 1042 then (bif Nat.ble p 1041 then (xwt_2_2_0_3_0 p) else (xwt_2_2_0_3_1 p)) else (bif Nat.ble p 1043 then (xwt_2_2_0_3_2 p) else (xwt_2_2_0_3_3 p))
def xwt_2_2_0 (p : Nat) : Option (List Nat) := bif Nat.ble p 1036 then (bif Nat.ble p 1032 then (xwt_2_2_0_0 p) else (xwt_2_2_0_1 p)) else (bif Nat.ble p 1040 then (xwt_2_2_0_2 p) else (xwt_2_2_0_3 p))
def xwt_2_2_1_0 (p : Nat) : Option (List Nat) := bif Nat.ble p 1047 then (bif Nat.ble p 1046 then (bif Nat.beq p 1046 then some [15, 115] else none) else (bif Nat.beq p 1047 then some [16, 115] else none)) else (bif Nat.ble p 1048 then (bif Nat.beq p 1048 then some [0, 13, 189, 116] else none) else (bif Nat.beq p 1049 then some [13, 116] else none))
def xwt_2_2_1_1 (p : Nat) : Option (List Nat) := bif Nat.ble p 1051 then (bif Nat.ble p 1050 then (bif Nat.beq p 1050 then some [15, 116] else none) else (bif Nat.beq p 1051 then some [16, 116] else none)) else (bif Nat.ble p 1052 then (bif Nat.beq p 1052 then some [0, 13, 193, 117] else none) else (bif Nat.beq p 1053 then some [13, 117] else none))
def xwt_2_2_1_2 (p : Nat) : Option (List Nat) := bif Nat.ble p 1055 then (bif Nat.ble p 1054 then (bif Nat.beq p 1054 then some [15, 117] else none) else (bif Nat.beq p 1055 then some [16, 117] else none)) else (bif Nat.ble p 1058 then (bif Nat.beq p 1058 then some [0, 13, 12, 134] else none) else (bif Nat.beq p 1059 then some [13, 134] else none))
def xwt_2_2_1_3_0 (p : Nat) : Option (List Nat) := bif Nat.beq p 1060 then some [16, 134] else none
def xwt_2_2_1_3_1 (p : Nat) : Option (List Nat) := bif Nat.beq p 1062 then some [1, 12, 7, 12, 0] else none
def xwt_2_2_1_3_2 (p : Nat) : Option (List Nat) := bif Nat.beq p 1063 then some [1, 12, 13, 12, 1] else none
def xwt_2_2_1_3_3 (p : Nat) : Option (List Nat) := bif Nat.ble p 1064 then (bif Nat.beq p 1064 then some [1, 12, 292, 12, 2] else none) else (bif Nat.beq p 1065 then some [1, 12, 16, 12, 3] else none)
def xwt_2_2_1_3 (p : Nat) : Option (List Nat) := bif Nat.ble p 1062 then (bif Nat.ble p 1060 then (xwt_2_2_1_3_0 p) else (xwt_2_2_1_3_1 p)) else (bif Nat.ble p 1063 then (xwt_2_2_1_3_2 p) else (xwt_2_2_1_3_3 p))
def xwt_2_2_1 (p : Nat) : Option (List Nat) := bif Nat.ble p 1053 then (bif Nat.ble p 1049 then (xwt_2_2_1_0 p) else (xwt_2_2_1_1 p)) else (bif Nat.ble p 1059 then (xwt_2_2_1_2 p) else (xwt_2_2_1_3 p))
def xwt_2_2_2_0 (p : Nat) : Option (List Nat) := bif Nat.ble p 1067 then (bif Nat.ble p 1066 then (bif Nat.beq p 1066 then some [1, 12, 19, 12, 4] else none) else (bif Nat.beq p 1067 then some [1, 12, 22, 12, 5] else none)) else (bif Nat.ble p 1068 then (bif Nat.beq p 1068 then some [1, 12, 25, 12, 6] else none) else (bif Nat.beq p 1069 then some [1, 12, 133, 12, 7] else none))
def xwt_2_2_2_1 (p : Nat) : Option (List Nat) := bif Nat.ble p 1071 then (bif Nat.ble p 1070 then (bif Nat.beq p 1070 then some [1, 12, 166, 12, 8] else none) else (bif Nat.beq p 1071 then some [1, 12, 140, 12, 9] else none)) else (bif Nat.ble p 1072 then (bif Nat.beq p 1072 then some [1, 12, 137, 12, 10] else none) else (bif Nat.beq p 1073 then some [1, 12, 28, 12, 11] else none))
def xwt_2_2_2_2 (p : Nat) : Option (List Nat) := bif Nat.ble p 1075 then (bif Nat.ble p 1074 then (bif Nat.beq p 1074 then some [1, 12, 31, 12, 12] else none) else (bif Nat.beq p 1075 then some [1, 12, 34, 12, 13] else none)) else (bif Nat.ble p 1076 then (bif Nat.beq p 1076 then some [1, 12, 37, 12, 14] else none) else (bif Nat.beq p 1077 then some [1, 12, 206, 12, 15] else none))
def xwt_2_2_2_3_0 (p : Nat) : Option (List Nat) := bif Nat.beq p 1078 then some [1, 12, 218, 12, 16] else none
def xwt_2_2_2_3_1 (p : Nat) : Option (List Nat) := bif Nat.beq p 1079 then some [1, 12, 224, 12, 17] else none
def xwt_2_2_2_3_2 (p : Nat) : Option (List Nat) := bif Nat.beq p 1080 then some [1, 12, 40, 12, 18] else none
def xwt_2_2_2_3_3 (p : Nat) : Option (List Nat) := bif Nat.ble p 1081 then (bif Nat.beq p 1081 then some [1, 12, 255, 12, 19] else none) else (bif Nat.beq p 1082 then some [1, 12, 258, 12, 20] else none)
def xwt_2_2_2_3 (p : Nat) : Option (List Nat) := bif Nat.ble p 1079 then (bif Nat.ble p 1078 then (xwt_2_2_2_3_0 p) else (xwt_2_2_2_3_1 p)) else (bif Nat.ble p 1080 then (xwt_2_2_2_3_2 p) else (xwt_2_2_2_3_3 p))
def xwt_2_2_2 (p : Nat) : Option (List Nat) := bif Nat.ble p 1073 then (bif Nat.ble p 1069 then (xwt_2_2_2_0 p) else (xwt_2_2_2_1 p)) else (bif Nat.ble p 1077 then (xwt_2_2_2_2 p) else (xwt_2_2_2_3 p))
def xwt_2_2_3_0 (p : Nat) : Option (List Nat) := bif Nat.ble p 1084 then (bif Nat.ble p 1083 then (bif Nat.beq p 1083 then some [1, 12, 279, 12, 21] else none) else (bif Nat.beq p 1084 then some [1, 12, 43, 12, 22] else none)) else (bif Nat.ble p 1085 then (bif Nat.beq p 1085 then some [1, 12, 46, 12, 23] else none) else (bif Nat.beq p 1086 then some [1, 12, 49, 12, 24] else none))
def xwt_2_2_3_1 (p : Nat) : Option (List Nat) := bif Nat.ble p 1141 then (bif Nat.ble p 1087 then (bif Nat.beq p 1087 then some [1, 12, 52, 12, 25] else none) else (bif Nat.beq p 1141 then some [0, 13, 17, 159] else none)) else (bif Nat.ble p 1142 then (bif Nat.beq p 1142 then some [13, 159] else none) else (bif Nat.beq p 1143 then some [15, 159] else none))
def xwt_2_2_3_2 (p : Nat) : Option (List Nat) := bif Nat.ble p 1145 then (bif Nat.ble p 1144 then (bif Nat.beq p 1144 then some [16, 159] else none) else (bif Nat.beq p 1145 then some [0, 12, 112, 135] else none)) else (bif Nat.ble p 1147 then (bif Nat.beq p 1147 then some [13, 135] else none) else (bif Nat.beq p 1148 then some [16, 135] else none))
def xwt_2_2_3_3_0 (p : Nat) : Option (List Nat) := bif Nat.beq p 1150 then some [0, 13, 22, 160] else none
def xwt_2_2_3_3_1 (p : Nat) : Option (List Nat) := bif Nat.beq p 1151 then some [13, 160] else none
def xwt_2_2_3_3_2 (p : Nat) : Option (List Nat) := bif Nat.beq p 1152 then some [15, 160] else none
def xwt_2_2_3_3_3 (p : Nat) : Option (List Nat) := bif Nat.ble p 1153 then (bif Nat.beq p 1153 then some [16, 160] else none) else (bif Nat.beq p 1154 then some [0, 12, 115, 139] else none)
def xwt_2_2_3_3 (p : Nat) : Option (List Nat) := bif Nat.ble p 1151 then (bif Nat.ble p 1150 then (xwt_2_2_3_3_0 p) else (xwt_2_2_3_3_1 p)) else (bif Nat.ble p 1152 then (xwt_2_2_3_3_2 p) else (xwt_2_2_3_3_3 p))
def xwt_2_2_3 (p : Nat) : Option (List Nat) := bif Nat.ble p 1143 then (bif Nat.ble p 1086 then (xwt_2_2_3_0 p) else (xwt_2_2_3_1 p)) else (bif Nat.ble p 1148 then (xwt_2_2_3_2 p) else (xwt_2_2_3_3 p))
def xwt_2_2 (p : Nat) : Option (List Nat) := bif Nat.ble p 1065 then (bif Nat.ble p 1045 then (xwt_2_2_0 p) else (xwt_2_2_1 p)) else (bif Nat.ble p 1082 then (xwt_2_2_2 p) else (xwt_2_2_3 p))
def xwt_2_3_0_0 (p : Nat) : Option (List Nat) := bif Nat.ble p 1157 then (bif Nat.ble p 1156 then (bif Nat.beq p 1156 then some [13, 139] else none) else (bif Nat.beq p 1157 then some [16, 139] else none)) else (bif Nat.ble p 1158 then (bif Nat.beq p 1158 then some [0, 12, 56, 136] else none) else (bif Nat.beq p 1159 then some [14, 136] else none))
def xwt_2_3_0_1 (p : Nat) : Option (List Nat) := bif Nat.ble p 1161 then (bif Nat.ble p 1160 then (bif Nat.beq p 1160 then some [16, 136] else none) else (bif Nat.beq p 1161 then some [0, 12, 71, 142] else none)) else (bif Nat.ble p 1162 then (bif Nat.beq p 1162 then some [14, 142] else none) else (bif Nat.beq p 1163 then some [16, 142] else none))
def xwt_2_3_0_2 (p : Nat) : Option (List Nat) := bif Nat.ble p 1165 then (bif Nat.ble p 1164 then (bif Nat.beq p 1164 then some [0, 13, 26, 162] else none) else (bif Nat.beq p 1165 then some [13, 162] else none)) else (bif Nat.ble p 1166 then (bif Nat.beq p 1166 then some [15, 162] else none) else (bif Nat.beq p 1167 then some [16, 162] else none))
def xwt_2_3_0_3_0 (p : Nat) : Option (List Nat) := bif Nat.beq p 1168 then some [0, 12, 106, 145] else none
def xwt_2_3_0_3_1 (p : Nat) : Option (List Nat) := bif Nat.beq p 1170 then some [13, 145] else none
def xwt_2_3_0_3_2 (p : Nat) : Option (List Nat) := bif Nat.beq p 1171 then some [16, 145] else none
def xwt_2_3_0_3_3 (p : Nat) : Option (List Nat) := bif Nat.ble p 1172 then (bif Nat.beq p 1172 then some [0, 12, 118, 161] else none) else (bif Nat.beq p 1174 then some [13, 161] else none)
def xwt_2_3_0_3 (p : Nat) : Option (List Nat) := bif Nat.ble p 1170 then (bif Nat.ble p 1168 then (xwt_2_3_0_3_0 p) else (xwt_2_3_0_3_1 p)) else (bif Nat.ble p 1171 then (xwt_2_3_0_3_2 p) else (xwt_2_3_0_3_3 p))
def xwt_2_3_0 (p : Nat) : Option (List Nat) := bif Nat.ble p 1163 then (bif Nat.ble p 1159 then (xwt_2_3_0_0 p) else (xwt_2_3_0_1 p)) else (bif Nat.ble p 1167 then (xwt_2_3_0_2 p) else (xwt_2_3_0_3 p))
def xwt_2_3_1_0 (p : Nat) : Option (List Nat) := bif Nat.ble p 1176 then (bif Nat.ble p 1175 then (bif Nat.beq p 1175 then some [16, 161] else none) else (bif Nat.beq p 1176 then some [0, 13, 31, 163] else none)) else (bif Nat.ble p 1177 then (bif Nat.beq p 1177 then some [13, 163] else none) else (bif Nat.beq p 1178 then some [15, 163] else none))
def xwt_2_3_1_1 (p : Nat) : Option (List Nat) := bif Nat.ble p 1180 then (bif Nat.ble p 1179 then (bif Nat.beq p 1179 then some [16, 163] else none) else (bif Nat.beq p 1180 then some [0, 13, 35, 165] else none)) else (bif Nat.ble p 1181 then (bif Nat.beq p 1181 then some [13, 165] else none) else (bif Nat.beq p 1182 then some [15, 165] else none))
def xwt_2_3_1_2 (p : Nat) : Option (List Nat) := bif Nat.ble p 1184 then (bif Nat.ble p 1183 then (bif Nat.beq p 1183 then some [16, 165] else none) else (bif Nat.beq p 1184 then some [0, 12, 123, 164] else none)) else (bif Nat.ble p 1186 then (bif Nat.beq p 1186 then some [13, 164] else none) else (bif Nat.beq p 1187 then some [16, 164] else none))
def xwt_2_3_1_3_0 (p : Nat) : Option (List Nat) := bif Nat.beq p 1189 then some [0, 12, 60, 143] else none
def xwt_2_3_1_3_1 (p : Nat) : Option (List Nat) := bif Nat.beq p 1190 then some [14, 143] else none
def xwt_2_3_1_3_2 (p : Nat) : Option (List Nat) := bif Nat.beq p 1191 then some [16, 143] else none
def xwt_2_3_1_3_3 (p : Nat) : Option (List Nat) := bif Nat.ble p 1192 then (bif Nat.beq p 1192 then some [0, 13, 39, 166] else none) else (bif Nat.beq p 1193 then some [13, 166] else none)
def xwt_2_3_1_3 (p : Nat) : Option (List Nat) := bif Nat.ble p 1190 then (bif Nat.ble p 1189 then (xwt_2_3_1_3_0 p) else (xwt_2_3_1_3_1 p)) else (bif Nat.ble p 1191 then (xwt_2_3_1_3_2 p) else (xwt_2_3_1_3_3 p))
def xwt_2_3_1 (p : Nat) : Option (List Nat) := bif Nat.ble p 1182 then (bif Nat.ble p 1178 then (xwt_2_3_1_0 p) else (xwt_2_3_1_1 p)) else (bif Nat.ble p 1187 then (xwt_2_3_1_2 p) else (xwt_2_3_1_3 p))
def xwt_2_3_2_0 (p : Nat) : Option (List Nat) := bif Nat.ble p 1195 then (bif Nat.ble p 1194 then (bif Nat.beq p 1194 then some [15, 166] else none) else (bif Nat.beq p 1195 then some [16, 166] else none)) else (bif Nat.ble p 1196 then (bif Nat.beq p 1196 then some [0, 13, 43, 167] else none) else (bif Nat.beq p 1197 then some [13, 167] else none))
def xwt_2_3_2_1 (p : Nat) : Option (List Nat) := bif Nat.ble p 1199 then (bif Nat.ble p 1198 then (bif Nat.beq p 1198 then some [15, 167] else none) else (bif Nat.beq p 1199 then some [16, 167] else none)) else (bif Nat.ble p 1200 then (bif Nat.beq p 1200 then some [0, 13, 47, 168] else none) else (bif Nat.beq p 1201 then some [13, 168] else none))
def xwt_2_3_2_2 (p : Nat) : Option (List Nat) := bif Nat.ble p 1203 then (bif Nat.ble p 1202 then (bif Nat.beq p 1202 then some [15, 168] else none) else (bif Nat.beq p 1203 then some [16, 168] else none)) else (bif Nat.ble p 1204 then (bif Nat.beq p 1204 then some [0, 12, 93, 140] else none) else (bif Nat.beq p 1206 then some [13, 140] else none))
def xwt_2_3_2_3_0 (p : Nat) : Option (List Nat) := bif Nat.beq p 1207 then some [16, 140] else none
def xwt_2_3_2_3_1 (p : Nat) : Option (List Nat) := bif Nat.beq p 1208 then some [0, 12, 74, 141] else none
def xwt_2_3_2_3_2 (p : Nat) : Option (List Nat) := bif Nat.beq p 1210 then some [13, 141] else none
def xwt_2_3_2_3_3 (p : Nat) : Option (List Nat) := bif Nat.ble p 1211 then (bif Nat.beq p 1211 then some [16, 141] else none) else (bif Nat.beq p 1212 then some [0, 13, 51, 170] else none)
def xwt_2_3_2_3 (p : Nat) : Option (List Nat) := bif Nat.ble p 1208 then (bif Nat.ble p 1207 then (xwt_2_3_2_3_0 p) else (xwt_2_3_2_3_1 p)) else (bif Nat.ble p 1210 then (xwt_2_3_2_3_2 p) else (xwt_2_3_2_3_3 p))
def xwt_2_3_2 (p : Nat) : Option (List Nat) := bif Nat.ble p 1201 then (bif Nat.ble p 1197 then (xwt_2_3_2_0 p) else (xwt_2_3_2_1 p)) else (bif Nat.ble p 1206 then (xwt_2_3_2_2 p) else (xwt_2_3_2_3 p))
def xwt_2_3_3_0 (p : Nat) : Option (List Nat) := bif Nat.ble p 1214 then (bif Nat.ble p 1213 then (bif Nat.beq p 1213 then some [13, 170] else none) else (bif Nat.beq p 1214 then some [15, 170] else none)) else (bif Nat.ble p 1215 then (bif Nat.beq p 1215 then some [16, 170] else none) else (bif Nat.beq p 1216 then some [0, 12, 127, 169] else none))
def xwt_2_3_3_1_0 (p : Nat) : Option (List Nat) := bif Nat.beq p 1217 then some [14, 169] else none
def xwt_2_3_3_1_1 (p : Nat) : Option (List Nat) := bif Nat.beq p 1218 then some [16, 169] else none
def xwt_2_3_3_1_2 (p : Nat) : Option (List Nat) := bif Nat.beq p 1219 then some [0, 13, 56, 171] else none
def xwt_2_3_3_1_3 (p : Nat) : Option (List Nat) := bif Nat.ble p 1220 then (bif Nat.beq p 1220 then some [13, 171] else none) else (bif Nat.beq p 1221 then some [15, 171] else none)
def xwt_2_3_3_1 (p : Nat) : Option (List Nat) := bif Nat.ble p 1218 then (bif Nat.ble p 1217 then (xwt_2_3_3_1_0 p) else (xwt_2_3_3_1_1 p)) else (bif Nat.ble p 1219 then (xwt_2_3_3_1_2 p) else (xwt_2_3_3_1_3 p))
def xwt_2_3_3_2 (p : Nat) : Option (List Nat) := bif Nat.ble p 1223 then (bif Nat.ble p 1222 then (bif Nat.beq p 1222 then some [16, 171] else none) else (bif Nat.beq p 1223 then some [0, 13, 63, 172] else none)) else (bif Nat.ble p 1224 then (bif Nat.beq p 1224 then some [13, 172] else none) else (bif Nat.beq p 1225 then some [15, 172] else none))
def xwt_2_3_3_3_0 (p : Nat) : Option (List Nat) := bif Nat.beq p 1226 then some [16, 172] else none
def xwt_2_3_3_3_1 (p : Nat) : Option (List Nat) := bif Nat.beq p 1228 then some [0, 13, 67, 184] else none
def xwt_2_3_3_3_2 (p : Nat) : Option (List Nat) := bif Nat.beq p 1229 then some [13, 184] else none
def xwt_2_3_3_3_3 (p : Nat) : Option (List Nat) := bif Nat.ble p 1230 then (bif Nat.beq p 1230 then some [15, 184] else none) else (bif Nat.beq p 1231 then some [16, 184] else none)
def xwt_2_3_3_3 (p : Nat) : Option (List Nat) := bif Nat.ble p 1228 then (bif Nat.ble p 1226 then (xwt_2_3_3_3_0 p) else (xwt_2_3_3_3_1 p)) else (bif Nat.ble p 1229 then (xwt_2_3_3_3_2 p) else (xwt_2_3_3_3_3 p))
def xwt_2_3_3 (p : Nat) : Option (List Nat) := bif Nat.ble p 1221 then (bif Nat.ble p 1216 then (xwt_2_3_3_0 p) else (xwt_2_3_3_1 p)) else (bif Nat.ble p 1225 then (xwt_2_3_3_2 p) else (xwt_2_3_3_3 p))
def xwt_2_3 (p : Nat) : Option (List Nat) := bif Nat.ble p 1193 then (bif Nat.ble p 1174 then (xwt_2_3_0 p) else (xwt_2_3_1 p)) else (bif Nat.ble p 1212 then (xwt_2_3_2 p) else (xwt_2_3_3 p))
def xwt_2 (p : Nat) : Option (List Nat) := bif Nat.ble p 1028 then (bif Nat.ble p 953 then (xwt_2_0 p) else (xwt_2_1 p)) else (bif Nat.ble p 1154 then (xwt_2_2 p) else (xwt_2_3 p))
def xwt_3_0_0_0 (p : Nat) : Option (List Nat) := bif Nat.ble p 1234 then (bif Nat.ble p 1232 then (bif Nat.beq p 1232 then some [0, 12, 175, 176] else none) else (bif Nat.beq p 1234 then some [13, 176] else none)) else (bif Nat.ble p 1235 then (bif Nat.beq p 1235 then some [16, 176] else none) else (bif Nat.beq p 1236 then some [0, 12, 143, 177] else none))
def xwt_3_0_0_1 (p : Nat) : Option (List Nat) := bif Nat.ble p 1239 then (bif Nat.ble p 1238 then (bif Nat.beq p 1238 then some [13, 177] else none) else (bif Nat.beq p 1239 then some [16, 177] else none)) else (bif Nat.ble p 1240 then (bif Nat.beq p 1240 then some [0, 12, 154, 178] else none) else (bif Nat.beq p 1242 then some [13, 178] else none))
def xwt_3_0_0_2 (p : Nat) : Option (List Nat) := bif Nat.ble p 1244 then (bif Nat.ble p 1243 then (bif Nat.beq p 1243 then some [16, 178] else none) else (bif Nat.beq p 1244 then some [0, 12, 157, 179] else none)) else (bif Nat.ble p 1246 then (bif Nat.beq p 1246 then some [13, 179] else none) else (bif Nat.beq p 1247 then some [16, 179] else none))
def xwt_3_0_0_3_0 (p : Nat) : Option (List Nat) := bif Nat.beq p 1248 then some [0, 12, 160, 180] else none
def xwt_3_0_0_3_1 (p : Nat) : Option (List Nat) := bif Nat.beq p 1250 then some [13, 180] else none
def xwt_3_0_0_3_2 (p : Nat) : Option (List Nat) := bif Nat.beq p 1251 then some [16, 180] else none
def xwt_3_0_0_3_3 (p : Nat) : Option (List Nat) := bif Nat.ble p 1252 then (bif Nat.beq p 1252 then some [0, 12, 163, 182] else none) else (bif Nat.beq p 1254 then some [13, 182] else none)
def xwt_3_0_0_3 (p : Nat) : Option (List Nat) := bif Nat.ble p 1250 then (bif Nat.ble p 1248 then (xwt_3_0_0_3_0 p) else (xwt_3_0_0_3_1 p)) else (bif Nat.ble p 1251 then (xwt_3_0_0_3_2 p) else (xwt_3_0_0_3_3 p))
def xwt_3_0_0 (p : Nat) : Option (List Nat) := bif Nat.ble p 1242 then (bif Nat.ble p 1236 then (xwt_3_0_0_0 p) else (xwt_3_0_0_1 p)) else (bif Nat.ble p 1247 then (xwt_3_0_0_2 p) else (xwt_3_0_0_3 p))
def xwt_3_0_1_0 (p : Nat) : Option (List Nat) := bif Nat.ble p 1256 then (bif Nat.ble p 1255 then (bif Nat.beq p 1255 then some [16, 182] else none) else (bif Nat.beq p 1256 then some [0, 12, 147, 173] else none)) else (bif Nat.ble p 1258 then (bif Nat.beq p 1258 then some [13, 173] else none) else (bif Nat.beq p 1259 then some [16, 173] else none))
def xwt_3_0_1_1 (p : Nat) : Option (List Nat) := bif Nat.ble p 1262 then (bif Nat.ble p 1260 then (bif Nat.beq p 1260 then some [0, 12, 169, 174] else none) else (bif Nat.beq p 1262 then some [13, 174] else none)) else (bif Nat.ble p 1263 then (bif Nat.beq p 1263 then some [16, 174] else none) else (bif Nat.beq p 1264 then some [0, 12, 150, 175] else none))
def xwt_3_0_1_2 (p : Nat) : Option (List Nat) := bif Nat.ble p 1267 then (bif Nat.ble p 1266 then (bif Nat.beq p 1266 then some [13, 175] else none) else (bif Nat.beq p 1267 then some [16, 175] else none)) else (bif Nat.ble p 1268 then (bif Nat.beq p 1268 then some [0, 12, 172, 181] else none) else (bif Nat.beq p 1270 then some [13, 181] else none))
def xwt_3_0_1_3_0 (p : Nat) : Option (List Nat) := bif Nat.beq p 1271 then some [16, 181] else none
def xwt_3_0_1_3_1 (p : Nat) : Option (List Nat) := bif Nat.beq p 1272 then some [0, 13, 71, 185] else none
def xwt_3_0_1_3_2 (p : Nat) : Option (List Nat) := bif Nat.beq p 1273 then some [13, 185] else none
def xwt_3_0_1_3_3 (p : Nat) : Option (List Nat) := bif Nat.ble p 1274 then (bif Nat.beq p 1274 then some [15, 185] else none) else (bif Nat.beq p 1275 then some [16, 185] else none)
def xwt_3_0_1_3 (p : Nat) : Option (List Nat) := bif Nat.ble p 1272 then (bif Nat.ble p 1271 then (xwt_3_0_1_3_0 p) else (xwt_3_0_1_3_1 p)) else (bif Nat.ble p 1273 then (xwt_3_0_1_3_2 p) else (xwt_3_0_1_3_3 p))
def xwt_3_0_1 (p : Nat) : Option (List Nat) := bif Nat.ble p 1264 then (bif Nat.ble p 1259 then (xwt_3_0_1_0 p) else (xwt_3_0_1_1 p)) else (bif Nat.ble p 1270 then (xwt_3_0_1_2 p) else (xwt_3_0_1_3 p))
def xwt_3_0_2_0 (p : Nat) : Option (List Nat) := bif Nat.ble p 1278 then (bif Nat.ble p 1276 then (bif Nat.beq p 1276 then some [0, 12, 64, 183] else none) else (bif Nat.beq p 1278 then some [13, 183] else none)) else (bif Nat.ble p 1279 then (bif Nat.beq p 1279 then some [16, 183] else none) else (bif Nat.beq p 1280 then some [0, 13, 75, 188] else none))
def xwt_3_0_2_1 (p : Nat) : Option (List Nat) := bif Nat.ble p 1282 then (bif Nat.ble p 1281 then (bif Nat.beq p 1281 then some [13, 188] else none) else (bif Nat.beq p 1282 then some [15, 188] else none)) else (bif Nat.ble p 1283 then (bif Nat.beq p 1283 then some [16, 188] else none) else (bif Nat.beq p 1284 then some [0, 12, 182, 152] else none))
def xwt_3_0_2_2 (p : Nat) : Option (List Nat) := bif Nat.ble p 1287 then (bif Nat.ble p 1286 then (bif Nat.beq p 1286 then some [13, 152] else none) else (bif Nat.beq p 1287 then some [16, 152] else none)) else (bif Nat.ble p 1288 then (bif Nat.beq p 1288 then some [0, 12, 185, 156] else none) else (bif Nat.beq p 1290 then some [13, 156] else none))
def xwt_3_0_2_3_0 (p : Nat) : Option (List Nat) := bif Nat.beq p 1291 then some [16, 156] else none
def xwt_3_0_2_3_1 (p : Nat) : Option (List Nat) := bif Nat.beq p 1292 then some [0, 12, 109, 155] else none
def xwt_3_0_2_3_2 (p : Nat) : Option (List Nat) := bif Nat.beq p 1294 then some [13, 155] else none
def xwt_3_0_2_3_3 (p : Nat) : Option (List Nat) := bif Nat.ble p 1295 then (bif Nat.beq p 1295 then some [16, 155] else none) else (bif Nat.beq p 1296 then some [0, 12, 96, 153] else none)
def xwt_3_0_2_3 (p : Nat) : Option (List Nat) := bif Nat.ble p 1292 then (bif Nat.ble p 1291 then (xwt_3_0_2_3_0 p) else (xwt_3_0_2_3_1 p)) else (bif Nat.ble p 1294 then (xwt_3_0_2_3_2 p) else (xwt_3_0_2_3_3 p))
def xwt_3_0_2 (p : Nat) : Option (List Nat) := bif Nat.ble p 1284 then (bif Nat.ble p 1280 then (xwt_3_0_2_0 p) else (xwt_3_0_2_1 p)) else (bif Nat.ble p 1290 then (xwt_3_0_2_2 p) else (xwt_3_0_2_3 p))
def xwt_3_0_3_0 (p : Nat) : Option (List Nat) := bif Nat.ble p 1298 then (bif Nat.ble p 1297 then (bif Nat.beq p 1297 then some [14, 153] else none) else (bif Nat.beq p 1298 then some [16, 153] else none)) else (bif Nat.ble p 1299 then (bif Nat.beq p 1299 then some [0, 12, 99, 154] else none) else (bif Nat.beq p 1300 then some [14, 154] else none))
def xwt_3_0_3_1 (p : Nat) : Option (List Nat) := bif Nat.ble p 1302 then (bif Nat.ble p 1301 then (bif Nat.beq p 1301 then some [16, 154] else none) else (bif Nat.beq p 1302 then some [0, 12, 102, 151] else none)) else (bif Nat.ble p 1304 then (bif Nat.beq p 1304 then some [13, 151] else none) else (bif Nat.beq p 1305 then some [16, 151] else none))
def xwt_3_0_3_2 (p : Nat) : Option (List Nat) := bif Nat.ble p 1307 then (bif Nat.ble p 1306 then (bif Nat.beq p 1306 then some [0, 12, 78, 148] else none) else (bif Nat.beq p 1307 then some [14, 148] else none)) else (bif Nat.ble p 1308 then (bif Nat.beq p 1308 then some [16, 148] else none) else (bif Nat.beq p 1309 then some [0, 12, 82, 147] else none))
def xwt_3_0_3_3_0 (p : Nat) : Option (List Nat) := bif Nat.beq p 1311 then some [13, 147] else none
def xwt_3_0_3_3_1 (p : Nat) : Option (List Nat) := bif Nat.beq p 1312 then some [16, 147] else none
def xwt_3_0_3_3_2 (p : Nat) : Option (List Nat) := bif Nat.beq p 1313 then some [0, 12, 86, 149] else none
def xwt_3_0_3_3_3 (p : Nat) : Option (List Nat) := bif Nat.ble p 1315 then (bif Nat.beq p 1315 then some [13, 149] else none) else (bif Nat.beq p 1316 then some [16, 149] else none)
def xwt_3_0_3_3 (p : Nat) : Option (List Nat) := bif Nat.ble p 1312 then (bif Nat.ble p 1311 then (xwt_3_0_3_3_0 p) else (xwt_3_0_3_3_1 p)) else (bif Nat.ble p 1313 then (xwt_3_0_3_3_2 p) else (xwt_3_0_3_3_3 p))
def xwt_3_0_3 (p : Nat) : Option (List Nat) := bif Nat.ble p 1305 then (bif Nat.ble p 1300 then (xwt_3_0_3_0 p) else (xwt_3_0_3_1 p)) else (bif Nat.ble p 1309 then (xwt_3_0_3_2 p) else (xwt_3_0_3_3 p))
def xwt_3_0 (p : Nat) : Option (List Nat) := bif Nat.ble p 1275 then (bif Nat.ble p 1254 then (xwt_3_0_0 p) else (xwt_3_0_1 p)) else (bif Nat.ble p 1296 then (xwt_3_0_2 p) else (xwt_3_0_3 p))
def xwt_3_1_0_0 (p : Nat) : Option (List Nat) := bif Nat.ble p 1319 then (bif Nat.ble p 1317 then (bif Nat.beq p 1317 then some [0, 12, 90, 150] else none) else (bif Nat.beq p 1319 then some [13, 150] else none)) else (bif Nat.ble p 1320 then (bif Nat.beq p 1320 then some [16, 150] else none) else (bif Nat.beq p 1321 then some [0, 12, 68, 187] else none))
def xwt_3_1_0_1 (p : Nat) : Option (List Nat) := bif Nat.ble p 1324 then (bif Nat.ble p 1323 then (bif Nat.beq p 1323 then some [13, 187] else none) else (bif Nat.beq p 1324 then some [16, 187] else none)) else (bif Nat.ble p 1325 then (bif Nat.beq p 1325 then some [0, 12, 178, 186] else none) else (bif Nat.beq p 1326 then some [14, 186] else none))
def xwt_3_1_0_2 (p : Nat) : Option (List Nat) := bif Nat.ble p 1328 then (bif Nat.ble p 1327 then (bif Nat.beq p 1327 then some [16, 186] else none) else (bif Nat.beq p 1328 then some [0, 13, 79, 189] else none)) else (bif Nat.ble p 1329 then (bif Nat.beq p 1329 then some [13, 189] else none) else (bif Nat.beq p 1330 then some [15, 189] else none))
def xwt_3_1_0_3_0 (p : Nat) : Option (List Nat) := bif Nat.beq p 1331 then some [16, 189] else none
def xwt_3_1_0_3_1 (p : Nat) : Option (List Nat) := bif Nat.beq p 1332 then some [0, 12, 189, 144] else none
def xwt_3_1_0_3_2 (p : Nat) : Option (List Nat) := bif Nat.beq p 1333 then some [14, 144] else none
def xwt_3_1_0_3_3 (p : Nat) : Option (List Nat) := bif Nat.ble p 1334 then (bif Nat.beq p 1334 then some [16, 144] else none) else (bif Nat.beq p 1335 then some [0, 13, 83, 190] else none)
def xwt_3_1_0_3 (p : Nat) : Option (List Nat) := bif Nat.ble p 1332 then (bif Nat.ble p 1331 then (xwt_3_1_0_3_0 p) else (xwt_3_1_0_3_1 p)) else (bif Nat.ble p 1333 then (xwt_3_1_0_3_2 p) else (xwt_3_1_0_3_3 p))
def xwt_3_1_0 (p : Nat) : Option (List Nat) := bif Nat.ble p 1326 then (bif Nat.ble p 1321 then (xwt_3_1_0_0 p) else (xwt_3_1_0_1 p)) else (bif Nat.ble p 1330 then (xwt_3_1_0_2 p) else (xwt_3_1_0_3 p))
def xwt_3_1_1_0 (p : Nat) : Option (List Nat) := bif Nat.ble p 1337 then (bif Nat.ble p 1336 then (bif Nat.beq p 1336 then some [13, 190] else none) else (bif Nat.beq p 1337 then some [15, 190] else none)) else (bif Nat.ble p 1338 then (bif Nat.beq p 1338 then some [16, 190] else none) else (bif Nat.beq p 1339 then some [0, 13, 87, 191] else none))
def xwt_3_1_1_1 (p : Nat) : Option (List Nat) := bif Nat.ble p 1341 then (bif Nat.ble p 1340 then (bif Nat.beq p 1340 then some [13, 191] else none) else (bif Nat.beq p 1341 then some [15, 191] else none)) else (bif Nat.ble p 1342 then (bif Nat.beq p 1342 then some [16, 191] else none) else (bif Nat.beq p 1343 then some [0, 12, 193, 146] else none))
def xwt_3_1_1_2 (p : Nat) : Option (List Nat) := bif Nat.ble p 1346 then (bif Nat.ble p 1345 then (bif Nat.beq p 1345 then some [13, 146] else none) else (bif Nat.beq p 1346 then some [16, 146] else none)) else (bif Nat.ble p 1347 then (bif Nat.beq p 1347 then some [0, 13, 91, 193] else none) else (bif Nat.beq p 1348 then some [13, 193] else none))
def xwt_3_1_1_3_0 (p : Nat) : Option (List Nat) := bif Nat.beq p 1349 then some [15, 193] else none
def xwt_3_1_1_3_1 (p : Nat) : Option (List Nat) := bif Nat.beq p 1350 then some [16, 193] else none
def xwt_3_1_1_3_2 (p : Nat) : Option (List Nat) := bif Nat.beq p 1351 then some [0, 12, 196, 192] else none
def xwt_3_1_1_3_3 (p : Nat) : Option (List Nat) := bif Nat.ble p 1353 then (bif Nat.beq p 1353 then some [13, 192] else none) else (bif Nat.beq p 1354 then some [16, 192] else none)
def xwt_3_1_1_3 (p : Nat) : Option (List Nat) := bif Nat.ble p 1350 then (bif Nat.ble p 1349 then (xwt_3_1_1_3_0 p) else (xwt_3_1_1_3_1 p)) else (bif Nat.ble p 1351 then (xwt_3_1_1_3_2 p) else (xwt_3_1_1_3_3 p))
def xwt_3_1_1 (p : Nat) : Option (List Nat) := bif Nat.ble p 1343 then (bif Nat.ble p 1339 then (xwt_3_1_1_0 p) else (xwt_3_1_1_1 p)) else (bif Nat.ble p 1348 then (xwt_3_1_1_2 p) else (xwt_3_1_1_3 p))
def xwt_3_1_2_0 (p : Nat) : Option (List Nat) := bif Nat.ble p 1356 then (bif Nat.ble p 1355 then (bif Nat.beq p 1355 then some [0, 13, 95, 194] else none) else (bif Nat.beq p 1356 then some [13, 194] else none)) else (bif Nat.ble p 1357 then (bif Nat.beq p 1357 then some [15, 194] else none) else (bif Nat.beq p 1358 then some [16, 194] else none))
def xwt_3_1_2_1 (p : Nat) : Option (List Nat) := bif Nat.ble p 1360 then (bif Nat.ble p 1359 then (bif Nat.beq p 1359 then some [0, 13, 99, 195] else none) else (bif Nat.beq p 1360 then some [13, 195] else none)) else (bif Nat.ble p 1361 then (bif Nat.beq p 1361 then some [15, 195] else none) else (bif Nat.beq p 1362 then some [16, 195] else none))
def xwt_3_1_2_2 (p : Nat) : Option (List Nat) := bif Nat.ble p 1365 then (bif Nat.ble p 1363 then (bif Nat.beq p 1363 then some [0, 12, 200, 157] else none) else (bif Nat.beq p 1365 then some [13, 157] else none)) else (bif Nat.ble p 1366 then (bif Nat.beq p 1366 then some [16, 157] else none) else (bif Nat.beq p 1367 then some [0, 12, 203, 158] else none))
def xwt_3_1_2_3_0 (p : Nat) : Option (List Nat) := bif Nat.beq p 1369 then some [13, 158] else none
def xwt_3_1_2_3_1 (p : Nat) : Option (List Nat) := bif Nat.beq p 1370 then some [16, 158] else none
def xwt_3_1_2_3_2 (p : Nat) : Option (List Nat) := bif Nat.beq p 1371 then some [0, 13, 103, 197] else none
def xwt_3_1_2_3_3 (p : Nat) : Option (List Nat) := bif Nat.ble p 1372 then (bif Nat.beq p 1372 then some [13, 197] else none) else (bif Nat.beq p 1373 then some [15, 197] else none)
def xwt_3_1_2_3 (p : Nat) : Option (List Nat) := bif Nat.ble p 1370 then (bif Nat.ble p 1369 then (xwt_3_1_2_3_0 p) else (xwt_3_1_2_3_1 p)) else (bif Nat.ble p 1371 then (xwt_3_1_2_3_2 p) else (xwt_3_1_2_3_3 p))
def xwt_3_1_2 (p : Nat) : Option (List Nat) := bif Nat.ble p 1362 then (bif Nat.ble p 1358 then (xwt_3_1_2_0 p) else (xwt_3_1_2_1 p)) else (bif Nat.ble p 1367 then (xwt_3_1_2_2 p) else (xwt_3_1_2_3 p))
def xwt_3_1_3_0 (p : Nat) : Option (List Nat) := bif Nat.ble p 1375 then (bif Nat.ble p 1374 then (bif Nat.beq p 1374 then some [16, 197] else none) else (bif Nat.beq p 1375 then some [0, 12, 209, 196] else none)) else (bif Nat.ble p 1377 then (bif Nat.beq p 1377 then some [13, 196] else none) else (bif Nat.beq p 1378 then some [16, 196] else none))
def xwt_3_1_3_1 (p : Nat) : Option (List Nat) := bif Nat.ble p 1380 then (bif Nat.ble p 1379 then (bif Nat.beq p 1379 then some [0, 13, 107, 199] else none) else (bif Nat.beq p 1380 then some [13, 199] else none)) else (bif Nat.ble p 1381 then (bif Nat.beq p 1381 then some [15, 199] else none) else (bif Nat.beq p 1382 then some [16, 199] else none))
def xwt_3_1_3_2 (p : Nat) : Option (List Nat) := bif Nat.ble p 1385 then (bif Nat.ble p 1383 then (bif Nat.beq p 1383 then some [0, 12, 212, 198] else none) else (bif Nat.beq p 1385 then some [13, 198] else none)) else (bif Nat.ble p 1386 then (bif Nat.beq p 1386 then some [16, 198] else none) else (bif Nat.beq p 1387 then some [0, 13, 111, 200] else none))
def xwt_3_1_3_3_0 (p : Nat) : Option (List Nat) := bif Nat.beq p 1388 then some [13, 200] else none
def xwt_3_1_3_3_1 (p : Nat) : Option (List Nat) := bif Nat.beq p 1389 then some [15, 200] else none
def xwt_3_1_3_3_2 (p : Nat) : Option (List Nat) := bif Nat.beq p 1390 then some [16, 200] else none
def xwt_3_1_3_3_3 (p : Nat) : Option (List Nat) := bif Nat.ble p 1391 then (bif Nat.beq p 1391 then some [0, 12, 215, 193] else none) else (bif Nat.beq p 1392 then some [0, 13, 115, 201] else none)
def xwt_3_1_3_3 (p : Nat) : Option (List Nat) := bif Nat.ble p 1389 then (bif Nat.ble p 1388 then (xwt_3_1_3_3_0 p) else (xwt_3_1_3_3_1 p)) else (bif Nat.ble p 1390 then (xwt_3_1_3_3_2 p) else (xwt_3_1_3_3_3 p))
def xwt_3_1_3 (p : Nat) : Option (List Nat) := bif Nat.ble p 1382 then (bif Nat.ble p 1378 then (xwt_3_1_3_0 p) else (xwt_3_1_3_1 p)) else (bif Nat.ble p 1387 then (xwt_3_1_3_2 p) else (xwt_3_1_3_3 p))
def xwt_3_1 (p : Nat) : Option (List Nat) := bif Nat.ble p 1354 then (bif Nat.ble p 1335 then (xwt_3_1_0 p) else (xwt_3_1_1 p)) else (bif Nat.ble p 1373 then (xwt_3_1_2 p) else (xwt_3_1_3 p))
def xwt_3_2_0_0 (p : Nat) : Option (List Nat) := bif Nat.ble p 1394 then (bif Nat.ble p 1393 then (bif Nat.beq p 1393 then some [13, 201] else none) else (bif Nat.beq p 1394 then some [15, 201] else none)) else (bif Nat.ble p 1395 then (bif Nat.beq p 1395 then some [16, 201] else none) else (bif Nat.beq p 1396 then some [0, 13, 119, 206] else none))
def xwt_3_2_0_1 (p : Nat) : Option (List Nat) := bif Nat.ble p 1398 then (bif Nat.ble p 1397 then (bif Nat.beq p 1397 then some [13, 206] else none) else (bif Nat.beq p 1398 then some [15, 206] else none)) else (bif Nat.ble p 1399 then (bif Nat.beq p 1399 then some [16, 206] else none) else (bif Nat.beq p 1400 then some [0, 12, 234, 205] else none))
def xwt_3_2_0_2 (p : Nat) : Option (List Nat) := bif Nat.ble p 1403 then (bif Nat.ble p 1402 then (bif Nat.beq p 1402 then some [13, 205] else none) else (bif Nat.beq p 1403 then some [16, 205] else none)) else (bif Nat.ble p 1404 then (bif Nat.beq p 1404 then some [0, 12, 228, 204] else none) else (bif Nat.beq p 1406 then some [13, 204] else none))
def xwt_3_2_0_3_0 (p : Nat) : Option (List Nat) := bif Nat.beq p 1407 then some [16, 204] else none
def xwt_3_2_0_3_1 (p : Nat) : Option (List Nat) := bif Nat.beq p 1408 then some [0, 12, 221, 202] else none
def xwt_3_2_0_3_2 (p : Nat) : Option (List Nat) := bif Nat.beq p 1410 then some [13, 202] else none
def xwt_3_2_0_3_3 (p : Nat) : Option (List Nat) := bif Nat.ble p 1411 then (bif Nat.beq p 1411 then some [16, 202] else none) else (bif Nat.beq p 1412 then some [0, 12, 231, 203] else none)
def xwt_3_2_0_3 (p : Nat) : Option (List Nat) := bif Nat.ble p 1408 then (bif Nat.ble p 1407 then (xwt_3_2_0_3_0 p) else (xwt_3_2_0_3_1 p)) else (bif Nat.ble p 1410 then (xwt_3_2_0_3_2 p) else (xwt_3_2_0_3_3 p))
def xwt_3_2_0 (p : Nat) : Option (List Nat) := bif Nat.ble p 1400 then (bif Nat.ble p 1396 then (xwt_3_2_0_0 p) else (xwt_3_2_0_1 p)) else (bif Nat.ble p 1406 then (xwt_3_2_0_2 p) else (xwt_3_2_0_3 p))
def xwt_3_2_1_0 (p : Nat) : Option (List Nat) := bif Nat.ble p 1415 then (bif Nat.ble p 1414 then (bif Nat.beq p 1414 then some [13, 203] else none) else (bif Nat.beq p 1415 then some [16, 203] else none)) else (bif Nat.ble p 1416 then (bif Nat.beq p 1416 then some [0, 13, 123, 207] else none) else (bif Nat.beq p 1417 then some [13, 207] else none))
def xwt_3_2_1_1 (p : Nat) : Option (List Nat) := bif Nat.ble p 1419 then (bif Nat.ble p 1418 then (bif Nat.beq p 1418 then some [15, 207] else none) else (bif Nat.beq p 1419 then some [16, 207] else none)) else (bif Nat.ble p 1421 then (bif Nat.beq p 1421 then some [0, 13, 127, 208] else none) else (bif Nat.beq p 1422 then some [13, 208] else none))
def xwt_3_2_1_2 (p : Nat) : Option (List Nat) := bif Nat.ble p 1424 then (bif Nat.ble p 1423 then (bif Nat.beq p 1423 then some [15, 208] else none) else (bif Nat.beq p 1424 then some [16, 208] else none)) else (bif Nat.ble p 1425 then (bif Nat.beq p 1425 then some [0, 13, 131, 211] else none) else (bif Nat.beq p 1426 then some [13, 211] else none))
def xwt_3_2_1_3_0 (p : Nat) : Option (List Nat) := bif Nat.beq p 1427 then some [15, 211] else none
def xwt_3_2_1_3_1 (p : Nat) : Option (List Nat) := bif Nat.beq p 1428 then some [16, 211] else none
def xwt_3_2_1_3_2 (p : Nat) : Option (List Nat) := bif Nat.beq p 1429 then some [0, 12, 242, 210] else none
def xwt_3_2_1_3_3 (p : Nat) : Option (List Nat) := bif Nat.ble p 1431 then (bif Nat.beq p 1431 then some [13, 210] else none) else (bif Nat.beq p 1432 then some [16, 210] else none)
def xwt_3_2_1_3 (p : Nat) : Option (List Nat) := bif Nat.ble p 1428 then (bif Nat.ble p 1427 then (xwt_3_2_1_3_0 p) else (xwt_3_2_1_3_1 p)) else (bif Nat.ble p 1429 then (xwt_3_2_1_3_2 p) else (xwt_3_2_1_3_3 p))
def xwt_3_2_1 (p : Nat) : Option (List Nat) := bif Nat.ble p 1422 then (bif Nat.ble p 1417 then (xwt_3_2_1_0 p) else (xwt_3_2_1_1 p)) else (bif Nat.ble p 1426 then (xwt_3_2_1_2 p) else (xwt_3_2_1_3 p))
def xwt_3_2_2_0 (p : Nat) : Option (List Nat) := bif Nat.ble p 1435 then (bif Nat.ble p 1433 then (bif Nat.beq p 1433 then some [0, 12, 238, 209] else none) else (bif Nat.beq p 1435 then some [13, 209] else none)) else (bif Nat.ble p 1436 then (bif Nat.beq p 1436 then some [16, 209] else none) else (bif Nat.beq p 1437 then some [0, 13, 135, 212] else none))
def xwt_3_2_2_1 (p : Nat) : Option (List Nat) := bif Nat.ble p 1439 then (bif Nat.ble p 1438 then (bif Nat.beq p 1438 then some [13, 212] else none) else (bif Nat.beq p 1439 then some [15, 212] else none)) else (bif Nat.ble p 1440 then (bif Nat.beq p 1440 then some [16, 212] else none) else (bif Nat.beq p 1441 then some [0, 13, 139, 213] else none))
def xwt_3_2_2_2 (p : Nat) : Option (List Nat) := bif Nat.ble p 1443 then (bif Nat.ble p 1442 then (bif Nat.beq p 1442 then some [13, 213] else none) else (bif Nat.beq p 1443 then some [15, 213] else none)) else (bif Nat.ble p 1444 then (bif Nat.beq p 1444 then some [16, 213] else none) else (bif Nat.beq p 1445 then some [0, 13, 144, 216] else none))
def xwt_3_2_2_3_0 (p : Nat) : Option (List Nat) := bif Nat.beq p 1446 then some [13, 216] else none
def xwt_3_2_2_3_1 (p : Nat) : Option (List Nat) := bif Nat.beq p 1447 then some [15, 216] else none
def xwt_3_2_2_3_2 (p : Nat) : Option (List Nat) := bif Nat.beq p 1448 then some [16, 216] else none
def xwt_3_2_2_3_3 (p : Nat) : Option (List Nat) := bif Nat.ble p 1449 then (bif Nat.beq p 1449 then some [0, 12, 248, 215] else none) else (bif Nat.beq p 1451 then some [13, 215] else none)
def xwt_3_2_2_3 (p : Nat) : Option (List Nat) := bif Nat.ble p 1447 then (bif Nat.ble p 1446 then (xwt_3_2_2_3_0 p) else (xwt_3_2_2_3_1 p)) else (bif Nat.ble p 1448 then (xwt_3_2_2_3_2 p) else (xwt_3_2_2_3_3 p))
def xwt_3_2_2 (p : Nat) : Option (List Nat) := bif Nat.ble p 1441 then (bif Nat.ble p 1437 then (xwt_3_2_2_0 p) else (xwt_3_2_2_1 p)) else (bif Nat.ble p 1445 then (xwt_3_2_2_2 p) else (xwt_3_2_2_3 p))
def xwt_3_2_3_0 (p : Nat) : Option (List Nat) := bif Nat.ble p 1453 then (bif Nat.ble p 1452 then (bif Nat.beq p 1452 then some [16, 215] else none) else (bif Nat.beq p 1453 then some [0, 12, 251, 214] else none)) else (bif Nat.ble p 1455 then (bif Nat.beq p 1455 then some [13, 214] else none) else (bif Nat.beq p 1456 then some [16, 214] else none))
def xwt_3_2_3_1 (p : Nat) : Option (List Nat) := bif Nat.ble p 1458 then (bif Nat.ble p 1457 then (bif Nat.beq p 1457 then some [0, 12, 245, 137] else none) else (bif Nat.beq p 1458 then some [14, 137] else none)) else (bif Nat.ble p 1459 then (bif Nat.beq p 1459 then some [16, 137] else none) else (bif Nat.beq p 1460 then some [0, 13, 148, 217] else none))
def xwt_3_2_3_2 (p : Nat) : Option (List Nat) := bif Nat.ble p 1462 then (bif Nat.ble p 1461 then (bif Nat.beq p 1461 then some [13, 217] else none) else (bif Nat.beq p 1462 then some [15, 217] else none)) else (bif Nat.ble p 1463 then (bif Nat.beq p 1463 then some [16, 217] else none) else (bif Nat.beq p 1464 then some [0, 13, 152, 225] else none))
def xwt_3_2_3_3_0 (p : Nat) : Option (List Nat) := bif Nat.beq p 1465 then some [13, 225] else none
def xwt_3_2_3_3_1 (p : Nat) : Option (List Nat) := bif Nat.beq p 1466 then some [15, 225] else none
def xwt_3_2_3_3_2 (p : Nat) : Option (List Nat) := bif Nat.beq p 1467 then some [16, 225] else none
def xwt_3_2_3_3_3 (p : Nat) : Option (List Nat) := bif Nat.ble p 1468 then (bif Nat.beq p 1468 then some [0, 12, 270, 220] else none) else (bif Nat.beq p 1470 then some [13, 220] else none)
def xwt_3_2_3_3 (p : Nat) : Option (List Nat) := bif Nat.ble p 1466 then (bif Nat.ble p 1465 then (xwt_3_2_3_3_0 p) else (xwt_3_2_3_3_1 p)) else (bif Nat.ble p 1467 then (xwt_3_2_3_3_2 p) else (xwt_3_2_3_3_3 p))
def xwt_3_2_3 (p : Nat) : Option (List Nat) := bif Nat.ble p 1460 then (bif Nat.ble p 1456 then (xwt_3_2_3_0 p) else (xwt_3_2_3_1 p)) else (bif Nat.ble p 1464 then (xwt_3_2_3_2 p) else (xwt_3_2_3_3 p))
def xwt_3_2 (p : Nat) : Option (List Nat) := bif Nat.ble p 1432 then (bif Nat.ble p 1412 then (xwt_3_2_0 p) else (xwt_3_2_1 p)) else (bif Nat.ble p 1451 then (xwt_3_2_2 p) else (xwt_3_2_3 p))
def xwt_3_3_0_0 (p : Nat) : Option (List Nat) := bif Nat.ble p 1472 then (bif Nat.ble p 1471 then (bif Nat.beq p 1471 then some [16, 220] else none) else (bif Nat.beq p 1472 then some [0, 12, 267, 221] else none)) else (bif Nat.ble p 1474 then (bif Nat.beq p 1474 then some [13, 221] else none) else (bif Nat.beq p 1475 then some [16, 221] else none))
def xwt_3_3_0_1 (p : Nat) : Option (List Nat) := bif Nat.ble p 1478 then (bif Nat.ble p 1476 then (bif Nat.beq p 1476 then some [0, 12, 261, 218] else none) else (bif Nat.beq p 1478 then some [13, 218] else none)) else (bif Nat.ble p 1479 then (bif Nat.beq p 1479 then some [16, 218] else none) else (bif Nat.beq p 1480 then some [0, 12, 264, 219] else none))
def xwt_3_3_0_2 (p : Nat) : Option (List Nat) := bif Nat.ble p 1482 then (bif Nat.ble p 1481 then (bif Nat.beq p 1481 then some [14, 219] else none) else (bif Nat.beq p 1482 then some [16, 219] else none)) else (bif Nat.ble p 1483 then (bif Nat.beq p 1483 then some [0, 12, 273, 222] else none) else (bif Nat.beq p 1485 then some [13, 222] else none))
def xwt_3_3_0_3_0 (p : Nat) : Option (List Nat) := bif Nat.beq p 1486 then some [16, 222] else none
def xwt_3_3_0_3_1 (p : Nat) : Option (List Nat) := bif Nat.beq p 1487 then some [0, 12, 276, 223] else none
def xwt_3_3_0_3_2 (p : Nat) : Option (List Nat) := bif Nat.beq p 1489 then some [13, 223] else none
def xwt_3_3_0_3_3 (p : Nat) : Option (List Nat) := bif Nat.ble p 1490 then (bif Nat.beq p 1490 then some [16, 223] else none) else (bif Nat.beq p 1491 then some [0, 12, 282, 224] else none)
def xwt_3_3_0_3 (p : Nat) : Option (List Nat) := bif Nat.ble p 1487 then (bif Nat.ble p 1486 then (xwt_3_3_0_3_0 p) else (xwt_3_3_0_3_1 p)) else (bif Nat.ble p 1489 then (xwt_3_3_0_3_2 p) else (xwt_3_3_0_3_3 p))
def xwt_3_3_0 (p : Nat) : Option (List Nat) := bif Nat.ble p 1480 then (bif Nat.ble p 1475 then (xwt_3_3_0_0 p) else (xwt_3_3_0_1 p)) else (bif Nat.ble p 1485 then (xwt_3_3_0_2 p) else (xwt_3_3_0_3 p))
def xwt_3_3_1_0 (p : Nat) : Option (List Nat) := bif Nat.ble p 1494 then (bif Nat.ble p 1493 then (bif Nat.beq p 1493 then some [13, 224] else none) else (bif Nat.beq p 1494 then some [16, 224] else none)) else (bif Nat.ble p 1495 then (bif Nat.beq p 1495 then some [0, 13, 156, 226] else none) else (bif Nat.beq p 1496 then some [13, 226] else none))
def xwt_3_3_1_1 (p : Nat) : Option (List Nat) := bif Nat.ble p 1498 then (bif Nat.ble p 1497 then (bif Nat.beq p 1497 then some [15, 226] else none) else (bif Nat.beq p 1498 then some [16, 226] else none)) else (bif Nat.ble p 1499 then (bif Nat.beq p 1499 then some [0, 13, 160, 228] else none) else (bif Nat.beq p 1500 then some [13, 228] else none))
def xwt_3_3_1_2 (p : Nat) : Option (List Nat) := bif Nat.ble p 1502 then (bif Nat.ble p 1501 then (bif Nat.beq p 1501 then some [15, 228] else none) else (bif Nat.beq p 1502 then some [16, 228] else none)) else (bif Nat.ble p 1503 then (bif Nat.beq p 1503 then some [0, 12, 285, 227] else none) else (bif Nat.beq p 1504 then some [14, 227] else none))
def xwt_3_3_1_3_0 (p : Nat) : Option (List Nat) := bif Nat.beq p 1505 then some [16, 227] else none
def xwt_3_3_1_3_1 (p : Nat) : Option (List Nat) := bif Nat.beq p 1506 then some [0, 13, 164, 229] else none
def xwt_3_3_1_3_2 (p : Nat) : Option (List Nat) := bif Nat.beq p 1507 then some [13, 229] else none
def xwt_3_3_1_3_3 (p : Nat) : Option (List Nat) := bif Nat.ble p 1508 then (bif Nat.beq p 1508 then some [15, 229] else none) else (bif Nat.beq p 1509 then some [16, 229] else none)
def xwt_3_3_1_3 (p : Nat) : Option (List Nat) := bif Nat.ble p 1506 then (bif Nat.ble p 1505 then (xwt_3_3_1_3_0 p) else (xwt_3_3_1_3_1 p)) else (bif Nat.ble p 1507 then (xwt_3_3_1_3_2 p) else (xwt_3_3_1_3_3 p))
def xwt_3_3_1 (p : Nat) : Option (List Nat) := bif Nat.ble p 1500 then (bif Nat.ble p 1496 then (xwt_3_3_1_0 p) else (xwt_3_3_1_1 p)) else (bif Nat.ble p 1504 then (xwt_3_3_1_2 p) else (xwt_3_3_1_3 p))
def xwt_3_3_2_0 (p : Nat) : Option (List Nat) := bif Nat.ble p 1511 then (bif Nat.ble p 1510 then (bif Nat.beq p 1510 then some [0, 13, 168, 230] else none) else (bif Nat.beq p 1511 then some [13, 230] else none)) else (bif Nat.ble p 1512 then (bif Nat.beq p 1512 then some [15, 230] else none) else (bif Nat.beq p 1513 then some [16, 230] else none))
def xwt_3_3_2_1 (p : Nat) : Option (List Nat) := bif Nat.ble p 1515 then (bif Nat.ble p 1514 then (bif Nat.beq p 1514 then some [0, 13, 172, 231] else none) else (bif Nat.beq p 1515 then some [13, 231] else none)) else (bif Nat.ble p 1516 then (bif Nat.beq p 1516 then some [15, 231] else none) else (bif Nat.beq p 1517 then some [16, 231] else none))
def xwt_3_3_2_2 (p : Nat) : Option (List Nat) := bif Nat.ble p 1519 then (bif Nat.ble p 1518 then (bif Nat.beq p 1518 then some [0, 13, 176, 232] else none) else (bif Nat.beq p 1519 then some [13, 232] else none)) else (bif Nat.ble p 1520 then (bif Nat.beq p 1520 then some [15, 232] else none) else (bif Nat.beq p 1521 then some [16, 232] else none))
def xwt_3_3_2_3_0 (p : Nat) : Option (List Nat) := bif Nat.beq p 1522 then some [0, 12, 288, 138] else none
def xwt_3_3_2_3_1 (p : Nat) : Option (List Nat) := bif Nat.beq p 1523 then some [14, 138] else none
def xwt_3_3_2_3_2 (p : Nat) : Option (List Nat) := bif Nat.beq p 1524 then some [16, 138] else none
def xwt_3_3_2_3_3 (p : Nat) : Option (List Nat) := bif Nat.ble p 1525 then (bif Nat.beq p 1525 then some [0, 13, 180, 233] else none) else (bif Nat.beq p 1526 then some [13, 233] else none)
def xwt_3_3_2_3 (p : Nat) : Option (List Nat) := bif Nat.ble p 1523 then (bif Nat.ble p 1522 then (xwt_3_3_2_3_0 p) else (xwt_3_3_2_3_1 p)) else (bif Nat.ble p 1524 then (xwt_3_3_2_3_2 p) else (xwt_3_3_2_3_3 p))
def xwt_3_3_2 (p : Nat) : Option (List Nat) := bif Nat.ble p 1517 then (bif Nat.ble p 1513 then (xwt_3_3_2_0 p) else (xwt_3_3_2_1 p)) else (bif Nat.ble p 1521 then (xwt_3_3_2_2 p) else (xwt_3_3_2_3 p))
def xwt_3_3_3_0 (p : Nat) : Option (List Nat) := bif Nat.ble p 1528 then (bif Nat.ble p 1527 then (bif Nat.beq p 1527 then some [15, 233] else none) else (bif Nat.beq p 1528 then some [16, 233] else none)) else (bif Nat.ble p 1529 then (bif Nat.beq p 1529 then some [0, 13, 184, 234] else none) else (bif Nat.beq p 1530 then some [13, 234] else none))
def xwt_3_3_3_1_0 (p : Nat) : Option (List Nat) := bif Nat.beq p 1531 then some [15, 234] else none
def xwt_3_3_3_1_1 (p : Nat) : Option (List Nat) := bif Nat.beq p 1532 then some [16, 234] else none
def xwt_3_3_3_1_2 (p : Nat) : Option (List Nat) := bif Nat.beq p 1533 then some [0, 13, 188, 235] else none
def xwt_3_3_3_1_3 (p : Nat) : Option (List Nat) := bif Nat.ble p 1534 then (bif Nat.beq p 1534 then some [13, 235] else none) else (bif Nat.beq p 1535 then some [15, 235] else none)
def xwt_3_3_3_1 (p : Nat) : Option (List Nat) := bif Nat.ble p 1532 then (bif Nat.ble p 1531 then (xwt_3_3_3_1_0 p) else (xwt_3_3_3_1_1 p)) else (bif Nat.ble p 1533 then (xwt_3_3_3_1_2 p) else (xwt_3_3_3_1_3 p))
def xwt_3_3_3_2 (p : Nat) : Option (List Nat) := bif Nat.ble p 1537 then (bif Nat.ble p 1536 then (bif Nat.beq p 1536 then some [16, 235] else none) else (bif Nat.beq p 1537 then some [0, 13, 192, 236] else none)) else (bif Nat.ble p 1538 then (bif Nat.beq p 1538 then some [13, 236] else none) else (bif Nat.beq p 1539 then some [15, 236] else none))
def xwt_3_3_3_3_0 (p : Nat) : Option (List Nat) := bif Nat.beq p 1540 then some [16, 236] else none
def xwt_3_3_3_3_1 (p : Nat) : Option (List Nat) := bif Nat.beq p 1541 then some [0, 13, 196, 237] else none
def xwt_3_3_3_3_2 (p : Nat) : Option (List Nat) := bif Nat.beq p 1542 then some [13, 237] else none
def xwt_3_3_3_3_3 (p : Nat) : Option (List Nat) := bif Nat.ble p 1543 then (bif Nat.beq p 1543 then some [15, 237] else none) else (bif Nat.beq p 1544 then some [16, 237] else none)
def xwt_3_3_3_3 (p : Nat) : Option (List Nat) := bif Nat.ble p 1541 then (bif Nat.ble p 1540 then (xwt_3_3_3_3_0 p) else (xwt_3_3_3_3_1 p)) else (bif Nat.ble p 1542 then (xwt_3_3_3_3_2 p) else (xwt_3_3_3_3_3 p))
def xwt_3_3_3 (p : Nat) : Option (List Nat) := bif Nat.ble p 1535 then (bif Nat.ble p 1530 then (xwt_3_3_3_0 p) else (xwt_3_3_3_1 p)) else (bif Nat.ble p 1539 then (xwt_3_3_3_2 p) else (xwt_3_3_3_3 p))
def xwt_3_3 (p : Nat) : Option (List Nat) := bif Nat.ble p 1509 then (bif Nat.ble p 1491 then (xwt_3_3_0 p) else (xwt_3_3_1 p)) else (bif Nat.ble p 1526 then (xwt_3_3_2 p) else (xwt_3_3_3 p))
def xwt_3 (p : Nat) : Option (List Nat) := bif Nat.ble p 1392 then (bif Nat.ble p 1316 then (xwt_3_0 p) else (xwt_3_1 p)) else (bif Nat.ble p 1470 then (xwt_3_2 p) else (xwt_3_3 p))
def xwt (p : Nat) : Option (List Nat) := bif Nat.ble p 877 then (bif Nat.ble p 490 then (xwt_0 p) else (xwt_1 p)) else (bif Nat.ble p 1231 then (xwt_2 p) else (xwt_3 p))
def xraw_0_0_0_0 (k : Nat) : Jvm.Cond := (Jvm.Cond.initialized "GorgeRocksLaw")
def xraw_0_0_0_1 (k : Nat) : Jvm.Cond := bif Nat.ble k 1 then ((Jvm.Cond.initialized "java/lang/Math")) else ((Jvm.Cond.initialized "java/lang/String"))
def xraw_0_0_0_2 (k : Nat) : Jvm.Cond := bif Nat.ble k 3 then ((Jvm.Cond.initialized "java/lang/StringLatin1")) else ((Jvm.Cond.initialized "java/lang/StringUTF16"))
def xraw_0_0_0_3 (k : Nat) : Jvm.Cond := bif Nat.ble k 5 then ((Jvm.Cond.initialized "jdk/internal/util/Preconditions")) else ((Jvm.Cond.initialized "java/lang/Character"))
def xraw_0_0_0 (k : Nat) : Jvm.Cond := bif Nat.ble k 2 then (bif Nat.ble k 0 then (xraw_0_0_0_0 k) else (xraw_0_0_0_1 k)) else (bif Nat.ble k 4 then (xraw_0_0_0_2 k) else (xraw_0_0_0_3 k))
def xraw_0_0_1_0 (k : Nat) : Jvm.Cond := (Jvm.Cond.initialized "java/lang/System")
def xraw_0_0_1_1 (k : Nat) : Jvm.Cond := bif Nat.ble k 8 then ((Jvm.Cond.classLink "GorgeRocksLaw" (7 : Nat) "GorgeRocks")) else ((Jvm.Cond.instantiable "GorgeRocks" (15 : Nat)))
def xraw_0_0_1_2 (k : Nat) : Jvm.Cond := bif Nat.ble k 10 then ((Jvm.Cond.methodLink "GorgeRocks" (1 : Nat) ({ cls := "java/lang/Object", name := "<init>", desc := "()V" } : Jvm.MethodName))) else ((Jvm.Cond.instanceMethod ({ cls := "java/lang/Object", name := "<init>", desc := "()V" } : Jvm.MethodName)))
def xraw_0_0_1_3 (k : Nat) : Jvm.Cond := bif Nat.ble k 12 then ((Jvm.Cond.code ({ cls := "java/lang/Object", name := "<init>", desc := "()V" } : Jvm.MethodName) object_method_1_code (1 : Nat) (Option.none : Option Jvm.ClassFile.FieldType))) else ((Jvm.Cond.classLink "GorgeRocks" (7 : Nat) "GorgeRocks$World"))
def xraw_0_0_1 (k : Nat) : Jvm.Cond := bif Nat.ble k 9 then (bif Nat.ble k 7 then (xraw_0_0_1_0 k) else (xraw_0_0_1_1 k)) else (bif Nat.ble k 11 then (xraw_0_0_1_2 k) else (xraw_0_0_1_3 k))
def xraw_0_0_2_0 (k : Nat) : Jvm.Cond := (Jvm.Cond.instantiable "GorgeRocks$World" (15 : Nat))
def xraw_0_0_2_1 (k : Nat) : Jvm.Cond := bif Nat.ble k 15 then ((Jvm.Cond.methodLink "GorgeRocks$World" (3 : Nat) ({ cls := "java/lang/Object", name := "<init>", desc := "()V" } : Jvm.MethodName))) else ((Jvm.Cond.classLink "GorgeRocks$World" (9 : Nat) "GorgeRocks$Row"))
def xraw_0_0_2_2 (k : Nat) : Jvm.Cond := bif Nat.ble k 17 then ((Jvm.Cond.arrayOver (Jvm.ClassFile.FieldType.object "GorgeRocks$Row"))) else ((Jvm.Cond.classLink "GorgeRocks$World" (17 : Nat) "GorgeRocks$Rock"))
def xraw_0_0_2_3 (k : Nat) : Jvm.Cond := bif Nat.ble k 19 then ((Jvm.Cond.arrayOver (Jvm.ClassFile.FieldType.object "GorgeRocks$Rock"))) else ((Jvm.Cond.classLink "GorgeRocks$World" (23 : Nat) "GorgeRocks$Text"))
def xraw_0_0_2 (k : Nat) : Jvm.Cond := bif Nat.ble k 16 then (bif Nat.ble k 14 then (xraw_0_0_2_0 k) else (xraw_0_0_2_1 k)) else (bif Nat.ble k 18 then (xraw_0_0_2_2 k) else (xraw_0_0_2_3 k))
def xraw_0_0_3_0 (k : Nat) : Jvm.Cond := (Jvm.Cond.arrayOver (Jvm.ClassFile.FieldType.object "GorgeRocks$Text"))
def xraw_0_0_3_1 (k : Nat) : Jvm.Cond := bif Nat.ble k 22 then ((Jvm.Cond.instantiable "GorgeRocks$Row" (2 : Nat))) else ((Jvm.Cond.methodLink "GorgeRocks$Row" (1 : Nat) ({ cls := "java/lang/Object", name := "<init>", desc := "()V" } : Jvm.MethodName)))
def xraw_0_0_3_2 (k : Nat) : Jvm.Cond := bif Nat.ble k 24 then ((Jvm.Cond.methodLink "GorgeRocks$Row" (13 : Nat) ({ cls := "java/lang/Math", name := "max", desc := "(II)I" } : Jvm.MethodName))) else ((Jvm.Cond.static ({ cls := "java/lang/Math", name := "max", desc := "(II)I" } : Jvm.MethodName)))
def xraw_0_0_3_3 (k : Nat) : Jvm.Cond := bif Nat.ble k 26 then ((Jvm.Cond.code ({ cls := "java/lang/Math", name := "max", desc := "(II)I" } : Jvm.MethodName) prog_17_method_65_code (2 : Nat) (Option.some Jvm.ClassFile.FieldType.int))) else ((Jvm.Cond.laysFinal "GorgeRocks$Row" "GorgeRocks$Row" "items" "[I"))
def xraw_0_0_3 (k : Nat) : Jvm.Cond := bif Nat.ble k 23 then (bif Nat.ble k 21 then (xraw_0_0_3_0 k) else (xraw_0_0_3_1 k)) else (bif Nat.ble k 25 then (xraw_0_0_3_2 k) else (xraw_0_0_3_3 k))
def xraw_0_0 (k : Nat) : Jvm.Cond := bif Nat.ble k 13 then (bif Nat.ble k 6 then (xraw_0_0_0 k) else (xraw_0_0_1 k)) else (bif Nat.ble k 20 then (xraw_0_0_2 k) else (xraw_0_0_3 k))
def xraw_0_1_0_0 (k : Nat) : Jvm.Cond := (Jvm.Cond.soleField "GorgeRocks$Row" "items")
def xraw_0_1_0_1 (k : Nat) : Jvm.Cond := bif Nat.ble k 29 then ((Jvm.Cond.lays "GorgeRocks$Row" "GorgeRocks$Row" "size" "I")) else ((Jvm.Cond.soleField "GorgeRocks$Row" "size"))
def xraw_0_1_0_2 (k : Nat) : Jvm.Cond := bif Nat.ble k 31 then ((Jvm.Cond.superclass "GorgeRocks$Row" "java/lang/Object")) else ((Jvm.Cond.arrayClass Jvm.ClassFile.FieldType.int))
def xraw_0_1_0_3 (k : Nat) : Jvm.Cond := bif Nat.ble k 33 then ((Jvm.Cond.classLink "GorgeRocks$World" (48 : Nat) "GorgeRocks$Journal")) else ((Jvm.Cond.instantiable "GorgeRocks$Journal" (3 : Nat)))
def xraw_0_1_0 (k : Nat) : Jvm.Cond := bif Nat.ble k 30 then (bif Nat.ble k 28 then (xraw_0_1_0_0 k) else (xraw_0_1_0_1 k)) else (bif Nat.ble k 32 then (xraw_0_1_0_2 k) else (xraw_0_1_0_3 k))
def xraw_0_1_1_0 (k : Nat) : Jvm.Cond := (Jvm.Cond.methodLink "GorgeRocks$Journal" (3 : Nat) ({ cls := "java/lang/Object", name := "<init>", desc := "()V" } : Jvm.MethodName))
def xraw_0_1_1_1 (k : Nat) : Jvm.Cond := bif Nat.ble k 36 then ((Jvm.Cond.classLink "GorgeRocks$Journal" (9 : Nat) "GorgeRocks$Row")) else ((Jvm.Cond.laysFinal "GorgeRocks$Journal" "GorgeRocks$Journal" "rows" "[LGorgeRocks$Row;"))
def xraw_0_1_1_2 (k : Nat) : Jvm.Cond := bif Nat.ble k 38 then ((Jvm.Cond.soleField "GorgeRocks$Journal" "rows")) else ((Jvm.Cond.lays "GorgeRocks$Journal" "GorgeRocks$Journal" "latest" "I"))
def xraw_0_1_1_3 (k : Nat) : Jvm.Cond := bif Nat.ble k 40 then ((Jvm.Cond.soleField "GorgeRocks$Journal" "latest")) else ((Jvm.Cond.lays "GorgeRocks$Journal" "GorgeRocks$Journal" "size" "I"))
def xraw_0_1_1 (k : Nat) : Jvm.Cond := bif Nat.ble k 37 then (bif Nat.ble k 35 then (xraw_0_1_1_0 k) else (xraw_0_1_1_1 k)) else (bif Nat.ble k 39 then (xraw_0_1_1_2 k) else (xraw_0_1_1_3 k))
def xraw_0_1_2_0 (k : Nat) : Jvm.Cond := (Jvm.Cond.soleField "GorgeRocks$Journal" "size")
def xraw_0_1_2_1 (k : Nat) : Jvm.Cond := bif Nat.ble k 43 then ((Jvm.Cond.superclass "GorgeRocks$Journal" "java/lang/Object")) else ((Jvm.Cond.instantiable "GorgeRocks$Rock" (3 : Nat)))
def xraw_0_1_2_2 (k : Nat) : Jvm.Cond := bif Nat.ble k 45 then ((Jvm.Cond.methodLinkNest "GorgeRocks$World" (75 : Nat) ({ cls := "GorgeRocks$Rock", name := "<init>", desc := "()V" } : Jvm.MethodName) "GorgeRocks")) else ((Jvm.Cond.methodLink "GorgeRocks$Rock" (3 : Nat) ({ cls := "java/lang/Object", name := "<init>", desc := "()V" } : Jvm.MethodName)))
def xraw_0_1_2_3 (k : Nat) : Jvm.Cond := bif Nat.ble k 47 then ((Jvm.Cond.lays "GorgeRocks$Rock" "GorgeRocks$Rock" "kind" "I")) else ((Jvm.Cond.soleField "GorgeRocks$Rock" "kind"))
def xraw_0_1_2 (k : Nat) : Jvm.Cond := bif Nat.ble k 44 then (bif Nat.ble k 42 then (xraw_0_1_2_0 k) else (xraw_0_1_2_1 k)) else (bif Nat.ble k 46 then (xraw_0_1_2_2 k) else (xraw_0_1_2_3 k))
def xraw_0_1_3_0 (k : Nat) : Jvm.Cond := bif Nat.ble k 49 then ((Jvm.Cond.lays "GorgeRocks$Rock" "GorgeRocks$Rock" "m" "I")) else ((Jvm.Cond.soleField "GorgeRocks$Rock" "m"))
def xraw_0_1_3_1 (k : Nat) : Jvm.Cond := bif Nat.ble k 51 then ((Jvm.Cond.lays "GorgeRocks$Rock" "GorgeRocks$Rock" "delay" "I")) else ((Jvm.Cond.soleField "GorgeRocks$Rock" "delay"))
def xraw_0_1_3_2 (k : Nat) : Jvm.Cond := bif Nat.ble k 53 then ((Jvm.Cond.superclass "GorgeRocks$Rock" "java/lang/Object")) else ((Jvm.Cond.instantiable "GorgeRocks$Text" (2 : Nat)))
def xraw_0_1_3_3 (k : Nat) : Jvm.Cond := bif Nat.ble k 55 then ((Jvm.Cond.methodLinkNest "GorgeRocks$World" (76 : Nat) ({ cls := "GorgeRocks$Text", name := "<init>", desc := "()V" } : Jvm.MethodName) "GorgeRocks")) else ((Jvm.Cond.methodLink "GorgeRocks$Text" (3 : Nat) ({ cls := "java/lang/Object", name := "<init>", desc := "()V" } : Jvm.MethodName)))
def xraw_0_1_3 (k : Nat) : Jvm.Cond := bif Nat.ble k 52 then (bif Nat.ble k 50 then (xraw_0_1_3_0 k) else (xraw_0_1_3_1 k)) else (bif Nat.ble k 54 then (xraw_0_1_3_2 k) else (xraw_0_1_3_3 k))
def xraw_0_1 (k : Nat) : Jvm.Cond := bif Nat.ble k 41 then (bif Nat.ble k 34 then (xraw_0_1_0 k) else (xraw_0_1_1 k)) else (bif Nat.ble k 48 then (xraw_0_1_2 k) else (xraw_0_1_3 k))
def xraw_0_2_0_0 (k : Nat) : Jvm.Cond := (Jvm.Cond.classLink "GorgeRocks$Text" (9 : Nat) "GorgeRocks$Row")
def xraw_0_2_0_1 (k : Nat) : Jvm.Cond := bif Nat.ble k 58 then ((Jvm.Cond.laysFinal "GorgeRocks$Text" "GorgeRocks$Text" "code" "LGorgeRocks$Row;")) else ((Jvm.Cond.soleField "GorgeRocks$Text" "code"))
def xraw_0_2_0_2 (k : Nat) : Jvm.Cond := bif Nat.ble k 60 then ((Jvm.Cond.laysFinal "GorgeRocks$Text" "GorgeRocks$Text" "stack" "[I")) else ((Jvm.Cond.soleField "GorgeRocks$Text" "stack"))
def xraw_0_2_0_3 (k : Nat) : Jvm.Cond := bif Nat.ble k 62 then ((Jvm.Cond.superclass "GorgeRocks$Text" "java/lang/Object")) else ((Jvm.Cond.laysFinal "GorgeRocks$World" "GorgeRocks$World" "calls" "[LGorgeRocks$Row;"))
def xraw_0_2_0 (k : Nat) : Jvm.Cond := bif Nat.ble k 59 then (bif Nat.ble k 57 then (xraw_0_2_0_0 k) else (xraw_0_2_0_1 k)) else (bif Nat.ble k 61 then (xraw_0_2_0_2 k) else (xraw_0_2_0_3 k))
def xraw_0_2_1_0 (k : Nat) : Jvm.Cond := (Jvm.Cond.soleField "GorgeRocks$World" "calls")
def xraw_0_2_1_1 (k : Nat) : Jvm.Cond := bif Nat.ble k 65 then ((Jvm.Cond.laysFinal "GorgeRocks$World" "GorgeRocks$World" "rocks" "[LGorgeRocks$Rock;")) else ((Jvm.Cond.soleField "GorgeRocks$World" "rocks"))
def xraw_0_2_1_2 (k : Nat) : Jvm.Cond := bif Nat.ble k 67 then ((Jvm.Cond.laysFinal "GorgeRocks$World" "GorgeRocks$World" "texts" "[LGorgeRocks$Text;")) else ((Jvm.Cond.soleField "GorgeRocks$World" "texts"))
def xraw_0_2_1_3 (k : Nat) : Jvm.Cond := bif Nat.ble k 69 then ((Jvm.Cond.laysFinal "GorgeRocks$World" "GorgeRocks$World" "tape" "LGorgeRocks$Row;")) else ((Jvm.Cond.soleField "GorgeRocks$World" "tape"))
def xraw_0_2_1 (k : Nat) : Jvm.Cond := bif Nat.ble k 66 then (bif Nat.ble k 64 then (xraw_0_2_1_0 k) else (xraw_0_2_1_1 k)) else (bif Nat.ble k 68 then (xraw_0_2_1_2 k) else (xraw_0_2_1_3 k))
def xraw_0_2_2_0 (k : Nat) : Jvm.Cond := (Jvm.Cond.laysFinal "GorgeRocks$World" "GorgeRocks$World" "waiting" "LGorgeRocks$Row;")
def xraw_0_2_2_1 (k : Nat) : Jvm.Cond := bif Nat.ble k 72 then ((Jvm.Cond.soleField "GorgeRocks$World" "waiting")) else ((Jvm.Cond.laysFinal "GorgeRocks$World" "GorgeRocks$World" "echoCalls" "LGorgeRocks$Row;"))
def xraw_0_2_2_2 (k : Nat) : Jvm.Cond := bif Nat.ble k 74 then ((Jvm.Cond.soleField "GorgeRocks$World" "echoCalls")) else ((Jvm.Cond.laysFinal "GorgeRocks$World" "GorgeRocks$World" "echoRocks" "LGorgeRocks$Row;"))
def xraw_0_2_2_3 (k : Nat) : Jvm.Cond := bif Nat.ble k 76 then ((Jvm.Cond.soleField "GorgeRocks$World" "echoRocks")) else ((Jvm.Cond.laysFinal "GorgeRocks$World" "GorgeRocks$World" "echoTimes" "LGorgeRocks$Row;"))
def xraw_0_2_2 (k : Nat) : Jvm.Cond := bif Nat.ble k 73 then (bif Nat.ble k 71 then (xraw_0_2_2_0 k) else (xraw_0_2_2_1 k)) else (bif Nat.ble k 75 then (xraw_0_2_2_2 k) else (xraw_0_2_2_3 k))
def xraw_0_2_3_0 (k : Nat) : Jvm.Cond := (Jvm.Cond.soleField "GorgeRocks$World" "echoTimes")
def xraw_0_2_3_1 (k : Nat) : Jvm.Cond := bif Nat.ble k 79 then ((Jvm.Cond.laysFinal "GorgeRocks$World" "GorgeRocks$World" "journal" "LGorgeRocks$Journal;")) else ((Jvm.Cond.soleField "GorgeRocks$World" "journal"))
def xraw_0_2_3_2 (k : Nat) : Jvm.Cond := bif Nat.ble k 81 then ((Jvm.Cond.lays "GorgeRocks$World" "GorgeRocks$World" "callCount" "I")) else ((Jvm.Cond.soleField "GorgeRocks$World" "callCount"))
def xraw_0_2_3_3 (k : Nat) : Jvm.Cond := bif Nat.ble k 83 then ((Jvm.Cond.lays "GorgeRocks$World" "GorgeRocks$World" "rockCount" "I")) else ((Jvm.Cond.soleField "GorgeRocks$World" "rockCount"))
def xraw_0_2_3 (k : Nat) : Jvm.Cond := bif Nat.ble k 80 then (bif Nat.ble k 78 then (xraw_0_2_3_0 k) else (xraw_0_2_3_1 k)) else (bif Nat.ble k 82 then (xraw_0_2_3_2 k) else (xraw_0_2_3_3 k))
def xraw_0_2 (k : Nat) : Jvm.Cond := bif Nat.ble k 70 then (bif Nat.ble k 63 then (xraw_0_2_0 k) else (xraw_0_2_1 k)) else (bif Nat.ble k 77 then (xraw_0_2_2 k) else (xraw_0_2_3 k))
def xraw_0_3_0_0 (k : Nat) : Jvm.Cond := (Jvm.Cond.lays "GorgeRocks$World" "GorgeRocks$World" "now" "I")
def xraw_0_3_0_1 (k : Nat) : Jvm.Cond := bif Nat.ble k 86 then ((Jvm.Cond.soleField "GorgeRocks$World" "now")) else ((Jvm.Cond.lays "GorgeRocks$World" "GorgeRocks$World" "truth" "I"))
def xraw_0_3_0_2 (k : Nat) : Jvm.Cond := bif Nat.ble k 88 then ((Jvm.Cond.soleField "GorgeRocks$World" "truth")) else ((Jvm.Cond.lays "GorgeRocks$World" "GorgeRocks$World" "z" "I"))
def xraw_0_3_0_3 (k : Nat) : Jvm.Cond := bif Nat.ble k 90 then ((Jvm.Cond.soleField "GorgeRocks$World" "z")) else ((Jvm.Cond.laysFinal "GorgeRocks$World" "GorgeRocks$World" "names" "[I"))
def xraw_0_3_0 (k : Nat) : Jvm.Cond := bif Nat.ble k 87 then (bif Nat.ble k 85 then (xraw_0_3_0_0 k) else (xraw_0_3_0_1 k)) else (bif Nat.ble k 89 then (xraw_0_3_0_2 k) else (xraw_0_3_0_3 k))
def xraw_0_3_1_0 (k : Nat) : Jvm.Cond := (Jvm.Cond.soleField "GorgeRocks$World" "names")
def xraw_0_3_1_1 (k : Nat) : Jvm.Cond := bif Nat.ble k 93 then ((Jvm.Cond.superclass "GorgeRocks$World" "java/lang/Object")) else ((Jvm.Cond.classLink "GorgeRocks" (19 : Nat) "GorgeRocks$Reader"))
def xraw_0_3_1_2 (k : Nat) : Jvm.Cond := bif Nat.ble k 95 then ((Jvm.Cond.instantiable "GorgeRocks$Reader" (4 : Nat))) else ((Jvm.Cond.methodLinkNest "GorgeRocks" (21 : Nat) ({ cls := "GorgeRocks$Reader", name := "<init>", desc := "()V" } : Jvm.MethodName) "GorgeRocks"))
def xraw_0_3_1_3 (k : Nat) : Jvm.Cond := bif Nat.ble k 97 then ((Jvm.Cond.methodLink "GorgeRocks$Reader" (3 : Nat) ({ cls := "java/lang/Object", name := "<init>", desc := "()V" } : Jvm.MethodName))) else ((Jvm.Cond.classLink "GorgeRocks$Reader" (9 : Nat) "GorgeRocks$Row"))
def xraw_0_3_1 (k : Nat) : Jvm.Cond := bif Nat.ble k 94 then (bif Nat.ble k 92 then (xraw_0_3_1_0 k) else (xraw_0_3_1_1 k)) else (bif Nat.ble k 96 then (xraw_0_3_1_2 k) else (xraw_0_3_1_3 k))
def xraw_0_3_2_0 (k : Nat) : Jvm.Cond := (Jvm.Cond.stringRef "GorgeRocks$Reader" (23 : Nat) "sinm")
def xraw_0_3_2_1 (k : Nat) : Jvm.Cond := bif Nat.ble k 100 then ((Jvm.Cond.laysFinal "GorgeRocks$Reader" "GorgeRocks$Reader" "draft" "LGorgeRocks$Row;")) else ((Jvm.Cond.soleField "GorgeRocks$Reader" "draft"))
def xraw_0_3_2_2 (k : Nat) : Jvm.Cond := bif Nat.ble k 102 then ((Jvm.Cond.lays "GorgeRocks$Reader" "GorgeRocks$Reader" "tape" "LGorgeRocks$Row;")) else ((Jvm.Cond.soleField "GorgeRocks$Reader" "tape"))
def xraw_0_3_2_3 (k : Nat) : Jvm.Cond := bif Nat.ble k 104 then ((Jvm.Cond.lays "GorgeRocks$Reader" "GorgeRocks$Reader" "names" "Ljava/lang/String;")) else ((Jvm.Cond.soleField "GorgeRocks$Reader" "names"))
def xraw_0_3_2 (k : Nat) : Jvm.Cond := bif Nat.ble k 101 then (bif Nat.ble k 99 then (xraw_0_3_2_0 k) else (xraw_0_3_2_1 k)) else (bif Nat.ble k 103 then (xraw_0_3_2_2 k) else (xraw_0_3_2_3 k))
def xraw_0_3_3_0 (k : Nat) : Jvm.Cond := bif Nat.ble k 106 then ((Jvm.Cond.lays "GorgeRocks$Reader" "GorgeRocks$Reader" "at" "I")) else ((Jvm.Cond.soleField "GorgeRocks$Reader" "at"))
def xraw_0_3_3_1 (k : Nat) : Jvm.Cond := bif Nat.ble k 108 then ((Jvm.Cond.superclass "GorgeRocks$Reader" "java/lang/Object")) else ((Jvm.Cond.arrayClass Jvm.ClassFile.FieldType.byte))
def xraw_0_3_3_2 (k : Nat) : Jvm.Cond := bif Nat.ble k 110 then ((Jvm.Cond.classLink "GorgeRocks" (26 : Nat) "GorgeRocks$Grammar")) else ((Jvm.Cond.instantiable "GorgeRocks$Grammar" (3 : Nat)))
def xraw_0_3_3_3 (k : Nat) : Jvm.Cond := bif Nat.ble k 112 then ((Jvm.Cond.methodLinkNest "GorgeRocks" (28 : Nat) ({ cls := "GorgeRocks$Grammar", name := "<init>", desc := "()V" } : Jvm.MethodName) "GorgeRocks")) else ((Jvm.Cond.methodLink "GorgeRocks$Grammar" (3 : Nat) ({ cls := "java/lang/Object", name := "<init>", desc := "()V" } : Jvm.MethodName)))
def xraw_0_3_3 (k : Nat) : Jvm.Cond := bif Nat.ble k 109 then (bif Nat.ble k 107 then (xraw_0_3_3_0 k) else (xraw_0_3_3_1 k)) else (bif Nat.ble k 111 then (xraw_0_3_3_2 k) else (xraw_0_3_3_3 k))
def xraw_0_3 (k : Nat) : Jvm.Cond := bif Nat.ble k 98 then (bif Nat.ble k 91 then (xraw_0_3_0 k) else (xraw_0_3_1 k)) else (bif Nat.ble k 105 then (xraw_0_3_2 k) else (xraw_0_3_3 k))
def xraw_0 (k : Nat) : Jvm.Cond := bif Nat.ble k 56 then (bif Nat.ble k 27 then (xraw_0_0 k) else (xraw_0_1 k)) else (bif Nat.ble k 84 then (xraw_0_2 k) else (xraw_0_3 k))
def xraw_1_0_0_0 (k : Nat) : Jvm.Cond := (Jvm.Cond.classLink "GorgeRocks$Grammar" (9 : Nat) "GorgeRocks$Row")
def xraw_1_0_0_1 (k : Nat) : Jvm.Cond := bif Nat.ble k 115 then ((Jvm.Cond.lays "GorgeRocks$Grammar" "GorgeRocks$Grammar" "row" "LGorgeRocks$Row;")) else ((Jvm.Cond.soleField "GorgeRocks$Grammar" "row"))
def xraw_1_0_0_2 (k : Nat) : Jvm.Cond := bif Nat.ble k 117 then ((Jvm.Cond.lays "GorgeRocks$Grammar" "GorgeRocks$Grammar" "truth" "I")) else ((Jvm.Cond.soleField "GorgeRocks$Grammar" "truth"))
def xraw_1_0_0_3 (k : Nat) : Jvm.Cond := bif Nat.ble k 119 then ((Jvm.Cond.lays "GorgeRocks$Grammar" "GorgeRocks$Grammar" "at" "I")) else ((Jvm.Cond.soleField "GorgeRocks$Grammar" "at"))
def xraw_1_0_0 (k : Nat) : Jvm.Cond := bif Nat.ble k 116 then (bif Nat.ble k 114 then (xraw_1_0_0_0 k) else (xraw_1_0_0_1 k)) else (bif Nat.ble k 118 then (xraw_1_0_0_2 k) else (xraw_1_0_0_3 k))
def xraw_1_0_1_0 (k : Nat) : Jvm.Cond := (Jvm.Cond.superclass "GorgeRocks$Grammar" "java/lang/Object")
def xraw_1_0_1_1 (k : Nat) : Jvm.Cond := bif Nat.ble k 122 then ((Jvm.Cond.classLink "GorgeRocks" (33 : Nat) "GorgeRocks$Meanings")) else ((Jvm.Cond.instantiable "GorgeRocks$Meanings" (3 : Nat)))
def xraw_1_0_1_2 (k : Nat) : Jvm.Cond := bif Nat.ble k 124 then ((Jvm.Cond.methodLink "GorgeRocks$Meanings" (3 : Nat) ({ cls := "java/lang/Object", name := "<init>", desc := "()V" } : Jvm.MethodName))) else ((Jvm.Cond.classLink "GorgeRocks$Meanings" (9 : Nat) "GorgeRocks$Row"))
def xraw_1_0_1_3 (k : Nat) : Jvm.Cond := bif Nat.ble k 126 then ((Jvm.Cond.laysFinal "GorgeRocks$Meanings" "GorgeRocks$Meanings" "rows" "[LGorgeRocks$Row;")) else ((Jvm.Cond.soleField "GorgeRocks$Meanings" "rows"))
def xraw_1_0_1 (k : Nat) : Jvm.Cond := bif Nat.ble k 123 then (bif Nat.ble k 121 then (xraw_1_0_1_0 k) else (xraw_1_0_1_1 k)) else (bif Nat.ble k 125 then (xraw_1_0_1_2 k) else (xraw_1_0_1_3 k))
def xraw_1_0_2_0 (k : Nat) : Jvm.Cond := (Jvm.Cond.laysFinal "GorgeRocks$Meanings" "GorgeRocks$Meanings" "tried" "LGorgeRocks$Row;")
def xraw_1_0_2_1 (k : Nat) : Jvm.Cond := bif Nat.ble k 129 then ((Jvm.Cond.soleField "GorgeRocks$Meanings" "tried")) else ((Jvm.Cond.lays "GorgeRocks$Meanings" "GorgeRocks$Meanings" "size" "I"))
def xraw_1_0_2_2 (k : Nat) : Jvm.Cond := bif Nat.ble k 131 then ((Jvm.Cond.soleField "GorgeRocks$Meanings" "size")) else ((Jvm.Cond.superclass "GorgeRocks$Meanings" "java/lang/Object"))
def xraw_1_0_2_3 (k : Nat) : Jvm.Cond := bif Nat.ble k 133 then ((Jvm.Cond.classLink "GorgeRocks" (40 : Nat) "GorgeRocks$Deal")) else ((Jvm.Cond.instantiable "GorgeRocks$Deal" (8 : Nat)))
def xraw_1_0_2 (k : Nat) : Jvm.Cond := bif Nat.ble k 130 then (bif Nat.ble k 128 then (xraw_1_0_2_0 k) else (xraw_1_0_2_1 k)) else (bif Nat.ble k 132 then (xraw_1_0_2_2 k) else (xraw_1_0_2_3 k))
def xraw_1_0_3_0 (k : Nat) : Jvm.Cond := (Jvm.Cond.methodLinkNest "GorgeRocks" (42 : Nat) ({ cls := "GorgeRocks$Deal", name := "<init>", desc := "()V" } : Jvm.MethodName) "GorgeRocks")
def xraw_1_0_3_1 (k : Nat) : Jvm.Cond := bif Nat.ble k 136 then ((Jvm.Cond.methodLink "GorgeRocks$Deal" (3 : Nat) ({ cls := "java/lang/Object", name := "<init>", desc := "()V" } : Jvm.MethodName))) else ((Jvm.Cond.classLink "GorgeRocks$Deal" (9 : Nat) "GorgeRocks$Row"))
def xraw_1_0_3_2 (k : Nat) : Jvm.Cond := bif Nat.ble k 138 then ((Jvm.Cond.laysFinal "GorgeRocks$Deal" "GorgeRocks$Deal" "calling" "LGorgeRocks$Row;")) else ((Jvm.Cond.soleField "GorgeRocks$Deal" "calling"))
def xraw_1_0_3_3 (k : Nat) : Jvm.Cond := bif Nat.ble k 140 then ((Jvm.Cond.laysFinal "GorgeRocks$Deal" "GorgeRocks$Deal" "coming" "LGorgeRocks$Row;")) else ((Jvm.Cond.soleField "GorgeRocks$Deal" "coming"))
def xraw_1_0_3 (k : Nat) : Jvm.Cond := bif Nat.ble k 137 then (bif Nat.ble k 135 then (xraw_1_0_3_0 k) else (xraw_1_0_3_1 k)) else (bif Nat.ble k 139 then (xraw_1_0_3_2 k) else (xraw_1_0_3_3 k))
def xraw_1_0 (k : Nat) : Jvm.Cond := bif Nat.ble k 127 then (bif Nat.ble k 120 then (xraw_1_0_0 k) else (xraw_1_0_1 k)) else (bif Nat.ble k 134 then (xraw_1_0_2 k) else (xraw_1_0_3 k))
def xraw_1_1_0_0 (k : Nat) : Jvm.Cond := (Jvm.Cond.lays "GorgeRocks$Deal" "GorgeRocks$Deal" "sellerOffer" "I")
def xraw_1_1_0_1 (k : Nat) : Jvm.Cond := bif Nat.ble k 143 then ((Jvm.Cond.soleField "GorgeRocks$Deal" "sellerOffer")) else ((Jvm.Cond.lays "GorgeRocks$Deal" "GorgeRocks$Deal" "buyerOffer" "I"))
def xraw_1_1_0_2 (k : Nat) : Jvm.Cond := bif Nat.ble k 145 then ((Jvm.Cond.soleField "GorgeRocks$Deal" "buyerOffer")) else ((Jvm.Cond.lays "GorgeRocks$Deal" "GorgeRocks$Deal" "closedAt" "I"))
def xraw_1_1_0_3 (k : Nat) : Jvm.Cond := bif Nat.ble k 147 then ((Jvm.Cond.soleField "GorgeRocks$Deal" "closedAt")) else ((Jvm.Cond.lays "GorgeRocks$Deal" "GorgeRocks$Deal" "oddAt" "I"))
def xraw_1_1_0 (k : Nat) : Jvm.Cond := bif Nat.ble k 144 then (bif Nat.ble k 142 then (xraw_1_1_0_0 k) else (xraw_1_1_0_1 k)) else (bif Nat.ble k 146 then (xraw_1_1_0_2 k) else (xraw_1_1_0_3 k))
def xraw_1_1_1_0 (k : Nat) : Jvm.Cond := (Jvm.Cond.soleField "GorgeRocks$Deal" "oddAt")
def xraw_1_1_1_1 (k : Nat) : Jvm.Cond := bif Nat.ble k 150 then ((Jvm.Cond.lays "GorgeRocks$Deal" "GorgeRocks$Deal" "sellerHeard" "I")) else ((Jvm.Cond.soleField "GorgeRocks$Deal" "sellerHeard"))
def xraw_1_1_1_2 (k : Nat) : Jvm.Cond := bif Nat.ble k 152 then ((Jvm.Cond.lays "GorgeRocks$Deal" "GorgeRocks$Deal" "buyerHeard" "I")) else ((Jvm.Cond.soleField "GorgeRocks$Deal" "buyerHeard"))
def xraw_1_1_1_3 (k : Nat) : Jvm.Cond := bif Nat.ble k 154 then ((Jvm.Cond.superclass "GorgeRocks$Deal" "java/lang/Object")) else ((Jvm.Cond.classLink "GorgeRocks" (47 : Nat) "GorgeRocks$Speaker"))
def xraw_1_1_1 (k : Nat) : Jvm.Cond := bif Nat.ble k 151 then (bif Nat.ble k 149 then (xraw_1_1_1_0 k) else (xraw_1_1_1_1 k)) else (bif Nat.ble k 153 then (xraw_1_1_1_2 k) else (xraw_1_1_1_3 k))
def xraw_1_1_2_0 (k : Nat) : Jvm.Cond := (Jvm.Cond.instantiable "GorgeRocks$Speaker" (5 : Nat))
def xraw_1_1_2_1 (k : Nat) : Jvm.Cond := bif Nat.ble k 157 then ((Jvm.Cond.methodLinkNest "GorgeRocks" (49 : Nat) ({ cls := "GorgeRocks$Speaker", name := "<init>", desc := "()V" } : Jvm.MethodName) "GorgeRocks")) else ((Jvm.Cond.methodLink "GorgeRocks$Speaker" (3 : Nat) ({ cls := "java/lang/Object", name := "<init>", desc := "()V" } : Jvm.MethodName)))
def xraw_1_1_2_2 (k : Nat) : Jvm.Cond := bif Nat.ble k 159 then ((Jvm.Cond.classLink "GorgeRocks$Speaker" (9 : Nat) "GorgeRocks$Row")) else ((Jvm.Cond.laysFinal "GorgeRocks$Speaker" "GorgeRocks$Speaker" "trace" "LGorgeRocks$Row;"))
def xraw_1_1_2_3 (k : Nat) : Jvm.Cond := bif Nat.ble k 161 then ((Jvm.Cond.soleField "GorgeRocks$Speaker" "trace")) else ((Jvm.Cond.lays "GorgeRocks$Speaker" "GorgeRocks$Speaker" "parted" "Z"))
def xraw_1_1_2 (k : Nat) : Jvm.Cond := bif Nat.ble k 158 then (bif Nat.ble k 156 then (xraw_1_1_2_0 k) else (xraw_1_1_2_1 k)) else (bif Nat.ble k 160 then (xraw_1_1_2_2 k) else (xraw_1_1_2_3 k))
def xraw_1_1_3_0 (k : Nat) : Jvm.Cond := bif Nat.ble k 163 then ((Jvm.Cond.soleField "GorgeRocks$Speaker" "parted")) else ((Jvm.Cond.lays "GorgeRocks$Speaker" "GorgeRocks$Speaker" "kind" "I"))
def xraw_1_1_3_1 (k : Nat) : Jvm.Cond := bif Nat.ble k 165 then ((Jvm.Cond.soleField "GorgeRocks$Speaker" "kind")) else ((Jvm.Cond.lays "GorgeRocks$Speaker" "GorgeRocks$Speaker" "m" "I"))
def xraw_1_1_3_2 (k : Nat) : Jvm.Cond := bif Nat.ble k 167 then ((Jvm.Cond.soleField "GorgeRocks$Speaker" "m")) else ((Jvm.Cond.lays "GorgeRocks$Speaker" "GorgeRocks$Speaker" "k" "I"))
def xraw_1_1_3_3 (k : Nat) : Jvm.Cond := bif Nat.ble k 169 then ((Jvm.Cond.soleField "GorgeRocks$Speaker" "k")) else ((Jvm.Cond.superclass "GorgeRocks$Speaker" "java/lang/Object"))
def xraw_1_1_3 (k : Nat) : Jvm.Cond := bif Nat.ble k 166 then (bif Nat.ble k 164 then (xraw_1_1_3_0 k) else (xraw_1_1_3_1 k)) else (bif Nat.ble k 168 then (xraw_1_1_3_2 k) else (xraw_1_1_3_3 k))
def xraw_1_1 (k : Nat) : Jvm.Cond := bif Nat.ble k 155 then (bif Nat.ble k 148 then (xraw_1_1_0 k) else (xraw_1_1_1 k)) else (bif Nat.ble k 162 then (xraw_1_1_2 k) else (xraw_1_1_3 k))
def xraw_1_2_0_0 (k : Nat) : Jvm.Cond := (Jvm.Cond.classLink "GorgeRocks" (54 : Nat) "GorgeRocks$Sheet")
def xraw_1_2_0_1 (k : Nat) : Jvm.Cond := bif Nat.ble k 172 then ((Jvm.Cond.arrayOver (Jvm.ClassFile.FieldType.object "GorgeRocks$Sheet"))) else ((Jvm.Cond.classLink "GorgeRocks" (60 : Nat) "GorgeRocks$Row"))
def xraw_1_2_0_2 (k : Nat) : Jvm.Cond := bif Nat.ble k 174 then ((Jvm.Cond.instantiable "GorgeRocks$Sheet" (3 : Nat))) else ((Jvm.Cond.methodLinkNest "GorgeRocks" (90 : Nat) ({ cls := "GorgeRocks$Sheet", name := "<init>", desc := "()V" } : Jvm.MethodName) "GorgeRocks"))
def xraw_1_2_0_3 (k : Nat) : Jvm.Cond := bif Nat.ble k 176 then ((Jvm.Cond.methodLink "GorgeRocks$Sheet" (3 : Nat) ({ cls := "java/lang/Object", name := "<init>", desc := "()V" } : Jvm.MethodName))) else ((Jvm.Cond.laysFinal "GorgeRocks$Sheet" "GorgeRocks$Sheet" "numbers" "[I"))
def xraw_1_2_0 (k : Nat) : Jvm.Cond := bif Nat.ble k 173 then (bif Nat.ble k 171 then (xraw_1_2_0_0 k) else (xraw_1_2_0_1 k)) else (bif Nat.ble k 175 then (xraw_1_2_0_2 k) else (xraw_1_2_0_3 k))
def xraw_1_2_1_0 (k : Nat) : Jvm.Cond := (Jvm.Cond.soleField "GorgeRocks$Sheet" "numbers")
def xraw_1_2_1_1 (k : Nat) : Jvm.Cond := bif Nat.ble k 179 then ((Jvm.Cond.lays "GorgeRocks$Sheet" "GorgeRocks$Sheet" "bits" "I")) else ((Jvm.Cond.soleField "GorgeRocks$Sheet" "bits"))
def xraw_1_2_1_2 (k : Nat) : Jvm.Cond := bif Nat.ble k 181 then ((Jvm.Cond.lays "GorgeRocks$Sheet" "GorgeRocks$Sheet" "size" "I")) else ((Jvm.Cond.soleField "GorgeRocks$Sheet" "size"))
def xraw_1_2_1_3 (k : Nat) : Jvm.Cond := bif Nat.ble k 183 then ((Jvm.Cond.superclass "GorgeRocks$Sheet" "java/lang/Object")) else ((Jvm.Cond.laysFinal "GorgeRocks" "GorgeRocks" "world" "LGorgeRocks$World;"))
def xraw_1_2_1 (k : Nat) : Jvm.Cond := bif Nat.ble k 180 then (bif Nat.ble k 178 then (xraw_1_2_1_0 k) else (xraw_1_2_1_1 k)) else (bif Nat.ble k 182 then (xraw_1_2_1_2 k) else (xraw_1_2_1_3 k))
def xraw_1_2_2_0 (k : Nat) : Jvm.Cond := (Jvm.Cond.soleField "GorgeRocks" "world")
def xraw_1_2_2_1 (k : Nat) : Jvm.Cond := bif Nat.ble k 186 then ((Jvm.Cond.laysFinal "GorgeRocks" "GorgeRocks" "kept" "LGorgeRocks$World;")) else ((Jvm.Cond.soleField "GorgeRocks" "kept"))
def xraw_1_2_2_2 (k : Nat) : Jvm.Cond := bif Nat.ble k 188 then ((Jvm.Cond.laysFinal "GorgeRocks" "GorgeRocks" "reader" "LGorgeRocks$Reader;")) else ((Jvm.Cond.soleField "GorgeRocks" "reader"))
def xraw_1_2_2_3 (k : Nat) : Jvm.Cond := bif Nat.ble k 190 then ((Jvm.Cond.laysFinal "GorgeRocks" "GorgeRocks" "grammar" "LGorgeRocks$Grammar;")) else ((Jvm.Cond.soleField "GorgeRocks" "grammar"))
def xraw_1_2_2 (k : Nat) : Jvm.Cond := bif Nat.ble k 187 then (bif Nat.ble k 185 then (xraw_1_2_2_0 k) else (xraw_1_2_2_1 k)) else (bif Nat.ble k 189 then (xraw_1_2_2_2 k) else (xraw_1_2_2_3 k))
def xraw_1_2_3_0 (k : Nat) : Jvm.Cond := (Jvm.Cond.laysFinal "GorgeRocks" "GorgeRocks" "meanings" "LGorgeRocks$Meanings;")
def xraw_1_2_3_1 (k : Nat) : Jvm.Cond := bif Nat.ble k 193 then ((Jvm.Cond.soleField "GorgeRocks" "meanings")) else ((Jvm.Cond.laysFinal "GorgeRocks" "GorgeRocks" "deal" "LGorgeRocks$Deal;"))
def xraw_1_2_3_2 (k : Nat) : Jvm.Cond := bif Nat.ble k 195 then ((Jvm.Cond.soleField "GorgeRocks" "deal")) else ((Jvm.Cond.laysFinal "GorgeRocks" "GorgeRocks" "speaker" "LGorgeRocks$Speaker;"))
def xraw_1_2_3_3 (k : Nat) : Jvm.Cond := bif Nat.ble k 197 then ((Jvm.Cond.soleField "GorgeRocks" "speaker")) else ((Jvm.Cond.laysFinal "GorgeRocks" "GorgeRocks" "sheets" "[LGorgeRocks$Sheet;"))
def xraw_1_2_3 (k : Nat) : Jvm.Cond := bif Nat.ble k 194 then (bif Nat.ble k 192 then (xraw_1_2_3_0 k) else (xraw_1_2_3_1 k)) else (bif Nat.ble k 196 then (xraw_1_2_3_2 k) else (xraw_1_2_3_3 k))
def xraw_1_2 (k : Nat) : Jvm.Cond := bif Nat.ble k 184 then (bif Nat.ble k 177 then (xraw_1_2_0 k) else (xraw_1_2_1 k)) else (bif Nat.ble k 191 then (xraw_1_2_2 k) else (xraw_1_2_3 k))
def xraw_1_3_0_0 (k : Nat) : Jvm.Cond := (Jvm.Cond.soleField "GorgeRocks" "sheets")
def xraw_1_3_0_1 (k : Nat) : Jvm.Cond := bif Nat.ble k 200 then ((Jvm.Cond.laysFinal "GorgeRocks" "GorgeRocks" "firstWay" "LGorgeRocks$Row;")) else ((Jvm.Cond.soleField "GorgeRocks" "firstWay"))
def xraw_1_3_0_2 (k : Nat) : Jvm.Cond := bif Nat.ble k 202 then ((Jvm.Cond.laysFinal "GorgeRocks" "GorgeRocks" "secondWay" "LGorgeRocks$Row;")) else ((Jvm.Cond.soleField "GorgeRocks" "secondWay"))
def xraw_1_3_0_3 (k : Nat) : Jvm.Cond := bif Nat.ble k 204 then ((Jvm.Cond.laysFinal "GorgeRocks" "GorgeRocks" "firstRow" "LGorgeRocks$Row;")) else ((Jvm.Cond.soleField "GorgeRocks" "firstRow"))
def xraw_1_3_0 (k : Nat) : Jvm.Cond := bif Nat.ble k 201 then (bif Nat.ble k 199 then (xraw_1_3_0_0 k) else (xraw_1_3_0_1 k)) else (bif Nat.ble k 203 then (xraw_1_3_0_2 k) else (xraw_1_3_0_3 k))
def xraw_1_3_1_0 (k : Nat) : Jvm.Cond := (Jvm.Cond.laysFinal "GorgeRocks" "GorgeRocks" "secondRow" "LGorgeRocks$Row;")
def xraw_1_3_1_1 (k : Nat) : Jvm.Cond := bif Nat.ble k 207 then ((Jvm.Cond.soleField "GorgeRocks" "secondRow")) else ((Jvm.Cond.laysFinal "GorgeRocks" "GorgeRocks" "between" "[LGorgeRocks$Row;"))
def xraw_1_3_1_2 (k : Nat) : Jvm.Cond := bif Nat.ble k 209 then ((Jvm.Cond.soleField "GorgeRocks" "between")) else ((Jvm.Cond.laysFinal "GorgeRocks" "GorgeRocks" "errorCounts" "[I"))
def xraw_1_3_1_3 (k : Nat) : Jvm.Cond := bif Nat.ble k 211 then ((Jvm.Cond.soleField "GorgeRocks" "errorCounts")) else ((Jvm.Cond.lays "GorgeRocks" "GorgeRocks" "imageCount" "I"))
def xraw_1_3_1 (k : Nat) : Jvm.Cond := bif Nat.ble k 208 then (bif Nat.ble k 206 then (xraw_1_3_1_0 k) else (xraw_1_3_1_1 k)) else (bif Nat.ble k 210 then (xraw_1_3_1_2 k) else (xraw_1_3_1_3 k))
def xraw_1_3_2_0 (k : Nat) : Jvm.Cond := (Jvm.Cond.soleField "GorgeRocks" "imageCount")
def xraw_1_3_2_1 (k : Nat) : Jvm.Cond := bif Nat.ble k 214 then ((Jvm.Cond.superclass "GorgeRocks" "java/lang/Object")) else ((Jvm.Cond.privateMethod ({ cls := "GorgeRocks", name := "error", desc := "(I)I" } : Jvm.MethodName)))
def xraw_1_3_2_2 (k : Nat) : Jvm.Cond := bif Nat.ble k 216 then ((Jvm.Cond.constant "GorgeRocks" (358 : Nat) (-1000000 : Int32))) else ((Jvm.Cond.privateMethod ({ cls := "GorgeRocks", name := "isCall", desc := "(I)Z" } : Jvm.MethodName)))
def xraw_1_3_2_3 (k : Nat) : Jvm.Cond := bif Nat.ble k 218 then ((Jvm.Cond.privateMethod ({ cls := "GorgeRocks", name := "soundOrSize", desc := "(LGorgeRocks$Row;I)I" } : Jvm.MethodName))) else ((Jvm.Cond.constant "GorgeRocks$World" (90 : Nat) (1103515245 : Int32)))
def xraw_1_3_2 (k : Nat) : Jvm.Cond := bif Nat.ble k 215 then (bif Nat.ble k 213 then (xraw_1_3_2_0 k) else (xraw_1_3_2_1 k)) else (bif Nat.ble k 217 then (xraw_1_3_2_2 k) else (xraw_1_3_2_3 k))
def xraw_1_3_3_0 (k : Nat) : Jvm.Cond := bif Nat.ble k 220 then ((Jvm.Cond.methodLinkNest "GorgeRocks$Row" (36 : Nat) ({ cls := "GorgeRocks", name := "contraryOf", desc := "(I)I" } : Jvm.MethodName) "GorgeRocks")) else ((Jvm.Cond.privateMethod ({ cls := "GorgeRocks", name := "isRock", desc := "(I)Z" } : Jvm.MethodName)))
def xraw_1_3_3_1 (k : Nat) : Jvm.Cond := bif Nat.ble k 222 then ((Jvm.Cond.fieldLink "GorgeRocks" (359 : Nat) "GorgeRocks" "ABOVE" "[I")) else ((Jvm.Cond.laysStatic "GorgeRocks" "ABOVE" "[I"))
def xraw_1_3_3_2 (k : Nat) : Jvm.Cond := bif Nat.ble k 224 then ((Jvm.Cond.stringRef "GorgeRocks" (181 : Nat) "sinm")) else ((Jvm.Cond.stringRef "GorgeRocks" (183 : Nat) "ohbt"))
def xraw_1_3_3_3 (k : Nat) : Jvm.Cond := bif Nat.ble k 226 then ((Jvm.Cond.privateMethod ({ cls := "GorgeRocks$Reader", name := "readLevel", desc := "(II)Z" } : Jvm.MethodName))) else ((Jvm.Cond.privateMethod ({ cls := "GorgeRocks$Reader", name := "readQ", desc := "(I)Z" } : Jvm.MethodName)))
def xraw_1_3_3 (k : Nat) : Jvm.Cond := bif Nat.ble k 223 then (bif Nat.ble k 221 then (xraw_1_3_3_0 k) else (xraw_1_3_3_1 k)) else (bif Nat.ble k 225 then (xraw_1_3_3_2 k) else (xraw_1_3_3_3 k))
def xraw_1_3 (k : Nat) : Jvm.Cond := bif Nat.ble k 212 then (bif Nat.ble k 205 then (xraw_1_3_0 k) else (xraw_1_3_1 k)) else (bif Nat.ble k 219 then (xraw_1_3_2 k) else (xraw_1_3_3 k))
def xraw_1 (k : Nat) : Jvm.Cond := bif Nat.ble k 170 then (bif Nat.ble k 141 then (xraw_1_0 k) else (xraw_1_1 k)) else (bif Nat.ble k 198 then (xraw_1_2 k) else (xraw_1_3 k))
def xraw_2_0_0_0 (k : Nat) : Jvm.Cond := (Jvm.Cond.privateMethod ({ cls := "GorgeRocks$Reader", name := "next", desc := "()I" } : Jvm.MethodName))
def xraw_2_0_0_1 (k : Nat) : Jvm.Cond := bif Nat.ble k 229 then ((Jvm.Cond.privateMethod ({ cls := "GorgeRocks$Reader", name := "readNumber", desc := "()V" } : Jvm.MethodName))) else ((Jvm.Cond.methodLink "GorgeRocks$Reader" (70 : Nat) ({ cls := "java/lang/String", name := "indexOf", desc := "(I)I" } : Jvm.MethodName)))
def xraw_2_0_0_2 (k : Nat) : Jvm.Cond := bif Nat.ble k 231 then ((Jvm.Cond.instanceMethod ({ cls := "java/lang/String", name := "indexOf", desc := "(I)I" } : Jvm.MethodName))) else ((Jvm.Cond.selects "java/lang/String" ({ cls := "java/lang/String", name := "indexOf", desc := "(I)I" } : Jvm.MethodName) ({ cls := "java/lang/String", name := "indexOf", desc := "(I)I" } : Jvm.MethodName)))
def xraw_2_0_0_3 (k : Nat) : Jvm.Cond := bif Nat.ble k 233 then ((Jvm.Cond.code ({ cls := "java/lang/String", name := "indexOf", desc := "(I)I" } : Jvm.MethodName) prog_18_method_79_code (2 : Nat) (Option.some Jvm.ClassFile.FieldType.int))) else ((Jvm.Cond.methodLink "java/lang/String" (633 : Nat) ({ cls := "java/lang/String", name := "indexOf", desc := "(II)I" } : Jvm.MethodName)))
def xraw_2_0_0 (k : Nat) : Jvm.Cond := bif Nat.ble k 230 then (bif Nat.ble k 228 then (xraw_2_0_0_0 k) else (xraw_2_0_0_1 k)) else (bif Nat.ble k 232 then (xraw_2_0_0_2 k) else (xraw_2_0_0_3 k))
def xraw_2_0_1_0 (k : Nat) : Jvm.Cond := (Jvm.Cond.instanceMethod ({ cls := "java/lang/String", name := "indexOf", desc := "(II)I" } : Jvm.MethodName))
def xraw_2_0_1_1 (k : Nat) : Jvm.Cond := bif Nat.ble k 236 then ((Jvm.Cond.selects "java/lang/String" ({ cls := "java/lang/String", name := "indexOf", desc := "(II)I" } : Jvm.MethodName) ({ cls := "java/lang/String", name := "indexOf", desc := "(II)I" } : Jvm.MethodName))) else ((Jvm.Cond.code ({ cls := "java/lang/String", name := "indexOf", desc := "(II)I" } : Jvm.MethodName) prog_18_method_80_code (3 : Nat) (Option.some Jvm.ClassFile.FieldType.int)))
def xraw_2_0_1_2 (k : Nat) : Jvm.Cond := bif Nat.ble k 238 then ((Jvm.Cond.methodLink "java/lang/String" (492 : Nat) ({ cls := "java/lang/String", name := "isLatin1", desc := "()Z" } : Jvm.MethodName))) else ((Jvm.Cond.instanceMethod ({ cls := "java/lang/String", name := "isLatin1", desc := "()Z" } : Jvm.MethodName)))
def xraw_2_0_1_3 (k : Nat) : Jvm.Cond := bif Nat.ble k 240 then ((Jvm.Cond.selects "java/lang/String" ({ cls := "java/lang/String", name := "isLatin1", desc := "()Z" } : Jvm.MethodName) ({ cls := "java/lang/String", name := "isLatin1", desc := "()Z" } : Jvm.MethodName))) else ((Jvm.Cond.code ({ cls := "java/lang/String", name := "isLatin1", desc := "()Z" } : Jvm.MethodName) prog_18_method_154_code (1 : Nat) (Option.some Jvm.ClassFile.FieldType.boolean)))
def xraw_2_0_1 (k : Nat) : Jvm.Cond := bif Nat.ble k 237 then (bif Nat.ble k 235 then (xraw_2_0_1_0 k) else (xraw_2_0_1_1 k)) else (bif Nat.ble k 239 then (xraw_2_0_1_2 k) else (xraw_2_0_1_3 k))
def xraw_2_0_2_0 (k : Nat) : Jvm.Cond := (Jvm.Cond.fieldLink "java/lang/String" (38 : Nat) "java/lang/String" "COMPACT_STRINGS" "Z")
def xraw_2_0_2_1 (k : Nat) : Jvm.Cond := bif Nat.ble k 243 then ((Jvm.Cond.laysStatic "java/lang/String" "COMPACT_STRINGS" "Z")) else ((Jvm.Cond.methodLink "java/lang/String" (505 : Nat) ({ cls := "java/lang/String", name := "length", desc := "()I" } : Jvm.MethodName)))
def xraw_2_0_2_2 (k : Nat) : Jvm.Cond := bif Nat.ble k 245 then ((Jvm.Cond.instanceMethod ({ cls := "java/lang/String", name := "length", desc := "()I" } : Jvm.MethodName))) else ((Jvm.Cond.selects "java/lang/String" ({ cls := "java/lang/String", name := "length", desc := "()I" } : Jvm.MethodName) ({ cls := "java/lang/String", name := "length", desc := "()I" } : Jvm.MethodName)))
def xraw_2_0_2_3 (k : Nat) : Jvm.Cond := bif Nat.ble k 247 then ((Jvm.Cond.code ({ cls := "java/lang/String", name := "length", desc := "()I" } : Jvm.MethodName) prog_18_method_54_code (1 : Nat) (Option.some Jvm.ClassFile.FieldType.int))) else ((Jvm.Cond.methodLink "java/lang/String" (335 : Nat) ({ cls := "java/lang/String", name := "coder", desc := "()B" } : Jvm.MethodName)))
def xraw_2_0_2 (k : Nat) : Jvm.Cond := bif Nat.ble k 244 then (bif Nat.ble k 242 then (xraw_2_0_2_0 k) else (xraw_2_0_2_1 k)) else (bif Nat.ble k 246 then (xraw_2_0_2_2 k) else (xraw_2_0_2_3 k))
def xraw_2_0_3_0 (k : Nat) : Jvm.Cond := (Jvm.Cond.instanceMethod ({ cls := "java/lang/String", name := "coder", desc := "()B" } : Jvm.MethodName))
def xraw_2_0_3_1 (k : Nat) : Jvm.Cond := bif Nat.ble k 250 then ((Jvm.Cond.selects "java/lang/String" ({ cls := "java/lang/String", name := "coder", desc := "()B" } : Jvm.MethodName) ({ cls := "java/lang/String", name := "coder", desc := "()B" } : Jvm.MethodName))) else ((Jvm.Cond.code ({ cls := "java/lang/String", name := "coder", desc := "()B" } : Jvm.MethodName) prog_18_method_152_code (1 : Nat) (Option.some Jvm.ClassFile.FieldType.byte)))
def xraw_2_0_3_2 (k : Nat) : Jvm.Cond := bif Nat.ble k 252 then ((Jvm.Cond.methodLink "java/lang/String" (637 : Nat) ({ cls := "java/lang/StringLatin1", name := "indexOf", desc := "([BIII)I" } : Jvm.MethodName))) else ((Jvm.Cond.static ({ cls := "java/lang/StringLatin1", name := "indexOf", desc := "([BIII)I" } : Jvm.MethodName)))
def xraw_2_0_3_3 (k : Nat) : Jvm.Cond := bif Nat.ble k 254 then ((Jvm.Cond.code ({ cls := "java/lang/StringLatin1", name := "indexOf", desc := "([BIII)I" } : Jvm.MethodName) prog_19_method_22_code (4 : Nat) (Option.some Jvm.ClassFile.FieldType.int))) else ((Jvm.Cond.methodLink "java/lang/StringLatin1" (88 : Nat) ({ cls := "java/lang/StringLatin1", name := "canEncode", desc := "(I)Z" } : Jvm.MethodName)))
def xraw_2_0_3 (k : Nat) : Jvm.Cond := bif Nat.ble k 251 then (bif Nat.ble k 249 then (xraw_2_0_3_0 k) else (xraw_2_0_3_1 k)) else (bif Nat.ble k 253 then (xraw_2_0_3_2 k) else (xraw_2_0_3_3 k))
def xraw_2_0 (k : Nat) : Jvm.Cond := bif Nat.ble k 241 then (bif Nat.ble k 234 then (xraw_2_0_0 k) else (xraw_2_0_1 k)) else (bif Nat.ble k 248 then (xraw_2_0_2 k) else (xraw_2_0_3 k))
def xraw_2_1_0_0 (k : Nat) : Jvm.Cond := (Jvm.Cond.static ({ cls := "java/lang/StringLatin1", name := "canEncode", desc := "(I)Z" } : Jvm.MethodName))
def xraw_2_1_0_1 (k : Nat) : Jvm.Cond := bif Nat.ble k 257 then ((Jvm.Cond.code ({ cls := "java/lang/StringLatin1", name := "canEncode", desc := "(I)Z" } : Jvm.MethodName) prog_19_method_4_code (1 : Nat) (Option.some Jvm.ClassFile.FieldType.boolean))) else ((Jvm.Cond.methodLink "java/lang/StringLatin1" (92 : Nat) ({ cls := "java/lang/Math", name := "max", desc := "(II)I" } : Jvm.MethodName)))
def xraw_2_1_0_2 (k : Nat) : Jvm.Cond := bif Nat.ble k 259 then ((Jvm.Cond.methodLink "java/lang/StringLatin1" (38 : Nat) ({ cls := "java/lang/Math", name := "min", desc := "(II)I" } : Jvm.MethodName))) else ((Jvm.Cond.static ({ cls := "java/lang/Math", name := "min", desc := "(II)I" } : Jvm.MethodName)))
def xraw_2_1_0_3 (k : Nat) : Jvm.Cond := bif Nat.ble k 261 then ((Jvm.Cond.code ({ cls := "java/lang/Math", name := "min", desc := "(II)I" } : Jvm.MethodName) prog_17_method_69_code (2 : Nat) (Option.some Jvm.ClassFile.FieldType.int))) else ((Jvm.Cond.methodLink "java/lang/StringLatin1" (95 : Nat) ({ cls := "java/lang/StringLatin1", name := "indexOfChar", desc := "([BIII)I" } : Jvm.MethodName)))
def xraw_2_1_0 (k : Nat) : Jvm.Cond := bif Nat.ble k 258 then (bif Nat.ble k 256 then (xraw_2_1_0_0 k) else (xraw_2_1_0_1 k)) else (bif Nat.ble k 260 then (xraw_2_1_0_2 k) else (xraw_2_1_0_3 k))
def xraw_2_1_1_0 (k : Nat) : Jvm.Cond := (Jvm.Cond.static ({ cls := "java/lang/StringLatin1", name := "indexOfChar", desc := "([BIII)I" } : Jvm.MethodName))
def xraw_2_1_1_1 (k : Nat) : Jvm.Cond := bif Nat.ble k 264 then ((Jvm.Cond.code ({ cls := "java/lang/StringLatin1", name := "indexOfChar", desc := "([BIII)I" } : Jvm.MethodName) prog_19_method_23_code (6 : Nat) (Option.some Jvm.ClassFile.FieldType.int))) else ((Jvm.Cond.methodLink "java/lang/String" (640 : Nat) ({ cls := "java/lang/StringUTF16", name := "indexOf", desc := "([BIII)I" } : Jvm.MethodName)))
def xraw_2_1_1_2 (k : Nat) : Jvm.Cond := bif Nat.ble k 266 then ((Jvm.Cond.static ({ cls := "java/lang/StringUTF16", name := "indexOf", desc := "([BIII)I" } : Jvm.MethodName))) else ((Jvm.Cond.code ({ cls := "java/lang/StringUTF16", name := "indexOf", desc := "([BIII)I" } : Jvm.MethodName) prog_20_method_40_code (4 : Nat) (Option.some Jvm.ClassFile.FieldType.int)))
def xraw_2_1_1_3 (k : Nat) : Jvm.Cond := bif Nat.ble k 268 then ((Jvm.Cond.methodLink "java/lang/StringUTF16" (224 : Nat) ({ cls := "java/lang/Math", name := "max", desc := "(II)I" } : Jvm.MethodName))) else ((Jvm.Cond.methodLink "java/lang/StringUTF16" (183 : Nat) ({ cls := "java/lang/Math", name := "min", desc := "(II)I" } : Jvm.MethodName)))
def xraw_2_1_1 (k : Nat) : Jvm.Cond := bif Nat.ble k 265 then (bif Nat.ble k 263 then (xraw_2_1_1_0 k) else (xraw_2_1_1_1 k)) else (bif Nat.ble k 267 then (xraw_2_1_1_2 k) else (xraw_2_1_1_3 k))
def xraw_2_1_2_0 (k : Nat) : Jvm.Cond := (Jvm.Cond.constant "java/lang/StringUTF16" (227 : Nat) (65536 : Int32))
def xraw_2_1_2_1 (k : Nat) : Jvm.Cond := bif Nat.ble k 271 then ((Jvm.Cond.methodLink "java/lang/StringUTF16" (228 : Nat) ({ cls := "java/lang/StringUTF16", name := "indexOfChar", desc := "([BIII)I" } : Jvm.MethodName))) else ((Jvm.Cond.static ({ cls := "java/lang/StringUTF16", name := "indexOfChar", desc := "([BIII)I" } : Jvm.MethodName)))
def xraw_2_1_2_2 (k : Nat) : Jvm.Cond := bif Nat.ble k 273 then ((Jvm.Cond.code ({ cls := "java/lang/StringUTF16", name := "indexOfChar", desc := "([BIII)I" } : Jvm.MethodName) prog_20_method_47_code (4 : Nat) (Option.some Jvm.ClassFile.FieldType.int))) else ((Jvm.Cond.methodLink "java/lang/StringUTF16" (96 : Nat) ({ cls := "java/lang/StringUTF16", name := "checkBoundsBeginEnd", desc := "(II[B)V" } : Jvm.MethodName)))
def xraw_2_1_2_3 (k : Nat) : Jvm.Cond := bif Nat.ble k 275 then ((Jvm.Cond.static ({ cls := "java/lang/StringUTF16", name := "checkBoundsBeginEnd", desc := "(II[B)V" } : Jvm.MethodName))) else ((Jvm.Cond.code ({ cls := "java/lang/StringUTF16", name := "checkBoundsBeginEnd", desc := "(II[B)V" } : Jvm.MethodName) prog_20_method_93_code (3 : Nat) (Option.none : Option Jvm.ClassFile.FieldType)))
def xraw_2_1_2 (k : Nat) : Jvm.Cond := bif Nat.ble k 272 then (bif Nat.ble k 270 then (xraw_2_1_2_0 k) else (xraw_2_1_2_1 k)) else (bif Nat.ble k 274 then (xraw_2_1_2_2 k) else (xraw_2_1_2_3 k))
def xraw_2_1_3_0 (k : Nat) : Jvm.Cond := bif Nat.ble k 277 then ((Jvm.Cond.methodLink "java/lang/StringUTF16" (48 : Nat) ({ cls := "java/lang/StringUTF16", name := "length", desc := "([B)I" } : Jvm.MethodName))) else ((Jvm.Cond.static ({ cls := "java/lang/StringUTF16", name := "length", desc := "([B)I" } : Jvm.MethodName)))
def xraw_2_1_3_1 (k : Nat) : Jvm.Cond := bif Nat.ble k 279 then ((Jvm.Cond.code ({ cls := "java/lang/StringUTF16", name := "length", desc := "([B)I" } : Jvm.MethodName) prog_20_method_6_code (1 : Nat) (Option.some Jvm.ClassFile.FieldType.int))) else ((Jvm.Cond.methodLink "java/lang/StringUTF16" (241 : Nat) ({ cls := "java/lang/String", name := "checkBoundsBeginEnd", desc := "(III)V" } : Jvm.MethodName)))
def xraw_2_1_3_2 (k : Nat) : Jvm.Cond := bif Nat.ble k 281 then ((Jvm.Cond.static ({ cls := "java/lang/String", name := "checkBoundsBeginEnd", desc := "(III)V" } : Jvm.MethodName))) else ((Jvm.Cond.code ({ cls := "java/lang/String", name := "checkBoundsBeginEnd", desc := "(III)V" } : Jvm.MethodName) prog_18_method_158_code (3 : Nat) (Option.none : Option Jvm.ClassFile.FieldType)))
def xraw_2_1_3_3 (k : Nat) : Jvm.Cond := bif Nat.ble k 283 then ((Jvm.Cond.fieldLink "java/lang/String" (1053 : Nat) "jdk/internal/util/Preconditions" "SIOOBE_FORMATTER" "Ljava/util/function/BiFunction;")) else ((Jvm.Cond.laysStatic "jdk/internal/util/Preconditions" "SIOOBE_FORMATTER" "Ljava/util/function/BiFunction;"))
def xraw_2_1_3 (k : Nat) : Jvm.Cond := bif Nat.ble k 280 then (bif Nat.ble k 278 then (xraw_2_1_3_0 k) else (xraw_2_1_3_1 k)) else (bif Nat.ble k 282 then (xraw_2_1_3_2 k) else (xraw_2_1_3_3 k))
def xraw_2_1 (k : Nat) : Jvm.Cond := bif Nat.ble k 269 then (bif Nat.ble k 262 then (xraw_2_1_0 k) else (xraw_2_1_1 k)) else (bif Nat.ble k 276 then (xraw_2_1_2 k) else (xraw_2_1_3 k))
def xraw_2_2_0_0 (k : Nat) : Jvm.Cond := (Jvm.Cond.methodLink "java/lang/String" (1062 : Nat) ({ cls := "jdk/internal/util/Preconditions", name := "checkFromToIndex", desc := "(IIILjava/util/function/BiFunction;)I" } : Jvm.MethodName))
def xraw_2_2_0_1 (k : Nat) : Jvm.Cond := bif Nat.ble k 286 then ((Jvm.Cond.static ({ cls := "jdk/internal/util/Preconditions", name := "checkFromToIndex", desc := "(IIILjava/util/function/BiFunction;)I" } : Jvm.MethodName))) else ((Jvm.Cond.code ({ cls := "jdk/internal/util/Preconditions", name := "checkFromToIndex", desc := "(IIILjava/util/function/BiFunction;)I" } : Jvm.MethodName) prog_22_method_12_code (4 : Nat) (Option.some Jvm.ClassFile.FieldType.int)))
def xraw_2_2_0_2 (k : Nat) : Jvm.Cond := bif Nat.ble k 288 then ((Jvm.Cond.methodLink "java/lang/StringUTF16" (244 : Nat) ({ cls := "java/lang/StringUTF16", name := "indexOfCharUnsafe", desc := "([BIII)I" } : Jvm.MethodName))) else ((Jvm.Cond.static ({ cls := "java/lang/StringUTF16", name := "indexOfCharUnsafe", desc := "([BIII)I" } : Jvm.MethodName)))
def xraw_2_2_0_3 (k : Nat) : Jvm.Cond := bif Nat.ble k 290 then ((Jvm.Cond.code ({ cls := "java/lang/StringUTF16", name := "indexOfCharUnsafe", desc := "([BIII)I" } : Jvm.MethodName) prog_20_method_48_code (5 : Nat) (Option.some Jvm.ClassFile.FieldType.int))) else ((Jvm.Cond.methodLink "java/lang/StringUTF16" (71 : Nat) ({ cls := "java/lang/StringUTF16", name := "getChar", desc := "([BI)C" } : Jvm.MethodName)))
def xraw_2_2_0 (k : Nat) : Jvm.Cond := bif Nat.ble k 287 then (bif Nat.ble k 285 then (xraw_2_2_0_0 k) else (xraw_2_2_0_1 k)) else (bif Nat.ble k 289 then (xraw_2_2_0_2 k) else (xraw_2_2_0_3 k))
def xraw_2_2_1_0 (k : Nat) : Jvm.Cond := (Jvm.Cond.static ({ cls := "java/lang/StringUTF16", name := "getChar", desc := "([BI)C" } : Jvm.MethodName))
def xraw_2_2_1_1 (k : Nat) : Jvm.Cond := bif Nat.ble k 293 then ((Jvm.Cond.code ({ cls := "java/lang/StringUTF16", name := "getChar", desc := "([BI)C" } : Jvm.MethodName) prog_20_method_5_code (2 : Nat) (Option.some Jvm.ClassFile.FieldType.char))) else ((Jvm.Cond.fieldLink "java/lang/StringUTF16" (44 : Nat) "java/lang/StringUTF16" "$assertionsDisabled" "Z"))
def xraw_2_2_1_2 (k : Nat) : Jvm.Cond := bif Nat.ble k 295 then ((Jvm.Cond.laysStatic "java/lang/StringUTF16" "$assertionsDisabled" "Z")) else ((Jvm.Cond.fieldLink "java/lang/StringUTF16" (59 : Nat) "java/lang/StringUTF16" "HI_BYTE_SHIFT" "I"))
def xraw_2_2_1_3 (k : Nat) : Jvm.Cond := bif Nat.ble k 297 then ((Jvm.Cond.laysStatic "java/lang/StringUTF16" "HI_BYTE_SHIFT" "I")) else ((Jvm.Cond.fieldLink "java/lang/StringUTF16" (63 : Nat) "java/lang/StringUTF16" "LO_BYTE_SHIFT" "I"))
def xraw_2_2_1 (k : Nat) : Jvm.Cond := bif Nat.ble k 294 then (bif Nat.ble k 292 then (xraw_2_2_1_0 k) else (xraw_2_2_1_1 k)) else (bif Nat.ble k 296 then (xraw_2_2_1_2 k) else (xraw_2_2_1_3 k))
def xraw_2_2_2_0 (k : Nat) : Jvm.Cond := (Jvm.Cond.laysStatic "java/lang/StringUTF16" "LO_BYTE_SHIFT" "I")
def xraw_2_2_2_1 (k : Nat) : Jvm.Cond := bif Nat.ble k 300 then ((Jvm.Cond.methodLink "java/lang/StringUTF16" (232 : Nat) ({ cls := "java/lang/StringUTF16", name := "indexOfSupplementary", desc := "([BIII)I" } : Jvm.MethodName))) else ((Jvm.Cond.static ({ cls := "java/lang/StringUTF16", name := "indexOfSupplementary", desc := "([BIII)I" } : Jvm.MethodName)))
def xraw_2_2_2_2 (k : Nat) : Jvm.Cond := bif Nat.ble k 302 then ((Jvm.Cond.code ({ cls := "java/lang/StringUTF16", name := "indexOfSupplementary", desc := "([BIII)I" } : Jvm.MethodName) prog_20_method_49_code (7 : Nat) (Option.some Jvm.ClassFile.FieldType.int))) else ((Jvm.Cond.methodLink "java/lang/StringUTF16" (164 : Nat) ({ cls := "java/lang/Character", name := "isValidCodePoint", desc := "(I)Z" } : Jvm.MethodName)))
def xraw_2_2_2_3 (k : Nat) : Jvm.Cond := bif Nat.ble k 304 then ((Jvm.Cond.static ({ cls := "java/lang/Character", name := "isValidCodePoint", desc := "(I)Z" } : Jvm.MethodName))) else ((Jvm.Cond.code ({ cls := "java/lang/Character", name := "isValidCodePoint", desc := "(I)Z" } : Jvm.MethodName) prog_15_method_11_code (2 : Nat) (Option.some Jvm.ClassFile.FieldType.boolean)))
def xraw_2_2_2 (k : Nat) : Jvm.Cond := bif Nat.ble k 301 then (bif Nat.ble k 299 then (xraw_2_2_2_0 k) else (xraw_2_2_2_1 k)) else (bif Nat.ble k 303 then (xraw_2_2_2_2 k) else (xraw_2_2_2_3 k))
def xraw_2_2_3_0 (k : Nat) : Jvm.Cond := (Jvm.Cond.methodLink "java/lang/StringUTF16" (157 : Nat) ({ cls := "java/lang/Character", name := "highSurrogate", desc := "(I)C" } : Jvm.MethodName))
def xraw_2_2_3_1 (k : Nat) : Jvm.Cond := bif Nat.ble k 307 then ((Jvm.Cond.static ({ cls := "java/lang/Character", name := "highSurrogate", desc := "(I)C" } : Jvm.MethodName))) else ((Jvm.Cond.code ({ cls := "java/lang/Character", name := "highSurrogate", desc := "(I)C" } : Jvm.MethodName) prog_15_method_28_code (1 : Nat) (Option.some Jvm.ClassFile.FieldType.char)))
def xraw_2_2_3_2 (k : Nat) : Jvm.Cond := bif Nat.ble k 309 then ((Jvm.Cond.constant "java/lang/Character" (110 : Nat) (55232 : Int32))) else ((Jvm.Cond.methodLink "java/lang/StringUTF16" (161 : Nat) ({ cls := "java/lang/Character", name := "lowSurrogate", desc := "(I)C" } : Jvm.MethodName)))
def xraw_2_2_3_3 (k : Nat) : Jvm.Cond := bif Nat.ble k 311 then ((Jvm.Cond.static ({ cls := "java/lang/Character", name := "lowSurrogate", desc := "(I)C" } : Jvm.MethodName))) else ((Jvm.Cond.code ({ cls := "java/lang/Character", name := "lowSurrogate", desc := "(I)C" } : Jvm.MethodName) prog_15_method_29_code (1 : Nat) (Option.some Jvm.ClassFile.FieldType.char)))
def xraw_2_2_3 (k : Nat) : Jvm.Cond := bif Nat.ble k 308 then (bif Nat.ble k 306 then (xraw_2_2_3_0 k) else (xraw_2_2_3_1 k)) else (bif Nat.ble k 310 then (xraw_2_2_3_2 k) else (xraw_2_2_3_3 k))
def xraw_2_2 (k : Nat) : Jvm.Cond := bif Nat.ble k 298 then (bif Nat.ble k 291 then (xraw_2_2_0 k) else (xraw_2_2_1 k)) else (bif Nat.ble k 305 then (xraw_2_2_2 k) else (xraw_2_2_3 k))
def xraw_2_3_0_0 (k : Nat) : Jvm.Cond := (Jvm.Cond.constant "java/lang/Character" (76 : Nat) (56320 : Int32))
def xraw_2_3_0_1 (k : Nat) : Jvm.Cond := bif Nat.ble k 314 then ((Jvm.Cond.privateMethod ({ cls := "GorgeRocks$Reader", name := "readDenied", desc := "(I)Z" } : Jvm.MethodName))) else ((Jvm.Cond.privateMethod ({ cls := "GorgeRocks$Reader", name := "readEnclosed", desc := "(I)Z" } : Jvm.MethodName)))
def xraw_2_3_0_2 (k : Nat) : Jvm.Cond := bif Nat.ble k 316 then ((Jvm.Cond.methodLink "GorgeRocks$Row" (23 : Nat) ({ cls := "java/lang/Math", name := "min", desc := "(II)I" } : Jvm.MethodName))) else ((Jvm.Cond.methodLink "GorgeRocks$Row" (26 : Nat) ({ cls := "java/lang/System", name := "arraycopy", desc := "(Ljava/lang/Object;ILjava/lang/Object;II)V" } : Jvm.MethodName)))
def xraw_2_3_0_3 (k : Nat) : Jvm.Cond := bif Nat.ble k 318 then ((Jvm.Cond.static ({ cls := "java/lang/System", name := "arraycopy", desc := "(Ljava/lang/Object;ILjava/lang/Object;II)V" } : Jvm.MethodName))) else ((Jvm.Cond.native ({ cls := "java/lang/System", name := "arraycopy", desc := "(Ljava/lang/Object;ILjava/lang/Object;II)V" } : Jvm.MethodName)))
def xraw_2_3_0 (k : Nat) : Jvm.Cond := bif Nat.ble k 315 then (bif Nat.ble k 313 then (xraw_2_3_0_0 k) else (xraw_2_3_0_1 k)) else (bif Nat.ble k 317 then (xraw_2_3_0_2 k) else (xraw_2_3_0_3 k))
def xraw_2_3_1_0 (k : Nat) : Jvm.Cond := (Jvm.Cond.methodLinkNest "GorgeRocks$Row" (42 : Nat) ({ cls := "GorgeRocks", name := "isNumber", desc := "(I)Z" } : Jvm.MethodName) "GorgeRocks")
def xraw_2_3_1_1 (k : Nat) : Jvm.Cond := bif Nat.ble k 321 then ((Jvm.Cond.privateMethod ({ cls := "GorgeRocks$World", name := "turnByText", desc := "(LGorgeRocks$Row;I)V" } : Jvm.MethodName))) else ((Jvm.Cond.methodLinkNest "GorgeRocks$World" (135 : Nat) ({ cls := "GorgeRocks", name := "soundOr60", desc := "(I)I" } : Jvm.MethodName) "GorgeRocks"))
def xraw_2_3_1_2 (k : Nat) : Jvm.Cond := bif Nat.ble k 323 then ((Jvm.Cond.privateMethod ({ cls := "GorgeRocks", name := "rocksThatMake", desc := "(LGorgeRocks$Row;LGorgeRocks$Row;)I" } : Jvm.MethodName))) else ((Jvm.Cond.privateMethod ({ cls := "GorgeRocks", name := "waysTo", desc := "(LGorgeRocks$Row;LGorgeRocks$Row;I)I" } : Jvm.MethodName)))
def xraw_2_3_1_3 (k : Nat) : Jvm.Cond := bif Nat.ble k 325 then ((Jvm.Cond.privateMethod ({ cls := "GorgeRocks$Meanings", name := "addIfUnlike", desc := "(LGorgeRocks$Row;)V" } : Jvm.MethodName))) else ((Jvm.Cond.privateMethod ({ cls := "GorgeRocks$Meanings", name := "addUndone", desc := "(LGorgeRocks$World;LGorgeRocks$Row;)V" } : Jvm.MethodName)))
def xraw_2_3_1 (k : Nat) : Jvm.Cond := bif Nat.ble k 322 then (bif Nat.ble k 320 then (xraw_2_3_1_0 k) else (xraw_2_3_1_1 k)) else (bif Nat.ble k 324 then (xraw_2_3_1_2 k) else (xraw_2_3_1_3 k))
def xraw_2_3_2_0 (k : Nat) : Jvm.Cond := (Jvm.Cond.constantLong "java/lang/Long" (314 : Nat) (6148914691236517205 : Int64))
def xraw_2_3_2_1 (k : Nat) : Jvm.Cond := bif Nat.ble k 328 then ((Jvm.Cond.constantLong "java/lang/Long" (316 : Nat) (3689348814741910323 : Int64))) else ((Jvm.Cond.constantLong "java/lang/Long" (318 : Nat) (1085102592571150095 : Int64)))
def xraw_2_3_2_2 (k : Nat) : Jvm.Cond := bif Nat.ble k 330 then ((Jvm.Cond.methodLinkNest "GorgeRocks$Grammar" (34 : Nat) ({ cls := "GorgeRocks", name := "isNumber", desc := "(I)Z" } : Jvm.MethodName) "GorgeRocks")) else ((Jvm.Cond.constant "GorgeRocks" (256 : Nat) (1048575 : Int32)))
def xraw_2_3_2_3 (k : Nat) : Jvm.Cond := bif Nat.ble k 332 then ((Jvm.Cond.privateMethod ({ cls := "GorgeRocks$Grammar", name := "isTermSo", desc := "(I)Z" } : Jvm.MethodName))) else ((Jvm.Cond.privateMethod ({ cls := "GorgeRocks$Grammar", name := "next", desc := "()I" } : Jvm.MethodName)))
def xraw_2_3_2 (k : Nat) : Jvm.Cond := bif Nat.ble k 329 then (bif Nat.ble k 327 then (xraw_2_3_2_0 k) else (xraw_2_3_2_1 k)) else (bif Nat.ble k 331 then (xraw_2_3_2_2 k) else (xraw_2_3_2_3 k))
def xraw_2_3_3_0 (k : Nat) : Jvm.Cond := bif Nat.ble k 334 then ((Jvm.Cond.privateMethod ({ cls := "GorgeRocks$Grammar", name := "sumBehind", desc := "()I" } : Jvm.MethodName))) else ((Jvm.Cond.privateMethod ({ cls := "GorgeRocks$Grammar", name := "isWordSo", desc := "(I)Z" } : Jvm.MethodName)))
def xraw_2_3_3_1 (k : Nat) : Jvm.Cond := bif Nat.ble k 336 then ((Jvm.Cond.methodLink "GorgeRocks$Journal" (27 : Nat) ({ cls := "java/lang/Math", name := "min", desc := "(II)I" } : Jvm.MethodName))) else ((Jvm.Cond.privateMethod ({ cls := "GorgeRocks$Deal", name := "numberHeard", desc := "(LGorgeRocks$World;ILGorgeRocks$Row;I)I" } : Jvm.MethodName)))
def xraw_2_3_3_2 (k : Nat) : Jvm.Cond := bif Nat.ble k 338 then ((Jvm.Cond.methodLinkNest "GorgeRocks$Deal" (70 : Nat) ({ cls := "GorgeRocks", name := "isNumber", desc := "(I)Z" } : Jvm.MethodName) "GorgeRocks")) else ((Jvm.Cond.methodLink "GorgeRocks$World" (155 : Nat) ({ cls := "java/lang/Math", name := "min", desc := "(II)I" } : Jvm.MethodName)))
def xraw_2_3_3_3 (k : Nat) : Jvm.Cond := bif Nat.ble k 340 then ((Jvm.Cond.methodLink "GorgeRocks$World" (161 : Nat) ({ cls := "java/lang/Math", name := "max", desc := "(II)I" } : Jvm.MethodName))) else ((Jvm.Cond.privateMethod ({ cls := "GorgeRocks$Speaker", name := "speak", desc := "(IIII)I" } : Jvm.MethodName)))
def xraw_2_3_3 (k : Nat) : Jvm.Cond := bif Nat.ble k 337 then (bif Nat.ble k 335 then (xraw_2_3_3_0 k) else (xraw_2_3_3_1 k)) else (bif Nat.ble k 339 then (xraw_2_3_3_2 k) else (xraw_2_3_3_3 k))
def xraw_2_3 (k : Nat) : Jvm.Cond := bif Nat.ble k 326 then (bif Nat.ble k 319 then (xraw_2_3_0 k) else (xraw_2_3_1 k)) else (bif Nat.ble k 333 then (xraw_2_3_2 k) else (xraw_2_3_3 k))
def xraw_2 (k : Nat) : Jvm.Cond := bif Nat.ble k 284 then (bif Nat.ble k 255 then (xraw_2_0 k) else (xraw_2_1 k)) else (bif Nat.ble k 312 then (xraw_2_2 k) else (xraw_2_3 k))
def xraw_3_0_0_0 (k : Nat) : Jvm.Cond := (Jvm.Cond.methodLinkNest "GorgeRocks$Speaker" (64 : Nat) ({ cls := "GorgeRocks", name := "isKind", desc := "(I)Z" } : Jvm.MethodName) "GorgeRocks")
def xraw_3_0_0_1 (k : Nat) : Jvm.Cond := bif Nat.ble k 343 then ((Jvm.Cond.fieldLink "GorgeRocks$Speaker" (49 : Nat) "GorgeRocks$Speaker" "BODIES" "[I")) else ((Jvm.Cond.laysStatic "GorgeRocks$Speaker" "BODIES" "[I"))
def xraw_3_0_0_2 (k : Nat) : Jvm.Cond := bif Nat.ble k 345 then ((Jvm.Cond.fieldLinkNest "GorgeRocks$Speaker" (57 : Nat) "GorgeRocks" "ABOVE" "[I" "GorgeRocks")) else ((Jvm.Cond.privateMethod ({ cls := "GorgeRocks$Speaker", name := "waitsOfRock", desc := "(I)I" } : Jvm.MethodName)))
def xraw_3_0_0_3 (k : Nat) : Jvm.Cond := bif Nat.ble k 347 then ((Jvm.Cond.methodLink "GorgeRocks" (345 : Nat) ({ cls := "java/lang/System", name := "arraycopy", desc := "(Ljava/lang/Object;ILjava/lang/Object;II)V" } : Jvm.MethodName))) else ((Jvm.Cond.classLink "GorgeRocksLaw" (10 : Nat) "GorgeRocksModel"))
def xraw_3_0_0 (k : Nat) : Jvm.Cond := bif Nat.ble k 344 then (bif Nat.ble k 342 then (xraw_3_0_0_0 k) else (xraw_3_0_0_1 k)) else (bif Nat.ble k 346 then (xraw_3_0_0_2 k) else (xraw_3_0_0_3 k))
def xraw_3_0_1_0 (k : Nat) : Jvm.Cond := (Jvm.Cond.instantiable "GorgeRocksModel" (26 : Nat))
def xraw_3_0_1_1 (k : Nat) : Jvm.Cond := bif Nat.ble k 350 then ((Jvm.Cond.methodLink "GorgeRocksModel" (1 : Nat) ({ cls := "java/lang/Object", name := "<init>", desc := "()V" } : Jvm.MethodName))) else ((Jvm.Cond.laysFinal "GorgeRocksModel" "GorgeRocksModel" "s" "[I"))
def xraw_3_0_1_2 (k : Nat) : Jvm.Cond := bif Nat.ble k 352 then ((Jvm.Cond.soleField "GorgeRocksModel" "s")) else ((Jvm.Cond.laysFinal "GorgeRocksModel" "GorgeRocksModel" "kept" "[I"))
def xraw_3_0_1_3 (k : Nat) : Jvm.Cond := bif Nat.ble k 354 then ((Jvm.Cond.soleField "GorgeRocksModel" "kept")) else ((Jvm.Cond.lays "GorgeRocksModel" "GorgeRocksModel" "images" "I"))
def xraw_3_0_1 (k : Nat) : Jvm.Cond := bif Nat.ble k 351 then (bif Nat.ble k 349 then (xraw_3_0_1_0 k) else (xraw_3_0_1_1 k)) else (bif Nat.ble k 353 then (xraw_3_0_1_2 k) else (xraw_3_0_1_3 k))
def xraw_3_0_2_0 (k : Nat) : Jvm.Cond := (Jvm.Cond.soleField "GorgeRocksModel" "images")
def xraw_3_0_2_1 (k : Nat) : Jvm.Cond := bif Nat.ble k 357 then ((Jvm.Cond.laysFinal "GorgeRocksModel" "GorgeRocksModel" "errors" "[I")) else ((Jvm.Cond.soleField "GorgeRocksModel" "errors"))
def xraw_3_0_2_2 (k : Nat) : Jvm.Cond := bif Nat.ble k 359 then ((Jvm.Cond.laysFinal "GorgeRocksModel" "GorgeRocksModel" "row" "[I")) else ((Jvm.Cond.soleField "GorgeRocksModel" "row"))
def xraw_3_0_2_3 (k : Nat) : Jvm.Cond := bif Nat.ble k 361 then ((Jvm.Cond.laysFinal "GorgeRocksModel" "GorgeRocksModel" "spare" "[I")) else ((Jvm.Cond.soleField "GorgeRocksModel" "spare"))
def xraw_3_0_2 (k : Nat) : Jvm.Cond := bif Nat.ble k 358 then (bif Nat.ble k 356 then (xraw_3_0_2_0 k) else (xraw_3_0_2_1 k)) else (bif Nat.ble k 360 then (xraw_3_0_2_2 k) else (xraw_3_0_2_3 k))
def xraw_3_0_3_0 (k : Nat) : Jvm.Cond := (Jvm.Cond.laysFinal "GorgeRocksModel" "GorgeRocksModel" "other" "[I")
def xraw_3_0_3_1 (k : Nat) : Jvm.Cond := bif Nat.ble k 364 then ((Jvm.Cond.soleField "GorgeRocksModel" "other")) else ((Jvm.Cond.lays "GorgeRocksModel" "GorgeRocksModel" "at" "I"))
def xraw_3_0_3_2 (k : Nat) : Jvm.Cond := bif Nat.ble k 366 then ((Jvm.Cond.soleField "GorgeRocksModel" "at")) else ((Jvm.Cond.lays "GorgeRocksModel" "GorgeRocksModel" "open" "I"))
def xraw_3_0_3_3 (k : Nat) : Jvm.Cond := bif Nat.ble k 368 then ((Jvm.Cond.soleField "GorgeRocksModel" "open")) else ((Jvm.Cond.lays "GorgeRocksModel" "GorgeRocksModel" "steps" "I"))
def xraw_3_0_3 (k : Nat) : Jvm.Cond := bif Nat.ble k 365 then (bif Nat.ble k 363 then (xraw_3_0_3_0 k) else (xraw_3_0_3_1 k)) else (bif Nat.ble k 367 then (xraw_3_0_3_2 k) else (xraw_3_0_3_3 k))
def xraw_3_0 (k : Nat) : Jvm.Cond := bif Nat.ble k 355 then (bif Nat.ble k 348 then (xraw_3_0_0 k) else (xraw_3_0_1 k)) else (bif Nat.ble k 362 then (xraw_3_0_2 k) else (xraw_3_0_3 k))
def xraw_3_1_0_0 (k : Nat) : Jvm.Cond := (Jvm.Cond.soleField "GorgeRocksModel" "steps")
def xraw_3_1_0_1 (k : Nat) : Jvm.Cond := bif Nat.ble k 371 then ((Jvm.Cond.lays "GorgeRocksModel" "GorgeRocksModel" "use" "I")) else ((Jvm.Cond.soleField "GorgeRocksModel" "use"))
def xraw_3_1_0_2 (k : Nat) : Jvm.Cond := bif Nat.ble k 373 then ((Jvm.Cond.laysFinal "GorgeRocksModel" "GorgeRocksModel" "step" "[I")) else ((Jvm.Cond.soleField "GorgeRocksModel" "step"))
def xraw_3_1_0_3 (k : Nat) : Jvm.Cond := bif Nat.ble k 375 then ((Jvm.Cond.laysFinal "GorgeRocksModel" "GorgeRocksModel" "named" "[I")) else ((Jvm.Cond.soleField "GorgeRocksModel" "named"))
def xraw_3_1_0 (k : Nat) : Jvm.Cond := bif Nat.ble k 372 then (bif Nat.ble k 370 then (xraw_3_1_0_0 k) else (xraw_3_1_0_1 k)) else (bif Nat.ble k 374 then (xraw_3_1_0_2 k) else (xraw_3_1_0_3 k))
def xraw_3_1_1_0 (k : Nat) : Jvm.Cond := (Jvm.Cond.laysFinal "GorgeRocksModel" "GorgeRocksModel" "pile" "[I")
def xraw_3_1_1_1 (k : Nat) : Jvm.Cond := bif Nat.ble k 378 then ((Jvm.Cond.soleField "GorgeRocksModel" "pile")) else ((Jvm.Cond.laysFinal "GorgeRocksModel" "GorgeRocksModel" "meantRows" "[I"))
def xraw_3_1_1_2 (k : Nat) : Jvm.Cond := bif Nat.ble k 380 then ((Jvm.Cond.soleField "GorgeRocksModel" "meantRows")) else ((Jvm.Cond.lays "GorgeRocksModel" "GorgeRocksModel" "many" "I"))
def xraw_3_1_1_3 (k : Nat) : Jvm.Cond := bif Nat.ble k 382 then ((Jvm.Cond.soleField "GorgeRocksModel" "many")) else ((Jvm.Cond.lays "GorgeRocksModel" "GorgeRocksModel" "from" "I"))
def xraw_3_1_1 (k : Nat) : Jvm.Cond := bif Nat.ble k 379 then (bif Nat.ble k 377 then (xraw_3_1_1_0 k) else (xraw_3_1_1_1 k)) else (bif Nat.ble k 381 then (xraw_3_1_1_2 k) else (xraw_3_1_1_3 k))
def xraw_3_1_2_0 (k : Nat) : Jvm.Cond := (Jvm.Cond.soleField "GorgeRocksModel" "from")
def xraw_3_1_2_1 (k : Nat) : Jvm.Cond := bif Nat.ble k 385 then ((Jvm.Cond.lays "GorgeRocksModel" "GorgeRocksModel" "isWrong" "Z")) else ((Jvm.Cond.soleField "GorgeRocksModel" "isWrong"))
def xraw_3_1_2_2 (k : Nat) : Jvm.Cond := bif Nat.ble k 387 then ((Jvm.Cond.laysFinal "GorgeRocksModel" "GorgeRocksModel" "trace" "[I")) else ((Jvm.Cond.soleField "GorgeRocksModel" "trace"))
def xraw_3_1_2_3 (k : Nat) : Jvm.Cond := bif Nat.ble k 389 then ((Jvm.Cond.lays "GorgeRocksModel" "GorgeRocksModel" "traced" "I")) else ((Jvm.Cond.soleField "GorgeRocksModel" "traced"))
def xraw_3_1_2 (k : Nat) : Jvm.Cond := bif Nat.ble k 386 then (bif Nat.ble k 384 then (xraw_3_1_2_0 k) else (xraw_3_1_2_1 k)) else (bif Nat.ble k 388 then (xraw_3_1_2_2 k) else (xraw_3_1_2_3 k))
def xraw_3_1_3_0 (k : Nat) : Jvm.Cond := bif Nat.ble k 391 then ((Jvm.Cond.lays "GorgeRocksModel" "GorgeRocksModel" "speaks" "I")) else ((Jvm.Cond.soleField "GorgeRocksModel" "speaks"))
def xraw_3_1_3_1 (k : Nat) : Jvm.Cond := bif Nat.ble k 393 then ((Jvm.Cond.lays "GorgeRocksModel" "GorgeRocksModel" "isParted" "Z")) else ((Jvm.Cond.soleField "GorgeRocksModel" "isParted"))
def xraw_3_1_3_2 (k : Nat) : Jvm.Cond := bif Nat.ble k 395 then ((Jvm.Cond.laysFinal "GorgeRocksModel" "GorgeRocksModel" "bits" "[I")) else ((Jvm.Cond.soleField "GorgeRocksModel" "bits"))
def xraw_3_1_3_3 (k : Nat) : Jvm.Cond := bif Nat.ble k 397 then ((Jvm.Cond.laysFinal "GorgeRocksModel" "GorgeRocksModel" "sizes" "[I")) else ((Jvm.Cond.soleField "GorgeRocksModel" "sizes"))
def xraw_3_1_3 (k : Nat) : Jvm.Cond := bif Nat.ble k 394 then (bif Nat.ble k 392 then (xraw_3_1_3_0 k) else (xraw_3_1_3_1 k)) else (bif Nat.ble k 396 then (xraw_3_1_3_2 k) else (xraw_3_1_3_3 k))
def xraw_3_1 (k : Nat) : Jvm.Cond := bif Nat.ble k 383 then (bif Nat.ble k 376 then (xraw_3_1_0 k) else (xraw_3_1_1 k)) else (bif Nat.ble k 390 then (xraw_3_1_2 k) else (xraw_3_1_3 k))
def xraw_3_2_0_0 (k : Nat) : Jvm.Cond := (Jvm.Cond.laysFinal "GorgeRocksModel" "GorgeRocksModel" "number" "[I")
def xraw_3_2_0_1 (k : Nat) : Jvm.Cond := bif Nat.ble k 400 then ((Jvm.Cond.soleField "GorgeRocksModel" "number")) else ((Jvm.Cond.laysFinal "GorgeRocksModel" "GorgeRocksModel" "aside" "[I"))
def xraw_3_2_0_2 (k : Nat) : Jvm.Cond := bif Nat.ble k 402 then ((Jvm.Cond.soleField "GorgeRocksModel" "aside")) else ((Jvm.Cond.superclass "GorgeRocksModel" "java/lang/Object"))
def xraw_3_2_0_3 (k : Nat) : Jvm.Cond := bif Nat.ble k 404 then ((Jvm.Cond.privateMethod ({ cls := "GorgeRocksModel", name := "error", desc := "(I)I" } : Jvm.MethodName))) else ((Jvm.Cond.constant "GorgeRocksModel" (55 : Nat) (-1000000 : Int32)))
def xraw_3_2_0 (k : Nat) : Jvm.Cond := bif Nat.ble k 401 then (bif Nat.ble k 399 then (xraw_3_2_0_0 k) else (xraw_3_2_0_1 k)) else (bif Nat.ble k 403 then (xraw_3_2_0_2 k) else (xraw_3_2_0_3 k))
def xraw_3_2_1_0 (k : Nat) : Jvm.Cond := (Jvm.Cond.privateMethod ({ cls := "GorgeRocksModel", name := "isCall", desc := "(I)Z" } : Jvm.MethodName))
def xraw_3_2_1_1 (k : Nat) : Jvm.Cond := bif Nat.ble k 407 then ((Jvm.Cond.privateMethod ({ cls := "GorgeRocksModel", name := "take", desc := "(I[I)V" } : Jvm.MethodName))) else ((Jvm.Cond.privateMethod ({ cls := "GorgeRocksModel", name := "toldOf", desc := "([II)I" } : Jvm.MethodName)))
def xraw_3_2_1_2 (k : Nat) : Jvm.Cond := bif Nat.ble k 409 then ((Jvm.Cond.privateMethod ({ cls := "GorgeRocksModel", name := "drawn", desc := "()I" } : Jvm.MethodName))) else ((Jvm.Cond.constant "GorgeRocksModel" (122 : Nat) (1103515245 : Int32)))
def xraw_3_2_1_3 (k : Nat) : Jvm.Cond := bif Nat.ble k 411 then ((Jvm.Cond.privateMethod ({ cls := "GorgeRocksModel", name := "isRock", desc := "(I)Z" } : Jvm.MethodName))) else ((Jvm.Cond.privateMethod ({ cls := "GorgeRocksModel", name := "its", desc := "(II)I" } : Jvm.MethodName)))
def xraw_3_2_1 (k : Nat) : Jvm.Cond := bif Nat.ble k 408 then (bif Nat.ble k 406 then (xraw_3_2_1_0 k) else (xraw_3_2_1_1 k)) else (bif Nat.ble k 410 then (xraw_3_2_1_2 k) else (xraw_3_2_1_3 k))
def xraw_3_2_2_0 (k : Nat) : Jvm.Cond := (Jvm.Cond.constantLong "GorgeRocksModel" (131 : Nat) (255 : Int64))
def xraw_3_2_2_1 (k : Nat) : Jvm.Cond := bif Nat.ble k 414 then ((Jvm.Cond.privateMethod ({ cls := "GorgeRocksModel", name := "whole", desc := "()Z" } : Jvm.MethodName))) else ((Jvm.Cond.privateMethod ({ cls := "GorgeRocksModel", name := "both", desc := "()Z" } : Jvm.MethodName)))
def xraw_3_2_2_2 (k : Nat) : Jvm.Cond := bif Nat.ble k 416 then ((Jvm.Cond.privateMethod ({ cls := "GorgeRocksModel", name := "compared", desc := "()Z" } : Jvm.MethodName))) else ((Jvm.Cond.privateMethod ({ cls := "GorgeRocksModel", name := "sum", desc := "()Z" } : Jvm.MethodName)))
def xraw_3_2_2_3 (k : Nat) : Jvm.Cond := bif Nat.ble k 418 then ((Jvm.Cond.privateMethod ({ cls := "GorgeRocksModel", name := "product", desc := "()Z" } : Jvm.MethodName))) else ((Jvm.Cond.privateMethod ({ cls := "GorgeRocksModel", name := "one", desc := "()Z" } : Jvm.MethodName)))
def xraw_3_2_2 (k : Nat) : Jvm.Cond := bif Nat.ble k 415 then (bif Nat.ble k 413 then (xraw_3_2_2_0 k) else (xraw_3_2_2_1 k)) else (bif Nat.ble k 417 then (xraw_3_2_2_2 k) else (xraw_3_2_2_3 k))
def xraw_3_2_3_0 (k : Nat) : Jvm.Cond := bif Nat.ble k 420 then ((Jvm.Cond.privateMethod ({ cls := "GorgeRocksModel", name := "look", desc := "()I" } : Jvm.MethodName))) else ((Jvm.Cond.privateMethod ({ cls := "GorgeRocksModel", name := "isName", desc := "(I)Z" } : Jvm.MethodName)))
def xraw_3_2_3_1 (k : Nat) : Jvm.Cond := bif Nat.ble k 422 then ((Jvm.Cond.privateMethod ({ cls := "GorgeRocksModel", name := "lays", desc := "(II)V" } : Jvm.MethodName))) else ((Jvm.Cond.privateMethod ({ cls := "GorgeRocksModel", name := "opens", desc := "()Z" } : Jvm.MethodName)))
def xraw_3_2_3_2 (k : Nat) : Jvm.Cond := bif Nat.ble k 424 then ((Jvm.Cond.privateMethod ({ cls := "GorgeRocksModel", name := "hasText", desc := "(I)Z" } : Jvm.MethodName))) else ((Jvm.Cond.privateMethod ({ cls := "GorgeRocksModel", name := "isWay", desc := "(I)Z" } : Jvm.MethodName)))
def xraw_3_2_3_3 (k : Nat) : Jvm.Cond := bif Nat.ble k 426 then ((Jvm.Cond.privateMethod ({ cls := "GorgeRocksModel", name := "hears", desc := "(II[I)V" } : Jvm.MethodName))) else ((Jvm.Cond.privateMethod ({ cls := "GorgeRocksModel", name := "goesOver", desc := "(I[I)V" } : Jvm.MethodName)))
def xraw_3_2_3 (k : Nat) : Jvm.Cond := bif Nat.ble k 423 then (bif Nat.ble k 421 then (xraw_3_2_3_0 k) else (xraw_3_2_3_1 k)) else (bif Nat.ble k 425 then (xraw_3_2_3_2 k) else (xraw_3_2_3_3 k))
def xraw_3_2 (k : Nat) : Jvm.Cond := bif Nat.ble k 412 then (bif Nat.ble k 405 then (xraw_3_2_0 k) else (xraw_3_2_1 k)) else (bif Nat.ble k 419 then (xraw_3_2_2 k) else (xraw_3_2_3 k))
def xraw_3_3_0_0 (k : Nat) : Jvm.Cond := (Jvm.Cond.privateMethod ({ cls := "GorgeRocksModel", name := "sends", desc := "(I[I)V" } : Jvm.MethodName))
def xraw_3_3_0_1 (k : Nat) : Jvm.Cond := bif Nat.ble k 429 then ((Jvm.Cond.privateMethod ({ cls := "GorgeRocksModel", name := "turns", desc := "([I)V" } : Jvm.MethodName))) else ((Jvm.Cond.privateMethod ({ cls := "GorgeRocksModel", name := "swallows", desc := "([II)V" } : Jvm.MethodName)))
def xraw_3_3_0_2 (k : Nat) : Jvm.Cond := bif Nat.ble k 431 then ((Jvm.Cond.privateMethod ({ cls := "GorgeRocksModel", name := "asTold", desc := "([II)V" } : Jvm.MethodName))) else ((Jvm.Cond.privateMethod ({ cls := "GorgeRocksModel", name := "worked", desc := "(I)I" } : Jvm.MethodName)))
def xraw_3_3_0_3 (k : Nat) : Jvm.Cond := bif Nat.ble k 433 then ((Jvm.Cond.privateMethod ({ cls := "GorgeRocksModel", name := "lay", desc := "([II)V" } : Jvm.MethodName))) else ((Jvm.Cond.privateMethod ({ cls := "GorgeRocksModel", name := "comesBy", desc := "(II[I)I" } : Jvm.MethodName)))
def xraw_3_3_0 (k : Nat) : Jvm.Cond := bif Nat.ble k 430 then (bif Nat.ble k 428 then (xraw_3_3_0_0 k) else (xraw_3_3_0_1 k)) else (bif Nat.ble k 432 then (xraw_3_3_0_2 k) else (xraw_3_3_0_3 k))
def xraw_3_3_1_0 (k : Nat) : Jvm.Cond := (Jvm.Cond.privateMethod ({ cls := "GorgeRocksModel", name := "canUndo", desc := "(I)Z" } : Jvm.MethodName))
def xraw_3_3_1_1 (k : Nat) : Jvm.Cond := bif Nat.ble k 436 then ((Jvm.Cond.privateMethod ({ cls := "GorgeRocksModel", name := "needs", desc := "(II[I)V" } : Jvm.MethodName))) else ((Jvm.Cond.privateMethod ({ cls := "GorgeRocksModel", name := "findMeant", desc := "(II)V" } : Jvm.MethodName)))
def xraw_3_3_1_2 (k : Nat) : Jvm.Cond := bif Nat.ble k 438 then ((Jvm.Cond.privateMethod ({ cls := "GorgeRocksModel", name := "unlikeIn", desc := "(I)I" } : Jvm.MethodName))) else ((Jvm.Cond.privateMethod ({ cls := "GorgeRocksModel", name := "saying", desc := "()Z" } : Jvm.MethodName)))
def xraw_3_3_1_3 (k : Nat) : Jvm.Cond := bif Nat.ble k 440 then ((Jvm.Cond.privateMethod ({ cls := "GorgeRocksModel", name := "term", desc := "()Z" } : Jvm.MethodName))) else ((Jvm.Cond.privateMethod ({ cls := "GorgeRocksModel", name := "soundAt", desc := "(I)I" } : Jvm.MethodName)))
def xraw_3_3_1 (k : Nat) : Jvm.Cond := bif Nat.ble k 437 then (bif Nat.ble k 435 then (xraw_3_3_1_0 k) else (xraw_3_3_1_1 k)) else (bif Nat.ble k 439 then (xraw_3_3_1_2 k) else (xraw_3_3_1_3 k))
def xraw_3_3_2_0 (k : Nat) : Jvm.Cond := (Jvm.Cond.privateMethod ({ cls := "GorgeRocksModel", name := "isSo", desc := "(I)Z" } : Jvm.MethodName))
def xraw_3_3_2_1 (k : Nat) : Jvm.Cond := bif Nat.ble k 443 then ((Jvm.Cond.constant "GorgeRocksModel" (237 : Nat) (1048575 : Int32))) else ((Jvm.Cond.privateMethod ({ cls := "GorgeRocksModel", name := "comes", desc := "()V" } : Jvm.MethodName)))
def xraw_3_3_2_2 (k : Nat) : Jvm.Cond := bif Nat.ble k 445 then ((Jvm.Cond.privateMethod ({ cls := "GorgeRocksModel", name := "logs", desc := "(I)V" } : Jvm.MethodName))) else ((Jvm.Cond.privateMethod ({ cls := "GorgeRocksModel", name := "hearsOf", desc := "(III)I" } : Jvm.MethodName)))
def xraw_3_3_2_3 (k : Nat) : Jvm.Cond := bif Nat.ble k 447 then ((Jvm.Cond.privateMethod ({ cls := "GorgeRocksModel", name := "offers", desc := "(IIII)I" } : Jvm.MethodName))) else ((Jvm.Cond.privateMethod ({ cls := "GorgeRocksModel", name := "kindNow", desc := "()I" } : Jvm.MethodName)))
def xraw_3_3_2 (k : Nat) : Jvm.Cond := bif Nat.ble k 444 then (bif Nat.ble k 442 then (xraw_3_3_2_0 k) else (xraw_3_3_2_1 k)) else (bif Nat.ble k 446 then (xraw_3_3_2_2 k) else (xraw_3_3_2_3 k))
def xraw_3_3_3_0 (k : Nat) : Jvm.Cond := bif Nat.ble k 449 then ((Jvm.Cond.privateMethod ({ cls := "GorgeRocksModel", name := "turnsBy", desc := "(II)I" } : Jvm.MethodName))) else ((Jvm.Cond.privateMethod ({ cls := "GorgeRocksModel", name := "begins", desc := "(I)V" } : Jvm.MethodName)))
def xraw_3_3_3_1 (k : Nat) : Jvm.Cond := bif Nat.ble k 451 then ((Jvm.Cond.privateMethod ({ cls := "GorgeRocksModel", name := "sendsBy", desc := "(II)I" } : Jvm.MethodName))) else ((Jvm.Cond.privateMethod ({ cls := "GorgeRocksModel", name := "keepsBy", desc := "(II)I" } : Jvm.MethodName)))
def xraw_3_3_3_2 (k : Nat) : Jvm.Cond := bif Nat.ble k 453 then ((Jvm.Cond.privateMethod ({ cls := "GorgeRocksModel", name := "waitsBy", desc := "(II)I" } : Jvm.MethodName))) else ((Jvm.Cond.constantLong "GorgeRocksLaw" (57 : Nat) (4294967295 : Int64)))
def xraw_3_3_3_3 (k : Nat) : Jvm.Cond := bif Nat.ble k 455 then ((Jvm.Cond.fieldLink "java/lang/String" (15 : Nat) "java/lang/String" "coder" "B")) else ((Jvm.Cond.fieldLink "java/lang/String" (9 : Nat) "java/lang/String" "value" "[B"))
def xraw_3_3_3 (k : Nat) : Jvm.Cond := bif Nat.ble k 452 then (bif Nat.ble k 450 then (xraw_3_3_3_0 k) else (xraw_3_3_3_1 k)) else (bif Nat.ble k 454 then (xraw_3_3_3_2 k) else (xraw_3_3_3_3 k))
def xraw_3_3 (k : Nat) : Jvm.Cond := bif Nat.ble k 441 then (bif Nat.ble k 434 then (xraw_3_3_0 k) else (xraw_3_3_1 k)) else (bif Nat.ble k 448 then (xraw_3_3_2 k) else (xraw_3_3_3 k))
def xraw_3 (k : Nat) : Jvm.Cond := bif Nat.ble k 398 then (bif Nat.ble k 369 then (xraw_3_0 k) else (xraw_3_1 k)) else (bif Nat.ble k 427 then (xraw_3_2 k) else (xraw_3_3 k))
def xraw (k : Nat) : Jvm.Cond := bif Nat.ble k 227 then (bif Nat.ble k 113 then (xraw_0 k) else (xraw_1 k)) else (bif Nat.ble k 341 then (xraw_2 k) else (xraw_3 k))
def cdec (t : List Nat) : Cond := match t with
  | [] => .tt
  | k :: l => match Nat.beq k 0 with
    | true => (match l with
      | [a, i, c] => .methodLink (xRn a) i (xy c)
      | _ => .tt)
    | false => match Nat.beq k 1 with
      | true => (match l with
        | [a, i, c, f] => .fieldLink (xRn a) i (xT c f).1 (xT c f).2.1 (xT c f).2.2.1
        | _ => .tt)
      | false => match Nat.beq k 5 with
        | true => (match l with
          | [c] => .initialized (xRn c)
          | _ => .tt)
        | false => match Nat.beq k 13 with
          | true => (match l with
            | [c] => .instanceMethod (xy c)
            | _ => .tt)
          | false => match Nat.beq k 14 with
            | true => (match l with
              | [c] => .static (xy c)
              | _ => .tt)
            | false => match Nat.beq k 15 with
              | true => (match l with
                | [c] => .selects (xRn (xo c)) (xy c) (xy c)
                | _ => .tt)
              | false => match Nat.beq k 16 with
                | true => (match l with
                  | [c] => .code (xy c) (xb c) (xm c) (xr c)
                  | _ => .tt)
                | false => (match l with
                  | [c] => xraw c
                  | _ => .tt)
def ws0 : List (List Nat) := [[15, 118], [15, 120], [15, 119], [15, 121], [15, 25], [15, 26], [15, 23], [15, 29], [15, 27], [15, 28], [15, 67], [15, 128], [15, 129], [15, 18], [15, 17], [15, 8], [15, 7], [15, 9], [15, 10], [15, 3], [15, 54], [15, 55], [15, 135], [15, 139], [15, 145], [15, 161], [15, 164], [15, 140], [15, 141], [15, 176], [15, 177], [15, 178], [15, 179], [15, 180], [15, 182], [15, 173], [15, 174], [15, 175], [15, 181], [15, 183], [15, 152], [15, 156], [15, 155], [15, 151], [15, 147], [15, 149], [15, 150], [15, 187], [15, 146], [15, 192], [15, 157], [15, 158], [15, 196], [15, 198], [15, 205], [15, 204], [15, 202], [15, 203], [15, 210], [15, 209], [15, 215], [15, 214], [15, 220], [15, 221], [15, 218], [15, 222], [15, 223], [15, 224]]
set_option maxRecDepth 100000 in
theorem wq0 : k2_sels lw_privs = ws0.map cdec := rfl
def ws1 : List (List Nat) := [[99, 0], [5, 11], [5, 10], [5, 6], [99, 1], [5, 2], [5, 5], [5, 9], [5, 4], [5, 1], [5, 3], [5, 0], [5, 8], [5, 7], [5, 12], [99, 2], [99, 3], [99, 4], [99, 5], [99, 6], [99, 7], [5, 14], [99, 8], [99, 9], [0, 13, 9, 73], [13, 73], [16, 73], [99, 10], [99, 11], [99, 12], [99, 13], [99, 14], [0, 11, 9, 62], [13, 62], [16, 62], [99, 15], [99, 16], [99, 17], [99, 18], [99, 19], [99, 20], [99, 21], [99, 22], [0, 10, 29, 36], [13, 36], [16, 36], [99, 23], [99, 24], [99, 25], [99, 26], [1, 6, 19, 6, 0], [1, 1, 30, 6, 0], [1, 4, 43, 6, 0], [1, 9, 28, 6, 0], [1, 0, 66, 6, 0], [1, 3, 63, 6, 0], [1, 10, 128, 6, 0], [1, 11, 221, 6, 0], [1, 6, 7, 6, 1], [1, 9, 24, 6, 1], [1, 1, 27, 6, 1], [1, 4, 40, 6, 1], [1, 11, 114, 6, 1], [1, 0, 63, 6, 1], [1, 10, 94, 6, 1], [1, 3, 62, 6, 1], [99, 27], [99, 28], [99, 29], [99, 30], [99, 31], [99, 32], [99, 33], [99, 34], [0, 10, 50, 11], [13, 11], [16, 11], [99, 35], [99, 36], [0, 2, 24, 36], [1, 2, 11, 2, 0], [1, 2, 17, 2, 1], [1, 2, 21, 2, 2], [1, 11, 357, 2, 2], [99, 37], [99, 38], [99, 39], [99, 40], [99, 41], [99, 42], [99, 43], [99, 44], [99, 45], [13, 31], [16, 31], [99, 46], [1, 5, 9, 5, 0], [1, 8, 34, 5, 0], [1, 10, 101, 5, 0], [1, 11, 144, 5, 0], [1, 5, 15, 5, 1], [1, 8, 37, 5, 1], [1, 10, 114, 5, 1], [1, 11, 149, 5, 1], [1, 5, 18, 5, 2], [1, 11, 152, 5, 2], [99, 47], [99, 48], [99, 49], [99, 50], [99, 51], [99, 52], [99, 53], [99, 54], [99, 55], [13, 57], [16, 57], [99, 56], [99, 57], [0, 9, 11, 36], [1, 9, 14, 9, 0], [1, 10, 84, 9, 0], [1, 11, 193, 9, 0], [1, 9, 20, 9, 1], [99, 58], [99, 59], [99, 60], [99, 61], [99, 62], [1, 10, 11, 10, 0], [1, 11, 98, 10, 0], [1, 10, 19, 10, 1], [1, 3, 41, 10, 1], [1, 11, 140, 10, 1], [1, 10, 25, 10, 2], [1, 11, 189, 10, 2], [1, 10, 32, 10, 3], [1, 11, 175, 10, 3], [1, 10, 36, 10, 4], [1, 11, 354, 10, 4], [1, 10, 39, 10, 5], [1, 10, 42, 10, 6], [1, 10, 45, 10, 7], [1, 11, 264, 10, 7], [1, 10, 51, 10, 8], [1, 11, 280, 10, 8], [1, 10, 55, 10, 9], [1, 11, 91, 10, 9], [1, 10, 59, 10, 10], [1, 3, 36, 10, 10], [1, 11, 137, 10, 10], [1, 10, 62, 10, 11], [1, 11, 267, 10, 11], [1, 10, 65, 10, 12], [1, 11, 257, 10, 12], [1, 10, 68, 10, 13], [1, 11, 309, 10, 13], [1, 10, 71, 10, 14], [99, 63], [99, 64], [99, 65], [99, 66], [99, 67], [99, 68], [99, 69], [99, 70], [99, 71], [99, 72], [99, 73], [99, 74], [99, 75], [99, 76], [99, 77], [99, 78], [99, 79], [99, 80], [99, 81], [99, 82], [99, 83], [99, 84], [99, 85], [99, 86], [99, 87], [99, 88], [99, 89], [99, 90], [99, 91], [99, 92], [99, 93], [99, 94], [99, 95], [99, 96], [13, 21], [16, 21], [99, 97], [99, 98], [0, 4, 11, 36], [99, 99], [1, 4, 14, 4, 0], [1, 11, 198, 4, 0], [1, 4, 20, 4, 1], [1, 4, 25, 4, 2], [1, 4, 29, 4, 3], [99, 100], [99, 101], [99, 102], [99, 103], [99, 104], [99, 105], [99, 106], [99, 107], [99, 108], [99, 109], [99, 110], [99, 111], [99, 112], [13, 4], [16, 4], [99, 113], [99, 114], [0, 1, 11, 36], [1, 1, 14, 1, 0], [1, 1, 20, 1, 1], [1, 1, 24, 1, 2], [99, 115], [99, 116], [99, 117], [99, 118], [99, 119], [99, 120], [99, 121], [99, 122], [99, 123], [0, 11, 35, 15], [13, 15], [16, 15], [99, 124], [99, 125], [0, 3, 17, 36], [1, 3, 11, 3, 0]]
set_option maxRecDepth 100000 in
theorem wq1 : tables_1_1 = ws1.map cdec := rfl
def ws2 : List (List Nat) := [[1, 3, 20, 3, 1], [1, 3, 24, 3, 2], [1, 11, 243, 3, 2], [99, 126], [99, 127], [99, 128], [99, 129], [99, 130], [99, 131], [99, 132], [99, 133], [99, 134], [99, 135], [13, 0], [16, 0], [99, 136], [99, 137], [0, 0, 11, 36], [1, 0, 14, 0, 0], [1, 0, 20, 0, 1], [1, 0, 23, 0, 2], [1, 11, 297, 0, 2], [1, 0, 27, 0, 3], [1, 11, 300, 0, 3], [1, 0, 30, 0, 4], [1, 11, 303, 0, 4], [1, 0, 33, 0, 5], [1, 11, 306, 0, 5], [1, 0, 36, 0, 6], [1, 0, 39, 0, 7], [99, 138], [99, 139], [99, 140], [99, 141], [99, 142], [99, 143], [99, 144], [99, 145], [99, 146], [99, 147], [99, 148], [99, 149], [99, 150], [99, 151], [99, 152], [99, 153], [99, 154], [99, 155], [99, 156], [99, 157], [13, 52], [16, 52], [99, 158], [99, 159], [0, 8, 11, 36], [1, 8, 14, 8, 0], [1, 11, 320, 8, 0], [1, 8, 20, 8, 1], [1, 11, 316, 8, 1], [1, 8, 24, 8, 2], [1, 8, 28, 8, 3], [1, 8, 31, 8, 4], [99, 160], [99, 161], [99, 162], [99, 163], [99, 164], [99, 165], [99, 166], [99, 167], [99, 168], [99, 169], [99, 170], [99, 171], [99, 172], [99, 173], [0, 11, 62, 36], [99, 174], [99, 175], [13, 47], [16, 47], [99, 176], [1, 7, 9, 7, 0], [1, 11, 333, 7, 0], [1, 7, 15, 7, 1], [1, 11, 339, 7, 1], [1, 7, 19, 7, 2], [1, 11, 332, 7, 2], [99, 177], [99, 178], [99, 179], [99, 180], [99, 181], [99, 182], [99, 183], [1, 11, 10, 11, 0], [1, 11, 16, 11, 1], [1, 11, 22, 11, 2], [1, 11, 29, 11, 3], [1, 11, 36, 11, 4], [1, 11, 43, 11, 5], [1, 11, 50, 11, 6], [1, 11, 56, 11, 7], [1, 11, 65, 11, 8], [1, 11, 69, 11, 9], [1, 11, 72, 11, 10], [1, 11, 75, 11, 11], [1, 11, 78, 11, 12], [1, 11, 82, 11, 13], [1, 11, 86, 11, 14], [99, 184], [99, 185], [99, 186], [99, 187], [99, 188], [99, 189], [99, 190], [99, 191], [99, 192], [99, 193], [99, 194], [99, 195], [99, 196], [99, 197], [99, 198], [99, 199], [99, 200], [99, 201], [99, 202], [99, 203], [99, 204], [99, 205], [99, 206], [99, 207], [99, 208], [99, 209], [99, 210], [99, 211], [99, 212], [99, 213], [99, 214], [0, 13, 13, 74], [13, 74], [15, 74], [16, 74], [0, 11, 94, 118], [99, 215], [13, 118], [16, 118], [99, 216], [0, 11, 101, 37], [13, 37], [15, 37], [16, 37], [0, 13, 18, 75], [13, 75], [15, 75], [16, 75], [0, 11, 104, 120], [99, 217], [13, 120], [16, 120], [0, 11, 108, 130], [14, 130], [16, 130], [0, 11, 111, 38], [13, 38], [15, 38], [16, 38], [0, 13, 23, 76], [13, 76], [15, 76], [16, 76], [0, 11, 117, 119], [99, 218], [13, 119], [16, 119], [0, 13, 27, 77], [13, 77], [15, 77], [16, 77], [0, 13, 32, 78], [13, 78], [15, 78], [16, 78], [0, 11, 121, 64], [13, 64], [15, 64], [16, 64], [99, 219], [0, 11, 125, 132], [14, 132], [16, 132], [0, 11, 128, 42], [13, 42], [15, 42], [16, 42], [99, 220], [14, 133], [16, 133], [0, 13, 36, 79], [13, 79], [15, 79], [16, 79], [0, 11, 131, 133], [0, 13, 40, 80], [13, 80], [15, 80], [16, 80], [0, 11, 134, 124], [14, 124], [16, 124], [0, 13, 44, 81], [13, 81], [15, 81], [16, 81], [0, 11, 155, 121], [99, 221], [13, 121], [16, 121], [0, 11, 158, 32], [13, 32], [15, 32], [16, 32], [0, 13, 48, 82], [13, 82], [15, 82], [16, 82], [0, 11, 161, 123], [14, 123], [16, 123], [0, 11, 164, 127], [14, 127], [16, 127], [99, 222], [99, 223], [0, 13, 52, 83], [13, 83], [15, 83], [16, 83]]
set_option maxRecDepth 100000 in
theorem wq2 : tables_1_2 = ws2.map cdec := rfl
def ws3 : List (List Nat) := [[0, 11, 168, 126], [14, 126], [16, 126], [0, 11, 171, 33], [13, 33], [15, 33], [16, 33], [0, 13, 59, 84], [13, 84], [15, 84], [16, 84], [0, 13, 64, 85], [13, 85], [15, 85], [16, 85], [0, 11, 178, 125], [14, 125], [16, 125], [99, 224], [99, 225], [0, 11, 185, 22], [13, 22], [15, 22], [16, 22], [0, 4, 33, 37], [0, 4, 36, 25], [99, 226], [13, 25], [16, 25], [0, 4, 47, 26], [99, 227], [13, 26], [16, 26], [0, 4, 51, 23], [99, 228], [13, 23], [16, 23], [0, 4, 64, 30], [14, 30], [16, 30], [0, 4, 67, 29], [99, 229], [13, 29], [16, 29], [0, 4, 61, 38], [99, 230], [99, 231], [99, 232], [99, 233], [99, 234], [99, 235], [99, 236], [99, 237], [99, 238], [99, 239], [99, 240], [99, 241], [99, 242], [99, 243], [99, 244], [99, 245], [99, 246], [99, 247], [99, 248], [99, 249], [99, 250], [99, 251], [99, 252], [99, 253], [99, 254], [99, 255], [99, 256], [99, 257], [99, 258], [99, 259], [99, 260], [99, 261], [99, 262], [99, 263], [99, 264], [99, 265], [99, 266], [99, 267], [99, 268], [99, 269], [99, 270], [99, 271], [99, 272], [99, 273], [99, 274], [99, 275], [99, 276], [99, 277], [99, 278], [99, 279], [99, 280], [99, 281], [99, 282], [99, 283], [99, 284], [99, 285], [99, 286], [99, 287], [99, 288], [99, 289], [99, 290], [99, 291], [99, 292], [99, 293], [99, 294], [99, 295], [99, 296], [99, 297], [99, 298], [99, 299], [99, 300], [99, 301], [99, 302], [99, 303], [99, 304], [99, 305], [99, 306], [99, 307], [99, 308], [99, 309], [99, 310], [99, 311], [99, 312], [99, 313], [0, 4, 75, 27], [99, 314], [13, 27], [16, 27], [0, 4, 78, 28], [99, 315], [13, 28], [16, 28], [0, 4, 55, 24], [14, 24], [16, 24], [0, 11, 201, 39], [13, 39], [15, 39], [16, 39], [99, 316], [99, 317], [99, 318], [99, 319], [0, 13, 68, 86], [13, 86], [15, 86], [16, 86], [0, 11, 205, 58], [13, 58], [15, 58], [16, 58], [0, 13, 72, 87], [13, 87], [15, 87], [16, 87], [0, 11, 209, 65], [13, 65], [15, 65], [16, 65], [0, 10, 91, 37], [0, 10, 97, 38], [0, 11, 213, 68], [13, 68], [15, 68], [16, 68], [0, 10, 77, 39], [0, 10, 139, 66], [13, 66], [15, 66], [16, 66], [0, 10, 104, 43], [13, 43], [15, 43], [16, 43], [99, 320], [14, 131], [16, 131], [0, 10, 108, 44], [13, 44], [15, 44], [16, 44], [0, 10, 111, 45], [13, 45], [15, 45], [16, 45], [0, 10, 117, 46], [13, 46], [15, 46], [16, 46], [0, 10, 120, 67], [99, 321], [13, 67], [16, 67], [0, 10, 124, 58], [0, 10, 131, 59], [13, 59], [15, 59], [16, 59], [0, 9, 31, 60], [14, 60], [16, 60], [0, 9, 35, 61], [14, 61], [16, 61], [99, 322], [0, 13, 76, 88], [13, 88], [15, 88], [16, 88], [0, 11, 217, 41], [13, 41], [15, 41], [16, 41], [0, 6, 32, 40], [13, 40], [15, 40], [16, 40], [0, 13, 80, 89], [13, 89], [15, 89], [16, 89], [0, 13, 84, 90], [13, 90], [15, 90], [16, 90], [0, 13, 88, 91], [13, 91], [15, 91], [16, 91], [0, 11, 224, 128], [99, 323], [13, 128], [16, 128], [0, 11, 235, 66], [0, 13, 92, 92]]
set_option maxRecDepth 100000 in
theorem wq3 : tables_1_3 = ws3.map cdec := rfl
def ws4 : List (List Nat) := [[13, 92], [15, 92], [16, 92], [0, 11, 228, 129], [99, 324], [13, 129], [16, 129], [0, 13, 96, 93], [13, 93], [15, 93], [16, 93], [0, 11, 232, 35], [13, 35], [15, 35], [16, 35], [0, 13, 100, 94], [13, 94], [15, 94], [16, 94], [0, 11, 239, 16], [13, 16], [15, 16], [16, 16], [0, 3, 28, 18], [99, 325], [13, 18], [16, 18], [0, 3, 58, 41], [0, 3, 51, 39], [0, 3, 32, 17], [99, 326], [13, 17], [16, 17], [0, 3, 45, 35], [0, 3, 54, 66], [0, 13, 104, 95], [13, 95], [15, 95], [16, 95], [0, 11, 244, 20], [13, 20], [15, 20], [16, 20], [0, 3, 73, 19], [13, 19], [15, 19], [16, 19], [0, 3, 67, 238], [14, 238], [16, 238], [99, 327], [99, 328], [99, 329], [0, 11, 247, 19], [0, 13, 108, 96], [13, 96], [15, 96], [16, 96], [0, 13, 112, 97], [13, 97], [15, 97], [16, 97], [0, 11, 250, 40], [0, 13, 116, 98], [13, 98], [15, 98], [16, 98], [0, 11, 254, 5], [13, 5], [15, 5], [16, 5], [99, 330], [0, 13, 120, 99], [13, 99], [15, 99], [16, 99], [99, 331], [0, 13, 124, 100], [13, 100], [15, 100], [16, 100], [0, 11, 260, 6], [13, 6], [15, 6], [16, 6], [0, 1, 38, 8], [99, 332], [13, 8], [16, 8], [0, 1, 41, 7], [99, 333], [13, 7], [16, 7], [0, 1, 45, 9], [99, 334], [13, 9], [16, 9], [0, 1, 48, 10], [99, 335], [13, 10], [16, 10], [0, 13, 128, 101], [13, 101], [15, 101], [16, 101], [0, 11, 270, 69], [13, 69], [15, 69], [16, 69], [0, 10, 143, 12], [13, 12], [15, 12], [16, 12], [99, 336], [0, 11, 273, 70], [13, 70], [15, 70], [16, 70], [0, 13, 132, 102], [13, 102], [15, 102], [16, 102], [0, 11, 277, 71], [13, 71], [15, 71], [16, 71], [0, 10, 147, 69], [0, 10, 151, 70], [0, 13, 136, 103], [13, 103], [15, 103], [16, 103], [0, 11, 284, 13], [13, 13], [15, 13], [16, 13], [0, 13, 140, 104], [13, 104], [15, 104], [16, 104], [0, 11, 290, 1], [13, 1], [15, 1], [16, 1], [0, 11, 293, 2], [13, 2], [15, 2], [16, 2], [0, 0, 42, 3], [99, 337], [13, 3], [16, 3], [0, 0, 52, 37], [0, 0, 55, 38], [0, 0, 59, 68], [99, 338], [0, 0, 46, 72], [13, 72], [15, 72], [16, 72], [99, 339], [99, 340], [0, 13, 145, 105], [13, 105], [15, 105], [16, 105], [0, 13, 149, 106], [13, 106], [15, 106], [16, 106], [0, 11, 312, 53], [13, 53], [15, 53], [16, 53], [0, 8, 38, 37], [0, 8, 41, 54], [99, 341], [13, 54], [16, 54], [0, 8, 45, 56], [14, 56], [16, 56], [99, 342], [99, 343], [99, 344], [99, 345], [0, 8, 53, 38], [0, 8, 60, 55], [99, 346], [13, 55], [16, 55], [0, 13, 153, 107], [13, 107], [15, 107], [16, 107], [0, 13, 157, 108], [13, 108], [15, 108], [16, 108], [0, 11, 323, 122], [14, 122], [16, 122], [0, 11, 326, 49], [13, 49], [15, 49], [16, 49], [0, 13, 161, 109], [13, 109], [15, 109], [16, 109], [0, 11, 329, 48], [13, 48], [15, 48], [16, 48], [0, 11, 336, 50], [13, 50], [15, 50], [16, 50], [0, 13, 165, 110], [13, 110], [15, 110], [16, 110], [0, 11, 342, 51], [13, 51], [15, 51], [16, 51], [99, 347], [0, 13, 169, 111], [13, 111], [15, 111], [16, 111], [0, 13, 173, 112], [13, 112], [15, 112], [16, 112], [0, 11, 351, 63], [13, 63], [15, 63], [16, 63], [0, 10, 81, 34]]
set_option maxRecDepth 100000 in
theorem wq4 : tables_1_4 = ws4.map cdec := rfl
def ws5 : List (List Nat) := [[13, 34], [15, 34], [16, 34], [0, 10, 87, 14], [13, 14], [15, 14], [16, 14], [0, 2, 33, 39], [0, 13, 177, 113], [13, 113], [15, 113], [16, 113], [0, 13, 181, 114], [13, 114], [15, 114], [16, 114], [0, 13, 185, 115], [13, 115], [15, 115], [16, 115], [0, 13, 189, 116], [13, 116], [15, 116], [16, 116], [0, 13, 193, 117], [13, 117], [15, 117], [16, 117], [99, 348], [99, 349], [0, 13, 12, 134], [13, 134], [16, 134], [99, 350], [1, 12, 7, 12, 0], [1, 12, 13, 12, 1], [1, 12, 292, 12, 2], [1, 12, 16, 12, 3], [1, 12, 19, 12, 4], [1, 12, 22, 12, 5], [1, 12, 25, 12, 6], [1, 12, 133, 12, 7], [1, 12, 166, 12, 8], [1, 12, 140, 12, 9], [1, 12, 137, 12, 10], [1, 12, 28, 12, 11], [1, 12, 31, 12, 12], [1, 12, 34, 12, 13], [1, 12, 37, 12, 14], [1, 12, 206, 12, 15], [1, 12, 218, 12, 16], [1, 12, 224, 12, 17], [1, 12, 40, 12, 18], [1, 12, 255, 12, 19], [1, 12, 258, 12, 20], [1, 12, 279, 12, 21], [1, 12, 43, 12, 22], [1, 12, 46, 12, 23], [1, 12, 49, 12, 24], [1, 12, 52, 12, 25], [99, 351], [99, 352], [99, 353], [99, 354], [99, 355], [99, 356], [99, 357], [99, 358], [99, 359], [99, 360], [99, 361], [99, 362], [99, 363], [99, 364], [99, 365], [99, 366], [99, 367], [99, 368], [99, 369], [99, 370], [99, 371], [99, 372], [99, 373], [99, 374], [99, 375], [99, 376], [99, 377], [99, 378], [99, 379], [99, 380], [99, 381], [99, 382], [99, 383], [99, 384], [99, 385], [99, 386], [99, 387], [99, 388], [99, 389], [99, 390], [99, 391], [99, 392], [99, 393], [99, 394], [99, 395], [99, 396], [99, 397], [99, 398], [99, 399], [99, 400], [99, 401], [99, 402], [99, 403], [0, 13, 17, 159], [13, 159], [15, 159], [16, 159], [0, 12, 112, 135], [99, 404], [13, 135], [16, 135], [99, 405], [0, 13, 22, 160], [13, 160], [15, 160], [16, 160], [0, 12, 115, 139], [99, 406], [13, 139], [16, 139], [0, 12, 56, 136], [14, 136], [16, 136], [0, 12, 71, 142], [14, 142], [16, 142], [0, 13, 26, 162], [13, 162], [15, 162], [16, 162], [0, 12, 106, 145], [99, 407], [13, 145], [16, 145], [0, 12, 118, 161], [99, 408], [13, 161], [16, 161], [0, 13, 31, 163], [13, 163], [15, 163], [16, 163], [0, 13, 35, 165], [13, 165], [15, 165], [16, 165], [0, 12, 123, 164], [99, 409], [13, 164], [16, 164], [99, 410], [0, 12, 60, 143], [14, 143], [16, 143], [0, 13, 39, 166], [13, 166], [15, 166], [16, 166], [0, 13, 43, 167], [13, 167], [15, 167], [16, 167], [0, 13, 47, 168], [13, 168], [15, 168], [16, 168], [0, 12, 93, 140], [99, 411], [13, 140], [16, 140], [0, 12, 74, 141], [99, 412], [13, 141], [16, 141], [0, 13, 51, 170], [13, 170], [15, 170], [16, 170], [0, 12, 127, 169], [14, 169], [16, 169], [0, 13, 56, 171], [13, 171], [15, 171], [16, 171], [0, 13, 63, 172], [13, 172], [15, 172], [16, 172], [99, 413], [0, 13, 67, 184], [13, 184], [15, 184], [16, 184], [0, 12, 175, 176], [99, 414], [13, 176], [16, 176], [0, 12, 143, 177], [99, 415], [13, 177], [16, 177], [0, 12, 154, 178], [99, 416], [13, 178], [16, 178], [0, 12, 157, 179], [99, 417], [13, 179], [16, 179], [0, 12, 160, 180], [99, 418], [13, 180], [16, 180], [0, 12, 163, 182], [99, 419], [13, 182], [16, 182], [0, 12, 147, 173], [99, 420], [13, 173], [16, 173], [0, 12, 169, 174], [99, 421], [13, 174], [16, 174], [0, 12, 150, 175], [99, 422], [13, 175], [16, 175]]
set_option maxRecDepth 100000 in
theorem wq5 : tables_1_5 = ws5.map cdec := rfl
def ws6 : List (List Nat) := [[0, 12, 172, 181], [99, 423], [13, 181], [16, 181], [0, 13, 71, 185], [13, 185], [15, 185], [16, 185], [0, 12, 64, 183], [99, 424], [13, 183], [16, 183], [0, 13, 75, 188], [13, 188], [15, 188], [16, 188], [0, 12, 182, 152], [99, 425], [13, 152], [16, 152], [0, 12, 185, 156], [99, 426], [13, 156], [16, 156], [0, 12, 109, 155], [99, 427], [13, 155], [16, 155], [0, 12, 96, 153], [14, 153], [16, 153], [0, 12, 99, 154], [14, 154], [16, 154], [0, 12, 102, 151], [99, 428], [13, 151], [16, 151], [0, 12, 78, 148], [14, 148], [16, 148], [0, 12, 82, 147], [99, 429], [13, 147], [16, 147], [0, 12, 86, 149], [99, 430], [13, 149], [16, 149], [0, 12, 90, 150], [99, 431], [13, 150], [16, 150], [0, 12, 68, 187], [99, 432], [13, 187], [16, 187], [0, 12, 178, 186], [14, 186], [16, 186], [0, 13, 79, 189], [13, 189], [15, 189], [16, 189], [0, 12, 189, 144], [14, 144], [16, 144], [0, 13, 83, 190], [13, 190], [15, 190], [16, 190], [0, 13, 87, 191], [13, 191], [15, 191], [16, 191], [0, 12, 193, 146], [99, 433], [13, 146], [16, 146], [0, 13, 91, 193], [13, 193], [15, 193], [16, 193], [0, 12, 196, 192], [99, 434], [13, 192], [16, 192], [0, 13, 95, 194], [13, 194], [15, 194], [16, 194], [0, 13, 99, 195], [13, 195], [15, 195], [16, 195], [0, 12, 200, 157], [99, 435], [13, 157], [16, 157], [0, 12, 203, 158], [99, 436], [13, 158], [16, 158], [0, 13, 103, 197], [13, 197], [15, 197], [16, 197], [0, 12, 209, 196], [99, 437], [13, 196], [16, 196], [0, 13, 107, 199], [13, 199], [15, 199], [16, 199], [0, 12, 212, 198], [99, 438], [13, 198], [16, 198], [0, 13, 111, 200], [13, 200], [15, 200], [16, 200], [0, 12, 215, 193], [0, 13, 115, 201], [13, 201], [15, 201], [16, 201], [0, 13, 119, 206], [13, 206], [15, 206], [16, 206], [0, 12, 234, 205], [99, 439], [13, 205], [16, 205], [0, 12, 228, 204], [99, 440], [13, 204], [16, 204], [0, 12, 221, 202], [99, 441], [13, 202], [16, 202], [0, 12, 231, 203], [99, 442], [13, 203], [16, 203], [0, 13, 123, 207], [13, 207], [15, 207], [16, 207], [99, 443], [0, 13, 127, 208], [13, 208], [15, 208], [16, 208], [0, 13, 131, 211], [13, 211], [15, 211], [16, 211], [0, 12, 242, 210], [99, 444], [13, 210], [16, 210], [0, 12, 238, 209], [99, 445], [13, 209], [16, 209], [0, 13, 135, 212], [13, 212], [15, 212], [16, 212], [0, 13, 139, 213], [13, 213], [15, 213], [16, 213], [0, 13, 144, 216], [13, 216], [15, 216], [16, 216], [0, 12, 248, 215], [99, 446], [13, 215], [16, 215], [0, 12, 251, 214], [99, 447], [13, 214], [16, 214], [0, 12, 245, 137], [14, 137], [16, 137], [0, 13, 148, 217], [13, 217], [15, 217], [16, 217], [0, 13, 152, 225], [13, 225], [15, 225], [16, 225], [0, 12, 270, 220], [99, 448], [13, 220], [16, 220], [0, 12, 267, 221], [99, 449], [13, 221], [16, 221], [0, 12, 261, 218], [99, 450], [13, 218], [16, 218], [0, 12, 264, 219], [14, 219], [16, 219], [0, 12, 273, 222], [99, 451], [13, 222], [16, 222], [0, 12, 276, 223], [99, 452], [13, 223], [16, 223], [0, 12, 282, 224], [99, 453], [13, 224], [16, 224], [0, 13, 156, 226], [13, 226], [15, 226], [16, 226], [0, 13, 160, 228], [13, 228], [15, 228], [16, 228], [0, 12, 285, 227], [14, 227], [16, 227], [0, 13, 164, 229], [13, 229]]
set_option maxRecDepth 100000 in
theorem wq6 : tables_1_6 = ws6.map cdec := rfl
def ws7 : List (List Nat) := [[15, 229], [16, 229], [0, 13, 168, 230], [13, 230], [15, 230], [16, 230], [0, 13, 172, 231], [13, 231], [15, 231], [16, 231], [0, 13, 176, 232], [13, 232], [15, 232], [16, 232], [0, 12, 288, 138], [14, 138], [16, 138], [0, 13, 180, 233], [13, 233], [15, 233], [16, 233], [0, 13, 184, 234], [13, 234], [15, 234], [16, 234], [0, 13, 188, 235], [13, 235], [15, 235], [16, 235], [0, 13, 192, 236], [13, 236], [15, 236], [16, 236], [0, 13, 196, 237], [13, 237], [15, 237], [16, 237], [99, 454], [99, 455], [99, 456]]
set_option maxRecDepth 100000 in
theorem wq7 : tables_1_7 = ws7.map cdec := rfl
def wsA : List (List Nat) := ws0 ++ (ws1 ++ (ws2 ++ (ws3 ++ (ws4 ++ (ws5 ++ (ws6 ++ (ws7)))))))
theorem wqA : lw_tbl = wsA.map cdec := by
  show k2_sels lw_privs ++ (tables_1_1 ++ (tables_1_2 ++ (tables_1_3 ++ (tables_1_4 ++ (tables_1_5 ++ (tables_1_6 ++ (tables_1_7))))))) = (ws0 ++ (ws1 ++ (ws2 ++ (ws3 ++ (ws4 ++ (ws5 ++ (ws6 ++ (ws7)))))))).map cdec
  rw [wq0, wq1, wq2, wq3, wq4, wq5, wq6, wq7]
  simp only [List.map_append]
def qqL (u t : List Nat) : Bool := match u, t with
  | [], [] => true
  | a :: u, b :: t => Nat.beq a b && qqL u t
  | _, _ => false
theorem qqL_ok : ∀ {u t : List Nat}, qqL u t = true → u = t := by
  intro u
  induction u with
  | nil => intro t h; cases t with
    | nil => rfl
    | cons b t => cases h
  | cons a u ih => intro t h; cases t with
    | nil => cases h
    | cons b t =>
      simp only [qqL, Bool.and_eq_true] at h
      rw [Nat.eq_of_beq_eq_true h.1, ih h.2]
def xwc (l : List (List Nat)) (i : Nat) : Bool := match l with
  | [] => true
  | c :: t => (match xwt i with
    | some u => qqL c u
    | none => true) && xfq_ (i + 1) (xwc t)
theorem xwc_ok : ∀ {l : List (List Nat)} {i : Nat}, xwc l i = true → ∀ j c, l[j]? = some c → ∀ u, xwt (i + j) = some u → c = u := by
  intro l
  induction l with
  | nil => intro i _ j c hj; cases hj
  | cons a t ih =>
    intro i h j c hj u hu
    simp only [xwc, xfq_eq_, Bool.and_eq_true] at h
    cases j with
    | zero =>
      have e : a = c := Option.some.inj hj
      subst e
      have hu : xwt i = some u := hu
      have h1 := h.1
      rw [hu] at h1
      exact qqL_ok h1
    | succ j => exact ih h.2 j c hj u (by rw [show i + 1 + j = i + (j + 1) by omega]; exact hu)
theorem xwlen : wsA.length = 1548 := by decide +kernel
theorem xwall : xwc wsA 0 = true := by decide +kernel
theorem xwt_ok {p : Nat} {u : List Nat} (h3 : p < 1548) (hu : xwt p = some u) : lw_tbl[p]? = some (cdec u) := by
  have hl : p < wsA.length := by rw [xwlen]; exact h3
  have e : wsA[p]? = some wsA[p] := List.getElem?_eq_getElem hl
  have k := xwc_ok xwall p wsA[p] e u (by rw [Nat.zero_add]; exact hu)
  rw [wqA, List.getElem?_map, e, k]
  rfl
def xwq (p : Nat) (t : List Nat) : Bool := Nat.ble (p + 1) 1548 && (match xwt p with
  | some u => qqL u t
  | none => false)
theorem xwq_ok {p : Nat} {t : List Nat} {c : Cond} (h : xwq p t = true) (e : cdec t = c) : decide (lw_tbl[p]? = some c) = true := by
  unfold xwq at h
  rw [Bool.and_eq_true] at h
  obtain ⟨h1, h2⟩ := h
  cases hu : xwt p with
  | none => rw [hu] at h2; cases h2
  | some u =>
    rw [hu] at h2
    rw [← e, ← qqL_ok h2]
    exact decide_eq_true (xwt_ok (Nat.le_of_ble_eq_true h1) hu)
-- ===== the methods, each once
theorem kc0 : plainName RX0 = true ∧ (RX0 ≠ "java/lang/invoke/MethodHandle" ∧ RX0 ≠ "java/lang/invoke/VarHandle") := ⟨by decide +kernel, by decide +kernel, by decide +kernel⟩
theorem kc1 : plainName RX1 = true ∧ (RX1 ≠ "java/lang/invoke/MethodHandle" ∧ RX1 ≠ "java/lang/invoke/VarHandle") := ⟨by decide +kernel, by decide +kernel, by decide +kernel⟩
theorem kc2 : plainName RX2 = true ∧ (RX2 ≠ "java/lang/invoke/MethodHandle" ∧ RX2 ≠ "java/lang/invoke/VarHandle") := ⟨by decide +kernel, by decide +kernel, by decide +kernel⟩
theorem kc3 : plainName RX3 = true ∧ (RX3 ≠ "java/lang/invoke/MethodHandle" ∧ RX3 ≠ "java/lang/invoke/VarHandle") := ⟨by decide +kernel, by decide +kernel, by decide +kernel⟩
theorem kc4 : plainName RX4 = true ∧ (RX4 ≠ "java/lang/invoke/MethodHandle" ∧ RX4 ≠ "java/lang/invoke/VarHandle") := ⟨by decide +kernel, by decide +kernel, by decide +kernel⟩
theorem kc5 : plainName RX5 = true ∧ (RX5 ≠ "java/lang/invoke/MethodHandle" ∧ RX5 ≠ "java/lang/invoke/VarHandle") := ⟨by decide +kernel, by decide +kernel, by decide +kernel⟩
theorem kc6 : plainName RX6 = true ∧ (RX6 ≠ "java/lang/invoke/MethodHandle" ∧ RX6 ≠ "java/lang/invoke/VarHandle") := ⟨by decide +kernel, by decide +kernel, by decide +kernel⟩
theorem kc7 : plainName RX7 = true ∧ (RX7 ≠ "java/lang/invoke/MethodHandle" ∧ RX7 ≠ "java/lang/invoke/VarHandle") := ⟨by decide +kernel, by decide +kernel, by decide +kernel⟩
theorem kc8 : plainName RX8 = true ∧ (RX8 ≠ "java/lang/invoke/MethodHandle" ∧ RX8 ≠ "java/lang/invoke/VarHandle") := ⟨by decide +kernel, by decide +kernel, by decide +kernel⟩
theorem kc9 : plainName RX9 = true ∧ (RX9 ≠ "java/lang/invoke/MethodHandle" ∧ RX9 ≠ "java/lang/invoke/VarHandle") := ⟨by decide +kernel, by decide +kernel, by decide +kernel⟩
theorem kc10 : plainName RX10 = true ∧ (RX10 ≠ "java/lang/invoke/MethodHandle" ∧ RX10 ≠ "java/lang/invoke/VarHandle") := ⟨by decide +kernel, by decide +kernel, by decide +kernel⟩
theorem kc11 : plainName RX11 = true ∧ (RX11 ≠ "java/lang/invoke/MethodHandle" ∧ RX11 ≠ "java/lang/invoke/VarHandle") := ⟨by decide +kernel, by decide +kernel, by decide +kernel⟩
theorem kc12 : plainName RX12 = true ∧ (RX12 ≠ "java/lang/invoke/MethodHandle" ∧ RX12 ≠ "java/lang/invoke/VarHandle") := ⟨by decide +kernel, by decide +kernel, by decide +kernel⟩
theorem kc14 : plainName RJ13 = true ∧ (RJ13 ≠ "java/lang/invoke/MethodHandle" ∧ RJ13 ≠ "java/lang/invoke/VarHandle") := ⟨by decide +kernel, by decide +kernel, by decide +kernel⟩
theorem kd0 : (parseMethodDescriptor "()I").map (fun d => d.parameters.length) = some 0 := by decide +kernel
theorem kd1 : (parseMethodDescriptor "()LGorgeRocks$Row;").map (fun d => d.parameters.length) = some 0 := by decide +kernel
theorem kd2 : (parseMethodDescriptor "()V").map (fun d => d.parameters.length) = some 0 := by decide +kernel
theorem kd3 : (parseMethodDescriptor "()Z").map (fun d => d.parameters.length) = some 0 := by decide +kernel
theorem kd4 : (parseMethodDescriptor "(I)I").map (fun d => d.parameters.length) = some 1 := by decide +kernel
theorem kd5 : (parseMethodDescriptor "(I)LGorgeRocks$Row;").map (fun d => d.parameters.length) = some 1 := by decide +kernel
theorem kd6 : (parseMethodDescriptor "(I)V").map (fun d => d.parameters.length) = some 1 := by decide +kernel
theorem kd7 : (parseMethodDescriptor "(I)Z").map (fun d => d.parameters.length) = some 1 := by decide +kernel
theorem kd8 : (parseMethodDescriptor "(II)I").map (fun d => d.parameters.length) = some 2 := by decide +kernel
theorem kd9 : (parseMethodDescriptor "(II)V").map (fun d => d.parameters.length) = some 2 := by decide +kernel
theorem kd10 : (parseMethodDescriptor "(II)Z").map (fun d => d.parameters.length) = some 2 := by decide +kernel
theorem kd11 : (parseMethodDescriptor "(III)I").map (fun d => d.parameters.length) = some 3 := by decide +kernel
theorem kd12 : (parseMethodDescriptor "(III)V").map (fun d => d.parameters.length) = some 3 := by decide +kernel
theorem kd13 : (parseMethodDescriptor "(III)Z").map (fun d => d.parameters.length) = some 3 := by decide +kernel
theorem kd14 : (parseMethodDescriptor "(IIII)I").map (fun d => d.parameters.length) = some 4 := by decide +kernel
theorem kd15 : (parseMethodDescriptor "(IIIII)I").map (fun d => d.parameters.length) = some 5 := by decide +kernel
theorem kd16 : (parseMethodDescriptor "(II[I)I").map (fun d => d.parameters.length) = some 3 := by decide +kernel
theorem kd17 : (parseMethodDescriptor "(II[I)V").map (fun d => d.parameters.length) = some 3 := by decide +kernel
theorem kd18 : (parseMethodDescriptor "(ILGorgeRocks$Row;)Z").map (fun d => d.parameters.length) = some 2 := by decide +kernel
theorem kd19 : (parseMethodDescriptor "(I[I)I").map (fun d => d.parameters.length) = some 2 := by decide +kernel
theorem kd20 : (parseMethodDescriptor "(I[I)V").map (fun d => d.parameters.length) = some 2 := by decide +kernel
theorem kd21 : (parseMethodDescriptor "(J)I").map (fun d => d.parameters.length) = some 1 := by decide +kernel
theorem kd22 : (parseMethodDescriptor "(JI)I").map (fun d => d.parameters.length) = some 2 := by decide +kernel
theorem kd23 : (parseMethodDescriptor "(LGorgeRocks$Journal;)V").map (fun d => d.parameters.length) = some 1 := by decide +kernel
theorem kd24 : (parseMethodDescriptor "(LGorgeRocks$Rock;)V").map (fun d => d.parameters.length) = some 1 := by decide +kernel
theorem kd25 : (parseMethodDescriptor "(LGorgeRocks$Rock;III)I").map (fun d => d.parameters.length) = some 4 := by decide +kernel
theorem kd26 : (parseMethodDescriptor "(LGorgeRocks$Rock;LGorgeRocks$Row;)V").map (fun d => d.parameters.length) = some 2 := by decide +kernel
theorem kd27 : (parseMethodDescriptor "(LGorgeRocks$Row;)I").map (fun d => d.parameters.length) = some 1 := by decide +kernel
theorem kd28 : (parseMethodDescriptor "(LGorgeRocks$Row;)V").map (fun d => d.parameters.length) = some 1 := by decide +kernel
theorem kd29 : (parseMethodDescriptor "(LGorgeRocks$Row;)Z").map (fun d => d.parameters.length) = some 1 := by decide +kernel
theorem kd30 : (parseMethodDescriptor "(LGorgeRocks$Row;I)I").map (fun d => d.parameters.length) = some 2 := by decide +kernel
theorem kd31 : (parseMethodDescriptor "(LGorgeRocks$Row;I)V").map (fun d => d.parameters.length) = some 2 := by decide +kernel
theorem kd32 : (parseMethodDescriptor "(LGorgeRocks$Row;I)Z").map (fun d => d.parameters.length) = some 2 := by decide +kernel
theorem kd33 : (parseMethodDescriptor "(LGorgeRocks$Row;LGorgeRocks$Row;)I").map (fun d => d.parameters.length) = some 2 := by decide +kernel
theorem kd34 : (parseMethodDescriptor "(LGorgeRocks$Row;LGorgeRocks$Row;I)I").map (fun d => d.parameters.length) = some 3 := by decide +kernel
theorem kd35 : (parseMethodDescriptor "(LGorgeRocks$Row;LGorgeRocks$Row;LGorgeRocks$Row;)V").map (fun d => d.parameters.length) = some 3 := by decide +kernel
theorem kd36 : (parseMethodDescriptor "(LGorgeRocks$Row;Ljava/lang/String;)I").map (fun d => d.parameters.length) = some 2 := by decide +kernel
theorem kd37 : (parseMethodDescriptor "(LGorgeRocks$World;)V").map (fun d => d.parameters.length) = some 1 := by decide +kernel
theorem kd38 : (parseMethodDescriptor "(LGorgeRocks$World;ILGorgeRocks$Row;I)I").map (fun d => d.parameters.length) = some 4 := by decide +kernel
theorem kd39 : (parseMethodDescriptor "(LGorgeRocks$World;LGorgeRocks$Row;)V").map (fun d => d.parameters.length) = some 2 := by decide +kernel
theorem kd40 : (parseMethodDescriptor "(LGorgeRocks$World;LGorgeRocks$Row;I)V").map (fun d => d.parameters.length) = some 3 := by decide +kernel
theorem kd41 : (parseMethodDescriptor "(LGorgeRocks$World;LGorgeRocks$Row;LGorgeRocks$Row;I)V").map (fun d => d.parameters.length) = some 4 := by decide +kernel
theorem kd42 : (parseMethodDescriptor "(Z)V").map (fun d => d.parameters.length) = some 1 := by decide +kernel
theorem kd43 : (parseMethodDescriptor "([I)I").map (fun d => d.parameters.length) = some 1 := by decide +kernel
theorem kd44 : (parseMethodDescriptor "([I)V").map (fun d => d.parameters.length) = some 1 := by decide +kernel
theorem kd45 : (parseMethodDescriptor "([II)I").map (fun d => d.parameters.length) = some 2 := by decide +kernel
theorem kd46 : (parseMethodDescriptor "([II)V").map (fun d => d.parameters.length) = some 2 := by decide +kernel
theorem kd47 : (parseMethodDescriptor "([III)V").map (fun d => d.parameters.length) = some 3 := by decide +kernel
theorem kd48 : (parseMethodDescriptor "([I[I)V").map (fun d => d.parameters.length) = some 2 := by decide +kernel
theorem kd49 : (parseMethodDescriptor "([I[I)Z").map (fun d => d.parameters.length) = some 2 := by decide +kernel
theorem xmk_mk {cm : Nat} (h1 : xwq (xcp cm) [16, cm] = true) (h2 : plainName (xy cm).cls = true ∧ ((xy cm).cls ≠ "java/lang/invoke/MethodHandle" ∧ (xy cm).cls ≠ "java/lang/invoke/VarHandle")) (h5 : (parseMethodDescriptor (xy cm).desc).map (fun d => d.parameters.length) = some (xn cm)) (h6 : (Nat.ble (xm cm) 20 && Nat.ble (cm + 1) xlaw) = true) (h7 : (xy cm).cls = xRn (xo cm)) : xmok cm = true := by
  rw [Bool.and_eq_true] at h6
  unfold xmok
  simp only [Bool.and_eq_true, decide_eq_true_eq]
  exact ⟨of_decide_eq_true (xwq_ok h1 rfl), h2.1, h2.2.1, h2.2.2, h5, h6.1, h7, h6.2⟩
theorem xmk_0 : xmok 0 = true := xmk_mk (by decide +kernel) kc0 kd2 (by decide +kernel) rfl
theorem xmk_1 : xmok 1 = true := xmk_mk (by decide +kernel) kc0 kd9 (by decide +kernel) rfl
theorem xmk_2 : xmok 2 = true := xmk_mk (by decide +kernel) kc0 kd41 (by decide +kernel) rfl
theorem xmk_3 : xmok 3 = true := xmk_mk (by decide +kernel) kc0 kd38 (by decide +kernel) rfl
theorem xmk_4 : xmok 4 = true := xmk_mk (by decide +kernel) kc1 kd2 (by decide +kernel) rfl
theorem xmk_5 : xmok 5 = true := xmk_mk (by decide +kernel) kc1 kd27 (by decide +kernel) rfl
theorem xmk_6 : xmok 6 = true := xmk_mk (by decide +kernel) kc1 kd32 (by decide +kernel) rfl
theorem xmk_7 : xmok 7 = true := xmk_mk (by decide +kernel) kc1 kd0 (by decide +kernel) rfl
theorem xmk_8 : xmok 8 = true := xmk_mk (by decide +kernel) kc1 kd7 (by decide +kernel) rfl
theorem xmk_9 : xmok 9 = true := xmk_mk (by decide +kernel) kc1 kd0 (by decide +kernel) rfl
theorem xmk_10 : xmok 10 = true := xmk_mk (by decide +kernel) kc1 kd7 (by decide +kernel) rfl
theorem xmk_11 : xmok 11 = true := xmk_mk (by decide +kernel) kc2 kd2 (by decide +kernel) rfl
theorem xmk_12 : xmok 12 = true := xmk_mk (by decide +kernel) kc2 kd1 (by decide +kernel) rfl
theorem xmk_13 : xmok 13 = true := xmk_mk (by decide +kernel) kc2 kd5 (by decide +kernel) rfl
theorem xmk_14 : xmok 14 = true := xmk_mk (by decide +kernel) kc2 kd23 (by decide +kernel) rfl
theorem xmk_15 : xmok 15 = true := xmk_mk (by decide +kernel) kc3 kd2 (by decide +kernel) rfl
theorem xmk_16 : xmok 16 = true := xmk_mk (by decide +kernel) kc3 kd40 (by decide +kernel) rfl
theorem xmk_17 : xmok 17 = true := xmk_mk (by decide +kernel) kc3 kd39 (by decide +kernel) rfl
theorem xmk_18 : xmok 18 = true := xmk_mk (by decide +kernel) kc3 kd28 (by decide +kernel) rfl
theorem xmk_19 : xmok 19 = true := xmk_mk (by decide +kernel) kc3 kd4 (by decide +kernel) rfl
theorem xmk_20 : xmok 20 = true := xmk_mk (by decide +kernel) kc3 kd0 (by decide +kernel) rfl
theorem xmk_21 : xmok 21 = true := xmk_mk (by decide +kernel) kc4 kd2 (by decide +kernel) rfl
theorem xmk_22 : xmok 22 = true := xmk_mk (by decide +kernel) kc4 kd36 (by decide +kernel) rfl
theorem xmk_23 : xmok 23 = true := xmk_mk (by decide +kernel) kc4 kd0 (by decide +kernel) rfl
theorem xmk_24 : xmok 24 = true := xmk_mk (by decide +kernel) kc4 kd4 (by decide +kernel) rfl
theorem xmk_25 : xmok 25 = true := xmk_mk (by decide +kernel) kc4 kd10 (by decide +kernel) rfl
theorem xmk_26 : xmok 26 = true := xmk_mk (by decide +kernel) kc4 kd7 (by decide +kernel) rfl
theorem xmk_27 : xmok 27 = true := xmk_mk (by decide +kernel) kc4 kd7 (by decide +kernel) rfl
theorem xmk_28 : xmok 28 = true := xmk_mk (by decide +kernel) kc4 kd7 (by decide +kernel) rfl
theorem xmk_29 : xmok 29 = true := xmk_mk (by decide +kernel) kc4 kd2 (by decide +kernel) rfl
theorem xmk_30 : xmok 30 = true := xmk_mk (by decide +kernel) kc4 kd7 (by decide +kernel) rfl
theorem xmk_31 : xmok 31 = true := xmk_mk (by decide +kernel) kc5 kd2 (by decide +kernel) rfl
theorem xmk_32 : xmok 32 = true := xmk_mk (by decide +kernel) kc5 kd4 (by decide +kernel) rfl
theorem xmk_33 : xmok 33 = true := xmk_mk (by decide +kernel) kc5 kd9 (by decide +kernel) rfl
theorem xmk_34 : xmok 34 = true := xmk_mk (by decide +kernel) kc5 kd24 (by decide +kernel) rfl
theorem xmk_35 : xmok 35 = true := xmk_mk (by decide +kernel) kc5 kd3 (by decide +kernel) rfl
theorem xmk_36 : xmok 36 = true := xmk_mk (by decide +kernel) kc6 kd6 (by decide +kernel) rfl
theorem xmk_37 : xmok 37 = true := xmk_mk (by decide +kernel) kc6 kd2 (by decide +kernel) rfl
theorem xmk_38 : xmok 38 = true := xmk_mk (by decide +kernel) kc6 kd7 (by decide +kernel) rfl
theorem xmk_39 : xmok 39 = true := xmk_mk (by decide +kernel) kc6 kd28 (by decide +kernel) rfl
theorem xmk_40 : xmok 40 = true := xmk_mk (by decide +kernel) kc6 kd27 (by decide +kernel) rfl
theorem xmk_41 : xmok 41 = true := xmk_mk (by decide +kernel) kc6 kd29 (by decide +kernel) rfl
theorem xmk_42 : xmok 42 = true := xmk_mk (by decide +kernel) kc6 kd0 (by decide +kernel) rfl
theorem xmk_43 : xmok 43 = true := xmk_mk (by decide +kernel) kc6 kd42 (by decide +kernel) rfl
theorem xmk_44 : xmok 44 = true := xmk_mk (by decide +kernel) kc6 kd2 (by decide +kernel) rfl
theorem xmk_45 : xmok 45 = true := xmk_mk (by decide +kernel) kc6 kd2 (by decide +kernel) rfl
theorem xmk_46 : xmok 46 = true := xmk_mk (by decide +kernel) kc6 kd6 (by decide +kernel) rfl
theorem xmk_47 : xmok 47 = true := xmk_mk (by decide +kernel) kc7 kd2 (by decide +kernel) rfl
theorem xmk_48 : xmok 48 = true := xmk_mk (by decide +kernel) kc7 kd3 (by decide +kernel) rfl
theorem xmk_49 : xmok 49 = true := xmk_mk (by decide +kernel) kc7 kd9 (by decide +kernel) rfl
theorem xmk_50 : xmok 50 = true := xmk_mk (by decide +kernel) kc7 kd4 (by decide +kernel) rfl
theorem xmk_51 : xmok 51 = true := xmk_mk (by decide +kernel) kc7 kd10 (by decide +kernel) rfl
theorem xmk_52 : xmok 52 = true := xmk_mk (by decide +kernel) kc8 kd2 (by decide +kernel) rfl
theorem xmk_53 : xmok 53 = true := xmk_mk (by decide +kernel) kc8 kd25 (by decide +kernel) rfl
theorem xmk_54 : xmok 54 = true := xmk_mk (by decide +kernel) kc8 kd14 (by decide +kernel) rfl
theorem xmk_55 : xmok 55 = true := xmk_mk (by decide +kernel) kc8 kd4 (by decide +kernel) rfl
theorem xmk_56 : xmok 56 = true := xmk_mk (by decide +kernel) kc8 kd8 (by decide +kernel) rfl
theorem xmk_57 : xmok 57 = true := xmk_mk (by decide +kernel) kc9 kd2 (by decide +kernel) rfl
theorem xmk_58 : xmok 58 = true := xmk_mk (by decide +kernel) kc9 kd3 (by decide +kernel) rfl
theorem xmk_59 : xmok 59 = true := xmk_mk (by decide +kernel) kc9 kd43 (by decide +kernel) rfl
theorem xmk_60 : xmok 60 = true := xmk_mk (by decide +kernel) kc9 kd19 (by decide +kernel) rfl
theorem xmk_61 : xmok 61 = true := xmk_mk (by decide +kernel) kc9 kd11 (by decide +kernel) rfl
theorem xmk_62 : xmok 62 = true := xmk_mk (by decide +kernel) kc10 kd2 (by decide +kernel) rfl
theorem xmk_63 : xmok 63 = true := xmk_mk (by decide +kernel) kc10 kd37 (by decide +kernel) rfl
theorem xmk_64 : xmok 64 = true := xmk_mk (by decide +kernel) kc10 kd0 (by decide +kernel) rfl
theorem xmk_65 : xmok 65 = true := xmk_mk (by decide +kernel) kc10 kd18 (by decide +kernel) rfl
theorem xmk_66 : xmok 66 = true := xmk_mk (by decide +kernel) kc10 kd26 (by decide +kernel) rfl
theorem xmk_67 : xmok 67 = true := xmk_mk (by decide +kernel) kc10 kd31 (by decide +kernel) rfl
theorem xmk_68 : xmok 68 = true := xmk_mk (by decide +kernel) kc10 kd35 (by decide +kernel) rfl
theorem xmk_69 : xmok 69 = true := xmk_mk (by decide +kernel) kc10 kd9 (by decide +kernel) rfl
theorem xmk_70 : xmok 70 = true := xmk_mk (by decide +kernel) kc10 kd12 (by decide +kernel) rfl
theorem xmk_71 : xmok 71 = true := xmk_mk (by decide +kernel) kc10 kd2 (by decide +kernel) rfl
theorem xmk_72 : xmok 72 = true := xmk_mk (by decide +kernel) kc10 kd14 (by decide +kernel) rfl
theorem xmk_73 : xmok 73 = true := xmk_mk (by decide +kernel) kc11 kd2 (by decide +kernel) rfl
theorem xmk_74 : xmok 74 = true := xmk_mk (by decide +kernel) kc11 kd0 (by decide +kernel) rfl
theorem xmk_75 : xmok 75 = true := xmk_mk (by decide +kernel) kc11 kd8 (by decide +kernel) rfl
theorem xmk_76 : xmok 76 = true := xmk_mk (by decide +kernel) kc11 kd8 (by decide +kernel) rfl
theorem xmk_77 : xmok 77 = true := xmk_mk (by decide +kernel) kc11 kd4 (by decide +kernel) rfl
theorem xmk_78 : xmok 78 = true := xmk_mk (by decide +kernel) kc11 kd8 (by decide +kernel) rfl
theorem xmk_79 : xmok 79 = true := xmk_mk (by decide +kernel) kc11 kd4 (by decide +kernel) rfl
theorem xmk_80 : xmok 80 = true := xmk_mk (by decide +kernel) kc11 kd8 (by decide +kernel) rfl
theorem xmk_81 : xmok 81 = true := xmk_mk (by decide +kernel) kc11 kd8 (by decide +kernel) rfl
theorem xmk_82 : xmok 82 = true := xmk_mk (by decide +kernel) kc11 kd8 (by decide +kernel) rfl
theorem xmk_83 : xmok 83 = true := xmk_mk (by decide +kernel) kc11 kd11 (by decide +kernel) rfl
theorem xmk_84 : xmok 84 = true := xmk_mk (by decide +kernel) kc11 kd22 (by decide +kernel) rfl
theorem xmk_85 : xmok 85 = true := xmk_mk (by decide +kernel) kc11 kd4 (by decide +kernel) rfl
theorem xmk_86 : xmok 86 = true := xmk_mk (by decide +kernel) kc11 kd4 (by decide +kernel) rfl
theorem xmk_87 : xmok 87 = true := xmk_mk (by decide +kernel) kc11 kd11 (by decide +kernel) rfl
theorem xmk_88 : xmok 88 = true := xmk_mk (by decide +kernel) kc11 kd8 (by decide +kernel) rfl
theorem xmk_89 : xmok 89 = true := xmk_mk (by decide +kernel) kc11 kd4 (by decide +kernel) rfl
theorem xmk_90 : xmok 90 = true := xmk_mk (by decide +kernel) kc11 kd11 (by decide +kernel) rfl
theorem xmk_91 : xmok 91 = true := xmk_mk (by decide +kernel) kc11 kd8 (by decide +kernel) rfl
theorem xmk_92 : xmok 92 = true := xmk_mk (by decide +kernel) kc11 kd11 (by decide +kernel) rfl
theorem xmk_93 : xmok 93 = true := xmk_mk (by decide +kernel) kc11 kd11 (by decide +kernel) rfl
theorem xmk_94 : xmok 94 = true := xmk_mk (by decide +kernel) kc11 kd8 (by decide +kernel) rfl
theorem xmk_95 : xmok 95 = true := xmk_mk (by decide +kernel) kc11 kd11 (by decide +kernel) rfl
theorem xmk_96 : xmok 96 = true := xmk_mk (by decide +kernel) kc11 kd8 (by decide +kernel) rfl
theorem xmk_97 : xmok 97 = true := xmk_mk (by decide +kernel) kc11 kd11 (by decide +kernel) rfl
theorem xmk_98 : xmok 98 = true := xmk_mk (by decide +kernel) kc11 kd4 (by decide +kernel) rfl
theorem xmk_99 : xmok 99 = true := xmk_mk (by decide +kernel) kc11 kd4 (by decide +kernel) rfl
theorem xmk_100 : xmok 100 = true := xmk_mk (by decide +kernel) kc11 kd8 (by decide +kernel) rfl
theorem xmk_101 : xmok 101 = true := xmk_mk (by decide +kernel) kc11 kd8 (by decide +kernel) rfl
theorem xmk_102 : xmok 102 = true := xmk_mk (by decide +kernel) kc11 kd4 (by decide +kernel) rfl
theorem xmk_103 : xmok 103 = true := xmk_mk (by decide +kernel) kc11 kd8 (by decide +kernel) rfl
theorem xmk_104 : xmok 104 = true := xmk_mk (by decide +kernel) kc11 kd15 (by decide +kernel) rfl
theorem xmk_105 : xmok 105 = true := xmk_mk (by decide +kernel) kc11 kd4 (by decide +kernel) rfl
theorem xmk_106 : xmok 106 = true := xmk_mk (by decide +kernel) kc11 kd11 (by decide +kernel) rfl
theorem xmk_107 : xmok 107 = true := xmk_mk (by decide +kernel) kc11 kd4 (by decide +kernel) rfl
theorem xmk_108 : xmok 108 = true := xmk_mk (by decide +kernel) kc11 kd11 (by decide +kernel) rfl
theorem xmk_109 : xmok 109 = true := xmk_mk (by decide +kernel) kc11 kd11 (by decide +kernel) rfl
theorem xmk_110 : xmok 110 = true := xmk_mk (by decide +kernel) kc11 kd15 (by decide +kernel) rfl
theorem xmk_111 : xmok 111 = true := xmk_mk (by decide +kernel) kc11 kd8 (by decide +kernel) rfl
theorem xmk_112 : xmok 112 = true := xmk_mk (by decide +kernel) kc11 kd0 (by decide +kernel) rfl
theorem xmk_113 : xmok 113 = true := xmk_mk (by decide +kernel) kc11 kd0 (by decide +kernel) rfl
theorem xmk_114 : xmok 114 = true := xmk_mk (by decide +kernel) kc11 kd4 (by decide +kernel) rfl
theorem xmk_115 : xmok 115 = true := xmk_mk (by decide +kernel) kc11 kd8 (by decide +kernel) rfl
theorem xmk_116 : xmok 116 = true := xmk_mk (by decide +kernel) kc11 kd4 (by decide +kernel) rfl
theorem xmk_117 : xmok 117 = true := xmk_mk (by decide +kernel) kc11 kd4 (by decide +kernel) rfl
theorem xmk_118 : xmok 118 = true := xmk_mk (by decide +kernel) kc11 kd4 (by decide +kernel) rfl
theorem xmk_119 : xmok 119 = true := xmk_mk (by decide +kernel) kc11 kd30 (by decide +kernel) rfl
theorem xmk_120 : xmok 120 = true := xmk_mk (by decide +kernel) kc11 kd7 (by decide +kernel) rfl
theorem xmk_121 : xmok 121 = true := xmk_mk (by decide +kernel) kc11 kd7 (by decide +kernel) rfl
theorem xmk_122 : xmok 122 = true := xmk_mk (by decide +kernel) kc11 kd7 (by decide +kernel) rfl
theorem xmk_123 : xmok 123 = true := xmk_mk (by decide +kernel) kc11 kd7 (by decide +kernel) rfl
theorem xmk_124 : xmok 124 = true := xmk_mk (by decide +kernel) kc11 kd7 (by decide +kernel) rfl
theorem xmk_125 : xmok 125 = true := xmk_mk (by decide +kernel) kc11 kd7 (by decide +kernel) rfl
theorem xmk_126 : xmok 126 = true := xmk_mk (by decide +kernel) kc11 kd10 (by decide +kernel) rfl
theorem xmk_127 : xmok 127 = true := xmk_mk (by decide +kernel) kc11 kd10 (by decide +kernel) rfl
theorem xmk_128 : xmok 128 = true := xmk_mk (by decide +kernel) kc11 kd33 (by decide +kernel) rfl
theorem xmk_129 : xmok 129 = true := xmk_mk (by decide +kernel) kc11 kd34 (by decide +kernel) rfl
theorem xmk_130 : xmok 130 = true := xmk_mk (by decide +kernel) kc11 kd7 (by decide +kernel) rfl
theorem xmk_131 : xmok 131 = true := xmk_mk (by decide +kernel) kc11 kd7 (by decide +kernel) rfl
theorem xmk_132 : xmok 132 = true := xmk_mk (by decide +kernel) kc11 kd4 (by decide +kernel) rfl
theorem xmk_133 : xmok 133 = true := xmk_mk (by decide +kernel) kc11 kd4 (by decide +kernel) rfl
theorem xmk_134 : xmok 134 = true := xmk_mk (by decide +kernel) kc12 kd2 (by decide +kernel) rfl
theorem xmk_135 : xmok 135 = true := xmk_mk (by decide +kernel) kc12 kd4 (by decide +kernel) rfl
theorem xmk_136 : xmok 136 = true := xmk_mk (by decide +kernel) kc12 kd13 (by decide +kernel) rfl
theorem xmk_137 : xmok 137 = true := xmk_mk (by decide +kernel) kc12 kd11 (by decide +kernel) rfl
theorem xmk_138 : xmok 138 = true := xmk_mk (by decide +kernel) kc12 kd48 (by decide +kernel) rfl
theorem xmk_139 : xmok 139 = true := xmk_mk (by decide +kernel) kc12 kd7 (by decide +kernel) rfl
theorem xmk_140 : xmok 140 = true := xmk_mk (by decide +kernel) kc12 kd7 (by decide +kernel) rfl
theorem xmk_141 : xmok 141 = true := xmk_mk (by decide +kernel) kc12 kd8 (by decide +kernel) rfl
theorem xmk_142 : xmok 142 = true := xmk_mk (by decide +kernel) kc12 kd7 (by decide +kernel) rfl
theorem xmk_143 : xmok 143 = true := xmk_mk (by decide +kernel) kc12 kd4 (by decide +kernel) rfl
theorem xmk_144 : xmok 144 = true := xmk_mk (by decide +kernel) kc12 kd49 (by decide +kernel) rfl
theorem xmk_145 : xmok 145 = true := xmk_mk (by decide +kernel) kc12 kd20 (by decide +kernel) rfl
theorem xmk_146 : xmok 146 = true := xmk_mk (by decide +kernel) kc12 kd46 (by decide +kernel) rfl
theorem xmk_147 : xmok 147 = true := xmk_mk (by decide +kernel) kc12 kd44 (by decide +kernel) rfl
theorem xmk_148 : xmok 148 = true := xmk_mk (by decide +kernel) kc12 kd47 (by decide +kernel) rfl
theorem xmk_149 : xmok 149 = true := xmk_mk (by decide +kernel) kc12 kd46 (by decide +kernel) rfl
theorem xmk_150 : xmok 150 = true := xmk_mk (by decide +kernel) kc12 kd46 (by decide +kernel) rfl
theorem xmk_151 : xmok 151 = true := xmk_mk (by decide +kernel) kc12 kd20 (by decide +kernel) rfl
theorem xmk_152 : xmok 152 = true := xmk_mk (by decide +kernel) kc12 kd7 (by decide +kernel) rfl
theorem xmk_153 : xmok 153 = true := xmk_mk (by decide +kernel) kc12 kd4 (by decide +kernel) rfl
theorem xmk_154 : xmok 154 = true := xmk_mk (by decide +kernel) kc12 kd8 (by decide +kernel) rfl
theorem xmk_155 : xmok 155 = true := xmk_mk (by decide +kernel) kc12 kd20 (by decide +kernel) rfl
theorem xmk_156 : xmok 156 = true := xmk_mk (by decide +kernel) kc12 kd17 (by decide +kernel) rfl
theorem xmk_157 : xmok 157 = true := xmk_mk (by decide +kernel) kc12 kd7 (by decide +kernel) rfl
theorem xmk_158 : xmok 158 = true := xmk_mk (by decide +kernel) kc12 kd17 (by decide +kernel) rfl
theorem xmk_159 : xmok 159 = true := xmk_mk (by decide +kernel) kc12 kd0 (by decide +kernel) rfl
theorem xmk_160 : xmok 160 = true := xmk_mk (by decide +kernel) kc12 kd8 (by decide +kernel) rfl
theorem xmk_161 : xmok 161 = true := xmk_mk (by decide +kernel) kc12 kd45 (by decide +kernel) rfl
theorem xmk_162 : xmok 162 = true := xmk_mk (by decide +kernel) kc12 kd8 (by decide +kernel) rfl
theorem xmk_163 : xmok 163 = true := xmk_mk (by decide +kernel) kc12 kd4 (by decide +kernel) rfl
theorem xmk_164 : xmok 164 = true := xmk_mk (by decide +kernel) kc12 kd0 (by decide +kernel) rfl
theorem xmk_165 : xmok 165 = true := xmk_mk (by decide +kernel) kc12 kd8 (by decide +kernel) rfl
theorem xmk_166 : xmok 166 = true := xmk_mk (by decide +kernel) kc12 kd4 (by decide +kernel) rfl
theorem xmk_167 : xmok 167 = true := xmk_mk (by decide +kernel) kc12 kd8 (by decide +kernel) rfl
theorem xmk_168 : xmok 168 = true := xmk_mk (by decide +kernel) kc12 kd8 (by decide +kernel) rfl
theorem xmk_169 : xmok 169 = true := xmk_mk (by decide +kernel) kc12 kd10 (by decide +kernel) rfl
theorem xmk_170 : xmok 170 = true := xmk_mk (by decide +kernel) kc12 kd8 (by decide +kernel) rfl
theorem xmk_171 : xmok 171 = true := xmk_mk (by decide +kernel) kc12 kd11 (by decide +kernel) rfl
theorem xmk_172 : xmok 172 = true := xmk_mk (by decide +kernel) kc12 kd22 (by decide +kernel) rfl
theorem xmk_173 : xmok 173 = true := xmk_mk (by decide +kernel) kc12 kd0 (by decide +kernel) rfl
theorem xmk_174 : xmok 174 = true := xmk_mk (by decide +kernel) kc12 kd7 (by decide +kernel) rfl
theorem xmk_175 : xmok 175 = true := xmk_mk (by decide +kernel) kc12 kd9 (by decide +kernel) rfl
theorem xmk_176 : xmok 176 = true := xmk_mk (by decide +kernel) kc12 kd3 (by decide +kernel) rfl
theorem xmk_177 : xmok 177 = true := xmk_mk (by decide +kernel) kc12 kd3 (by decide +kernel) rfl
theorem xmk_178 : xmok 178 = true := xmk_mk (by decide +kernel) kc12 kd3 (by decide +kernel) rfl
theorem xmk_179 : xmok 179 = true := xmk_mk (by decide +kernel) kc12 kd3 (by decide +kernel) rfl
theorem xmk_180 : xmok 180 = true := xmk_mk (by decide +kernel) kc12 kd3 (by decide +kernel) rfl
theorem xmk_181 : xmok 181 = true := xmk_mk (by decide +kernel) kc12 kd3 (by decide +kernel) rfl
theorem xmk_182 : xmok 182 = true := xmk_mk (by decide +kernel) kc12 kd3 (by decide +kernel) rfl
theorem xmk_183 : xmok 183 = true := xmk_mk (by decide +kernel) kc12 kd7 (by decide +kernel) rfl
theorem xmk_184 : xmok 184 = true := xmk_mk (by decide +kernel) kc12 kd4 (by decide +kernel) rfl
theorem xmk_185 : xmok 185 = true := xmk_mk (by decide +kernel) kc12 kd4 (by decide +kernel) rfl
theorem xmk_186 : xmok 186 = true := xmk_mk (by decide +kernel) kc12 kd11 (by decide +kernel) rfl
theorem xmk_187 : xmok 187 = true := xmk_mk (by decide +kernel) kc12 kd4 (by decide +kernel) rfl
theorem xmk_188 : xmok 188 = true := xmk_mk (by decide +kernel) kc12 kd11 (by decide +kernel) rfl
theorem xmk_189 : xmok 189 = true := xmk_mk (by decide +kernel) kc12 kd8 (by decide +kernel) rfl
theorem xmk_190 : xmok 190 = true := xmk_mk (by decide +kernel) kc12 kd4 (by decide +kernel) rfl
theorem xmk_191 : xmok 191 = true := xmk_mk (by decide +kernel) kc12 kd11 (by decide +kernel) rfl
theorem xmk_192 : xmok 192 = true := xmk_mk (by decide +kernel) kc12 kd16 (by decide +kernel) rfl
theorem xmk_193 : xmok 193 = true := xmk_mk (by decide +kernel) kc12 kd8 (by decide +kernel) rfl
theorem xmk_194 : xmok 194 = true := xmk_mk (by decide +kernel) kc12 kd11 (by decide +kernel) rfl
theorem xmk_195 : xmok 195 = true := xmk_mk (by decide +kernel) kc12 kd11 (by decide +kernel) rfl
theorem xmk_196 : xmok 196 = true := xmk_mk (by decide +kernel) kc12 kd9 (by decide +kernel) rfl
theorem xmk_197 : xmok 197 = true := xmk_mk (by decide +kernel) kc12 kd8 (by decide +kernel) rfl
theorem xmk_198 : xmok 198 = true := xmk_mk (by decide +kernel) kc12 kd4 (by decide +kernel) rfl
theorem xmk_199 : xmok 199 = true := xmk_mk (by decide +kernel) kc12 kd11 (by decide +kernel) rfl
theorem xmk_200 : xmok 200 = true := xmk_mk (by decide +kernel) kc12 kd8 (by decide +kernel) rfl
theorem xmk_201 : xmok 201 = true := xmk_mk (by decide +kernel) kc12 kd11 (by decide +kernel) rfl
theorem xmk_202 : xmok 202 = true := xmk_mk (by decide +kernel) kc12 kd4 (by decide +kernel) rfl
theorem xmk_203 : xmok 203 = true := xmk_mk (by decide +kernel) kc12 kd7 (by decide +kernel) rfl
theorem xmk_204 : xmok 204 = true := xmk_mk (by decide +kernel) kc12 kd3 (by decide +kernel) rfl
theorem xmk_205 : xmok 205 = true := xmk_mk (by decide +kernel) kc12 kd3 (by decide +kernel) rfl
theorem xmk_206 : xmok 206 = true := xmk_mk (by decide +kernel) kc12 kd4 (by decide +kernel) rfl
theorem xmk_207 : xmok 207 = true := xmk_mk (by decide +kernel) kc12 kd4 (by decide +kernel) rfl
theorem xmk_208 : xmok 208 = true := xmk_mk (by decide +kernel) kc12 kd8 (by decide +kernel) rfl
theorem xmk_209 : xmok 209 = true := xmk_mk (by decide +kernel) kc12 kd6 (by decide +kernel) rfl
theorem xmk_210 : xmok 210 = true := xmk_mk (by decide +kernel) kc12 kd2 (by decide +kernel) rfl
theorem xmk_211 : xmok 211 = true := xmk_mk (by decide +kernel) kc12 kd8 (by decide +kernel) rfl
theorem xmk_212 : xmok 212 = true := xmk_mk (by decide +kernel) kc12 kd4 (by decide +kernel) rfl
theorem xmk_213 : xmok 213 = true := xmk_mk (by decide +kernel) kc12 kd8 (by decide +kernel) rfl
theorem xmk_214 : xmok 214 = true := xmk_mk (by decide +kernel) kc12 kd14 (by decide +kernel) rfl
theorem xmk_215 : xmok 215 = true := xmk_mk (by decide +kernel) kc12 kd11 (by decide +kernel) rfl
theorem xmk_216 : xmok 216 = true := xmk_mk (by decide +kernel) kc12 kd15 (by decide +kernel) rfl
theorem xmk_217 : xmok 217 = true := xmk_mk (by decide +kernel) kc12 kd4 (by decide +kernel) rfl
theorem xmk_218 : xmok 218 = true := xmk_mk (by decide +kernel) kc12 kd6 (by decide +kernel) rfl
theorem xmk_219 : xmok 219 = true := xmk_mk (by decide +kernel) kc12 kd4 (by decide +kernel) rfl
theorem xmk_220 : xmok 220 = true := xmk_mk (by decide +kernel) kc12 kd0 (by decide +kernel) rfl
theorem xmk_221 : xmok 221 = true := xmk_mk (by decide +kernel) kc12 kd8 (by decide +kernel) rfl
theorem xmk_222 : xmok 222 = true := xmk_mk (by decide +kernel) kc12 kd8 (by decide +kernel) rfl
theorem xmk_223 : xmok 223 = true := xmk_mk (by decide +kernel) kc12 kd8 (by decide +kernel) rfl
theorem xmk_224 : xmok 224 = true := xmk_mk (by decide +kernel) kc12 kd8 (by decide +kernel) rfl
theorem xmk_225 : xmok 225 = true := xmk_mk (by decide +kernel) kc12 kd11 (by decide +kernel) rfl
theorem xmk_226 : xmok 226 = true := xmk_mk (by decide +kernel) kc12 kd4 (by decide +kernel) rfl
theorem xmk_227 : xmok 227 = true := xmk_mk (by decide +kernel) kc12 kd7 (by decide +kernel) rfl
theorem xmk_228 : xmok 228 = true := xmk_mk (by decide +kernel) kc12 kd11 (by decide +kernel) rfl
theorem xmk_229 : xmok 229 = true := xmk_mk (by decide +kernel) kc12 kd11 (by decide +kernel) rfl
theorem xmk_230 : xmok 230 = true := xmk_mk (by decide +kernel) kc12 kd15 (by decide +kernel) rfl
theorem xmk_231 : xmok 231 = true := xmk_mk (by decide +kernel) kc12 kd8 (by decide +kernel) rfl
theorem xmk_232 : xmok 232 = true := xmk_mk (by decide +kernel) kc12 kd0 (by decide +kernel) rfl
theorem xmk_233 : xmok 233 = true := xmk_mk (by decide +kernel) kc12 kd0 (by decide +kernel) rfl
theorem xmk_234 : xmok 234 = true := xmk_mk (by decide +kernel) kc12 kd4 (by decide +kernel) rfl
theorem xmk_235 : xmok 235 = true := xmk_mk (by decide +kernel) kc12 kd8 (by decide +kernel) rfl
theorem xmk_236 : xmok 236 = true := xmk_mk (by decide +kernel) kc12 kd4 (by decide +kernel) rfl
theorem xmk_237 : xmok 237 = true := xmk_mk (by decide +kernel) kc12 kd4 (by decide +kernel) rfl
theorem xmk_238 : xmok 238 = true := xmk_mk (by decide +kernel) kc14 kd21 (by decide +kernel) rfl
theorem xmkb0 {cm : Nat} (h1 : 0 ≤ cm) (h2 : cm < 16) : xmok cm = true := by
  rcases (show cm = 0 ∨ cm = 1 ∨ cm = 2 ∨ cm = 3 ∨ cm = 4 ∨ cm = 5 ∨ cm = 6 ∨ cm = 7 ∨ cm = 8 ∨ cm = 9 ∨ cm = 10 ∨ cm = 11 ∨ cm = 12 ∨ cm = 13 ∨ cm = 14 ∨ cm = 15 by omega) with rfl | rfl | rfl | rfl | rfl | rfl | rfl | rfl | rfl | rfl | rfl | rfl | rfl | rfl | rfl | rfl
  · exact xmk_0
  · exact xmk_1
  · exact xmk_2
  · exact xmk_3
  · exact xmk_4
  · exact xmk_5
  · exact xmk_6
  · exact xmk_7
  · exact xmk_8
  · exact xmk_9
  · exact xmk_10
  · exact xmk_11
  · exact xmk_12
  · exact xmk_13
  · exact xmk_14
  · exact xmk_15
theorem xmkb1 {cm : Nat} (h1 : 16 ≤ cm) (h2 : cm < 32) : xmok cm = true := by
  rcases (show cm = 16 ∨ cm = 17 ∨ cm = 18 ∨ cm = 19 ∨ cm = 20 ∨ cm = 21 ∨ cm = 22 ∨ cm = 23 ∨ cm = 24 ∨ cm = 25 ∨ cm = 26 ∨ cm = 27 ∨ cm = 28 ∨ cm = 29 ∨ cm = 30 ∨ cm = 31 by omega) with rfl | rfl | rfl | rfl | rfl | rfl | rfl | rfl | rfl | rfl | rfl | rfl | rfl | rfl | rfl | rfl
  · exact xmk_16
  · exact xmk_17
  · exact xmk_18
  · exact xmk_19
  · exact xmk_20
  · exact xmk_21
  · exact xmk_22
  · exact xmk_23
  · exact xmk_24
  · exact xmk_25
  · exact xmk_26
  · exact xmk_27
  · exact xmk_28
  · exact xmk_29
  · exact xmk_30
  · exact xmk_31
theorem xmkb2 {cm : Nat} (h1 : 32 ≤ cm) (h2 : cm < 48) : xmok cm = true := by
  rcases (show cm = 32 ∨ cm = 33 ∨ cm = 34 ∨ cm = 35 ∨ cm = 36 ∨ cm = 37 ∨ cm = 38 ∨ cm = 39 ∨ cm = 40 ∨ cm = 41 ∨ cm = 42 ∨ cm = 43 ∨ cm = 44 ∨ cm = 45 ∨ cm = 46 ∨ cm = 47 by omega) with rfl | rfl | rfl | rfl | rfl | rfl | rfl | rfl | rfl | rfl | rfl | rfl | rfl | rfl | rfl | rfl
  · exact xmk_32
  · exact xmk_33
  · exact xmk_34
  · exact xmk_35
  · exact xmk_36
  · exact xmk_37
  · exact xmk_38
  · exact xmk_39
  · exact xmk_40
  · exact xmk_41
  · exact xmk_42
  · exact xmk_43
  · exact xmk_44
  · exact xmk_45
  · exact xmk_46
  · exact xmk_47
theorem xmkb3 {cm : Nat} (h1 : 48 ≤ cm) (h2 : cm < 64) : xmok cm = true := by
  rcases (show cm = 48 ∨ cm = 49 ∨ cm = 50 ∨ cm = 51 ∨ cm = 52 ∨ cm = 53 ∨ cm = 54 ∨ cm = 55 ∨ cm = 56 ∨ cm = 57 ∨ cm = 58 ∨ cm = 59 ∨ cm = 60 ∨ cm = 61 ∨ cm = 62 ∨ cm = 63 by omega) with rfl | rfl | rfl | rfl | rfl | rfl | rfl | rfl | rfl | rfl | rfl | rfl | rfl | rfl | rfl | rfl
  · exact xmk_48
  · exact xmk_49
  · exact xmk_50
  · exact xmk_51
  · exact xmk_52
  · exact xmk_53
  · exact xmk_54
  · exact xmk_55
  · exact xmk_56
  · exact xmk_57
  · exact xmk_58
  · exact xmk_59
  · exact xmk_60
  · exact xmk_61
  · exact xmk_62
  · exact xmk_63
theorem xmkb4 {cm : Nat} (h1 : 64 ≤ cm) (h2 : cm < 80) : xmok cm = true := by
  rcases (show cm = 64 ∨ cm = 65 ∨ cm = 66 ∨ cm = 67 ∨ cm = 68 ∨ cm = 69 ∨ cm = 70 ∨ cm = 71 ∨ cm = 72 ∨ cm = 73 ∨ cm = 74 ∨ cm = 75 ∨ cm = 76 ∨ cm = 77 ∨ cm = 78 ∨ cm = 79 by omega) with rfl | rfl | rfl | rfl | rfl | rfl | rfl | rfl | rfl | rfl | rfl | rfl | rfl | rfl | rfl | rfl
  · exact xmk_64
  · exact xmk_65
  · exact xmk_66
  · exact xmk_67
  · exact xmk_68
  · exact xmk_69
  · exact xmk_70
  · exact xmk_71
  · exact xmk_72
  · exact xmk_73
  · exact xmk_74
  · exact xmk_75
  · exact xmk_76
  · exact xmk_77
  · exact xmk_78
  · exact xmk_79
theorem xmkb5 {cm : Nat} (h1 : 80 ≤ cm) (h2 : cm < 96) : xmok cm = true := by
  rcases (show cm = 80 ∨ cm = 81 ∨ cm = 82 ∨ cm = 83 ∨ cm = 84 ∨ cm = 85 ∨ cm = 86 ∨ cm = 87 ∨ cm = 88 ∨ cm = 89 ∨ cm = 90 ∨ cm = 91 ∨ cm = 92 ∨ cm = 93 ∨ cm = 94 ∨ cm = 95 by omega) with rfl | rfl | rfl | rfl | rfl | rfl | rfl | rfl | rfl | rfl | rfl | rfl | rfl | rfl | rfl | rfl
  · exact xmk_80
  · exact xmk_81
  · exact xmk_82
  · exact xmk_83
  · exact xmk_84
  · exact xmk_85
  · exact xmk_86
  · exact xmk_87
  · exact xmk_88
  · exact xmk_89
  · exact xmk_90
  · exact xmk_91
  · exact xmk_92
  · exact xmk_93
  · exact xmk_94
  · exact xmk_95
theorem xmkb6 {cm : Nat} (h1 : 96 ≤ cm) (h2 : cm < 112) : xmok cm = true := by
  rcases (show cm = 96 ∨ cm = 97 ∨ cm = 98 ∨ cm = 99 ∨ cm = 100 ∨ cm = 101 ∨ cm = 102 ∨ cm = 103 ∨ cm = 104 ∨ cm = 105 ∨ cm = 106 ∨ cm = 107 ∨ cm = 108 ∨ cm = 109 ∨ cm = 110 ∨ cm = 111 by omega) with rfl | rfl | rfl | rfl | rfl | rfl | rfl | rfl | rfl | rfl | rfl | rfl | rfl | rfl | rfl | rfl
  · exact xmk_96
  · exact xmk_97
  · exact xmk_98
  · exact xmk_99
  · exact xmk_100
  · exact xmk_101
  · exact xmk_102
  · exact xmk_103
  · exact xmk_104
  · exact xmk_105
  · exact xmk_106
  · exact xmk_107
  · exact xmk_108
  · exact xmk_109
  · exact xmk_110
  · exact xmk_111
theorem xmkb7 {cm : Nat} (h1 : 112 ≤ cm) (h2 : cm < 128) : xmok cm = true := by
  rcases (show cm = 112 ∨ cm = 113 ∨ cm = 114 ∨ cm = 115 ∨ cm = 116 ∨ cm = 117 ∨ cm = 118 ∨ cm = 119 ∨ cm = 120 ∨ cm = 121 ∨ cm = 122 ∨ cm = 123 ∨ cm = 124 ∨ cm = 125 ∨ cm = 126 ∨ cm = 127 by omega) with rfl | rfl | rfl | rfl | rfl | rfl | rfl | rfl | rfl | rfl | rfl | rfl | rfl | rfl | rfl | rfl
  · exact xmk_112
  · exact xmk_113
  · exact xmk_114
  · exact xmk_115
  · exact xmk_116
  · exact xmk_117
  · exact xmk_118
  · exact xmk_119
  · exact xmk_120
  · exact xmk_121
  · exact xmk_122
  · exact xmk_123
  · exact xmk_124
  · exact xmk_125
  · exact xmk_126
  · exact xmk_127
theorem xmkb8 {cm : Nat} (h1 : 128 ≤ cm) (h2 : cm < 144) : xmok cm = true := by
  rcases (show cm = 128 ∨ cm = 129 ∨ cm = 130 ∨ cm = 131 ∨ cm = 132 ∨ cm = 133 ∨ cm = 134 ∨ cm = 135 ∨ cm = 136 ∨ cm = 137 ∨ cm = 138 ∨ cm = 139 ∨ cm = 140 ∨ cm = 141 ∨ cm = 142 ∨ cm = 143 by omega) with rfl | rfl | rfl | rfl | rfl | rfl | rfl | rfl | rfl | rfl | rfl | rfl | rfl | rfl | rfl | rfl
  · exact xmk_128
  · exact xmk_129
  · exact xmk_130
  · exact xmk_131
  · exact xmk_132
  · exact xmk_133
  · exact xmk_134
  · exact xmk_135
  · exact xmk_136
  · exact xmk_137
  · exact xmk_138
  · exact xmk_139
  · exact xmk_140
  · exact xmk_141
  · exact xmk_142
  · exact xmk_143
theorem xmkb9 {cm : Nat} (h1 : 144 ≤ cm) (h2 : cm < 160) : xmok cm = true := by
  rcases (show cm = 144 ∨ cm = 145 ∨ cm = 146 ∨ cm = 147 ∨ cm = 148 ∨ cm = 149 ∨ cm = 150 ∨ cm = 151 ∨ cm = 152 ∨ cm = 153 ∨ cm = 154 ∨ cm = 155 ∨ cm = 156 ∨ cm = 157 ∨ cm = 158 ∨ cm = 159 by omega) with rfl | rfl | rfl | rfl | rfl | rfl | rfl | rfl | rfl | rfl | rfl | rfl | rfl | rfl | rfl | rfl
  · exact xmk_144
  · exact xmk_145
  · exact xmk_146
  · exact xmk_147
  · exact xmk_148
  · exact xmk_149
  · exact xmk_150
  · exact xmk_151
  · exact xmk_152
  · exact xmk_153
  · exact xmk_154
  · exact xmk_155
  · exact xmk_156
  · exact xmk_157
  · exact xmk_158
  · exact xmk_159
theorem xmkb10 {cm : Nat} (h1 : 160 ≤ cm) (h2 : cm < 176) : xmok cm = true := by
  rcases (show cm = 160 ∨ cm = 161 ∨ cm = 162 ∨ cm = 163 ∨ cm = 164 ∨ cm = 165 ∨ cm = 166 ∨ cm = 167 ∨ cm = 168 ∨ cm = 169 ∨ cm = 170 ∨ cm = 171 ∨ cm = 172 ∨ cm = 173 ∨ cm = 174 ∨ cm = 175 by omega) with rfl | rfl | rfl | rfl | rfl | rfl | rfl | rfl | rfl | rfl | rfl | rfl | rfl | rfl | rfl | rfl
  · exact xmk_160
  · exact xmk_161
  · exact xmk_162
  · exact xmk_163
  · exact xmk_164
  · exact xmk_165
  · exact xmk_166
  · exact xmk_167
  · exact xmk_168
  · exact xmk_169
  · exact xmk_170
  · exact xmk_171
  · exact xmk_172
  · exact xmk_173
  · exact xmk_174
  · exact xmk_175
theorem xmkb11 {cm : Nat} (h1 : 176 ≤ cm) (h2 : cm < 192) : xmok cm = true := by
  rcases (show cm = 176 ∨ cm = 177 ∨ cm = 178 ∨ cm = 179 ∨ cm = 180 ∨ cm = 181 ∨ cm = 182 ∨ cm = 183 ∨ cm = 184 ∨ cm = 185 ∨ cm = 186 ∨ cm = 187 ∨ cm = 188 ∨ cm = 189 ∨ cm = 190 ∨ cm = 191 by omega) with rfl | rfl | rfl | rfl | rfl | rfl | rfl | rfl | rfl | rfl | rfl | rfl | rfl | rfl | rfl | rfl
  · exact xmk_176
  · exact xmk_177
  · exact xmk_178
  · exact xmk_179
  · exact xmk_180
  · exact xmk_181
  · exact xmk_182
  · exact xmk_183
  · exact xmk_184
  · exact xmk_185
  · exact xmk_186
  · exact xmk_187
  · exact xmk_188
  · exact xmk_189
  · exact xmk_190
  · exact xmk_191
theorem xmkb12 {cm : Nat} (h1 : 192 ≤ cm) (h2 : cm < 208) : xmok cm = true := by
  rcases (show cm = 192 ∨ cm = 193 ∨ cm = 194 ∨ cm = 195 ∨ cm = 196 ∨ cm = 197 ∨ cm = 198 ∨ cm = 199 ∨ cm = 200 ∨ cm = 201 ∨ cm = 202 ∨ cm = 203 ∨ cm = 204 ∨ cm = 205 ∨ cm = 206 ∨ cm = 207 by omega) with rfl | rfl | rfl | rfl | rfl | rfl | rfl | rfl | rfl | rfl | rfl | rfl | rfl | rfl | rfl | rfl
  · exact xmk_192
  · exact xmk_193
  · exact xmk_194
  · exact xmk_195
  · exact xmk_196
  · exact xmk_197
  · exact xmk_198
  · exact xmk_199
  · exact xmk_200
  · exact xmk_201
  · exact xmk_202
  · exact xmk_203
  · exact xmk_204
  · exact xmk_205
  · exact xmk_206
  · exact xmk_207
theorem xmkb13 {cm : Nat} (h1 : 208 ≤ cm) (h2 : cm < 224) : xmok cm = true := by
  rcases (show cm = 208 ∨ cm = 209 ∨ cm = 210 ∨ cm = 211 ∨ cm = 212 ∨ cm = 213 ∨ cm = 214 ∨ cm = 215 ∨ cm = 216 ∨ cm = 217 ∨ cm = 218 ∨ cm = 219 ∨ cm = 220 ∨ cm = 221 ∨ cm = 222 ∨ cm = 223 by omega) with rfl | rfl | rfl | rfl | rfl | rfl | rfl | rfl | rfl | rfl | rfl | rfl | rfl | rfl | rfl | rfl
  · exact xmk_208
  · exact xmk_209
  · exact xmk_210
  · exact xmk_211
  · exact xmk_212
  · exact xmk_213
  · exact xmk_214
  · exact xmk_215
  · exact xmk_216
  · exact xmk_217
  · exact xmk_218
  · exact xmk_219
  · exact xmk_220
  · exact xmk_221
  · exact xmk_222
  · exact xmk_223
theorem xmkb14 {cm : Nat} (h1 : 224 ≤ cm) (h2 : cm < 239) : xmok cm = true := by
  rcases (show cm = 224 ∨ cm = 225 ∨ cm = 226 ∨ cm = 227 ∨ cm = 228 ∨ cm = 229 ∨ cm = 230 ∨ cm = 231 ∨ cm = 232 ∨ cm = 233 ∨ cm = 234 ∨ cm = 235 ∨ cm = 236 ∨ cm = 237 ∨ cm = 238 by omega) with rfl | rfl | rfl | rfl | rfl | rfl | rfl | rfl | rfl | rfl | rfl | rfl | rfl | rfl | rfl
  · exact xmk_224
  · exact xmk_225
  · exact xmk_226
  · exact xmk_227
  · exact xmk_228
  · exact xmk_229
  · exact xmk_230
  · exact xmk_231
  · exact xmk_232
  · exact xmk_233
  · exact xmk_234
  · exact xmk_235
  · exact xmk_236
  · exact xmk_237
  · exact xmk_238
theorem xmk {cm : Nat} (h : Nat.ble cm 238 = true) : xmok cm = true := by
  have h := Nat.le_of_ble_eq_true h
  by_cases q0 : cm < 16
  · exact xmkb0 (by omega) (by omega)
  by_cases q1 : cm < 32
  · exact xmkb1 (by omega) (by omega)
  by_cases q2 : cm < 48
  · exact xmkb2 (by omega) (by omega)
  by_cases q3 : cm < 64
  · exact xmkb3 (by omega) (by omega)
  by_cases q4 : cm < 80
  · exact xmkb4 (by omega) (by omega)
  by_cases q5 : cm < 96
  · exact xmkb5 (by omega) (by omega)
  by_cases q6 : cm < 112
  · exact xmkb6 (by omega) (by omega)
  by_cases q7 : cm < 128
  · exact xmkb7 (by omega) (by omega)
  by_cases q8 : cm < 144
  · exact xmkb8 (by omega) (by omega)
  by_cases q9 : cm < 160
  · exact xmkb9 (by omega) (by omega)
  by_cases q10 : cm < 176
  · exact xmkb10 (by omega) (by omega)
  by_cases q11 : cm < 192
  · exact xmkb11 (by omega) (by omega)
  by_cases q12 : cm < 208
  · exact xmkb12 (by omega) (by omega)
  by_cases q13 : cm < 224
  · exact xmkb13 (by omega) (by omega)
  by_cases q14 : cm < 239
  · exact xmkb14 (by omega) (by omega)
  omega
theorem xmk_cls {cm : Nat} (h : xmok cm = true) : (xy cm).cls = xRn (xo cm) := by
  unfold xmok at h
  simp only [Bool.and_eq_true, decide_eq_true_eq] at h
  exact h.2.2.2.2.2.2.1
theorem xTc : (List.range 13).all (fun ci => (List.range (xN ci)).all (fun kf => decide ((xT ci kf).1 = xRn ci))) = true := by decide +kernel
theorem xTc_ok {ci kf : Nat} (h1 : Nat.ble (ci + 1) 13 = true) (h2 : Nat.ble (kf + 1) (xN ci) = true) : decide ((xT ci kf).1 = xRn ci) = true := List.all_eq_true.mp (List.all_eq_true.mp xTc ci (List.mem_range.mpr (Nat.le_of_ble_eq_true h1))) kf (List.mem_range.mpr (Nat.le_of_ble_eq_true h2))
-- ===== the rows by numbers
def xlnkN (mi idx p cm : Nat) : Bool := match Nat.ble 5000 p with
  | true => decide (xnest[p - 5000]? = some (xo mi, idx, cm))
  | false => xwq p [0, xo mi, idx, cm]
theorem xlnkN_ok {mi idx p cm : Nat} (h : xlnkN mi idx p cm = true) : xlnk mi idx p cm = true := by
  unfold xlnkN at h
  unfold xlnk
  cases e : Nat.ble 5000 p with
  | true => rw [e] at h; exact h
  | false => rw [e] at h; exact xwq_ok h rfl
def xfsN (mi idx : Nat) (ax : List Nat) : Bool := match ax with
  | [p, ci, kf] => xwq p [1, xo mi, idx, ci, kf] && (Nat.ble (ci + 1) 13 && Nat.ble (kf + 1) (xN ci))
  | _ => false
def xivN (mi idx k : Nat) (ax : List Nat) : Bool := match ax with
  | [p, cm, a, b] => xlnkN mi idx p cm && (xwq a [k, cm] && (xwq b [5, xo cm] && Nat.ble cm 238))
  | _ => false
def xvvN (mi idx : Nat) (ax : List Nat) : Bool := match ax with
  | [p, cm, a, b, d] => xlnkN mi idx p cm && (xwq a [13, cm] && (xwq b [5, xo cm] && (xwq d [15, cm] && Nat.ble cm 238)))
  | _ => false
/-- which rows may go by numbers: 1 none asked, 2 by numbers, 0 not -/
def xnum (i : Instr) (ax : List Nat) : Bool := match i with
  | .getfield _ => true
  | .putfield _ => true
  | .invokestatic _ => (match ax with
    | [_, cm, _, _] => Nat.ble cm 899
    | _ => false)
  | .invokevirtual _ => (match ax with
    | [_, _, _, _, _] => true
    | _ => false)
  | .invokespecial _ => (match ax with
    | [_, cm, _, _] => Nat.ble cm 899
    | _ => false)
  | _ => false
def xauQ (mi : Nat) (i : Instr) (ax : List Nat) : Bool := match i with
  | .getfield idx => xfsN mi idx ax
  | .putfield idx => xfsN mi idx ax
  | .invokestatic idx => xivN mi idx 14 ax
  | .invokevirtual idx => xvvN mi idx ax
  | .invokespecial idx => xivN mi idx 13 ax && (match ax with
    | [_, cm, _, _] => decide ((xy cm).name = "<init>") && decide (xr cm = none)
    | _ => false)
  | _ => false
def xauN (mi : Nat) (i : Instr) (ln : Nat) (ax : List Nat) : Bool := match xnum i ax with
  | true => Nat.beq ln 3 && xauQ mi i ax
  | false => xau mi i ln ax
theorem xini {b cm : Nat} (hm : xmok cm = true) (h : xwq b [5, xo cm] = true) : decide (lw_tbl[b]? = some (.initialized (xy cm).cls)) = true := by
  rw [xmk_cls hm]
  exact xwq_ok h rfl
theorem xauN_ok {mi : Nat} {i : Instr} {ln : Nat} {ax : List Nat} (h : xauN mi i ln ax = true) : xau mi i ln ax = true := by
  unfold xauN at h
  cases hn : xnum i ax with
  | false => rw [hn] at h; exact h
  | true =>
  rw [hn] at h
  simp only [Bool.and_eq_true] at h
  obtain ⟨hl, h⟩ := h
  cases i with
  | getfield idx =>
    simp only [xauQ] at h
    unfold xfsN at h
    split at h
    · rename_i p ci kf
      simp only [Bool.and_eq_true] at h
      simp only [xau, Bool.and_eq_true]
      exact ⟨hl, xwq_ok h.1 rfl, h.2.1, h.2.2⟩
    · cases h
  | putfield idx =>
    simp only [xauQ] at h
    unfold xfsN at h
    split at h
    · rename_i p ci kf
      simp only [Bool.and_eq_true] at h
      simp only [xau, Bool.and_eq_true]
      exact ⟨hl, xwq_ok h.1 rfl, h.2.1, h.2.2, xTc_ok h.2.1 h.2.2⟩
    · cases h
  | invokestatic idx =>
    simp only [xauQ] at h
    unfold xivN at h
    split at h
    · rename_i p cm a b
      simp only [Bool.and_eq_true] at h
      have hm := xmk h.2.2.2
      simp only [xau, Bool.and_eq_true]
      exact ⟨hl, xlnkN_ok h.1, xwq_ok h.2.1 rfl, xini hm h.2.2.1, hm⟩
    · cases h
  | invokevirtual idx =>
    simp only [xauQ] at h
    unfold xvvN at h
    split at h
    · rename_i p cm a b d
      simp only [Bool.and_eq_true] at h
      have hm := xmk h.2.2.2.2
      simp only [xau, Bool.and_eq_true]
      exact ⟨hl, xlnkN_ok h.1, xwq_ok h.2.1 rfl, xini hm h.2.2.1, xwq_ok h.2.2.2.1 rfl, decide_eq_true (xmk_cls hm), hm⟩
    · cases h
  | invokespecial idx =>
    simp only [xauQ, Bool.and_eq_true] at h
    obtain ⟨h, h9⟩ := h
    unfold xivN at h
    split at h
    · rename_i p cm a b
      simp only [Bool.and_eq_true] at h h9
      have hm := xmk h.2.2.2
      have e9 : Nat.beq cm 900 = false := by
        have hn : Nat.ble cm 899 = true := hn
        have := Nat.le_of_ble_eq_true hn
        cases e : Nat.beq cm 900 with
        | false => rfl
        | true =>
          have := Nat.eq_of_beq_eq_true e
          omega
      simp only [xau, e9, Bool.and_eq_true]
      exact ⟨hl, xlnkN_ok h.1, xwq_ok h.2.1 rfl, xini hm h.2.2.1, h9.1, h9.2, hm⟩
    · cases h
  | _ => cases hn
/-- along the bytes: each row of the table -/
def xwlk (mi : Nat) (code_ : ByteArray) (T : Nat → Option (Instr × Nat × List Nat)) (l : List UInt8) (pc : Nat) : Bool := match l with
  | [] => true
  | b :: t => (match T pc with
    | none => true
    | some e => qchk code_ b t pc e && (xlnb e.1 e.2.1 && xauN mi e.1 e.2.1 e.2.2)) && xfq_ (pc + 1) (xwlk mi code_ T t)
theorem xwlk_ok {mi : Nat} {T : Nat → Option (Instr × Nat × List Nat)} : ∀ {l : List UInt8} {pc : Nat}, (xb mi).data.toList.drop pc = l → xwlk mi (xb mi) T l pc = true → ∀ j e, j < l.length → T (pc + j) = some e → xEb mi (pc + j) e = true := by
  intro l
  induction l with
  | nil => intro pc _ _ j e hj; exact absurd hj (Nat.not_lt_zero j)
  | cons b t ih =>
    intro pc hd h j e hj he
    simp only [xwlk, xfq_eq_, Bool.and_eq_true] at h
    obtain ⟨h1, h2⟩ := h
    cases j with
    | zero =>
      have he : T pc = some e := he
      rw [he] at h1
      simp only [Bool.and_eq_true] at h1
      show xEb mi pc e = true
      unfold xEb
      simp only [Bool.and_eq_true]
      exact ⟨decide_eq_true (qchk_ok hd h1.1), h1.2.1, xauN_ok h1.2.2⟩
    | succ j =>
      have hd2 : (xb mi).data.toList.drop (pc + 1) = t := by
        have q : (xb mi).data.toList.drop (pc + 1) = ((xb mi).data.toList.drop pc).drop 1 := by rw [List.drop_drop]
        rw [q, hd]
        rfl
      have k := ih hd2 h2 j e (Nat.lt_of_succ_lt_succ hj) (by rw [show pc + 1 + j = pc + (j + 1) by omega]; exact he)
      rw [show pc + (j + 1) = pc + 1 + j by omega]
      exact k
def xrow (mi M : Nat) (T : Nat → Option (Instr × Nat × List Nat)) : Bool := xwlk mi (xb mi) T (xb mi).data.toList 0 && (List.range M).all (fun pc => match T pc with
  | none => true
  | some _ => Nat.ble (pc + 1) (xb mi).data.toList.length)
theorem xrow_ok {mi M pc : Nat} {T : Nat → Option (Instr × Nat × List Nat)} {e : Instr × Nat × List Nat} (h : xrow mi M T = true) (hM : pc < M) (he : T pc = some e) : xEb mi pc e = true := by
  unfold xrow at h
  rw [Bool.and_eq_true] at h
  have k := List.all_eq_true.mp h.2 pc (List.mem_range.mpr hM)
  rw [he] at k
  have k2 := xwlk_ok (l := (xb mi).data.toList) (pc := 0) rfl h.1 pc e (Nat.le_of_ble_eq_true k) (by rw [Nat.zero_add]; exact he)
  rwa [Nat.zero_add] at k2
theorem xtk0 : (List.range 12).all (fun i => xrow (0 + i) 360 (xcd0 (0 + i))) = true := by decide +kernel
theorem xtk1 : (List.range 12).all (fun i => xrow (12 + i) 360 (xcd0 (12 + i))) = true := by decide +kernel
theorem xtk2 : (List.range 12).all (fun i => xrow (24 + i) 360 (xcd0 (24 + i))) = true := by decide +kernel
theorem xtk3 : (List.range 12).all (fun i => xrow (36 + i) 360 (xcd0 (36 + i))) = true := by decide +kernel
theorem xtk4 : (List.range 12).all (fun i => xrow (48 + i) 360 (xcd0 (48 + i))) = true := by decide +kernel
theorem xtk5 : (List.range 12).all (fun i => xrow (60 + i) 360 (xcd0 (60 + i))) = true := by decide +kernel
theorem xtk6 : (List.range 12).all (fun i => xrow (72 + i) 360 (xcd0 (72 + i))) = true := by decide +kernel
theorem xtk7 : (List.range 12).all (fun i => xrow (84 + i) 360 (xcd0 (84 + i))) = true := by decide +kernel
theorem xtk8 : (List.range 12).all (fun i => xrow (96 + i) 360 (xcd0 (96 + i))) = true := by decide +kernel
theorem xtk9 : (List.range 12).all (fun i => xrow (108 + i) 360 (xcd0 (108 + i))) = true := by decide +kernel
theorem xtk10 : (List.range 12).all (fun i => xrow (120 + i) 360 (xcd0 (120 + i))) = true := by decide +kernel
theorem xtk11 : (List.range 12).all (fun i => xrow (132 + i) 360 (xcd0 (132 + i))) = true := by decide +kernel
theorem xtk12 : (List.range 12).all (fun i => xrow (144 + i) 360 (xcd0 (144 + i))) = true := by decide +kernel
theorem xtk13 : (List.range 12).all (fun i => xrow (156 + i) 360 (xcd0 (156 + i))) = true := by decide +kernel
theorem xtk14 : (List.range 12).all (fun i => xrow (168 + i) 360 (xcd0 (168 + i))) = true := by decide +kernel
theorem xtk15 : (List.range 12).all (fun i => xrow (180 + i) 360 (xcd0 (180 + i))) = true := by decide +kernel
theorem xtk16 : (List.range 12).all (fun i => xrow (192 + i) 360 (xcd0 (192 + i))) = true := by decide +kernel
theorem xtk17 : (List.range 12).all (fun i => xrow (204 + i) 360 (xcd0 (204 + i))) = true := by decide +kernel
theorem xtk18 : (List.range 12).all (fun i => xrow (216 + i) 360 (xcd0 (216 + i))) = true := by decide +kernel
theorem xtk19 : (List.range 11).all (fun i => xrow (228 + i) 360 (xcd0 (228 + i))) = true := by decide +kernel
theorem xtkL : xrow 239 1684 xc239 = true := by decide +kernel
theorem xtk_of {b a mi pc : Nat} {e : Instr × Nat × List Nat} (h : (List.range b).all (fun i => xrow (a + i) 360 (xcd0 (a + i))) = true) (h1 : a ≤ mi) (h2 : mi < a + b) (h3 : pc < 360) (he : xcd0 mi pc = some e) : xEb mi pc e = true := by
  have h4 := List.all_eq_true.mp h (mi - a) (List.mem_range.mpr (by omega))
  rw [show a + (mi - a) = mi by omega] at h4
  exact xrow_ok h4 h3 he
theorem xtok : xTok := by
  intro mi pc e he
  unfold xcd at he
  cases h1 : Nat.ble mi 238 with
  | true =>
    rw [h1] at he
    simp only [cond_true] at he
    cases h2 : Nat.ble pc 359 with
    | false => rw [h2] at he; cases he
    | true =>
      rw [h2] at he
      simp only [cond_true] at he
      have h1 := Nat.le_of_ble_eq_true h1
      have h2 := Nat.le_of_ble_eq_true h2
      by_cases q0 : mi < 12
      · exact xtk_of xtk0 (by omega) (by omega) (by omega) he
      by_cases q1 : mi < 24
      · exact xtk_of xtk1 (by omega) (by omega) (by omega) he
      by_cases q2 : mi < 36
      · exact xtk_of xtk2 (by omega) (by omega) (by omega) he
      by_cases q3 : mi < 48
      · exact xtk_of xtk3 (by omega) (by omega) (by omega) he
      by_cases q4 : mi < 60
      · exact xtk_of xtk4 (by omega) (by omega) (by omega) he
      by_cases q5 : mi < 72
      · exact xtk_of xtk5 (by omega) (by omega) (by omega) he
      by_cases q6 : mi < 84
      · exact xtk_of xtk6 (by omega) (by omega) (by omega) he
      by_cases q7 : mi < 96
      · exact xtk_of xtk7 (by omega) (by omega) (by omega) he
      by_cases q8 : mi < 108
      · exact xtk_of xtk8 (by omega) (by omega) (by omega) he
      by_cases q9 : mi < 120
      · exact xtk_of xtk9 (by omega) (by omega) (by omega) he
      by_cases q10 : mi < 132
      · exact xtk_of xtk10 (by omega) (by omega) (by omega) he
      by_cases q11 : mi < 144
      · exact xtk_of xtk11 (by omega) (by omega) (by omega) he
      by_cases q12 : mi < 156
      · exact xtk_of xtk12 (by omega) (by omega) (by omega) he
      by_cases q13 : mi < 168
      · exact xtk_of xtk13 (by omega) (by omega) (by omega) he
      by_cases q14 : mi < 180
      · exact xtk_of xtk14 (by omega) (by omega) (by omega) he
      by_cases q15 : mi < 192
      · exact xtk_of xtk15 (by omega) (by omega) (by omega) he
      by_cases q16 : mi < 204
      · exact xtk_of xtk16 (by omega) (by omega) (by omega) he
      by_cases q17 : mi < 216
      · exact xtk_of xtk17 (by omega) (by omega) (by omega) he
      by_cases q18 : mi < 228
      · exact xtk_of xtk18 (by omega) (by omega) (by omega) he
      by_cases q19 : mi < 239
      · exact xtk_of xtk19 (by omega) (by omega) (by omega) he
      omega
  | false =>
    rw [h1] at he
    simp only [cond_false] at he
    cases h3 : Nat.beq mi 239 with
    | false => rw [h3] at he; cases he
    | true =>
      rw [h3] at he
      simp only [cond_true] at he
      cases h2 : Nat.ble pc 1683 with
      | false => rw [h2] at he; cases he
      | true =>
        rw [h2] at he
        simp only [cond_true] at he
        have h2 := Nat.le_of_ble_eq_true h2
        rw [Nat.eq_of_beq_eq_true h3]
        exact xrow_ok xtkL (by omega) he
