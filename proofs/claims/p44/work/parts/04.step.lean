-- ===== conditions
def xq : Jvm.Term → Jvm.Term → Bool
  | .int a, .int b => decide (a = b)
  | .arg i, .arg j => Nat.beq i j
  | .add a b, .add c d => xq a c && xq b d
  | .sub a b, .sub c d => xq a c && xq b d
  | .mul a b, .mul c d => xq a c && xq b d
  | .div a b, .div c d => xq a c && xq b d
  | .rem a b, .rem c d => xq a c && xq b d
  | .op2 o a b, .op2 o' c d => decide (o = o') && (xq a c && xq b d)
  | .op1 o a, .op1 o' c => decide (o = o') && xq a c
  | .long a, .long b => decide (a = b)
  | _, _ => false
theorem xq_eq : ∀ (a b : Jvm.Term), xq a b = true → a = b := by
  intro a
  induction a with
  | int x => intro b h; cases b <;> simp_all [xq]
  | arg i => intro b h; cases b <;> first | (exfalso; revert h; simp [xq]; done) | (simp only [xq] at h; rw [Nat.eq_of_beq_eq_true h])
  | long x => intro b h; cases b <;> simp_all [xq]
  | add a b ha hb => intro t h; cases t <;> first | (exfalso; revert h; simp [xq]; done) | (simp only [xq, Bool.and_eq_true] at h; rw [ha _ h.1, hb _ h.2])
  | sub a b ha hb => intro t h; cases t <;> first | (exfalso; revert h; simp [xq]; done) | (simp only [xq, Bool.and_eq_true] at h; rw [ha _ h.1, hb _ h.2])
  | mul a b ha hb => intro t h; cases t <;> first | (exfalso; revert h; simp [xq]; done) | (simp only [xq, Bool.and_eq_true] at h; rw [ha _ h.1, hb _ h.2])
  | div a b ha hb => intro t h; cases t <;> first | (exfalso; revert h; simp [xq]; done) | (simp only [xq, Bool.and_eq_true] at h; rw [ha _ h.1, hb _ h.2])
  | rem a b ha hb => intro t h; cases t <;> first | (exfalso; revert h; simp [xq]; done) | (simp only [xq, Bool.and_eq_true] at h; rw [ha _ h.1, hb _ h.2])
  | op2 o a b ha hb => intro t h; cases t <;> first | (exfalso; revert h; simp [xq]; done) | (simp only [xq, Bool.and_eq_true, decide_eq_true_eq] at h; rw [h.1, ha _ h.2.1, hb _ h.2.2])
  | op1 o a ha => intro t h; cases t <;> first | (exfalso; revert h; simp [xq]; done) | (simp only [xq, Bool.and_eq_true, decide_eq_true_eq] at h; rw [h.1, ha _ h.2])
  | _ => intro b h; cases b <;> (exfalso; revert h; simp [xq]; done)
def xcm (c : Jvm.ClassFile.Cond) (x y : Int32) : Prop := match c with
  | .eq => x = y
  | .ne => ¬ x = y
  | .lt => x < y
  | .ge => y ≤ x
  | .gt => y < x
  | .le => x ≤ y
def xcmb (c : Jvm.ClassFile.Cond) (x y : Int32) : Bool := match c with
  | .eq => decide (x = y)
  | .ne => decide (¬ x = y)
  | .lt => decide (x < y)
  | .ge => decide (y ≤ x)
  | .gt => decide (y < x)
  | .le => decide (x ≤ y)
theorem xcmb_t {c : Jvm.ClassFile.Cond} {x y : Int32} : xcmb c x y = true ↔ xcm c x y := by cases c <;> simp [xcmb, xcm]
def xid : Nat → Nat := fun i => i
def xhold (r : Nat → Value) (q : xB) : Prop := match q.2.2.2 with
  | true => xcm q.1 (xti (xdv r xid q.2.1)) (xti (xdv r xid q.2.2.1))
  | false => ¬ xcm q.1 (xti (xdv r xid q.2.1)) (xti (xdv r xid q.2.2.1))
def xlit (t : Jvm.Term) : Option Int32 := match t with
  | .int v => some v
  | _ => none
theorem xlit_eq {t : Jvm.Term} {v : Int32} (h : xlit t = some v) : t = .int v := by
  cases t <;> simp [xlit] at h
  rw [h]
def xbo {β : Type} (c : Jvm.ClassFile.Cond) (a b : Jvm.Term) (E : List xB) (k : Bool → List xB → Option β) : Option β := match E with
  | [] => none
  | q :: E' => match decide (q.1 = c) && (xq q.2.1 a && xq q.2.2.1 b) with
    | true => k q.2.2.2 E'
    | false => none
def xbr {β : Type} (c : Jvm.ClassFile.Cond) (a b : Jvm.Term) (E : List xB) (k : Bool → List xB → Option β) : Option β := match xlit a with
  | some x => match xlit b with
    | some y => k (xcmb c x y) E
    | none => xbo c a b E k
  | none => xbo c a b E k
theorem xbo_spec {β : Type} {c : Jvm.ClassFile.Cond} {a b : Jvm.Term} {E : List xB} {k : Bool → List xB → Option β} {res : β} (r : Nat → Value) (ad : Nat → Nat) (h : xbo c a b E k = some res) :
    ∃ s E', k s E' = some res ∧ ((∀ q ∈ E, xhold r q) → (∀ q ∈ E', xhold r q) ∧ (s = true ↔ xcm c (xti (xdv r ad a)) (xti (xdv r ad b)))) := by
  cases E with
  | nil => cases h
  | cons q E' =>
    simp only [xbo] at h
    split at h
    · rename_i hq
      simp only [Bool.and_eq_true, decide_eq_true_eq] at hq
      obtain ⟨h1, h2, h3⟩ := hq
      refine ⟨q.2.2.2, E', h, fun hE => ⟨fun z hz => hE z (List.mem_cons_of_mem _ hz), ?_⟩⟩
      have hh := hE q List.mem_cons_self
      unfold xhold at hh
      rw [xq_eq _ _ h2, xq_eq _ _ h3, h1, (xdv_ad r xid ad a).1, (xdv_ad r xid ad b).1] at hh
      cases hs : q.2.2.2 with
      | true => rw [hs] at hh; exact ⟨fun _ => hh, fun _ => rfl⟩
      | false => rw [hs] at hh; exact ⟨fun z => (by cases z), fun z => absurd z hh⟩
    · cases h
theorem xbr_spec {β : Type} {c : Jvm.ClassFile.Cond} {a b : Jvm.Term} {E : List xB} {k : Bool → List xB → Option β} {res : β} (r : Nat → Value) (ad : Nat → Nat) (h : xbr c a b E k = some res) :
    ∃ s E', k s E' = some res ∧ ((∀ q ∈ E, xhold r q) → (∀ q ∈ E', xhold r q) ∧ (s = true ↔ xcm c (xti (xdv r ad a)) (xti (xdv r ad b)))) := by
  unfold xbr at h
  cases ha : xlit a with
  | none => rw [ha] at h; exact xbo_spec r ad h
  | some x =>
    rw [ha] at h
    simp only at h
    cases hb : xlit b with
    | none => rw [hb] at h; exact xbo_spec r ad h
    | some y =>
      rw [hb] at h
      refine ⟨_, _, h, fun hE => ⟨hE, ?_⟩⟩
      rw [xlit_eq ha, xlit_eq hb]
      exact xcmb_t
-- ===== one instruction
def xad (a b : Jvm.Term) : Jvm.Term := match xlit a with
  | some x => match xlit b with
    | some y => .int (x + y)
    | none => .add a b
  | none => .add a b
def xsb (a b : Jvm.Term) : Jvm.Term := match xlit a with
  | some x => match xlit b with
    | some y => .int (x - y)
    | none => .sub a b
  | none => .sub a b
def xml (a b : Jvm.Term) : Jvm.Term := match xlit a with
  | some x => match xlit b with
    | some y => .int (x * y)
    | none => .mul a b
  | none => .mul a b
def xdi (a b : Jvm.Term) : Jvm.Term := match xlit a with
  | some x => match xlit b with
    | some y => .int (x / y)
    | none => .div a b
  | none => .div a b
def xrm (a b : Jvm.Term) : Jvm.Term := match xlit a with
  | some x => match xlit b with
    | some y => .int (x - x / y * y)
    | none => .rem a b
  | none => .rem a b
def xb2 (o : Binary) (a b : Jvm.Term) : Jvm.Term := match xlit a with
  | some x => match xlit b with
    | some y => .int (xti (xo2 o (.int x) (.int y)))
    | none => .op2 o a b
  | none => .op2 o a b
def xb1 (o : Unary) (a : Jvm.Term) : Jvm.Term := match xlit a with
  | some x => .int (xti (xo1 o (.int x)))
  | none => .op1 o a
/-- longs: what is literal is worked out -/
def xl2 (o : Binary) (a b : Jvm.Term) : Jvm.Term := match a with
  | .long x => (match b with
    | .long y => .long (xtl (xo2 o (.long x) (.long y)))
    | .int y => .long (xtl (xo2 o (.long x) (.int y)))
    | _ => .op2 o a b)
  | _ => .op2 o a b
def xl1 (a : Jvm.Term) : Jvm.Term := match a with
  | .long x => .int x.toInt32
  | _ => .op1 .l2i a
def xl0 (a : Jvm.Term) : Jvm.Term := match a with
  | .int x => .long x.toInt64
  | _ => .op1 .i2l a
section
variable (r : Nat → Value) (ad : Nat → Nat) (a b : Jvm.Term)
theorem xad_dv : xdv r ad (xad a b) = .int (xti (xdv r ad a) + xti (xdv r ad b)) := by
  cases ha : xlit a <;> cases hb : xlit b <;> simp only [xad, ha, hb] <;> first | rfl | (rw [xlit_eq ha, xlit_eq hb]; rfl)
theorem xsb_dv : xdv r ad (xsb a b) = .int (xti (xdv r ad a) - xti (xdv r ad b)) := by
  cases ha : xlit a <;> cases hb : xlit b <;> simp only [xsb, ha, hb] <;> first | rfl | (rw [xlit_eq ha, xlit_eq hb]; rfl)
theorem xml_dv : xdv r ad (xml a b) = .int (xti (xdv r ad a) * xti (xdv r ad b)) := by
  cases ha : xlit a <;> cases hb : xlit b <;> simp only [xml, ha, hb] <;> first | rfl | (rw [xlit_eq ha, xlit_eq hb]; rfl)
theorem xdi_dv : xdv r ad (xdi a b) = .int (xti (xdv r ad a) / xti (xdv r ad b)) := by
  cases ha : xlit a <;> cases hb : xlit b <;> simp only [xdi, ha, hb] <;> first | rfl | (rw [xlit_eq ha, xlit_eq hb]; rfl)
theorem xrm_dv : xdv r ad (xrm a b) = .int (xti (xdv r ad a) - xti (xdv r ad a) / xti (xdv r ad b) * xti (xdv r ad b)) := by
  cases ha : xlit a <;> cases hb : xlit b <;> simp only [xrm, ha, hb] <;> first | rfl | (rw [xlit_eq ha, xlit_eq hb]; rfl)
end
/-- nonzero, literally -/
def xnz (t : Jvm.Term) : Bool := match t with
  | .int v => decide (¬ v = 0)
  | _ => false
theorem xnz_dv {r : Nat → Value} {ad : Nat → Nat} {t : Jvm.Term} (h : xnz t = true) : ¬ xti (xdv r ad t) = 0 := by
  cases t <;> simp [xnz] at h
  exact h
def xpu {β : Type} (pc n : Nat) (lo : xL) (st : List Jvm.Term) (h : xH) (E : List xB) (t : Jvm.Term) (k : Nat → xL → List Jvm.Term → xH → List xB → Option β) : Option β := xfT t fun t' => xfN (pc + n) fun pc' => k pc' lo (t' :: st) h E
/-- what an int, a boolean, a reference may be stored as -/
def xfits (ty : FieldType) (t : Jvm.Term) : Bool := match ty with
  | .int => xI t
  | .boolean => match xlit t with
    | some v => decide (v = 0) || decide (v = 1)
    | none => false
  | .object _ => xF t
  | .array _ => xF t
  | _ => false
def xjp {β : Type} (pc : Nat) (off : Int) (k : Nat → Option β) : Option β := match (pc : Int) + off with
  | .ofNat t => xfN t k
  | .negSucc _ => none
def xix (t : Jvm.Term) (n : Nat) : Option Nat := match t with
  | .int v => match decide (v < 0) || Nat.ble n v.toNatClampNeg with
    | true => none
    | false => some v.toNatClampNeg
  | _ => none
def xts {β : Type} (pc : Nat) (dflt low high : Int) (offs : Array Int) (t : Jvm.Term) (E : List xB) (k : Nat → List xB → Option β) : Option β := match E with
  | [] => none
  | q :: E' => match xlit q.2.2.1 with
    | none => none
    | some w => match xI t && (xq q.2.1 t && q.2.2.2) with
      | true => match (decide (q.1 = .lt) && decide (w.toInt = low)) || (decide (q.1 = .gt) && decide (w.toInt = high)) with
        | true => xjp pc dflt fun t => k t E'
        | false => match decide (q.1 = .eq) && ((!decide (w.toInt < low)) && (!decide (high < w.toInt))) with
          | true => match offs[(w.toInt - low).toNat]? with
            | some off => xjp pc off fun t => k t E'
            | none => none
          | false => none
      | false => none
def xisInit (mi : Nat) : Bool := decide ((xy mi).name = "<init>")
/-- an int of the script: by its name, or, where the next condition says what it is, as that number -/
def xls {β : Type} (pc : Nat) (lo : xL) (st : List Jvm.Term) (h : xH) (E : List xB) (j : Nat) (k : Nat → xL → List Jvm.Term → xH → List xB → Option β) : Option β := match E with
  | [] => xpu pc 1 lo st h [] (.arg j) k
  | q :: E' => match xlit q.2.2.1 with
    | none => xpu pc 1 lo st h (q :: E') (.arg j) k
    | some w => match decide (q.1 = .eq) && (q.2.2.2 && xq q.2.1 (.arg j)) with
      | true => xpu pc 1 lo st h E' (.int w) k
      | false => xpu pc 1 lo st h (q :: E') (.arg j) k
theorem xls_ok {β : Type} {pc : Nat} {lo : xL} {st : List Jvm.Term} {h : xH} {E : List xB} {j : Nat} {k : Nat → xL → List Jvm.Term → xH → List xB → Option β} {res : β} (r : Nat → Value) (hj : xdv r xid (.arg j) = .int (xti (xdv r xid (.arg j)))) (hs : xls pc lo st h E j k = some res) :
    ∃ E' t, k (pc + 1) lo (t :: st) h E' = some res ∧ ((∀ q ∈ E, xhold r q) → (∀ q ∈ E', xhold r q) ∧ ∀ ad, xdv r ad t = xdv r ad (.arg j)) := by
  have go : ∀ {E' : List xB} {t : Jvm.Term}, xpu pc 1 lo st h E' t k = some res → k (pc + 1) lo (t :: st) h E' = some res := by
    intro E' t hs
    simpa only [xpu, xfT_eq, xfN_eq] using hs
  cases E with
  | nil => exact ⟨_, _, go hs, fun q => ⟨q, fun _ => rfl⟩⟩
  | cons q E' =>
    simp only [xls] at hs
    cases hw : xlit q.2.2.1 with
    | none => rw [hw] at hs; exact ⟨_, _, go hs, fun q => ⟨q, fun _ => rfl⟩⟩
    | some w =>
      rw [hw] at hs
      simp only at hs
      cases hq : (decide (q.1 = .eq) && (q.2.2.2 && xq q.2.1 (.arg j))) with
      | false => rw [hq] at hs; exact ⟨_, _, go hs, fun q => ⟨q, fun _ => rfl⟩⟩
      | true =>
        rw [hq] at hs
        simp only [Bool.and_eq_true, decide_eq_true_eq] at hq
        obtain ⟨h1, h2, h3⟩ := hq
        refine ⟨_, _, go hs, fun hE => ⟨fun z hz => hE z (List.mem_cons_of_mem _ hz), fun ad => ?_⟩⟩
        have hh := hE q List.mem_cons_self
        unfold xhold at hh
        rw [h2, h1, xq_eq _ _ h3, xlit_eq hw] at hh
        simp only [xcm] at hh
        show Value.int w = r j
        have hj' : r j = .int (xti (r j)) := hj
        rw [hj']
        exact congrArg Value.int hh.symm
/-- a static array; a String constant -/
def xsta (j : Nat) : Option (String × String × String × List Int) := xstat[j]?
def xstra (j : Nat) : Option (Nat × Nat × String) := xstr[j]?
noncomputable def xsp {β : Type} (mi pc : Nat) (e : Instr × Nat × List Nat) (lo : xL) (st : List Jvm.Term) (h : xH) (E : List xB) (k : Nat → xL → List Jvm.Term → xH → List xB → Option β) : Option β := match e.1 with
  | .iconst n => xpu pc 1 lo st h E (.int (Int32.ofInt n)) k
  | .bipush n => xpu pc 2 lo st h E (.int (Int8.ofInt n).toInt32) k
  | .sipush n => xpu pc 3 lo st h E (.int (Int16.ofInt n).toInt32) k
  | .aconst_null => xpu pc 1 lo st h E .null k
  | .iload_n i => match xlk lo i.val with
    | some t => bif xI t then xpu pc 1 lo st h E t k else none
    | none => none
  | .iload i => match xlk lo i with
    | some t => bif xI t then xpu pc 2 lo st h E t k else none
    | none => none
  | .aload_n i => match xlk lo i.val with
    | some t => bif xF t then xpu pc 1 lo st h E t k else none
    | none => none
  | .aload i => match xlk lo i with
    | some t => bif xF t then xpu pc 2 lo st h E t k else none
    | none => none
  | .lload_n i => match xlk lo i.val with
    | some t => bif xG t then xpu pc 1 lo st h E t k else none
    | none => none
  | .lload i => match xlk lo i with
    | some t => bif xG t then xpu pc 2 lo st h E t k else none
    | none => none
  | .lstore_n i => match st with
    | t :: s => bif xG t && Nat.ble (i.val + 2) (xm mi) then xfL (xs2 lo i.val t) fun lo' => xfN (pc + 1) fun pc' => k pc' lo' s h E else none
    | _ => none
  | .lstore i => match st with
    | t :: s => bif xG t && Nat.ble (i + 2) (xm mi) then xfL (xs2 lo i t) fun lo' => xfN (pc + 2) fun pc' => k pc' lo' s h E else none
    | _ => none
  | .getstatic _ => match e.2.2 with
    | [_, j] => xpu pc 3 lo st h E (.arg (150 + j)) k
    | _ => none
  | .istore_n i => match st with
    | t :: s => bif xI t && Nat.ble (i.val + 1) (xm mi) then xfL (xs1 lo i.val t) fun lo' => xfN (pc + 1) fun pc' => k pc' lo' s h E else none
    | _ => none
  | .istore i => match st with
    | t :: s => bif xI t && Nat.ble (i + 1) (xm mi) then xfL (xs1 lo i t) fun lo' => xfN (pc + 2) fun pc' => k pc' lo' s h E else none
    | _ => none
  | .astore_n i => match st with
    | t :: s => bif xF t && Nat.ble (i.val + 1) (xm mi) then xfL (xs1 lo i.val t) fun lo' => xfN (pc + 1) fun pc' => k pc' lo' s h E else none
    | _ => none
  | .astore i => match st with
    | t :: s => bif xF t && Nat.ble (i + 1) (xm mi) then xfL (xs1 lo i t) fun lo' => xfN (pc + 2) fun pc' => k pc' lo' s h E else none
    | _ => none
  | .iinc i n => match xlk lo i with
    | some t => bif xI t && Nat.ble (i + 1) (xm mi) then xfT (xad t (.int (Int32.ofInt n))) fun t' => xfL (xs1 lo i t') fun lo' => xfN (pc + 3) fun pc' => k pc' lo' st h E else none
    | none => none
  | .iadd => match st with
    | b :: a :: s => bif xI a && xI b then xpu pc 1 lo s h E (xad a b) k else none
    | _ => none
  | .isub => match st with
    | b :: a :: s => bif xI a && xI b then xpu pc 1 lo s h E (xsb a b) k else none
    | _ => none
  | .imul => match st with
    | b :: a :: s => bif xI a && xI b then xpu pc 1 lo s h E (xml a b) k else none
    | _ => none
  | .idiv => match st with
    | b :: a :: s => bif xI a && (xI b && xnz b) then xpu pc 1 lo s h E (xdi a b) k else none
    | _ => none
  | .irem => match st with
    | b :: a :: s => bif xI a && (xI b && xnz b) then xpu pc 1 lo s h E (xrm a b) k else none
    | _ => none
  | .iand => match st with
    | b :: a :: s => bif xI a && xI b then xpu pc 1 lo s h E (xb2 .iand a b) k else none
    | _ => none
  | .ior => match st with
    | b :: a :: s => bif xI a && xI b then xpu pc 1 lo s h E (xb2 .ior a b) k else none
    | _ => none
  | .ixor => match st with
    | b :: a :: s => bif xI a && xI b then xpu pc 1 lo s h E (xb2 .ixor a b) k else none
    | _ => none
  | .ishl => match st with
    | b :: a :: s => bif xI a && xI b then xpu pc 1 lo s h E (xb2 .ishl a b) k else none
    | _ => none
  | .ishr => match st with
    | b :: a :: s => bif xI a && xI b then xpu pc 1 lo s h E (xb2 .ishr a b) k else none
    | _ => none
  | .iushr => match st with
    | b :: a :: s => bif xI a && xI b then xpu pc 1 lo s h E (xb2 .iushr a b) k else none
    | _ => none
  | .ineg => match st with
    | a :: s => bif xI a then xpu pc 1 lo s h E (xb1 .ineg a) k else none
    | _ => none
  | .i2b => match st with
    | a :: s => bif xI a then xpu pc 1 lo s h E (xb1 .i2b a) k else none
    | _ => none
  | .i2s => match st with
    | a :: s => bif xI a then xpu pc 1 lo s h E (xb1 .i2s a) k else none
    | _ => none
  | .i2c => match st with
    | a :: s => bif xI a then xpu pc 1 lo s h E (xb1 .i2c a) k else none
    | _ => none
  | .l2i => match st with
    | a :: s => bif xG a then xpu pc 1 lo s h E (xl1 a) k else none
    | _ => none
  | .lushr => match st with
    | b :: a :: s => bif xG a && xI b then xpu pc 1 lo s h E (xl2 .lushr a b) k else none
    | _ => none
  | .lshr => match st with
    | b :: a :: s => bif xG a && xI b then xpu pc 1 lo s h E (xl2 .lshr a b) k else none
    | _ => none
  | .land => match st with
    | b :: a :: s => bif xG a && xG b then xpu pc 1 lo s h E (xl2 .land a b) k else none
    | _ => none
  | .lor => match st with
    | b :: a :: s => bif xG a && xG b then xpu pc 1 lo s h E (xl2 .lor a b) k else none
    | _ => none
  | .lshl => match st with
    | b :: a :: s => bif xG a && xI b then xpu pc 1 lo s h E (xl2 .lshl a b) k else none
    | _ => none
  | .ladd => match st with
    | b :: a :: s => bif xG a && xG b then xpu pc 1 lo s h E (xl2 .ladd a b) k else none
    | _ => none
  | .lsub => match st with
    | b :: a :: s => bif xG a && xG b then xpu pc 1 lo s h E (xl2 .lsub a b) k else none
    | _ => none
  | .lconst n => xpu pc 1 lo st h E (.long (Int64.ofNat n.val)) k
  | .i2l => match st with
    | a :: s => bif xI a then xpu pc 1 lo s h E (xl0 a) k else none
    | _ => none
  | .dup => match st with
    | a :: s => bif xG a then none else xpu pc 1 lo (a :: s) h E a k
    | _ => none
  | .pop => match st with
    | a :: s => bif xG a then none else xfN (pc + 1) fun pc' => k pc' lo s h E
    | _ => none
  | .dup2 => match st with
    | a :: b :: s => bif xG a || xG b then none else xfN (pc + 1) fun pc' => k pc' lo (a :: b :: a :: b :: s) h E
    | _ => none
  | .goto off => xjp pc off fun t => k t lo st h E
  | .ifCond c off => match st with
    | a :: s => bif xI a then (xjp pc off fun t => xbr c a (.int 0) E fun z E' => match z with
      | true => k t lo s h E'
      | false => xfN (pc + 3) fun pc' => k pc' lo s h E') else none
    | _ => none
  | .if_icmp c off => match st with
    | b :: a :: s => bif xI a && xI b then (xjp pc off fun t => xbr c a b E fun z E' => match z with
      | true => k t lo s h E'
      | false => xfN (pc + 3) fun pc' => k pc' lo s h E') else none
    | _ => none
  | .ifnonnull off => match st with
    | .null :: s => xfN (pc + 3) fun pc' => k pc' lo s h E
    | .index _ :: s => xjp pc off fun t => k t lo s h E
    | _ => none
  | .getfield _ => match e.2.2 with
    | [_, ci, kf] => match st with
      | .index a :: s => match xhg h a with
        | some c => bif Nat.beq c.1 ci then (match xhg c.2 kf with
          | some t => xpu pc 3 lo s h E t k
          | none => none) else none
        | none => none
      | _ => none
    | _ => none
  | .putfield _ => match e.2.2 with
    | [_, ci, kf] => match st with
      | t :: .index a :: s => match xhg h a with
        | some c => bif Nat.beq c.1 ci && (Nat.ble (kf + 1) c.2.length && (xidx h.length t && (xfits (xty ci kf) t && ((!(xT ci kf).2.2.2) || (xisInit mi && Nat.beq (xo mi) ci))))) then xst c.2 kf t fun l' => xst h a (c.1, l') fun h' => xfN (pc + 3) fun pc' => k pc' lo s h' E else none
        | none => none
      | _ => none
    | _ => none
  | .new _ => match e.2.2 with
    | [_, ci, _, _] => bif xok h.length lo st then xap h (ci, xdf ci) fun h' => xpu pc 3 lo st h' E (.index h.length) k else none
    | _ => none
  | .newarray ty => match st with
    | .int n :: s => bif decide (ty = .int) && ((!decide (n < 0)) && (Nat.ble n.toNatClampNeg 5000 && xok h.length lo s)) then xfL (List.replicate n.toNatClampNeg (Jvm.Term.int 0)) fun l' => xap h (20, l') fun h' => xpu pc 2 lo s h' E (.index h.length) k else none
    | _ => none
  | .anewarray _ => match e.2.2 with
    | [_, kk] => match st with
      | .int n :: s => bif (!decide (n < 0)) && (Nat.ble n.toNatClampNeg 5000 && xok h.length lo s) then xfL (List.replicate n.toNatClampNeg Jvm.Term.null) fun l' => xap h (kk, l') fun h' => xpu pc 3 lo s h' E (.index h.length) k else none
      | _ => none
    | _ => none
  | .arraylength => match st with
    | .index a :: s => match xhg h a with
      | some c => bif Nat.ble 20 c.1 && Nat.ble c.1 24 then xpu pc 1 lo s h E (.int (Int32.ofNat c.2.length)) k else none
      | none => none
    | .arg z :: s => bif Nat.beq z 100 && Nat.beq mi xlaw then xpu pc 1 lo s h E (.arg 49) k else none
    | _ => none
  | .iaload => match st with
    | i :: .index a :: s => match xhg h a with
      | some c => bif Nat.beq c.1 20 then (match xix i c.2.length with
        | some j => match xhg c.2 j with
          | some t => bif xI t then xpu pc 1 lo s h E t k else none
          | none => none
        | none => none) else none
      | none => none
    | i :: .arg z :: s => bif Nat.beq z 100 && Nat.beq mi xlaw then (match xix i 49 with
      | some j => match E with
        | q :: E' => bif decide (q.1 = .lt) && (q.2.2.2 && (xq q.2.1 i && xq q.2.2.1 (.arg 49))) then xls pc lo s h E' j k else none
        | [] => none
      | none => none) else (bif Nat.ble 150 z && Nat.ble z 199 then (match xsta (z - 150) with
        | some q => (match xix i q.2.2.2.length with
          | some j => xpu pc 1 lo s h E (.int (Int32.ofInt (q.2.2.2.getD j 0))) k
          | none => none)
        | none => none) else none)
    | _ => none
  | .iastore => match st with
    | t :: i :: .index a :: s => match xhg h a with
      | some c => bif Nat.beq c.1 20 && xI t then (match xix i c.2.length with
        | some j => xst c.2 j t fun l' => xst h a (c.1, l') fun h' => xfN (pc + 1) fun pc' => k pc' lo s h' E
        | none => none) else none
      | none => none
    | _ => none
  | .aaload => match st with
    | i :: .index a :: s => match xhg h a with
      | some c => bif Nat.ble 21 c.1 && Nat.ble c.1 24 then (match xix i c.2.length with
        | some j => match xhg c.2 j with
          | some t => bif xF t then xpu pc 1 lo s h E t k else none
          | none => none
        | none => none) else none
      | none => none
    | _ => none
  | .aastore => match st with
    | .index v :: i :: .index a :: s => match xhg h a with
      | some c => match xhg h v with
        | some d => bif (Nat.beq c.1 21 && Nat.beq d.1 6) || ((Nat.beq c.1 22 && Nat.beq d.1 5) || ((Nat.beq c.1 23 && Nat.beq d.1 9) || (Nat.beq c.1 24 && Nat.beq d.1 7))) then (match xix i c.2.length with
          | some j => xst c.2 j (.index v) fun l' => xst h a (c.1, l') fun h' => xfN (pc + 1) fun pc' => k pc' lo s h' E
          | none => none) else none
        | none => none
      | none => none
    | _ => none
  | .tableswitch dflt low high offs => match st with
    | t :: s => match xlit t with
      | some v => match decide (v.toInt < low) || decide (high < v.toInt) with
        | true => xjp pc dflt fun t => k t lo s h E
        | false => match offs[(v.toInt - low).toNat]? with
          | some off => xjp pc off fun t => k t lo s h E
          | none => none
      | none => xts pc dflt low high offs t E fun t E' => k t lo s h E'
    | _ => none
  | .lookupswitch dflt ps => match st with
    | .int v :: s => match (ps.toList.zip (ps.toList.drop 1)).all (fun (a, next) => a.1 < next.1) with
      | true => xjp pc (Op.lookupswitch.offset ps.toList dflt v.toInt) fun t => k t lo s h E
      | false => none
    | _ => none
  | .ldc _ => match e.2.2 with
    | [_, n] => xpu pc 2 lo st h E (.int (Int32.ofNat n)) k
    | [_, n, _] => xpu pc 2 lo st h E (.arg (101 + n)) k
    | _ => none
  | .ldc_w _ => match e.2.2 with
    | [_, n] => xpu pc 3 lo st h E (.int (Int32.ofNat n)) k
    | _ => none
  | .ldc2_w _ => match e.2.2 with
    | [_, n] => xpu pc 3 lo st h E (.long (Int64.ofNat n)) k
    | _ => none
  | .invokespecial _ => match e.2.2 with
    | [_, cm, _, _] => bif Nat.beq cm 900 then (match st with
      | .index _ :: s => bif Nat.ble s.length 6 && s.all (fun t => !(xG t)) then xfN (pc + 3) fun pc' => k pc' lo s h E else none
      | _ => none) else none
    | _ => none
  | .invokestatic _ => match e.2.2 with
    | [_, cm, _, _, _] => match st with
      | b :: a :: s => bif Nat.ble s.length 6 && (s.all (fun t => !(xG t)) && (xI a && xI b)) then (bif Nat.beq cm 901 then xpu pc 3 lo s h E (xb2 .fcmpl a b) k else (bif Nat.beq cm 902 then xpu pc 3 lo s h E (xb2 .fcmpg a b) k else (bif Nat.beq cm 903 then (match b with
        | .int n => match a with
          | .int dp => match s with
            | .index a1 :: .int sp :: .index a0 :: s => match xhg h a0 with
              | some c0 => match xhg h a1 with
                | some c1 => bif Nat.beq c0.1 20 && (Nat.beq c1.1 20 && ((!decide (sp < 0)) && ((!decide (dp < 0)) && ((!decide (n < 0)) && (Nat.ble (sp.toNatClampNeg + n.toNatClampNeg) c0.2.length && Nat.ble (dp.toNatClampNeg + n.toNatClampNeg) c1.2.length))))) then
                    xfL (c1.2.take dp.toNatClampNeg ++ ((c0.2.drop sp.toNatClampNeg).take n.toNatClampNeg ++ c1.2.drop (dp.toNatClampNeg + n.toNatClampNeg))) fun l' => xst h a1 (20, l') fun h' => xfN (pc + 3) fun pc' => k pc' lo s h' E else none
                | none => none
              | none => none
            | _ => none
          | _ => none
        | _ => none) else none))) else none
      | _ => none
    | _ => none
  | _ => none
