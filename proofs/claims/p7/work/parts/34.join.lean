-- ===== joins (nothing is proved of them: bcov looks at what they give)
/-- the hull of a value's numbers over some states -/
def bhul (l : List (bE × bV)) : Option (Int × Int) := match l with
  | [] => none
  | q :: t => match q.2 with
    | some (.inl f) => (match brg q.1 f with
      | none => none
      | some r => match t with
        | [] => some r
        | _ => match bhul t with
          | none => none
          | some s => some (if r.1 ≤ s.1 then r.1 else s.1, if s.2 ≤ r.2 then r.2 else s.2))
    | _ => none
def buni (l : List (bE × bV)) : Option (List Jvm.Term) := match l with
  | [] => some []
  | q :: t => match q.2 with
    | some (.inr a) => (match buni t with
      | none => none
      | some b => some (a ++ b.filter (fun u => !(a.any (fun v => bre v u)))))
    | _ => none
/-- one value for some: the same, or a new unknown, or all references -/
def bjv (n0 n : Nat) (l : List (bE × bV)) : Option (Nat × bE × bV) := match l with
  | [] => none
  | q :: t => match q.2 with
    | none => some (n, [], none)
    | some (.inr _) => (match buni l with
      | none => none
      | some a => some (n, [], some (.inr a)))
    | some (.inl f) => match blt n0 f && t.all (fun w => decide (w.2 = some (.inl f))) with
      | true => some (n, [], some (.inl f))
      | false => match bhul l with
        | none => none
        | some r => some (n + 1, [(n, r.1, r.2)], some (.inl (bvr n)))
def bsome {A : Type} (l : List (Option A)) : Option (List A) := match l with
  | [] => some []
  | x :: t => match x with
    | none => none
    | some a => match bsome t with
      | none => none
      | some b => some (a :: b)
/-- locals: of the first state's, those that all have -/
def bjl (n0 : Nat) (ss : List bT) (seen : List Nat) (n : Nat) (la : bL) : Nat × bE × bL := match la with
  | [] => (n, [], [])
  | q :: t => match seen.any (fun i => Nat.beq i q.1) with
    | true => bjl n0 ss seen n t
    | false => match bsome (ss.map (fun S => match blL S.2.2.1 q.1 with
      | none => none
      | some v => some (S.1, v))) with
      | none => bjl n0 ss (q.1 :: seen) n t
      | some vs => match bjv n0 n vs with
        | none => bjl n0 ss (q.1 :: seen) n t
        | some r => match bjl n0 ss (q.1 :: seen) r.1 t with
          | (n2, G2, l2) => (n2, G2 ++ r.2.1, (q.1, r.2.2) :: l2)
def bjs (n0 : Nat) (ss : List (bE × List bV)) (n k : Nat) : Option (Nat × bE × List bV) := match k with
  | 0 => some (n, [], [])
  | k + 1 => match bsome (ss.map (fun S => match S.2 with
    | [] => none
    | v :: _ => some (S.1, v))) with
    | none => none
    | some vs => match bjv n0 n vs with
      | none => none
      | some r => match bjs n0 (ss.map (fun S => (S.1, S.2.drop 1))) r.1 k with
        | none => none
        | some w => some (w.1, w.2.1 ++ r.2.1, r.2.2 :: w.2.2)
def bjo (n0 : Nat) (ss : List bT) (seen : List (Nat × Nat)) (n : Nat) (ov : bO) : Nat × bE × bO := match ov with
  | [] => (n, [], [])
  | q :: t => match seen.any (fun i => Nat.beq i.1 q.1.1 && Nat.beq i.2 q.1.2) with
    | true => bjo n0 ss seen n t
    | false => match bsome (ss.map (fun S => match blo S.2.2.2.2 q.1.1 q.1.2 with
      | none => none
      | some v => some (S.1, v))) with
      | none => bjo n0 ss (q.1 :: seen) n t
      | some vs => match bjv n0 n vs with
        | none => bjo n0 ss (q.1 :: seen) n t
        | some r => match bjo n0 ss (q.1 :: seen) r.1 t with
          | (n2, G2, l2) => (n2, G2 ++ r.2.1, (q.1, r.2.2) :: l2)
/-- the unknowns ahead of n0: their hulls -/
def bjg (n0 : Nat) (ss : List bT) (seen : List Nat) (G : bE) : bE := match G with
  | [] => []
  | q :: t => match Nat.ble n0 q.1 || seen.any (fun i => Nat.beq i q.1) with
    | true => bjg n0 ss seen t
    | false => match bhul (ss.map (fun S => (S.1, some (.inl (bvr q.1))))) with
      | none => bjg n0 ss (q.1 :: seen) t
      | some r => (q.1, r.1, r.2) :: bjg n0 ss (q.1 :: seen) t
def bj1 (n0 : Nat) (ss : List bT) : List bT := match ss with
  | [] => []
  | S :: _ => match bjl n0 ss [] n0 S.2.2.1 with
    | (n1, G1, la) => match bjs n0 (ss.map (fun S => (S.1, S.2.2.2.1))) n1 S.2.2.2.1.length with
      | none => []
      | some r => match bjo n0 ss [] r.1 S.2.2.2.2 with
        | (n2, G2, ov) => [(G2 ++ (r.2.1 ++ (G1 ++ bjg n0 ss [] S.1)), n2, la, r.2.2, ov)]
/-- states with 0, with 1, with another thing on the stack stay apart -/
def bkey (S : bT) : Nat := match S.2.2.2.1 with
  | some (.inl f) :: _ => (match f.2 with
    | [] => if f.1 = 0 then 1 else if f.1 = 1 then 2 else 0
    | _ => 0)
  | _ => 0
def bjn (n0 : Nat) (ss : List bT) : List bT := bj1 n0 (ss.filter (fun S => Nat.beq (bkey S) 0)) ++ (bj1 n0 (ss.filter (fun S => Nat.beq (bkey S) 1)) ++ bj1 n0 (ss.filter (fun S => Nat.beq (bkey S) 2)))
/-- how a state is a case of a wider one: its forms for the new unknowns -/
def bg1 (n0 : Nat) (vJ vS : bV) : bG := match vJ with
  | some (.inl b) => (match b.2 with
    | [q] => (match Nat.ble n0 q.1 with
      | true => (match vS with
        | some (.inl f) => [(q.1, f)]
        | _ => [])
      | false => [])
    | _ => [])
  | _ => []
def bgl (n0 : Nat) (lS : bL) (l : bL) : bG := match l with
  | [] => []
  | q :: t => (match blL lS q.1 with
    | none => []
    | some v => bg1 n0 q.2 v) ++ bgl n0 lS t
def bgs (n0 : Nat) (s j : List bV) : bG := match s, j with
  | a :: t, b :: u => bg1 n0 b a ++ bgs n0 t u
  | _, _ => []
def bgo (n0 : Nat) (oS : bO) (o : bO) : bG := match o with
  | [] => []
  | q :: t => (match blo oS q.1.1 q.1.2 with
    | none => []
    | some v => bg1 n0 q.2 v) ++ bgo n0 oS t
def bgm (n0 : Nat) (S J : bT) : bG := bgl n0 S.2.2.1 J.2.2.1 ++ (bgs n0 S.2.2.2.1 J.2.2.2.1 ++ bgo n0 S.2.2.2.2 J.2.2.2.2)
