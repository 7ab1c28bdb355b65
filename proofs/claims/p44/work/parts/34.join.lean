-- ===== joins (nothing is proved of them: bcov looks at what they give)
/-- the hull of a value's numbers over some states -/
def bhul (l : List (bE × bV)) : Option (Int × Int) := match l with
  | [] => none
  | q_ :: t_ => match q_.2 with
    | some (.inl f_) => (match brg q_.1 f_ with
      | none => none
      | some r_ => match t_ with
        | [] => some r_
        | _ => match bhul t_ with
          | none => none
          | some s_ => some (if r_.1 ≤ s_.1 then r_.1 else s_.1, if s_.2 ≤ r_.2 then r_.2 else s_.2))
    | _ => none
def buni (l : List (bE × bV)) : Option (List Jvm.Term) := match l with
  | [] => some []
  | q_ :: t_ => match q_.2 with
    | some (.inr a_) => (match buni t_ with
      | none => none
      | some b_ => some (match blq a_ b_ with
        | true => a_
        | false => a_ ++ b_.filter (fun u_ => !(a_.any (fun v_ => bre v_ u_)))))
    | _ => none
/-- one value for some: the same, or a new unknown, or all references -/
def bjv (n0_ n : Nat) (l : List (bE × bV)) : Option (Nat × bE × bV) := match l with
  | [] => none
  | q_ :: t_ => match q_.2 with
    | none => some (n, [], none)
    | some (.inr _) => (match buni l with
      | none => none
      | some a_ => some (n, [], some (.inr a_)))
    | some (.inl f_) => match blt n0_ f_ && t_.all (fun w_ => decide (w_.2 = some (.inl f_))) with
      | true => some (n, [], some (.inl f_))
      | false => match bhul l with
        | none => none
        | some r_ => some (n + 1, [(n, r_.1, r_.2)], some (.inl (bvr n)))
def bsome {A_ : Type} (l : List (Option A_)) : Option (List A_) := match l with
  | [] => some []
  | x_ :: t_ => match x_ with
    | none => none
    | some a_ => match bsome t_ with
      | none => none
      | some b_ => some (a_ :: b_)
/-- locals: of the first state's, those that all have -/
def bjl (n0_ : Nat) (ss : List bT) (seen : List Nat) (n : Nat) (la : bL) : Nat × bE × bL := match la with
  | [] => (n, [], [])
  | q_ :: t_ => match seen.any (fun i_ => Nat.beq i_ q_.1) with
    | true => bjl n0_ ss seen n t_
    | false => match bsome (ss.map (fun S_ => match blL S_.2.2.1 q_.1 with
      | none => none
      | some v_ => some (S_.1, v_))) with
      | none => bjl n0_ ss (q_.1 :: seen) n t_
      | some vs => match bjv n0_ n vs with
        | none => bjl n0_ ss (q_.1 :: seen) n t_
        | some r_ => match bjl n0_ ss (q_.1 :: seen) r_.1 t_ with
          | (n2_, G2_, l2) => (n2_, G2_ ++ r_.2.1, (q_.1, r_.2.2) :: l2)
def bjs (n0_ : Nat) (ss : List (bE × List bV)) (n k_ : Nat) : Option (Nat × bE × List bV) := match k_ with
  | 0 => some (n, [], [])
  | k_ + 1 => match bsome (ss.map (fun S_ => match S_.2 with
    | [] => none
    | v_ :: _ => some (S_.1, v_))) with
    | none => none
    | some vs => match bjv n0_ n vs with
      | none => none
      | some r_ => match bjs n0_ (ss.map (fun S_ => (S_.1, S_.2.drop 1))) r_.1 k_ with
        | none => none
        | some w_ => some (w_.1, w_.2.1 ++ r_.2.1, r_.2.2 :: w_.2.2)
def bjo (n0_ : Nat) (ss : List bT) (seen : List (Nat × Nat)) (n : Nat) (ov : bO) : Nat × bE × bO := match ov with
  | [] => (n, [], [])
  | q_ :: t_ => match seen.any (fun i_ => Nat.beq i_.1 q_.1.1 && Nat.beq i_.2 q_.1.2) with
    | true => bjo n0_ ss seen n t_
    | false => match bsome (ss.map (fun S_ => match blo S_.2.2.2.2 q_.1.1 q_.1.2 with
      | none => none
      | some v_ => some (S_.1, v_))) with
      | none => bjo n0_ ss (q_.1 :: seen) n t_
      | some vs => match bjv n0_ n vs with
        | none => bjo n0_ ss (q_.1 :: seen) n t_
        | some r_ => match bjo n0_ ss (q_.1 :: seen) r_.1 t_ with
          | (n2_, G2_, l2) => (n2_, G2_ ++ r_.2.1, (q_.1, r_.2.2) :: l2)
/-- the unknowns of a state's values -/
def busf (f_ : bF) (us : List Nat) : List Nat := f_.2.foldr (fun q_ l => match l.any (fun v_ => Nat.beq v_ q_.1) with
  | true => l
  | false => q_.1 :: l) us
def busv (v_ : bV) (us : List Nat) : List Nat := match v_ with
  | some (.inl f_) => busf f_ us
  | _ => us
/-- those of them ahead of n0: their hulls; the others are forgotten -/
def bjg (n0_ : Nat) (ss : List bT) (us : List Nat) : bE := match us with
  | [] => []
  | v_ :: t_ => match Nat.ble n0_ v_ with
    | true => bjg n0_ ss t_
    | false => match bhul (ss.map (fun S_ => (S_.1, some (.inl (bvr v_))))) with
      | none => bjg n0_ ss t_
      | some r_ => (v_, r_.1, r_.2) :: bjg n0_ ss t_
def bj1 (n0_ : Nat) (ss : List bT) : List bT := match ss with
  | [] => []
  | S_ :: _ => match bjl n0_ ss [] n0_ S_.2.2.1 with
    | (n1_, G1_, la) => match bjs n0_ (ss.map (fun S_ => (S_.1, S_.2.2.2.1))) n1_ S_.2.2.2.1.length with
      | none => []
      | some r_ => match bjo n0_ ss [] r_.1 S_.2.2.2.2 with
        | (n2_, G2_, ov) => [(G2_ ++ (r_.2.1 ++ (G1_ ++ bjg n0_ ss (la.foldr (fun q_ us => busv q_.2 us) (r_.2.2.foldr busv (ov.foldr (fun q_ us => busv q_.2 us) []))))), n2_, la, r_.2.2, ov)]
/-- states with 0, with 1, with another thing on the stack stay apart -/
def bkey (S_ : bT) : Nat := match S_.2.2.2.1 with
  | some (.inl f_) :: _ => (match f_.2 with
    | [] => if f_.1 = 0 then 1 else if f_.1 = 1 then 2 else if f_.1 = -1 then 3 else 0
    | _ => 0)
  | _ => 0
def bjn (n0_ : Nat) (ss : List bT) : List bT := bj1 n0_ (ss.filter (fun S_ => Nat.beq (bkey S_) 0)) ++ (bj1 n0_ (ss.filter (fun S_ => Nat.beq (bkey S_) 1)) ++ (bj1 n0_ (ss.filter (fun S_ => Nat.beq (bkey S_) 2)) ++ bj1 n0_ (ss.filter (fun S_ => Nat.beq (bkey S_) 3))))
/-- how a state is a case of a wider one: its forms for the new unknowns -/
def bg1 (n0_ : Nat) (vJ vS : bV) : bG := match vJ with
  | some (.inl b_) => (match b_.2 with
    | [q_] => (match Nat.ble n0_ q_.1 with
      | true => (match vS with
        | some (.inl f_) => [(q_.1, f_)]
        | _ => [])
      | false => [])
    | _ => [])
  | _ => []
def bgl (n0_ : Nat) (lS : bL) (l : bL) : bG := match l with
  | [] => []
  | q_ :: t_ => (match blL lS q_.1 with
    | none => []
    | some v_ => bg1 n0_ q_.2 v_) ++ bgl n0_ lS t_
def bgs (n0_ : Nat) (s_ j_ : List bV) : bG := match s_, j_ with
  | a_ :: t_, b_ :: u_ => bg1 n0_ b_ a_ ++ bgs n0_ t_ u_
  | _, _ => []
def bgo (n0_ : Nat) (oS : bO) (o : bO) : bG := match o with
  | [] => []
  | q_ :: t_ => (match blo oS q_.1.1 q_.1.2 with
    | none => []
    | some v_ => bg1 n0_ q_.2 v_) ++ bgo n0_ oS t_
def bgm (n0_ : Nat) (S_ J_ : bT) : bG := bgl n0_ S_.2.2.1 J_.2.2.1 ++ (bgs n0_ S_.2.2.2.1 J_.2.2.2.1 ++ bgo n0_ S_.2.2.2.2 J_.2.2.2.2)
-- ===== heads of loops and splits, by tables
def bddl (seen : List Nat) (la : bL) : bL := match la with
  | [] => []
  | q_ :: t_ => match seen.any (fun i_ => Nat.beq i_ q_.1) with
    | true => bddl seen t_
    | false => q_ :: bddl (q_.1 :: seen) t_
def bddo (seen : List (Nat × Nat)) (ov : bO) : bO := match ov with
  | [] => []
  | q_ :: t_ => match seen.any (fun i_ => Nat.beq i_.1 q_.1.1 && Nat.beq i_.2 q_.1.2) with
    | true => bddo seen t_
    | false => q_ :: bddo (q_.1 :: seen) t_
def bmkl (n : Nat) (l : List (Nat × Int × Int)) : Nat × bE × bL := match l with
  | [] => (n, [], [])
  | q_ :: t_ => match bmkl (n + 1) t_ with
    | (n2_, G, la) => (n2_, (n, q_.2.1, q_.2.2) :: G, (q_.1, some (.inl (bvr n))) :: la)
def bmko (n : Nat) (l : List ((Nat × Nat) × Int × Int)) : Nat × bE × bO := match l with
  | [] => (n, [], [])
  | q_ :: t_ => match bmko (n + 1) t_ with
    | (n2_, G, ov) => (n2_, (n, q_.2.1, q_.2.2) :: G, (q_.1, some (.inl (bvr n))) :: ov)
def bgcl {A_ : Type} (la : bL) (ov : bO) (k_ : bL → bO → A_) : A_ := k_ la ov
/-- a loop's state, made of the one that comes to its head: where it goes on, whether the measure grows, locals, places, cells that it may change -/
def blpt (x_ : Nat) (up_ : Bool) (locs_ : List (Nat × Int × Int)) (plc : List ((Nat × Nat) × Int × Int)) (drops : List (Nat × Nat)) (pd : List (Nat × Nat × Nat)) (ldr : List Nat) (S_ : bT) : Option (bT × Nat × Bool × Nat) := match bmkl S_.2.1 locs_ with
  | (n1_, G1_, l1) => match bmko n1_ plc with
    | (n2_, G2_, o2) => bgcl (l1 ++ (bddl [] S_.2.2.1).filter (fun q_ => !(locs_.any (fun w_ => Nat.beq w_.1 q_.1)) && !(ldr.any (fun w_ => Nat.beq w_ q_.1)))) (o2 ++ (bddo [] S_.2.2.2.2).filter (fun q_ => !(plc.any (fun w_ => Nat.beq w_.1.1 q_.1.1 && Nat.beq w_.1.2 q_.1.2)) && (!(drops.any (fun w_ => Nat.ble w_.1 q_.1.1 && Nat.ble q_.1.1 w_.2)) && !(pd.any (fun w_ => Nat.beq w_.1 q_.1.1 && (Nat.ble w_.2.1 q_.1.2 && Nat.ble q_.1.2 w_.2.2)))))) (fun la ov => some ((G2_ ++ (G1_ ++ S_.1.filter (fun q_ => (la.foldr (fun q_ us => busv q_.2 us) (S_.2.2.2.1.foldr busv (ov.foldr (fun q_ us => busv q_.2 us) []))).any (fun v_ => Nat.beq v_ q_.1))), n2_, la, S_.2.2.2.1, ov), S_.2.1, up_, x_))
def bcut (l u_ : Int) (cuts : List Int) : List (Int × Int) := match cuts with
  | [] => [(l, u_)]
  | c_ :: t_ => match decide (l < c_) && decide (c_ ≤ u_) with
    | true => (l, c_ - 1) :: bcut c_ u_ t_
    | false => bcut l u_ t_
def bsng (l : Int) (m_ : Nat) : List (Int × Int) := match m_ with
  | 0 => []
  | m_ + 1 => (l, l) :: bsng (l + 1) m_
/-- a local's value in pieces; where its form has several unknowns, it is made one first -/
def bspt (i_ : Nat) (cuts : Option (List Int)) (m_ : Nat) (S_ : bT) : Option (bT × Nat × List (Int × Int) × Nat) := match blL S_.2.2.1 i_ with
  | some (some (.inl f_)) => (match f_.2 with
    | [] => none
    | [q_] => (match blk S_.1 q_.1 with
      | none => none
      | some b_ => match decide (b_.1 = b_.2) with
        | true => none
        | false => match cuts with
          | none => some ((S_.1, S_.2.1, bddl [] S_.2.2.1, S_.2.2.2.1, bddo [] S_.2.2.2.2), q_.1, bsng b_.1 (b_.2 - b_.1 + 1).toNat, m_)
          | some cs => match bcut b_.1 b_.2 (match decide (q_.2 = 1) with
            | true => cs.map (fun c_ => c_ - f_.1)
            | false => cs) with
            | [] => none
            | [_] => none
            | z_ :: zs => some ((S_.1, S_.2.1, bddl [] S_.2.2.1, S_.2.2.2.1, bddo [] S_.2.2.2.2), q_.1, z_ :: zs, m_))
    | _ => match brg S_.1 f_ with
      | none => none
      | some b_ => match decide (b_.1 = b_.2) with
        | true => none
        | false => some (((S_.2.1, b_.1, b_.2) :: S_.1, S_.2.1 + 1, (bddl [] S_.2.2.1).map (fun q_ => match Nat.beq q_.1 i_ with
          | true => (q_.1, some (.inl (bvr S_.2.1)))
          | false => q_), S_.2.2.2.1, bddo [] S_.2.2.2.2), S_.2.1, (match cuts with
            | none => bsng b_.1 (b_.2 - b_.1 + 1).toNat
            | some cs => bcut b_.1 b_.2 cs), m_))
  | _ => none
/-- one of the unknowns of a local's form in pieces -/
def bspd (i_ j_ : Nat) (cuts : List Int) (m_ : Nat) (S_ : bT) : Option (bT × Nat × List (Int × Int) × Nat) := match blL S_.2.2.1 i_ with
  | some (some (.inl f_)) => (match f_.2.drop j_ with
    | [] => none
    | q_ :: _ => match blk S_.1 q_.1 with
      | none => none
      | some b_ => match bcut b_.1 b_.2 cuts with
        | [] => none
        | [_] => none
        | z_ :: zs => some ((S_.1, S_.2.1, bddl [] S_.2.2.1, S_.2.2.2.1, bddo [] S_.2.2.2.2), q_.1, z_ :: zs, m_))
  | _ => none
def bfst (l : List (Option (bT × Nat × List (Int × Int) × Nat))) : Option (bT × Nat × List (Int × Int) × Nat) := match l with
  | [] => none
  | x_ :: t_ => match x_ with
    | some w_ => some w_
    | none => bfst t_
