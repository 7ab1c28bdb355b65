-- ===== what makes a table right
/-- the class whose arrays a kind of cell is -/
def xkc (kk : Nat) : String := bif Nat.beq kk 21 then RX6 else (bif Nat.beq kk 22 then RX5 else (bif Nat.beq kk 23 then RX9 else RX7))
/-- a method's link: by a word of the tables, or by a nest mate's (5000 and its place) -/
def xlnk (mi idx p cm : Nat) : Bool := match Nat.ble 5000 p with
  | true => decide (xnest[p - 5000]? = some (xo mi, idx, cm))
  | false => decide (lw_tbl[p]? = some (.methodLink (xRn (xo mi)) idx (xy cm)))
/-- a method's own words -/
def xmok (cm : Nat) : Bool := decide (lw_tbl[xcp cm]? = some (.code (xy cm) (xb cm) (xm cm) (xr cm))) && (plainName (xy cm).cls && (decide ((xy cm).cls ≠ "java/lang/invoke/MethodHandle") && (decide ((xy cm).cls ≠ "java/lang/invoke/VarHandle") && (decide ((parseMethodDescriptor (xy cm).desc).map (fun d => d.parameters.length) = some (xn cm)) && (Nat.ble (xm cm) 20 && (decide ((xy cm).cls = xRn (xo cm)) && Nat.ble (cm + 1) xlaw))))))
/-- what a table's row says of an instruction: the words of its constants stand in the tables -/
def xau (mi : Nat) (i : Instr) (ln : Nat) (ax : List Nat) : Bool := match i with
  | .getfield idx => Nat.beq ln 3 && (match ax with
    | [p, ci, kf] => decide (lw_tbl[p]? = some (.fieldLink (xRn (xo mi)) idx (xT ci kf).1 (xT ci kf).2.1 (xT ci kf).2.2.1)) && (Nat.ble (ci + 1) 13 && Nat.ble (kf + 1) (xN ci))
    | _ => false)
  | .putfield idx => Nat.beq ln 3 && (match ax with
    | [p, ci, kf] => decide (lw_tbl[p]? = some (.fieldLink (xRn (xo mi)) idx (xT ci kf).1 (xT ci kf).2.1 (xT ci kf).2.2.1)) && (Nat.ble (ci + 1) 13 && (Nat.ble (kf + 1) (xN ci) && decide ((xT ci kf).1 = xRn ci)))
    | _ => false)
  | .new idx => Nat.beq ln 3 && (match ax with
    | [p, ci, a, b] => decide (lw_tbl[p]? = some (.classLink (xRn (xo mi)) idx (xRn ci))) && (decide (lw_tbl[a]? = some (.instantiable (xRn ci) (xN ci))) && (decide (lw_tbl[b]? = some (.initialized (xRn ci))) && Nat.ble (ci + 1) 13))
    | _ => false)
  | .newarray _ => Nat.beq ln 2 && (match ax with
    | [p] => decide (lw_tbl[p]? = some (.arrayClass .int))
    | _ => false)
  | .anewarray idx => Nat.beq ln 3 && (match ax with
    | [p, kk] => decide (lw_tbl[p]? = some (.classLink (xRn (xo mi)) idx (xkc kk))) && (Nat.ble 21 kk && Nat.ble kk 24)
    | _ => false)
  | .getstatic idx => Nat.beq ln 3 && (match ax with
    | [p, j] => (match xstat[j]? with
      | some q => (match Nat.ble 5000 p with
        | true => decide (xnf[p - 5000]? = some (xo mi, idx, j))
        | false => decide (lw_tbl[p]? = some (.fieldLink (xRn (xo mi)) idx q.1 q.2.1 q.2.2.1)))
      | none => false)
    | _ => true)
  | .ldc idx => Nat.beq ln 2 && (match ax with
    | [p, n] => decide (lw_tbl[p]? = some (.constant (xRn (xo mi)) idx (Int32.ofNat n)))
    | [_, n, _] => (match xstr[n]? with
      | some q => decide (q.1 = xo mi) && decide (q.2.1 = idx)
      | none => false)
    | _ => true)
  | .ldc_w idx => Nat.beq ln 3 && (match ax with
    | [p, n] => decide (lw_tbl[p]? = some (.constant (xRn (xo mi)) idx (Int32.ofNat n)))
    | _ => true)
  | .ldc2_w idx => Nat.beq ln 3 && (match ax with
    | [p, n] => decide (lw_tbl[p]? = some (.constantLong (xRn (xo mi)) idx (Int64.ofNat n)))
    | _ => true)
  | .invokespecial idx => Nat.beq ln 3 && (match ax with
    | [p, cm, a, b] => match Nat.beq cm 900 with
      | true => decide (lw_tbl[p]? = some (.methodLink (xRn (xo mi)) idx objectInit)) && (decide (lw_tbl[a]? = some (.instanceMethod objectInit)) && decide (lw_tbl[b]? = some (.code objectInit ⟨#[0xb1]⟩ 1 none)))
      | false => xlnk mi idx p cm && (decide (lw_tbl[a]? = some (.instanceMethod (xy cm))) && (decide (lw_tbl[b]? = some (.initialized (xy cm).cls)) && (decide ((xy cm).name = "<init>") && (decide (xr cm = none) && xmok cm))))
    | _ => true)
  | .invokestatic idx => Nat.beq ln 3 && (match ax with
    | [p, cm, a, b] => xlnk mi idx p cm && (decide (lw_tbl[a]? = some (.static (xy cm))) && (decide (lw_tbl[b]? = some (.initialized (xy cm).cls)) && xmok cm))
    | [p, cm, a, b, d] => match Nat.beq cm 901 with
      | true => decide (lw_tbl[p]? = some (.methodLink (xRn (xo mi)) idx Lib.Math.max.name)) && (decide (lw_tbl[a]? = some (.static Lib.Math.max.name)) && (decide (lw_tbl[b]? = some (.initialized "java/lang/Math")) && decide (lw_tbl[d]? = some (.code Lib.Math.max.name Lib.Math.max.code 2 (some .int)))))
      | false => match Nat.beq cm 902 with
        | true => decide (lw_tbl[p]? = some (.methodLink (xRn (xo mi)) idx Lib.Math.min.name)) && (decide (lw_tbl[a]? = some (.static Lib.Math.min.name)) && (decide (lw_tbl[b]? = some (.initialized "java/lang/Math")) && decide (lw_tbl[d]? = some (.code Lib.Math.min.name Lib.Math.min.code 2 (some .int)))))
        | false => decide (lw_tbl[p]? = some (.methodLink (xRn (xo mi)) idx arraycopyName)) && (decide (lw_tbl[a]? = some (.native arraycopyName)) && (decide (lw_tbl[b]? = some (.static arraycopyName)) && decide (lw_tbl[d]? = some (.initialized "java/lang/System"))))
    | _ => true)
  | .invokevirtual idx => Nat.beq ln 3 && (match ax with
    | [p, cm, a, b, d] => xlnk mi idx p cm && (decide (lw_tbl[a]? = some (.instanceMethod (xy cm))) && (decide (lw_tbl[b]? = some (.initialized (xy cm).cls)) && (decide (lw_tbl[d]? = some (.selects (xRn (xo cm)) (xy cm) (xy cm))) && (decide ((xy cm).cls = xRn (xo cm)) && xmok cm))))
    | [p, cm, a, b, d, e] => decide (lw_tbl[p]? = some (.methodLink (xRn (xo mi)) idx yJ0_indexOf_0f7a4)) && (decide (lw_tbl[a]? = some (.instanceMethod yJ0_indexOf_0f7a4)) && (decide (lw_tbl[b]? = some (.initialized RJ0)) && (decide (lw_tbl[d]? = some (.selects RJ0 yJ0_indexOf_0f7a4 yJ0_indexOf_0f7a4)) && decide (lw_tbl[e]? = some (.code yJ0_indexOf_0f7a4 cJ0_indexOf_0f7a4 2 (some .int))))))
    | _ => true)
  | _ => true
/-- an instruction's length -/
def xln (i : Instr) : Nat := match i with
  | .bipush _ => 2
  | .sipush _ => 3
  | .iload _ => 2
  | .lload _ => 2
  | .lstore _ => 2
  | .aload _ => 2
  | .istore _ => 2
  | .astore _ => 2
  | .iinc _ _ => 3
  | .goto _ => 3
  | .ifCond _ _ => 3
  | .if_icmp _ _ => 3
  | .ifnonnull _ => 3
  | .getfield _ => 3
  | .getstatic _ => 3
  | .putfield _ => 3
  | .new _ => 3
  | .newarray _ => 2
  | .anewarray _ => 3
  | .ldc _ => 2
  | .ldc_w _ => 3
  | .ldc2_w _ => 3
  | .invokespecial _ => 3
  | .invokestatic _ => 3
  | .invokevirtual _ => 3
  | _ => 1
def xlnb (i : Instr) (ln : Nat) : Bool := match i with
  | .tableswitch _ _ _ _ => true
  | .lookupswitch _ _ => true
  | i => Nat.beq ln (xln i)
/-- a table's row is right: the bytes decode to it, its constants' words stand in xU -/
def xEb (mi pc : Nat) (e : Instr × Nat × List Nat) : Bool := decide (decode (xb mi) pc = .ok (e.1, e.2.1)) && (xlnb e.1 e.2.1 && xau mi e.1 e.2.1 e.2.2)
def xTok : Prop := ∀ (mi pc : Nat) (e : Instr × Nat × List Nat), xcd mi pc = some e → xEb mi pc e = true
