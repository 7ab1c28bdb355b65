section
variable {p : Program} {l : Launch} {e : Env} {R : Room} {s : State} {m : MethodId} {args : Array Value} {below : List Frame} {meth : Method} {c : Code} {Q : State → Prop} {r : Nat → Value} {D : va_G} {dA : Nat → ClassId} {A : Nat → Prop} {H0 : Heap} {n0 z0 : Nat} {ad0 : Nat → Nat} {mi pc : Nat} {lo : xL} {st : List Jvm.Term} {h : xH} {E : List xB} {β : Type} {res : β} {k : Nat → xL → List Jvm.Term → xH → List xB → Option β}
set_option maxHeartbeats 4000000 in
theorem xstep (G : xCx p R s m args meth c r D dA A H0 mi) {e0 : Instr × Nat × List Nat} (hd : decode (xb mi) pc = .ok (e0.1, e0.2.1)) (hl : xlnb e0.1 e0.2.1 = true) (ha : xau mi e0.1 e0.2.1 e0.2.2 = true) (hs : xsp mi pc e0 lo st h E k = some res) :
    xR1 p l e R s m args below meth c Q r D dA A H0 n0 z0 ad0 (xm mi) pc lo st h E β k res := by
  obtain ⟨i, ln, ax⟩ := e0
  simp only at hd hl ha
  cases i with
  | iconst n => exact xs_iconst G (by rw [hd, Nat.eq_of_beq_eq_true (show Nat.beq ln _ = true from hl)]; rfl) hs
  | bipush n => exact xs_bipush G (by rw [hd, Nat.eq_of_beq_eq_true (show Nat.beq ln _ = true from hl)]; rfl) hs
  | sipush n => exact xs_sipush G (by rw [hd, Nat.eq_of_beq_eq_true (show Nat.beq ln _ = true from hl)]; rfl) hs
  | aconst_null => exact xs_null G (by rw [hd, Nat.eq_of_beq_eq_true (show Nat.beq ln _ = true from hl)]; rfl) hs
  | iload_n i => exact xs_iload_n G (by rw [hd, Nat.eq_of_beq_eq_true (show Nat.beq ln _ = true from hl)]; rfl) hs
  | iload i => exact xs_iload G (by rw [hd, Nat.eq_of_beq_eq_true (show Nat.beq ln _ = true from hl)]; rfl) hs
  | lload_n i => exact xs_lload_n G (by rw [hd, Nat.eq_of_beq_eq_true (show Nat.beq ln _ = true from hl)]; rfl) hs
  | aload_n i => exact xs_aload_n G (by rw [hd, Nat.eq_of_beq_eq_true (show Nat.beq ln _ = true from hl)]; rfl) hs
  | aload i => exact xs_aload G (by rw [hd, Nat.eq_of_beq_eq_true (show Nat.beq ln _ = true from hl)]; rfl) hs
  | istore_n i => exact xs_istore_n G (by rw [hd, Nat.eq_of_beq_eq_true (show Nat.beq ln _ = true from hl)]; rfl) hs
  | istore i => exact xs_istore G (by rw [hd, Nat.eq_of_beq_eq_true (show Nat.beq ln _ = true from hl)]; rfl) hs
  | astore_n i => exact xs_astore_n G (by rw [hd, Nat.eq_of_beq_eq_true (show Nat.beq ln _ = true from hl)]; rfl) hs
  | astore i => exact xs_astore G (by rw [hd, Nat.eq_of_beq_eq_true (show Nat.beq ln _ = true from hl)]; rfl) hs
  | iinc i n => exact xs_iinc G (by rw [hd, Nat.eq_of_beq_eq_true (show Nat.beq ln _ = true from hl)]; rfl) hs
  | ifCond cd off => exact xs_if G (by rw [hd, Nat.eq_of_beq_eq_true (show Nat.beq ln _ = true from hl)]; rfl) hs
  | if_icmp cd off => exact xs_icmp G (by rw [hd, Nat.eq_of_beq_eq_true (show Nat.beq ln _ = true from hl)]; rfl) hs
  | goto off => exact xs_goto G (by rw [hd, Nat.eq_of_beq_eq_true (show Nat.beq ln _ = true from hl)]; rfl) hs
  | ifnonnull off => exact xs_ifnonnull G (by rw [hd, Nat.eq_of_beq_eq_true (show Nat.beq ln _ = true from hl)]; rfl) hs
  | iadd => exact xs_iadd G (by rw [hd, Nat.eq_of_beq_eq_true (show Nat.beq ln _ = true from hl)]; rfl) hs
  | isub => exact xs_isub G (by rw [hd, Nat.eq_of_beq_eq_true (show Nat.beq ln _ = true from hl)]; rfl) hs
  | imul => exact xs_imul G (by rw [hd, Nat.eq_of_beq_eq_true (show Nat.beq ln _ = true from hl)]; rfl) hs
  | idiv => exact xs_idiv G (by rw [hd, Nat.eq_of_beq_eq_true (show Nat.beq ln _ = true from hl)]; rfl) hs
  | irem => exact xs_irem G (by rw [hd, Nat.eq_of_beq_eq_true (show Nat.beq ln _ = true from hl)]; rfl) hs
  | iand => exact xs_iand G (by rw [hd, Nat.eq_of_beq_eq_true (show Nat.beq ln _ = true from hl)]; rfl) hs
  | ior => exact xs_ior G (by rw [hd, Nat.eq_of_beq_eq_true (show Nat.beq ln _ = true from hl)]; rfl) hs
  | ixor => exact xs_ixor G (by rw [hd, Nat.eq_of_beq_eq_true (show Nat.beq ln _ = true from hl)]; rfl) hs
  | ishl => exact xs_ishl G (by rw [hd, Nat.eq_of_beq_eq_true (show Nat.beq ln _ = true from hl)]; rfl) hs
  | ishr => exact xs_ishr G (by rw [hd, Nat.eq_of_beq_eq_true (show Nat.beq ln _ = true from hl)]; rfl) hs
  | iushr => exact xs_iushr G (by rw [hd, Nat.eq_of_beq_eq_true (show Nat.beq ln _ = true from hl)]; rfl) hs
  | ineg => exact xs_ineg G (by rw [hd, Nat.eq_of_beq_eq_true (show Nat.beq ln _ = true from hl)]; rfl) hs
  | i2b => exact xs_i2b G (by rw [hd, Nat.eq_of_beq_eq_true (show Nat.beq ln _ = true from hl)]; rfl) hs
  | i2s => exact xs_i2s G (by rw [hd, Nat.eq_of_beq_eq_true (show Nat.beq ln _ = true from hl)]; rfl) hs
  | l2i => exact xs_l2i G (by rw [hd, Nat.eq_of_beq_eq_true (show Nat.beq ln _ = true from hl)]; rfl) hs
  | lushr => exact xs_lushr G (by rw [hd, Nat.eq_of_beq_eq_true (show Nat.beq ln _ = true from hl)]; rfl) hs
  | lshr => exact xs_lshr G (by rw [hd, Nat.eq_of_beq_eq_true (show Nat.beq ln _ = true from hl)]; rfl) hs
  | land => exact xs_land G (by rw [hd, Nat.eq_of_beq_eq_true (show Nat.beq ln _ = true from hl)]; rfl) hs
  | lor => exact xs_lor G (by rw [hd, Nat.eq_of_beq_eq_true (show Nat.beq ln _ = true from hl)]; rfl) hs
  | lshl => exact xs_lshl G (by rw [hd, Nat.eq_of_beq_eq_true (show Nat.beq ln _ = true from hl)]; rfl) hs
  | i2l => exact xs_i2l G (by rw [hd, Nat.eq_of_beq_eq_true (show Nat.beq ln _ = true from hl)]; rfl) hs
  | ladd => exact xs_ladd G (by rw [hd, Nat.eq_of_beq_eq_true (show Nat.beq ln _ = true from hl)]; rfl) hs
  | lsub => exact xs_lsub G (by rw [hd, Nat.eq_of_beq_eq_true (show Nat.beq ln _ = true from hl)]; rfl) hs
  | i2c => exact xs_i2c G (by rw [hd, Nat.eq_of_beq_eq_true (show Nat.beq ln _ = true from hl)]; rfl) hs
  | lload i => exact xs_lload G (by rw [hd, Nat.eq_of_beq_eq_true (show Nat.beq ln _ = true from hl)]; rfl) hs
  | lconst n => exact xs_lconst G (by rw [hd, Nat.eq_of_beq_eq_true (show Nat.beq ln _ = true from hl)]; rfl) hs
  | lstore_n i => exact xs_lstore_n G (by rw [hd, Nat.eq_of_beq_eq_true (show Nat.beq ln _ = true from hl)]; rfl) hs
  | lstore i => exact xs_lstore G (by rw [hd, Nat.eq_of_beq_eq_true (show Nat.beq ln _ = true from hl)]; rfl) hs
  | getstatic idx => exact xs_getstatic G (by rw [hd, Nat.eq_of_beq_eq_true (show Nat.beq ln _ = true from hl)]; rfl) ha hs
  | dup => exact xs_dup G (by rw [hd, Nat.eq_of_beq_eq_true (show Nat.beq ln _ = true from hl)]; rfl) hs
  | pop => exact xs_pop G (by rw [hd, Nat.eq_of_beq_eq_true (show Nat.beq ln _ = true from hl)]; rfl) hs
  | dup2 => exact xs_dup2 G (by rw [hd, Nat.eq_of_beq_eq_true (show Nat.beq ln _ = true from hl)]; rfl) hs
  | arraylength => exact xs_arraylength G (by rw [hd, Nat.eq_of_beq_eq_true (show Nat.beq ln _ = true from hl)]; rfl) hs
  | iaload => exact xs_iaload G (by rw [hd, Nat.eq_of_beq_eq_true (show Nat.beq ln _ = true from hl)]; rfl) hs
  | iastore => exact xs_iastore G (by rw [hd, Nat.eq_of_beq_eq_true (show Nat.beq ln _ = true from hl)]; rfl) hs
  | aaload => exact xs_aaload G (by rw [hd, Nat.eq_of_beq_eq_true (show Nat.beq ln _ = true from hl)]; rfl) hs
  | aastore => exact xs_aastore G (by rw [hd, Nat.eq_of_beq_eq_true (show Nat.beq ln _ = true from hl)]; rfl) hs
  | getfield idx => exact xs_getfield G (by rw [hd, Nat.eq_of_beq_eq_true (show Nat.beq ln _ = true from hl)]; rfl) ha hs
  | putfield idx => exact xs_putfield G (by rw [hd, Nat.eq_of_beq_eq_true (show Nat.beq ln _ = true from hl)]; rfl) ha hs
  | new idx => exact xs_new G (by rw [hd, Nat.eq_of_beq_eq_true (show Nat.beq ln _ = true from hl)]; rfl) ha hs
  | newarray ty => exact xs_newarray G (by rw [hd, Nat.eq_of_beq_eq_true (show Nat.beq ln _ = true from hl)]; rfl) ha hs
  | anewarray idx => exact xs_anewarray G (by rw [hd, Nat.eq_of_beq_eq_true (show Nat.beq ln _ = true from hl)]; rfl) ha hs
  | ldc idx => exact xs_ldc G (by rw [hd, Nat.eq_of_beq_eq_true (show Nat.beq ln _ = true from hl)]; rfl) ha hs
  | ldc_w idx => exact xs_ldc_w G (by rw [hd, Nat.eq_of_beq_eq_true (show Nat.beq ln _ = true from hl)]; rfl) ha hs
  | ldc2_w idx => exact xs_ldc2_w G (by rw [hd, Nat.eq_of_beq_eq_true (show Nat.beq ln _ = true from hl)]; rfl) ha hs
  | tableswitch dflt low high offs => exact xs_tableswitch G hd hs
  | lookupswitch dflt ps => exact xs_lookupswitch G hd hs
  | invokespecial idx =>
    have hd' : decode (xb mi) pc = .ok (.invokespecial idx, 3) := by rw [hd, Nat.eq_of_beq_eq_true (show Nat.beq ln _ = true from hl)]; rfl
    rcases ax with _ | ⟨p0, _ | ⟨cm, _ | ⟨a1, _ | ⟨b1, _ | ⟨x9, t9⟩⟩⟩⟩⟩ <;> first | (exfalso; revert hs; simp [xsp]; done) | skip
    cases h9 : Nat.beq cm 900 with
    | false => exfalso; revert hs; simp [xsp, h9]; done
    | true =>
      have e9 := Nat.eq_of_beq_eq_true h9
      subst e9
      exact xs_objInit G hd' ha hs
  | invokestatic idx =>
    have hd' : decode (xb mi) pc = .ok (.invokestatic idx, 3) := by rw [hd, Nat.eq_of_beq_eq_true (show Nat.beq ln _ = true from hl)]; rfl
    rcases ax with _ | ⟨p0, _ | ⟨cm, _ | ⟨a1, _ | ⟨b1, _ | ⟨d1, _ | ⟨x9, t9⟩⟩⟩⟩⟩⟩ <;> first | (exfalso; revert hs; simp [xsp]; done) | skip
    exact xs_native G hd' ha hs
  | _ => exfalso; revert hs; simp [xsp]; done
end
