theorem lf_short : xfin (xev 60 20 xlaw 18 xlo0 [] xh0 [(.gt, .int 0, .sub (.arg 49) (.int 6), true)]) = true := by decide +kernel
theorem lf_dflt : xfin (xev 60 20 xlaw 18 xlo0 [] xh0 [(.gt, .int 0, .sub (.arg 49) (.int 6), false), (.lt, .int 0, .arg 49, true), (.gt, .op2 .iand (.arg 0) (.int 63), .int 43, true), (.gt, .int 6, .sub (.arg 49) (.int 6), true)]) = true := by decide +kernel
set_option maxHeartbeats 4000000 in
/-- every script has its road -/
theorem xcover (b L : Nat) (xs : Nat → Int32) (hL : L ≤ 6) (sa : Nat → Nat) : ∃ (r' : Nat → Value) (E : List xB) (o : xO), xRr r' ∧ (∀ i, ¬ (6 ≤ i ∧ i ≤ 48) → r' i = xrho b L xs sa i) ∧ (∀ q ∈ E, xhold r' q) ∧ xS1 r' 20 xlaw 18 xlo0 [] xh0 E o ∧ xfin (some o) = true := by
  have hr := xrho_ok b L xs sa
  generalize hrr : xrho b L xs sa = r at hr ⊢
  have h49 : XI r (.arg 49) = (L : Int) := by
    subst hrr
    rw [XI_eq]
    show (Int32.ofNat L).toInt = (L : Int)
    exact nI_toInt (by omega)
  have hs0 : XI r (.sub (.arg 49) (.int 6)) = (L : Int) - 6 := XI_sub h49 (XI_lit (by decide +kernel)) (by omega) (by omega)
  by_cases h6 : L < 6
  · exact xcov_ev hr ⟨60, _, xc_cons (xh_gt_T (XI_lit (by decide +kernel : (0 : Int32).toInt = 0)) hs0 (by omega)) xc_nil, lf_short⟩
  · have e6 : L = 6 := by omega
    subst e6
    have h49 : XI r (.arg 49) = 6 := h49
    have hs : XI r (.sub (.arg 49) (.int 6)) = 0 := by rw [hs0]; rfl
    obtain ⟨j, hj, he⟩ := pk_andE (xti (xdv r xid (.arg 0))) (m := 63) 6 rfl
    have hI : XI r (.op2 .iand (.arg 0) (.int 63)) = (j : Int) := by
      have e1 : XI r (.op2 .iand (.arg 0) (.int 63)) = (xti (xdv r xid (.arg 0)) &&& 63).toInt := XI_eq r _
      rw [e1, he]
      exact nI_toInt (by omega)
    by_cases k0 : j = 0
    · subst k0; exact xcov_ev hr (cv_0 h49 hs hI)
    by_cases k1 : j = 1
    · subst k1; exact xcov_ev hr (cv_1 h49 hs hI)
    by_cases k2 : j = 2
    · subst k2; exact xcov_ev hr (cv_2 h49 hs hI)
    by_cases k3 : j = 3
    · subst k3; exact xcov_ev hr (cv_3 h49 hs hI)
    by_cases k4 : j = 4
    · subst k4; exact xcov_ev hr (cv_4 h49 hs hI)
    by_cases k5 : j = 5
    · subst k5; exact xcov_ev hr (cv_5 h49 hs hI)
    by_cases k6 : j = 6
    · subst k6; exact xcov_ev hr (cv_6 h49 hs hI)
    by_cases k7 : j = 7
    · subst k7; exact xcov_ev hr (cv_7 h49 hs hI)
    by_cases k8 : j = 8
    · subst k8; exact xcov_ev hr (cv_8 h49 hs hI)
    by_cases k9 : j = 9
    · subst k9; exact xcov_ev hr (cv_9 h49 hs hI)
    by_cases k10 : j = 10
    · subst k10; exact xcov_ev hr (cv_10 h49 hs hI)
    by_cases k11 : j = 11
    · subst k11; exact xcov_ev hr (cv_11 h49 hs hI)
    by_cases k12 : j = 12
    · subst k12; exact xcov_ev hr (cv_12 h49 hs hI)
    by_cases k13 : j = 13
    · subst k13; exact xcov_ev hr (cv_13 h49 hs hI)
    by_cases k14 : j = 14
    · subst k14; exact xcov_ev hr (cv_14 h49 hs hI)
    by_cases k15 : j = 15
    · subst k15; exact xcov_ev hr (cv_15 h49 hs hI)
    by_cases k16 : j = 16
    · subst k16; exact xcov_ev hr (cv_16 h49 hs hI)
    by_cases k17 : j = 17
    · subst k17; exact xcov_ev hr (cv_17 h49 hs hI)
    by_cases k18 : j = 18
    · subst k18; exact xcov_ev hr (cv_18 h49 hs hI)
    by_cases k19 : j = 19
    · subst k19; exact xcov_ev hr (cv_19 h49 hs hI)
    by_cases k20 : j = 20
    · subst k20; exact xcov_ev hr (cv_20 h49 hs hI)
    by_cases k21 : j = 21
    · subst k21; exact xcov_ev hr (cv_21 h49 hs hI)
    by_cases k22 : j = 22
    · subst k22; exact xcov_ev hr (cv_22 h49 hs hI)
    by_cases k23 : j = 23
    · subst k23; exact xcov_ev hr (cv_23 h49 hs hI)
    by_cases k24 : j = 24
    · subst k24; exact xcov_ev hr (cv_24 h49 hs hI)
    by_cases k25 : j = 25
    · subst k25; exact xcov_ev hr (cv_25 h49 hs hI)
    by_cases k26 : j = 26
    · subst k26; exact xcov_ev hr (cv_26 h49 hs hI)
    by_cases k27 : j = 27
    · subst k27; exact xcov_ev hr (cv_27 h49 hs hI)
    by_cases k28 : j = 28
    · subst k28; exact cw_28 hr h49 hs hI
    by_cases k29 : j = 29
    · subst k29; exact xcov_ev hr (cv_29 h49 hs hI)
    by_cases k30 : j = 30
    · subst k30; exact cw_30 hr h49 hs hI
    by_cases k31 : j = 31
    · subst k31; exact xcov_ev hr (cv_31 h49 hs hI)
    by_cases k32 : j = 32
    · subst k32; exact xcov_ev hr (cv_32 h49 hs hI)
    by_cases k33 : j = 33
    · subst k33; exact xcov_ev hr (cv_33 h49 hs hI)
    by_cases k34 : j = 34
    · subst k34; exact xcov_ev hr (cv_34 h49 hs hI)
    by_cases k35 : j = 35
    · subst k35; exact xcov_ev hr (cv_35 h49 hs hI)
    by_cases k36 : j = 36
    · subst k36; exact xcov_ev hr (cv_36 h49 hs hI)
    by_cases k37 : j = 37
    · subst k37; exact xcov_ev hr (cv_37 h49 hs hI)
    by_cases k38 : j = 38
    · subst k38; exact mn_38 hr h49 hs hI
    by_cases k39 : j = 39
    · subst k39; exact xcov_ev hr (cv_39 h49 hs hI)
    by_cases k40 : j = 40
    · subst k40; exact xcov_ev hr (cv_40 h49 hs hI)
    by_cases k41 : j = 41
    · subst k41; exact xcov_ev hr (cv_41 h49 hs hI)
    by_cases k42 : j = 42
    · subst k42; exact xcov_ev hr (cv_42 h49 hs hI)
    by_cases k43 : j = 43
    · subst k43; exact xcov_ev hr (cv_43 h49 hs hI)
    exact xcov_ev hr ⟨60, _, xc_cons (xh_gt_F (XI_lit (by decide +kernel : (0 : Int32).toInt = 0)) hs (by omega)) (xc_cons (xh_lt_T (XI_lit (by decide +kernel : (0 : Int32).toInt = 0)) h49 (by omega)) (xc_cons (xh_gt_T hI (XI_lit (by decide +kernel : (43 : Int32).toInt = 43)) (by omega)) (xc_cons (xh_gt_T (XI_lit (by decide +kernel : (6 : Int32).toInt = 6)) hs (by omega)) xc_nil))), lf_dflt⟩
/-- THE LAW, from its entry -/
theorem whole_start {p : Program} {e : Env} {s : State} {m : MethodId} {below : List Frame} {meth : Method} {c : Code} (l : Launch) (hflags : l.flags = flags0) {b L : Nat} {xs : Nat → Int32} (hL : L ≤ 6) (C0 : lw_At p s m meth c b L xs) : W p l e room_1 s m #[Value.ref b] below meth c s.heap [] 0 0 (lw_Z below #[Value.ref b] s) (entryFrame m ([Value.ref b] : List Value).toArray 4) :=
  xtop2 l hL C0 (xcover b L xs hL)
-- ===== YOUR PART ENDS =====
set_option maxHeartbeats 4000000 in
theorem lw_walk (l : Launch) (hflags : l.flags = flags0) (b : Addr) (xs : List Int32) : MetFree l x (headSpec (Jvm.Cond.code x code maxLocals ret :: tables_1) room_1) (lw_P b xs) (fun _ _ _ _ _ => True) lw_Q := by
  refine MetFree.of_bodyS (code := code) (maxLocals := maxLocals) (ret := ret) (by decide) ?_ ?_
  · intro args s m h hn
    obtain ⟨meth, c, h1, h2, h3, h4, h5, h6, -, -⟩ := Cond.code_spec hn (atoms_spec (ws := Jvm.Cond.code x code maxLocals ret :: tables_1) h _ List.mem_cons_self)
    exact ⟨meth, c, h1, h2, h3, h4, h5, h6⟩
  · intro p e s m args below meth c s₁ B hml0 hP _
    obtain ⟨rfl, hx, hbd, hgv⟩ := hP
    obtain ⟨scr, harrAt, hlist, hof, hsmall⟩ := hx
    obtain ⟨hcb, hkn, -, -⟩ := State.arrayAt?_spec harrAt
    have hown : s.vm.findClass R_law = some m.cls := findClass_of_methodNamed B.named
    have hts0 : ∀ c ∈ (Jvm.Cond.code x code maxLocals ret :: tables_1), c.before #[Value.ref b] s = true := atoms_spec (ws := Jvm.Cond.code x code maxLocals ret :: tables_1) B.pre
    have hts : ∀ w ∈ lw_tbl, w.before #[Value.ref b] s = true := k2_hts_sels lw_privs (fun w hw => hts0 w (List.mem_cons_of_mem _ hw)) lw_privs_ok
    have hml : c.maxLocals = 4 := B.maxLocals_eq (hts0 _ List.mem_cons_self)
    have X₀ : Stand p l e room_1 s m #[Value.ref b] below meth c s₁ [] 0 0 := Stand.of_body B
    have hh0 : s₁.heap = s.heap := by rw [B.state]; rfl
    have hsz : scr.slots.size = xs.length := by rw [← Array.length_toList, hlist, List.length_map]
    have hval : ∀ j : Nat, j < xs.length → scr.slots[j]? = some (.int (xs.getD j 0)) := fun j hj => by
      rw [← Array.getElem?_toList, hlist]
      simp [hj]
    have hbl : b < s.heap.size := (Array.getElem?_eq_some_iff.mp hcb).1
    have hX : va_X b xs.length (fun j => xs.getD j 0) s s.heap := ⟨scr, hcb, hof, hkn, hsz, hval⟩
    have K : W p l e room_1 s m #[Value.ref b] below meth c s₁.heap [] 0 0 (lw_Z below #[Value.ref b] s) (entryFrame m ([Value.ref b] : List Value).toArray 4) := by
      rw [hh0]
      exact whole_start l hflags hbd ⟨B.exec, B.bytes, B.returns, hml, hown, hts, hX, hbl, B.notSynchronized, hgv⟩
    obtain ⟨t, a1, o, b1, b2, b3⟩ := K s₁ rfl X₀
    exact ⟨t, o, a1, b1, b2, b3⟩
theorem lw_pre_spec {args : Array Value} {s : State} (h : (Jvm.Cond.and given_1 narrow_1).before args s = true) (hr : rest_1_c.before args s = true) : ∃ (b : Addr) (xs : List Int32), lw_P b xs args s := by
  have hs := flat_of_before _ h
  have hq := flat_of_before _ hr
  have hc : (Cond.count 1).before args s = true := hs _ (by decide +kernel)
  have harr : (Cond.arrayOf (.arg 0) .int).before args s = true := hs _ (by decide +kernel)
  have hle : (Cond.le (.length (.arg 0)) (.int 6)).before args s = true := hs _ (by decide +kernel)
  have hlen : (Cond.isInt (.length (.arg 0))).before args s = true := hq _ (by decide +kernel)
  have hall : (Cond.all (.arg 0) (.isInt (.elem (.arg 0) (.index 0)))).before args s = true := hq _ (by decide +kernel)
  obtain ⟨b, xs, hb, hx⟩ := State.ints_of_pre rfl harr hlen hall
  have hsm : xs.length < 2 ^ 31 := hx.choose_spec.2.2.2
  have hev : (Term.length (.arg 0)).eval args s none [] s = some (.int xs.length.toInt32) := hx.length_eval hb
  have hv := Cond.le_ints hev (show (Term.int 6).eval args s none [] s = some (.int 6) from rfl)
  have hd : xs.length.toInt32 ≤ 6 := by
    simpa [Cond.before, Cond.holds, hv] using hle
  have hN : xs.length ≤ 6 := (Int32.ofNat_le_ofNat hsm (by decide)).mp (show Int32.ofNat xs.length ≤ Int32.ofNat 6 from hd)
  exact ⟨b, xs, Cond.one_arg hc (show args[0]? = some (.ref b) from hb), hx, hN, h⟩
theorem lw_comes (l : Launch) (hflags : l.flags = flags0) : Comes l x (Jvm.Cond.code x code maxLocals ret :: tables_1) room_1 (fun tb e args s => Calls_1 tb e args s ∧ rest_1 tb e args s ∧ Pre_1 tb e args s)
    (fun _ _ args s o t => lw_Q args s o t) := by
  intro p e ha hc hk s m args below hf hfit hheap happ hpre
  obtain ⟨b, xs, hP⟩ := lw_pre_spec hpre.2.2 hpre.2.1
  obtain ⟨k, o, h1, h2, h3, hQ⟩ := lw_walk l hflags b xs p e ha hc hk s m args below hf ((Spec.applies_iff_loose hf).mp happ).1 hP trivial
  exact ⟨k, o, h1, h2, h3, hQ⟩
theorem lw_frame {s t : State} {o : Outcome} {args : Array Value} (h : Framed s o t [] 600000 7302250) :
    Framed s o t (fieldLocs frame_1_writes args s ++ arrayLocs frame_1_arrays args s ++ staticLocs frame_1_statics s) 600000 7302250 := h
theorem lw_limb (L : Cond) (hL : ∀ (args : Array Value) (s t : State), L.after args s (.returned (some (.int 1))) t = true) :
    ArmFor flags0 classFile x code maxLocals ret World_1 tables_1 room_1 Calls_1 rest_1 Pre_1
      (fun tb e a s o t => postC L tb e a s o t ∧ Framed s o t (fieldLocs frame_1_writes a s ++ arrayLocs frame_1_arrays a s ++ staticLocs frame_1_statics s) 600000 7302250) := by
  intro l hflags _ _ p e ha hc hk s m args below hf hfit hheap happ hpre
  obtain ⟨k, o, h1, h2, h3, rfl, hF⟩ := lw_comes l hflags p e ha hc hk s m args below hf hfit hheap happ hpre
  exact ⟨k, _, h1, h2, h3, hL args s _, lw_frame hF⟩
theorem i_vc : Claimed_1_1 ∧ Claimed_1_2 := ⟨lw_limb limb_1_1 (fun args s t => by simp [limb_1_1, Cond.after, Cond.holds, Cond.value]), lw_limb limb_1_2 (fun args s t => Cond.after_iff.mpr (by
  first | (rw [show limb_1_2 = Cond.eq .result (.int 1) from rfl, Cond.eq_ints (x := 1) (y := 1) rfl rfl]; simp; done) | (simp [limb_1_2, Cond.value, Term.eval]; done)))⟩

