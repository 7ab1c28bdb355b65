-- ===== THE LAW: stretches of it at the machine's level, the script's ints by their places
/-- a stretch of a method -/
def xTr (r_ : Nat → Value) (d_ mi pc : Nat) (lo : xL) (st : List Jvm.Term) (h : xH) (pc' : Nat) (lo' : xL) (st' : List Jvm.Term) (h' : xH) : Prop :=
  h.length ≤ h'.length ∧ xhz h ≤ xhz h' ∧ ∀ (p : Program) (l : Launch) (e : Env) (R : Room) (s_ : State) (m_ : MethodId) (args_ : Array Value) (below : List Frame) (meth_ : Method) (c_ : Code) (Q_ : State → Prop) (D_ : va_G) (dA : Nat → ClassId) (A_ : Nat → Prop) (n0_ z0 : Nat) (ad0 : Nat → Nat), xCx p R s_ m_ args_ meth_ c_ r_ D_ dA A_ s_.heap mi → d_ + 1 ≤ R.frames → 64 * (d_ + 1) ≤ R.locals → h'.length - n0_ ≤ R.cells → xhz h' - z0 ≤ R.slots → xCf p l e R s_ m_ args_ below meth_ c_ Q_ r_ D_ dA A_ s_.heap n0_ z0 ad0 (xm mi) pc' lo' st' h' → xCf p l e R s_ m_ args_ below meth_ c_ Q_ r_ D_ dA A_ s_.heap n0_ z0 ad0 (xm mi) pc lo st h
section
variable {r_ : Nat → Value} {d_ mi pc pc1 pc2 : Nat} {lo lo1 lo2 : xL} {st st1_ st2 : List Jvm.Term} {h h1 h2 : xH} {o : xO}
theorem xTr_rf : xTr r_ d_ mi pc lo st h pc lo st h := ⟨Nat.le_refl _, Nat.le_refl _, fun p l e R s_ m_ args_ below meth_ c_ Q_ D_ dA A_ n0_ z0 ad0 G f1_ f2_ f3_ f4_ C_ => C_⟩
theorem xTr_tt (T1 : xTr r_ d_ mi pc lo st h pc1 lo1 st1_ h1) (T2 : xTr r_ d_ mi pc1 lo1 st1_ h1 pc2 lo2 st2 h2) : xTr r_ d_ mi pc lo st h pc2 lo2 st2 h2 :=
  ⟨Nat.le_trans T1.1 T2.1, Nat.le_trans T1.2.1 T2.2.1, fun p l e R s_ m_ args_ below meth_ c_ Q_ D_ dA A_ n0_ z0 ad0 G f1_ f2_ f3_ f4_ C_ => T1.2.2 p l e R s_ m_ args_ below meth_ c_ Q_ D_ dA A_ n0_ z0 ad0 G f1_ f2_ (by have := T2.1; omega) (by have := T2.2.1; omega) (T2.2.2 p l e R s_ m_ args_ below meth_ c_ Q_ D_ dA A_ n0_ z0 ad0 G f1_ f2_ f3_ f4_ C_)⟩
theorem xS1_tr (T : xTr r_ d_ mi pc lo st h pc1 lo1 st1_ h1) (S_ : xS1 r_ d_ mi pc1 lo1 st1_ h1 [] o) : xS1 r_ d_ mi pc lo st h [] o :=
  ⟨Nat.le_trans T.1 S_.1, Nat.le_trans T.2.1 S_.2.1, fun hE p l e R s_ m_ args_ below meth_ c_ Q_ D_ dA A_ n0_ z0 ad0 G f1_ f2_ f3_ f4_ hQ => T.2.2 p l e R s_ m_ args_ below meth_ c_ Q_ D_ dA A_ n0_ z0 ad0 G f1_ f2_ (by have := S_.1; omega) (by have := S_.2.1; omega) (S_.2.2 hE p l e R s_ m_ args_ below meth_ c_ Q_ D_ dA A_ n0_ z0 ad0 G f1_ f2_ f3_ f4_ hQ)⟩
/-- one instruction that calls nothing -/
theorem xTr_cs (hT_ : xTok) {e0_ : Instr × Nat × List Nat} (hcd : xcd mi pc = some e0_) (hs : xsp mi pc e0_ lo st h [] (fun a_ b_ c_ d_ e => (some (a_, b_, c_, d_, e) : Option xZ)) = some (pc1, lo1, st1_, h1, [])) : xTr r_ d_ mi pc lo st h pc1 lo1 st1_ h1 := by
  have htk := hT_ mi pc e0_ hcd
  simp only [xEb, Bool.and_eq_true, decide_eq_true_eq] at htk
  obtain ⟨hd_, hln, hau⟩ := htk
  have hmo := xsp_mono hs
  obtain ⟨a1_, a2, a3, a4, a5, hk0, m1_, m2_, -⟩ := hmo
  simp only [Option.some.injEq, Prod.mk.injEq] at hk0
  obtain ⟨k1_, k2_, k3_, k4_, k5_⟩ := hk0
  rw [k4_] at m1_ m2_
  refine ⟨m1_, m2_, fun p l e R s_ m_ args_ below meth_ c_ Q_ D_ dA A_ n0_ z0 ad0 G f1_ f2_ f3_ f4_ C_ => ?_⟩
  have hx : xR1 p l e R s_ m_ args_ below meth_ c_ Q_ r_ D_ dA A_ s_.heap n0_ z0 ad0 (xm mi) pc lo st h [] xZ _ _ := xstep G hd_ hln hau hs
  obtain ⟨b1, b2, b3, b4, b5, hk, -, -, -, hC⟩ := hx
  simp only [Option.some.injEq, Prod.mk.injEq] at hk
  obtain ⟨k1', k2', k3', k4', k5'⟩ := hk
  rw [k1', k2', k3', k4'] at hC
  exact hC f3_ f4_ (fun q_ hq => absurd hq List.not_mem_nil) C_
/-- what lies on top, under another name of alike worth -/
theorem xTr_val {t_ t' : Jvm.Term} (hv : ∀ ad, xdv r_ ad t_ = xdv r_ ad t') : xTr r_ d_ mi pc lo (t_ :: st) h pc lo (t' :: st) h :=
  ⟨Nat.le_refl _, Nat.le_refl _, fun p l e R s_ m_ args_ below meth_ c_ Q_ D_ dA A_ n0_ z0 ad0 G f1_ f2_ f3_ f4_ C_ hn hz hw ad H_ locs_ ls hag hP hD hS_ hl => by
    have K_ := C_ hn hz hw ad H_ locs_ ls hag hP hD hS_ hl
    simp only [List.map_cons] at K_ ⊢
    rw [hv ad]
    exact K_⟩
theorem xTr_al (hT_ : xTok) {z_ : Fin 4} {t_ : Jvm.Term} (hcd : xcd mi pc = some (.aload_n z_, 1, [])) (hl : xlk lo z_.val = some t_) (ht : xF t_ = true) : xTr r_ d_ mi pc lo st h (pc + 1) lo (t_ :: st) h := xTr_cs hT_ hcd (by simp only [xsp, hl, ht, cond_true, xpu, xfT_eq, xfN_eq])
theorem xTr_il (hT_ : xTok) {z_ : Fin 4} {t_ : Jvm.Term} (hcd : xcd mi pc = some (.iload_n z_, 1, [])) (hl : xlk lo z_.val = some t_) (ht : xI t_ = true) : xTr r_ d_ mi pc lo st h (pc + 1) lo (t_ :: st) h := xTr_cs hT_ hcd (by simp only [xsp, hl, ht, cond_true, xpu, xfT_eq, xfN_eq])
theorem xTr_ic (hT_ : xTok) {n : Int} (hcd : xcd mi pc = some (.iconst n, 1, [])) : xTr r_ d_ mi pc lo st h (pc + 1) lo (.int (Int32.ofInt n) :: st) h := xTr_cs hT_ hcd (by simp only [xsp, xpu, xfT_eq, xfN_eq])
theorem xTr_bp (hT_ : xTok) {n : Int} (hcd : xcd mi pc = some (.bipush n, 2, [])) : xTr r_ d_ mi pc lo st h (pc + 2) lo (.int (Int8.ofInt n).toInt32 :: st) h := xTr_cs hT_ hcd (by simp only [xsp, xpu, xfT_eq, xfN_eq])
theorem xTr_add (hT_ : xTok) {a_ b_ : Int32} (hcd : xcd mi pc = some (.iadd, 1, [])) : xTr r_ d_ mi pc lo (.int b_ :: .int a_ :: st) h (pc + 1) lo (.int (a_ + b_) :: st) h := xTr_cs hT_ hcd (by simp only [xsp, xI, Bool.and_self, cond_true, xpu, xfT_eq, xfN_eq, xad, xlit])
theorem xTr_sub (hT_ : xTok) {a_ b_ : Int32} (hcd : xcd mi pc = some (.isub, 1, [])) : xTr r_ d_ mi pc lo (.int b_ :: .int a_ :: st) h (pc + 1) lo (.int (a_ - b_) :: st) h := xTr_cs hT_ hcd (by simp only [xsp, xI, Bool.and_self, cond_true, xpu, xfT_eq, xfN_eq, xsb, xlit])
theorem xTr_and (hT_ : xTok) {a_ b_ : Int32} (hcd : xcd mi pc = some (.iand, 1, [])) : xTr r_ d_ mi pc lo (.int b_ :: .int a_ :: st) h (pc + 1) lo (.int (a_ &&& b_) :: st) h := xTr_cs hT_ hcd (by simp only [xsp, xI, Bool.and_self, cond_true, xpu, xfT_eq, xfN_eq, xb2, xlit, xo2, xti])
theorem xTr_pop (hT_ : xTok) {a_ : Int32} (hcd : xcd mi pc = some (.pop, 1, [])) : xTr r_ d_ mi pc lo (.int a_ :: st) h (pc + 1) lo st h := xTr_cs hT_ hcd (by simp only [xsp, xG, cond_false, xfN_eq])
theorem xTr_goto (hT_ : xTok) {off_ : Int} {t_ : Nat} (hcd : xcd mi pc = some (.goto off_, 3, [])) (ht : (pc : Int) + off_ = .ofNat t_) : xTr r_ d_ mi pc lo st h t_ lo st h := xTr_cs hT_ hcd (by simp only [xsp, xjp, ht, xfN_eq])
theorem xTr_icm (hT_ : xTok) {cd : Jvm.ClassFile.Cond} {off_ : Int} {t_ : Nat} {a_ b_ : Int32} {z_ : Bool} (hcd : xcd mi pc = some (.if_icmp cd off_, 3, [])) (ht : (pc : Int) + off_ = .ofNat t_) (hz : xcmb cd a_ b_ = z_) : xTr r_ d_ mi pc lo (.int b_ :: .int a_ :: st) h (bif z_ then t_ else pc + 3) lo st h := xTr_cs hT_ hcd (by
  cases z_ <;> simp only [xsp, xI, Bool.and_self, cond_true, cond_false, xjp, ht, xfN_eq, xbr, xlit, hz])
/-- an int of the script, at a place of it -/
theorem xTr_rd (hT_ : xTok) {k_ L_ : Nat} (hcd : xcd xlaw pc = some (.iaload, 1, [])) (hL : r_ 49 = .int (nI L_)) (hL31 : L_ < 2 ^ 31) (hk : k_ < L_) : xTr r_ d_ xlaw pc lo (.int (nI k_) :: .arg 100 :: st) h (pc + 1) lo (.int (xti (r_ (200 + k_))) :: st) h := by
  have htk := hT_ _ _ _ hcd
  simp only [xEb, Bool.and_eq_true, decide_eq_true_eq] at htk
  obtain ⟨hd_, -, -⟩ := htk
  refine ⟨Nat.le_refl _, Nat.le_refl _, fun p l e R s_ m_ args_ below meth_ c_ Q_ D_ dA A_ n0_ z0 ad0 G f1_ f2_ f3_ f4_ C_ hn hz hw ad H_ locs_ ls hag hP hD hS_ hl => ?_⟩
  have K_ := C_ hn hz hw ad H_ locs_ ls hag hP hD hS_ hl
  obtain ⟨hx, hb_, hml, hts, hK_, hNw, hown, hr, hA, hin, hRf, hRl, hSc⟩ := G
  obtain ⟨b_, L', xs, r1_, r2, hX, hbl, hbA, hL2, -, hrj⟩ := hSc.1 rfl
  have hLL : L' = L_ := by
    rw [r2] at hL
    exact (nI_eq hL2 hL31).mp (Value.int.inj hL)
  subst hLL
  have e2_ : xti (r_ (200 + k_)) = xs (nI k_).toNatClampNeg := by
    rw [hrj k_ hk, nI_clamp (by omega)]
    rfl
  rw [e2_] at K_
  simp only [List.map_cons, xdv, r1_] at K_ ⊢
  exact va_sld hx hb_ hX hbl hbA hS_ (vp_in_nI hk hL2) hd_ K_
/-- the script's length -/
theorem xTr_ln (hT_ : xTok) {L_ : Nat} (hcd : xcd xlaw pc = some (.arraylength, 1, [])) (hL : r_ 49 = .int (nI L_)) : xTr r_ d_ xlaw pc lo (.arg 100 :: st) h (pc + 1) lo (.int (nI L_) :: st) h := by
  have T1 : xTr r_ d_ xlaw pc lo (.arg 100 :: st) h (pc + 1) lo (.arg 49 :: st) h := xTr_cs hT_ hcd (by simp only [xsp, show (Nat.beq 100 100 && Nat.beq xlaw xlaw) = true from rfl, cond_true, xpu, xfT_eq, xfN_eq])
  exact xTr_tt T1 (xTr_val (fun ad => hL))
end
set_option maxHeartbeats 4000000 in
/-- a call by what is known of it -/
theorem xTr_call (hT_ : xTok) {r_ : Nat → Value} (hr : xRr r_) {d' mi pc idx_ ln p0_ cm a1_ b1 d1_ a_ : Nat} {lo : xL} {st as_ s' : List Jvm.Term} {h : xH} {o1 : xO} {c0 : xC} (hcd : xcd mi pc = some (.invokevirtual idx_, ln, [p0_, cm, a1_, b1, d1_])) (htk : xtk (xn cm) st [] = some (as_, .index a_ :: s')) (hc_ : h[a_]? = some c0) (hk : (Nat.beq c0.1 (xo cm) && (Nat.ble c0.1 12 && (Nat.ble (xasz (.index a_ :: as_)) (xm cm) && xcc h.length lo s'))) = true)
    (S_ : xS1 r_ d' cm 0 (xal 0 (.index a_ :: as_)) [] h [] o1) (hw1 : xhw o1.2.1) : xTr r_ (d' + 1) mi pc lo st h (pc + 3) lo (xpr o1.1 s') o1.2.1 := by
  refine ⟨S_.1, S_.2.1, fun p l e R s_ m_ args_ below meth_ c_ Q_ D_ dA A_ n0_ z0 ad0 G hRf hRl hRc hRs K_ => ?_⟩
  have htk9 := hT_ mi pc _ hcd
  simp only [xEb, Bool.and_eq_true, decide_eq_true_eq] at htk9
  obtain ⟨hd_, hln, hau⟩ := htk9
  obtain ⟨hx, hb_, hml, hts, hK_, hNw, hown, -, hA, hin, hR1, hR64, hSt⟩ := id G
  have hd1 : decode (xb mi) pc = .ok (.invokevirtual idx_, 3) := by rw [hd_, Nat.eq_of_beq_eq_true (show Nat.beq ln _ = true from hln)]; rfl
  simp only [Bool.and_eq_true] at hk
  obtain ⟨k1_, k2_, k3_, k4_⟩ := hk
  have hau := (Bool.and_eq_true_iff.mp hau).2
  simp only [Bool.and_eq_true, decide_eq_true_eq] at hau
  obtain ⟨u1_, u2_, u3, u4_, u5, u6⟩ := hau
  obtain ⟨b_, hb1, hb2, hb3⟩ := xtk_ok htk
  rw [List.append_nil] at hb1
  subst hb1
  subst hb2
  have m1_ := S_.1
  have m2_ := S_.2.1
  intro hn hz hw0 ad H_ locs_ ls hag hP hD hS_ hl
  have hM_ := xmet hr u6 hw0 S_ (fun q_ h => absurd h List.not_mem_nil) k3_ l D_ dA ad H_.size
  have hcb := xcb (d := d') (mc := o1.2.1.length - h.length) (ms := xhz o1.2.1 - xhz h) G u1_ u6 (hts _ (xw u3 rfl)) (by omega) (by omega)
  have hcc := k4_
  simp only [xcc, Bool.and_eq_true] at hcc
  have h6 := Nat.le_of_ble_eq_true hcc.1
  have hsm := xsum hr ad hcc.2.1
  have e1_ := Nat.eq_of_beq_eq_true k1_
  have e2_ := Nat.le_of_ble_eq_true k2_
  have he := xwv_at (r := r_) (ad := ad) (dA := dA) hc_
  rw [xcv_obj (by omega), e1_] at he
  have hrc := va_recv hK_ hP (xcl (xo cm) (by omega)) he
  have hA1 := va_free hD hS_ hA (List.range (xwv r_ ad dA h).length) (wc := xwv r_ ad dA h) (by apply List.ext_getElem?; intro j_; simp only [List.getElem?_map, List.getElem?_range']; by_cases hj : j_ < (xwv r_ ad dA h).length <;> simp [hj])
  have hpS := xpreS (av := (.index a_ :: as_).map (xdv r_ ad)) (r := r_) hK_ hNw hP hD hSt.2.1 hS_ hA1
  have hstk : (F0 m_ pc ls ((as_.reverse ++ .index a_ :: s').map (xdv r_ ad))).stack = (as_.map (xdv r_ ad)).reverse ++ .ref (ad a_) :: s'.map (xdv r_ ad) := by simp [List.map_append, List.map_reverse, xdv]
  rcases hcb with hcb | hcb
  · exact xbehind (mi := mi) (va_runV (As := as_.map (xdv r_ ad)) ⟨hx, hb_, hml, hown, hts⟩ hM_ ⟨hcb, hts _ (xw u2_ rfl), hts _ (xw u4_ rfl)⟩ ⟨hpS.1, hrc, hpS.2⟩ rfl (by rw [List.length_map]; exact hb3) hl.1 hstk (lv_room (by omega)) hd1 ⟨by omega, by omega⟩) hS_ hA1 hA1 hn hz m1_ m2_ hw1 hag hl k4_ K_
  · exact xbehind (mi := mi) (va_runVN (As := as_.map (xdv r_ ad)) ⟨hx, hb_, hml, hown, hts⟩ hM_ ⟨hcb, hts _ (xw u2_ rfl), hts _ (xw u4_ rfl)⟩ ⟨hpS.1, hrc, hpS.2⟩ rfl (by rw [List.length_map]; exact hb3) hl.1 hstk (lv_room (by omega)) hd1 ⟨by omega, by omega⟩) hS_ hA1 hA1 hn hz m1_ m2_ hw1 hag hl k4_ K_
