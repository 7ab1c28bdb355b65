-- ===== contrary answers alike: each sound, and what is none
def ckx (q_ : Int × Int × Int) : bC := (79, [some (.inr [.index 0]), some (.inl (q_.1, q_.2.1))], some (.inl (q_.2.2, q_.2.2)), [(323, 323, 1, 1)], 2, [], [])
def ckm (q_ : Int × Int × Int) : bC := (166, [some (.inr [.index 338]), some (.inl (q_.1, q_.2.1))], some (.inl (q_.2.2, q_.2.2)), [(341, 341, 1, 1)], 3, [], [])
noncomputable def ckX (q_ : Int × Int × Int) : Bool := bchk bzf bIx bmpx bmqx bjn bgm blpx bspx bdgx bldx [] [] 3000 (ckx q_)
noncomputable def ckM (q_ : Int × Int × Int) : Bool := bchk bzf bIm bmpm bmqm bjn bgm blpm bspm bdgm bldm [] [] 3000 (ckm q_)
def cT0 : List (Int × Int × Int) := [(-2147483648, -1, -1000001), (1, 1, 0), (5, 5, 4), (9, 9, 8), (13, 13, 12), (17, 17, 16), (21, 21, 20), (25, 25, 24), (29, 29, 28), (33, 33, 32), (37, 37, 36), (41, 41, 41), (45, 45, 45), (49, 49, 49), (53, 53, 53), (63, 63, 97), (67, 67, 93), (71, 71, 89), (75, 75, 85), (79, 79, 81), (83, 83, 77), (87, 87, 73), (91, 91, 69), (95, 95, 65), (99, 99, 61)]
theorem cX0 : cT0.all ckX = true := by decide +kernel
theorem cM0 : cT0.all ckM = true := by decide +kernel
def cT1 : List (Int × Int × Int) := [(100, 2147483647, -1000001), (2, 2, 3), (6, 6, 7), (10, 10, 11), (14, 14, 15), (18, 18, 19), (22, 22, 23), (26, 26, 27), (30, 30, 31), (34, 34, 35), (38, 38, 39), (42, 42, 42), (46, 46, 46), (50, 50, 51), (60, 60, 60), (64, 64, 96), (68, 68, 92), (72, 72, 88), (76, 76, 84), (80, 80, 80), (84, 84, 76), (88, 88, 72), (92, 92, 68), (96, 96, 64)]
theorem cX1 : cT1.all ckX = true := by decide +kernel
theorem cM1 : cT1.all ckM = true := by decide +kernel
def cT2 : List (Int × Int × Int) := [(54, 59, -1000001), (3, 3, 2), (7, 7, 6), (11, 11, 10), (15, 15, 14), (19, 19, 18), (23, 23, 22), (27, 27, 26), (31, 31, 30), (35, 35, 34), (39, 39, 38), (43, 43, 43), (47, 47, 47), (51, 51, 50), (61, 61, 99), (65, 65, 95), (69, 69, 91), (73, 73, 87), (77, 77, 83), (81, 81, 79), (85, 85, 75), (89, 89, 71), (93, 93, 67), (97, 97, 63)]
theorem cX2 : cT2.all ckX = true := by decide +kernel
theorem cM2 : cT2.all ckM = true := by decide +kernel
def cT3 : List (Int × Int × Int) := [(0, 0, 1), (4, 4, 5), (8, 8, 9), (12, 12, 13), (16, 16, 17), (20, 20, 21), (24, 24, 25), (28, 28, 29), (32, 32, 33), (36, 36, 37), (40, 40, 40), (44, 44, 44), (48, 48, 48), (52, 52, 52), (62, 62, 98), (66, 66, 94), (70, 70, 90), (74, 74, 86), (78, 78, 82), (82, 82, 78), (86, 86, 74), (90, 90, 70), (94, 94, 66), (98, 98, 62)]
theorem cX3 : cT3.all ckX = true := by decide +kernel
theorem cM3 : cT3.all ckM = true := by decide +kernel
theorem cX_ok {q_ : Int × Int × Int} (h : ckX q_ = true) : bcon bZ bIx bTr (ckx q_) := bchk_ok bZ_len bzf_ok bTr_ok (fun _ h => absurd h List.not_mem_nil) (fun _ h => absurd h List.not_mem_nil) h
theorem cM_ok {q_ : Int × Int × Int} (h : ckM q_ = true) : bcon bZ bIm bTr (ckm q_) := bchk_ok bZ_len bzf_ok bTr_ok (fun _ h => absurd h List.not_mem_nil) (fun _ h => absurd h List.not_mem_nil) h
def cTs : List (Int × Int × Int) := cT0 ++ (cT1 ++ (cT2 ++ cT3))
theorem cT_in {q_ : Int × Int × Int} (h : q_ ∈ cTs) : ckX q_ = true ∧ ckM q_ = true := by
  rcases List.mem_append.mp h with h | h
  · exact ⟨List.all_eq_true.mp cX0 q_ h, List.all_eq_true.mp cM0 q_ h⟩
  rcases List.mem_append.mp h with h | h
  · exact ⟨List.all_eq_true.mp cX1 q_ h, List.all_eq_true.mp cM1 q_ h⟩
  rcases List.mem_append.mp h with h | h
  · exact ⟨List.all_eq_true.mp cX2 q_ h, List.all_eq_true.mp cM2 q_ h⟩
  · exact ⟨List.all_eq_true.mp cX3 q_ h, List.all_eq_true.mp cM3 q_ h⟩
def cTb (x_ : Int) : Bool := cTs.any (fun q_ => decide (q_.1 ≤ x_) && decide (x_ ≤ q_.2.1))
theorem cT_all : (List.range 100).all (fun n => cTb (Int.ofNat n)) = true := by decide +kernel
theorem cT_lo : (-2147483648, -1, -1000001) ∈ cTs := by decide +kernel
theorem cT_hi : (100, 2147483647, -1000001) ∈ cTs := by decide +kernel
theorem cT_cov (x_ : Int32) : ∃ q_ ∈ cTs, q_.1 ≤ x_.toInt ∧ x_.toInt ≤ q_.2.1 := by
  have b1 := bi_lo x_
  have b2 := bi_hi x_
  rcases (show x_.toInt < 0 ∨ 100 ≤ x_.toInt ∨ (0 ≤ x_.toInt ∧ x_.toInt < 100) by omega) with h | h | ⟨h1, h2⟩
  · exact ⟨_, cT_lo, b1, by show x_.toInt ≤ -1; omega⟩
  · exact ⟨_, cT_hi, h, b2⟩
  · have k_ := List.all_eq_true.mp cT_all x_.toInt.toNat (List.mem_range.mpr (by omega))
    rw [show Int.ofNat x_.toInt.toNat = x_.toInt by show (x_.toInt.toNat : Int) = x_.toInt; omega] at k_
    obtain ⟨q_, hq, k_⟩ := List.any_eq_true.mp k_
    simp only [Bool.and_eq_true, decide_eq_true_eq] at k_
    exact ⟨q_, hq, k_.1, k_.2⟩
theorem lw_one {v_ : Int32} {y_ : Int} (k_ : bav (some (.inl (y_, y_))) (some (.int v_))) : v_ = Int32.ofInt y_ := by
  obtain ⟨u_, e1_, z_, e2_, b1, b2⟩ := k_
  cases e1_
  cases e2_
  have e : v_.toInt = y_ := Int.le_antisymm b2 b1
  rw [← e, Int32.ofInt_toInt]
theorem lw_con (x_ : Int32) : ∃ v_ : Int32, (∀ h, bInv bZ bIj h → bXm h → ∃ h', xrun 999 79 0 (xal 0 [.index 0, .int x_]) [] h (some (.int v_), h', []) ∧ bInv bZ bIj h' ∧ bXm h') ∧ (∀ h, bInv bZ bIj h → bXm h → ∃ h', xrun 999 166 0 (xal 0 [.index 338, .int x_]) [] h (some (.int v_), h', []) ∧ bInv bZ bIj h' ∧ bXm h') := by
  obtain ⟨q_, hq, q1_, q2_⟩ := cT_cov x_
  obtain ⟨k1_, k2_⟩ := cT_in hq
  have hp : bPs [some (.inl (q_.1, q_.2.1))] [.int x_] := ⟨⟨x_, rfl, q1_, q2_⟩, trivial⟩
  refine ⟨Int32.ofInt q_.2.2, fun h H_ hX => ?_, fun h H_ hX => ?_⟩
  · obtain ⟨v_, h', a1_, a2, a3, a4⟩ := lwrun_x (c_ := ckx q_) (es := [some (.inl (q_.1, q_.2.1))]) (as_ := [.int x_]) (cX_ok k1_) ⟨rfl, rfl, rfl⟩ H_ hX hp
    rw [lw_one a4] at a1_
    exact ⟨h', a1_, a2, a3⟩
  · obtain ⟨v_, h', a1_, a2, a3, a4⟩ := lwrun_m (X_ := bTr) (c_ := ckm q_) (es := [some (.inl (q_.1, q_.2.1))]) (as_ := [.int x_]) (fun _ _ => trivial) (cM_ok k2_) ⟨rfl, rfl, rfl⟩ H_ hX hp
    rw [lw_one a4] at a1_
    exact ⟨h', a1_, a2, a3⟩
-- ===== each call of the law's
theorem lw_nil {as_ : List Jvm.Term} (h : bPs (lwI 0) as_) : as_ = [] := by
  cases as_ with
  | nil => rfl
  | cons t_ u_ => exact absurd h id
theorem lw_sgl {as_ : List Jvm.Term} (h : bPs (lwI 1) as_) : ∃ x_ : Int32, as_ = [.int x_] := by
  cases as_ with
  | nil => exact absurd h id
  | cons t_ u_ =>
    obtain ⟨⟨x_, rfl, -⟩, h2⟩ := h
    cases u_ with
    | nil => exact ⟨x_, rfl⟩
    | cons t_ u_ => exact absurd h2 id
theorem lsx0 : lwSafe 74 0 (lwI 0) := lwSafe_x bcx188 ⟨rfl, rfl, by decide +kernel⟩
theorem lsm0 : lwSafe 159 338 (lwI 0) := lwSafe_m (X_ := bTr) (fun _ _ => trivial) bcm89 ⟨rfl, rfl, by decide +kernel⟩
theorem lsx1 : lwSafe 75 0 (lwI 2) := lwSafe_x bcx189 ⟨rfl, rfl, by decide +kernel⟩
theorem lsm1 : lwSafe 160 338 (lwI 2) := lwSafe_m (X_ := bTr) (fun _ _ => trivial) bcm90 ⟨rfl, rfl, by decide +kernel⟩
theorem lsx2 : lwSafe 76 0 (lwI 2) := lwSafe_x bcx190 ⟨rfl, rfl, by decide +kernel⟩
theorem lsm2 : lwSafe 162 338 (lwI 2) := lwSafe_m (X_ := bTr) (fun _ _ => trivial) bcm91 ⟨rfl, rfl, by decide +kernel⟩
theorem lsx3 : lwSafe 77 0 (lwI 1) := lwSafe_x bcx191 ⟨rfl, rfl, by decide +kernel⟩
theorem lsm3 : lwSafe 163 338 (lwI 1) := lwSafe_m (X_ := bTr) (fun _ _ => trivial) bcm92 ⟨rfl, rfl, by decide +kernel⟩
theorem lsx4 : lwSafe 78 0 (lwI 2) := lwSafe_x bcx192 ⟨rfl, rfl, by decide +kernel⟩
theorem lsm4 : lwSafe 165 338 (lwI 2) := lwSafe_m (X_ := bTr) (fun _ _ => trivial) bcm93 ⟨rfl, rfl, by decide +kernel⟩
theorem lsx6 : lwSafe 80 0 (lwI 2) := lwSafe_x bcx194 ⟨rfl, rfl, by decide +kernel⟩
theorem lsm6 : lwSafe 167 338 (lwI 2) := lwSafe_m (X_ := bTr) (fun _ _ => trivial) bcm95 ⟨rfl, rfl, by decide +kernel⟩
theorem lsx7 : lwSafe 81 0 (lwI 2) := lwSafe_x bcx195 ⟨rfl, rfl, by decide +kernel⟩
theorem lsm7 : lwSafe 168 338 (lwI 2) := lwSafe_m (X_ := bTr) (fun _ _ => trivial) bcm96 ⟨rfl, rfl, by decide +kernel⟩
theorem lsx8 : lwSafe 82 0 (lwI 2) := lwSafe_x bcx196 ⟨rfl, rfl, by decide +kernel⟩
theorem lsm8 : lwSafe 170 338 (lwI 2) := lwSafe_m (X_ := bTr) (fun _ _ => trivial) bcm97 ⟨rfl, rfl, by decide +kernel⟩
theorem lsx9 : lwSafe 83 0 (lwI 3) := lwSafe_x bcx197 ⟨rfl, rfl, by decide +kernel⟩
theorem lsm9 : lwSafe 171 338 (lwI 3) := lwSafe_m (X_ := bTr) (fun _ _ => trivial) bcm98 ⟨rfl, rfl, by decide +kernel⟩
theorem lsx10 : lwSafe 84 0 ([none, some (.inl (-2147483648, 2147483647))]) := lwSafe_x bcx198 ⟨rfl, rfl, by decide +kernel⟩
theorem lsm10 : lwSafe 172 338 ([none, some (.inl (-2147483648, 2147483647))]) := lwSafe_m (X_ := bTr) (fun _ _ => trivial) bcm99 ⟨rfl, rfl, by decide +kernel⟩
theorem lsx11 : lwSafe 85 0 (lwI 1) := lwSafe_x bcx199 ⟨rfl, rfl, by decide +kernel⟩
theorem lsm11 : lwSafe 184 338 (lwI 1) := by
  obtain ⟨d_, hd_, H_⟩ := text_ok
  refine lwSafe_o (W := xWT) ⟨d_, hd_, fun h as_ hp Hh hX => ?_⟩ (by decide)
  obtain ⟨x_, rfl⟩ := lw_sgl hp
  exact H_ h x_ Hh hX
theorem lsx12 : lwSafe 86 0 (lwI 1) := lwSafe_x bcx200 ⟨rfl, rfl, by decide +kernel⟩
theorem lsm12 : lwSafe 185 338 (lwI 1) := by
  obtain ⟨d_, hd_, H_⟩ := untell_ok
  refine lwSafe_o (W := xWU) ⟨d_, hd_, fun h as_ hp Hh hX => ?_⟩ (by decide)
  obtain ⟨x_, rfl⟩ := lw_sgl hp
  exact H_ h x_ Hh hX
theorem lsx13 : lwSafe 87 0 (lwI 3) := lwSafe_x bcx201 ⟨rfl, rfl, by decide +kernel⟩
theorem lsm13 : lwSafe 188 338 (lwI 3) := lwSafe_m (X_ := bXm) (fun _ q_ => q_) bcm101 ⟨rfl, rfl, by decide +kernel⟩
theorem lsx14 : lwSafe 88 0 (lwI 2) := lwSafe_x bcx202 ⟨rfl, rfl, by decide +kernel⟩
theorem lsm14 : lwSafe 189 338 (lwI 2) := lwSafe_m (X_ := bXm) (fun _ q_ => q_) bcm102 ⟨rfl, rfl, by decide +kernel⟩
theorem lsx15 : lwSafe 89 0 (lwI 1) := lwSafe_x bcx203 ⟨rfl, rfl, by decide +kernel⟩
theorem lsm15 : lwSafe 190 338 (lwI 1) := lwSafe_m (X_ := bTr) (fun _ _ => trivial) bcm103 ⟨rfl, rfl, by decide +kernel⟩
theorem lsx16 : lwSafe 90 0 (lwI 3) := lwSafe_x bcx204 ⟨rfl, rfl, by decide +kernel⟩
theorem lsm16 : lwSafe 191 338 (lwI 3) := lwSafe_m (X_ := bXm) (fun _ q_ => q_) bcm104 ⟨rfl, rfl, by decide +kernel⟩
theorem lsx17 : lwSafe 91 0 (lwI 2) := lwSafe_x bcx205 ⟨rfl, rfl, by decide +kernel⟩
theorem lsm17 : lwSafe 193 338 (lwI 2) := lwSafe_m (X_ := bXm) (fun _ q_ => q_) bcm105 ⟨rfl, rfl, by decide +kernel⟩
theorem lsx18 : lwSafe 92 0 (lwI 3) := lwSafe_x bcx206 ⟨rfl, rfl, by decide +kernel⟩
theorem lsm18 : lwSafe 194 338 (lwI 3) := lwSafe_m (X_ := bXm) (fun _ q_ => q_) bcm106 ⟨rfl, rfl, by decide +kernel⟩
theorem lsx19 : lwSafe 93 0 (lwI 3) := lwSafe_x bcx207 ⟨rfl, rfl, by decide +kernel⟩
theorem lsm19 : lwSafe 195 338 (lwI 3) := lwSafe_m (X_ := bXm) (fun _ q_ => q_) bcm107 ⟨rfl, rfl, by decide +kernel⟩
theorem lsx20 : lwSafe 94 0 (lwI 2) := lwSafe_x bcx208 ⟨rfl, rfl, by decide +kernel⟩
theorem lsm20 : lwSafe 197 338 (lwI 2) := lwSafe_m (X_ := bXm) (fun _ q_ => q_) bcm108 ⟨rfl, rfl, by decide +kernel⟩
theorem lsx21 : lwSafe 95 0 (lwI 3) := lwSafe_x bcx209 ⟨rfl, rfl, by decide +kernel⟩
theorem lsm21 : lwSafe 199 338 (lwI 3) := lwSafe_m (X_ := bXm) (fun _ q_ => q_) bcm109 ⟨rfl, rfl, by decide +kernel⟩
theorem lsx22 : lwSafe 96 0 (lwI 2) := lwSafe_x bcx210 ⟨rfl, rfl, by decide +kernel⟩
theorem lsm22 : lwSafe 200 338 (lwI 2) := lwSafe_m (X_ := bXm) (fun _ q_ => q_) bcm110 ⟨rfl, rfl, by decide +kernel⟩
theorem lsx23 : lwSafe 97 0 (lwI 3) := lwSafe_x bcx211 ⟨rfl, rfl, by decide +kernel⟩
theorem lsm23 : lwSafe 201 338 (lwI 3) := lwSafe_m (X_ := bXm) (fun _ q_ => q_) bcm111 ⟨rfl, rfl, by decide +kernel⟩
theorem lsx24 : lwSafe 98 0 (lwI 1) := lwSafe_x bcx212 ⟨rfl, rfl, by decide +kernel⟩
theorem lsm24 : lwSafe 206 338 (lwI 1) := lwSafe_m (X_ := bTr) (fun _ _ => trivial) bcm112 ⟨rfl, rfl, by decide +kernel⟩
theorem lsx25 : lwSafe 99 0 (lwI 1) := lwSafe_x bcx213 ⟨rfl, rfl, by decide +kernel⟩
theorem lsm25 : lwSafe 207 338 (lwI 1) := lwSafe_m (X_ := bTr) (fun _ _ => trivial) bcm113 ⟨rfl, rfl, by decide +kernel⟩
theorem lsx26 : lwSafe 100 0 (lwI 2) := lwSafe_x bcx214 ⟨rfl, rfl, by decide +kernel⟩
theorem lsm26 : lwSafe 208 338 (lwI 2) := lwSafe_m (X_ := bXm) (fun _ q_ => q_) bcm114 ⟨rfl, rfl, by decide +kernel⟩
theorem lsx27 : lwSafe 101 0 (lwI 2) := lwSafe_x bcx215 ⟨rfl, rfl, by decide +kernel⟩
theorem lsm27 : lwSafe 211 338 (lwI 2) := lwSafe_m (X_ := bXm) (fun _ q_ => q_) bcm115 ⟨rfl, rfl, by decide +kernel⟩
theorem lsx28 : lwSafe 102 0 (lwI 1) := lwSafe_x bcx216 ⟨rfl, rfl, by decide +kernel⟩
theorem lsm28 : lwSafe 212 338 (lwI 1) := lwSafe_m (X_ := bTr) (fun _ _ => trivial) bcm116 ⟨rfl, rfl, by decide +kernel⟩
theorem lsx29 : lwSafe 103 0 (lwI 2) := lwSafe_x bcx217 ⟨rfl, rfl, by decide +kernel⟩
theorem lsm29 : lwSafe 213 338 (lwI 2) := lwSafe_m (X_ := bTr) (fun _ _ => trivial) bcm117 ⟨rfl, rfl, by decide +kernel⟩
theorem lsx30 : lwSafe 104 0 (lwI 5) := lwSafe_x bcx218 ⟨rfl, rfl, by decide +kernel⟩
theorem lsm30 : lwSafe 216 338 (lwI 5) := lwSafe_m (X_ := bXm) (fun _ q_ => q_) bcm118 ⟨rfl, rfl, by decide +kernel⟩
theorem lsx31 : lwSafe 105 0 (lwI 1) := lwSafe_x bcx219 ⟨rfl, rfl, by decide +kernel⟩
theorem lsm31 : lwSafe 217 338 (lwI 1) := lwSafe_m (X_ := bTr) (fun _ _ => trivial) bcm119 ⟨rfl, rfl, by decide +kernel⟩
theorem lsx32 : lwSafe 106 0 (lwI 3) := lwSafe_x bcx220 ⟨rfl, rfl, by decide +kernel⟩
theorem lsm32 : lwSafe 225 338 (lwI 3) := lwSafe_m (X_ := bTr) (fun _ _ => trivial) bcm120 ⟨rfl, rfl, by decide +kernel⟩
theorem lsx33 : lwSafe 107 0 (lwI 1) := lwSafe_x bcx221 ⟨rfl, rfl, by decide +kernel⟩
theorem lsm33 : lwSafe 226 338 (lwI 1) := lwSafe_m (X_ := bTr) (fun _ _ => trivial) bcm121 ⟨rfl, rfl, by decide +kernel⟩
theorem lsx34 : lwSafe 108 0 (lwI 3) := lwSafe_x bcx222 ⟨rfl, rfl, by decide +kernel⟩
theorem lsm34 : lwSafe 228 338 (lwI 3) := lwSafe_m (X_ := bTr) (fun _ _ => trivial) bcm122 ⟨rfl, rfl, by decide +kernel⟩
theorem lsx35 : lwSafe 109 0 (lwI 3) := lwSafe_x bcx223 ⟨rfl, rfl, by decide +kernel⟩
theorem lsm35 : lwSafe 229 338 (lwI 3) := lwSafe_m (X_ := bTr) (fun _ _ => trivial) bcm123 ⟨rfl, rfl, by decide +kernel⟩
theorem lsx36 : lwSafe 110 0 (lwI 5) := lwSafe_x bcx224 ⟨rfl, rfl, by decide +kernel⟩
theorem lsm36 : lwSafe 230 338 (lwI 5) := lwSafe_m (X_ := bTr) (fun _ _ => trivial) bcm124 ⟨rfl, rfl, by decide +kernel⟩
theorem lsx37 : lwSafe 111 0 (lwI 2) := lwSafe_x bcx225 ⟨rfl, rfl, by decide +kernel⟩
theorem lsm37 : lwSafe 231 338 (lwI 2) := lwSafe_m (X_ := bTr) (fun _ _ => trivial) bcm125 ⟨rfl, rfl, by decide +kernel⟩
theorem lsx38 : lwSafe 112 0 (lwI 0) := lwSafe_x bcx226 ⟨rfl, rfl, by decide +kernel⟩
theorem lsm38 : lwSafe 232 338 (lwI 0) := by
  obtain ⟨d_, hd_, H_⟩ := image_ok
  refine lwSafe_o (W := [(338, 338, 2, 2), (340, 340, 0, 767)]) ⟨d_, hd_, fun h as_ hp Hh hX => ?_⟩ (by decide)
  rw [lw_nil hp]
  exact H_ h Hh hX
theorem lsx39 : lwSafe 113 0 (lwI 0) := lwSafe_x bcx227 ⟨rfl, rfl, by decide +kernel⟩
theorem lsm39 : lwSafe 233 338 (lwI 0) := by
  obtain ⟨d_, hd_, H_⟩ := restore_ok
  refine lwSafe_o (W := xWR) ⟨d_, hd_, fun h as_ hp Hh hX => ?_⟩ (by decide)
  rw [lw_nil hp]
  exact H_ h Hh hX
theorem lsx40 : lwSafe 114 0 (lwI 1) := lwSafe_x bcx228 ⟨rfl, rfl, by decide +kernel⟩
theorem lsm40 : lwSafe 234 338 (lwI 1) := lwSafe_m (X_ := bTr) (fun _ _ => trivial) bcm128 ⟨rfl, rfl, by decide +kernel⟩
theorem lsx41 : lwSafe 115 0 (lwI 2) := lwSafe_x bcx229 ⟨rfl, rfl, by decide +kernel⟩
theorem lsm41 : lwSafe 235 338 (lwI 2) := lwSafe_m (X_ := bXm) (fun _ q_ => q_) bcm129 ⟨rfl, rfl, by decide +kernel⟩
theorem lsx42 : lwSafe 116 0 (lwI 1) := lwSafe_x bcx230 ⟨rfl, rfl, by decide +kernel⟩
theorem lsm42 : lwSafe 236 338 (lwI 1) := lwSafe_m (X_ := bTr) (fun _ _ => trivial) bcm130 ⟨rfl, rfl, by decide +kernel⟩
theorem lsx43 : lwSafe 117 0 (lwI 1) := lwSafe_x bcx231 ⟨rfl, rfl, by decide +kernel⟩
theorem lsm43 : lwSafe 237 338 (lwI 1) := lwSafe_m (X_ := bTr) (fun _ _ => trivial) bcm131 ⟨rfl, rfl, by decide +kernel⟩
section
variable {r_ : Nat → Value} {i_ L_ : Nat} {h : xH}
theorem lw_k5 : lwHalf 359 1 79 0 [1] = true := by decide +kernel
theorem lw_m5 : lwHalf 368 2 166 338 [1] = true := by decide +kernel
theorem lw_c5 : xcd xlaw 377 = some (.if_icmp .eq 1299, 3, []) := by decide +kernel
theorem lw_t5 (hT_ : xTok) (hr : xRr r_) (hL : r_ 49 = .int (nI L_)) (hL31 : L_ < 2 ^ 31) (hi_ : i_ + 6 ≤ L_) (hh : bInv bZ bIj h) (hX : bXm h) : lwGo r_ i_ 359 h := by
  obtain ⟨v_, hx, hm_⟩ := lw_con (xti (r_ (200 + (i_ + 1))))
  obtain ⟨h1, S1, H1_, X1⟩ := hx h hh hX
  obtain ⟨h2, S2, H2_, X2⟩ := hm_ h1 H1_ X1
  have T1 : xTr r_ 1000 xlaw 359 (lwS i_) [] h 368 (lwS i_) [.int v_] h1 := lw_half (js := [1]) (s' := []) hT_ hr hL hL31 hi_ lw_k5 rfl hh (Or.inl rfl) S1 H1_.2
  have T2 : xTr r_ 1000 xlaw 368 (lwS i_) [.int v_] h1 377 (lwS i_) [.int v_, .int v_] h2 := lw_half (js := [1]) (s' := [.int v_]) hT_ hr hL hL31 hi_ lw_m5 rfl H1_ (Or.inr ⟨v_, rfl⟩) S2 H2_.2
  have T3 : xTr r_ 1000 xlaw 377 (lwS i_) [.int v_, .int v_] h2 1676 (lwS i_) [] h2 := xTr_icm (z_ := true) (t_ := 1676) hT_ lw_c5 rfl (decide_eq_true rfl)
  exact ⟨h2, xTr_tt T1 (xTr_tt T2 T3), H2_, X2⟩
theorem lw_k10 : (lwFh 524 1 84 0 && (lwe 553 (.pop, 1, []) && (lwFh 554 2 172 338 && (lwe 583 (.pop, 1, []) && lwGt 584)))) = true := by decide +kernel
theorem lw_t10 (hT_ : xTok) (hr : xRr r_) (hL : r_ 49 = .int (nI L_)) (hL31 : L_ < 2 ^ 31) (hi_ : i_ + 6 ≤ L_) (hh : bInv bZ bIj h) (hX : bXm h) : lwGo r_ i_ 524 h := by
  have hc_ := lw_k10
  simp only [Bool.and_eq_true] at hc_
  obtain ⟨c1_, c2_, c3_, c4_, c5_⟩ := hc_
  obtain ⟨v1_, h1, T1, H1_, X1⟩ := lw_fh hT_ hr hL hL31 hi_ c1_ rfl hh hX lsx10
  obtain ⟨v2, h2, T3, H2_, X2⟩ := lw_fh hT_ hr hL hL31 hi_ c3_ rfl H1_ X1 lsm10
  have T2 : xTr r_ 1000 xlaw 553 (lwS i_) [.int v1_] h1 554 (lwS i_) [] h1 := xTr_pop hT_ (of_decide_eq_true c2_)
  have T4 : xTr r_ 1000 xlaw 583 (lwS i_) [.int v2] h2 584 (lwS i_) [] h2 := xTr_pop hT_ (of_decide_eq_true c4_)
  exact ⟨h2, xTr_tt T1 (xTr_tt T2 (xTr_tt T3 (xTr_tt T4 (lw_gt hT_ c5_)))), H2_, X2⟩
theorem lw_k0 : lwTurn 224 74 159 [] = true := by decide +kernel
theorem lw_k1 : lwTurn 237 75 160 [1, 2] = true := by decide +kernel
theorem lw_k2 : lwTurn 270 76 162 [1, 2] = true := by decide +kernel
theorem lw_k3 : lwTurn 303 77 163 [1] = true := by decide +kernel
theorem lw_k4 : lwTurn 326 78 165 [1, 2] = true := by decide +kernel
theorem lw_k6 : lwTurn 382 80 167 [1, 2] = true := by decide +kernel
theorem lw_k7 : lwTurn 415 81 168 [1, 2] = true := by decide +kernel
theorem lw_k8 : lwTurn 448 82 170 [1, 2] = true := by decide +kernel
theorem lw_k9 : lwTurn 481 83 171 [1, 2, 3] = true := by decide +kernel
theorem lw_k11 : lwTurn 587 85 184 [1] = true := by decide +kernel
theorem lw_k12 : lwTurn 610 86 185 [1] = true := by decide +kernel
theorem lw_k13 : lwTurn 633 87 188 [1, 2, 3] = true := by decide +kernel
theorem lw_k14 : lwTurn 676 88 189 [1, 2] = true := by decide +kernel
theorem lw_k15 : lwTurn 709 89 190 [1] = true := by decide +kernel
theorem lw_k16 : lwTurn 732 90 191 [1, 2, 3] = true := by decide +kernel
theorem lw_k17 : lwTurn 775 91 193 [1, 2] = true := by decide +kernel
theorem lw_k18 : lwTurn 808 92 194 [1, 2, 3] = true := by decide +kernel
theorem lw_k19 : lwTurn 851 93 195 [1, 2, 3] = true := by decide +kernel
theorem lw_k20 : lwTurn 894 94 197 [1, 2] = true := by decide +kernel
theorem lw_k21 : lwTurn 927 95 199 [1, 2, 3] = true := by decide +kernel
theorem lw_k22 : lwTurn 970 96 200 [1, 2] = true := by decide +kernel
theorem lw_k23 : lwTurn 1003 97 201 [1, 2, 3] = true := by decide +kernel
theorem lw_k24 : lwTurn 1046 98 206 [1] = true := by decide +kernel
theorem lw_k25 : lwTurn 1069 99 207 [1] = true := by decide +kernel
theorem lw_k26 : lwTurn 1092 100 208 [1, 2] = true := by decide +kernel
theorem lw_k27 : lwTurn 1125 101 211 [1, 2] = true := by decide +kernel
theorem lw_k28 : lwTurn 1158 102 212 [1] = true := by decide +kernel
theorem lw_k29 : lwTurn 1181 103 213 [1, 2] = true := by decide +kernel
theorem lw_k30 : lwTurn 1214 104 216 [1, 2, 3, 4, 5] = true := by decide +kernel
theorem lw_k31 : lwTurn 1277 105 217 [1] = true := by decide +kernel
theorem lw_k32 : lwTurn 1300 106 225 [1, 2, 3] = true := by decide +kernel
theorem lw_k33 : lwTurn 1343 107 226 [1] = true := by decide +kernel
theorem lw_k34 : lwTurn 1366 108 228 [1, 2, 3] = true := by decide +kernel
theorem lw_k35 : lwTurn 1409 109 229 [1, 2, 3] = true := by decide +kernel
theorem lw_k36 : lwTurn 1452 110 230 [1, 2, 3, 4, 5] = true := by decide +kernel
theorem lw_k37 : lwTurn 1515 111 231 [1, 2] = true := by decide +kernel
theorem lw_k38 : lwTurn 1548 112 232 [] = true := by decide +kernel
theorem lw_k39 : lwTurn 1561 113 233 [] = true := by decide +kernel
theorem lw_k40 : lwTurn 1574 114 234 [1] = true := by decide +kernel
theorem lw_k41 : lwTurn 1597 115 235 [1, 2] = true := by decide +kernel
theorem lw_k42 : lwTurn 1630 116 236 [1] = true := by decide +kernel
theorem lw_k43 : lwTurn 1653 117 237 [1] = true := by decide +kernel
def lwTg : List Nat := [224, 237, 270, 303, 326, 359, 382, 415, 448, 481, 524, 587, 610, 633, 676, 709, 732, 775, 808, 851, 894, 927, 970, 1003, 1046, 1069, 1092, 1125, 1158, 1181, 1214, 1277, 1300, 1343, 1366, 1409, 1452, 1515, 1548, 1561, 1574, 1597, 1630, 1653]
theorem lw_case (hT_ : xTok) (hr : xRr r_) (hL : r_ 49 = .int (nI L_)) (hL31 : L_ < 2 ^ 31) (hi_ : i_ + 6 ≤ L_) (hh : bInv bZ bIj h) (hX : bXm h) : ∀ k_ : Nat, k_ < 44 → lwGo r_ i_ (lwTg.getD k_ 1676) h := by
  intro k_ hk
  match k_, hk with
  | 0, _ => exact lw_turn hT_ hr hL hL31 hi_ hh hX lw_k0 lsx0 lsm0
  | 1, _ => exact lw_turn hT_ hr hL hL31 hi_ hh hX lw_k1 lsx1 lsm1
  | 2, _ => exact lw_turn hT_ hr hL hL31 hi_ hh hX lw_k2 lsx2 lsm2
  | 3, _ => exact lw_turn hT_ hr hL hL31 hi_ hh hX lw_k3 lsx3 lsm3
  | 4, _ => exact lw_turn hT_ hr hL hL31 hi_ hh hX lw_k4 lsx4 lsm4
  | 5, _ => exact lw_t5 hT_ hr hL hL31 hi_ hh hX
  | 6, _ => exact lw_turn hT_ hr hL hL31 hi_ hh hX lw_k6 lsx6 lsm6
  | 7, _ => exact lw_turn hT_ hr hL hL31 hi_ hh hX lw_k7 lsx7 lsm7
  | 8, _ => exact lw_turn hT_ hr hL hL31 hi_ hh hX lw_k8 lsx8 lsm8
  | 9, _ => exact lw_turn hT_ hr hL hL31 hi_ hh hX lw_k9 lsx9 lsm9
  | 10, _ => exact lw_t10 hT_ hr hL hL31 hi_ hh hX
  | 11, _ => exact lw_turn hT_ hr hL hL31 hi_ hh hX lw_k11 lsx11 lsm11
  | 12, _ => exact lw_turn hT_ hr hL hL31 hi_ hh hX lw_k12 lsx12 lsm12
  | 13, _ => exact lw_turn hT_ hr hL hL31 hi_ hh hX lw_k13 lsx13 lsm13
  | 14, _ => exact lw_turn hT_ hr hL hL31 hi_ hh hX lw_k14 lsx14 lsm14
  | 15, _ => exact lw_turn hT_ hr hL hL31 hi_ hh hX lw_k15 lsx15 lsm15
  | 16, _ => exact lw_turn hT_ hr hL hL31 hi_ hh hX lw_k16 lsx16 lsm16
  | 17, _ => exact lw_turn hT_ hr hL hL31 hi_ hh hX lw_k17 lsx17 lsm17
  | 18, _ => exact lw_turn hT_ hr hL hL31 hi_ hh hX lw_k18 lsx18 lsm18
  | 19, _ => exact lw_turn hT_ hr hL hL31 hi_ hh hX lw_k19 lsx19 lsm19
  | 20, _ => exact lw_turn hT_ hr hL hL31 hi_ hh hX lw_k20 lsx20 lsm20
  | 21, _ => exact lw_turn hT_ hr hL hL31 hi_ hh hX lw_k21 lsx21 lsm21
  | 22, _ => exact lw_turn hT_ hr hL hL31 hi_ hh hX lw_k22 lsx22 lsm22
  | 23, _ => exact lw_turn hT_ hr hL hL31 hi_ hh hX lw_k23 lsx23 lsm23
  | 24, _ => exact lw_turn hT_ hr hL hL31 hi_ hh hX lw_k24 lsx24 lsm24
  | 25, _ => exact lw_turn hT_ hr hL hL31 hi_ hh hX lw_k25 lsx25 lsm25
  | 26, _ => exact lw_turn hT_ hr hL hL31 hi_ hh hX lw_k26 lsx26 lsm26
  | 27, _ => exact lw_turn hT_ hr hL hL31 hi_ hh hX lw_k27 lsx27 lsm27
  | 28, _ => exact lw_turn hT_ hr hL hL31 hi_ hh hX lw_k28 lsx28 lsm28
  | 29, _ => exact lw_turn hT_ hr hL hL31 hi_ hh hX lw_k29 lsx29 lsm29
  | 30, _ => exact lw_turn hT_ hr hL hL31 hi_ hh hX lw_k30 lsx30 lsm30
  | 31, _ => exact lw_turn hT_ hr hL hL31 hi_ hh hX lw_k31 lsx31 lsm31
  | 32, _ => exact lw_turn hT_ hr hL hL31 hi_ hh hX lw_k32 lsx32 lsm32
  | 33, _ => exact lw_turn hT_ hr hL hL31 hi_ hh hX lw_k33 lsx33 lsm33
  | 34, _ => exact lw_turn hT_ hr hL hL31 hi_ hh hX lw_k34 lsx34 lsm34
  | 35, _ => exact lw_turn hT_ hr hL hL31 hi_ hh hX lw_k35 lsx35 lsm35
  | 36, _ => exact lw_turn hT_ hr hL hL31 hi_ hh hX lw_k36 lsx36 lsm36
  | 37, _ => exact lw_turn hT_ hr hL hL31 hi_ hh hX lw_k37 lsx37 lsm37
  | 38, _ => exact lw_turn hT_ hr hL hL31 hi_ hh hX lw_k38 lsx38 lsm38
  | 39, _ => exact lw_turn hT_ hr hL hL31 hi_ hh hX lw_k39 lsx39 lsm39
  | 40, _ => exact lw_turn hT_ hr hL hL31 hi_ hh hX lw_k40 lsx40 lsm40
  | 41, _ => exact lw_turn hT_ hr hL hL31 hi_ hh hX lw_k41 lsx41 lsm41
  | 42, _ => exact lw_turn hT_ hr hL hL31 hi_ hh hX lw_k42 lsx42 lsm42
  | 43, _ => exact lw_turn hT_ hr hL hL31 hi_ hh hX lw_k43 lsx43 lsm43
  | k_ + 44, hk => exact absurd hk (by omega)
end
