-- ===== the exact evaluator at this world: cells by their names, places of Inv
def yzl (L_ : List (Nat × Nat × Nat)) (n_ : Nat) : Option (Nat × Nat) := match L_ with
  | [] => none
  | q_ :: t_ => match Nat.beq q_.1 n_ with
    | true => some q_.2
    | false => yzl t_ n_
/-- classes and lengths: Inv's own cells below 1000, named ones by a list -/
def yZ (L_ : List (Nat × Nat × Nat)) (n_ : Nat) : Option (Nat × Nat) := match Nat.ble n_ 999 with
  | true => bzf n_
  | false => yzl L_ n_
def yg (s_ : Nat → Nat) (n_ : Nat) : Nat := match Nat.ble n_ 999 with
  | true => n_
  | false => s_ n_
theorem yg_lo {s_ : Nat → Nat} {n_ : Nat} (h_ : n_ < 1000) : yg s_ n_ = n_ := by
  unfold yg
  rw [Nat.ble_eq_true_of_le (show n_ ≤ 999 by omega)]
theorem yg_hi {s_ : Nat → Nat} {n_ : Nat} (h_ : 1000 ≤ n_) : yg s_ n_ = s_ n_ := by
  unfold yg
  rw [ble_no (show 999 < n_ by omega)]
theorem bzf_at {n_ : Nat} {z_ : Nat × Nat} (h_ : bzf n_ = some z_) : bZ[n_]? = some z_ := by
  rw [← xhg_eq]
  exact bzf_ok n_ z_ h_
theorem yzl_in {L_ : List (Nat × Nat × Nat)} {n_ : Nat} {z_ : Nat × Nat} (h_ : yzl L_ n_ = some z_) : (n_, z_) ∈ L_ := by
  induction L_ with
  | nil => cases h_
  | cons q_ t_ ih_ =>
    simp only [yzl] at h_
    cases e_ : Nat.beq q_.1 n_ with
    | true =>
      rw [e_] at h_
      cases h_
      rw [← Nat.eq_of_beq_eq_true e_]
      exact List.mem_cons_self
    | false =>
      rw [e_] at h_
      exact List.mem_cons_of_mem _ (ih_ h_)
section
variable {h_ : xH} {r_ : Nat → Value}
/-- a method run to its ends, or a stretch: what the evaluator says -/
theorem yrun {A_ : yA} {g_ : Nat → Nat} {f_ d_ mi pc : Nat} {stops : List Nat} {lo_ : xL} {st_ : List Jvm.Term} {ov : yO} {C_ : List xB} {ss : List yS} {rs : List yR} (hc_ : yev A_ f_ d_ mi stops (pc, lo_, st_, ov, C_, []) = some (ss, rs)) (hA : yas A_ r_ g_) (Hs : ysh A_.1 g_ h_) (Ho : ymem r_ g_ ov h_) (HC : ∀ q_ ∈ C_, xhold r_ q_) : yEnd A_ r_ g_ h_ d_ mi pc (ylo r_ g_ lo_) (st_.map (ysb r_ g_)) h_ (ss, rs) :=
  yev_ok hA f_ d_ mi stops (pc, lo_, st_, ov, C_, []) (ss, rs) hc_ h_ ⟨Hs, Ho, HC, rfl, fun a_ c_ hc_ => ⟨c_, hc_, rfl, rfl, fun _ _ => rfl⟩⟩
end
-- ===== fixed references
def fxl : List (Nat × Nat × Nat) := [(0, 0, 1), (0, 1, 74), (0, 2, 147), (0, 3, 152), (0, 4, 155), (0, 5, 305), (0, 6, 310), (0, 7, 313), (0, 8, 314), (0, 9, 316), (0, 10, 318), (0, 11, 320), (0, 12, 322), (0, 13, 323), (1, 0, 2), (1, 1, 3), (1, 2, 4), (1, 3, 5), (1, 4, 7), (1, 5, 9), (1, 6, 11), (1, 7, 13), (1, 8, 15), (1, 14, 33), (2, 0, 34), (2, 1, 36), (2, 2, 38), (2, 3, 40), (2, 4, 42), (2, 5, 44), (2, 6, 46), (2, 7, 48), (2, 8, 50), (2, 9, 52), (2, 10, 54), (2, 11, 56), (3, 0, 58), (3, 1, 59), (3, 2, 60), (3, 3, 61), (3, 4, 62), (3, 5, 63), (3, 6, 64), (3, 7, 65), (4, 0, 66), (4, 1, 70), (5, 0, 6), (7, 0, 8), (9, 0, 10), (11, 0, 12), (13, 0, 14), (16, 0, 17), (16, 1, 19), (16, 2, 21), (16, 3, 23), (16, 4, 25), (16, 5, 27), (16, 6, 29), (16, 7, 31), (17, 0, 18), (19, 0, 20), (21, 0, 22), (23, 0, 24), (25, 0, 26), (27, 0, 28), (29, 0, 30), (31, 0, 32), (34, 0, 35), (36, 0, 37), (38, 0, 39), (40, 0, 41), (42, 0, 43), (44, 0, 45), (46, 0, 47), (48, 0, 49), (50, 0, 51), (52, 0, 53), (54, 0, 55), (56, 0, 57), (66, 0, 67), (66, 1, 69), (67, 0, 68), (70, 0, 71), (70, 1, 73), (71, 0, 72), (74, 0, 75), (74, 1, 76), (74, 2, 77), (74, 3, 78), (74, 4, 80), (74, 5, 82), (74, 6, 84), (74, 7, 86), (74, 8, 88), (74, 14, 106), (75, 0, 107), (75, 1, 109), (75, 2, 111), (75, 3, 113), (75, 4, 115), (75, 5, 117), (75, 6, 119), (75, 7, 121), (75, 8, 123), (75, 9, 125), (75, 10, 127), (75, 11, 129), (76, 0, 131), (76, 1, 132), (76, 2, 133), (76, 3, 134), (76, 4, 135), (76, 5, 136), (76, 6, 137), (76, 7, 138), (77, 0, 139), (77, 1, 143), (78, 0, 79), (80, 0, 81), (82, 0, 83), (84, 0, 85), (86, 0, 87), (89, 0, 90), (89, 1, 92), (89, 2, 94), (89, 3, 96), (89, 4, 98), (89, 5, 100), (89, 6, 102), (89, 7, 104), (90, 0, 91), (92, 0, 93), (94, 0, 95), (96, 0, 97), (98, 0, 99), (100, 0, 101), (102, 0, 103), (104, 0, 105), (107, 0, 108), (109, 0, 110), (111, 0, 112), (113, 0, 114), (115, 0, 116), (117, 0, 118), (119, 0, 120), (121, 0, 122), (123, 0, 124), (125, 0, 126), (127, 0, 128), (129, 0, 130), (139, 0, 140), (139, 1, 142), (140, 0, 141), (143, 0, 144), (143, 1, 146), (144, 0, 145), (147, 0, 148), (148, 0, 149), (150, 0, 151), (153, 0, 154), (155, 0, 156), (155, 1, 157), (156, 0, 159), (156, 1, 161), (156, 2, 163), (156, 3, 165), (156, 4, 167), (156, 5, 169), (156, 6, 171), (156, 7, 173), (156, 8, 175), (156, 9, 177), (156, 10, 179), (156, 11, 181), (156, 12, 183), (156, 13, 185), (156, 14, 187), (156, 15, 189), (156, 16, 191), (156, 17, 193), (156, 18, 195), (156, 19, 197), (156, 20, 199), (156, 21, 201), (156, 22, 203), (156, 23, 205), (156, 24, 207), (156, 25, 209), (156, 26, 211), (156, 27, 213), (156, 28, 215), (156, 29, 217), (156, 30, 219), (156, 31, 221), (156, 32, 223), (156, 33, 225), (156, 34, 227), (156, 35, 229), (156, 36, 231), (156, 37, 233), (156, 38, 235), (156, 39, 237), (156, 40, 239), (156, 41, 241), (156, 42, 243), (156, 43, 245), (156, 44, 247), (156, 45, 249), (156, 46, 251), (156, 47, 253), (156, 48, 255), (156, 49, 257), (156, 50, 259), (156, 51, 261), (156, 52, 263), (156, 53, 265), (156, 54, 267), (156, 55, 269), (156, 56, 271), (156, 57, 273), (156, 58, 275), (156, 59, 277), (156, 60, 279), (156, 61, 281), (156, 62, 283), (156, 63, 285), (156, 64, 287), (156, 65, 289), (156, 66, 291), (156, 67, 293), (156, 68, 295), (156, 69, 297), (156, 70, 299), (156, 71, 301), (156, 72, 303), (157, 0, 158), (159, 0, 160), (161, 0, 162), (163, 0, 164), (165, 0, 166), (167, 0, 168), (169, 0, 170), (171, 0, 172), (173, 0, 174), (175, 0, 176), (177, 0, 178), (179, 0, 180), (181, 0, 182), (183, 0, 184), (185, 0, 186), (187, 0, 188), (189, 0, 190), (191, 0, 192), (193, 0, 194), (195, 0, 196), (197, 0, 198), (199, 0, 200), (201, 0, 202), (203, 0, 204), (205, 0, 206), (207, 0, 208), (209, 0, 210), (211, 0, 212), (213, 0, 214), (215, 0, 216), (217, 0, 218), (219, 0, 220), (221, 0, 222), (223, 0, 224), (225, 0, 226), (227, 0, 228), (229, 0, 230), (231, 0, 232), (233, 0, 234), (235, 0, 236), (237, 0, 238), (239, 0, 240), (241, 0, 242), (243, 0, 244), (245, 0, 246), (247, 0, 248), (249, 0, 250), (251, 0, 252), (253, 0, 254), (255, 0, 256), (257, 0, 258), (259, 0, 260), (261, 0, 262), (263, 0, 264), (265, 0, 266), (267, 0, 268), (269, 0, 270), (271, 0, 272), (273, 0, 274), (275, 0, 276), (277, 0, 278), (279, 0, 280), (281, 0, 282), (283, 0, 284), (285, 0, 286), (287, 0, 288), (289, 0, 290), (291, 0, 292), (293, 0, 294), (295, 0, 296), (297, 0, 298), (299, 0, 300), (301, 0, 302), (303, 0, 304), (305, 0, 306), (305, 1, 308), (306, 0, 307), (308, 0, 309), (310, 0, 311), (311, 0, 312), (313, 0, 324), (313, 1, 326), (313, 2, 328), (313, 3, 330), (314, 0, 315), (316, 0, 317), (318, 0, 319), (320, 0, 321), (322, 0, 332), (322, 1, 334), (322, 2, 336), (324, 0, 325), (326, 0, 327), (328, 0, 329), (330, 0, 331), (332, 0, 333), (334, 0, 335), (336, 0, 337), (338, 0, 339), (338, 1, 340), (338, 3, 341), (338, 4, 342), (338, 5, 343), (338, 6, 344), (338, 11, 345), (338, 12, 346), (338, 13, 347), (338, 14, 348), (338, 18, 349), (338, 22, 350), (338, 23, 351), (338, 24, 352), (338, 25, 353)]
def fxk (l : List (Nat × Nat × Nat)) (a_ j_ : Nat) : Option Nat := match l with
  | [] => none
  | q_ :: t_ => match Nat.beq q_.1 a_ && Nat.beq q_.2.1 j_ with
    | true => some q_.2.2
    | false => fxk t_ a_ j_
theorem fxk_in {l : List (Nat × Nat × Nat)} {a_ j_ m_ : Nat} (h_ : fxk l a_ j_ = some m_) : (a_, j_, m_) ∈ l := by
  induction l with
  | nil => cases h_
  | cons q_ t_ ih_ =>
    simp only [fxk] at h_
    cases e_ : (Nat.beq q_.1 a_ && Nat.beq q_.2.1 j_) with
    | true =>
      rw [e_] at h_
      cases h_
      simp only [Bool.and_eq_true] at e_
      rw [← Nat.eq_of_beq_eq_true e_.1, ← Nat.eq_of_beq_eq_true e_.2]
      exact List.mem_cons_self
    | false =>
      rw [e_] at h_
      exact List.mem_cons_of_mem _ (ih_ h_)
def fxr (h_ : xH) : Prop := ∀ q_ ∈ fxl, bpat h_ q_.1 q_.2.1 = some (.index q_.2.2)
theorem fxr_at {h_ : xH} (H_ : fxr h_) {a_ j_ m_ : Nat} (e_ : fxk fxl a_ j_ = some m_) : bpat h_ a_ j_ = some (.index m_) := H_ _ (fxk_in e_)
/-- a write that reaches none of them -/
def ywo (A_ : yA) (q_ : Nat × Jvm.Term) : Bool := match A_.1 q_.1 with
  | none => false
  | some z_ => fxl.all (fun u_ => match bzf u_.1 with
    | none => false
    | some y_ => !(Nat.beq y_.1 z_.1) || (match xlit q_.2 with
      | some v_ => !(Nat.beq v_.toNatClampNeg u_.2.1)
      | none => false))
def ywa (A_ : yA) (ss : List yS) (rs : List yR) : Bool := ss.all (fun q_ => q_.2.2.2.2.2.all (ywo A_)) && rs.all (fun q_ => q_.2.2.2.all (ywo A_))
-- ===== fixed references end
-- ===== stretches, plainly: cells by class and length, places by what lies there
def sHp (h_ : xH) : Prop := (∀ n_ z_, bzf n_ = some z_ → ∃ c_, h_[n_]? = some c_ ∧ c_.1 = z_.1 ∧ c_.2.length = z_.2) ∧ fxr h_
def bcq (h_ : xH) (a_ k_ l : Nat) : Prop := ∃ c_, h_[a_]? = some c_ ∧ c_.1 = k_ ∧ c_.2.length = l
/-- shapes are kept -/
def ysm (h_ h' : xH) : Prop := sHp h' ∧ ∀ a_ k_ l, bcq h_ a_ k_ l → bcq h' a_ k_ l
theorem bpat_some {h_ : xH} {a_ j_ : Nat} {t_ : Jvm.Term} (e_ : bpat h_ a_ j_ = some t_) : ∃ c_, h_[a_]? = some c_ ∧ c_.2[j_]? = some t_ := by
  cases hc_ : h_[a_]? with
  | none => simp only [bpat, hc_] at e_; cases e_
  | some c_ => rw [bpat_at hc_] at e_; exact ⟨c_, rfl, e_⟩
theorem bpat_of {h_ : xH} {a_ j_ : Nat} {t_ : Jvm.Term} (e_ : ∃ c_, h_[a_]? = some c_ ∧ c_.2[j_]? = some t_) : bpat h_ a_ j_ = some t_ := by
  obtain ⟨c_, c1_, c2_⟩ := e_
  rw [bpat_at c1_, c2_]
section
variable {h_ h0 : xH} {L_ : List (Nat × Nat × Nat)} {s_ : Nat → Nat} {r_ : Nat → Value} {g_ : Nat → Nat}
theorem ysh_of2 (H_ : sHp h_) (hL : ∀ q_ ∈ L_, 1000 ≤ q_.1 ∧ bcq h_ (s_ q_.1) q_.2.1 q_.2.2) : ysh (yZ L_) (yg s_) h_ := by
  intro n_ z_ hz
  unfold yZ at hz
  cases e_ : Nat.ble n_ 999 with
  | true =>
    rw [e_] at hz
    have l := Nat.le_of_ble_eq_true e_
    obtain ⟨c_, c1_, c2_, c3_⟩ := H_.1 n_ z_ hz
    exact ⟨c_, by rw [yg_lo (by omega)]; exact c1_, c2_, c3_⟩
  | false =>
    rw [e_] at hz
    obtain ⟨k1_, c_, c1_, c2_, c3_⟩ := hL _ (yzl_in hz)
    exact ⟨c_, by rw [yg_hi k1_]; exact c1_, c2_, c3_⟩
theorem yfr_bp {W_ : yW} (hf : yfr r_ g_ W_ h0 h_) {a_ j_ : Nat} (hw : ∀ q_ ∈ W_, ¬ (g_ q_.1 = a_ ∧ yix r_ q_.2 = j_)) : bpat h_ a_ j_ = bpat h0 a_ j_ := by
  cases e_ : h0[a_]? with
  | none =>
    have l : h0.length ≤ a_ := List.getElem?_eq_none_iff.mp e_
    have e2_ : h_[a_]? = none := List.getElem?_eq_none_iff.mpr (by rw [hf.1]; exact l)
    simp only [bpat, e_, e2_]
  | some c_ =>
    obtain ⟨c', c1_, c2_, c3_, c4_⟩ := hf.2 a_ c_ e_
    rw [bpat_at c1_, bpat_at e_, c4_ j_ hw]
theorem yfr_sm {A_ : yA} {W_ : yW} (hf : yfr r_ g_ W_ h0 h_) (H_ : sHp h0) (Hs : ysh A_.1 g_ h_) (hw : W_.all (ywo A_) = true) : ysm h0 h_ := by
  refine ⟨⟨fun n_ z_ hz => ?_, fun u_ hu => ?_⟩, fun a_ k_ l hb_ => ?_⟩
  · obtain ⟨c_, c1_, c2_, c3_⟩ := H_.1 n_ z_ hz
    obtain ⟨c', d1_, d2_, d3_, -⟩ := hf.2 n_ c_ c1_
    exact ⟨c', d1_, d2_.trans c2_, d3_.trans c3_⟩
  · refine (yfr_bp hf (fun q_ hq => ?_)).trans (H_.2 u_ hu)
    rintro ⟨e1_, e2_⟩
    have k_ := List.all_eq_true.mp hw q_ hq
    unfold ywo at k_
    cases hz : A_.1 q_.1 with
    | none => rw [hz] at k_; cases k_
    | some z_ =>
      rw [hz] at k_
      have k_ := List.all_eq_true.mp k_ u_ hu
      cases hy : bzf u_.1 with
      | none => rw [hy] at k_; cases k_
      | some y_ =>
        rw [hy] at k_
        simp only [Bool.or_eq_true, Bool.not_eq_true'] at k_
        rcases k_ with k_ | k_
        · obtain ⟨c_, c1_, c2_, -⟩ := Hs q_.1 z_ hz
          obtain ⟨d_, d1_, d2_, -⟩ := H_.1 u_.1 y_ hy
          obtain ⟨d', d3_, d4_, -⟩ := hf.2 u_.1 d_ d1_
          rw [e1_, d3_] at c1_
          cases c1_
          rw [← d2_, ← d4_, ← c2_, Nat.beq_refl] at k_
          cases k_
        · cases hv : xlit q_.2 with
          | none => rw [hv] at k_; cases k_
          | some v_ =>
            rw [hv] at k_
            simp only [Bool.not_eq_true'] at k_
            rw [xlit_eq hv] at e2_
            have e2_ : v_.toNatClampNeg = u_.2.1 := e2_
            rw [e2_, Nat.beq_refl] at k_
            cases k_
  · obtain ⟨c_, c1_, c2_, c3_⟩ := hb_
    obtain ⟨c', d1_, d2_, d3_, -⟩ := hf.2 a_ c_ c1_
    exact ⟨c', d1_, d2_.trans c2_, d3_.trans c3_⟩
theorem ywa_s {A_ : yA} {ss : List yS} {rs : List yR} (h_ : ywa A_ ss rs = true) {q_ : yS} (hq : q_ ∈ ss) : q_.2.2.2.2.2.all (ywo A_) = true := by
  unfold ywa at h_
  rw [Bool.and_eq_true] at h_
  exact List.all_eq_true.mp h_.1 q_ hq
theorem ywa_r {A_ : yA} {ss : List yS} {rs : List yR} (h_ : ywa A_ ss rs = true) {q_ : yR} (hq : q_ ∈ rs) : q_.2.2.2.all (ywo A_) = true := by
  unfold ywa at h_
  rw [Bool.and_eq_true] at h_
  exact List.all_eq_true.mp h_.2 q_ hq
theorem ysm_refl (H_ : sHp h_) : ysm h_ h_ := ⟨H_, fun _ _ _ q_ => q_⟩
theorem ysm_tr {h1 h2 : xH} (a_ : ysm h_ h1) (b_ : ysm h1 h2) : ysm h_ h2 := ⟨b_.1, fun x_ k_ l q_ => b_.2 x_ k_ l (a_.2 x_ k_ l q_)⟩
theorem bcq_of (H_ : sHp h_) {n_ : Nat} {z_ : Nat × Nat} (hz : bzf n_ = some z_) : bcq h_ n_ z_.1 z_.2 := H_.1 n_ z_ hz
theorem xd_ltT {a_ b_ : Jvm.Term} (h_ : xhold r_ (.lt, a_, b_, true)) : (yv r_ a_).toInt < (yv r_ b_).toInt := Int32.lt_iff_toInt_lt.mp (of_decide_eq_true (xhold_b h_))
theorem xd_ltF {a_ b_ : Jvm.Term} (h_ : xhold r_ (.lt, a_, b_, false)) : (yv r_ b_).toInt ≤ (yv r_ a_).toInt := by
  have k_ : ¬ yv r_ a_ < yv r_ b_ := of_decide_eq_false (xhold_b h_)
  rw [Int32.lt_iff_toInt_lt] at k_
  omega
theorem xd_leT {a_ b_ : Jvm.Term} (h_ : xhold r_ (.le, a_, b_, true)) : (yv r_ a_).toInt ≤ (yv r_ b_).toInt := Int32.le_iff_toInt_le.mp (of_decide_eq_true (xhold_b h_))
theorem xd_leF {a_ b_ : Jvm.Term} (h_ : xhold r_ (.le, a_, b_, false)) : (yv r_ b_).toInt < (yv r_ a_).toInt := by
  have k_ : ¬ yv r_ a_ ≤ yv r_ b_ := of_decide_eq_false (xhold_b h_)
  rw [Int32.le_iff_toInt_le] at k_
  omega
theorem xd_eqT {a_ b_ : Jvm.Term} (h_ : xhold r_ (.eq, a_, b_, true)) : yv r_ a_ = yv r_ b_ := of_decide_eq_true (xhold_b h_)
theorem xd_eqF {a_ b_ : Jvm.Term} (h_ : xhold r_ (.eq, a_, b_, false)) : ¬ yv r_ a_ = yv r_ b_ := of_decide_eq_false (xhold_b h_)
theorem yv_add2 {a_ b_ : Jvm.Term} {x_ y_ : Int32} (ha_ : yv r_ a_ = x_) (hb_ : yv r_ b_ = y_) : yv r_ (.add a_ b_) = x_ + y_ := by rw [← ha_, ← hb_]; rfl
theorem yv_sub2 {a_ b_ : Jvm.Term} {x_ y_ : Int32} (ha_ : yv r_ a_ = x_) (hb_ : yv r_ b_ = y_) : yv r_ (.sub a_ b_) = x_ - y_ := by rw [← ha_, ← hb_]; rfl
theorem yv_mul2 {a_ b_ : Jvm.Term} {x_ y_ : Int32} (ha_ : yv r_ a_ = x_) (hb_ : yv r_ b_ = y_) : yv r_ (.mul a_ b_) = x_ * y_ := by rw [← ha_, ← hb_]; rfl
theorem xq_ltT {a_ b_ : Jvm.Term} {x_ y_ : Int32} (ha_ : yv r_ a_ = x_) (hb_ : yv r_ b_ = y_) (h_ : xhold r_ (.lt, a_, b_, true)) : x_.toInt < y_.toInt := ha_ ▸ hb_ ▸ xd_ltT h_
theorem xq_ltF {a_ b_ : Jvm.Term} {x_ y_ : Int32} (ha_ : yv r_ a_ = x_) (hb_ : yv r_ b_ = y_) (h_ : xhold r_ (.lt, a_, b_, false)) : y_.toInt ≤ x_.toInt := ha_ ▸ hb_ ▸ xd_ltF h_
theorem xq_leT {a_ b_ : Jvm.Term} {x_ y_ : Int32} (ha_ : yv r_ a_ = x_) (hb_ : yv r_ b_ = y_) (h_ : xhold r_ (.le, a_, b_, true)) : x_.toInt ≤ y_.toInt := ha_ ▸ hb_ ▸ xd_leT h_
theorem xq_leF {a_ b_ : Jvm.Term} {x_ y_ : Int32} (ha_ : yv r_ a_ = x_) (hb_ : yv r_ b_ = y_) (h_ : xhold r_ (.le, a_, b_, false)) : y_.toInt < x_.toInt := ha_ ▸ hb_ ▸ xd_leF h_
theorem xq_eqT {a_ b_ : Jvm.Term} {x_ y_ : Int32} (ha_ : yv r_ a_ = x_) (hb_ : yv r_ b_ = y_) (h_ : xhold r_ (.eq, a_, b_, true)) : x_ = y_ := ha_ ▸ hb_ ▸ xd_eqT h_
theorem xq_eqF {a_ b_ : Jvm.Term} {x_ y_ : Int32} (ha_ : yv r_ a_ = x_) (hb_ : yv r_ b_ = y_) (h_ : xhold r_ (.eq, a_, b_, false)) : ¬ x_ = y_ := ha_ ▸ hb_ ▸ xd_eqF h_
theorem xh_eqT2 {a_ b_ : Jvm.Term} (h_ : yv r_ a_ = yv r_ b_) : xhold r_ (.eq, a_, b_, true) := xhold_o (decide_eq_true h_)
theorem xh_eqF2 {a_ b_ : Jvm.Term} (h_ : ¬ yv r_ a_ = yv r_ b_) : xhold r_ (.eq, a_, b_, false) := xhold_o (decide_eq_false h_)
end
section
variable {r_ : Nat → Value} {a_ b_ : Jvm.Term}
theorem xh_ltT (h_ : (yv r_ a_).toInt < (yv r_ b_).toInt) : xhold r_ (.lt, a_, b_, true) := xhold_o (decide_eq_true (Int32.lt_iff_toInt_lt.mpr h_))
theorem xh_ltF (h_ : (yv r_ b_).toInt ≤ (yv r_ a_).toInt) : xhold r_ (.lt, a_, b_, false) := xhold_o (decide_eq_false (fun e_ => by
  have e_ : (yv r_ a_).toInt < (yv r_ b_).toInt := Int32.lt_iff_toInt_lt.mp e_
  omega))
theorem xh_leT (h_ : (yv r_ a_).toInt ≤ (yv r_ b_).toInt) : xhold r_ (.le, a_, b_, true) := xhold_o (decide_eq_true (Int32.le_iff_toInt_le.mpr h_))
theorem xh_leF (h_ : (yv r_ b_).toInt < (yv r_ a_).toInt) : xhold r_ (.le, a_, b_, false) := xhold_o (decide_eq_false (fun e_ => by
  have e_ : (yv r_ a_).toInt ≤ (yv r_ b_).toInt := Int32.le_iff_toInt_le.mp e_
  omega))
theorem xh_eqT (h_ : (yv r_ a_).toInt = (yv r_ b_).toInt) : xhold r_ (.eq, a_, b_, true) := xhold_o (decide_eq_true (Int32.toInt_inj.mp h_))
theorem xh_eqF (h_ : ¬ (yv r_ a_).toInt = (yv r_ b_).toInt) : xhold r_ (.eq, a_, b_, false) := xhold_o (decide_eq_false (fun e_ => h_ (congrArg Int32.toInt e_)))
end
