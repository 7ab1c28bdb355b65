-- ===== THE LAW: each turn
theorem lw_k0 : lwTurn 224 74 159 [] = true := by decide +kernel
theorem lw_k1 : lwTurn 237 75 160 [1, 2] = true := by decide +kernel
theorem lw_k2 : lwTurn 270 76 162 [1, 2] = true := by decide +kernel
theorem lw_k3 : lwTurn 303 77 163 [1] = true := by decide +kernel
theorem lw_k4 : lwTurn 326 78 165 [1, 2] = true := by decide +kernel
theorem lw_k5 : lwTurn 359 79 166 [1] = true := by decide +kernel
theorem lw_k6 : lwTurn 382 80 167 [1, 2] = true := by decide +kernel
theorem lw_k7 : lwTurn 415 81 168 [1, 2] = true := by decide +kernel
theorem lw_k8 : lwTurnC 448 82 170 [1, 2] = true := by decide +kernel
theorem lw_k9 : lwTurn 481 83 171 [1, 2, 3] = true := by decide +kernel
theorem lw_k10 : lwFd2 524 84 172 = true := by decide +kernel
theorem lw_k11 : lwTurn 587 85 184 [1] = true := by decide +kernel
theorem lw_k12 : lwTurn 610 86 185 [1] = true := by decide +kernel
theorem lw_k13 : lwTurn 633 87 188 [1, 2, 3] = true := by decide +kernel
theorem lw_k14 : lwTurn 676 88 189 [1, 2] = true := by decide +kernel
theorem lw_k15 : lwTurn 709 89 190 [1] = true := by decide +kernel
theorem lw_k16 : lwTurn 732 90 191 [1, 2, 3] = true := by decide +kernel
theorem lw_k17 : lwTurn 775 91 193 [1, 2] = true := by decide +kernel
theorem lw_k18 : lwTurn 808 92 194 [1, 2, 3] = true := by decide +kernel
theorem lw_k19 : lwTurn 851 93 195 [1, 2, 3] = true := by decide +kernel
theorem lw_k20 : lwTurn 894 94 197 [1, 2] = true := by decide +kernel
theorem lw_k21 : lwTurn 927 95 199 [1, 2, 3] = true := by decide +kernel
theorem lw_k22 : lwTurn 970 96 200 [1, 2] = true := by decide +kernel
theorem lw_k23 : lwTurn 1003 97 201 [1, 2, 3] = true := by decide +kernel
theorem lw_k24 : lwTurn 1046 98 206 [1] = true := by decide +kernel
theorem lw_k25 : lwTurn 1069 99 207 [1] = true := by decide +kernel
theorem lw_k26 : lwTurn 1092 100 208 [1, 2] = true := by decide +kernel
theorem lw_k27 : lwTurn 1125 101 211 [1, 2] = true := by decide +kernel
theorem lw_k28 : lwTurn 1158 102 212 [1] = true := by decide +kernel
theorem lw_k29 : lwTurn 1181 103 213 [1, 2] = true := by decide +kernel
theorem lw_k30 : lwTurn 1214 104 216 [1, 2, 3, 4, 5] = true := by decide +kernel
theorem lw_k31 : lwTurn 1277 105 217 [1] = true := by decide +kernel
theorem lw_k32 : lwTurn 1300 106 225 [1, 2, 3] = true := by decide +kernel
theorem lw_k33 : lwTurn 1343 107 226 [1] = true := by decide +kernel
theorem lw_k34 : lwTurn 1366 108 228 [1, 2, 3] = true := by decide +kernel
theorem lw_k35 : lwTurn 1409 109 229 [1, 2, 3] = true := by decide +kernel
theorem lw_k36 : lwTurn 1452 110 230 [1, 2, 3, 4, 5] = true := by decide +kernel
theorem lw_k37 : lwTurn 1515 111 231 [1, 2] = true := by decide +kernel
theorem lw_k38 : lwTurn 1548 112 232 [] = true := by decide +kernel
theorem lw_k39 : lwTurn 1561 113 233 [] = true := by decide +kernel
theorem lw_k40 : lwTurn 1574 114 234 [1] = true := by decide +kernel
theorem lw_k41 : lwTurn 1597 115 235 [1, 2] = true := by decide +kernel
theorem lw_k42 : lwTurn 1630 116 236 [1] = true := by decide +kernel
theorem lw_k43 : lwTurn 1653 117 237 [1] = true := by decide +kernel
section
variable {r : Nat → Value} {i L : Nat} {h : xH}
def lwTg : List Nat := [224, 237, 270, 303, 326, 359, 382, 415, 448, 481, 524, 587, 610, 633, 676, 709, 732, 775, 808, 851, 894, 927, 970, 1003, 1046, 1069, 1092, 1125, 1158, 1181, 1214, 1277, 1300, 1343, 1366, 1409, 1452, 1515, 1548, 1561, 1574, 1597, 1630, 1653]
theorem lw_case (hT : xTok) (hr : xRr r) (hL : r 49 = .int (nI L)) (hL31 : L < 2 ^ 31) (hi : i + 6 ≤ L) (hh : bInv bZ bIj h) (hX : bXm h) (hR : lRp bRP h) : ∀ k : Nat, k < 44 → lwGo bRP r i (lwTg.getD k 1676) h := by
  intro k hk
  match k, hk with
  | 0, _ => exact lw_turn hT hr hL hL31 hi hh hX hR lw_k0 lwp0
  | 1, _ => exact lw_turn hT hr hL hL31 hi hh hX hR lw_k1 lwp1
  | 2, _ => exact lw_turn hT hr hL hL31 hi hh hX hR lw_k2 lwp2
  | 3, _ => exact lw_turn hT hr hL hL31 hi hh hX hR lw_k3 lwp3
  | 4, _ => exact lw_turn hT hr hL hL31 hi hh hX hR lw_k4 lwp4
  | 5, _ => exact lw_turn hT hr hL hL31 hi hh hX hR lw_k5 lwp5
  | 6, _ => exact lw_turn hT hr hL hL31 hi hh hX hR lw_k6 lwp6
  | 7, _ => exact lw_turn hT hr hL hL31 hi hh hX hR lw_k7 lwp7
  | 8, _ => exact lw_turnc hT hr hL hL31 hi hh hX hR lw_k8 lwp8
  | 9, _ => exact lw_turn hT hr hL hL31 hi hh hX hR lw_k9 lwp9
  | 10, _ => exact lw_fturn hT hr hL hL31 hi hh hX hR lw_k10 lwp10
  | 11, _ => exact lw_turn hT hr hL hL31 hi hh hX hR lw_k11 lwp11
  | 12, _ => exact lw_turn hT hr hL hL31 hi hh hX hR lw_k12 lwp12
  | 13, _ => exact lw_turn hT hr hL hL31 hi hh hX hR lw_k13 lwp13
  | 14, _ => exact lw_turn hT hr hL hL31 hi hh hX hR lw_k14 lwp14
  | 15, _ => exact lw_turn hT hr hL hL31 hi hh hX hR lw_k15 lwp15
  | 16, _ => exact lw_turn hT hr hL hL31 hi hh hX hR lw_k16 lwp16
  | 17, _ => exact lw_turn hT hr hL hL31 hi hh hX hR lw_k17 lwp17
  | 18, _ => exact lw_turn hT hr hL hL31 hi hh hX hR lw_k18 lwp18
  | 19, _ => exact lw_turn hT hr hL hL31 hi hh hX hR lw_k19 lwp19
  | 20, _ => exact lw_turn hT hr hL hL31 hi hh hX hR lw_k20 lwp20
  | 21, _ => exact lw_turn hT hr hL hL31 hi hh hX hR lw_k21 lwp21
  | 22, _ => exact lw_turn hT hr hL hL31 hi hh hX hR lw_k22 lwp22
  | 23, _ => exact lw_turn hT hr hL hL31 hi hh hX hR lw_k23 lwp23
  | 24, _ => exact lw_turn hT hr hL hL31 hi hh hX hR lw_k24 lwp24
  | 25, _ => exact lw_turn hT hr hL hL31 hi hh hX hR lw_k25 lwp25
  | 26, _ => exact lw_turn hT hr hL hL31 hi hh hX hR lw_k26 lwp26
  | 27, _ => exact lw_turn hT hr hL hL31 hi hh hX hR lw_k27 lwp27
  | 28, _ => exact lw_turn hT hr hL hL31 hi hh hX hR lw_k28 lwp28
  | 29, _ => exact lw_turn hT hr hL hL31 hi hh hX hR lw_k29 lwp29
  | 30, _ => exact lw_turn hT hr hL hL31 hi hh hX hR lw_k30 lwp30
  | 31, _ => exact lw_turn hT hr hL hL31 hi hh hX hR lw_k31 lwp31
  | 32, _ => exact lw_turn hT hr hL hL31 hi hh hX hR lw_k32 lwp32
  | 33, _ => exact lw_turn hT hr hL hL31 hi hh hX hR lw_k33 lwp33
  | 34, _ => exact lw_turn hT hr hL hL31 hi hh hX hR lw_k34 lwp34
  | 35, _ => exact lw_turn hT hr hL hL31 hi hh hX hR lw_k35 lwp35
  | 36, _ => exact lw_turn hT hr hL hL31 hi hh hX hR lw_k36 lwp36
  | 37, _ => exact lw_turn hT hr hL hL31 hi hh hX hR lw_k37 lwp37
  | 38, _ => exact lw_turn hT hr hL hL31 hi hh hX hR lw_k38 lwp38
  | 39, _ => exact lw_turn hT hr hL hL31 hi hh hX hR lw_k39 lwp39
  | 40, _ => exact lw_turn hT hr hL hL31 hi hh hX hR lw_k40 lwp40
  | 41, _ => exact lw_turn hT hr hL hL31 hi hh hX hR lw_k41 lwp41
  | 42, _ => exact lw_turn hT hr hL hL31 hi hh hX hR lw_k42 lwp42
  | 43, _ => exact lw_turn hT hr hL hL31 hi hh hX hR lw_k43 lwp43
  | k + 44, hk => exact absurd hk (by omega)
end
