-- ===== THE LAW: each turn, over the state
theorem lwp0 : lwPg RC false 74 159 (lwI 0) := lwPg_T lsx0 lsm0 (by decide +kernel) (lwPg_E lsx0 lsm0 (by decide +kernel) (lwPg_w (lwPg_S lsx0 lsm0 (by decide +kernel) ex_call)))
theorem lwp1 : lwPg RC false 75 160 (lwI 2) := lwPg_T lsx1 lsm1 (by decide +kernel) (lwPg_E lsx1 lsm1 (by decide +kernel) (lwPg_w (lwPg_S lsx1 lsm1 (by decide +kernel) ex_sound)))
theorem lwp2 : lwPg RC false 76 162 (lwI 2) := lwPg_T lsx2 lsm2 (by decide +kernel) (lwPg_E lsx2 lsm2 (by decide +kernel) (lwPg_fr lsx2 lsm2 (by decide +kernel) (by decide +kernel)))
theorem lwp3 : lwPg RC false 77 163 (lwI 1) := lwPg_T lsx3 lsm3 (by decide +kernel) (lwPg_E lsx3 lsm3 (by decide +kernel) (lwPg_w (lwPg_S lsx3 lsm3 (by decide +kernel) ex_hush)))
theorem lwp4 : lwPg RC false 78 165 (lwI 2) := lwPg_T lsx4 lsm4 (by decide +kernel) (lwPg_E lsx4 lsm4 (by decide +kernel) (lwPg_w (lwPg_S lsx4 lsm4 (by decide +kernel) ex_draw)))
theorem lwp5 : lwPg RC false 79 166 (lwI 1) := lwPg_T lsx5 lsm5 (by decide +kernel) (lwPg_E lsx5 lsm5 (by decide +kernel) (lwPg_fr lsx5 lsm5 (by decide +kernel) (by decide +kernel)))
theorem lwp6 : lwPg RC false 80 167 (lwI 2) := lwPg_T lsx6 lsm6 (by decide +kernel) (lwPg_E lsx6 lsm6 (by decide +kernel) (lwPg_w (lwPg_S lsx6 lsm6 (by decide +kernel) ex_rock)))
theorem lwp7 : lwPg RC false 81 168 (lwI 2) := lwPg_T lsx7 lsm7 (by decide +kernel) (lwPg_E lsx7 lsm7 (by decide +kernel) (lwPg_fr lsx7 lsm7 (by decide +kernel) (by decide +kernel)))
theorem lwp8 : lwPg RC false 82 170 (lwI 2) := lwPg_T lsx8 lsm8 (by decide +kernel) (lwPg_E lsx8 lsm8 (by decide +kernel) (lwPg_fr lsx8 lsm8 (by decide +kernel) (by decide +kernel)))
theorem lwp9 : lwPg RC false 83 171 (lwI 3) := lwPg_T lsx9 lsm9 (by decide +kernel) (lwPg_E lsx9 lsm9 (by decide +kernel) (lwPg_w (lwPg_S lsx9 lsm9 (by decide +kernel) ex_set)))
theorem lwp10 : lwPg RC false 84 172 (lwFe) := lwPg_T lsx10 lsm10 (by decide +kernel) (lwPg_E lsx10 lsm10 (by decide +kernel) (lwPg_w (lwPg_S lsx10 lsm10 (by decide +kernel) ex_feed)))
theorem lwp11 : lwPg RC false 85 184 (lwI 1) := lwPg_T lsx11 lsm11 (by decide +kernel) (lwPg_E lsx11 lsm11 (by decide +kernel) (lwPg_w (lwPg_S lsx11 lsm11 (by decide +kernel) ex_text)))
theorem lwp12 : lwPg RC false 86 185 (lwI 1) := lwPg_T lsx12 lsm12 (by decide +kernel) (lwPg_E lsx12 lsm12 (by decide +kernel) (lwPg_w (lwPg_S lsx12 lsm12 (by decide +kernel) ex_untell)))
theorem lwp13 : lwPg RC false 87 188 (lwI 3) := lwPg_T lsx13 lsm13 (by decide +kernel) (lwPg_E lsx13 lsm13 (by decide +kernel) (lwPg_fr lsx13 lsm13 (by decide +kernel) (by decide +kernel)))
theorem lwp14 : lwPg RC false 88 189 (lwI 2) := lwPg_T lsx14 lsm14 (by decide +kernel) (lwPg_E lsx14 lsm14 (by decide +kernel) (lwPg_fr lsx14 lsm14 (by decide +kernel) (by decide +kernel)))
theorem lwp15 : lwPg RC false 89 190 (lwI 1) := lwPg_T lsx15 lsm15 (by decide +kernel) (lwPg_E lsx15 lsm15 (by decide +kernel) (lwPg_fr lsx15 lsm15 (by decide +kernel) (by decide +kernel)))
theorem lwp16 : lwPg RC false 90 191 (lwI 3) := lwPg_T lsx16 lsm16 (by decide +kernel) (lwPg_E lsx16 lsm16 (by decide +kernel) (lwPg_w (lwPg_S lsx16 lsm16 (by decide +kernel) ex_echo)))
theorem lwp17 : lwPg RC false 91 193 (lwI 2) := lwPg_T lsx17 lsm17 (by decide +kernel) (lwPg_E lsx17 lsm17 (by decide +kernel) (lwPg_fr lsx17 lsm17 (by decide +kernel) (by decide +kernel)))
theorem lwp18 : lwPg RC false 92 194 (lwI 3) := lwPg_T lsx18 lsm18 (by decide +kernel) (lwPg_E lsx18 lsm18 (by decide +kernel) (lwPg_fr lsx18 lsm18 (by decide +kernel) (by decide +kernel)))
theorem lwp19 : lwPg RC false 93 195 (lwI 3) := lwPg_T lsx19 lsm19 (by decide +kernel) (lwPg_E lsx19 lsm19 (by decide +kernel) (lwPg_fr lsx19 lsm19 (by decide +kernel) (by decide +kernel)))
theorem lwp20 : lwPg RC false 94 197 (lwI 2) := lwPg_T lsx20 lsm20 (by decide +kernel) (lwPg_E lsx20 lsm20 (by decide +kernel) (lwPg_fr lsx20 lsm20 (by decide +kernel) (by decide +kernel)))
theorem lwp21 : lwPg RC false 95 199 (lwI 3) := lwPg_T lsx21 lsm21 (by decide +kernel) (lwPg_E lsx21 lsm21 (by decide +kernel) (lwPg_fr lsx21 lsm21 (by decide +kernel) (by decide +kernel)))
theorem lwp22 : lwPg RC false 96 200 (lwI 2) := lwPg_T lsx22 lsm22 (by decide +kernel) (lwPg_E lsx22 lsm22 (by decide +kernel) (lwPg_fr lsx22 lsm22 (by decide +kernel) (by decide +kernel)))
theorem lwp23 : lwPg RC false 97 201 (lwI 3) := lwPg_T lsx23 lsm23 (by decide +kernel) (lwPg_E lsx23 lsm23 (by decide +kernel) (lwPg_fr lsx23 lsm23 (by decide +kernel) (by decide +kernel)))
theorem lwp24 : lwPg RC false 98 206 (lwI 1) := lwPg_T lsx24 lsm24 (by decide +kernel) (lwPg_E lsx24 lsm24 (by decide +kernel) (lwPg_fr lsx24 lsm24 (by decide +kernel) (by decide +kernel)))
theorem lwp25 : lwPg RC false 99 207 (lwI 1) := lwPg_T lsx25 lsm25 (by decide +kernel) (lwPg_E lsx25 lsm25 (by decide +kernel) (lwPg_w (lwPg_S lsx25 lsm25 (by decide +kernel) ex_so)))
theorem lwp26 : lwPg RC false 100 208 (lwI 2) := lwPg_T lsx26 lsm26 (by decide +kernel) (lwPg_E lsx26 lsm26 (by decide +kernel) (lwPg_fr lsx26 lsm26 (by decide +kernel) (by decide +kernel)))
theorem lwp27 : lwPg RC false 101 211 (lwI 2) := lwPg_T lsx27 lsm27 (by decide +kernel) (lwPg_w (lwPg_EE lsx27 lsm27 (by decide +kernel) (by decide +kernel) (by decide +kernel) (lwPg_fr lsx27 lsm27 (by decide +kernel) (by decide +kernel)) exE_shout))
theorem lwp28 : lwPg RC false 102 212 (lwI 1) := lwPg_T lsx28 lsm28 (by decide +kernel) (lwPg_w (lwPg_EE lsx28 lsm28 (by decide +kernel) (by decide +kernel) (by decide +kernel) (lwPg_fr lsx28 lsm28 (by decide +kernel) (by decide +kernel)) exE_seconds))
theorem lwp29 : lwPg RC false 103 213 (lwI 2) := lwPg_T lsx29 lsm29 (by decide +kernel) (lwPg_E lsx29 lsm29 (by decide +kernel) (lwPg_fr lsx29 lsm29 (by decide +kernel) (by decide +kernel)))
theorem lwp30 : lwPg RC false 104 216 (lwI 5) := lwPg_T lsx30 lsm30 (by decide +kernel) (lwPg_E lsx30 lsm30 (by decide +kernel) (lwPg_fr lsx30 lsm30 (by decide +kernel) (by decide +kernel)))
theorem lwp31 : lwPg RC false 105 217 (lwI 1) := lwPg_T lsx31 lsm31 (by decide +kernel) (lwPg_E lsx31 lsm31 (by decide +kernel) (lwPg_w (lwPg_S lsx31 lsm31 (by decide +kernel) ex_seed)))
theorem lwp32 : lwPg RC false 106 225 (lwI 3) := lwPg_V lsx32 lsm32 (by decide +kernel) (lwPg_E lsx32 lsm32 (by decide +kernel) (lwPg_fr lsx32 lsm32 (by decide +kernel) (by decide +kernel)))
theorem lwp33 : lwPg RC false 107 226 (lwI 1) := lwPg_T lsx33 lsm33 (by decide +kernel) (lwPg_E lsx33 lsm33 (by decide +kernel) (lwPg_fr lsx33 lsm33 (by decide +kernel) (by decide +kernel)))
theorem lwp34 : lwPg RC false 108 228 (lwI 3) := lwPg_T lsx34 lsm34 (by decide +kernel) (lwPg_E lsx34 lsm34 (by decide +kernel) (lwPg_w (lwPg_S lsx34 lsm34 (by decide +kernel) ex_sheet)))
theorem lwp35 : lwPg RC false 109 229 (lwI 3) := lwPg_T lsx35 lsm35 (by decide +kernel) (lwPg_E lsx35 lsm35 (by decide +kernel) (lwPg_w (lwPg_S lsx35 lsm35 (by decide +kernel) ex_put)))
theorem lwp36 : lwPg RC false 110 230 (lwI 5) := lwPg_T lsx36 lsm36 (by decide +kernel) (lwPg_E lsx36 lsm36 (by decide +kernel) (lwPg_w (lwPg_S lsx36 lsm36 (by decide +kernel) ex_move)))
theorem lwp37 : lwPg RC false 111 231 (lwI 2) := lwPg_T lsx37 lsm37 (by decide +kernel) (lwPg_E lsx37 lsm37 (by decide +kernel) (lwPg_w (lwPg_S lsx37 lsm37 (by decide +kernel) ex_sounds)))
theorem lwp38 : lwPg RC false 112 232 (lwI 0) := lwPg_T lsx38 lsm38 (by decide +kernel) (lwPg_EE lsx38 lsm38 (by decide +kernel) (by decide +kernel) (by decide +kernel) (lwPg_S lsx38 lsm38 (by decide +kernel) ex_image) exE_image)
theorem lwp39 : lwPg RC false 113 233 (lwI 0) := lwPg_T lsx39 lsm39 (by decide +kernel) (lwPg_EE lsx39 lsm39 (by decide +kernel) (by decide +kernel) (by decide +kernel) (lwPg_S lsx39 lsm39 (by decide +kernel) ex_restore) exE_restore)
theorem lwp40 : lwPg RC false 114 234 (lwI 1) := lwPg_T lsx40 lsm40 (by decide +kernel) (lwPg_E lsx40 lsm40 (by decide +kernel) (lwPg_w (lwPg_S lsx40 lsm40 (by decide +kernel) ex_tell)))
theorem lwp41 : lwPg RC false 115 235 (lwI 2) := lwPg_T lsx41 lsm41 (by decide +kernel) (lwPg_E lsx41 lsm41 (by decide +kernel) (lwPg_S lsx41 lsm41 (by decide +kernel) ex_check))
theorem lwp42 : lwPg RC true 116 236 (lwI 1) := lwPg_cnt lsx42 (by decide +kernel) (lwPg_T lsx42 lsm42 (by decide +kernel) (lwPg_E lsx42 lsm42 (by decide +kernel) (lwPg_fr lsx42 lsm42 (by decide +kernel) (by decide +kernel))))
theorem lwp43 : lwPg RC false 117 237 (lwI 1) := lwPg_T lsx43 lsm43 (by decide +kernel) (lwPg_E lsx43 lsm43 (by decide +kernel) (lwPg_fr lsx43 lsm43 (by decide +kernel) (by decide +kernel)))
theorem lw_k0 : lwTurn 224 74 159 [] = true := by decide +kernel
theorem lw_k1 : lwTurn 237 75 160 [1, 2] = true := by decide +kernel
theorem lw_k2 : lwTurn 270 76 162 [1, 2] = true := by decide +kernel
theorem lw_k3 : lwTurn 303 77 163 [1] = true := by decide +kernel
theorem lw_k4 : lwTurn 326 78 165 [1, 2] = true := by decide +kernel
theorem lw_k5 : lwTurn 359 79 166 [1] = true := by decide +kernel
theorem lw_k6 : lwTurn 382 80 167 [1, 2] = true := by decide +kernel
theorem lw_k7 : lwTurn 415 81 168 [1, 2] = true := by decide +kernel
theorem lw_k8 : lwTurn 448 82 170 [1, 2] = true := by decide +kernel
theorem lw_k9 : lwTurn 481 83 171 [1, 2, 3] = true := by decide +kernel
theorem lw_k10 : lwFd2 524 84 172 = true := by decide +kernel
theorem lw_k11 : lwTurn 587 85 184 [1] = true := by decide +kernel
theorem lw_k12 : lwTurn 610 86 185 [1] = true := by decide +kernel
theorem lw_k13 : lwTurn 633 87 188 [1, 2, 3] = true := by decide +kernel
theorem lw_k14 : lwTurn 676 88 189 [1, 2] = true := by decide +kernel
theorem lw_k15 : lwTurn 709 89 190 [1] = true := by decide +kernel
theorem lw_k16 : lwTurn 732 90 191 [1, 2, 3] = true := by decide +kernel
theorem lw_k17 : lwTurn 775 91 193 [1, 2] = true := by decide +kernel
theorem lw_k18 : lwTurn 808 92 194 [1, 2, 3] = true := by decide +kernel
theorem lw_k19 : lwTurn 851 93 195 [1, 2, 3] = true := by decide +kernel
theorem lw_k20 : lwTurn 894 94 197 [1, 2] = true := by decide +kernel
theorem lw_k21 : lwTurn 927 95 199 [1, 2, 3] = true := by decide +kernel
theorem lw_k22 : lwTurn 970 96 200 [1, 2] = true := by decide +kernel
theorem lw_k23 : lwTurn 1003 97 201 [1, 2, 3] = true := by decide +kernel
theorem lw_k24 : lwTurn 1046 98 206 [1] = true := by decide +kernel
theorem lw_k25 : lwTurn 1069 99 207 [1] = true := by decide +kernel
theorem lw_k26 : lwTurn 1092 100 208 [1, 2] = true := by decide +kernel
theorem lw_k27 : lwTurn 1125 101 211 [1, 2] = true := by decide +kernel
theorem lw_k28 : lwTurn 1158 102 212 [1] = true := by decide +kernel
theorem lw_k29 : lwTurn 1181 103 213 [1, 2] = true := by decide +kernel
theorem lw_k30 : lwTurn 1214 104 216 [1, 2, 3, 4, 5] = true := by decide +kernel
theorem lw_k31 : lwTurn 1277 105 217 [1] = true := by decide +kernel
theorem lw_k32 : lwTurn 1300 106 225 [1, 2, 3] = true := by decide +kernel
theorem lw_k33 : lwTurn 1343 107 226 [1] = true := by decide +kernel
theorem lw_k34 : lwTurn 1366 108 228 [1, 2, 3] = true := by decide +kernel
theorem lw_k35 : lwTurn 1409 109 229 [1, 2, 3] = true := by decide +kernel
theorem lw_k36 : lwTurn 1452 110 230 [1, 2, 3, 4, 5] = true := by decide +kernel
theorem lw_k37 : lwTurn 1515 111 231 [1, 2] = true := by decide +kernel
theorem lw_k38 : lwTurn 1548 112 232 [] = true := by decide +kernel
theorem lw_k39 : lwTurn 1561 113 233 [] = true := by decide +kernel
theorem lw_k40 : lwTurn 1574 114 234 [1] = true := by decide +kernel
theorem lw_k41 : lwTurn 1597 115 235 [1, 2] = true := by decide +kernel
theorem lw_k42 : lwTurnC 1630 116 236 [1] = true := by decide +kernel
theorem lw_k43 : lwTurn 1653 117 237 [1] = true := by decide +kernel
def lwTg : List Nat := [224, 237, 270, 303, 326, 359, 382, 415, 448, 481, 524, 587, 610, 633, 676, 709, 732, 775, 808, 851, 894, 927, 970, 1003, 1046, 1069, 1092, 1125, 1158, 1181, 1214, 1277, 1300, 1343, 1366, 1409, 1452, 1515, 1548, 1561, 1574, 1597, 1630, 1653]
section
variable {r_ : Nat → Value} {i_ L_ : Nat} {h : xH}
theorem lw_case (hT_ : xTok) (hr : xRr r_) (hL : r_ 49 = .int (nI L_)) (hL31 : L_ < 2 ^ 31) (hi_ : i_ + 6 ≤ L_) (hh : bInv bZ bIj h) (hX : bXm h) (hR : RC h) : ∀ k_ : Nat, k_ < 44 → lwGg RC r_ i_ (lwTg.getD k_ 1676) h := by
  intro k_ hk
  match k_, hk with
  | 0, _ => exact lw_turn hT_ hr hL hL31 hi_ hh hX hR lw_k0 lwp0
  | 1, _ => exact lw_turn hT_ hr hL hL31 hi_ hh hX hR lw_k1 lwp1
  | 2, _ => exact lw_turn hT_ hr hL hL31 hi_ hh hX hR lw_k2 lwp2
  | 3, _ => exact lw_turn hT_ hr hL hL31 hi_ hh hX hR lw_k3 lwp3
  | 4, _ => exact lw_turn hT_ hr hL hL31 hi_ hh hX hR lw_k4 lwp4
  | 5, _ => exact lw_turn hT_ hr hL hL31 hi_ hh hX hR lw_k5 lwp5
  | 6, _ => exact lw_turn hT_ hr hL hL31 hi_ hh hX hR lw_k6 lwp6
  | 7, _ => exact lw_turn hT_ hr hL hL31 hi_ hh hX hR lw_k7 lwp7
  | 8, _ => exact lw_turn hT_ hr hL hL31 hi_ hh hX hR lw_k8 lwp8
  | 9, _ => exact lw_turn hT_ hr hL hL31 hi_ hh hX hR lw_k9 lwp9
  | 10, _ => exact lw_fturn hT_ hr hL hL31 hi_ hh hX hR lw_k10 lwp10
  | 11, _ => exact lw_turn hT_ hr hL hL31 hi_ hh hX hR lw_k11 lwp11
  | 12, _ => exact lw_turn hT_ hr hL hL31 hi_ hh hX hR lw_k12 lwp12
  | 13, _ => exact lw_turn hT_ hr hL hL31 hi_ hh hX hR lw_k13 lwp13
  | 14, _ => exact lw_turn hT_ hr hL hL31 hi_ hh hX hR lw_k14 lwp14
  | 15, _ => exact lw_turn hT_ hr hL hL31 hi_ hh hX hR lw_k15 lwp15
  | 16, _ => exact lw_turn hT_ hr hL hL31 hi_ hh hX hR lw_k16 lwp16
  | 17, _ => exact lw_turn hT_ hr hL hL31 hi_ hh hX hR lw_k17 lwp17
  | 18, _ => exact lw_turn hT_ hr hL hL31 hi_ hh hX hR lw_k18 lwp18
  | 19, _ => exact lw_turn hT_ hr hL hL31 hi_ hh hX hR lw_k19 lwp19
  | 20, _ => exact lw_turn hT_ hr hL hL31 hi_ hh hX hR lw_k20 lwp20
  | 21, _ => exact lw_turn hT_ hr hL hL31 hi_ hh hX hR lw_k21 lwp21
  | 22, _ => exact lw_turn hT_ hr hL hL31 hi_ hh hX hR lw_k22 lwp22
  | 23, _ => exact lw_turn hT_ hr hL hL31 hi_ hh hX hR lw_k23 lwp23
  | 24, _ => exact lw_turn hT_ hr hL hL31 hi_ hh hX hR lw_k24 lwp24
  | 25, _ => exact lw_turn hT_ hr hL hL31 hi_ hh hX hR lw_k25 lwp25
  | 26, _ => exact lw_turn hT_ hr hL hL31 hi_ hh hX hR lw_k26 lwp26
  | 27, _ => exact lw_turn hT_ hr hL hL31 hi_ hh hX hR lw_k27 lwp27
  | 28, _ => exact lw_turn hT_ hr hL hL31 hi_ hh hX hR lw_k28 lwp28
  | 29, _ => exact lw_turn hT_ hr hL hL31 hi_ hh hX hR lw_k29 lwp29
  | 30, _ => exact lw_turn hT_ hr hL hL31 hi_ hh hX hR lw_k30 lwp30
  | 31, _ => exact lw_turn hT_ hr hL hL31 hi_ hh hX hR lw_k31 lwp31
  | 32, _ => exact lw_turn hT_ hr hL hL31 hi_ hh hX hR lw_k32 lwp32
  | 33, _ => exact lw_turn hT_ hr hL hL31 hi_ hh hX hR lw_k33 lwp33
  | 34, _ => exact lw_turn hT_ hr hL hL31 hi_ hh hX hR lw_k34 lwp34
  | 35, _ => exact lw_turn hT_ hr hL hL31 hi_ hh hX hR lw_k35 lwp35
  | 36, _ => exact lw_turn hT_ hr hL hL31 hi_ hh hX hR lw_k36 lwp36
  | 37, _ => exact lw_turn hT_ hr hL hL31 hi_ hh hX hR lw_k37 lwp37
  | 38, _ => exact lw_turn hT_ hr hL hL31 hi_ hh hX hR lw_k38 lwp38
  | 39, _ => exact lw_turn hT_ hr hL hL31 hi_ hh hX hR lw_k39 lwp39
  | 40, _ => exact lw_turn hT_ hr hL hL31 hi_ hh hX hR lw_k40 lwp40
  | 41, _ => exact lw_turn hT_ hr hL hL31 hi_ hh hX hR lw_k41 lwp41
  | 42, _ => exact lw_turnc hT_ hr hL hL31 hi_ hh hX hR lw_k42 lwp42
  | 43, _ => exact lw_turn hT_ hr hL hL31 hi_ hh hX hR lw_k43 lwp43
  | k_ + 44, hk => exact absurd hk (by omega)
end
