-- ===== each call of the law's: it ends, and what it leaves as it was
theorem lw_nil {as : List Jvm.Term} (h : bPs (lwI 0) as) : as = [] := by
  cases as with
  | nil => rfl
  | cons t u => exact absurd h id
theorem lw_sgl {as : List Jvm.Term} (h : bPs (lwI 1) as) : ∃ x : Int32, as = [.int x] := by
  cases as with
  | nil => exact absurd h id
  | cons t u =>
    obtain ⟨⟨x, rfl, -⟩, h2⟩ := h
    cases u with
    | nil => exact ⟨x, rfl⟩
    | cons t u => exact absurd h2 id
theorem lsx0 : lwFr 74 0 (lwI 0) bkx214.2.2.2.1 := lwFr_x bcx214 ⟨rfl, rfl, by decide +kernel⟩
theorem lsm0 : lwFr 159 338 (lwI 0) bkm73.2.2.2.1 := lwFr_m (X_ := bTr) (fun _ _ => trivial) bcm73 ⟨rfl, rfl, by decide +kernel⟩
theorem lsx1 : lwFr 75 0 (lwI 2) bkx215.2.2.2.1 := lwFr_x bcx215 ⟨rfl, rfl, by decide +kernel⟩
theorem lsm1 : lwFr 160 338 (lwI 2) bkm74.2.2.2.1 := lwFr_m (X_ := bTr) (fun _ _ => trivial) bcm74 ⟨rfl, rfl, by decide +kernel⟩
theorem lsx2 : lwFr 76 0 (lwI 2) bkx216.2.2.2.1 := lwFr_x bcx216 ⟨rfl, rfl, by decide +kernel⟩
theorem lsm2 : lwFr 162 338 (lwI 2) bkm75.2.2.2.1 := lwFr_m (X_ := bTr) (fun _ _ => trivial) bcm75 ⟨rfl, rfl, by decide +kernel⟩
theorem lsx3 : lwFr 77 0 (lwI 1) bkx217.2.2.2.1 := lwFr_x bcx217 ⟨rfl, rfl, by decide +kernel⟩
theorem lsm3 : lwFr 163 338 (lwI 1) bkm76.2.2.2.1 := lwFr_m (X_ := bTr) (fun _ _ => trivial) bcm76 ⟨rfl, rfl, by decide +kernel⟩
theorem lsx4 : lwFr 78 0 (lwI 2) bkx218.2.2.2.1 := lwFr_x bcx218 ⟨rfl, rfl, by decide +kernel⟩
theorem lsm4 : lwFr 165 338 (lwI 2) bkm77.2.2.2.1 := lwFr_m (X_ := bTr) (fun _ _ => trivial) bcm77 ⟨rfl, rfl, by decide +kernel⟩
theorem lsx5 : lwFr 79 0 (lwI 1) bkx219.2.2.2.1 := lwFr_x bcx219 ⟨rfl, rfl, by decide +kernel⟩
theorem lsm5 : lwFr 166 338 (lwI 1) bkm78.2.2.2.1 := lwFr_m (X_ := bTr) (fun _ _ => trivial) bcm78 ⟨rfl, rfl, by decide +kernel⟩
theorem lsx6 : lwFr 80 0 (lwI 2) bkx220.2.2.2.1 := lwFr_x bcx220 ⟨rfl, rfl, by decide +kernel⟩
theorem lsm6 : lwFr 167 338 (lwI 2) bkm79.2.2.2.1 := lwFr_m (X_ := bTr) (fun _ _ => trivial) bcm79 ⟨rfl, rfl, by decide +kernel⟩
theorem lsx7 : lwFr 81 0 (lwI 2) bkx221.2.2.2.1 := lwFr_x bcx221 ⟨rfl, rfl, by decide +kernel⟩
theorem lsm7 : lwFr 168 338 (lwI 2) bkm80.2.2.2.1 := lwFr_m (X_ := bTr) (fun _ _ => trivial) bcm80 ⟨rfl, rfl, by decide +kernel⟩
theorem lsx8 : lwFr 82 0 (lwI 2) bkx222.2.2.2.1 := lwFr_x bcx222 ⟨rfl, rfl, by decide +kernel⟩
theorem lsm8 : lwFr 170 338 (lwI 2) bkm81.2.2.2.1 := lwFr_m (X_ := bTr) (fun _ _ => trivial) bcm81 ⟨rfl, rfl, by decide +kernel⟩
theorem lsx9 : lwFr 83 0 (lwI 3) bkx223.2.2.2.1 := lwFr_x bcx223 ⟨rfl, rfl, by decide +kernel⟩
theorem lsm9 : lwFr 171 338 (lwI 3) bkm82.2.2.2.1 := lwFr_m (X_ := bTr) (fun _ _ => trivial) bcm82 ⟨rfl, rfl, by decide +kernel⟩
theorem lsx10 : lwFr 84 0 (lwFe) bkx224.2.2.2.1 := lwFr_x bcx224 ⟨rfl, rfl, by decide +kernel⟩
theorem lsm10 : lwFr 172 338 (lwFe) bkm83.2.2.2.1 := lwFr_m (X_ := bTr) (fun _ _ => trivial) bcm83 ⟨rfl, rfl, by decide +kernel⟩
theorem lsx11 : lwFr 85 0 (lwI 1) bkx225.2.2.2.1 := lwFr_x bcx225 ⟨rfl, rfl, by decide +kernel⟩
theorem lsm11 : lwFr 184 338 (lwI 1) xWT := by
  obtain ⟨d, hd, H⟩ := text_ok
  refine lwFr_o (W := xWT) ⟨d, hd, fun h as hp Hh hX => ?_⟩ (by decide)
  obtain ⟨x, rfl⟩ := lw_sgl hp
  exact H h x Hh hX
theorem lsx12 : lwFr 86 0 (lwI 1) bkx226.2.2.2.1 := lwFr_x bcx226 ⟨rfl, rfl, by decide +kernel⟩
theorem lsm12 : lwFr 185 338 (lwI 1) xWU := by
  obtain ⟨d, hd, H⟩ := untell_ok
  refine lwFr_o (W := xWU) ⟨d, hd, fun h as hp Hh hX => ?_⟩ (by decide)
  obtain ⟨x, rfl⟩ := lw_sgl hp
  exact H h x Hh hX
theorem lsx13 : lwFr 87 0 (lwI 3) bkx227.2.2.2.1 := lwFr_x bcx227 ⟨rfl, rfl, by decide +kernel⟩
theorem lsm13 : lwFr 188 338 (lwI 3) bkm85.2.2.2.1 := lwFr_m (X_ := bXm) (fun _ q => q) bcm85 ⟨rfl, rfl, by decide +kernel⟩
theorem lsx14 : lwFr 88 0 (lwI 2) bkx228.2.2.2.1 := lwFr_x bcx228 ⟨rfl, rfl, by decide +kernel⟩
theorem lsm14 : lwFr 189 338 (lwI 2) bkm86.2.2.2.1 := lwFr_m (X_ := bXm) (fun _ q => q) bcm86 ⟨rfl, rfl, by decide +kernel⟩
theorem lsx15 : lwFr 89 0 (lwI 1) bkx229.2.2.2.1 := lwFr_x bcx229 ⟨rfl, rfl, by decide +kernel⟩
theorem lsm15 : lwFr 190 338 (lwI 1) bkm87.2.2.2.1 := lwFr_m (X_ := bTr) (fun _ _ => trivial) bcm87 ⟨rfl, rfl, by decide +kernel⟩
theorem lsx16 : lwFr 90 0 (lwI 3) bkx230.2.2.2.1 := lwFr_x bcx230 ⟨rfl, rfl, by decide +kernel⟩
theorem lsm16 : lwFr 191 338 (lwI 3) bkm88.2.2.2.1 := lwFr_m (X_ := bXm) (fun _ q => q) bcm88 ⟨rfl, rfl, by decide +kernel⟩
theorem lsx17 : lwFr 91 0 (lwI 2) bkx231.2.2.2.1 := lwFr_x bcx231 ⟨rfl, rfl, by decide +kernel⟩
theorem lsm17 : lwFr 193 338 (lwI 2) bkm89.2.2.2.1 := lwFr_m (X_ := bXm) (fun _ q => q) bcm89 ⟨rfl, rfl, by decide +kernel⟩
theorem lsx18 : lwFr 92 0 (lwI 3) bkx232.2.2.2.1 := lwFr_x bcx232 ⟨rfl, rfl, by decide +kernel⟩
theorem lsm18 : lwFr 194 338 (lwI 3) bkm90.2.2.2.1 := lwFr_m (X_ := bXm) (fun _ q => q) bcm90 ⟨rfl, rfl, by decide +kernel⟩
theorem lsx19 : lwFr 93 0 (lwI 3) bkx233.2.2.2.1 := lwFr_x bcx233 ⟨rfl, rfl, by decide +kernel⟩
theorem lsm19 : lwFr 195 338 (lwI 3) bkm91.2.2.2.1 := lwFr_m (X_ := bXm) (fun _ q => q) bcm91 ⟨rfl, rfl, by decide +kernel⟩
theorem lsx20 : lwFr 94 0 (lwI 2) bkx234.2.2.2.1 := lwFr_x bcx234 ⟨rfl, rfl, by decide +kernel⟩
theorem lsm20 : lwFr 197 338 (lwI 2) bkm92.2.2.2.1 := lwFr_m (X_ := bXm) (fun _ q => q) bcm92 ⟨rfl, rfl, by decide +kernel⟩
theorem lsx21 : lwFr 95 0 (lwI 3) bkx235.2.2.2.1 := lwFr_x bcx235 ⟨rfl, rfl, by decide +kernel⟩
theorem lsm21 : lwFr 199 338 (lwI 3) bkm93.2.2.2.1 := lwFr_m (X_ := bXm) (fun _ q => q) bcm93 ⟨rfl, rfl, by decide +kernel⟩
theorem lsx22 : lwFr 96 0 (lwI 2) bkx236.2.2.2.1 := lwFr_x bcx236 ⟨rfl, rfl, by decide +kernel⟩
theorem lsm22 : lwFr 200 338 (lwI 2) bkm94.2.2.2.1 := lwFr_m (X_ := bXm) (fun _ q => q) bcm94 ⟨rfl, rfl, by decide +kernel⟩
theorem lsx23 : lwFr 97 0 (lwI 3) bkx237.2.2.2.1 := lwFr_x bcx237 ⟨rfl, rfl, by decide +kernel⟩
theorem lsm23 : lwFr 201 338 (lwI 3) bkm95.2.2.2.1 := lwFr_m (X_ := bXm) (fun _ q => q) bcm95 ⟨rfl, rfl, by decide +kernel⟩
theorem lsx24 : lwFr 98 0 (lwI 1) bkx238.2.2.2.1 := lwFr_x bcx238 ⟨rfl, rfl, by decide +kernel⟩
theorem lsm24 : lwFr 206 338 (lwI 1) bkm96.2.2.2.1 := lwFr_m (X_ := bTr) (fun _ _ => trivial) bcm96 ⟨rfl, rfl, by decide +kernel⟩
theorem lsx25 : lwFr 99 0 (lwI 1) bkx239.2.2.2.1 := lwFr_x bcx239 ⟨rfl, rfl, by decide +kernel⟩
theorem lsm25 : lwFr 207 338 (lwI 1) bkm97.2.2.2.1 := lwFr_m (X_ := bTr) (fun _ _ => trivial) bcm97 ⟨rfl, rfl, by decide +kernel⟩
theorem lsx26 : lwFr 100 0 (lwI 2) bkx240.2.2.2.1 := lwFr_x bcx240 ⟨rfl, rfl, by decide +kernel⟩
theorem lsm26 : lwFr 208 338 (lwI 2) bkm98.2.2.2.1 := lwFr_m (X_ := bXm) (fun _ q => q) bcm98 ⟨rfl, rfl, by decide +kernel⟩
theorem lsx27 : lwFr 101 0 (lwI 2) bkx241.2.2.2.1 := lwFr_x bcx241 ⟨rfl, rfl, by decide +kernel⟩
theorem lsm27 : lwFr 211 338 (lwI 2) bkm99.2.2.2.1 := lwFr_m (X_ := bXm) (fun _ q => q) bcm99 ⟨rfl, rfl, by decide +kernel⟩
theorem lsx28 : lwFr 102 0 (lwI 1) bkx242.2.2.2.1 := lwFr_x bcx242 ⟨rfl, rfl, by decide +kernel⟩
theorem lsm28 : lwFr 212 338 (lwI 1) bkm100.2.2.2.1 := lwFr_m (X_ := bTr) (fun _ _ => trivial) bcm100 ⟨rfl, rfl, by decide +kernel⟩
theorem lsx29 : lwFr 103 0 (lwI 2) bkx243.2.2.2.1 := lwFr_x bcx243 ⟨rfl, rfl, by decide +kernel⟩
theorem lsm29 : lwFr 213 338 (lwI 2) bkm101.2.2.2.1 := lwFr_m (X_ := bTr) (fun _ _ => trivial) bcm101 ⟨rfl, rfl, by decide +kernel⟩
theorem lsx30 : lwFr 104 0 (lwI 5) bkx244.2.2.2.1 := lwFr_x bcx244 ⟨rfl, rfl, by decide +kernel⟩
theorem lsm30 : lwFr 216 338 (lwI 5) bkm102.2.2.2.1 := lwFr_m (X_ := bXm) (fun _ q => q) bcm102 ⟨rfl, rfl, by decide +kernel⟩
theorem lsx31 : lwFr 105 0 (lwI 1) bkx245.2.2.2.1 := lwFr_x bcx245 ⟨rfl, rfl, by decide +kernel⟩
theorem lsm31 : lwFr 217 338 (lwI 1) bkm103.2.2.2.1 := lwFr_m (X_ := bTr) (fun _ _ => trivial) bcm103 ⟨rfl, rfl, by decide +kernel⟩
theorem lsx32 : lwFr 106 0 (lwI 3) bkx246.2.2.2.1 := lwFr_x bcx246 ⟨rfl, rfl, by decide +kernel⟩
theorem lsm32 : lwFr 225 338 (lwI 3) bkm104.2.2.2.1 := lwFr_m (X_ := bTr) (fun _ _ => trivial) bcm104 ⟨rfl, rfl, by decide +kernel⟩
theorem lsx33 : lwFr 107 0 (lwI 1) bkx247.2.2.2.1 := lwFr_x bcx247 ⟨rfl, rfl, by decide +kernel⟩
theorem lsm33 : lwFr 226 338 (lwI 1) bkm105.2.2.2.1 := lwFr_m (X_ := bTr) (fun _ _ => trivial) bcm105 ⟨rfl, rfl, by decide +kernel⟩
theorem lsx34 : lwFr 108 0 (lwI 3) bkx248.2.2.2.1 := lwFr_x bcx248 ⟨rfl, rfl, by decide +kernel⟩
theorem lsm34 : lwFr 228 338 (lwI 3) bkm106.2.2.2.1 := lwFr_m (X_ := bTr) (fun _ _ => trivial) bcm106 ⟨rfl, rfl, by decide +kernel⟩
theorem lsx35 : lwFr 109 0 (lwI 3) bkx249.2.2.2.1 := lwFr_x bcx249 ⟨rfl, rfl, by decide +kernel⟩
theorem lsm35 : lwFr 229 338 (lwI 3) bkm107.2.2.2.1 := lwFr_m (X_ := bTr) (fun _ _ => trivial) bcm107 ⟨rfl, rfl, by decide +kernel⟩
theorem lsx36 : lwFr 110 0 (lwI 5) bkx250.2.2.2.1 := lwFr_x bcx250 ⟨rfl, rfl, by decide +kernel⟩
theorem lsm36 : lwFr 230 338 (lwI 5) bkm108.2.2.2.1 := lwFr_m (X_ := bTr) (fun _ _ => trivial) bcm108 ⟨rfl, rfl, by decide +kernel⟩
theorem lsx37 : lwFr 111 0 (lwI 2) bkx251.2.2.2.1 := lwFr_x bcx251 ⟨rfl, rfl, by decide +kernel⟩
theorem lsm37 : lwFr 231 338 (lwI 2) bkm109.2.2.2.1 := lwFr_m (X_ := bTr) (fun _ _ => trivial) bcm109 ⟨rfl, rfl, by decide +kernel⟩
theorem lsx38 : lwFr 112 0 (lwI 0) bkx252.2.2.2.1 := lwFr_x bcx252 ⟨rfl, rfl, by decide +kernel⟩
theorem lsm38 : lwFr 232 338 (lwI 0) [(338, 338, 2, 2), (340, 340, 0, 767)] := by
  obtain ⟨d, hd, H⟩ := image_ok
  refine lwFr_o (W := [(338, 338, 2, 2), (340, 340, 0, 767)]) ⟨d, hd, fun h as hp Hh hX => ?_⟩ (by decide)
  rw [lw_nil hp]
  exact H h Hh hX
theorem lsx39 : lwFr 113 0 (lwI 0) bkx253.2.2.2.1 := lwFr_x bcx253 ⟨rfl, rfl, by decide +kernel⟩
theorem lsm39 : lwFr 233 338 (lwI 0) xWR := by
  obtain ⟨d, hd, H⟩ := restore_ok
  refine lwFr_o (W := xWR) ⟨d, hd, fun h as hp Hh hX => ?_⟩ (by decide)
  rw [lw_nil hp]
  exact H h Hh hX
theorem lsx40 : lwFr 114 0 (lwI 1) bkx254.2.2.2.1 := lwFr_x bcx254 ⟨rfl, rfl, by decide +kernel⟩
theorem lsm40 : lwFr 234 338 (lwI 1) bkm112.2.2.2.1 := lwFr_m (X_ := bTr) (fun _ _ => trivial) bcm112 ⟨rfl, rfl, by decide +kernel⟩
theorem lsx41 : lwFr 115 0 (lwI 2) bkx255.2.2.2.1 := lwFr_x bcx255 ⟨rfl, rfl, by decide +kernel⟩
theorem lsm41 : lwFr 235 338 (lwI 2) bkm113.2.2.2.1 := lwFr_m (X_ := bXm) (fun _ q => q) bcm113 ⟨rfl, rfl, by decide +kernel⟩
theorem lsx42 : lwFr 116 0 (lwI 1) bkx256.2.2.2.1 := lwFr_x bcx256 ⟨rfl, rfl, by decide +kernel⟩
theorem lsm42 : lwFr 236 338 (lwI 1) bkm114.2.2.2.1 := lwFr_m (X_ := bTr) (fun _ _ => trivial) bcm114 ⟨rfl, rfl, by decide +kernel⟩
theorem lsx43 : lwFr 117 0 (lwI 1) bkx257.2.2.2.1 := lwFr_x bcx257 ⟨rfl, rfl, by decide +kernel⟩
theorem lsm43 : lwFr 237 338 (lwI 1) bkm115.2.2.2.1 := lwFr_m (X_ := bTr) (fun _ _ => trivial) bcm115 ⟨rfl, rfl, by decide +kernel⟩
