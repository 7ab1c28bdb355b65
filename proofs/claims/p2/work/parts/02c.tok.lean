-- ===== the words by numbers, each looked at once
def xwt_0_0_0_0 (p : Nat) : Option (List Nat) := bif Nat.ble p 0 then (bif Nat.beq p 0 then some [15, 118] else none) else (bif Nat.ble p 1 then (bif Nat.beq p 1 then some [15, 120] else none) else (bif Nat.beq p 2 then some [15, 119] else none))
def xwt_0_0_0_1 (p : Nat) : Option (List Nat) := bif Nat.ble p 3 then (bif Nat.beq p 3 then some [15, 121] else none) else (bif Nat.ble p 4 then (bif Nat.beq p 4 then some [15, 25] else none) else (bif Nat.beq p 5 then some [15, 26] else none))
def xwt_0_0_0_2 (p : Nat) : Option (List Nat) := bif Nat.ble p 6 then (bif Nat.beq p 6 then some [15, 23] else none) else (bif Nat.ble p 7 then (bif Nat.beq p 7 then some [15, 29] else none) else (bif Nat.beq p 8 then some [15, 27] else none))
def xwt_0_0_0_3 (p : Nat) : Option (List Nat) := bif Nat.ble p 10 then (bif Nat.ble p 9 then (bif Nat.beq p 9 then some [15, 28] else none) else (bif Nat.beq p 10 then some [15, 67] else none)) else (bif Nat.ble p 11 then (bif Nat.beq p 11 then some [15, 128] else none) else (bif Nat.beq p 12 then some [15, 129] else none))
def xwt_0_0_0 (p : Nat) : Option (List Nat) := bif Nat.ble p 5 then (bif Nat.ble p 2 then (xwt_0_0_0_0 p) else (xwt_0_0_0_1 p)) else (bif Nat.ble p 8 then (xwt_0_0_0_2 p) else (xwt_0_0_0_3 p))
def xwt_0_0_1_0 (p : Nat) : Option (List Nat) := bif Nat.ble p 13 then (bif Nat.beq p 13 then some [15, 18] else none) else (bif Nat.ble p 14 then (bif Nat.beq p 14 then some [15, 17] else none) else (bif Nat.beq p 15 then some [15, 8] else none))
def xwt_0_0_1_1 (p : Nat) : Option (List Nat) := bif Nat.ble p 16 then (bif Nat.beq p 16 then some [15, 7] else none) else (bif Nat.ble p 17 then (bif Nat.beq p 17 then some [15, 9] else none) else (bif Nat.beq p 18 then some [15, 10] else none))
def xwt_0_0_1_2 (p : Nat) : Option (List Nat) := bif Nat.ble p 19 then (bif Nat.beq p 19 then some [15, 3] else none) else (bif Nat.ble p 20 then (bif Nat.beq p 20 then some [15, 54] else none) else (bif Nat.beq p 21 then some [15, 55] else none))
def xwt_0_0_1_3 (p : Nat) : Option (List Nat) := bif Nat.ble p 23 then (bif Nat.ble p 22 then (bif Nat.beq p 22 then some [15, 135] else none) else (bif Nat.beq p 23 then some [15, 139] else none)) else (bif Nat.ble p 24 then (bif Nat.beq p 24 then some [15, 145] else none) else (bif Nat.beq p 25 then some [15, 161] else none))
def xwt_0_0_1 (p : Nat) : Option (List Nat) := bif Nat.ble p 18 then (bif Nat.ble p 15 then (xwt_0_0_1_0 p) else (xwt_0_0_1_1 p)) else (bif Nat.ble p 21 then (xwt_0_0_1_2 p) else (xwt_0_0_1_3 p))
def xwt_0_0_2_0 (p : Nat) : Option (List Nat) := bif Nat.ble p 26 then (bif Nat.beq p 26 then some [15, 164] else none) else (bif Nat.ble p 27 then (bif Nat.beq p 27 then some [15, 140] else none) else (bif Nat.beq p 28 then some [15, 141] else none))
def xwt_0_0_2_1 (p : Nat) : Option (List Nat) := bif Nat.ble p 29 then (bif Nat.beq p 29 then some [15, 176] else none) else (bif Nat.ble p 30 then (bif Nat.beq p 30 then some [15, 177] else none) else (bif Nat.beq p 31 then some [15, 178] else none))
def xwt_0_0_2_2 (p : Nat) : Option (List Nat) := bif Nat.ble p 32 then (bif Nat.beq p 32 then some [15, 179] else none) else (bif Nat.ble p 33 then (bif Nat.beq p 33 then some [15, 180] else none) else (bif Nat.beq p 34 then some [15, 182] else none))
def xwt_0_0_2_3 (p : Nat) : Option (List Nat) := bif Nat.ble p 36 then (bif Nat.ble p 35 then (bif Nat.beq p 35 then some [15, 173] else none) else (bif Nat.beq p 36 then some [15, 174] else none)) else (bif Nat.ble p 37 then (bif Nat.beq p 37 then some [15, 175] else none) else (bif Nat.beq p 38 then some [15, 181] else none))
def xwt_0_0_2 (p : Nat) : Option (List Nat) := bif Nat.ble p 31 then (bif Nat.ble p 28 then (xwt_0_0_2_0 p) else (xwt_0_0_2_1 p)) else (bif Nat.ble p 34 then (xwt_0_0_2_2 p) else (xwt_0_0_2_3 p))
def xwt_0_0_3_0 (p : Nat) : Option (List Nat) := bif Nat.ble p 39 then (bif Nat.beq p 39 then some [15, 183] else none) else (bif Nat.ble p 40 then (bif Nat.beq p 40 then some [15, 152] else none) else (bif Nat.beq p 41 then some [15, 156] else none))
def xwt_0_0_3_1 (p : Nat) : Option (List Nat) := bif Nat.ble p 43 then (bif Nat.ble p 42 then (bif Nat.beq p 42 then some [15, 155] else none) else (bif Nat.beq p 43 then some [15, 151] else none)) else (bif Nat.ble p 44 then (bif Nat.beq p 44 then some [15, 147] else none) else (bif Nat.beq p 45 then some [15, 149] else none))
def xwt_0_0_3_2 (p : Nat) : Option (List Nat) := bif Nat.ble p 46 then (bif Nat.beq p 46 then some [15, 150] else none) else (bif Nat.ble p 47 then (bif Nat.beq p 47 then some [15, 187] else none) else (bif Nat.beq p 48 then some [15, 146] else none))
def xwt_0_0_3_3 (p : Nat) : Option (List Nat) := bif Nat.ble p 50 then (bif Nat.ble p 49 then (bif Nat.beq p 49 then some [15, 192] else none) else (bif Nat.beq p 50 then some [15, 157] else none)) else (bif Nat.ble p 51 then (bif Nat.beq p 51 then some [15, 158] else none) else (bif Nat.beq p 52 then some [15, 196] else none))
def xwt_0_0_3 (p : Nat) : Option (List Nat) := bif Nat.ble p 45 then (bif Nat.ble p 41 then (xwt_0_0_3_0 p) else (xwt_0_0_3_1 p)) else (bif Nat.ble p 48 then (xwt_0_0_3_2 p) else (xwt_0_0_3_3 p))
def xwt_0_0 (p : Nat) : Option (List Nat) := bif Nat.ble p 25 then (bif Nat.ble p 12 then (xwt_0_0_0 p) else (xwt_0_0_1 p)) else (bif Nat.ble p 38 then (xwt_0_0_2 p) else (xwt_0_0_3 p))
def xwt_0_1_0_0 (p : Nat) : Option (List Nat) := bif Nat.ble p 53 then (bif Nat.beq p 53 then some [15, 198] else none) else (bif Nat.ble p 54 then (bif Nat.beq p 54 then some [15, 205] else none) else (bif Nat.beq p 55 then some [15, 204] else none))
def xwt_0_1_0_1 (p : Nat) : Option (List Nat) := bif Nat.ble p 56 then (bif Nat.beq p 56 then some [15, 202] else none) else (bif Nat.ble p 57 then (bif Nat.beq p 57 then some [15, 203] else none) else (bif Nat.beq p 58 then some [15, 210] else none))
def xwt_0_1_0_2 (p : Nat) : Option (List Nat) := bif Nat.ble p 59 then (bif Nat.beq p 59 then some [15, 209] else none) else (bif Nat.ble p 60 then (bif Nat.beq p 60 then some [15, 215] else none) else (bif Nat.beq p 61 then some [15, 214] else none))
def xwt_0_1_0_3 (p : Nat) : Option (List Nat) := bif Nat.ble p 63 then (bif Nat.ble p 62 then (bif Nat.beq p 62 then some [15, 220] else none) else (bif Nat.beq p 63 then some [15, 221] else none)) else (bif Nat.ble p 64 then (bif Nat.beq p 64 then some [15, 218] else none) else (bif Nat.beq p 65 then some [15, 222] else none))
def xwt_0_1_0 (p : Nat) : Option (List Nat) := bif Nat.ble p 58 then (bif Nat.ble p 55 then (xwt_0_1_0_0 p) else (xwt_0_1_0_1 p)) else (bif Nat.ble p 61 then (xwt_0_1_0_2 p) else (xwt_0_1_0_3 p))
def xwt_0_1_1_0 (p : Nat) : Option (List Nat) := bif Nat.ble p 66 then (bif Nat.beq p 66 then some [15, 223] else none) else (bif Nat.ble p 67 then (bif Nat.beq p 67 then some [15, 224] else none) else (bif Nat.beq p 69 then some [5, 11] else none))
def xwt_0_1_1_1 (p : Nat) : Option (List Nat) := bif Nat.ble p 70 then (bif Nat.beq p 70 then some [5, 10] else none) else (bif Nat.ble p 71 then (bif Nat.beq p 71 then some [5, 6] else none) else (bif Nat.beq p 73 then some [5, 2] else none))
def xwt_0_1_1_2 (p : Nat) : Option (List Nat) := bif Nat.ble p 74 then (bif Nat.beq p 74 then some [5, 5] else none) else (bif Nat.ble p 75 then (bif Nat.beq p 75 then some [5, 9] else none) else (bif Nat.beq p 76 then some [5, 4] else none))
def xwt_0_1_1_3 (p : Nat) : Option (List Nat) := bif Nat.ble p 78 then (bif Nat.ble p 77 then (bif Nat.beq p 77 then some [5, 1] else none) else (bif Nat.beq p 78 then some [5, 3] else none)) else (bif Nat.ble p 79 then (bif Nat.beq p 79 then some [5, 0] else none) else (bif Nat.beq p 80 then some [5, 8] else none))
def xwt_0_1_1 (p : Nat) : Option (List Nat) := bif Nat.ble p 73 then (bif Nat.ble p 69 then (xwt_0_1_1_0 p) else (xwt_0_1_1_1 p)) else (bif Nat.ble p 76 then (xwt_0_1_1_2 p) else (xwt_0_1_1_3 p))
def xwt_0_1_2_0 (p : Nat) : Option (List Nat) := bif Nat.ble p 81 then (bif Nat.beq p 81 then some [5, 7] else none) else (bif Nat.ble p 82 then (bif Nat.beq p 82 then some [5, 12] else none) else (bif Nat.beq p 89 then some [5, 14] else none))
def xwt_0_1_2_1 (p : Nat) : Option (List Nat) := bif Nat.ble p 92 then (bif Nat.beq p 92 then some [0, 13, 9, 73] else none) else (bif Nat.ble p 93 then (bif Nat.beq p 93 then some [13, 73] else none) else (bif Nat.beq p 100 then some [0, 11, 9, 62] else none))
def xwt_0_1_2_2 (p : Nat) : Option (List Nat) := bif Nat.ble p 101 then (bif Nat.beq p 101 then some [13, 62] else none) else (bif Nat.ble p 111 then (bif Nat.beq p 111 then some [0, 10, 29, 36] else none) else (bif Nat.beq p 112 then some [13, 36] else none))
def xwt_0_1_2_3 (p : Nat) : Option (List Nat) := bif Nat.ble p 119 then (bif Nat.ble p 118 then (bif Nat.beq p 118 then some [1, 6, 19, 6, 0] else none) else (bif Nat.beq p 119 then some [1, 1, 30, 6, 0] else none)) else (bif Nat.ble p 120 then (bif Nat.beq p 120 then some [1, 4, 43, 6, 0] else none) else (bif Nat.beq p 121 then some [1, 9, 28, 6, 0] else none))
def xwt_0_1_2 (p : Nat) : Option (List Nat) := bif Nat.ble p 100 then (bif Nat.ble p 89 then (xwt_0_1_2_0 p) else (xwt_0_1_2_1 p)) else (bif Nat.ble p 112 then (xwt_0_1_2_2 p) else (xwt_0_1_2_3 p))
def xwt_0_1_3_0 (p : Nat) : Option (List Nat) := bif Nat.ble p 122 then (bif Nat.beq p 122 then some [1, 0, 66, 6, 0] else none) else (bif Nat.ble p 123 then (bif Nat.beq p 123 then some [1, 3, 63, 6, 0] else none) else (bif Nat.beq p 124 then some [1, 10, 128, 6, 0] else none))
def xwt_0_1_3_1 (p : Nat) : Option (List Nat) := bif Nat.ble p 126 then (bif Nat.ble p 125 then (bif Nat.beq p 125 then some [1, 11, 221, 6, 0] else none) else (bif Nat.beq p 126 then some [1, 6, 7, 6, 1] else none)) else (bif Nat.ble p 127 then (bif Nat.beq p 127 then some [1, 9, 24, 6, 1] else none) else (bif Nat.beq p 128 then some [1, 1, 27, 6, 1] else none))
def xwt_0_1_3_2 (p : Nat) : Option (List Nat) := bif Nat.ble p 129 then (bif Nat.beq p 129 then some [1, 4, 40, 6, 1] else none) else (bif Nat.ble p 130 then (bif Nat.beq p 130 then some [1, 11, 114, 6, 1] else none) else (bif Nat.beq p 131 then some [1, 0, 63, 6, 1] else none))
def xwt_0_1_3_3 (p : Nat) : Option (List Nat) := bif Nat.ble p 133 then (bif Nat.ble p 132 then (bif Nat.beq p 132 then some [1, 10, 94, 6, 1] else none) else (bif Nat.beq p 133 then some [1, 3, 62, 6, 1] else none)) else (bif Nat.ble p 142 then (bif Nat.beq p 142 then some [0, 10, 50, 11] else none) else (bif Nat.beq p 143 then some [13, 11] else none))
def xwt_0_1_3 (p : Nat) : Option (List Nat) := bif Nat.ble p 128 then (bif Nat.ble p 124 then (xwt_0_1_3_0 p) else (xwt_0_1_3_1 p)) else (bif Nat.ble p 131 then (xwt_0_1_3_2 p) else (xwt_0_1_3_3 p))
def xwt_0_1 (p : Nat) : Option (List Nat) := bif Nat.ble p 80 then (bif Nat.ble p 65 then (xwt_0_1_0 p) else (xwt_0_1_1 p)) else (bif Nat.ble p 121 then (xwt_0_1_2 p) else (xwt_0_1_3 p))
def xwt_0_2_0_0 (p : Nat) : Option (List Nat) := bif Nat.ble p 147 then (bif Nat.beq p 147 then some [0, 2, 24, 36] else none) else (bif Nat.ble p 148 then (bif Nat.beq p 148 then some [1, 2, 11, 2, 0] else none) else (bif Nat.beq p 149 then some [1, 2, 17, 2, 1] else none))
def xwt_0_2_0_1 (p : Nat) : Option (List Nat) := bif Nat.ble p 150 then (bif Nat.beq p 150 then some [1, 2, 21, 2, 2] else none) else (bif Nat.ble p 151 then (bif Nat.beq p 151 then some [1, 11, 357, 2, 2] else none) else (bif Nat.beq p 161 then some [13, 31] else none))
def xwt_0_2_0_2 (p : Nat) : Option (List Nat) := bif Nat.ble p 164 then (bif Nat.beq p 164 then some [1, 5, 9, 5, 0] else none) else (bif Nat.ble p 165 then (bif Nat.beq p 165 then some [1, 8, 34, 5, 0] else none) else (bif Nat.beq p 166 then some [1, 10, 101, 5, 0] else none))
def xwt_0_2_0_3 (p : Nat) : Option (List Nat) := bif Nat.ble p 168 then (bif Nat.ble p 167 then (bif Nat.beq p 167 then some [1, 11, 144, 5, 0] else none) else (bif Nat.beq p 168 then some [1, 5, 15, 5, 1] else none)) else (bif Nat.ble p 169 then (bif Nat.beq p 169 then some [1, 8, 37, 5, 1] else none) else (bif Nat.beq p 170 then some [1, 10, 114, 5, 1] else none))
def xwt_0_2_0 (p : Nat) : Option (List Nat) := bif Nat.ble p 161 then (bif Nat.ble p 149 then (xwt_0_2_0_0 p) else (xwt_0_2_0_1 p)) else (bif Nat.ble p 166 then (xwt_0_2_0_2 p) else (xwt_0_2_0_3 p))
def xwt_0_2_1_0 (p : Nat) : Option (List Nat) := bif Nat.ble p 171 then (bif Nat.beq p 171 then some [1, 11, 149, 5, 1] else none) else (bif Nat.ble p 172 then (bif Nat.beq p 172 then some [1, 5, 18, 5, 2] else none) else (bif Nat.beq p 173 then some [1, 11, 152, 5, 2] else none))
def xwt_0_2_1_1 (p : Nat) : Option (List Nat) := bif Nat.ble p 183 then (bif Nat.beq p 183 then some [13, 57] else none) else (bif Nat.ble p 187 then (bif Nat.beq p 187 then some [0, 9, 11, 36] else none) else (bif Nat.beq p 188 then some [1, 9, 14, 9, 0] else none))
def xwt_0_2_1_2 (p : Nat) : Option (List Nat) := bif Nat.ble p 189 then (bif Nat.beq p 189 then some [1, 10, 84, 9, 0] else none) else (bif Nat.ble p 190 then (bif Nat.beq p 190 then some [1, 11, 193, 9, 0] else none) else (bif Nat.beq p 191 then some [1, 9, 20, 9, 1] else none))
def xwt_0_2_1_3 (p : Nat) : Option (List Nat) := bif Nat.ble p 198 then (bif Nat.ble p 197 then (bif Nat.beq p 197 then some [1, 10, 11, 10, 0] else none) else (bif Nat.beq p 198 then some [1, 11, 98, 10, 0] else none)) else (bif Nat.ble p 199 then (bif Nat.beq p 199 then some [1, 10, 19, 10, 1] else none) else (bif Nat.beq p 200 then some [1, 3, 41, 10, 1] else none))
def xwt_0_2_1 (p : Nat) : Option (List Nat) := bif Nat.ble p 188 then (bif Nat.ble p 173 then (xwt_0_2_1_0 p) else (xwt_0_2_1_1 p)) else (bif Nat.ble p 191 then (xwt_0_2_1_2 p) else (xwt_0_2_1_3 p))
def xwt_0_2_2_0 (p : Nat) : Option (List Nat) := bif Nat.ble p 201 then (bif Nat.beq p 201 then some [1, 11, 140, 10, 1] else none) else (bif Nat.ble p 202 then (bif Nat.beq p 202 then some [1, 10, 25, 10, 2] else none) else (bif Nat.beq p 203 then some [1, 11, 189, 10, 2] else none))
def xwt_0_2_2_1 (p : Nat) : Option (List Nat) := bif Nat.ble p 204 then (bif Nat.beq p 204 then some [1, 10, 32, 10, 3] else none) else (bif Nat.ble p 205 then (bif Nat.beq p 205 then some [1, 11, 175, 10, 3] else none) else (bif Nat.beq p 206 then some [1, 10, 36, 10, 4] else none))
def xwt_0_2_2_2 (p : Nat) : Option (List Nat) := bif Nat.ble p 207 then (bif Nat.beq p 207 then some [1, 11, 354, 10, 4] else none) else (bif Nat.ble p 208 then (bif Nat.beq p 208 then some [1, 10, 39, 10, 5] else none) else (bif Nat.beq p 209 then some [1, 10, 42, 10, 6] else none))
def xwt_0_2_2_3 (p : Nat) : Option (List Nat) := bif Nat.ble p 211 then (bif Nat.ble p 210 then (bif Nat.beq p 210 then some [1, 10, 45, 10, 7] else none) else (bif Nat.beq p 211 then some [1, 11, 264, 10, 7] else none)) else (bif Nat.ble p 212 then (bif Nat.beq p 212 then some [1, 10, 51, 10, 8] else none) else (bif Nat.beq p 213 then some [1, 11, 280, 10, 8] else none))
def xwt_0_2_2 (p : Nat) : Option (List Nat) := bif Nat.ble p 206 then (bif Nat.ble p 203 then (xwt_0_2_2_0 p) else (xwt_0_2_2_1 p)) else (bif Nat.ble p 209 then (xwt_0_2_2_2 p) else (xwt_0_2_2_3 p))
def xwt_0_2_3_0 (p : Nat) : Option (List Nat) := bif Nat.ble p 214 then (bif Nat.beq p 214 then some [1, 10, 55, 10, 9] else none) else (bif Nat.ble p 215 then (bif Nat.beq p 215 then some [1, 11, 91, 10, 9] else none) else (bif Nat.beq p 216 then some [1, 10, 59, 10, 10] else none))
def xwt_0_2_3_1 (p : Nat) : Option (List Nat) := bif Nat.ble p 218 then (bif Nat.ble p 217 then (bif Nat.beq p 217 then some [1, 3, 36, 10, 10] else none) else (bif Nat.beq p 218 then some [1, 11, 137, 10, 10] else none)) else (bif Nat.ble p 219 then (bif Nat.beq p 219 then some [1, 10, 62, 10, 11] else none) else (bif Nat.beq p 220 then some [1, 11, 267, 10, 11] else none))
def xwt_0_2_3_2 (p : Nat) : Option (List Nat) := bif Nat.ble p 221 then (bif Nat.beq p 221 then some [1, 10, 65, 10, 12] else none) else (bif Nat.ble p 222 then (bif Nat.beq p 222 then some [1, 11, 257, 10, 12] else none) else (bif Nat.beq p 223 then some [1, 10, 68, 10, 13] else none))
def xwt_0_2_3_3 (p : Nat) : Option (List Nat) := bif Nat.ble p 225 then (bif Nat.ble p 224 then (bif Nat.beq p 224 then some [1, 11, 309, 10, 13] else none) else (bif Nat.beq p 225 then some [1, 10, 71, 10, 14] else none)) else (bif Nat.ble p 260 then (bif Nat.beq p 260 then some [13, 21] else none) else (bif Nat.beq p 264 then some [0, 4, 11, 36] else none))
def xwt_0_2_3 (p : Nat) : Option (List Nat) := bif Nat.ble p 220 then (bif Nat.ble p 216 then (xwt_0_2_3_0 p) else (xwt_0_2_3_1 p)) else (bif Nat.ble p 223 then (xwt_0_2_3_2 p) else (xwt_0_2_3_3 p))
def xwt_0_2 (p : Nat) : Option (List Nat) := bif Nat.ble p 200 then (bif Nat.ble p 170 then (xwt_0_2_0 p) else (xwt_0_2_1 p)) else (bif Nat.ble p 213 then (xwt_0_2_2 p) else (xwt_0_2_3 p))
def xwt_0_3_0_0 (p : Nat) : Option (List Nat) := bif Nat.ble p 266 then (bif Nat.beq p 266 then some [1, 4, 14, 4, 0] else none) else (bif Nat.ble p 267 then (bif Nat.beq p 267 then some [1, 11, 198, 4, 0] else none) else (bif Nat.beq p 268 then some [1, 4, 20, 4, 1] else none))
def xwt_0_3_0_1 (p : Nat) : Option (List Nat) := bif Nat.ble p 269 then (bif Nat.beq p 269 then some [1, 4, 25, 4, 2] else none) else (bif Nat.ble p 270 then (bif Nat.beq p 270 then some [1, 4, 29, 4, 3] else none) else (bif Nat.beq p 284 then some [13, 4] else none))
def xwt_0_3_0_2 (p : Nat) : Option (List Nat) := bif Nat.ble p 288 then (bif Nat.beq p 288 then some [0, 1, 11, 36] else none) else (bif Nat.ble p 289 then (bif Nat.beq p 289 then some [1, 1, 14, 1, 0] else none) else (bif Nat.beq p 290 then some [1, 1, 20, 1, 1] else none))
def xwt_0_3_0_3 (p : Nat) : Option (List Nat) := bif Nat.ble p 301 then (bif Nat.ble p 291 then (bif Nat.beq p 291 then some [1, 1, 24, 1, 2] else none) else (bif Nat.beq p 301 then some [0, 11, 35, 15] else none)) else (bif Nat.ble p 302 then (bif Nat.beq p 302 then some [13, 15] else none) else (bif Nat.beq p 306 then some [0, 3, 17, 36] else none))
def xwt_0_3_0 (p : Nat) : Option (List Nat) := bif Nat.ble p 284 then (bif Nat.ble p 268 then (xwt_0_3_0_0 p) else (xwt_0_3_0_1 p)) else (bif Nat.ble p 290 then (xwt_0_3_0_2 p) else (xwt_0_3_0_3 p))
def xwt_0_3_1_0 (p : Nat) : Option (List Nat) := bif Nat.ble p 307 then (bif Nat.beq p 307 then some [1, 3, 11, 3, 0] else none) else (bif Nat.ble p 308 then (bif Nat.beq p 308 then some [1, 3, 20, 3, 1] else none) else (bif Nat.beq p 309 then some [1, 3, 24, 3, 2] else none))
def xwt_0_3_1_1 (p : Nat) : Option (List Nat) := bif Nat.ble p 321 then (bif Nat.ble p 310 then (bif Nat.beq p 310 then some [1, 11, 243, 3, 2] else none) else (bif Nat.beq p 321 then some [13, 0] else none)) else (bif Nat.ble p 325 then (bif Nat.beq p 325 then some [0, 0, 11, 36] else none) else (bif Nat.beq p 326 then some [1, 0, 14, 0, 0] else none))
def xwt_0_3_1_2 (p : Nat) : Option (List Nat) := bif Nat.ble p 327 then (bif Nat.beq p 327 then some [1, 0, 20, 0, 1] else none) else (bif Nat.ble p 328 then (bif Nat.beq p 328 then some [1, 0, 23, 0, 2] else none) else (bif Nat.beq p 329 then some [1, 11, 297, 0, 2] else none))
def xwt_0_3_1_3 (p : Nat) : Option (List Nat) := bif Nat.ble p 331 then (bif Nat.ble p 330 then (bif Nat.beq p 330 then some [1, 0, 27, 0, 3] else none) else (bif Nat.beq p 331 then some [1, 11, 300, 0, 3] else none)) else (bif Nat.ble p 332 then (bif Nat.beq p 332 then some [1, 0, 30, 0, 4] else none) else (bif Nat.beq p 333 then some [1, 11, 303, 0, 4] else none))
def xwt_0_3_1 (p : Nat) : Option (List Nat) := bif Nat.ble p 326 then (bif Nat.ble p 309 then (xwt_0_3_1_0 p) else (xwt_0_3_1_1 p)) else (bif Nat.ble p 329 then (xwt_0_3_1_2 p) else (xwt_0_3_1_3 p))
def xwt_0_3_2_0 (p : Nat) : Option (List Nat) := bif Nat.ble p 334 then (bif Nat.beq p 334 then some [1, 0, 33, 0, 5] else none) else (bif Nat.ble p 335 then (bif Nat.beq p 335 then some [1, 11, 306, 0, 5] else none) else (bif Nat.beq p 336 then some [1, 0, 36, 0, 6] else none))
def xwt_0_3_2_1 (p : Nat) : Option (List Nat) := bif Nat.ble p 337 then (bif Nat.beq p 337 then some [1, 0, 39, 0, 7] else none) else (bif Nat.ble p 358 then (bif Nat.beq p 358 then some [13, 52] else none) else (bif Nat.beq p 362 then some [0, 8, 11, 36] else none))
def xwt_0_3_2_2 (p : Nat) : Option (List Nat) := bif Nat.ble p 363 then (bif Nat.beq p 363 then some [1, 8, 14, 8, 0] else none) else (bif Nat.ble p 364 then (bif Nat.beq p 364 then some [1, 11, 320, 8, 0] else none) else (bif Nat.beq p 365 then some [1, 8, 20, 8, 1] else none))
def xwt_0_3_2_3 (p : Nat) : Option (List Nat) := bif Nat.ble p 367 then (bif Nat.ble p 366 then (bif Nat.beq p 366 then some [1, 11, 316, 8, 1] else none) else (bif Nat.beq p 367 then some [1, 8, 24, 8, 2] else none)) else (bif Nat.ble p 368 then (bif Nat.beq p 368 then some [1, 8, 28, 8, 3] else none) else (bif Nat.beq p 369 then some [1, 8, 31, 8, 4] else none))
def xwt_0_3_2 (p : Nat) : Option (List Nat) := bif Nat.ble p 362 then (bif Nat.ble p 336 then (xwt_0_3_2_0 p) else (xwt_0_3_2_1 p)) else (bif Nat.ble p 365 then (xwt_0_3_2_2 p) else (xwt_0_3_2_3 p))
def xwt_0_3_3_0 (p : Nat) : Option (List Nat) := bif Nat.ble p 384 then (bif Nat.beq p 384 then some [0, 11, 62, 36] else none) else (bif Nat.ble p 387 then (bif Nat.beq p 387 then some [13, 47] else none) else (bif Nat.beq p 390 then some [1, 7, 9, 7, 0] else none))
def xwt_0_3_3_1 (p : Nat) : Option (List Nat) := bif Nat.ble p 392 then (bif Nat.ble p 391 then (bif Nat.beq p 391 then some [1, 11, 333, 7, 0] else none) else (bif Nat.beq p 392 then some [1, 7, 15, 7, 1] else none)) else (bif Nat.ble p 393 then (bif Nat.beq p 393 then some [1, 11, 339, 7, 1] else none) else (bif Nat.beq p 394 then some [1, 7, 19, 7, 2] else none))
def xwt_0_3_3_2 (p : Nat) : Option (List Nat) := bif Nat.ble p 395 then (bif Nat.beq p 395 then some [1, 11, 332, 7, 2] else none) else (bif Nat.ble p 403 then (bif Nat.beq p 403 then some [1, 11, 10, 11, 0] else none) else (bif Nat.beq p 404 then some [1, 11, 16, 11, 1] else none))
def xwt_0_3_3_3 (p : Nat) : Option (List Nat) := bif Nat.ble p 406 then (bif Nat.ble p 405 then (bif Nat.beq p 405 then some [1, 11, 22, 11, 2] else none) else (bif Nat.beq p 406 then some [1, 11, 29, 11, 3] else none)) else (bif Nat.ble p 407 then (bif Nat.beq p 407 then some [1, 11, 36, 11, 4] else none) else (bif Nat.beq p 408 then some [1, 11, 43, 11, 5] else none))
def xwt_0_3_3 (p : Nat) : Option (List Nat) := bif Nat.ble p 394 then (bif Nat.ble p 390 then (xwt_0_3_3_0 p) else (xwt_0_3_3_1 p)) else (bif Nat.ble p 404 then (xwt_0_3_3_2 p) else (xwt_0_3_3_3 p))
def xwt_0_3 (p : Nat) : Option (List Nat) := bif Nat.ble p 333 then (bif Nat.ble p 306 then (xwt_0_3_0 p) else (xwt_0_3_1 p)) else (bif Nat.ble p 369 then (xwt_0_3_2 p) else (xwt_0_3_3 p))
def xwt_0 (p : Nat) : Option (List Nat) := bif Nat.ble p 143 then (bif Nat.ble p 52 then (xwt_0_0 p) else (xwt_0_1 p)) else (bif Nat.ble p 264 then (xwt_0_2 p) else (xwt_0_3 p))
def xwt_1_0_0_0 (p : Nat) : Option (List Nat) := bif Nat.ble p 409 then (bif Nat.beq p 409 then some [1, 11, 50, 11, 6] else none) else (bif Nat.ble p 410 then (bif Nat.beq p 410 then some [1, 11, 56, 11, 7] else none) else (bif Nat.beq p 411 then some [1, 11, 65, 11, 8] else none))
def xwt_1_0_0_1 (p : Nat) : Option (List Nat) := bif Nat.ble p 412 then (bif Nat.beq p 412 then some [1, 11, 69, 11, 9] else none) else (bif Nat.ble p 413 then (bif Nat.beq p 413 then some [1, 11, 72, 11, 10] else none) else (bif Nat.beq p 414 then some [1, 11, 75, 11, 11] else none))
def xwt_1_0_0_2 (p : Nat) : Option (List Nat) := bif Nat.ble p 415 then (bif Nat.beq p 415 then some [1, 11, 78, 11, 12] else none) else (bif Nat.ble p 416 then (bif Nat.beq p 416 then some [1, 11, 82, 11, 13] else none) else (bif Nat.beq p 417 then some [1, 11, 86, 11, 14] else none))
def xwt_1_0_0_3 (p : Nat) : Option (List Nat) := bif Nat.ble p 450 then (bif Nat.ble p 449 then (bif Nat.beq p 449 then some [0, 13, 13, 74] else none) else (bif Nat.beq p 450 then some [13, 74] else none)) else (bif Nat.ble p 451 then (bif Nat.beq p 451 then some [15, 74] else none) else (bif Nat.beq p 453 then some [0, 11, 94, 118] else none))
def xwt_1_0_0 (p : Nat) : Option (List Nat) := bif Nat.ble p 414 then (bif Nat.ble p 411 then (xwt_1_0_0_0 p) else (xwt_1_0_0_1 p)) else (bif Nat.ble p 417 then (xwt_1_0_0_2 p) else (xwt_1_0_0_3 p))
def xwt_1_0_1_0 (p : Nat) : Option (List Nat) := bif Nat.ble p 455 then (bif Nat.beq p 455 then some [13, 118] else none) else (bif Nat.ble p 458 then (bif Nat.beq p 458 then some [0, 11, 101, 37] else none) else (bif Nat.beq p 459 then some [13, 37] else none))
def xwt_1_0_1_1 (p : Nat) : Option (List Nat) := bif Nat.ble p 460 then (bif Nat.beq p 460 then some [15, 37] else none) else (bif Nat.ble p 462 then (bif Nat.beq p 462 then some [0, 13, 18, 75] else none) else (bif Nat.beq p 463 then some [13, 75] else none))
def xwt_1_0_1_2 (p : Nat) : Option (List Nat) := bif Nat.ble p 464 then (bif Nat.beq p 464 then some [15, 75] else none) else (bif Nat.ble p 466 then (bif Nat.beq p 466 then some [0, 11, 104, 120] else none) else (bif Nat.beq p 468 then some [13, 120] else none))
def xwt_1_0_1_3 (p : Nat) : Option (List Nat) := bif Nat.ble p 471 then (bif Nat.ble p 470 then (bif Nat.beq p 470 then some [0, 11, 108, 130] else none) else (bif Nat.beq p 471 then some [14, 130] else none)) else (bif Nat.ble p 473 then (bif Nat.beq p 473 then some [0, 11, 111, 38] else none) else (bif Nat.beq p 474 then some [13, 38] else none))
def xwt_1_0_1 (p : Nat) : Option (List Nat) := bif Nat.ble p 463 then (bif Nat.ble p 459 then (xwt_1_0_1_0 p) else (xwt_1_0_1_1 p)) else (bif Nat.ble p 468 then (xwt_1_0_1_2 p) else (xwt_1_0_1_3 p))
def xwt_1_0_2_0 (p : Nat) : Option (List Nat) := bif Nat.ble p 475 then (bif Nat.beq p 475 then some [15, 38] else none) else (bif Nat.ble p 477 then (bif Nat.beq p 477 then some [0, 13, 23, 76] else none) else (bif Nat.beq p 478 then some [13, 76] else none))
def xwt_1_0_2_1 (p : Nat) : Option (List Nat) := bif Nat.ble p 479 then (bif Nat.beq p 479 then some [15, 76] else none) else (bif Nat.ble p 481 then (bif Nat.beq p 481 then some [0, 11, 117, 119] else none) else (bif Nat.beq p 483 then some [13, 119] else none))
def xwt_1_0_2_2 (p : Nat) : Option (List Nat) := bif Nat.ble p 485 then (bif Nat.beq p 485 then some [0, 13, 27, 77] else none) else (bif Nat.ble p 486 then (bif Nat.beq p 486 then some [13, 77] else none) else (bif Nat.beq p 487 then some [15, 77] else none))
def xwt_1_0_2_3 (p : Nat) : Option (List Nat) := bif Nat.ble p 490 then (bif Nat.ble p 489 then (bif Nat.beq p 489 then some [0, 13, 32, 78] else none) else (bif Nat.beq p 490 then some [13, 78] else none)) else (bif Nat.ble p 491 then (bif Nat.beq p 491 then some [15, 78] else none) else (bif Nat.beq p 493 then some [0, 11, 121, 64] else none))
def xwt_1_0_2 (p : Nat) : Option (List Nat) := bif Nat.ble p 483 then (bif Nat.ble p 478 then (xwt_1_0_2_0 p) else (xwt_1_0_2_1 p)) else (bif Nat.ble p 487 then (xwt_1_0_2_2 p) else (xwt_1_0_2_3 p))
def xwt_1_0_3_0 (p : Nat) : Option (List Nat) := bif Nat.ble p 494 then (bif Nat.beq p 494 then some [13, 64] else none) else (bif Nat.ble p 495 then (bif Nat.beq p 495 then some [15, 64] else none) else (bif Nat.beq p 498 then some [0, 11, 125, 132] else none))
def xwt_1_0_3_1 (p : Nat) : Option (List Nat) := bif Nat.ble p 501 then (bif Nat.ble p 499 then (bif Nat.beq p 499 then some [14, 132] else none) else (bif Nat.beq p 501 then some [0, 11, 128, 42] else none)) else (bif Nat.ble p 502 then (bif Nat.beq p 502 then some [13, 42] else none) else (bif Nat.beq p 503 then some [15, 42] else none))
def xwt_1_0_3_2 (p : Nat) : Option (List Nat) := bif Nat.ble p 506 then (bif Nat.beq p 506 then some [14, 133] else none) else (bif Nat.ble p 508 then (bif Nat.beq p 508 then some [0, 13, 36, 79] else none) else (bif Nat.beq p 509 then some [13, 79] else none))
def xwt_1_0_3_3 (p : Nat) : Option (List Nat) := bif Nat.ble p 512 then (bif Nat.ble p 510 then (bif Nat.beq p 510 then some [15, 79] else none) else (bif Nat.beq p 512 then some [0, 11, 131, 133] else none)) else (bif Nat.ble p 513 then (bif Nat.beq p 513 then some [0, 13, 40, 80] else none) else (bif Nat.beq p 514 then some [13, 80] else none))
def xwt_1_0_3 (p : Nat) : Option (List Nat) := bif Nat.ble p 503 then (bif Nat.ble p 498 then (xwt_1_0_3_0 p) else (xwt_1_0_3_1 p)) else (bif Nat.ble p 509 then (xwt_1_0_3_2 p) else (xwt_1_0_3_3 p))
def xwt_1_0 (p : Nat) : Option (List Nat) := bif Nat.ble p 474 then (bif Nat.ble p 453 then (xwt_1_0_0 p) else (xwt_1_0_1 p)) else (bif Nat.ble p 493 then (xwt_1_0_2 p) else (xwt_1_0_3 p))
def xwt_1_1_0_0 (p : Nat) : Option (List Nat) := bif Nat.ble p 515 then (bif Nat.beq p 515 then some [15, 80] else none) else (bif Nat.ble p 517 then (bif Nat.beq p 517 then some [0, 11, 134, 124] else none) else (bif Nat.beq p 518 then some [14, 124] else none))
def xwt_1_1_0_1 (p : Nat) : Option (List Nat) := bif Nat.ble p 520 then (bif Nat.beq p 520 then some [0, 13, 44, 81] else none) else (bif Nat.ble p 521 then (bif Nat.beq p 521 then some [13, 81] else none) else (bif Nat.beq p 522 then some [15, 81] else none))
def xwt_1_1_0_2 (p : Nat) : Option (List Nat) := bif Nat.ble p 524 then (bif Nat.beq p 524 then some [0, 11, 155, 121] else none) else (bif Nat.ble p 526 then (bif Nat.beq p 526 then some [13, 121] else none) else (bif Nat.beq p 528 then some [0, 11, 158, 32] else none))
def xwt_1_1_0_3 (p : Nat) : Option (List Nat) := bif Nat.ble p 530 then (bif Nat.ble p 529 then (bif Nat.beq p 529 then some [13, 32] else none) else (bif Nat.beq p 530 then some [15, 32] else none)) else (bif Nat.ble p 532 then (bif Nat.beq p 532 then some [0, 13, 48, 82] else none) else (bif Nat.beq p 533 then some [13, 82] else none))
def xwt_1_1_0 (p : Nat) : Option (List Nat) := bif Nat.ble p 522 then (bif Nat.ble p 518 then (xwt_1_1_0_0 p) else (xwt_1_1_0_1 p)) else (bif Nat.ble p 528 then (xwt_1_1_0_2 p) else (xwt_1_1_0_3 p))
def xwt_1_1_1_0 (p : Nat) : Option (List Nat) := bif Nat.ble p 534 then (bif Nat.beq p 534 then some [15, 82] else none) else (bif Nat.ble p 536 then (bif Nat.beq p 536 then some [0, 11, 161, 123] else none) else (bif Nat.beq p 537 then some [14, 123] else none))
def xwt_1_1_1_1 (p : Nat) : Option (List Nat) := bif Nat.ble p 539 then (bif Nat.beq p 539 then some [0, 11, 164, 127] else none) else (bif Nat.ble p 540 then (bif Nat.beq p 540 then some [14, 127] else none) else (bif Nat.beq p 544 then some [0, 13, 52, 83] else none))
def xwt_1_1_1_2 (p : Nat) : Option (List Nat) := bif Nat.ble p 545 then (bif Nat.beq p 545 then some [13, 83] else none) else (bif Nat.ble p 546 then (bif Nat.beq p 546 then some [15, 83] else none) else (bif Nat.beq p 548 then some [0, 11, 168, 126] else none))
def xwt_1_1_1_3 (p : Nat) : Option (List Nat) := bif Nat.ble p 551 then (bif Nat.ble p 549 then (bif Nat.beq p 549 then some [14, 126] else none) else (bif Nat.beq p 551 then some [0, 11, 171, 33] else none)) else (bif Nat.ble p 552 then (bif Nat.beq p 552 then some [13, 33] else none) else (bif Nat.beq p 553 then some [15, 33] else none))
def xwt_1_1_1 (p : Nat) : Option (List Nat) := bif Nat.ble p 544 then (bif Nat.ble p 537 then (xwt_1_1_1_0 p) else (xwt_1_1_1_1 p)) else (bif Nat.ble p 548 then (xwt_1_1_1_2 p) else (xwt_1_1_1_3 p))
def xwt_1_1_2_0 (p : Nat) : Option (List Nat) := bif Nat.ble p 555 then (bif Nat.beq p 555 then some [0, 13, 59, 84] else none) else (bif Nat.ble p 556 then (bif Nat.beq p 556 then some [13, 84] else none) else (bif Nat.beq p 557 then some [15, 84] else none))
def xwt_1_1_2_1 (p : Nat) : Option (List Nat) := bif Nat.ble p 559 then (bif Nat.beq p 559 then some [0, 13, 64, 85] else none) else (bif Nat.ble p 560 then (bif Nat.beq p 560 then some [13, 85] else none) else (bif Nat.beq p 561 then some [15, 85] else none))
def xwt_1_1_2_2 (p : Nat) : Option (List Nat) := bif Nat.ble p 563 then (bif Nat.beq p 563 then some [0, 11, 178, 125] else none) else (bif Nat.ble p 564 then (bif Nat.beq p 564 then some [14, 125] else none) else (bif Nat.beq p 568 then some [0, 11, 185, 22] else none))
def xwt_1_1_2_3 (p : Nat) : Option (List Nat) := bif Nat.ble p 570 then (bif Nat.ble p 569 then (bif Nat.beq p 569 then some [13, 22] else none) else (bif Nat.beq p 570 then some [15, 22] else none)) else (bif Nat.ble p 572 then (bif Nat.beq p 572 then some [0, 4, 33, 37] else none) else (bif Nat.beq p 573 then some [0, 4, 36, 25] else none))
def xwt_1_1_2 (p : Nat) : Option (List Nat) := bif Nat.ble p 561 then (bif Nat.ble p 557 then (xwt_1_1_2_0 p) else (xwt_1_1_2_1 p)) else (bif Nat.ble p 568 then (xwt_1_1_2_2 p) else (xwt_1_1_2_3 p))
def xwt_1_1_3_0 (p : Nat) : Option (List Nat) := bif Nat.ble p 575 then (bif Nat.beq p 575 then some [13, 25] else none) else (bif Nat.ble p 577 then (bif Nat.beq p 577 then some [0, 4, 47, 26] else none) else (bif Nat.beq p 579 then some [13, 26] else none))
def xwt_1_1_3_1 (p : Nat) : Option (List Nat) := bif Nat.ble p 583 then (bif Nat.ble p 581 then (bif Nat.beq p 581 then some [0, 4, 51, 23] else none) else (bif Nat.beq p 583 then some [13, 23] else none)) else (bif Nat.ble p 585 then (bif Nat.beq p 585 then some [0, 4, 64, 30] else none) else (bif Nat.beq p 586 then some [14, 30] else none))
def xwt_1_1_3_2 (p : Nat) : Option (List Nat) := bif Nat.ble p 588 then (bif Nat.beq p 588 then some [0, 4, 67, 29] else none) else (bif Nat.ble p 590 then (bif Nat.beq p 590 then some [13, 29] else none) else (bif Nat.beq p 592 then some [0, 4, 61, 38] else none))
def xwt_1_1_3_3 (p : Nat) : Option (List Nat) := bif Nat.ble p 679 then (bif Nat.ble p 677 then (bif Nat.beq p 677 then some [0, 4, 75, 27] else none) else (bif Nat.beq p 679 then some [13, 27] else none)) else (bif Nat.ble p 681 then (bif Nat.beq p 681 then some [0, 4, 78, 28] else none) else (bif Nat.beq p 683 then some [13, 28] else none))
def xwt_1_1_3 (p : Nat) : Option (List Nat) := bif Nat.ble p 586 then (bif Nat.ble p 579 then (xwt_1_1_3_0 p) else (xwt_1_1_3_1 p)) else (bif Nat.ble p 592 then (xwt_1_1_3_2 p) else (xwt_1_1_3_3 p))
def xwt_1_1 (p : Nat) : Option (List Nat) := bif Nat.ble p 553 then (bif Nat.ble p 533 then (xwt_1_1_0 p) else (xwt_1_1_1 p)) else (bif Nat.ble p 573 then (xwt_1_1_2 p) else (xwt_1_1_3 p))
def xwt_1_2_0_0 (p : Nat) : Option (List Nat) := bif Nat.ble p 685 then (bif Nat.beq p 685 then some [0, 4, 55, 24] else none) else (bif Nat.ble p 686 then (bif Nat.beq p 686 then some [14, 24] else none) else (bif Nat.beq p 688 then some [0, 11, 201, 39] else none))
def xwt_1_2_0_1 (p : Nat) : Option (List Nat) := bif Nat.ble p 689 then (bif Nat.beq p 689 then some [13, 39] else none) else (bif Nat.ble p 690 then (bif Nat.beq p 690 then some [15, 39] else none) else (bif Nat.beq p 696 then some [0, 13, 68, 86] else none))
def xwt_1_2_0_2 (p : Nat) : Option (List Nat) := bif Nat.ble p 697 then (bif Nat.beq p 697 then some [13, 86] else none) else (bif Nat.ble p 698 then (bif Nat.beq p 698 then some [15, 86] else none) else (bif Nat.beq p 700 then some [0, 11, 205, 58] else none))
def xwt_1_2_0_3 (p : Nat) : Option (List Nat) := bif Nat.ble p 702 then (bif Nat.ble p 701 then (bif Nat.beq p 701 then some [13, 58] else none) else (bif Nat.beq p 702 then some [15, 58] else none)) else (bif Nat.ble p 704 then (bif Nat.beq p 704 then some [0, 13, 72, 87] else none) else (bif Nat.beq p 705 then some [13, 87] else none))
def xwt_1_2_0 (p : Nat) : Option (List Nat) := bif Nat.ble p 696 then (bif Nat.ble p 688 then (xwt_1_2_0_0 p) else (xwt_1_2_0_1 p)) else (bif Nat.ble p 700 then (xwt_1_2_0_2 p) else (xwt_1_2_0_3 p))
def xwt_1_2_1_0 (p : Nat) : Option (List Nat) := bif Nat.ble p 706 then (bif Nat.beq p 706 then some [15, 87] else none) else (bif Nat.ble p 708 then (bif Nat.beq p 708 then some [0, 11, 209, 65] else none) else (bif Nat.beq p 709 then some [13, 65] else none))
def xwt_1_2_1_1 (p : Nat) : Option (List Nat) := bif Nat.ble p 710 then (bif Nat.beq p 710 then some [15, 65] else none) else (bif Nat.ble p 712 then (bif Nat.beq p 712 then some [0, 10, 91, 37] else none) else (bif Nat.beq p 713 then some [0, 10, 97, 38] else none))
def xwt_1_2_1_2 (p : Nat) : Option (List Nat) := bif Nat.ble p 714 then (bif Nat.beq p 714 then some [0, 11, 213, 68] else none) else (bif Nat.ble p 715 then (bif Nat.beq p 715 then some [13, 68] else none) else (bif Nat.beq p 716 then some [15, 68] else none))
def xwt_1_2_1_3 (p : Nat) : Option (List Nat) := bif Nat.ble p 719 then (bif Nat.ble p 718 then (bif Nat.beq p 718 then some [0, 10, 77, 39] else none) else (bif Nat.beq p 719 then some [0, 10, 139, 66] else none)) else (bif Nat.ble p 720 then (bif Nat.beq p 720 then some [13, 66] else none) else (bif Nat.beq p 721 then some [15, 66] else none))
def xwt_1_2_1 (p : Nat) : Option (List Nat) := bif Nat.ble p 713 then (bif Nat.ble p 709 then (xwt_1_2_1_0 p) else (xwt_1_2_1_1 p)) else (bif Nat.ble p 716 then (xwt_1_2_1_2 p) else (xwt_1_2_1_3 p))
def xwt_1_2_2_0 (p : Nat) : Option (List Nat) := bif Nat.ble p 723 then (bif Nat.beq p 723 then some [0, 10, 104, 43] else none) else (bif Nat.ble p 724 then (bif Nat.beq p 724 then some [13, 43] else none) else (bif Nat.beq p 725 then some [15, 43] else none))
def xwt_1_2_2_1 (p : Nat) : Option (List Nat) := bif Nat.ble p 728 then (bif Nat.beq p 728 then some [14, 131] else none) else (bif Nat.ble p 730 then (bif Nat.beq p 730 then some [0, 10, 108, 44] else none) else (bif Nat.beq p 731 then some [13, 44] else none))
def xwt_1_2_2_2 (p : Nat) : Option (List Nat) := bif Nat.ble p 732 then (bif Nat.beq p 732 then some [15, 44] else none) else (bif Nat.ble p 734 then (bif Nat.beq p 734 then some [0, 10, 111, 45] else none) else (bif Nat.beq p 735 then some [13, 45] else none))
def xwt_1_2_2_3 (p : Nat) : Option (List Nat) := bif Nat.ble p 738 then (bif Nat.ble p 736 then (bif Nat.beq p 736 then some [15, 45] else none) else (bif Nat.beq p 738 then some [0, 10, 117, 46] else none)) else (bif Nat.ble p 739 then (bif Nat.beq p 739 then some [13, 46] else none) else (bif Nat.beq p 740 then some [15, 46] else none))
def xwt_1_2_2 (p : Nat) : Option (List Nat) := bif Nat.ble p 731 then (bif Nat.ble p 725 then (xwt_1_2_2_0 p) else (xwt_1_2_2_1 p)) else (bif Nat.ble p 735 then (xwt_1_2_2_2 p) else (xwt_1_2_2_3 p))
def xwt_1_2_3_0 (p : Nat) : Option (List Nat) := bif Nat.ble p 742 then (bif Nat.beq p 742 then some [0, 10, 120, 67] else none) else (bif Nat.ble p 744 then (bif Nat.beq p 744 then some [13, 67] else none) else (bif Nat.beq p 746 then some [0, 10, 124, 58] else none))
def xwt_1_2_3_1 (p : Nat) : Option (List Nat) := bif Nat.ble p 748 then (bif Nat.ble p 747 then (bif Nat.beq p 747 then some [0, 10, 131, 59] else none) else (bif Nat.beq p 748 then some [13, 59] else none)) else (bif Nat.ble p 749 then (bif Nat.beq p 749 then some [15, 59] else none) else (bif Nat.beq p 751 then some [0, 9, 31, 60] else none))
def xwt_1_2_3_2 (p : Nat) : Option (List Nat) := bif Nat.ble p 752 then (bif Nat.beq p 752 then some [14, 60] else none) else (bif Nat.ble p 754 then (bif Nat.beq p 754 then some [0, 9, 35, 61] else none) else (bif Nat.beq p 755 then some [14, 61] else none))
def xwt_1_2_3_3 (p : Nat) : Option (List Nat) := bif Nat.ble p 759 then (bif Nat.ble p 758 then (bif Nat.beq p 758 then some [0, 13, 76, 88] else none) else (bif Nat.beq p 759 then some [13, 88] else none)) else (bif Nat.ble p 760 then (bif Nat.beq p 760 then some [15, 88] else none) else (bif Nat.beq p 762 then some [0, 11, 217, 41] else none))
def xwt_1_2_3 (p : Nat) : Option (List Nat) := bif Nat.ble p 751 then (bif Nat.ble p 746 then (xwt_1_2_3_0 p) else (xwt_1_2_3_1 p)) else (bif Nat.ble p 755 then (xwt_1_2_3_2 p) else (xwt_1_2_3_3 p))
def xwt_1_2 (p : Nat) : Option (List Nat) := bif Nat.ble p 721 then (bif Nat.ble p 705 then (xwt_1_2_0 p) else (xwt_1_2_1 p)) else (bif Nat.ble p 740 then (xwt_1_2_2 p) else (xwt_1_2_3 p))
def xwt_1_3_0_0 (p : Nat) : Option (List Nat) := bif Nat.ble p 763 then (bif Nat.beq p 763 then some [13, 41] else none) else (bif Nat.ble p 764 then (bif Nat.beq p 764 then some [15, 41] else none) else (bif Nat.beq p 766 then some [0, 6, 32, 40] else none))
def xwt_1_3_0_1 (p : Nat) : Option (List Nat) := bif Nat.ble p 767 then (bif Nat.beq p 767 then some [13, 40] else none) else (bif Nat.ble p 768 then (bif Nat.beq p 768 then some [15, 40] else none) else (bif Nat.beq p 770 then some [0, 13, 80, 89] else none))
def xwt_1_3_0_2 (p : Nat) : Option (List Nat) := bif Nat.ble p 771 then (bif Nat.beq p 771 then some [13, 89] else none) else (bif Nat.ble p 772 then (bif Nat.beq p 772 then some [15, 89] else none) else (bif Nat.beq p 774 then some [0, 13, 84, 90] else none))
def xwt_1_3_0_3 (p : Nat) : Option (List Nat) := bif Nat.ble p 776 then (bif Nat.ble p 775 then (bif Nat.beq p 775 then some [13, 90] else none) else (bif Nat.beq p 776 then some [15, 90] else none)) else (bif Nat.ble p 778 then (bif Nat.beq p 778 then some [0, 13, 88, 91] else none) else (bif Nat.beq p 779 then some [13, 91] else none))
def xwt_1_3_0 (p : Nat) : Option (List Nat) := bif Nat.ble p 770 then (bif Nat.ble p 766 then (xwt_1_3_0_0 p) else (xwt_1_3_0_1 p)) else (bif Nat.ble p 774 then (xwt_1_3_0_2 p) else (xwt_1_3_0_3 p))
def xwt_1_3_1_0 (p : Nat) : Option (List Nat) := bif Nat.ble p 780 then (bif Nat.beq p 780 then some [15, 91] else none) else (bif Nat.ble p 782 then (bif Nat.beq p 782 then some [0, 11, 224, 128] else none) else (bif Nat.beq p 784 then some [13, 128] else none))
def xwt_1_3_1_1 (p : Nat) : Option (List Nat) := bif Nat.ble p 787 then (bif Nat.ble p 786 then (bif Nat.beq p 786 then some [0, 11, 235, 66] else none) else (bif Nat.beq p 787 then some [0, 13, 92, 92] else none)) else (bif Nat.ble p 788 then (bif Nat.beq p 788 then some [13, 92] else none) else (bif Nat.beq p 789 then some [15, 92] else none))
def xwt_1_3_1_2 (p : Nat) : Option (List Nat) := bif Nat.ble p 791 then (bif Nat.beq p 791 then some [0, 11, 228, 129] else none) else (bif Nat.ble p 793 then (bif Nat.beq p 793 then some [13, 129] else none) else (bif Nat.beq p 795 then some [0, 13, 96, 93] else none))
def xwt_1_3_1_3 (p : Nat) : Option (List Nat) := bif Nat.ble p 797 then (bif Nat.ble p 796 then (bif Nat.beq p 796 then some [13, 93] else none) else (bif Nat.beq p 797 then some [15, 93] else none)) else (bif Nat.ble p 799 then (bif Nat.beq p 799 then some [0, 11, 232, 35] else none) else (bif Nat.beq p 800 then some [13, 35] else none))
def xwt_1_3_1 (p : Nat) : Option (List Nat) := bif Nat.ble p 789 then (bif Nat.ble p 784 then (xwt_1_3_1_0 p) else (xwt_1_3_1_1 p)) else (bif Nat.ble p 795 then (xwt_1_3_1_2 p) else (xwt_1_3_1_3 p))
def xwt_1_3_2_0 (p : Nat) : Option (List Nat) := bif Nat.ble p 801 then (bif Nat.beq p 801 then some [15, 35] else none) else (bif Nat.ble p 803 then (bif Nat.beq p 803 then some [0, 13, 100, 94] else none) else (bif Nat.beq p 804 then some [13, 94] else none))
def xwt_1_3_2_1 (p : Nat) : Option (List Nat) := bif Nat.ble p 805 then (bif Nat.beq p 805 then some [15, 94] else none) else (bif Nat.ble p 807 then (bif Nat.beq p 807 then some [0, 11, 239, 16] else none) else (bif Nat.beq p 808 then some [13, 16] else none))
def xwt_1_3_2_2 (p : Nat) : Option (List Nat) := bif Nat.ble p 809 then (bif Nat.beq p 809 then some [15, 16] else none) else (bif Nat.ble p 811 then (bif Nat.beq p 811 then some [0, 3, 28, 18] else none) else (bif Nat.beq p 813 then some [13, 18] else none))
def xwt_1_3_2_3 (p : Nat) : Option (List Nat) := bif Nat.ble p 816 then (bif Nat.ble p 815 then (bif Nat.beq p 815 then some [0, 3, 58, 41] else none) else (bif Nat.beq p 816 then some [0, 3, 51, 39] else none)) else (bif Nat.ble p 817 then (bif Nat.beq p 817 then some [0, 3, 32, 17] else none) else (bif Nat.beq p 819 then some [13, 17] else none))
def xwt_1_3_2 (p : Nat) : Option (List Nat) := bif Nat.ble p 808 then (bif Nat.ble p 804 then (xwt_1_3_2_0 p) else (xwt_1_3_2_1 p)) else (bif Nat.ble p 813 then (xwt_1_3_2_2 p) else (xwt_1_3_2_3 p))
def xwt_1_3_3_0 (p : Nat) : Option (List Nat) := bif Nat.ble p 821 then (bif Nat.beq p 821 then some [0, 3, 45, 35] else none) else (bif Nat.ble p 822 then (bif Nat.beq p 822 then some [0, 3, 54, 66] else none) else (bif Nat.beq p 823 then some [0, 13, 104, 95] else none))
def xwt_1_3_3_1 (p : Nat) : Option (List Nat) := bif Nat.ble p 825 then (bif Nat.ble p 824 then (bif Nat.beq p 824 then some [13, 95] else none) else (bif Nat.beq p 825 then some [15, 95] else none)) else (bif Nat.ble p 827 then (bif Nat.beq p 827 then some [0, 11, 244, 20] else none) else (bif Nat.beq p 828 then some [13, 20] else none))
def xwt_1_3_3_2 (p : Nat) : Option (List Nat) := bif Nat.ble p 829 then (bif Nat.beq p 829 then some [15, 20] else none) else (bif Nat.ble p 831 then (bif Nat.beq p 831 then some [0, 3, 73, 19] else none) else (bif Nat.beq p 832 then some [13, 19] else none))
def xwt_1_3_3_3 (p : Nat) : Option (List Nat) := bif Nat.ble p 835 then (bif Nat.ble p 833 then (bif Nat.beq p 833 then some [15, 19] else none) else (bif Nat.beq p 835 then some [0, 3, 67, 238] else none)) else (bif Nat.ble p 836 then (bif Nat.beq p 836 then some [14, 238] else none) else (bif Nat.beq p 841 then some [0, 11, 247, 19] else none))
def xwt_1_3_3 (p : Nat) : Option (List Nat) := bif Nat.ble p 828 then (bif Nat.ble p 823 then (xwt_1_3_3_0 p) else (xwt_1_3_3_1 p)) else (bif Nat.ble p 832 then (xwt_1_3_3_2 p) else (xwt_1_3_3_3 p))
def xwt_1_3 (p : Nat) : Option (List Nat) := bif Nat.ble p 800 then (bif Nat.ble p 779 then (xwt_1_3_0 p) else (xwt_1_3_1 p)) else (bif Nat.ble p 819 then (xwt_1_3_2 p) else (xwt_1_3_3 p))
def xwt_1 (p : Nat) : Option (List Nat) := bif Nat.ble p 683 then (bif Nat.ble p 514 then (xwt_1_0 p) else (xwt_1_1 p)) else (bif Nat.ble p 762 then (xwt_1_2 p) else (xwt_1_3 p))
def xwt_2_0_0_0 (p : Nat) : Option (List Nat) := bif Nat.ble p 842 then (bif Nat.beq p 842 then some [0, 13, 108, 96] else none) else (bif Nat.ble p 843 then (bif Nat.beq p 843 then some [13, 96] else none) else (bif Nat.beq p 844 then some [15, 96] else none))
def xwt_2_0_0_1 (p : Nat) : Option (List Nat) := bif Nat.ble p 846 then (bif Nat.beq p 846 then some [0, 13, 112, 97] else none) else (bif Nat.ble p 847 then (bif Nat.beq p 847 then some [13, 97] else none) else (bif Nat.beq p 848 then some [15, 97] else none))
def xwt_2_0_0_2 (p : Nat) : Option (List Nat) := bif Nat.ble p 850 then (bif Nat.beq p 850 then some [0, 11, 250, 40] else none) else (bif Nat.ble p 851 then (bif Nat.beq p 851 then some [0, 13, 116, 98] else none) else (bif Nat.beq p 852 then some [13, 98] else none))
def xwt_2_0_0_3 (p : Nat) : Option (List Nat) := bif Nat.ble p 855 then (bif Nat.ble p 853 then (bif Nat.beq p 853 then some [15, 98] else none) else (bif Nat.beq p 855 then some [0, 11, 254, 5] else none)) else (bif Nat.ble p 856 then (bif Nat.beq p 856 then some [13, 5] else none) else (bif Nat.beq p 857 then some [15, 5] else none))
def xwt_2_0_0 (p : Nat) : Option (List Nat) := bif Nat.ble p 848 then (bif Nat.ble p 844 then (xwt_2_0_0_0 p) else (xwt_2_0_0_1 p)) else (bif Nat.ble p 852 then (xwt_2_0_0_2 p) else (xwt_2_0_0_3 p))
def xwt_2_0_1_0 (p : Nat) : Option (List Nat) := bif Nat.ble p 860 then (bif Nat.beq p 860 then some [0, 13, 120, 99] else none) else (bif Nat.ble p 861 then (bif Nat.beq p 861 then some [13, 99] else none) else (bif Nat.beq p 862 then some [15, 99] else none))
def xwt_2_0_1_1 (p : Nat) : Option (List Nat) := bif Nat.ble p 865 then (bif Nat.beq p 865 then some [0, 13, 124, 100] else none) else (bif Nat.ble p 866 then (bif Nat.beq p 866 then some [13, 100] else none) else (bif Nat.beq p 867 then some [15, 100] else none))
def xwt_2_0_1_2 (p : Nat) : Option (List Nat) := bif Nat.ble p 869 then (bif Nat.beq p 869 then some [0, 11, 260, 6] else none) else (bif Nat.ble p 870 then (bif Nat.beq p 870 then some [13, 6] else none) else (bif Nat.beq p 871 then some [15, 6] else none))
def xwt_2_0_1_3 (p : Nat) : Option (List Nat) := bif Nat.ble p 875 then (bif Nat.ble p 873 then (bif Nat.beq p 873 then some [0, 1, 38, 8] else none) else (bif Nat.beq p 875 then some [13, 8] else none)) else (bif Nat.ble p 877 then (bif Nat.beq p 877 then some [0, 1, 41, 7] else none) else (bif Nat.beq p 879 then some [13, 7] else none))
def xwt_2_0_1 (p : Nat) : Option (List Nat) := bif Nat.ble p 867 then (bif Nat.ble p 862 then (xwt_2_0_1_0 p) else (xwt_2_0_1_1 p)) else (bif Nat.ble p 871 then (xwt_2_0_1_2 p) else (xwt_2_0_1_3 p))
def xwt_2_0_2_0 (p : Nat) : Option (List Nat) := bif Nat.ble p 881 then (bif Nat.beq p 881 then some [0, 1, 45, 9] else none) else (bif Nat.ble p 883 then (bif Nat.beq p 883 then some [13, 9] else none) else (bif Nat.beq p 885 then some [0, 1, 48, 10] else none))
def xwt_2_0_2_1 (p : Nat) : Option (List Nat) := bif Nat.ble p 887 then (bif Nat.beq p 887 then some [13, 10] else none) else (bif Nat.ble p 889 then (bif Nat.beq p 889 then some [0, 13, 128, 101] else none) else (bif Nat.beq p 890 then some [13, 101] else none))
def xwt_2_0_2_2 (p : Nat) : Option (List Nat) := bif Nat.ble p 891 then (bif Nat.beq p 891 then some [15, 101] else none) else (bif Nat.ble p 893 then (bif Nat.beq p 893 then some [0, 11, 270, 69] else none) else (bif Nat.beq p 894 then some [13, 69] else none))
def xwt_2_0_2_3 (p : Nat) : Option (List Nat) := bif Nat.ble p 897 then (bif Nat.ble p 895 then (bif Nat.beq p 895 then some [15, 69] else none) else (bif Nat.beq p 897 then some [0, 10, 143, 12] else none)) else (bif Nat.ble p 898 then (bif Nat.beq p 898 then some [13, 12] else none) else (bif Nat.beq p 899 then some [15, 12] else none))
def xwt_2_0_2 (p : Nat) : Option (List Nat) := bif Nat.ble p 890 then (bif Nat.ble p 885 then (xwt_2_0_2_0 p) else (xwt_2_0_2_1 p)) else (bif Nat.ble p 894 then (xwt_2_0_2_2 p) else (xwt_2_0_2_3 p))
def xwt_2_0_3_0 (p : Nat) : Option (List Nat) := bif Nat.ble p 902 then (bif Nat.beq p 902 then some [0, 11, 273, 70] else none) else (bif Nat.ble p 903 then (bif Nat.beq p 903 then some [13, 70] else none) else (bif Nat.beq p 904 then some [15, 70] else none))
def xwt_2_0_3_1 (p : Nat) : Option (List Nat) := bif Nat.ble p 907 then (bif Nat.ble p 906 then (bif Nat.beq p 906 then some [0, 13, 132, 102] else none) else (bif Nat.beq p 907 then some [13, 102] else none)) else (bif Nat.ble p 908 then (bif Nat.beq p 908 then some [15, 102] else none) else (bif Nat.beq p 910 then some [0, 11, 277, 71] else none))
def xwt_2_0_3_2 (p : Nat) : Option (List Nat) := bif Nat.ble p 911 then (bif Nat.beq p 911 then some [13, 71] else none) else (bif Nat.ble p 912 then (bif Nat.beq p 912 then some [15, 71] else none) else (bif Nat.beq p 914 then some [0, 10, 147, 69] else none))
def xwt_2_0_3_3 (p : Nat) : Option (List Nat) := bif Nat.ble p 916 then (bif Nat.ble p 915 then (bif Nat.beq p 915 then some [0, 10, 151, 70] else none) else (bif Nat.beq p 916 then some [0, 13, 136, 103] else none)) else (bif Nat.ble p 917 then (bif Nat.beq p 917 then some [13, 103] else none) else (bif Nat.beq p 918 then some [15, 103] else none))
def xwt_2_0_3 (p : Nat) : Option (List Nat) := bif Nat.ble p 910 then (bif Nat.ble p 904 then (xwt_2_0_3_0 p) else (xwt_2_0_3_1 p)) else (bif Nat.ble p 914 then (xwt_2_0_3_2 p) else (xwt_2_0_3_3 p))
def xwt_2_0 (p : Nat) : Option (List Nat) := bif Nat.ble p 879 then (bif Nat.ble p 857 then (xwt_2_0_0 p) else (xwt_2_0_1 p)) else (bif Nat.ble p 899 then (xwt_2_0_2 p) else (xwt_2_0_3 p))
def xwt_2_1_0_0 (p : Nat) : Option (List Nat) := bif Nat.ble p 920 then (bif Nat.beq p 920 then some [0, 11, 284, 13] else none) else (bif Nat.ble p 921 then (bif Nat.beq p 921 then some [13, 13] else none) else (bif Nat.beq p 922 then some [15, 13] else none))
def xwt_2_1_0_1 (p : Nat) : Option (List Nat) := bif Nat.ble p 924 then (bif Nat.beq p 924 then some [0, 13, 140, 104] else none) else (bif Nat.ble p 925 then (bif Nat.beq p 925 then some [13, 104] else none) else (bif Nat.beq p 926 then some [15, 104] else none))
def xwt_2_1_0_2 (p : Nat) : Option (List Nat) := bif Nat.ble p 928 then (bif Nat.beq p 928 then some [0, 11, 290, 1] else none) else (bif Nat.ble p 929 then (bif Nat.beq p 929 then some [13, 1] else none) else (bif Nat.beq p 930 then some [15, 1] else none))
def xwt_2_1_0_3 (p : Nat) : Option (List Nat) := bif Nat.ble p 933 then (bif Nat.ble p 932 then (bif Nat.beq p 932 then some [0, 11, 293, 2] else none) else (bif Nat.beq p 933 then some [13, 2] else none)) else (bif Nat.ble p 934 then (bif Nat.beq p 934 then some [15, 2] else none) else (bif Nat.beq p 936 then some [0, 0, 42, 3] else none))
def xwt_2_1_0 (p : Nat) : Option (List Nat) := bif Nat.ble p 926 then (bif Nat.ble p 922 then (xwt_2_1_0_0 p) else (xwt_2_1_0_1 p)) else (bif Nat.ble p 930 then (xwt_2_1_0_2 p) else (xwt_2_1_0_3 p))
def xwt_2_1_1_0 (p : Nat) : Option (List Nat) := bif Nat.ble p 938 then (bif Nat.beq p 938 then some [13, 3] else none) else (bif Nat.ble p 940 then (bif Nat.beq p 940 then some [0, 0, 52, 37] else none) else (bif Nat.beq p 941 then some [0, 0, 55, 38] else none))
def xwt_2_1_1_1 (p : Nat) : Option (List Nat) := bif Nat.ble p 942 then (bif Nat.beq p 942 then some [0, 0, 59, 68] else none) else (bif Nat.ble p 944 then (bif Nat.beq p 944 then some [0, 0, 46, 72] else none) else (bif Nat.beq p 945 then some [13, 72] else none))
def xwt_2_1_1_2 (p : Nat) : Option (List Nat) := bif Nat.ble p 946 then (bif Nat.beq p 946 then some [15, 72] else none) else (bif Nat.ble p 950 then (bif Nat.beq p 950 then some [0, 13, 145, 105] else none) else (bif Nat.beq p 951 then some [13, 105] else none))
def xwt_2_1_1_3 (p : Nat) : Option (List Nat) := bif Nat.ble p 954 then (bif Nat.ble p 952 then (bif Nat.beq p 952 then some [15, 105] else none) else (bif Nat.beq p 954 then some [0, 13, 149, 106] else none)) else (bif Nat.ble p 955 then (bif Nat.beq p 955 then some [13, 106] else none) else (bif Nat.beq p 956 then some [15, 106] else none))
def xwt_2_1_1 (p : Nat) : Option (List Nat) := bif Nat.ble p 945 then (bif Nat.ble p 941 then (xwt_2_1_1_0 p) else (xwt_2_1_1_1 p)) else (bif Nat.ble p 951 then (xwt_2_1_1_2 p) else (xwt_2_1_1_3 p))
def xwt_2_1_2_0 (p : Nat) : Option (List Nat) := bif Nat.ble p 958 then (bif Nat.beq p 958 then some [0, 11, 312, 53] else none) else (bif Nat.ble p 959 then (bif Nat.beq p 959 then some [13, 53] else none) else (bif Nat.beq p 960 then some [15, 53] else none))
def xwt_2_1_2_1 (p : Nat) : Option (List Nat) := bif Nat.ble p 962 then (bif Nat.beq p 962 then some [0, 8, 38, 37] else none) else (bif Nat.ble p 963 then (bif Nat.beq p 963 then some [0, 8, 41, 54] else none) else (bif Nat.beq p 965 then some [13, 54] else none))
def xwt_2_1_2_2 (p : Nat) : Option (List Nat) := bif Nat.ble p 967 then (bif Nat.beq p 967 then some [0, 8, 45, 56] else none) else (bif Nat.ble p 968 then (bif Nat.beq p 968 then some [14, 56] else none) else (bif Nat.beq p 974 then some [0, 8, 53, 38] else none))
def xwt_2_1_2_3 (p : Nat) : Option (List Nat) := bif Nat.ble p 977 then (bif Nat.ble p 975 then (bif Nat.beq p 975 then some [0, 8, 60, 55] else none) else (bif Nat.beq p 977 then some [13, 55] else none)) else (bif Nat.ble p 979 then (bif Nat.beq p 979 then some [0, 13, 153, 107] else none) else (bif Nat.beq p 980 then some [13, 107] else none))
def xwt_2_1_2 (p : Nat) : Option (List Nat) := bif Nat.ble p 965 then (bif Nat.ble p 960 then (xwt_2_1_2_0 p) else (xwt_2_1_2_1 p)) else (bif Nat.ble p 974 then (xwt_2_1_2_2 p) else (xwt_2_1_2_3 p))
def xwt_2_1_3_0 (p : Nat) : Option (List Nat) := bif Nat.ble p 981 then (bif Nat.beq p 981 then some [15, 107] else none) else (bif Nat.ble p 983 then (bif Nat.beq p 983 then some [0, 13, 157, 108] else none) else (bif Nat.beq p 984 then some [13, 108] else none))
def xwt_2_1_3_1 (p : Nat) : Option (List Nat) := bif Nat.ble p 987 then (bif Nat.ble p 985 then (bif Nat.beq p 985 then some [15, 108] else none) else (bif Nat.beq p 987 then some [0, 11, 323, 122] else none)) else (bif Nat.ble p 988 then (bif Nat.beq p 988 then some [14, 122] else none) else (bif Nat.beq p 990 then some [0, 11, 326, 49] else none))
def xwt_2_1_3_2 (p : Nat) : Option (List Nat) := bif Nat.ble p 991 then (bif Nat.beq p 991 then some [13, 49] else none) else (bif Nat.ble p 992 then (bif Nat.beq p 992 then some [15, 49] else none) else (bif Nat.beq p 994 then some [0, 13, 161, 109] else none))
def xwt_2_1_3_3 (p : Nat) : Option (List Nat) := bif Nat.ble p 996 then (bif Nat.ble p 995 then (bif Nat.beq p 995 then some [13, 109] else none) else (bif Nat.beq p 996 then some [15, 109] else none)) else (bif Nat.ble p 998 then (bif Nat.beq p 998 then some [0, 11, 329, 48] else none) else (bif Nat.beq p 999 then some [13, 48] else none))
def xwt_2_1_3 (p : Nat) : Option (List Nat) := bif Nat.ble p 990 then (bif Nat.ble p 984 then (xwt_2_1_3_0 p) else (xwt_2_1_3_1 p)) else (bif Nat.ble p 994 then (xwt_2_1_3_2 p) else (xwt_2_1_3_3 p))
def xwt_2_1 (p : Nat) : Option (List Nat) := bif Nat.ble p 956 then (bif Nat.ble p 936 then (xwt_2_1_0 p) else (xwt_2_1_1 p)) else (bif Nat.ble p 980 then (xwt_2_1_2 p) else (xwt_2_1_3 p))
def xwt_2_2_0_0 (p : Nat) : Option (List Nat) := bif Nat.ble p 1000 then (bif Nat.beq p 1000 then some [15, 48] else none) else (bif Nat.ble p 1002 then (bif Nat.beq p 1002 then some [0, 11, 336, 50] else none) else (bif Nat.beq p 1003 then some [13, 50] else none))
def xwt_2_2_0_1 (p : Nat) : Option (List Nat) := bif Nat.ble p 1004 then (bif Nat.beq p 1004 then some [15, 50] else none) else (bif Nat.ble p 1006 then (bif Nat.beq p 1006 then some [0, 13, 165, 110] else none) else (bif Nat.beq p 1007 then some [13, 110] else none))
def xwt_2_2_0_2 (p : Nat) : Option (List Nat) := bif Nat.ble p 1008 then (bif Nat.beq p 1008 then some [15, 110] else none) else (bif Nat.ble p 1010 then (bif Nat.beq p 1010 then some [0, 11, 342, 51] else none) else (bif Nat.beq p 1011 then some [13, 51] else none))
def xwt_2_2_0_3 (p : Nat) : Option (List Nat) := bif Nat.ble p 1015 then (bif Nat.ble p 1012 then (bif Nat.beq p 1012 then some [15, 51] else none) else (bif Nat.beq p 1015 then some [0, 13, 169, 111] else none)) else (bif Nat.ble p 1016 then (bif Nat.beq p 1016 then some [13, 111] else none) else (bif Nat.beq p 1017 then some [15, 111] else none))
def xwt_2_2_0 (p : Nat) : Option (List Nat) := bif Nat.ble p 1007 then (bif Nat.ble p 1003 then (xwt_2_2_0_0 p) else (xwt_2_2_0_1 p)) else (bif Nat.ble p 1011 then (xwt_2_2_0_2 p) else (xwt_2_2_0_3 p))
def xwt_2_2_1_0 (p : Nat) : Option (List Nat) := bif Nat.ble p 1019 then (bif Nat.beq p 1019 then some [0, 13, 173, 112] else none) else (bif Nat.ble p 1020 then (bif Nat.beq p 1020 then some [13, 112] else none) else (bif Nat.beq p 1021 then some [15, 112] else none))
def xwt_2_2_1_1 (p : Nat) : Option (List Nat) := bif Nat.ble p 1023 then (bif Nat.beq p 1023 then some [0, 11, 351, 63] else none) else (bif Nat.ble p 1024 then (bif Nat.beq p 1024 then some [13, 63] else none) else (bif Nat.beq p 1025 then some [15, 63] else none))
def xwt_2_2_1_2 (p : Nat) : Option (List Nat) := bif Nat.ble p 1027 then (bif Nat.beq p 1027 then some [0, 10, 81, 34] else none) else (bif Nat.ble p 1028 then (bif Nat.beq p 1028 then some [13, 34] else none) else (bif Nat.beq p 1029 then some [15, 34] else none))
def xwt_2_2_1_3 (p : Nat) : Option (List Nat) := bif Nat.ble p 1032 then (bif Nat.ble p 1031 then (bif Nat.beq p 1031 then some [0, 10, 87, 14] else none) else (bif Nat.beq p 1032 then some [13, 14] else none)) else (bif Nat.ble p 1033 then (bif Nat.beq p 1033 then some [15, 14] else none) else (bif Nat.beq p 1035 then some [0, 2, 33, 39] else none))
def xwt_2_2_1 (p : Nat) : Option (List Nat) := bif Nat.ble p 1025 then (bif Nat.ble p 1021 then (xwt_2_2_1_0 p) else (xwt_2_2_1_1 p)) else (bif Nat.ble p 1029 then (xwt_2_2_1_2 p) else (xwt_2_2_1_3 p))
def xwt_2_2_2_0 (p : Nat) : Option (List Nat) := bif Nat.ble p 1036 then (bif Nat.beq p 1036 then some [0, 13, 177, 113] else none) else (bif Nat.ble p 1037 then (bif Nat.beq p 1037 then some [13, 113] else none) else (bif Nat.beq p 1038 then some [15, 113] else none))
def xwt_2_2_2_1 (p : Nat) : Option (List Nat) := bif Nat.ble p 1040 then (bif Nat.beq p 1040 then some [0, 13, 181, 114] else none) else (bif Nat.ble p 1041 then (bif Nat.beq p 1041 then some [13, 114] else none) else (bif Nat.beq p 1042 then some [15, 114] else none))
def xwt_2_2_2_2 (p : Nat) : Option (List Nat) := bif Nat.ble p 1044 then (bif Nat.beq p 1044 then some [0, 13, 185, 115] else none) else (bif Nat.ble p 1045 then (bif Nat.beq p 1045 then some [13, 115] else none) else (bif Nat.beq p 1046 then some [15, 115] else none))
def xwt_2_2_2_3 (p : Nat) : Option (List Nat) := bif Nat.ble p 1049 then (bif Nat.ble p 1048 then (bif Nat.beq p 1048 then some [0, 13, 189, 116] else none) else (bif Nat.beq p 1049 then some [13, 116] else none)) else (bif Nat.ble p 1050 then (bif Nat.beq p 1050 then some [15, 116] else none) else (bif Nat.beq p 1052 then some [0, 13, 193, 117] else none))
def xwt_2_2_2 (p : Nat) : Option (List Nat) := bif Nat.ble p 1042 then (bif Nat.ble p 1038 then (xwt_2_2_2_0 p) else (xwt_2_2_2_1 p)) else (bif Nat.ble p 1046 then (xwt_2_2_2_2 p) else (xwt_2_2_2_3 p))
def xwt_2_2_3_0 (p : Nat) : Option (List Nat) := bif Nat.ble p 1053 then (bif Nat.beq p 1053 then some [13, 117] else none) else (bif Nat.ble p 1054 then (bif Nat.beq p 1054 then some [15, 117] else none) else (bif Nat.beq p 1058 then some [0, 13, 12, 134] else none))
def xwt_2_2_3_1 (p : Nat) : Option (List Nat) := bif Nat.ble p 1062 then (bif Nat.ble p 1059 then (bif Nat.beq p 1059 then some [13, 134] else none) else (bif Nat.beq p 1062 then some [1, 12, 7, 12, 0] else none)) else (bif Nat.ble p 1063 then (bif Nat.beq p 1063 then some [1, 12, 13, 12, 1] else none) else (bif Nat.beq p 1064 then some [1, 12, 292, 12, 2] else none))
def xwt_2_2_3_2 (p : Nat) : Option (List Nat) := bif Nat.ble p 1065 then (bif Nat.beq p 1065 then some [1, 12, 16, 12, 3] else none) else (bif Nat.ble p 1066 then (bif Nat.beq p 1066 then some [1, 12, 19, 12, 4] else none) else (bif Nat.beq p 1067 then some [1, 12, 22, 12, 5] else none))
def xwt_2_2_3_3 (p : Nat) : Option (List Nat) := bif Nat.ble p 1069 then (bif Nat.ble p 1068 then (bif Nat.beq p 1068 then some [1, 12, 25, 12, 6] else none) else (bif Nat.beq p 1069 then some [1, 12, 133, 12, 7] else none)) else (bif Nat.ble p 1070 then (bif Nat.beq p 1070 then some [1, 12, 166, 12, 8] else none) else (bif Nat.beq p 1071 then some [1, 12, 140, 12, 9] else none))
def xwt_2_2_3 (p : Nat) : Option (List Nat) := bif Nat.ble p 1064 then (bif Nat.ble p 1058 then (xwt_2_2_3_0 p) else (xwt_2_2_3_1 p)) else (bif Nat.ble p 1067 then (xwt_2_2_3_2 p) else (xwt_2_2_3_3 p))
def xwt_2_2 (p : Nat) : Option (List Nat) := bif Nat.ble p 1035 then (bif Nat.ble p 1017 then (xwt_2_2_0 p) else (xwt_2_2_1 p)) else (bif Nat.ble p 1052 then (xwt_2_2_2 p) else (xwt_2_2_3 p))
def xwt_2_3_0_0 (p : Nat) : Option (List Nat) := bif Nat.ble p 1072 then (bif Nat.beq p 1072 then some [1, 12, 137, 12, 10] else none) else (bif Nat.ble p 1073 then (bif Nat.beq p 1073 then some [1, 12, 28, 12, 11] else none) else (bif Nat.beq p 1074 then some [1, 12, 31, 12, 12] else none))
def xwt_2_3_0_1 (p : Nat) : Option (List Nat) := bif Nat.ble p 1075 then (bif Nat.beq p 1075 then some [1, 12, 34, 12, 13] else none) else (bif Nat.ble p 1076 then (bif Nat.beq p 1076 then some [1, 12, 37, 12, 14] else none) else (bif Nat.beq p 1077 then some [1, 12, 206, 12, 15] else none))
def xwt_2_3_0_2 (p : Nat) : Option (List Nat) := bif Nat.ble p 1078 then (bif Nat.beq p 1078 then some [1, 12, 218, 12, 16] else none) else (bif Nat.ble p 1079 then (bif Nat.beq p 1079 then some [1, 12, 224, 12, 17] else none) else (bif Nat.beq p 1080 then some [1, 12, 40, 12, 18] else none))
def xwt_2_3_0_3 (p : Nat) : Option (List Nat) := bif Nat.ble p 1082 then (bif Nat.ble p 1081 then (bif Nat.beq p 1081 then some [1, 12, 255, 12, 19] else none) else (bif Nat.beq p 1082 then some [1, 12, 258, 12, 20] else none)) else (bif Nat.ble p 1083 then (bif Nat.beq p 1083 then some [1, 12, 279, 12, 21] else none) else (bif Nat.beq p 1084 then some [1, 12, 43, 12, 22] else none))
def xwt_2_3_0 (p : Nat) : Option (List Nat) := bif Nat.ble p 1077 then (bif Nat.ble p 1074 then (xwt_2_3_0_0 p) else (xwt_2_3_0_1 p)) else (bif Nat.ble p 1080 then (xwt_2_3_0_2 p) else (xwt_2_3_0_3 p))
def xwt_2_3_1_0 (p : Nat) : Option (List Nat) := bif Nat.ble p 1085 then (bif Nat.beq p 1085 then some [1, 12, 46, 12, 23] else none) else (bif Nat.ble p 1086 then (bif Nat.beq p 1086 then some [1, 12, 49, 12, 24] else none) else (bif Nat.beq p 1087 then some [1, 12, 52, 12, 25] else none))
def xwt_2_3_1_1 (p : Nat) : Option (List Nat) := bif Nat.ble p 1142 then (bif Nat.ble p 1141 then (bif Nat.beq p 1141 then some [0, 13, 17, 159] else none) else (bif Nat.beq p 1142 then some [13, 159] else none)) else (bif Nat.ble p 1143 then (bif Nat.beq p 1143 then some [15, 159] else none) else (bif Nat.beq p 1145 then some [0, 12, 112, 135] else none))
def xwt_2_3_1_2 (p : Nat) : Option (List Nat) := bif Nat.ble p 1147 then (bif Nat.beq p 1147 then some [13, 135] else none) else (bif Nat.ble p 1150 then (bif Nat.beq p 1150 then some [0, 13, 22, 160] else none) else (bif Nat.beq p 1151 then some [13, 160] else none))
def xwt_2_3_1_3 (p : Nat) : Option (List Nat) := bif Nat.ble p 1154 then (bif Nat.ble p 1152 then (bif Nat.beq p 1152 then some [15, 160] else none) else (bif Nat.beq p 1154 then some [0, 12, 115, 139] else none)) else (bif Nat.ble p 1156 then (bif Nat.beq p 1156 then some [13, 139] else none) else (bif Nat.beq p 1158 then some [0, 12, 56, 136] else none))
def xwt_2_3_1 (p : Nat) : Option (List Nat) := bif Nat.ble p 1145 then (bif Nat.ble p 1087 then (xwt_2_3_1_0 p) else (xwt_2_3_1_1 p)) else (bif Nat.ble p 1151 then (xwt_2_3_1_2 p) else (xwt_2_3_1_3 p))
def xwt_2_3_2_0 (p : Nat) : Option (List Nat) := bif Nat.ble p 1159 then (bif Nat.beq p 1159 then some [14, 136] else none) else (bif Nat.ble p 1161 then (bif Nat.beq p 1161 then some [0, 12, 71, 142] else none) else (bif Nat.beq p 1162 then some [14, 142] else none))
def xwt_2_3_2_1 (p : Nat) : Option (List Nat) := bif Nat.ble p 1164 then (bif Nat.beq p 1164 then some [0, 13, 26, 162] else none) else (bif Nat.ble p 1165 then (bif Nat.beq p 1165 then some [13, 162] else none) else (bif Nat.beq p 1166 then some [15, 162] else none))
def xwt_2_3_2_2 (p : Nat) : Option (List Nat) := bif Nat.ble p 1168 then (bif Nat.beq p 1168 then some [0, 12, 106, 145] else none) else (bif Nat.ble p 1170 then (bif Nat.beq p 1170 then some [13, 145] else none) else (bif Nat.beq p 1172 then some [0, 12, 118, 161] else none))
def xwt_2_3_2_3 (p : Nat) : Option (List Nat) := bif Nat.ble p 1176 then (bif Nat.ble p 1174 then (bif Nat.beq p 1174 then some [13, 161] else none) else (bif Nat.beq p 1176 then some [0, 13, 31, 163] else none)) else (bif Nat.ble p 1177 then (bif Nat.beq p 1177 then some [13, 163] else none) else (bif Nat.beq p 1178 then some [15, 163] else none))
def xwt_2_3_2 (p : Nat) : Option (List Nat) := bif Nat.ble p 1166 then (bif Nat.ble p 1162 then (xwt_2_3_2_0 p) else (xwt_2_3_2_1 p)) else (bif Nat.ble p 1172 then (xwt_2_3_2_2 p) else (xwt_2_3_2_3 p))
def xwt_2_3_3_0 (p : Nat) : Option (List Nat) := bif Nat.ble p 1180 then (bif Nat.beq p 1180 then some [0, 13, 35, 165] else none) else (bif Nat.ble p 1181 then (bif Nat.beq p 1181 then some [13, 165] else none) else (bif Nat.beq p 1182 then some [15, 165] else none))
def xwt_2_3_3_1 (p : Nat) : Option (List Nat) := bif Nat.ble p 1186 then (bif Nat.ble p 1184 then (bif Nat.beq p 1184 then some [0, 12, 123, 164] else none) else (bif Nat.beq p 1186 then some [13, 164] else none)) else (bif Nat.ble p 1189 then (bif Nat.beq p 1189 then some [0, 12, 60, 143] else none) else (bif Nat.beq p 1190 then some [14, 143] else none))
def xwt_2_3_3_2 (p : Nat) : Option (List Nat) := bif Nat.ble p 1192 then (bif Nat.beq p 1192 then some [0, 13, 39, 166] else none) else (bif Nat.ble p 1193 then (bif Nat.beq p 1193 then some [13, 166] else none) else (bif Nat.beq p 1194 then some [15, 166] else none))
def xwt_2_3_3_3 (p : Nat) : Option (List Nat) := bif Nat.ble p 1197 then (bif Nat.ble p 1196 then (bif Nat.beq p 1196 then some [0, 13, 43, 167] else none) else (bif Nat.beq p 1197 then some [13, 167] else none)) else (bif Nat.ble p 1198 then (bif Nat.beq p 1198 then some [15, 167] else none) else (bif Nat.beq p 1200 then some [0, 13, 47, 168] else none))
def xwt_2_3_3 (p : Nat) : Option (List Nat) := bif Nat.ble p 1190 then (bif Nat.ble p 1182 then (xwt_2_3_3_0 p) else (xwt_2_3_3_1 p)) else (bif Nat.ble p 1194 then (xwt_2_3_3_2 p) else (xwt_2_3_3_3 p))
def xwt_2_3 (p : Nat) : Option (List Nat) := bif Nat.ble p 1158 then (bif Nat.ble p 1084 then (xwt_2_3_0 p) else (xwt_2_3_1 p)) else (bif Nat.ble p 1178 then (xwt_2_3_2 p) else (xwt_2_3_3 p))
def xwt_2 (p : Nat) : Option (List Nat) := bif Nat.ble p 999 then (bif Nat.ble p 918 then (xwt_2_0 p) else (xwt_2_1 p)) else (bif Nat.ble p 1071 then (xwt_2_2 p) else (xwt_2_3 p))
def xwt_3_0_0_0 (p : Nat) : Option (List Nat) := bif Nat.ble p 1201 then (bif Nat.beq p 1201 then some [13, 168] else none) else (bif Nat.ble p 1202 then (bif Nat.beq p 1202 then some [15, 168] else none) else (bif Nat.beq p 1204 then some [0, 12, 93, 140] else none))
def xwt_3_0_0_1 (p : Nat) : Option (List Nat) := bif Nat.ble p 1206 then (bif Nat.beq p 1206 then some [13, 140] else none) else (bif Nat.ble p 1208 then (bif Nat.beq p 1208 then some [0, 12, 74, 141] else none) else (bif Nat.beq p 1210 then some [13, 141] else none))
def xwt_3_0_0_2 (p : Nat) : Option (List Nat) := bif Nat.ble p 1212 then (bif Nat.beq p 1212 then some [0, 13, 51, 170] else none) else (bif Nat.ble p 1213 then (bif Nat.beq p 1213 then some [13, 170] else none) else (bif Nat.beq p 1214 then some [15, 170] else none))
def xwt_3_0_0_3 (p : Nat) : Option (List Nat) := bif Nat.ble p 1217 then (bif Nat.ble p 1216 then (bif Nat.beq p 1216 then some [0, 12, 127, 169] else none) else (bif Nat.beq p 1217 then some [14, 169] else none)) else (bif Nat.ble p 1219 then (bif Nat.beq p 1219 then some [0, 13, 56, 171] else none) else (bif Nat.beq p 1220 then some [13, 171] else none))
def xwt_3_0_0 (p : Nat) : Option (List Nat) := bif Nat.ble p 1210 then (bif Nat.ble p 1204 then (xwt_3_0_0_0 p) else (xwt_3_0_0_1 p)) else (bif Nat.ble p 1214 then (xwt_3_0_0_2 p) else (xwt_3_0_0_3 p))
def xwt_3_0_1_0 (p : Nat) : Option (List Nat) := bif Nat.ble p 1221 then (bif Nat.beq p 1221 then some [15, 171] else none) else (bif Nat.ble p 1223 then (bif Nat.beq p 1223 then some [0, 13, 63, 172] else none) else (bif Nat.beq p 1224 then some [13, 172] else none))
def xwt_3_0_1_1 (p : Nat) : Option (List Nat) := bif Nat.ble p 1225 then (bif Nat.beq p 1225 then some [15, 172] else none) else (bif Nat.ble p 1228 then (bif Nat.beq p 1228 then some [0, 13, 67, 184] else none) else (bif Nat.beq p 1229 then some [13, 184] else none))
def xwt_3_0_1_2 (p : Nat) : Option (List Nat) := bif Nat.ble p 1230 then (bif Nat.beq p 1230 then some [15, 184] else none) else (bif Nat.ble p 1232 then (bif Nat.beq p 1232 then some [0, 12, 175, 176] else none) else (bif Nat.beq p 1234 then some [13, 176] else none))
def xwt_3_0_1_3 (p : Nat) : Option (List Nat) := bif Nat.ble p 1238 then (bif Nat.ble p 1236 then (bif Nat.beq p 1236 then some [0, 12, 143, 177] else none) else (bif Nat.beq p 1238 then some [13, 177] else none)) else (bif Nat.ble p 1240 then (bif Nat.beq p 1240 then some [0, 12, 154, 178] else none) else (bif Nat.beq p 1242 then some [13, 178] else none))
def xwt_3_0_1 (p : Nat) : Option (List Nat) := bif Nat.ble p 1229 then (bif Nat.ble p 1224 then (xwt_3_0_1_0 p) else (xwt_3_0_1_1 p)) else (bif Nat.ble p 1234 then (xwt_3_0_1_2 p) else (xwt_3_0_1_3 p))
def xwt_3_0_2_0 (p : Nat) : Option (List Nat) := bif Nat.ble p 1244 then (bif Nat.beq p 1244 then some [0, 12, 157, 179] else none) else (bif Nat.ble p 1246 then (bif Nat.beq p 1246 then some [13, 179] else none) else (bif Nat.beq p 1248 then some [0, 12, 160, 180] else none))
def xwt_3_0_2_1 (p : Nat) : Option (List Nat) := bif Nat.ble p 1250 then (bif Nat.beq p 1250 then some [13, 180] else none) else (bif Nat.ble p 1252 then (bif Nat.beq p 1252 then some [0, 12, 163, 182] else none) else (bif Nat.beq p 1254 then some [13, 182] else none))
def xwt_3_0_2_2 (p : Nat) : Option (List Nat) := bif Nat.ble p 1256 then (bif Nat.beq p 1256 then some [0, 12, 147, 173] else none) else (bif Nat.ble p 1258 then (bif Nat.beq p 1258 then some [13, 173] else none) else (bif Nat.beq p 1260 then some [0, 12, 169, 174] else none))
def xwt_3_0_2_3 (p : Nat) : Option (List Nat) := bif Nat.ble p 1264 then (bif Nat.ble p 1262 then (bif Nat.beq p 1262 then some [13, 174] else none) else (bif Nat.beq p 1264 then some [0, 12, 150, 175] else none)) else (bif Nat.ble p 1266 then (bif Nat.beq p 1266 then some [13, 175] else none) else (bif Nat.beq p 1268 then some [0, 12, 172, 181] else none))
def xwt_3_0_2 (p : Nat) : Option (List Nat) := bif Nat.ble p 1254 then (bif Nat.ble p 1248 then (xwt_3_0_2_0 p) else (xwt_3_0_2_1 p)) else (bif Nat.ble p 1260 then (xwt_3_0_2_2 p) else (xwt_3_0_2_3 p))
def xwt_3_0_3_0 (p : Nat) : Option (List Nat) := bif Nat.ble p 1270 then (bif Nat.beq p 1270 then some [13, 181] else none) else (bif Nat.ble p 1272 then (bif Nat.beq p 1272 then some [0, 13, 71, 185] else none) else (bif Nat.beq p 1273 then some [13, 185] else none))
def xwt_3_0_3_1 (p : Nat) : Option (List Nat) := bif Nat.ble p 1276 then (bif Nat.ble p 1274 then (bif Nat.beq p 1274 then some [15, 185] else none) else (bif Nat.beq p 1276 then some [0, 12, 64, 183] else none)) else (bif Nat.ble p 1278 then (bif Nat.beq p 1278 then some [13, 183] else none) else (bif Nat.beq p 1280 then some [0, 13, 75, 188] else none))
def xwt_3_0_3_2 (p : Nat) : Option (List Nat) := bif Nat.ble p 1281 then (bif Nat.beq p 1281 then some [13, 188] else none) else (bif Nat.ble p 1282 then (bif Nat.beq p 1282 then some [15, 188] else none) else (bif Nat.beq p 1284 then some [0, 12, 182, 152] else none))
def xwt_3_0_3_3 (p : Nat) : Option (List Nat) := bif Nat.ble p 1288 then (bif Nat.ble p 1286 then (bif Nat.beq p 1286 then some [13, 152] else none) else (bif Nat.beq p 1288 then some [0, 12, 185, 156] else none)) else (bif Nat.ble p 1290 then (bif Nat.beq p 1290 then some [13, 156] else none) else (bif Nat.beq p 1292 then some [0, 12, 109, 155] else none))
def xwt_3_0_3 (p : Nat) : Option (List Nat) := bif Nat.ble p 1280 then (bif Nat.ble p 1273 then (xwt_3_0_3_0 p) else (xwt_3_0_3_1 p)) else (bif Nat.ble p 1284 then (xwt_3_0_3_2 p) else (xwt_3_0_3_3 p))
def xwt_3_0 (p : Nat) : Option (List Nat) := bif Nat.ble p 1242 then (bif Nat.ble p 1220 then (xwt_3_0_0 p) else (xwt_3_0_1 p)) else (bif Nat.ble p 1268 then (xwt_3_0_2 p) else (xwt_3_0_3 p))
def xwt_3_1_0_0 (p : Nat) : Option (List Nat) := bif Nat.ble p 1294 then (bif Nat.beq p 1294 then some [13, 155] else none) else (bif Nat.ble p 1296 then (bif Nat.beq p 1296 then some [0, 12, 96, 153] else none) else (bif Nat.beq p 1297 then some [14, 153] else none))
def xwt_3_1_0_1 (p : Nat) : Option (List Nat) := bif Nat.ble p 1299 then (bif Nat.beq p 1299 then some [0, 12, 99, 154] else none) else (bif Nat.ble p 1300 then (bif Nat.beq p 1300 then some [14, 154] else none) else (bif Nat.beq p 1302 then some [0, 12, 102, 151] else none))
def xwt_3_1_0_2 (p : Nat) : Option (List Nat) := bif Nat.ble p 1304 then (bif Nat.beq p 1304 then some [13, 151] else none) else (bif Nat.ble p 1306 then (bif Nat.beq p 1306 then some [0, 12, 78, 148] else none) else (bif Nat.beq p 1307 then some [14, 148] else none))
def xwt_3_1_0_3 (p : Nat) : Option (List Nat) := bif Nat.ble p 1311 then (bif Nat.ble p 1309 then (bif Nat.beq p 1309 then some [0, 12, 82, 147] else none) else (bif Nat.beq p 1311 then some [13, 147] else none)) else (bif Nat.ble p 1313 then (bif Nat.beq p 1313 then some [0, 12, 86, 149] else none) else (bif Nat.beq p 1315 then some [13, 149] else none))
def xwt_3_1_0 (p : Nat) : Option (List Nat) := bif Nat.ble p 1302 then (bif Nat.ble p 1297 then (xwt_3_1_0_0 p) else (xwt_3_1_0_1 p)) else (bif Nat.ble p 1307 then (xwt_3_1_0_2 p) else (xwt_3_1_0_3 p))
def xwt_3_1_1_0 (p : Nat) : Option (List Nat) := bif Nat.ble p 1317 then (bif Nat.beq p 1317 then some [0, 12, 90, 150] else none) else (bif Nat.ble p 1319 then (bif Nat.beq p 1319 then some [13, 150] else none) else (bif Nat.beq p 1321 then some [0, 12, 68, 187] else none))
def xwt_3_1_1_1 (p : Nat) : Option (List Nat) := bif Nat.ble p 1323 then (bif Nat.beq p 1323 then some [13, 187] else none) else (bif Nat.ble p 1325 then (bif Nat.beq p 1325 then some [0, 12, 178, 186] else none) else (bif Nat.beq p 1326 then some [14, 186] else none))
def xwt_3_1_1_2 (p : Nat) : Option (List Nat) := bif Nat.ble p 1328 then (bif Nat.beq p 1328 then some [0, 13, 79, 189] else none) else (bif Nat.ble p 1329 then (bif Nat.beq p 1329 then some [13, 189] else none) else (bif Nat.beq p 1330 then some [15, 189] else none))
def xwt_3_1_1_3 (p : Nat) : Option (List Nat) := bif Nat.ble p 1333 then (bif Nat.ble p 1332 then (bif Nat.beq p 1332 then some [0, 12, 189, 144] else none) else (bif Nat.beq p 1333 then some [14, 144] else none)) else (bif Nat.ble p 1335 then (bif Nat.beq p 1335 then some [0, 13, 83, 190] else none) else (bif Nat.beq p 1336 then some [13, 190] else none))
def xwt_3_1_1 (p : Nat) : Option (List Nat) := bif Nat.ble p 1326 then (bif Nat.ble p 1321 then (xwt_3_1_1_0 p) else (xwt_3_1_1_1 p)) else (bif Nat.ble p 1330 then (xwt_3_1_1_2 p) else (xwt_3_1_1_3 p))
def xwt_3_1_2_0 (p : Nat) : Option (List Nat) := bif Nat.ble p 1337 then (bif Nat.beq p 1337 then some [15, 190] else none) else (bif Nat.ble p 1339 then (bif Nat.beq p 1339 then some [0, 13, 87, 191] else none) else (bif Nat.beq p 1340 then some [13, 191] else none))
def xwt_3_1_2_1 (p : Nat) : Option (List Nat) := bif Nat.ble p 1341 then (bif Nat.beq p 1341 then some [15, 191] else none) else (bif Nat.ble p 1343 then (bif Nat.beq p 1343 then some [0, 12, 193, 146] else none) else (bif Nat.beq p 1345 then some [13, 146] else none))
def xwt_3_1_2_2 (p : Nat) : Option (List Nat) := bif Nat.ble p 1347 then (bif Nat.beq p 1347 then some [0, 13, 91, 193] else none) else (bif Nat.ble p 1348 then (bif Nat.beq p 1348 then some [13, 193] else none) else (bif Nat.beq p 1349 then some [15, 193] else none))
def xwt_3_1_2_3 (p : Nat) : Option (List Nat) := bif Nat.ble p 1353 then (bif Nat.ble p 1351 then (bif Nat.beq p 1351 then some [0, 12, 196, 192] else none) else (bif Nat.beq p 1353 then some [13, 192] else none)) else (bif Nat.ble p 1355 then (bif Nat.beq p 1355 then some [0, 13, 95, 194] else none) else (bif Nat.beq p 1356 then some [13, 194] else none))
def xwt_3_1_2 (p : Nat) : Option (List Nat) := bif Nat.ble p 1345 then (bif Nat.ble p 1340 then (xwt_3_1_2_0 p) else (xwt_3_1_2_1 p)) else (bif Nat.ble p 1349 then (xwt_3_1_2_2 p) else (xwt_3_1_2_3 p))
def xwt_3_1_3_0 (p : Nat) : Option (List Nat) := bif Nat.ble p 1357 then (bif Nat.beq p 1357 then some [15, 194] else none) else (bif Nat.ble p 1359 then (bif Nat.beq p 1359 then some [0, 13, 99, 195] else none) else (bif Nat.beq p 1360 then some [13, 195] else none))
def xwt_3_1_3_1 (p : Nat) : Option (List Nat) := bif Nat.ble p 1363 then (bif Nat.ble p 1361 then (bif Nat.beq p 1361 then some [15, 195] else none) else (bif Nat.beq p 1363 then some [0, 12, 200, 157] else none)) else (bif Nat.ble p 1365 then (bif Nat.beq p 1365 then some [13, 157] else none) else (bif Nat.beq p 1367 then some [0, 12, 203, 158] else none))
def xwt_3_1_3_2 (p : Nat) : Option (List Nat) := bif Nat.ble p 1369 then (bif Nat.beq p 1369 then some [13, 158] else none) else (bif Nat.ble p 1371 then (bif Nat.beq p 1371 then some [0, 13, 103, 197] else none) else (bif Nat.beq p 1372 then some [13, 197] else none))
def xwt_3_1_3_3 (p : Nat) : Option (List Nat) := bif Nat.ble p 1375 then (bif Nat.ble p 1373 then (bif Nat.beq p 1373 then some [15, 197] else none) else (bif Nat.beq p 1375 then some [0, 12, 209, 196] else none)) else (bif Nat.ble p 1377 then (bif Nat.beq p 1377 then some [13, 196] else none) else (bif Nat.beq p 1379 then some [0, 13, 107, 199] else none))
def xwt_3_1_3 (p : Nat) : Option (List Nat) := bif Nat.ble p 1367 then (bif Nat.ble p 1360 then (xwt_3_1_3_0 p) else (xwt_3_1_3_1 p)) else (bif Nat.ble p 1372 then (xwt_3_1_3_2 p) else (xwt_3_1_3_3 p))
def xwt_3_1 (p : Nat) : Option (List Nat) := bif Nat.ble p 1336 then (bif Nat.ble p 1315 then (xwt_3_1_0 p) else (xwt_3_1_1 p)) else (bif Nat.ble p 1356 then (xwt_3_1_2 p) else (xwt_3_1_3 p))
def xwt_3_2_0_0 (p : Nat) : Option (List Nat) := bif Nat.ble p 1380 then (bif Nat.beq p 1380 then some [13, 199] else none) else (bif Nat.ble p 1381 then (bif Nat.beq p 1381 then some [15, 199] else none) else (bif Nat.beq p 1383 then some [0, 12, 212, 198] else none))
def xwt_3_2_0_1 (p : Nat) : Option (List Nat) := bif Nat.ble p 1385 then (bif Nat.beq p 1385 then some [13, 198] else none) else (bif Nat.ble p 1387 then (bif Nat.beq p 1387 then some [0, 13, 111, 200] else none) else (bif Nat.beq p 1388 then some [13, 200] else none))
def xwt_3_2_0_2 (p : Nat) : Option (List Nat) := bif Nat.ble p 1389 then (bif Nat.beq p 1389 then some [15, 200] else none) else (bif Nat.ble p 1391 then (bif Nat.beq p 1391 then some [0, 12, 215, 193] else none) else (bif Nat.beq p 1392 then some [0, 13, 115, 201] else none))
def xwt_3_2_0_3 (p : Nat) : Option (List Nat) := bif Nat.ble p 1394 then (bif Nat.ble p 1393 then (bif Nat.beq p 1393 then some [13, 201] else none) else (bif Nat.beq p 1394 then some [15, 201] else none)) else (bif Nat.ble p 1396 then (bif Nat.beq p 1396 then some [0, 13, 119, 206] else none) else (bif Nat.beq p 1397 then some [13, 206] else none))
def xwt_3_2_0 (p : Nat) : Option (List Nat) := bif Nat.ble p 1388 then (bif Nat.ble p 1383 then (xwt_3_2_0_0 p) else (xwt_3_2_0_1 p)) else (bif Nat.ble p 1392 then (xwt_3_2_0_2 p) else (xwt_3_2_0_3 p))
def xwt_3_2_1_0 (p : Nat) : Option (List Nat) := bif Nat.ble p 1398 then (bif Nat.beq p 1398 then some [15, 206] else none) else (bif Nat.ble p 1400 then (bif Nat.beq p 1400 then some [0, 12, 234, 205] else none) else (bif Nat.beq p 1402 then some [13, 205] else none))
def xwt_3_2_1_1 (p : Nat) : Option (List Nat) := bif Nat.ble p 1404 then (bif Nat.beq p 1404 then some [0, 12, 228, 204] else none) else (bif Nat.ble p 1406 then (bif Nat.beq p 1406 then some [13, 204] else none) else (bif Nat.beq p 1408 then some [0, 12, 221, 202] else none))
def xwt_3_2_1_2 (p : Nat) : Option (List Nat) := bif Nat.ble p 1410 then (bif Nat.beq p 1410 then some [13, 202] else none) else (bif Nat.ble p 1412 then (bif Nat.beq p 1412 then some [0, 12, 231, 203] else none) else (bif Nat.beq p 1414 then some [13, 203] else none))
def xwt_3_2_1_3 (p : Nat) : Option (List Nat) := bif Nat.ble p 1417 then (bif Nat.ble p 1416 then (bif Nat.beq p 1416 then some [0, 13, 123, 207] else none) else (bif Nat.beq p 1417 then some [13, 207] else none)) else (bif Nat.ble p 1418 then (bif Nat.beq p 1418 then some [15, 207] else none) else (bif Nat.beq p 1421 then some [0, 13, 127, 208] else none))
def xwt_3_2_1 (p : Nat) : Option (List Nat) := bif Nat.ble p 1408 then (bif Nat.ble p 1402 then (xwt_3_2_1_0 p) else (xwt_3_2_1_1 p)) else (bif Nat.ble p 1414 then (xwt_3_2_1_2 p) else (xwt_3_2_1_3 p))
def xwt_3_2_2_0 (p : Nat) : Option (List Nat) := bif Nat.ble p 1422 then (bif Nat.beq p 1422 then some [13, 208] else none) else (bif Nat.ble p 1423 then (bif Nat.beq p 1423 then some [15, 208] else none) else (bif Nat.beq p 1425 then some [0, 13, 131, 211] else none))
def xwt_3_2_2_1 (p : Nat) : Option (List Nat) := bif Nat.ble p 1426 then (bif Nat.beq p 1426 then some [13, 211] else none) else (bif Nat.ble p 1427 then (bif Nat.beq p 1427 then some [15, 211] else none) else (bif Nat.beq p 1429 then some [0, 12, 242, 210] else none))
def xwt_3_2_2_2 (p : Nat) : Option (List Nat) := bif Nat.ble p 1431 then (bif Nat.beq p 1431 then some [13, 210] else none) else (bif Nat.ble p 1433 then (bif Nat.beq p 1433 then some [0, 12, 238, 209] else none) else (bif Nat.beq p 1435 then some [13, 209] else none))
def xwt_3_2_2_3 (p : Nat) : Option (List Nat) := bif Nat.ble p 1438 then (bif Nat.ble p 1437 then (bif Nat.beq p 1437 then some [0, 13, 135, 212] else none) else (bif Nat.beq p 1438 then some [13, 212] else none)) else (bif Nat.ble p 1439 then (bif Nat.beq p 1439 then some [15, 212] else none) else (bif Nat.beq p 1441 then some [0, 13, 139, 213] else none))
def xwt_3_2_2 (p : Nat) : Option (List Nat) := bif Nat.ble p 1429 then (bif Nat.ble p 1425 then (xwt_3_2_2_0 p) else (xwt_3_2_2_1 p)) else (bif Nat.ble p 1435 then (xwt_3_2_2_2 p) else (xwt_3_2_2_3 p))
def xwt_3_2_3_0 (p : Nat) : Option (List Nat) := bif Nat.ble p 1442 then (bif Nat.beq p 1442 then some [13, 213] else none) else (bif Nat.ble p 1443 then (bif Nat.beq p 1443 then some [15, 213] else none) else (bif Nat.beq p 1445 then some [0, 13, 144, 216] else none))
def xwt_3_2_3_1 (p : Nat) : Option (List Nat) := bif Nat.ble p 1447 then (bif Nat.ble p 1446 then (bif Nat.beq p 1446 then some [13, 216] else none) else (bif Nat.beq p 1447 then some [15, 216] else none)) else (bif Nat.ble p 1449 then (bif Nat.beq p 1449 then some [0, 12, 248, 215] else none) else (bif Nat.beq p 1451 then some [13, 215] else none))
def xwt_3_2_3_2 (p : Nat) : Option (List Nat) := bif Nat.ble p 1453 then (bif Nat.beq p 1453 then some [0, 12, 251, 214] else none) else (bif Nat.ble p 1455 then (bif Nat.beq p 1455 then some [13, 214] else none) else (bif Nat.beq p 1457 then some [0, 12, 245, 137] else none))
def xwt_3_2_3_3 (p : Nat) : Option (List Nat) := bif Nat.ble p 1460 then (bif Nat.ble p 1458 then (bif Nat.beq p 1458 then some [14, 137] else none) else (bif Nat.beq p 1460 then some [0, 13, 148, 217] else none)) else (bif Nat.ble p 1461 then (bif Nat.beq p 1461 then some [13, 217] else none) else (bif Nat.beq p 1462 then some [15, 217] else none))
def xwt_3_2_3 (p : Nat) : Option (List Nat) := bif Nat.ble p 1451 then (bif Nat.ble p 1445 then (xwt_3_2_3_0 p) else (xwt_3_2_3_1 p)) else (bif Nat.ble p 1457 then (xwt_3_2_3_2 p) else (xwt_3_2_3_3 p))
def xwt_3_2 (p : Nat) : Option (List Nat) := bif Nat.ble p 1421 then (bif Nat.ble p 1397 then (xwt_3_2_0 p) else (xwt_3_2_1 p)) else (bif Nat.ble p 1441 then (xwt_3_2_2 p) else (xwt_3_2_3 p))
def xwt_3_3_0_0 (p : Nat) : Option (List Nat) := bif Nat.ble p 1464 then (bif Nat.beq p 1464 then some [0, 13, 152, 225] else none) else (bif Nat.ble p 1465 then (bif Nat.beq p 1465 then some [13, 225] else none) else (bif Nat.beq p 1466 then some [15, 225] else none))
def xwt_3_3_0_1 (p : Nat) : Option (List Nat) := bif Nat.ble p 1468 then (bif Nat.beq p 1468 then some [0, 12, 270, 220] else none) else (bif Nat.ble p 1470 then (bif Nat.beq p 1470 then some [13, 220] else none) else (bif Nat.beq p 1472 then some [0, 12, 267, 221] else none))
def xwt_3_3_0_2 (p : Nat) : Option (List Nat) := bif Nat.ble p 1474 then (bif Nat.beq p 1474 then some [13, 221] else none) else (bif Nat.ble p 1476 then (bif Nat.beq p 1476 then some [0, 12, 261, 218] else none) else (bif Nat.beq p 1478 then some [13, 218] else none))
def xwt_3_3_0_3 (p : Nat) : Option (List Nat) := bif Nat.ble p 1481 then (bif Nat.ble p 1480 then (bif Nat.beq p 1480 then some [0, 12, 264, 219] else none) else (bif Nat.beq p 1481 then some [14, 219] else none)) else (bif Nat.ble p 1483 then (bif Nat.beq p 1483 then some [0, 12, 273, 222] else none) else (bif Nat.beq p 1485 then some [13, 222] else none))
def xwt_3_3_0 (p : Nat) : Option (List Nat) := bif Nat.ble p 1472 then (bif Nat.ble p 1466 then (xwt_3_3_0_0 p) else (xwt_3_3_0_1 p)) else (bif Nat.ble p 1478 then (xwt_3_3_0_2 p) else (xwt_3_3_0_3 p))
def xwt_3_3_1_0 (p : Nat) : Option (List Nat) := bif Nat.ble p 1487 then (bif Nat.beq p 1487 then some [0, 12, 276, 223] else none) else (bif Nat.ble p 1489 then (bif Nat.beq p 1489 then some [13, 223] else none) else (bif Nat.beq p 1491 then some [0, 12, 282, 224] else none))
def xwt_3_3_1_1 (p : Nat) : Option (List Nat) := bif Nat.ble p 1495 then (bif Nat.ble p 1493 then (bif Nat.beq p 1493 then some [13, 224] else none) else (bif Nat.beq p 1495 then some [0, 13, 156, 226] else none)) else (bif Nat.ble p 1496 then (bif Nat.beq p 1496 then some [13, 226] else none) else (bif Nat.beq p 1497 then some [15, 226] else none))
def xwt_3_3_1_2 (p : Nat) : Option (List Nat) := bif Nat.ble p 1499 then (bif Nat.beq p 1499 then some [0, 13, 160, 228] else none) else (bif Nat.ble p 1500 then (bif Nat.beq p 1500 then some [13, 228] else none) else (bif Nat.beq p 1501 then some [15, 228] else none))
def xwt_3_3_1_3 (p : Nat) : Option (List Nat) := bif Nat.ble p 1504 then (bif Nat.ble p 1503 then (bif Nat.beq p 1503 then some [0, 12, 285, 227] else none) else (bif Nat.beq p 1504 then some [14, 227] else none)) else (bif Nat.ble p 1506 then (bif Nat.beq p 1506 then some [0, 13, 164, 229] else none) else (bif Nat.beq p 1507 then some [13, 229] else none))
def xwt_3_3_1 (p : Nat) : Option (List Nat) := bif Nat.ble p 1497 then (bif Nat.ble p 1491 then (xwt_3_3_1_0 p) else (xwt_3_3_1_1 p)) else (bif Nat.ble p 1501 then (xwt_3_3_1_2 p) else (xwt_3_3_1_3 p))
def xwt_3_3_2_0 (p : Nat) : Option (List Nat) := bif Nat.ble p 1508 then (bif Nat.beq p 1508 then some [15, 229] else none) else (bif Nat.ble p 1510 then (bif Nat.beq p 1510 then some [0, 13, 168, 230] else none) else (bif Nat.beq p 1511 then some [13, 230] else none))
def xwt_3_3_2_1 (p : Nat) : Option (List Nat) := bif Nat.ble p 1512 then (bif Nat.beq p 1512 then some [15, 230] else none) else (bif Nat.ble p 1514 then (bif Nat.beq p 1514 then some [0, 13, 172, 231] else none) else (bif Nat.beq p 1515 then some [13, 231] else none))
def xwt_3_3_2_2 (p : Nat) : Option (List Nat) := bif Nat.ble p 1516 then (bif Nat.beq p 1516 then some [15, 231] else none) else (bif Nat.ble p 1518 then (bif Nat.beq p 1518 then some [0, 13, 176, 232] else none) else (bif Nat.beq p 1519 then some [13, 232] else none))
def xwt_3_3_2_3 (p : Nat) : Option (List Nat) := bif Nat.ble p 1522 then (bif Nat.ble p 1520 then (bif Nat.beq p 1520 then some [15, 232] else none) else (bif Nat.beq p 1522 then some [0, 12, 288, 138] else none)) else (bif Nat.ble p 1523 then (bif Nat.beq p 1523 then some [14, 138] else none) else (bif Nat.beq p 1525 then some [0, 13, 180, 233] else none))
def xwt_3_3_2 (p : Nat) : Option (List Nat) := bif Nat.ble p 1515 then (bif Nat.ble p 1511 then (xwt_3_3_2_0 p) else (xwt_3_3_2_1 p)) else (bif Nat.ble p 1519 then (xwt_3_3_2_2 p) else (xwt_3_3_2_3 p))
def xwt_3_3_3_0 (p : Nat) : Option (List Nat) := bif Nat.ble p 1526 then (bif Nat.beq p 1526 then some [13, 233] else none) else (bif Nat.ble p 1527 then (bif Nat.beq p 1527 then some [15, 233] else none) else (bif Nat.beq p 1529 then some [0, 13, 184, 234] else none))
def xwt_3_3_3_1 (p : Nat) : Option (List Nat) := bif Nat.ble p 1531 then (bif Nat.ble p 1530 then (bif Nat.beq p 1530 then some [13, 234] else none) else (bif Nat.beq p 1531 then some [15, 234] else none)) else (bif Nat.ble p 1533 then (bif Nat.beq p 1533 then some [0, 13, 188, 235] else none) else (bif Nat.beq p 1534 then some [13, 235] else none))
def xwt_3_3_3_2 (p : Nat) : Option (List Nat) := bif Nat.ble p 1535 then (bif Nat.beq p 1535 then some [15, 235] else none) else (bif Nat.ble p 1537 then (bif Nat.beq p 1537 then some [0, 13, 192, 236] else none) else (bif Nat.beq p 1538 then some [13, 236] else none))
def xwt_3_3_3_3 (p : Nat) : Option (List Nat) := bif Nat.ble p 1541 then (bif Nat.ble p 1539 then (bif Nat.beq p 1539 then some [15, 236] else none) else (bif Nat.beq p 1541 then some [0, 13, 196, 237] else none)) else (bif Nat.ble p 1542 then (bif Nat.beq p 1542 then some [13, 237] else none) else (bif Nat.beq p 1543 then some [15, 237] else none))
def xwt_3_3_3 (p : Nat) : Option (List Nat) := bif Nat.ble p 1534 then (bif Nat.ble p 1529 then (xwt_3_3_3_0 p) else (xwt_3_3_3_1 p)) else (bif Nat.ble p 1538 then (xwt_3_3_3_2 p) else (xwt_3_3_3_3 p))
def xwt_3_3 (p : Nat) : Option (List Nat) := bif Nat.ble p 1507 then (bif Nat.ble p 1485 then (xwt_3_3_0 p) else (xwt_3_3_1 p)) else (bif Nat.ble p 1525 then (xwt_3_3_2 p) else (xwt_3_3_3 p))
def xwt_3 (p : Nat) : Option (List Nat) := bif Nat.ble p 1379 then (bif Nat.ble p 1292 then (xwt_3_0 p) else (xwt_3_1 p)) else (bif Nat.ble p 1462 then (xwt_3_2 p) else (xwt_3_3 p))
def xwt (p : Nat) : Option (List Nat) := bif Nat.ble p 841 then (bif Nat.ble p 408 then (xwt_0 p) else (xwt_1 p)) else (bif Nat.ble p 1200 then (xwt_2 p) else (xwt_3 p))
def cdec (t : List Nat) : Cond := match t with
  | [] => .tt
  | k :: l => match Nat.beq k 0 with
    | true => (match l with
      | [a, i, c] => .methodLink (xRn a) i (xy c)
      | _ => .tt)
    | false => match Nat.beq k 1 with
      | true => (match l with
        | [a, i, c, f] => .fieldLink (xRn a) i (xT c f).1 (xT c f).2.1 (xT c f).2.2.1
        | _ => .tt)
      | false => match Nat.beq k 5 with
        | true => (match l with
          | [c] => .initialized (xRn c)
          | _ => .tt)
        | false => match Nat.beq k 13 with
          | true => (match l with
            | [c] => .instanceMethod (xy c)
            | _ => .tt)
          | false => match Nat.beq k 14 with
            | true => (match l with
              | [c] => .static (xy c)
              | _ => .tt)
            | false => (match l with
              | [c] => .selects (xRn (xo c)) (xy c) (xy c)
              | _ => .tt)
def xfq_ {β : Type} (n : Nat) (k : Nat → β) : β := match n with
  | 0 => k 0
  | m + 1 => k (m + 1)
theorem xfq_eq_ {β : Type} (n : Nat) (k : Nat → β) : xfq_ n k = k n := by cases n <;> rfl
def xwc (l : List Cond) (i : Nat) : Bool := match l with
  | [] => true
  | c :: t => (match xwt i with
    | some u => decide (c = cdec u)
    | none => true) && xfq_ (i + 1) (xwc t)
theorem xwc_ok : ∀ {l : List Cond} {i : Nat}, xwc l i = true → ∀ j c, l[j]? = some c → ∀ u, xwt (i + j) = some u → c = cdec u := by
  intro l
  induction l with
  | nil => intro i _ j c hj; cases hj
  | cons a t ih =>
    intro i h j c hj u hu
    simp only [xwc, xfq_eq_, Bool.and_eq_true] at h
    cases j with
    | zero =>
      have e : a = c := Option.some.inj hj
      subst e
      have hu : xwt i = some u := hu
      have h1 := h.1
      rw [hu] at h1
      exact of_decide_eq_true h1
    | succ j => exact ih h.2 j c hj u (by rw [show i + 1 + j = i + (j + 1) by omega]; exact hu)
theorem xwlen : lw_tbl.length = 1548 := by decide +kernel
theorem xwk0 : xwc ((lw_tbl.drop 0).take 150) 0 = true := by decide +kernel
theorem xwk1 : xwc ((lw_tbl.drop 150).take 150) 150 = true := by decide +kernel
theorem xwk2 : xwc ((lw_tbl.drop 300).take 150) 300 = true := by decide +kernel
theorem xwk3 : xwc ((lw_tbl.drop 450).take 150) 450 = true := by decide +kernel
theorem xwk4 : xwc ((lw_tbl.drop 600).take 150) 600 = true := by decide +kernel
theorem xwk5 : xwc ((lw_tbl.drop 750).take 150) 750 = true := by decide +kernel
theorem xwk6 : xwc ((lw_tbl.drop 900).take 150) 900 = true := by decide +kernel
theorem xwk7 : xwc ((lw_tbl.drop 1050).take 150) 1050 = true := by decide +kernel
theorem xwk8 : xwc ((lw_tbl.drop 1200).take 150) 1200 = true := by decide +kernel
theorem xwk9 : xwc ((lw_tbl.drop 1350).take 150) 1350 = true := by decide +kernel
theorem xwk10 : xwc ((lw_tbl.drop 1500).take 150) 1500 = true := by decide +kernel
theorem xwk_of {a b p : Nat} {u : List Nat} (h : xwc ((lw_tbl.drop a).take b) a = true) (h1 : a ≤ p) (h2 : p < a + b) (h3 : p < 1548) (hu : xwt p = some u) : lw_tbl[p]? = some (cdec u) := by
  have hl : p < lw_tbl.length := by rw [xwlen]; exact h3
  have e : lw_tbl[p]? = some lw_tbl[p] := List.getElem?_eq_getElem hl
  have k := xwc_ok h (p - a) lw_tbl[p] (by
    rw [List.getElem?_take_of_lt (by omega), List.getElem?_drop, show a + (p - a) = p by omega]
    exact e) u (by rw [show a + (p - a) = p by omega]; exact hu)
  rw [e, k]
theorem xwt_ok {p : Nat} {u : List Nat} (h3 : p < 1548) (hu : xwt p = some u) : lw_tbl[p]? = some (cdec u) := by
  by_cases q0 : p < 150
  · exact xwk_of xwk0 (by omega) (by omega) h3 hu
  by_cases q1 : p < 300
  · exact xwk_of xwk1 (by omega) (by omega) h3 hu
  by_cases q2 : p < 450
  · exact xwk_of xwk2 (by omega) (by omega) h3 hu
  by_cases q3 : p < 600
  · exact xwk_of xwk3 (by omega) (by omega) h3 hu
  by_cases q4 : p < 750
  · exact xwk_of xwk4 (by omega) (by omega) h3 hu
  by_cases q5 : p < 900
  · exact xwk_of xwk5 (by omega) (by omega) h3 hu
  by_cases q6 : p < 1050
  · exact xwk_of xwk6 (by omega) (by omega) h3 hu
  by_cases q7 : p < 1200
  · exact xwk_of xwk7 (by omega) (by omega) h3 hu
  by_cases q8 : p < 1350
  · exact xwk_of xwk8 (by omega) (by omega) h3 hu
  by_cases q9 : p < 1500
  · exact xwk_of xwk9 (by omega) (by omega) h3 hu
  by_cases q10 : p < 1650
  · exact xwk_of xwk10 (by omega) (by omega) h3 hu
  omega
def bqL (u t : List Nat) : Bool := match u, t with
  | [], [] => true
  | a :: u, b :: t => Nat.beq a b && bqL u t
  | _, _ => false
theorem bqL_ok : ∀ {u t : List Nat}, bqL u t = true → u = t := by
  intro u
  induction u with
  | nil => intro t h; cases t with
    | nil => rfl
    | cons b t => cases h
  | cons a u ih => intro t h; cases t with
    | nil => cases h
    | cons b t =>
      simp only [bqL, Bool.and_eq_true] at h
      rw [Nat.eq_of_beq_eq_true h.1, ih h.2]
def xwq (p : Nat) (t : List Nat) : Bool := Nat.ble (p + 1) 1548 && (match xwt p with
  | some u => bqL u t
  | none => false)
theorem xwq_ok {p : Nat} {t : List Nat} {c : Cond} (h : xwq p t = true) (e : cdec t = c) : decide (lw_tbl[p]? = some c) = true := by
  unfold xwq at h
  rw [Bool.and_eq_true] at h
  obtain ⟨h1, h2⟩ := h
  cases hu : xwt p with
  | none => rw [hu] at h2; cases h2
  | some u =>
    rw [hu] at h2
    rw [← e, ← bqL_ok h2]
    exact decide_eq_true (xwt_ok (Nat.le_of_ble_eq_true h1) hu)
-- ===== the methods, each once
theorem xmk0 : (List.range 30).all (fun i => xmok (0 + i)) = true := by decide +kernel
theorem xmk1 : (List.range 30).all (fun i => xmok (30 + i)) = true := by decide +kernel
theorem xmk2 : (List.range 30).all (fun i => xmok (60 + i)) = true := by decide +kernel
theorem xmk3 : (List.range 30).all (fun i => xmok (90 + i)) = true := by decide +kernel
theorem xmk4 : (List.range 30).all (fun i => xmok (120 + i)) = true := by decide +kernel
theorem xmk5 : (List.range 30).all (fun i => xmok (150 + i)) = true := by decide +kernel
theorem xmk6 : (List.range 30).all (fun i => xmok (180 + i)) = true := by decide +kernel
theorem xmk7 : (List.range 29).all (fun i => xmok (210 + i)) = true := by decide +kernel
theorem xmk_of {a b cm : Nat} (h : (List.range b).all (fun i => xmok (a + i)) = true) (h1 : a ≤ cm) (h2 : cm < a + b) : xmok cm = true := by
  have k := List.all_eq_true.mp h (cm - a) (List.mem_range.mpr (by omega))
  rwa [show a + (cm - a) = cm by omega] at k
theorem xmk {cm : Nat} (h : Nat.ble cm 238 = true) : xmok cm = true := by
  have h := Nat.le_of_ble_eq_true h
  by_cases q0 : cm < 30
  · exact xmk_of xmk0 (by omega) (by omega)
  by_cases q1 : cm < 60
  · exact xmk_of xmk1 (by omega) (by omega)
  by_cases q2 : cm < 90
  · exact xmk_of xmk2 (by omega) (by omega)
  by_cases q3 : cm < 120
  · exact xmk_of xmk3 (by omega) (by omega)
  by_cases q4 : cm < 150
  · exact xmk_of xmk4 (by omega) (by omega)
  by_cases q5 : cm < 180
  · exact xmk_of xmk5 (by omega) (by omega)
  by_cases q6 : cm < 210
  · exact xmk_of xmk6 (by omega) (by omega)
  by_cases q7 : cm < 239
  · exact xmk_of xmk7 (by omega) (by omega)
  omega
theorem xmk_cls {cm : Nat} (h : xmok cm = true) : (xy cm).cls = xRn (xo cm) := by
  unfold xmok at h
  simp only [Bool.and_eq_true, decide_eq_true_eq] at h
  exact h.2.2.2.2.2.2.1
theorem xTc : (List.range 13).all (fun ci => (List.range (xN ci)).all (fun kf => decide ((xT ci kf).1 = xRn ci))) = true := by decide +kernel
theorem xTc_ok {ci kf : Nat} (h1 : Nat.ble (ci + 1) 13 = true) (h2 : Nat.ble (kf + 1) (xN ci) = true) : decide ((xT ci kf).1 = xRn ci) = true := List.all_eq_true.mp (List.all_eq_true.mp xTc ci (List.mem_range.mpr (Nat.le_of_ble_eq_true h1))) kf (List.mem_range.mpr (Nat.le_of_ble_eq_true h2))
-- ===== the rows by numbers
def xlnkN (mi idx p cm : Nat) : Bool := match Nat.ble 5000 p with
  | true => decide (xnest[p - 5000]? = some (xo mi, idx, cm))
  | false => xwq p [0, xo mi, idx, cm]
theorem xlnkN_ok {mi idx p cm : Nat} (h : xlnkN mi idx p cm = true) : xlnk mi idx p cm = true := by
  unfold xlnkN at h
  unfold xlnk
  cases e : Nat.ble 5000 p with
  | true => rw [e] at h; exact h
  | false => rw [e] at h; exact xwq_ok h rfl
def xfsN (mi idx : Nat) (ax : List Nat) : Bool := match ax with
  | [p, ci, kf] => xwq p [1, xo mi, idx, ci, kf] && (Nat.ble (ci + 1) 13 && Nat.ble (kf + 1) (xN ci))
  | _ => false
def xivN (mi idx k : Nat) (ax : List Nat) : Bool := match ax with
  | [p, cm, a, b] => xlnkN mi idx p cm && (xwq a [k, cm] && (xwq b [5, xo cm] && Nat.ble cm 238))
  | _ => false
def xvvN (mi idx : Nat) (ax : List Nat) : Bool := match ax with
  | [p, cm, a, b, d] => xlnkN mi idx p cm && (xwq a [13, cm] && (xwq b [5, xo cm] && (xwq d [15, cm] && Nat.ble cm 238)))
  | _ => false
/-- which rows may go by numbers -/
def xnum (i : Instr) (ax : List Nat) : Bool := match i with
  | .getfield _ => true
  | .putfield _ => true
  | .invokestatic _ => (match ax with
    | [_, cm, _, _] => Nat.ble cm 899
    | _ => false)
  | .invokevirtual _ => (match ax with
    | [_, _, _, _, _] => true
    | _ => false)
  | .invokespecial _ => (match ax with
    | [_, cm, _, _] => Nat.ble cm 899
    | _ => false)
  | _ => false
def xauQ (mi : Nat) (i : Instr) (ax : List Nat) : Bool := match i with
  | .getfield idx => xfsN mi idx ax
  | .putfield idx => xfsN mi idx ax
  | .invokestatic idx => xivN mi idx 14 ax
  | .invokevirtual idx => xvvN mi idx ax
  | .invokespecial idx => xivN mi idx 13 ax && (match ax with
    | [_, cm, _, _] => decide ((xy cm).name = "<init>") && decide (xr cm = none)
    | _ => false)
  | _ => false
def xauN (mi : Nat) (i : Instr) (ln : Nat) (ax : List Nat) : Bool := match xnum i ax with
  | true => Nat.beq ln 3 && xauQ mi i ax
  | false => xau mi i ln ax
theorem xini {b cm : Nat} (hm : xmok cm = true) (h : xwq b [5, xo cm] = true) : decide (lw_tbl[b]? = some (.initialized (xy cm).cls)) = true := by
  rw [xmk_cls hm]
  exact xwq_ok h rfl
theorem xauN_ok {mi : Nat} {i : Instr} {ln : Nat} {ax : List Nat} (h : xauN mi i ln ax = true) : xau mi i ln ax = true := by
  unfold xauN at h
  cases hn : xnum i ax with
  | false => rw [hn] at h; exact h
  | true =>
  rw [hn] at h
  simp only [Bool.and_eq_true] at h
  obtain ⟨hl, h⟩ := h
  cases i with
  | getfield idx =>
    simp only [xauQ] at h
    unfold xfsN at h
    split at h
    · rename_i p ci kf
      simp only [Bool.and_eq_true] at h
      simp only [xau, Bool.and_eq_true]
      exact ⟨hl, xwq_ok h.1 rfl, h.2.1, h.2.2⟩
    · cases h
  | putfield idx =>
    simp only [xauQ] at h
    unfold xfsN at h
    split at h
    · rename_i p ci kf
      simp only [Bool.and_eq_true] at h
      simp only [xau, Bool.and_eq_true]
      exact ⟨hl, xwq_ok h.1 rfl, h.2.1, h.2.2, xTc_ok h.2.1 h.2.2⟩
    · cases h
  | invokestatic idx =>
    simp only [xauQ] at h
    unfold xivN at h
    split at h
    · rename_i p cm a b
      simp only [Bool.and_eq_true] at h
      have hm := xmk h.2.2.2
      simp only [xau, Bool.and_eq_true]
      exact ⟨hl, xlnkN_ok h.1, xwq_ok h.2.1 rfl, xini hm h.2.2.1, hm⟩
    · cases h
  | invokevirtual idx =>
    simp only [xauQ] at h
    unfold xvvN at h
    split at h
    · rename_i p cm a b d
      simp only [Bool.and_eq_true] at h
      have hm := xmk h.2.2.2.2
      simp only [xau, Bool.and_eq_true]
      exact ⟨hl, xlnkN_ok h.1, xwq_ok h.2.1 rfl, xini hm h.2.2.1, xwq_ok h.2.2.2.1 rfl, decide_eq_true (xmk_cls hm), hm⟩
    · cases h
  | invokespecial idx =>
    simp only [xauQ, Bool.and_eq_true] at h
    obtain ⟨h, h9⟩ := h
    unfold xivN at h
    split at h
    · rename_i p cm a b
      simp only [Bool.and_eq_true] at h h9
      have hm := xmk h.2.2.2
      have e9 : Nat.beq cm 900 = false := by
        have hn : Nat.ble cm 899 = true := hn
        have := Nat.le_of_ble_eq_true hn
        cases e : Nat.beq cm 900 with
        | false => rfl
        | true =>
          have := Nat.eq_of_beq_eq_true e
          omega
      simp only [xau, e9, Bool.and_eq_true]
      exact ⟨hl, xlnkN_ok h.1, xwq_ok h.2.1 rfl, xini hm h.2.2.1, h9.1, h9.2, hm⟩
    · cases h
  | _ => cases hn
def xEbN (mi pc : Nat) (e : Instr × Nat × List Nat) : Bool := decide (decode (xb mi) pc = .ok (e.1, e.2.1)) && (xlnb e.1 e.2.1 && xauN mi e.1 e.2.1 e.2.2)
theorem xEbN_ok {mi pc : Nat} {e : Instr × Nat × List Nat} (h : xEbN mi pc e = true) : xEb mi pc e = true := by
  unfold xEbN at h
  unfold xEb
  simp only [Bool.and_eq_true] at h ⊢
  exact ⟨h.1, h.2.1, xauN_ok h.2.2⟩
theorem xtk0 : (List.range 20).all (fun i => (List.range 360).all (fun pc => match xcd0 (0 + i) pc with | none => true | some e => xEbN (0 + i) pc e)) = true := by decide +kernel
theorem xtk1 : (List.range 20).all (fun i => (List.range 360).all (fun pc => match xcd0 (20 + i) pc with | none => true | some e => xEbN (20 + i) pc e)) = true := by decide +kernel
theorem xtk2 : (List.range 20).all (fun i => (List.range 360).all (fun pc => match xcd0 (40 + i) pc with | none => true | some e => xEbN (40 + i) pc e)) = true := by decide +kernel
theorem xtk3 : (List.range 20).all (fun i => (List.range 360).all (fun pc => match xcd0 (60 + i) pc with | none => true | some e => xEbN (60 + i) pc e)) = true := by decide +kernel
theorem xtk4 : (List.range 20).all (fun i => (List.range 360).all (fun pc => match xcd0 (80 + i) pc with | none => true | some e => xEbN (80 + i) pc e)) = true := by decide +kernel
theorem xtk5 : (List.range 20).all (fun i => (List.range 360).all (fun pc => match xcd0 (100 + i) pc with | none => true | some e => xEbN (100 + i) pc e)) = true := by decide +kernel
theorem xtk6 : (List.range 20).all (fun i => (List.range 360).all (fun pc => match xcd0 (120 + i) pc with | none => true | some e => xEbN (120 + i) pc e)) = true := by decide +kernel
theorem xtk7 : (List.range 20).all (fun i => (List.range 360).all (fun pc => match xcd0 (140 + i) pc with | none => true | some e => xEbN (140 + i) pc e)) = true := by decide +kernel
theorem xtk8 : (List.range 20).all (fun i => (List.range 360).all (fun pc => match xcd0 (160 + i) pc with | none => true | some e => xEbN (160 + i) pc e)) = true := by decide +kernel
theorem xtk9 : (List.range 20).all (fun i => (List.range 360).all (fun pc => match xcd0 (180 + i) pc with | none => true | some e => xEbN (180 + i) pc e)) = true := by decide +kernel
theorem xtk10 : (List.range 20).all (fun i => (List.range 360).all (fun pc => match xcd0 (200 + i) pc with | none => true | some e => xEbN (200 + i) pc e)) = true := by decide +kernel
theorem xtk11 : (List.range 19).all (fun i => (List.range 360).all (fun pc => match xcd0 (220 + i) pc with | none => true | some e => xEbN (220 + i) pc e)) = true := by decide +kernel
theorem xtkL0 : (List.range 100).all (fun i => match xc239 (0 + i) with | none => true | some e => xEbN 239 (0 + i) e) = true := by decide +kernel
theorem xtkL1 : (List.range 100).all (fun i => match xc239 (100 + i) with | none => true | some e => xEbN 239 (100 + i) e) = true := by decide +kernel
theorem xtkL2 : (List.range 100).all (fun i => match xc239 (200 + i) with | none => true | some e => xEbN 239 (200 + i) e) = true := by decide +kernel
theorem xtkL3 : (List.range 100).all (fun i => match xc239 (300 + i) with | none => true | some e => xEbN 239 (300 + i) e) = true := by decide +kernel
theorem xtkL4 : (List.range 100).all (fun i => match xc239 (400 + i) with | none => true | some e => xEbN 239 (400 + i) e) = true := by decide +kernel
theorem xtkL5 : (List.range 100).all (fun i => match xc239 (500 + i) with | none => true | some e => xEbN 239 (500 + i) e) = true := by decide +kernel
theorem xtkL6 : (List.range 100).all (fun i => match xc239 (600 + i) with | none => true | some e => xEbN 239 (600 + i) e) = true := by decide +kernel
theorem xtkL7 : (List.range 100).all (fun i => match xc239 (700 + i) with | none => true | some e => xEbN 239 (700 + i) e) = true := by decide +kernel
theorem xtkL8 : (List.range 100).all (fun i => match xc239 (800 + i) with | none => true | some e => xEbN 239 (800 + i) e) = true := by decide +kernel
theorem xtkL9 : (List.range 100).all (fun i => match xc239 (900 + i) with | none => true | some e => xEbN 239 (900 + i) e) = true := by decide +kernel
theorem xtkL10 : (List.range 100).all (fun i => match xc239 (1000 + i) with | none => true | some e => xEbN 239 (1000 + i) e) = true := by decide +kernel
theorem xtkL11 : (List.range 100).all (fun i => match xc239 (1100 + i) with | none => true | some e => xEbN 239 (1100 + i) e) = true := by decide +kernel
theorem xtkL12 : (List.range 100).all (fun i => match xc239 (1200 + i) with | none => true | some e => xEbN 239 (1200 + i) e) = true := by decide +kernel
theorem xtkL13 : (List.range 100).all (fun i => match xc239 (1300 + i) with | none => true | some e => xEbN 239 (1300 + i) e) = true := by decide +kernel
theorem xtkL14 : (List.range 100).all (fun i => match xc239 (1400 + i) with | none => true | some e => xEbN 239 (1400 + i) e) = true := by decide +kernel
theorem xtkL15 : (List.range 100).all (fun i => match xc239 (1500 + i) with | none => true | some e => xEbN 239 (1500 + i) e) = true := by decide +kernel
theorem xtkL16 : (List.range 100).all (fun i => match xc239 (1600 + i) with | none => true | some e => xEbN 239 (1600 + i) e) = true := by decide +kernel
theorem xtkL_of {b a pc : Nat} {e : Instr × Nat × List Nat} (h : (List.range b).all (fun i => match xc239 (a + i) with | none => true | some e => xEbN 239 (a + i) e) = true) (h1 : a ≤ pc) (h2 : pc < a + b) (he : xc239 pc = some e) : xEb 239 pc e = true := by
  have h4 := List.all_eq_true.mp h (pc - a) (List.mem_range.mpr (by omega))
  rw [show a + (pc - a) = pc by omega, he] at h4
  exact xEbN_ok h4
theorem xtk_of {b a M mi pc : Nat} {e : Instr × Nat × List Nat} (h : (List.range b).all (fun i => (List.range M).all (fun pc => match xcd0 (a + i) pc with | none => true | some e => xEbN (a + i) pc e)) = true) (h1 : a ≤ mi) (h2 : mi < a + b) (h3 : pc < M) (he : xcd0 mi pc = some e) : xEb mi pc e = true := by
  have h4 := List.all_eq_true.mp (List.all_eq_true.mp h (mi - a) (List.mem_range.mpr (by omega))) pc (List.mem_range.mpr h3)
  rw [show a + (mi - a) = mi by omega, he] at h4
  exact xEbN_ok h4
theorem xtok : xTok := by
  intro mi pc e he
  unfold xcd at he
  cases h1 : Nat.ble mi 238 with
  | true =>
    rw [h1] at he
    simp only [cond_true] at he
    cases h2 : Nat.ble pc 359 with
    | false => rw [h2] at he; cases he
    | true =>
      rw [h2] at he
      simp only [cond_true] at he
      have h1 := Nat.le_of_ble_eq_true h1
      have h2 := Nat.le_of_ble_eq_true h2
      by_cases q0 : mi < 20
      · exact xtk_of xtk0 (by omega) (by omega) (by omega) he
      by_cases q1 : mi < 40
      · exact xtk_of xtk1 (by omega) (by omega) (by omega) he
      by_cases q2 : mi < 60
      · exact xtk_of xtk2 (by omega) (by omega) (by omega) he
      by_cases q3 : mi < 80
      · exact xtk_of xtk3 (by omega) (by omega) (by omega) he
      by_cases q4 : mi < 100
      · exact xtk_of xtk4 (by omega) (by omega) (by omega) he
      by_cases q5 : mi < 120
      · exact xtk_of xtk5 (by omega) (by omega) (by omega) he
      by_cases q6 : mi < 140
      · exact xtk_of xtk6 (by omega) (by omega) (by omega) he
      by_cases q7 : mi < 160
      · exact xtk_of xtk7 (by omega) (by omega) (by omega) he
      by_cases q8 : mi < 180
      · exact xtk_of xtk8 (by omega) (by omega) (by omega) he
      by_cases q9 : mi < 200
      · exact xtk_of xtk9 (by omega) (by omega) (by omega) he
      by_cases q10 : mi < 220
      · exact xtk_of xtk10 (by omega) (by omega) (by omega) he
      by_cases q11 : mi < 239
      · exact xtk_of xtk11 (by omega) (by omega) (by omega) he
      omega
  | false =>
    rw [h1] at he
    simp only [cond_false] at he
    cases h3 : Nat.beq mi 239 with
    | false => rw [h3] at he; cases he
    | true =>
      rw [h3] at he
      simp only [cond_true] at he
      cases h2 : Nat.ble pc 1683 with
      | false => rw [h2] at he; cases he
      | true =>
        rw [h2] at he
        simp only [cond_true] at he
        have h2 := Nat.le_of_ble_eq_true h2
        rw [Nat.eq_of_beq_eq_true h3]
        by_cases q0 : pc < 100
        · exact xtkL_of xtkL0 (by omega) (by omega) he
        by_cases q1 : pc < 200
        · exact xtkL_of xtkL1 (by omega) (by omega) he
        by_cases q2 : pc < 300
        · exact xtkL_of xtkL2 (by omega) (by omega) he
        by_cases q3 : pc < 400
        · exact xtkL_of xtkL3 (by omega) (by omega) he
        by_cases q4 : pc < 500
        · exact xtkL_of xtkL4 (by omega) (by omega) he
        by_cases q5 : pc < 600
        · exact xtkL_of xtkL5 (by omega) (by omega) he
        by_cases q6 : pc < 700
        · exact xtkL_of xtkL6 (by omega) (by omega) he
        by_cases q7 : pc < 800
        · exact xtkL_of xtkL7 (by omega) (by omega) he
        by_cases q8 : pc < 900
        · exact xtkL_of xtkL8 (by omega) (by omega) he
        by_cases q9 : pc < 1000
        · exact xtkL_of xtkL9 (by omega) (by omega) he
        by_cases q10 : pc < 1100
        · exact xtkL_of xtkL10 (by omega) (by omega) he
        by_cases q11 : pc < 1200
        · exact xtkL_of xtkL11 (by omega) (by omega) he
        by_cases q12 : pc < 1300
        · exact xtkL_of xtkL12 (by omega) (by omega) he
        by_cases q13 : pc < 1400
        · exact xtkL_of xtkL13 (by omega) (by omega) he
        by_cases q14 : pc < 1500
        · exact xtkL_of xtkL14 (by omega) (by omega) he
        by_cases q15 : pc < 1600
        · exact xtkL_of xtkL15 (by omega) (by omega) he
        by_cases q16 : pc < 1700
        · exact xtkL_of xtkL16 (by omega) (by omega) he
        omega
