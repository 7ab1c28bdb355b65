-- ===== what each place keeps
def bItx : List (List (Nat × bN)) := [[(1, .inr [.index 1]), (1, .inr [.index 74]), (1, .inr [.index 147]), (1, .inr [.index 152]), (1, .inr [.index 155]), (1, .inr [.index 305]), (1, .inr [.index 310]), (1, .inr [.index 313]), (1, .inr [.index 314]), (1, .inr [.index 316]), (1, .inr [.index 318]), (1, .inr [.index 320]), (1, .inr [.index 322]), (1, .inr [.index 323]), (1, .inl (-2147483648, 2147483647))],
  [(1, .inr [.index 2]), (1, .inr [.index 3]), (1, .inr [.index 4]), (1, .inr [.index 5]), (1, .inr [.index 7]), (1, .inr [.index 9]), (1, .inr [.index 11]), (1, .inr [.index 13]), (1, .inr [.index 15]), (1, .inl (0, 12)), (1, .inl (0, 8)), (1, .inl (-2147483648, 2147483647)), (1, .inl (0, 2147483647)), (1, .inl (-2147483648, 2147483647)), (1, .inr [.index 33])],
  [(1, .inr [.index 34]), (1, .inr [.index 36]), (1, .inr [.index 38]), (1, .inr [.index 40]), (1, .inr [.index 42]), (1, .inr [.index 44]), (1, .inr [.index 46]), (1, .inr [.index 48]), (1, .inr [.index 50]), (1, .inr [.index 52]), (1, .inr [.index 54]), (1, .inr [.index 56])],
  [(1, .inr [.index 58]), (1, .inr [.index 59]), (1, .inr [.index 60]), (1, .inr [.index 61]), (1, .inr [.index 62]), (1, .inr [.index 63]), (1, .inr [.index 64]), (1, .inr [.index 65])],
  [(1, .inr [.index 66]), (1, .inr [.index 70])],
  [(1, .inr [.index 6]), (1, .inl (0, 60))],
  [(60, .inl (0, 255))],
  [(1, .inr [.index 8]), (1, .inl (0, 24))],
  [(24, .inl (-2147483648, 2147483647))],
  [(1, .inr [.index 10]), (1, .inl (0, 10))],
  [(10, .inl (0, 11))],
  [(1, .inr [.index 12]), (1, .inl (0, 10))],
  [(10, .inl (0, 7))],
  [(1, .inr [.index 14]), (1, .inl (0, 10))],
  [(10, .inl (-2147483648, 2147483647))],
  [(1, .inr [.index 16]), (1, .inl (0, 7)), (1, .inl (0, 8))],
  [(1, .inr [.index 17]), (1, .inr [.index 19]), (1, .inr [.index 21]), (1, .inr [.index 23]), (1, .inr [.index 25]), (1, .inr [.index 27]), (1, .inr [.index 29]), (1, .inr [.index 31])],
  [(1, .inr [.index 18]), (1, .inl (0, 12))],
  [(12, .inl (-2147483648, 2147483647))],
  [(1, .inr [.index 20]), (1, .inl (0, 12))],
  [(12, .inl (-2147483648, 2147483647))],
  [(1, .inr [.index 22]), (1, .inl (0, 12))],
  [(12, .inl (-2147483648, 2147483647))],
  [(1, .inr [.index 24]), (1, .inl (0, 12))],
  [(12, .inl (-2147483648, 2147483647))],
  [(1, .inr [.index 26]), (1, .inl (0, 12))],
  [(12, .inl (-2147483648, 2147483647))],
  [(1, .inr [.index 28]), (1, .inl (0, 12))],
  [(12, .inl (-2147483648, 2147483647))],
  [(1, .inr [.index 30]), (1, .inl (0, 12))],
  [(12, .inl (-2147483648, 2147483647))],
  [(1, .inr [.index 32]), (1, .inl (0, 12))],
  [(12, .inl (-2147483648, 2147483647))],
  [(4, .inl (0, 0))],
  [(1, .inr [.index 35]), (1, .inl (0, 12))],
  [(12, .inl (-2147483648, 2147483647))],
  [(1, .inr [.index 37]), (1, .inl (0, 12))],
  [(12, .inl (-2147483648, 2147483647))],
  [(1, .inr [.index 39]), (1, .inl (0, 12))],
  [(12, .inl (-2147483648, 2147483647))],
  [(1, .inr [.index 41]), (1, .inl (0, 12))],
  [(12, .inl (-2147483648, 2147483647))],
  [(1, .inr [.index 43]), (1, .inl (0, 12))],
  [(12, .inl (-2147483648, 2147483647))],
  [(1, .inr [.index 45]), (1, .inl (0, 12))],
  [(12, .inl (-2147483648, 2147483647))],
  [(1, .inr [.index 47]), (1, .inl (0, 12))],
  [(12, .inl (-2147483648, 2147483647))],
  [(1, .inr [.index 49]), (1, .inl (0, 12))],
  [(12, .inl (-2147483648, 2147483647))],
  [(1, .inr [.index 51]), (1, .inl (0, 12))],
  [(12, .inl (-2147483648, 2147483647))],
  [(1, .inr [.index 53]), (1, .inl (0, 12))],
  [(12, .inl (-2147483648, 2147483647))],
  [(1, .inr [.index 55]), (1, .inl (0, 12))],
  [(12, .inl (-2147483648, 2147483647))],
  [(1, .inr [.index 57]), (1, .inl (0, 12))],
  [(12, .inl (-2147483648, 2147483647))],
  [(3, .inl (0, 20))],
  [(3, .inl (0, 20))],
  [(3, .inl (0, 20))],
  [(3, .inl (0, 20))],
  [(3, .inl (0, 20))],
  [(3, .inl (0, 20))],
  [(3, .inl (0, 20))],
  [(3, .inl (0, 20))],
  [(1, .inr [.index 67]), (1, .inr [.index 69])],
  [(1, .inr [.index 68]), (1, .inl (0, 0))],
  [(60, .inl (0, 0))],
  [(60, .inl (0, 0))],
  [(1, .inr [.index 71]), (1, .inr [.index 73])],
  [(1, .inr [.index 72]), (1, .inl (0, 0))],
  [(60, .inl (0, 0))],
  [(60, .inl (0, 0))],
  [(1, .inr [.index 75]), (1, .inr [.index 76]), (1, .inr [.index 77]), (1, .inr [.index 78]), (1, .inr [.index 80]), (1, .inr [.index 82]), (1, .inr [.index 84]), (1, .inr [.index 86]), (1, .inr [.index 88]), (1, .inl (0, 12)), (1, .inl (0, 8)), (1, .inl (-2147483648, 2147483647)), (1, .inl (0, 2147483647)), (1, .inl (-2147483648, 2147483647)), (1, .inr [.index 106])],
  [(1, .inr [.index 107]), (1, .inr [.index 109]), (1, .inr [.index 111]), (1, .inr [.index 113]), (1, .inr [.index 115]), (1, .inr [.index 117]), (1, .inr [.index 119]), (1, .inr [.index 121]), (1, .inr [.index 123]), (1, .inr [.index 125]), (1, .inr [.index 127]), (1, .inr [.index 129])],
  [(1, .inr [.index 131]), (1, .inr [.index 132]), (1, .inr [.index 133]), (1, .inr [.index 134]), (1, .inr [.index 135]), (1, .inr [.index 136]), (1, .inr [.index 137]), (1, .inr [.index 138])],
  [(1, .inr [.index 139]), (1, .inr [.index 143])],
  [(1, .inr [.index 79]), (1, .inl (0, 60))],
  [(60, .inl (0, 255))],
  [(1, .inr [.index 81]), (1, .inl (0, 24))],
  [(24, .inl (-2147483648, 2147483647))],
  [(1, .inr [.index 83]), (1, .inl (0, 10))],
  [(10, .inl (0, 11))],
  [(1, .inr [.index 85]), (1, .inl (0, 10))],
  [(10, .inl (0, 7))],
  [(1, .inr [.index 87]), (1, .inl (0, 10))],
  [(10, .inl (-2147483648, 2147483647))],
  [(1, .inr [.index 89]), (1, .inl (0, 7)), (1, .inl (0, 8))],
  [(1, .inr [.index 90]), (1, .inr [.index 92]), (1, .inr [.index 94]), (1, .inr [.index 96]), (1, .inr [.index 98]), (1, .inr [.index 100]), (1, .inr [.index 102]), (1, .inr [.index 104])],
  [(1, .inr [.index 91]), (1, .inl (0, 12))],
  [(12, .inl (-2147483648, 2147483647))],
  [(1, .inr [.index 93]), (1, .inl (0, 12))],
  [(12, .inl (-2147483648, 2147483647))],
  [(1, .inr [.index 95]), (1, .inl (0, 12))],
  [(12, .inl (-2147483648, 2147483647))],
  [(1, .inr [.index 97]), (1, .inl (0, 12))],
  [(12, .inl (-2147483648, 2147483647))],
  [(1, .inr [.index 99]), (1, .inl (0, 12))],
  [(12, .inl (-2147483648, 2147483647))],
  [(1, .inr [.index 101]), (1, .inl (0, 12))],
  [(12, .inl (-2147483648, 2147483647))],
  [(1, .inr [.index 103]), (1, .inl (0, 12))],
  [(12, .inl (-2147483648, 2147483647))],
  [(1, .inr [.index 105]), (1, .inl (0, 12))],
  [(12, .inl (-2147483648, 2147483647))],
  [(4, .inl (0, 0))],
  [(1, .inr [.index 108]), (1, .inl (0, 12))],
  [(12, .inl (-2147483648, 2147483647))],
  [(1, .inr [.index 110]), (1, .inl (0, 12))],
  [(12, .inl (-2147483648, 2147483647))],
  [(1, .inr [.index 112]), (1, .inl (0, 12))],
  [(12, .inl (-2147483648, 2147483647))],
  [(1, .inr [.index 114]), (1, .inl (0, 12))],
  [(12, .inl (-2147483648, 2147483647))],
  [(1, .inr [.index 116]), (1, .inl (0, 12))],
  [(12, .inl (-2147483648, 2147483647))],
  [(1, .inr [.index 118]), (1, .inl (0, 12))],
  [(12, .inl (-2147483648, 2147483647))],
  [(1, .inr [.index 120]), (1, .inl (0, 12))],
  [(12, .inl (-2147483648, 2147483647))],
  [(1, .inr [.index 122]), (1, .inl (0, 12))],
  [(12, .inl (-2147483648, 2147483647))],
  [(1, .inr [.index 124]), (1, .inl (0, 12))],
  [(12, .inl (-2147483648, 2147483647))],
  [(1, .inr [.index 126]), (1, .inl (0, 12))],
  [(12, .inl (-2147483648, 2147483647))],
  [(1, .inr [.index 128]), (1, .inl (0, 12))],
  [(12, .inl (-2147483648, 2147483647))],
  [(1, .inr [.index 130]), (1, .inl (0, 12))],
  [(12, .inl (-2147483648, 2147483647))],
  [(3, .inl (0, 20))],
  [(3, .inl (0, 20))],
  [(3, .inl (0, 20))],
  [(3, .inl (0, 20))],
  [(3, .inl (0, 20))],
  [(3, .inl (0, 20))],
  [(3, .inl (0, 20))],
  [(3, .inl (0, 20))],
  [(1, .inr [.index 140]), (1, .inr [.index 142])],
  [(1, .inr [.index 141]), (1, .inl (0, 0))],
  [(60, .inl (0, 0))],
  [(60, .inl (0, 0))],
  [(1, .inr [.index 144]), (1, .inr [.index 146])],
  [(1, .inr [.index 145]), (1, .inl (0, 0))],
  [(60, .inl (0, 0))],
  [(60, .inl (0, 0))],
  [(1, .inr [.index 148]), (1, .inr [.index 150]), (1, .inr [.null]), (1, .inl (0, 0))],
  [(1, .inr [.index 149]), (1, .inl (0, 0))],
  [(60, .inl (0, 0))],
  [(1, .inr [.index 151]), (1, .inl (0, 0))],
  [],
  [(1, .inr [.index 153, .index 318]), (1, .inl (0, 2147483647)), (1, .inl (0, 12))],
  [(1, .inr [.index 154]), (1, .inl (0, 0))],
  [(12, .inl (0, 0))],
  [(1, .inr [.index 156]), (1, .inr [.index 157]), (1, .inl (0, 73))],
  [(1, .inr [.index 159]), (1, .inr [.index 161]), (1, .inr [.index 163]), (1, .inr [.index 165]), (1, .inr [.index 167]), (1, .inr [.index 169]), (1, .inr [.index 171]), (1, .inr [.index 173]), (1, .inr [.index 175]), (1, .inr [.index 177]), (1, .inr [.index 179]), (1, .inr [.index 181]), (1, .inr [.index 183]), (1, .inr [.index 185]), (1, .inr [.index 187]), (1, .inr [.index 189]), (1, .inr [.index 191]), (1, .inr [.index 193]), (1, .inr [.index 195]), (1, .inr [.index 197]), (1, .inr [.index 199]), (1, .inr [.index 201]), (1, .inr [.index 203]), (1, .inr [.index 205]), (1, .inr [.index 207]), (1, .inr [.index 209]), (1, .inr [.index 211]), (1, .inr [.index 213]), (1, .inr [.index 215]), (1, .inr [.index 217]), (1, .inr [.index 219]), (1, .inr [.index 221]), (1, .inr [.index 223]), (1, .inr [.index 225]), (1, .inr [.index 227]), (1, .inr [.index 229]), (1, .inr [.index 231]), (1, .inr [.index 233]), (1, .inr [.index 235]), (1, .inr [.index 237]), (1, .inr [.index 239]), (1, .inr [.index 241]), (1, .inr [.index 243]), (1, .inr [.index 245]), (1, .inr [.index 247]), (1, .inr [.index 249]), (1, .inr [.index 251]), (1, .inr [.index 253]), (1, .inr [.index 255]), (1, .inr [.index 257]), (1, .inr [.index 259]), (1, .inr [.index 261]), (1, .inr [.index 263]), (1, .inr [.index 265]), (1, .inr [.index 267]), (1, .inr [.index 269]), (1, .inr [.index 271]), (1, .inr [.index 273]), (1, .inr [.index 275]), (1, .inr [.index 277]), (1, .inr [.index 279]), (1, .inr [.index 281]), (1, .inr [.index 283]), (1, .inr [.index 285]), (1, .inr [.index 287]), (1, .inr [.index 289]), (1, .inr [.index 291]), (1, .inr [.index 293]), (1, .inr [.index 295]), (1, .inr [.index 297]), (1, .inr [.index 299]), (1, .inr [.index 301]), (1, .inr [.index 303])],
  [(1, .inr [.index 158]), (1, .inl (0, 12))],
  [(12, .inl (-2147483648, 2147483647))],
  [(1, .inr [.index 160]), (1, .inl (0, 12))],
  [(12, .inl (-2147483648, 2147483647))],
  [(1, .inr [.index 162]), (1, .inl (0, 12))],
  [(12, .inl (-2147483648, 2147483647))],
  [(1, .inr [.index 164]), (1, .inl (0, 12))],
  [(12, .inl (-2147483648, 2147483647))],
  [(1, .inr [.index 166]), (1, .inl (0, 12))],
  [(12, .inl (-2147483648, 2147483647))],
  [(1, .inr [.index 168]), (1, .inl (0, 12))],
  [(12, .inl (-2147483648, 2147483647))],
  [(1, .inr [.index 170]), (1, .inl (0, 12))],
  [(12, .inl (-2147483648, 2147483647))],
  [(1, .inr [.index 172]), (1, .inl (0, 12))],
  [(12, .inl (-2147483648, 2147483647))],
  [(1, .inr [.index 174]), (1, .inl (0, 12))],
  [(12, .inl (-2147483648, 2147483647))],
  [(1, .inr [.index 176]), (1, .inl (0, 12))],
  [(12, .inl (-2147483648, 2147483647))],
  [(1, .inr [.index 178]), (1, .inl (0, 12))],
  [(12, .inl (-2147483648, 2147483647))],
  [(1, .inr [.index 180]), (1, .inl (0, 12))],
  [(12, .inl (-2147483648, 2147483647))],
  [(1, .inr [.index 182]), (1, .inl (0, 12))],
  [(12, .inl (-2147483648, 2147483647))],
  [(1, .inr [.index 184]), (1, .inl (0, 12))],
  [(12, .inl (-2147483648, 2147483647))],
  [(1, .inr [.index 186]), (1, .inl (0, 12))],
  [(12, .inl (-2147483648, 2147483647))],
  [(1, .inr [.index 188]), (1, .inl (0, 12))],
  [(12, .inl (-2147483648, 2147483647))],
  [(1, .inr [.index 190]), (1, .inl (0, 12))],
  [(12, .inl (-2147483648, 2147483647))],
  [(1, .inr [.index 192]), (1, .inl (0, 12))],
  [(12, .inl (-2147483648, 2147483647))],
  [(1, .inr [.index 194]), (1, .inl (0, 12))],
  [(12, .inl (-2147483648, 2147483647))],
  [(1, .inr [.index 196]), (1, .inl (0, 12))],
  [(12, .inl (-2147483648, 2147483647))],
  [(1, .inr [.index 198]), (1, .inl (0, 12))],
  [(12, .inl (-2147483648, 2147483647))],
  [(1, .inr [.index 200]), (1, .inl (0, 12))],
  [(12, .inl (-2147483648, 2147483647))],
  [(1, .inr [.index 202]), (1, .inl (0, 12))],
  [(12, .inl (-2147483648, 2147483647))],
  [(1, .inr [.index 204]), (1, .inl (0, 12))],
  [(12, .inl (-2147483648, 2147483647))],
  [(1, .inr [.index 206]), (1, .inl (0, 12))],
  [(12, .inl (-2147483648, 2147483647))],
  [(1, .inr [.index 208]), (1, .inl (0, 12))],
  [(12, .inl (-2147483648, 2147483647))],
  [(1, .inr [.index 210]), (1, .inl (0, 12))],
  [(12, .inl (-2147483648, 2147483647))],
  [(1, .inr [.index 212]), (1, .inl (0, 12))],
  [(12, .inl (-2147483648, 2147483647))],
  [(1, .inr [.index 214]), (1, .inl (0, 12))],
  [(12, .inl (-2147483648, 2147483647))],
  [(1, .inr [.index 216]), (1, .inl (0, 12))],
  [(12, .inl (-2147483648, 2147483647))],
  [(1, .inr [.index 218]), (1, .inl (0, 12))],
  [(12, .inl (-2147483648, 2147483647))],
  [(1, .inr [.index 220]), (1, .inl (0, 12))],
  [(12, .inl (-2147483648, 2147483647))],
  [(1, .inr [.index 222]), (1, .inl (0, 12))],
  [(12, .inl (-2147483648, 2147483647))],
  [(1, .inr [.index 224]), (1, .inl (0, 12))],
  [(12, .inl (-2147483648, 2147483647))],
  [(1, .inr [.index 226]), (1, .inl (0, 12))],
  [(12, .inl (-2147483648, 2147483647))],
  [(1, .inr [.index 228]), (1, .inl (0, 12))],
  [(12, .inl (-2147483648, 2147483647))],
  [(1, .inr [.index 230]), (1, .inl (0, 12))],
  [(12, .inl (-2147483648, 2147483647))],
  [(1, .inr [.index 232]), (1, .inl (0, 12))],
  [(12, .inl (-2147483648, 2147483647))],
  [(1, .inr [.index 234]), (1, .inl (0, 12))],
  [(12, .inl (-2147483648, 2147483647))],
  [(1, .inr [.index 236]), (1, .inl (0, 12))],
  [(12, .inl (-2147483648, 2147483647))],
  [(1, .inr [.index 238]), (1, .inl (0, 12))],
  [(12, .inl (-2147483648, 2147483647))],
  [(1, .inr [.index 240]), (1, .inl (0, 12))],
  [(12, .inl (-2147483648, 2147483647))],
  [(1, .inr [.index 242]), (1, .inl (0, 12))],
  [(12, .inl (-2147483648, 2147483647))],
  [(1, .inr [.index 244]), (1, .inl (0, 12))],
  [(12, .inl (-2147483648, 2147483647))],
  [(1, .inr [.index 246]), (1, .inl (0, 12))],
  [(12, .inl (-2147483648, 2147483647))],
  [(1, .inr [.index 248]), (1, .inl (0, 12))],
  [(12, .inl (-2147483648, 2147483647))],
  [(1, .inr [.index 250]), (1, .inl (0, 12))],
  [(12, .inl (-2147483648, 2147483647))],
  [(1, .inr [.index 252]), (1, .inl (0, 12))],
  [(12, .inl (-2147483648, 2147483647))],
  [(1, .inr [.index 254]), (1, .inl (0, 12))],
  [(12, .inl (-2147483648, 2147483647))],
  [(1, .inr [.index 256]), (1, .inl (0, 12))],
  [(12, .inl (-2147483648, 2147483647))],
  [(1, .inr [.index 258]), (1, .inl (0, 12))],
  [(12, .inl (-2147483648, 2147483647))],
  [(1, .inr [.index 260]), (1, .inl (0, 12))],
  [(12, .inl (-2147483648, 2147483647))],
  [(1, .inr [.index 262]), (1, .inl (0, 12))],
  [(12, .inl (-2147483648, 2147483647))],
  [(1, .inr [.index 264]), (1, .inl (0, 12))],
  [(12, .inl (-2147483648, 2147483647))],
  [(1, .inr [.index 266]), (1, .inl (0, 12))],
  [(12, .inl (-2147483648, 2147483647))],
  [(1, .inr [.index 268]), (1, .inl (0, 12))],
  [(12, .inl (-2147483648, 2147483647))],
  [(1, .inr [.index 270]), (1, .inl (0, 12))],
  [(12, .inl (-2147483648, 2147483647))],
  [(1, .inr [.index 272]), (1, .inl (0, 12))],
  [(12, .inl (-2147483648, 2147483647))],
  [(1, .inr [.index 274]), (1, .inl (0, 12))],
  [(12, .inl (-2147483648, 2147483647))],
  [(1, .inr [.index 276]), (1, .inl (0, 12))],
  [(12, .inl (-2147483648, 2147483647))],
  [(1, .inr [.index 278]), (1, .inl (0, 12))],
  [(12, .inl (-2147483648, 2147483647))],
  [(1, .inr [.index 280]), (1, .inl (0, 12))],
  [(12, .inl (-2147483648, 2147483647))],
  [(1, .inr [.index 282]), (1, .inl (0, 12))],
  [(12, .inl (-2147483648, 2147483647))],
  [(1, .inr [.index 284]), (1, .inl (0, 12))],
  [(12, .inl (-2147483648, 2147483647))],
  [(1, .inr [.index 286]), (1, .inl (0, 12))],
  [(12, .inl (-2147483648, 2147483647))],
  [(1, .inr [.index 288]), (1, .inl (0, 12))],
  [(12, .inl (-2147483648, 2147483647))],
  [(1, .inr [.index 290]), (1, .inl (0, 12))],
  [(12, .inl (-2147483648, 2147483647))],
  [(1, .inr [.index 292]), (1, .inl (0, 12))],
  [(12, .inl (-2147483648, 2147483647))],
  [(1, .inr [.index 294]), (1, .inl (0, 12))],
  [(12, .inl (-2147483648, 2147483647))],
  [(1, .inr [.index 296]), (1, .inl (0, 12))],
  [(12, .inl (-2147483648, 2147483647))],
  [(1, .inr [.index 298]), (1, .inl (0, 12))],
  [(12, .inl (-2147483648, 2147483647))],
  [(1, .inr [.index 300]), (1, .inl (0, 12))],
  [(12, .inl (-2147483648, 2147483647))],
  [(1, .inr [.index 302]), (1, .inl (0, 12))],
  [(12, .inl (-2147483648, 2147483647))],
  [(1, .inr [.index 304]), (1, .inl (0, 12))],
  [(12, .inl (-2147483648, 2147483647))],
  [(1, .inr [.index 306]), (1, .inr [.index 308]), (1, .inl (-20, 2147483647)), (1, .inl (-20, 80)), (2, .inl (-1, 59)), (1, .inl (-20, 2147483647)), (1, .inl (-20, 80))],
  [(1, .inr [.index 307]), (1, .inl (0, 1))],
  [(1, .inl (-2147483648, 2147483647)), (11, .inl (0, 0))],
  [(1, .inr [.index 309]), (1, .inl (0, 1))],
  [(12, .inl (-2147483648, 2147483647))],
  [(1, .inr [.index 311]), (4, .inl (0, 0))],
  [(1, .inr [.index 312]), (1, .inl (0, 0))],
  [(30, .inl (0, 0))],
  [(1, .inr [.index 324]), (1, .inr [.index 326]), (1, .inr [.index 328]), (1, .inr [.index 330])],
  [(1, .inr [.index 315]), (1, .inl (0, 4))],
  [(4, .inl (0, 7))],
  [(1, .inr [.index 317]), (1, .inl (0, 4))],
  [(4, .inl (0, 7))],
  [(1, .inr [.index 319]), (1, .inl (0, 12))],
  [(12, .inl (-2147483648, 2147483647))],
  [(1, .inr [.index 321]), (1, .inl (0, 12))],
  [(12, .inl (-2147483648, 2147483647))],
  [(1, .inr [.index 332]), (1, .inr [.index 334]), (1, .inr [.index 336])],
  [(1, .inl (0, 0)), (5, .inl (-2147483648, 2147483647)), (1, .inl (0, 0))],
  [(1, .inr [.index 325]), (1, .inl (0, 39)), (1, .inl (0, 24))],
  [(24, .inl (-2147483648, 2147483647))],
  [(1, .inr [.index 327]), (1, .inl (0, 39)), (1, .inl (0, 24))],
  [(24, .inl (-2147483648, 2147483647))],
  [(1, .inr [.index 329]), (1, .inl (0, 39)), (1, .inl (0, 24))],
  [(24, .inl (-2147483648, 2147483647))],
  [(1, .inr [.index 331]), (1, .inl (0, 39)), (1, .inl (0, 24))],
  [(24, .inl (-2147483648, 2147483647))],
  [(1, .inr [.index 333]), (1, .inl (0, 12))],
  [(12, .inl (-2147483648, 2147483647))],
  [(1, .inr [.index 335]), (1, .inl (0, 12))],
  [(12, .inl (-2147483648, 2147483647))],
  [(1, .inr [.index 337]), (1, .inl (0, 12))],
  [(12, .inl (-2147483648, 2147483647))],
  [(1, .inr [.index 339]), (1, .inr [.index 340]), (1, .inl (-2147483648, 2147483647)), (1, .inr [.index 341]), (1, .inr [.index 342]), (1, .inr [.index 343]), (1, .inr [.index 344]), (4, .inl (-2147483648, 2147483647)), (1, .inr [.index 345]), (1, .inr [.index 346]), (1, .inr [.index 347]), (1, .inr [.index 348]), (3, .inl (-2147483648, 2147483647)), (1, .inr [.index 349]), (3, .inl (-2147483648, 2147483647)), (1, .inr [.index 350]), (1, .inr [.index 351]), (1, .inr [.index 352]), (1, .inr [.index 353])],
  [(768, .inl (-2147483648, 2147483647))],
  [(768, .inl (-2147483648, 2147483647))],
  [(7, .inl (-2147483648, 2147483647))],
  [(13, .inl (-2147483648, 2147483647))],
  [(13, .inl (-2147483648, 2147483647))],
  [(13, .inl (-2147483648, 2147483647))],
  [(124, .inl (-2147483648, 2147483647))],
  [(128, .inl (-2147483648, 2147483647))],
  [(64, .inl (-2147483648, 2147483647))],
  [(1040, .inl (-2147483648, 2147483647))],
  [(30, .inl (-2147483648, 2147483647))],
  [(4, .inl (-2147483648, 2147483647))],
  [(4, .inl (-2147483648, 2147483647))],
  [(96, .inl (-2147483648, 2147483647))],
  [(24, .inl (-2147483648, 2147483647))]]
noncomputable def bIx (i j : Nat) : Option bN := match xhg bItx i with
  | none => none
  | some l => bseg l j
-- ===== meeting places
def bmpx2 (pc : Nat) : Nat := bif Nat.beq pc 7 then 172 else bif Nat.beq pc 14 then 172 else bif Nat.beq pc 61 then 69 else bif Nat.beq pc 79 then 87 else bif Nat.beq pc 93 then 109 else bif Nat.beq pc 100 then 109 else bif Nat.beq pc 111 then 166 else bif Nat.beq pc 116 then 166 else 99999
def bmpx3 (pc : Nat) : Nat := bif Nat.beq pc 39 then 99999 else 99999
def bmpx5 (pc : Nat) : Nat := bif Nat.beq pc 13 then 99999 else bif Nat.beq pc 29 then 44 else bif Nat.beq pc 36 then 44 else bif Nat.beq pc 61 then 69 else bif Nat.beq pc 69 then 77 else bif Nat.beq pc 81 then 99999 else bif Nat.beq pc 91 then 115 else bif Nat.beq pc 96 then 115 else bif Nat.beq pc 109 then 115 else bif Nat.beq pc 127 then 135 else bif Nat.beq pc 143 then 154 else 99999
def bmpx6 (pc : Nat) : Nat := bif Nat.beq pc 45 then 113 else bif Nat.beq pc 65 then 107 else bif Nat.beq pc 70 then 83 else bif Nat.beq pc 75 then 83 else bif Nat.beq pc 89 then 102 else bif Nat.beq pc 94 then 102 else bif Nat.beq pc 114 then 127 else bif Nat.beq pc 119 then 127 else 99999
def bmpx7 (pc : Nat) : Nat := bif Nat.beq pc 11 then 99999 else 99999
def bmpx8 (pc : Nat) : Nat := bif Nat.beq pc 16 then 99999 else bif Nat.beq pc 26 then 34 else bif Nat.beq pc 38 then 99999 else bif Nat.beq pc 59 then 72 else bif Nat.beq pc 64 then 72 else bif Nat.beq pc 77 then 93 else bif Nat.beq pc 85 then 93 else 99999
def bmpx9 (pc : Nat) : Nat := bif Nat.beq pc 21 then 58 else 99999
def bmpx10 (pc : Nat) : Nat := bif Nat.beq pc 3 then 99999 else bif Nat.beq pc 19 then 27 else bif Nat.beq pc 32 then 40 else bif Nat.beq pc 40 then 48 else 99999
def bmpx13 (pc : Nat) : Nat := bif Nat.beq pc 1 then 99999 else bif Nat.beq pc 9 then 99999 else 99999
def bmpx16 (pc : Nat) : Nat := bif Nat.beq pc 16 then 59 else bif Nat.beq pc 32 then 53 else 99999
def bmpx17 (pc : Nat) : Nat := bif Nat.beq pc 7 then 58 else 99999
def bmpx18 (pc : Nat) : Nat := bif Nat.beq pc 7 then 99999 else bif Nat.beq pc 20 then 99999 else bif Nat.beq pc 36 then 62 else 99999
def bmpx32 (pc : Nat) : Nat := bif Nat.beq pc 1 then 27 else bif Nat.beq pc 13 then 27 else 99999
def bmpx33 (pc : Nat) : Nat := bif Nat.beq pc 1 then 30 else bif Nat.beq pc 14 then 30 else 99999
def bmpx35 (pc : Nat) : Nat := bif Nat.beq pc 5 then 22 else bif Nat.beq pc 14 then 22 else 99999
def bmpx38 (pc : Nat) : Nat := bif Nat.beq pc 9 then 99999 else 99999
def bmpx40 (pc : Nat) : Nat := bif Nat.beq pc 16 then 99999 else bif Nat.beq pc 31 then 99999 else bif Nat.beq pc 50 then 58 else 99999
def bmpx41 (pc : Nat) : Nat := bif Nat.beq pc 5 then 13 else 99999
def bmpx42 (pc : Nat) : Nat := bif Nat.beq pc 9 then 39 else bif Nat.beq pc 27 then 33 else 99999
def bmpx43 (pc : Nat) : Nat := bif Nat.beq pc 7 then 63 else bif Nat.beq pc 39 then 57 else 99999
def bmpx44 (pc : Nat) : Nat := bif Nat.beq pc 7 then 43 else 99999
def bmpx45 (pc : Nat) : Nat := bif Nat.beq pc 11 then 49 else 99999
def bmpx46 (pc : Nat) : Nat := bif Nat.beq pc 13 then 50 else bif Nat.beq pc 20 then 44 else 99999
def bmpx48 (pc : Nat) : Nat := bif Nat.beq pc 4 then 12 else 99999
def bmpx49 (pc : Nat) : Nat := bif Nat.beq pc 18 then 34 else 99999
def bmpx50 (pc : Nat) : Nat := bif Nat.beq pc 6 then 29 else bif Nat.beq pc 20 then 29 else 99999
def bmpx51 (pc : Nat) : Nat := bif Nat.beq pc 1 then 31 else bif Nat.beq pc 13 then 31 else bif Nat.beq pc 23 then 31 else 99999
def bmpx65 (pc : Nat) : Nat := bif Nat.beq pc 35 then 99999 else bif Nat.beq pc 59 then 99999 else 99999
def bmpx66 (pc : Nat) : Nat := bif Nat.beq pc 4 then 108 else 99999
def bmpx68 (pc : Nat) : Nat := bif Nat.beq pc 14 then 40 else 99999
def bmpx71 (pc : Nat) : Nat := bif Nat.beq pc 43 then 124 else bif Nat.beq pc 59 then 118 else 99999
def bmpx74 (pc : Nat) : Nat := bif Nat.beq pc 9 then 99999 else 99999
def bmpx78 (pc : Nat) : Nat := bif Nat.beq pc 9 then 99999 else bif Nat.beq pc 15 then 99999 else bif Nat.beq pc 44 then 71 else 99999
def bmpx80 (pc : Nat) : Nat := bif Nat.beq pc 1 then 99999 else bif Nat.beq pc 7 then 99999 else bif Nat.beq pc 32 then 99999 else 99999
def bmpx81 (pc : Nat) : Nat := bif Nat.beq pc 9 then 99999 else bif Nat.beq pc 14 then 99999 else 99999
def bmpx84 (pc : Nat) : Nat := bif Nat.beq pc 2 then 99999 else bif Nat.beq pc 8 then 99999 else bif Nat.beq pc 31 then 99999 else bif Nat.beq pc 46 then 78 else 99999
def bmpx87 (pc : Nat) : Nat := bif Nat.beq pc 20 then 99999 else 99999
def bmpx88 (pc : Nat) : Nat := bif Nat.beq pc 20 then 99999 else bif Nat.beq pc 69 then 77 else 99999
def bmpx89 (pc : Nat) : Nat := bif Nat.beq pc 12 then 99999 else bif Nat.beq pc 33 then 65 else 99999
def bmpx90 (pc : Nat) : Nat := bif Nat.beq pc 28 then 99999 else 99999
def bmpx92 (pc : Nat) : Nat := bif Nat.beq pc 17 then 99999 else bif Nat.beq pc 22 then 99999 else 99999
def bmpx93 (pc : Nat) : Nat := bif Nat.beq pc 20 then 99999 else bif Nat.beq pc 25 then 99999 else bif Nat.beq pc 63 then 99999 else 99999
def bmpx94 (pc : Nat) : Nat := bif Nat.beq pc 9 then 99999 else bif Nat.beq pc 14 then 99999 else 99999
def bmpx96 (pc : Nat) : Nat := bif Nat.beq pc 9 then 99999 else bif Nat.beq pc 14 then 99999 else bif Nat.beq pc 34 then 50 else 99999
def bmpx97 (pc : Nat) : Nat := bif Nat.beq pc 20 then 99999 else bif Nat.beq pc 35 then 99999 else bif Nat.beq pc 107 then 120 else 99999
def bmpx98 (pc : Nat) : Nat := bif Nat.beq pc 32 then 43 else 99999
def bmpx99 (pc : Nat) : Nat := bif Nat.beq pc 1 then 99999 else bif Nat.beq pc 8 then 99999 else 99999
def bmpx100 (pc : Nat) : Nat := bif Nat.beq pc 20 then 99999 else 99999
def bmpx101 (pc : Nat) : Nat := bif Nat.beq pc 34 then 99999 else bif Nat.beq pc 72 then 97 else 99999
def bmpx102 (pc : Nat) : Nat := bif Nat.beq pc 2 then 99999 else bif Nat.beq pc 8 then 99999 else bif Nat.beq pc 29 then 99999 else bif Nat.beq pc 42 then 58 else 99999
def bmpx103 (pc : Nat) : Nat := bif Nat.beq pc 12 then 99999 else 99999
def bmpx104 (pc : Nat) : Nat := bif Nat.beq pc 1 then 99999 else bif Nat.beq pc 10 then 99999 else bif Nat.beq pc 19 then 99999 else bif Nat.beq pc 25 then 99999 else bif Nat.beq pc 32 then 99999 else bif Nat.beq pc 37 then 99999 else bif Nat.beq pc 43 then 99999 else bif Nat.beq pc 64 then 99999 else bif Nat.beq pc 79 then 99999 else bif Nat.beq pc 133 then 99999 else bif Nat.beq pc 139 then 159 else bif Nat.beq pc 162 then 182 else bif Nat.beq pc 186 then 199 else 99999
def bmpx107 (pc : Nat) : Nat := bif Nat.beq pc 1 then 99999 else 99999
def bmpx108 (pc : Nat) : Nat := bif Nat.beq pc 8 then 99999 else bif Nat.beq pc 14 then 99999 else bif Nat.beq pc 20 then 99999 else bif Nat.beq pc 26 then 99999 else bif Nat.beq pc 40 then 99999 else bif Nat.beq pc 56 then 99999 else 99999
def bmpx109 (pc : Nat) : Nat := bif Nat.beq pc 36 then 99999 else bif Nat.beq pc 45 then 99999 else 99999
def bmpx110 (pc : Nat) : Nat := bif Nat.beq pc 68 then 99999 else 99999
def bmpx111 (pc : Nat) : Nat := bif Nat.beq pc 66 then 108 else bif Nat.beq pc 73 then 108 else 99999
def bmpx113 (pc : Nat) : Nat := bif Nat.beq pc 4 then 99999 else 99999
def bmpx115 (pc : Nat) : Nat := bif Nat.beq pc 20 then 99999 else 99999
def bmpx116 (pc : Nat) : Nat := bif Nat.beq pc 1 then 99999 else 99999
def bmpx117 (pc : Nat) : Nat := bif Nat.beq pc 2 then 99999 else bif Nat.beq pc 8 then 99999 else 99999
def bmpx119 (pc : Nat) : Nat := bif Nat.beq pc 2 then 99999 else bif Nat.beq pc 20 then 99999 else 99999
def bmpx120 (pc : Nat) : Nat := bif Nat.beq pc 1 then 20 else bif Nat.beq pc 12 then 20 else 99999
def bmpx121 (pc : Nat) : Nat := bif Nat.beq pc 1 then 20 else bif Nat.beq pc 12 then 20 else 99999
def bmpx122 (pc : Nat) : Nat := bif Nat.beq pc 1 then 14 else bif Nat.beq pc 6 then 14 else 99999
def bmpx123 (pc : Nat) : Nat := bif Nat.beq pc 1 then 15 else bif Nat.beq pc 7 then 15 else 99999
def bmpx124 (pc : Nat) : Nat := bif Nat.beq pc 1 then 15 else bif Nat.beq pc 7 then 15 else 99999
def bmpx125 (pc : Nat) : Nat := bif Nat.beq pc 1 then 14 else bif Nat.beq pc 6 then 14 else 99999
def bmpx126 (pc : Nat) : Nat := bif Nat.beq pc 1 then 99999 else bif Nat.beq pc 34 then 48 else bif Nat.beq pc 40 then 48 else 99999
def bmpx128 (pc : Nat) : Nat := bif Nat.beq pc 14 then 70 else bif Nat.beq pc 54 then 64 else 99999
def bmpx129 (pc : Nat) : Nat := bif Nat.beq pc 5 then 13 else bif Nat.beq pc 16 then 99999 else bif Nat.beq pc 53 then 102 else 99999
def bmpx130 (pc : Nat) : Nat := bif Nat.beq pc 1 then 27 else bif Nat.beq pc 7 then 27 else bif Nat.beq pc 13 then 27 else bif Nat.beq pc 19 then 27 else 99999
def bmpx131 (pc : Nat) : Nat := bif Nat.beq pc 3 then 17 else bif Nat.beq pc 9 then 17 else 99999
def bmpx133 (pc : Nat) : Nat := bif Nat.beq pc 3 then 99999 else bif Nat.beq pc 13 then 99999 else bif Nat.beq pc 22 then 99999 else bif Nat.beq pc 31 then 43 else 99999
def bmpx (mi pc : Nat) : Nat := bif Nat.ble mi 87 then (bif Nat.ble mi 41 then (bif Nat.ble mi 13 then (bif Nat.ble mi 6 then (bif Nat.ble mi 3 then (bif Nat.ble mi 2 then (bmpx2 pc) else (bmpx3 pc)) else (bif Nat.ble mi 5 then (bmpx5 pc) else (bmpx6 pc))) else (bif Nat.ble mi 8 then (bif Nat.ble mi 7 then (bmpx7 pc) else (bmpx8 pc)) else (bif Nat.ble mi 9 then (bmpx9 pc) else (bif Nat.ble mi 10 then (bmpx10 pc) else (bmpx13 pc))))) else (bif Nat.ble mi 32 then (bif Nat.ble mi 17 then (bif Nat.ble mi 16 then (bmpx16 pc) else (bmpx17 pc)) else (bif Nat.ble mi 18 then (bmpx18 pc) else (bmpx32 pc))) else (bif Nat.ble mi 35 then (bif Nat.ble mi 33 then (bmpx33 pc) else (bmpx35 pc)) else (bif Nat.ble mi 38 then (bmpx38 pc) else (bif Nat.ble mi 40 then (bmpx40 pc) else (bmpx41 pc)))))) else (bif Nat.ble mi 51 then (bif Nat.ble mi 45 then (bif Nat.ble mi 43 then (bif Nat.ble mi 42 then (bmpx42 pc) else (bmpx43 pc)) else (bif Nat.ble mi 44 then (bmpx44 pc) else (bmpx45 pc))) else (bif Nat.ble mi 48 then (bif Nat.ble mi 46 then (bmpx46 pc) else (bmpx48 pc)) else (bif Nat.ble mi 49 then (bmpx49 pc) else (bif Nat.ble mi 50 then (bmpx50 pc) else (bmpx51 pc))))) else (bif Nat.ble mi 74 then (bif Nat.ble mi 66 then (bif Nat.ble mi 65 then (bmpx65 pc) else (bmpx66 pc)) else (bif Nat.ble mi 68 then (bmpx68 pc) else (bif Nat.ble mi 71 then (bmpx71 pc) else (bmpx74 pc)))) else (bif Nat.ble mi 80 then (bif Nat.ble mi 78 then (bmpx78 pc) else (bmpx80 pc)) else (bif Nat.ble mi 81 then (bmpx81 pc) else (bif Nat.ble mi 84 then (bmpx84 pc) else (bmpx87 pc))))))) else (bif Nat.ble mi 109 then (bif Nat.ble mi 98 then (bif Nat.ble mi 92 then (bif Nat.ble mi 89 then (bif Nat.ble mi 88 then (bmpx88 pc) else (bmpx89 pc)) else (bif Nat.ble mi 90 then (bmpx90 pc) else (bmpx92 pc))) else (bif Nat.ble mi 94 then (bif Nat.ble mi 93 then (bmpx93 pc) else (bmpx94 pc)) else (bif Nat.ble mi 96 then (bmpx96 pc) else (bif Nat.ble mi 97 then (bmpx97 pc) else (bmpx98 pc))))) else (bif Nat.ble mi 102 then (bif Nat.ble mi 100 then (bif Nat.ble mi 99 then (bmpx99 pc) else (bmpx100 pc)) else (bif Nat.ble mi 101 then (bmpx101 pc) else (bmpx102 pc))) else (bif Nat.ble mi 104 then (bif Nat.ble mi 103 then (bmpx103 pc) else (bmpx104 pc)) else (bif Nat.ble mi 107 then (bmpx107 pc) else (bif Nat.ble mi 108 then (bmpx108 pc) else (bmpx109 pc)))))) else (bif Nat.ble mi 121 then (bif Nat.ble mi 115 then (bif Nat.ble mi 111 then (bif Nat.ble mi 110 then (bmpx110 pc) else (bmpx111 pc)) else (bif Nat.ble mi 113 then (bmpx113 pc) else (bmpx115 pc))) else (bif Nat.ble mi 117 then (bif Nat.ble mi 116 then (bmpx116 pc) else (bmpx117 pc)) else (bif Nat.ble mi 119 then (bmpx119 pc) else (bif Nat.ble mi 120 then (bmpx120 pc) else (bmpx121 pc))))) else (bif Nat.ble mi 126 then (bif Nat.ble mi 123 then (bif Nat.ble mi 122 then (bmpx122 pc) else (bmpx123 pc)) else (bif Nat.ble mi 124 then (bmpx124 pc) else (bif Nat.ble mi 125 then (bmpx125 pc) else (bmpx126 pc)))) else (bif Nat.ble mi 129 then (bif Nat.ble mi 128 then (bmpx128 pc) else (bmpx129 pc)) else (bif Nat.ble mi 130 then (bmpx130 pc) else (bif Nat.ble mi 131 then (bmpx131 pc) else (bmpx133 pc)))))))
def bmqx2 (pc : Nat) : Nat := bif Nat.beq pc 69 then 71 else bif Nat.beq pc 87 then 89 else 99999
def bmqx3 (pc : Nat) : Nat := bif Nat.beq pc 54 then 99999 else 99999
def bmqx5 (pc : Nat) : Nat := bif Nat.beq pc 44 then 46 else bif Nat.beq pc 51 then 77 else bif Nat.beq pc 69 then 77 else bif Nat.beq pc 77 then 79 else bif Nat.beq pc 120 then 135 else bif Nat.beq pc 135 then 136 else bif Nat.beq pc 154 then 99999 else 99999
def bmqx6 (pc : Nat) : Nat := bif Nat.beq pc 83 then 85 else bif Nat.beq pc 102 then 103 else bif Nat.beq pc 127 then 99999 else 99999
def bmqx8 (pc : Nat) : Nat := bif Nat.beq pc 34 then 99999 else bif Nat.beq pc 72 then 99999 else bif Nat.beq pc 93 then 99999 else 99999
def bmqx9 (pc : Nat) : Nat := bif Nat.beq pc 39 then 58 else 99999
def bmqx10 (pc : Nat) : Nat := bif Nat.beq pc 27 then 28 else bif Nat.beq pc 40 then 48 else bif Nat.beq pc 48 then 99999 else 99999
def bmqx17 (pc : Nat) : Nat := bif Nat.beq pc 19 then 52 else 99999
def bmqx35 (pc : Nat) : Nat := bif Nat.beq pc 22 then 99999 else 99999
def bmqx40 (pc : Nat) : Nat := bif Nat.beq pc 58 then 99999 else 99999
def bmqx41 (pc : Nat) : Nat := bif Nat.beq pc 13 then 99999 else 99999
def bmqx43 (pc : Nat) : Nat := bif Nat.beq pc 19 then 37 else bif Nat.beq pc 37 then 38 else 99999
def bmqx44 (pc : Nat) : Nat := bif Nat.beq pc 19 then 37 else 99999
def bmqx48 (pc : Nat) : Nat := bif Nat.beq pc 12 then 99999 else 99999
def bmqx51 (pc : Nat) : Nat := bif Nat.beq pc 31 then 99999 else 99999
def bmqx70 (pc : Nat) : Nat := bif Nat.beq pc 8 then 9 else bif Nat.beq pc 17 then 18 else 99999
def bmqx75 (pc : Nat) : Nat := bif Nat.beq pc 5 then 99999 else bif Nat.beq pc 12 then 99999 else bif Nat.beq pc 36 then 99999 else 99999
def bmqx76 (pc : Nat) : Nat := bif Nat.beq pc 5 then 99999 else 99999
def bmqx77 (pc : Nat) : Nat := bif Nat.beq pc 5 then 99999 else 99999
def bmqx78 (pc : Nat) : Nat := bif Nat.beq pc 5 then 99999 else bif Nat.beq pc 64 then 65 else 99999
def bmqx79 (pc : Nat) : Nat := bif Nat.beq pc 4 then 99999 else 99999
def bmqx80 (pc : Nat) : Nat := bif Nat.beq pc 14 then 99999 else 99999
def bmqx81 (pc : Nat) : Nat := bif Nat.beq pc 5 then 99999 else 99999
def bmqx83 (pc : Nat) : Nat := bif Nat.beq pc 5 then 99999 else bif Nat.beq pc 13 then 99999 else 99999
def bmqx84 (pc : Nat) : Nat := bif Nat.beq pc 71 then 72 else 99999
def bmqx86 (pc : Nat) : Nat := bif Nat.beq pc 4 then 99999 else 99999
def bmqx87 (pc : Nat) : Nat := bif Nat.beq pc 5 then 99999 else 99999
def bmqx88 (pc : Nat) : Nat := bif Nat.beq pc 5 then 99999 else bif Nat.beq pc 77 then 99999 else 99999
def bmqx90 (pc : Nat) : Nat := bif Nat.beq pc 5 then 99999 else bif Nat.beq pc 13 then 99999 else 99999
def bmqx91 (pc : Nat) : Nat := bif Nat.beq pc 5 then 99999 else bif Nat.beq pc 13 then 99999 else 99999
def bmqx92 (pc : Nat) : Nat := bif Nat.beq pc 5 then 99999 else bif Nat.beq pc 13 then 99999 else 99999
def bmqx93 (pc : Nat) : Nat := bif Nat.beq pc 5 then 99999 else bif Nat.beq pc 91 then 99999 else 99999
def bmqx94 (pc : Nat) : Nat := bif Nat.beq pc 5 then 99999 else 99999
def bmqx96 (pc : Nat) : Nat := bif Nat.beq pc 5 then 99999 else 99999
def bmqx97 (pc : Nat) : Nat := bif Nat.beq pc 5 then 99999 else 99999
def bmqx98 (pc : Nat) : Nat := bif Nat.beq pc 5 then 99999 else bif Nat.beq pc 30 then 31 else bif Nat.beq pc 43 then 99999 else 99999
def bmqx100 (pc : Nat) : Nat := bif Nat.beq pc 5 then 99999 else bif Nat.beq pc 64 then 99999 else bif Nat.beq pc 91 then 99 else bif Nat.beq pc 99 then 99999 else 99999
def bmqx101 (pc : Nat) : Nat := bif Nat.beq pc 5 then 99999 else bif Nat.beq pc 13 then 99999 else 99999
def bmqx103 (pc : Nat) : Nat := bif Nat.beq pc 12 then 99999 else 99999
def bmqx108 (pc : Nat) : Nat := bif Nat.beq pc 4 then 99999 else 99999
def bmqx109 (pc : Nat) : Nat := bif Nat.beq pc 4 then 99999 else bif Nat.beq pc 26 then 99999 else 99999
def bmqx110 (pc : Nat) : Nat := bif Nat.beq pc 4 then 99999 else bif Nat.beq pc 11 then 99999 else bif Nat.beq pc 41 then 99999 else bif Nat.beq pc 49 then 99999 else bif Nat.beq pc 85 then 99999 else bif Nat.beq pc 97 then 99999 else 99999
def bmqx111 (pc : Nat) : Nat := bif Nat.beq pc 4 then 99999 else bif Nat.beq pc 12 then 99999 else bif Nat.beq pc 32 then 99999 else bif Nat.beq pc 86 then 108 else bif Nat.beq pc 101 then 102 else 99999
def bmqx114 (pc : Nat) : Nat := bif Nat.beq pc 11 then 99999 else 99999
def bmqx115 (pc : Nat) : Nat := bif Nat.beq pc 5 then 99999 else 99999
def bmqx120 (pc : Nat) : Nat := bif Nat.beq pc 20 then 99999 else 99999
def bmqx121 (pc : Nat) : Nat := bif Nat.beq pc 20 then 99999 else 99999
def bmqx122 (pc : Nat) : Nat := bif Nat.beq pc 14 then 99999 else 99999
def bmqx123 (pc : Nat) : Nat := bif Nat.beq pc 15 then 99999 else 99999
def bmqx124 (pc : Nat) : Nat := bif Nat.beq pc 15 then 99999 else 99999
def bmqx125 (pc : Nat) : Nat := bif Nat.beq pc 14 then 99999 else 99999
def bmqx126 (pc : Nat) : Nat := bif Nat.beq pc 32 then 99999 else bif Nat.beq pc 48 then 99999 else bif Nat.beq pc 53 then 99999 else 99999
def bmqx129 (pc : Nat) : Nat := bif Nat.beq pc 13 then 15 else 99999
def bmqx130 (pc : Nat) : Nat := bif Nat.beq pc 27 then 99999 else 99999
def bmqx131 (pc : Nat) : Nat := bif Nat.beq pc 17 then 99999 else 99999
def bmqx132 (pc : Nat) : Nat := bif Nat.beq pc 4 then 13 else 99999
def bmqx (mi pc : Nat) : Nat := bif Nat.ble mi 88 then (bif Nat.ble mi 48 then (bif Nat.ble mi 10 then (bif Nat.ble mi 5 then (bif Nat.ble mi 2 then (bmqx2 pc) else (bif Nat.ble mi 3 then (bmqx3 pc) else (bmqx5 pc))) else (bif Nat.ble mi 8 then (bif Nat.ble mi 6 then (bmqx6 pc) else (bmqx8 pc)) else (bif Nat.ble mi 9 then (bmqx9 pc) else (bmqx10 pc)))) else (bif Nat.ble mi 40 then (bif Nat.ble mi 17 then (bmqx17 pc) else (bif Nat.ble mi 35 then (bmqx35 pc) else (bmqx40 pc))) else (bif Nat.ble mi 43 then (bif Nat.ble mi 41 then (bmqx41 pc) else (bmqx43 pc)) else (bif Nat.ble mi 44 then (bmqx44 pc) else (bmqx48 pc))))) else (bif Nat.ble mi 79 then (bif Nat.ble mi 75 then (bif Nat.ble mi 51 then (bmqx51 pc) else (bif Nat.ble mi 70 then (bmqx70 pc) else (bmqx75 pc))) else (bif Nat.ble mi 77 then (bif Nat.ble mi 76 then (bmqx76 pc) else (bmqx77 pc)) else (bif Nat.ble mi 78 then (bmqx78 pc) else (bmqx79 pc)))) else (bif Nat.ble mi 83 then (bif Nat.ble mi 80 then (bmqx80 pc) else (bif Nat.ble mi 81 then (bmqx81 pc) else (bmqx83 pc))) else (bif Nat.ble mi 86 then (bif Nat.ble mi 84 then (bmqx84 pc) else (bmqx86 pc)) else (bif Nat.ble mi 87 then (bmqx87 pc) else (bmqx88 pc)))))) else (bif Nat.ble mi 110 then (bif Nat.ble mi 97 then (bif Nat.ble mi 92 then (bif Nat.ble mi 90 then (bmqx90 pc) else (bif Nat.ble mi 91 then (bmqx91 pc) else (bmqx92 pc))) else (bif Nat.ble mi 94 then (bif Nat.ble mi 93 then (bmqx93 pc) else (bmqx94 pc)) else (bif Nat.ble mi 96 then (bmqx96 pc) else (bmqx97 pc)))) else (bif Nat.ble mi 101 then (bif Nat.ble mi 98 then (bmqx98 pc) else (bif Nat.ble mi 100 then (bmqx100 pc) else (bmqx101 pc))) else (bif Nat.ble mi 108 then (bif Nat.ble mi 103 then (bmqx103 pc) else (bmqx108 pc)) else (bif Nat.ble mi 109 then (bmqx109 pc) else (bmqx110 pc))))) else (bif Nat.ble mi 123 then (bif Nat.ble mi 115 then (bif Nat.ble mi 111 then (bmqx111 pc) else (bif Nat.ble mi 114 then (bmqx114 pc) else (bmqx115 pc))) else (bif Nat.ble mi 121 then (bif Nat.ble mi 120 then (bmqx120 pc) else (bmqx121 pc)) else (bif Nat.ble mi 122 then (bmqx122 pc) else (bmqx123 pc)))) else (bif Nat.ble mi 126 then (bif Nat.ble mi 124 then (bmqx124 pc) else (bif Nat.ble mi 125 then (bmqx125 pc) else (bmqx126 pc))) else (bif Nat.ble mi 130 then (bif Nat.ble mi 129 then (bmqx129 pc) else (bmqx130 pc)) else (bif Nat.ble mi 131 then (bmqx131 pc) else (bmqx132 pc))))))
-- ===== loops and splits
def blpx (mi pc : Nat) (S : bT) : Option (bT × Nat × Bool × Nat) := bif Nat.beq mi 2 then (bif Nat.beq pc 3 then blpt 172 true [(5, 0, 100)] [] [(305, 309)] [] [] S else none) else bif Nat.beq mi 18 then (bif Nat.beq pc 2 then blpt 30 true [(2, 0, 73)] [] [] [] [] S else none) else bif Nat.beq mi 49 then (bif Nat.beq pc 12 then blpt 34 true [(3, 0, 48)] [] [(324, 331)] [] [] S else none) else bif Nat.beq mi 78 then (bif Nat.beq pc 41 then blpt 71 true [(4, 0, 12)] [] [(1, 1), (34, 57)] [] [] S else none) else bif Nat.beq mi 111 then (bif Nat.beq pc 60 then blpt 108 true [(5, 0, 12)] [] [(34, 57)] [] [] S else none) else bif Nat.beq mi 138 then (bif Nat.beq pc 2 then blpt 21 true [(2, 0, 768)] [] [(339, 340)] [] [] S else none) else bif Nat.beq mi 145 then (bif Nat.beq pc 2 then blpt 25 true [(3, 0, 13)] [] [(342, 344)] [] [] S else none) else bif Nat.beq mi 165 then (bif Nat.beq pc 42 then blpt 115 true [(4, 1, 13), (3, -2147483648, 2147483647)] [] [] [(339, 8, 8), (339, 34, 189)] [5] S else none) else bif Nat.beq mi 194 then (bif Nat.beq pc 85 then blpt 127 true [(6, 0, 1000), (5, -2147483648, 2147483647)] [] [(342, 342)] [] [] S else none) else bif Nat.beq mi 196 then (bif Nat.beq pc 70 then blpt 160 true [(6, 0, 80), (5, 0, 1)] [] [] [] [7, 8] S else bif Nat.beq pc 90 then blpt 142 true [(8, 0, 13), (7, 0, 1)] [] [] [] [] S else bif Nat.beq pc 163 then blpt 203 true [(6, 0, 13)] [] [] [(348, 0, 1039)] [] S else none) else bif Nat.beq mi 198 then (bif Nat.beq pc 4 then blpt 94 true [(3, 0, 100), (2, -2147483648, 2147483647)] [] [] [] [4, 5] S else bif Nat.beq pc 16 then blpt 75 true [(5, 0, 80), (4, 0, 1)] [] [] [] [] S else none) else bif Nat.beq mi 209 then (bif Nat.beq pc 13 then blpt 45 true [(2, 0, 91)] [] [] [(339, 330, 433)] [] S else bif Nat.beq pc 57 then blpt 97 true [(2, 0, 13)] [] [] [(339, 330, 433)] [] S else none) else bif Nat.beq mi 210 then (bif Nat.beq pc 51 then blpt 89 true [(4, 0, 14)] [] [] [(339, 190, 329)] [] S else none) else bif Nat.beq mi 212 then (bif Nat.beq pc 38 then blpt 63 true [(2, 0, 60)] [] [] [(339, 2, 4), (339, 190, 433)] [] S else none) else bif Nat.beq mi 216 then (bif Nat.beq pc 110 then blpt 248 true [(13, 0, 60), (7, -2147483648, 2147483647), (8, -2147483648, 2147483647), (9, -2147483648, 2147483647), (10, -2147483648, 2147483647), (11, -1, 60), (12, -1, 60)] [] [(342, 342)] [] [14, 15, 16] S else none) else bif Nat.beq mi 231 then (bif Nat.beq pc 38 then blpt 104 true [(3, 0, 12)] [] [] [(339, 34, 189)] [] S else none) else none
def bspx (mi pc : Nat) (S : bT) : Option (bT × Nat × List (Int × Int) × Nat) := bif Nat.beq mi 65 then (bif Nat.beq pc 0 then bfst [bspt 1 (some [0, 1, 10, 100, 1000, 10000]) 99999 S] else none) else bif Nat.beq mi 78 then (bif Nat.beq pc 0 then bfst [bspt 1 (some [0, 1, 2, 3, 4, 5, 6, 7, 8, 9, 10, 11, 12]) 99999 S] else none) else bif Nat.beq mi 110 then (bif Nat.beq pc 77 then bfst [bspt 5 (some [0, 1, 2, 3, 4, 5, 6, 7, 8, 9, 10, 11, 12, 13, 14, 15, 16, 17, 18, 19, 20, 21, 22, 23, 24, 25, 26, 27, 28, 29, 30, 31, 32, 33, 34, 35, 36, 37, 38, 39, 40, 41, 42, 43, 44, 45, 46, 47, 48, 49]) 99999 S] else none) else bif Nat.beq mi 111 then (bif Nat.beq pc 0 then bfst [bspt 2 (some [0, 1, 2, 3, 4, 5, 6, 7, 8, 9, 10, 11, 12]) 99999 S] else none) else bif Nat.beq mi 160 then (bif Nat.beq pc 0 then bfst [bspt 1 (some [0, 1, 2, 3, 4, 5, 6, 7, 8, 9, 10, 11, 12]) 99999 S] else none) else bif Nat.beq mi 171 then (bif Nat.beq pc 0 then bfst [bspt 2 (some [0, 1, 2, 3]) 99999 S] else none) else bif Nat.beq mi 188 then (bif Nat.beq pc 0 then bfst [bspt 2 (some [0, 1, 10, 100, 1000, 10000]) 99999 S] else none) else bif Nat.beq mi 189 then (bif Nat.beq pc 0 then bfst [bspt 2 (some [0, 1, 10, 100, 1000, 10000]) 99999 S] else none) else bif Nat.beq mi 190 then (bif Nat.beq pc 0 then bfst [bspt 1 (some [0, 1, 10, 100, 1000, 10000]) 99999 S] else none) else bif Nat.beq mi 191 then (bif Nat.beq pc 0 then bfst [bspt 2 (some [0, 1, 10, 100, 1000, 10000]) 99999 S] else none) else bif Nat.beq mi 194 then (bif Nat.beq pc 92 then bfst [bspd 6 0 [1] 119 S, bspd 6 1 [1] 119 S, bspd 6 2 [1] 119 S, bspd 6 3 [1] 119 S] else none) else bif Nat.beq mi 195 then (bif Nat.beq pc 0 then bfst [bspt 2 (some [0, 1, 10, 100, 1000, 10000]) 99999 S] else none) else bif Nat.beq mi 201 then (bif Nat.beq pc 0 then bfst [bspt 2 (some [0, 1, 10, 100, 1000, 10000]) 99999 S, bspt 3 (some [0, 1, 10, 100, 1000, 10000]) 99999 S] else none) else bif Nat.beq mi 208 then (bif Nat.beq pc 0 then bfst [bspt 2 (some [0, 1, 10, 100, 1000, 10000]) 99999 S] else none) else bif Nat.beq mi 213 then (bif Nat.beq pc 0 then bfst [bspt 1 (some [0, 1, 2, 3, 4, 5, 6, 7, 8]) 99999 S] else none) else bif Nat.beq mi 216 then (bif Nat.beq pc 0 then bfst [bspt 2 (some [0, 1, 10, 100, 1000, 10000]) 99999 S, bspt 3 (some [0, 1, 10, 100, 1000, 10000]) 99999 S] else none) else bif Nat.beq mi 224 then (bif Nat.beq pc 58 then bfst [bspt 4 (some [-1, 0, 1]) 99999 S] else none) else bif Nat.beq mi 230 then (bif Nat.beq pc 65 then bfst [bspt 5 (some [0, 1, 2, 3, 4, 5, 6, 7, 8, 9, 10, 11, 12, 13, 14, 15, 16, 17, 18, 19, 20, 21, 22, 23, 24, 25]) 99999 S] else none) else bif Nat.beq mi 231 then (bif Nat.beq pc 0 then bfst [bspt 1 (some [0, 1, 2, 3, 4]) 99999 S] else none) else bif Nat.beq mi 235 then (bif Nat.beq pc 0 then bfst [bspt 2 (some [0, 1, 10, 100, 1000, 10000]) 99999 S] else none) else none
def bdgx (mi pc : Nat) : Option Nat := none
def bldx (mi pc : Nat) : Option Nat := none
