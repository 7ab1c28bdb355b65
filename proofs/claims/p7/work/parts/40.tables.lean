-- ===== the shape of the heap, and an interval to each place
def bZ : List (Nat × Nat) := [(11, 15), (10, 15), (21, 12), (22, 8), (23, 2), (6, 2), (20, 60), (6, 2), (20, 24), (6, 2), (20, 10), (6, 2), (20, 10), (6, 2), (20, 10), (2, 3), (21, 8), (6, 2), (20, 12), (6, 2), (20, 12), (6, 2), (20, 12), (6, 2), (20, 12), (6, 2), (20, 12), (6, 2), (20, 12), (6, 2), (20, 12), (6, 2), (20, 12), (20, 4), (6, 2), (20, 12), (6, 2), (20, 12), (6, 2), (20, 12), (6, 2), (20, 12), (6, 2), (20, 12), (6, 2), (20, 12), (6, 2), (20, 12), (6, 2), (20, 12), (6, 2), (20, 12), (6, 2), (20, 12), (6, 2), (20, 12), (6, 2), (20, 12), (5, 3), (5, 3), (5, 3), (5, 3), (5, 3), (5, 3), (5, 3), (5, 3), (9, 2), (6, 2), (20, 60), (20, 60), (9, 2), (6, 2), (20, 60), (20, 60), (10, 15), (21, 12), (22, 8), (23, 2), (6, 2), (20, 60), (6, 2), (20, 24), (6, 2), (20, 10), (6, 2), (20, 10), (6, 2), (20, 10), (2, 3), (21, 8), (6, 2), (20, 12), (6, 2), (20, 12), (6, 2), (20, 12), (6, 2), (20, 12), (6, 2), (20, 12), (6, 2), (20, 12), (6, 2), (20, 12), (6, 2), (20, 12), (20, 4), (6, 2), (20, 12), (6, 2), (20, 12), (6, 2), (20, 12), (6, 2), (20, 12), (6, 2), (20, 12), (6, 2), (20, 12), (6, 2), (20, 12), (6, 2), (20, 12), (6, 2), (20, 12), (6, 2), (20, 12), (6, 2), (20, 12), (6, 2), (20, 12), (5, 3), (5, 3), (5, 3), (5, 3), (5, 3), (5, 3), (5, 3), (5, 3), (9, 2), (6, 2), (20, 60), (20, 60), (9, 2), (6, 2), (20, 60), (20, 60), (4, 4), (6, 2), (20, 60), (6, 2), (20, 0), (1, 3), (6, 2), (20, 12), (3, 3), (21, 73), (6, 2), (20, 12), (6, 2), (20, 12), (6, 2), (20, 12), (6, 2), (20, 12), (6, 2), (20, 12), (6, 2), (20, 12), (6, 2), (20, 12), (6, 2), (20, 12), (6, 2), (20, 12), (6, 2), (20, 12), (6, 2), (20, 12), (6, 2), (20, 12), (6, 2), (20, 12), (6, 2), (20, 12), (6, 2), (20, 12), (6, 2), (20, 12), (6, 2), (20, 12), (6, 2), (20, 12), (6, 2), (20, 12), (6, 2), (20, 12), (6, 2), (20, 12), (6, 2), (20, 12), (6, 2), (20, 12), (6, 2), (20, 12), (6, 2), (20, 12), (6, 2), (20, 12), (6, 2), (20, 12), (6, 2), (20, 12), (6, 2), (20, 12), (6, 2), (20, 12), (6, 2), (20, 12), (6, 2), (20, 12), (6, 2), (20, 12), (6, 2), (20, 12), (6, 2), (20, 12), (6, 2), (20, 12), (6, 2), (20, 12), (6, 2), (20, 12), (6, 2), (20, 12), (6, 2), (20, 12), (6, 2), (20, 12), (6, 2), (20, 12), (6, 2), (20, 12), (6, 2), (20, 12), (6, 2), (20, 12), (6, 2), (20, 12), (6, 2), (20, 12), (6, 2), (20, 12), (6, 2), (20, 12), (6, 2), (20, 12), (6, 2), (20, 12), (6, 2), (20, 12), (6, 2), (20, 12), (6, 2), (20, 12), (6, 2), (20, 12), (6, 2), (20, 12), (6, 2), (20, 12), (6, 2), (20, 12), (6, 2), (20, 12), (6, 2), (20, 12), (6, 2), (20, 12), (6, 2), (20, 12), (6, 2), (20, 12), (6, 2), (20, 12), (6, 2), (20, 12), (6, 2), (20, 12), (6, 2), (20, 12), (6, 2), (20, 12), (6, 2), (20, 12), (6, 2), (20, 12), (6, 2), (20, 12), (6, 2), (20, 12), (6, 2), (20, 12), (6, 2), (20, 12), (0, 8), (6, 2), (20, 12), (6, 2), (20, 12), (8, 5), (6, 2), (20, 30), (24, 4), (6, 2), (20, 4), (6, 2), (20, 4), (6, 2), (20, 12), (6, 2), (20, 12), (21, 3), (20, 7), (7, 3), (20, 24), (7, 3), (20, 24), (7, 3), (20, 24), (7, 3), (20, 24), (6, 2), (20, 12), (6, 2), (20, 12), (6, 2), (20, 12), (12, 26), (20, 768), (20, 768), (20, 7), (20, 13), (20, 13), (20, 13), (20, 124), (20, 128), (20, 64), (20, 1040), (20, 30), (20, 4), (20, 4), (20, 96), (20, 24)]
def bIt : List (List (Nat × bN)) := [[(1, .inr [.index 1]), (1, .inr [.index 74]), (1, .inr [.index 147]), (1, .inr [.index 152]), (1, .inr [.index 155]), (1, .inr [.index 305]), (1, .inr [.index 310]), (1, .inr [.index 313]), (1, .inr [.index 314]), (1, .inr [.index 316]), (1, .inr [.index 318]), (1, .inr [.index 320]), (1, .inr [.index 322]), (1, .inr [.index 323]), (1, .inl (-2147483648, 2147483647))],
  [(1, .inr [.index 2]), (1, .inr [.index 3]), (1, .inr [.index 4]), (1, .inr [.index 5]), (1, .inr [.index 7]), (1, .inr [.index 9]), (1, .inr [.index 11]), (1, .inr [.index 13]), (1, .inr [.index 15]), (1, .inl (0, 12)), (1, .inl (0, 8)), (3, .inl (-2147483648, 2147483647)), (1, .inr [.index 33])],
  [(1, .inr [.index 34]), (1, .inr [.index 36]), (1, .inr [.index 38]), (1, .inr [.index 40]), (1, .inr [.index 42]), (1, .inr [.index 44]), (1, .inr [.index 46]), (1, .inr [.index 48]), (1, .inr [.index 50]), (1, .inr [.index 52]), (1, .inr [.index 54]), (1, .inr [.index 56])],
  [(1, .inr [.index 58]), (1, .inr [.index 59]), (1, .inr [.index 60]), (1, .inr [.index 61]), (1, .inr [.index 62]), (1, .inr [.index 63]), (1, .inr [.index 64]), (1, .inr [.index 65])],
  [(1, .inr [.index 66]), (1, .inr [.index 70])],
  [(1, .inr [.index 6]), (1, .inl (0, 60))],
  [(60, .inl (-2147483648, 2147483647))],
  [(1, .inr [.index 8]), (1, .inl (0, 24))],
  [(24, .inl (-2147483648, 2147483647))],
  [(1, .inr [.index 10]), (1, .inl (0, 10))],
  [(10, .inl (-2147483648, 2147483647))],
  [(1, .inr [.index 12]), (1, .inl (0, 10))],
  [(10, .inl (-2147483648, 2147483647))],
  [(1, .inr [.index 14]), (1, .inl (0, 10))],
  [(10, .inl (-2147483648, 2147483647))],
  [(1, .inr [.index 16]), (1, .inl (0, 7)), (1, .inl (0, 8))],
  [(1, .inr [.index 17]), (1, .inr [.index 19]), (1, .inr [.index 21]), (1, .inr [.index 23]), (1, .inr [.index 25]), (1, .inr [.index 27]), (1, .inr [.index 29]), (1, .inr [.index 31])],
  [(1, .inr [.index 18]), (1, .inl (0, 12))],
  [(12, .inl (-2147483648, 2147483647))],
  [(1, .inr [.index 20]), (1, .inl (0, 12))],
  [(12, .inl (-2147483648, 2147483647))],
  [(1, .inr [.index 22]), (1, .inl (0, 12))],
  [(12, .inl (-2147483648, 2147483647))],
  [(1, .inr [.index 24]), (1, .inl (0, 12))],
  [(12, .inl (-2147483648, 2147483647))],
  [(1, .inr [.index 26]), (1, .inl (0, 12))],
  [(12, .inl (-2147483648, 2147483647))],
  [(1, .inr [.index 28]), (1, .inl (0, 12))],
  [(12, .inl (-2147483648, 2147483647))],
  [(1, .inr [.index 30]), (1, .inl (0, 12))],
  [(12, .inl (-2147483648, 2147483647))],
  [(1, .inr [.index 32]), (1, .inl (0, 12))],
  [(12, .inl (-2147483648, 2147483647))],
  [(4, .inl (-2147483648, 2147483647))],
  [(1, .inr [.index 35]), (1, .inl (0, 12))],
  [(12, .inl (-2147483648, 2147483647))],
  [(1, .inr [.index 37]), (1, .inl (0, 12))],
  [(12, .inl (-2147483648, 2147483647))],
  [(1, .inr [.index 39]), (1, .inl (0, 12))],
  [(12, .inl (-2147483648, 2147483647))],
  [(1, .inr [.index 41]), (1, .inl (0, 12))],
  [(12, .inl (-2147483648, 2147483647))],
  [(1, .inr [.index 43]), (1, .inl (0, 12))],
  [(12, .inl (-2147483648, 2147483647))],
  [(1, .inr [.index 45]), (1, .inl (0, 12))],
  [(12, .inl (-2147483648, 2147483647))],
  [(1, .inr [.index 47]), (1, .inl (0, 12))],
  [(12, .inl (-2147483648, 2147483647))],
  [(1, .inr [.index 49]), (1, .inl (0, 12))],
  [(12, .inl (-2147483648, 2147483647))],
  [(1, .inr [.index 51]), (1, .inl (0, 12))],
  [(12, .inl (-2147483648, 2147483647))],
  [(1, .inr [.index 53]), (1, .inl (0, 12))],
  [(12, .inl (-2147483648, 2147483647))],
  [(1, .inr [.index 55]), (1, .inl (0, 12))],
  [(12, .inl (-2147483648, 2147483647))],
  [(1, .inr [.index 57]), (1, .inl (0, 12))],
  [(12, .inl (-2147483648, 2147483647))],
  [(3, .inl (-2147483648, 2147483647))],
  [(3, .inl (-2147483648, 2147483647))],
  [(3, .inl (-2147483648, 2147483647))],
  [(3, .inl (-2147483648, 2147483647))],
  [(3, .inl (-2147483648, 2147483647))],
  [(3, .inl (-2147483648, 2147483647))],
  [(3, .inl (-2147483648, 2147483647))],
  [(3, .inl (-2147483648, 2147483647))],
  [(1, .inr [.index 67]), (1, .inr [.index 69])],
  [(1, .inr [.index 68]), (1, .inl (0, 60))],
  [(60, .inl (-2147483648, 2147483647))],
  [(60, .inl (-2147483648, 2147483647))],
  [(1, .inr [.index 71]), (1, .inr [.index 73])],
  [(1, .inr [.index 72]), (1, .inl (0, 60))],
  [(60, .inl (-2147483648, 2147483647))],
  [(60, .inl (-2147483648, 2147483647))],
  [(1, .inr [.index 75]), (1, .inr [.index 76]), (1, .inr [.index 77]), (1, .inr [.index 78]), (1, .inr [.index 80]), (1, .inr [.index 82]), (1, .inr [.index 84]), (1, .inr [.index 86]), (1, .inr [.index 88]), (1, .inl (0, 12)), (1, .inl (0, 8)), (3, .inl (-2147483648, 2147483647)), (1, .inr [.index 106])],
  [(1, .inr [.index 107]), (1, .inr [.index 109]), (1, .inr [.index 111]), (1, .inr [.index 113]), (1, .inr [.index 115]), (1, .inr [.index 117]), (1, .inr [.index 119]), (1, .inr [.index 121]), (1, .inr [.index 123]), (1, .inr [.index 125]), (1, .inr [.index 127]), (1, .inr [.index 129])],
  [(1, .inr [.index 131]), (1, .inr [.index 132]), (1, .inr [.index 133]), (1, .inr [.index 134]), (1, .inr [.index 135]), (1, .inr [.index 136]), (1, .inr [.index 137]), (1, .inr [.index 138])],
  [(1, .inr [.index 139]), (1, .inr [.index 143])],
  [(1, .inr [.index 79]), (1, .inl (0, 60))],
  [(60, .inl (-2147483648, 2147483647))],
  [(1, .inr [.index 81]), (1, .inl (0, 24))],
  [(24, .inl (-2147483648, 2147483647))],
  [(1, .inr [.index 83]), (1, .inl (0, 10))],
  [(10, .inl (-2147483648, 2147483647))],
  [(1, .inr [.index 85]), (1, .inl (0, 10))],
  [(10, .inl (-2147483648, 2147483647))],
  [(1, .inr [.index 87]), (1, .inl (0, 10))],
  [(10, .inl (-2147483648, 2147483647))],
  [(1, .inr [.index 89]), (1, .inl (0, 7)), (1, .inl (0, 8))],
  [(1, .inr [.index 90]), (1, .inr [.index 92]), (1, .inr [.index 94]), (1, .inr [.index 96]), (1, .inr [.index 98]), (1, .inr [.index 100]), (1, .inr [.index 102]), (1, .inr [.index 104])],
  [(1, .inr [.index 91]), (1, .inl (0, 12))],
  [(12, .inl (-2147483648, 2147483647))],
  [(1, .inr [.index 93]), (1, .inl (0, 12))],
  [(12, .inl (-2147483648, 2147483647))],
  [(1, .inr [.index 95]), (1, .inl (0, 12))],
  [(12, .inl (-2147483648, 2147483647))],
  [(1, .inr [.index 97]), (1, .inl (0, 12))],
  [(12, .inl (-2147483648, 2147483647))],
  [(1, .inr [.index 99]), (1, .inl (0, 12))],
  [(12, .inl (-2147483648, 2147483647))],
  [(1, .inr [.index 101]), (1, .inl (0, 12))],
  [(12, .inl (-2147483648, 2147483647))],
  [(1, .inr [.index 103]), (1, .inl (0, 12))],
  [(12, .inl (-2147483648, 2147483647))],
  [(1, .inr [.index 105]), (1, .inl (0, 12))],
  [(12, .inl (-2147483648, 2147483647))],
  [(4, .inl (-2147483648, 2147483647))],
  [(1, .inr [.index 108]), (1, .inl (0, 12))],
  [(12, .inl (-2147483648, 2147483647))],
  [(1, .inr [.index 110]), (1, .inl (0, 12))],
  [(12, .inl (-2147483648, 2147483647))],
  [(1, .inr [.index 112]), (1, .inl (0, 12))],
  [(12, .inl (-2147483648, 2147483647))],
  [(1, .inr [.index 114]), (1, .inl (0, 12))],
  [(12, .inl (-2147483648, 2147483647))],
  [(1, .inr [.index 116]), (1, .inl (0, 12))],
  [(12, .inl (-2147483648, 2147483647))],
  [(1, .inr [.index 118]), (1, .inl (0, 12))],
  [(12, .inl (-2147483648, 2147483647))],
  [(1, .inr [.index 120]), (1, .inl (0, 12))],
  [(12, .inl (-2147483648, 2147483647))],
  [(1, .inr [.index 122]), (1, .inl (0, 12))],
  [(12, .inl (-2147483648, 2147483647))],
  [(1, .inr [.index 124]), (1, .inl (0, 12))],
  [(12, .inl (-2147483648, 2147483647))],
  [(1, .inr [.index 126]), (1, .inl (0, 12))],
  [(12, .inl (-2147483648, 2147483647))],
  [(1, .inr [.index 128]), (1, .inl (0, 12))],
  [(12, .inl (-2147483648, 2147483647))],
  [(1, .inr [.index 130]), (1, .inl (0, 12))],
  [(12, .inl (-2147483648, 2147483647))],
  [(3, .inl (-2147483648, 2147483647))],
  [(3, .inl (-2147483648, 2147483647))],
  [(3, .inl (-2147483648, 2147483647))],
  [(3, .inl (-2147483648, 2147483647))],
  [(3, .inl (-2147483648, 2147483647))],
  [(3, .inl (-2147483648, 2147483647))],
  [(3, .inl (-2147483648, 2147483647))],
  [(3, .inl (-2147483648, 2147483647))],
  [(1, .inr [.index 140]), (1, .inr [.index 142])],
  [(1, .inr [.index 141]), (1, .inl (0, 60))],
  [(60, .inl (-2147483648, 2147483647))],
  [(60, .inl (-2147483648, 2147483647))],
  [(1, .inr [.index 144]), (1, .inr [.index 146])],
  [(1, .inr [.index 145]), (1, .inl (0, 60))],
  [(60, .inl (-2147483648, 2147483647))],
  [(60, .inl (-2147483648, 2147483647))],
  [(1, .inr [.index 148]), (1, .inr [.index 150]), (1, .inr [.null]), (1, .inl (-2147483648, 2147483647))],
  [(1, .inr [.index 149]), (1, .inl (0, 60))],
  [(60, .inl (-2147483648, 2147483647))],
  [(1, .inr [.index 151]), (1, .inl (0, 0))],
  [],
  [(1, .inr [.index 153]), (2, .inl (-2147483648, 2147483647))],
  [(1, .inr [.index 154]), (1, .inl (0, 12))],
  [(12, .inl (-2147483648, 2147483647))],
  [(1, .inr [.index 156]), (1, .inr [.index 157]), (1, .inl (-2147483648, 2147483647))],
  [(1, .inr [.index 159]), (1, .inr [.index 161]), (1, .inr [.index 163]), (1, .inr [.index 165]), (1, .inr [.index 167]), (1, .inr [.index 169]), (1, .inr [.index 171]), (1, .inr [.index 173]), (1, .inr [.index 175]), (1, .inr [.index 177]), (1, .inr [.index 179]), (1, .inr [.index 181]), (1, .inr [.index 183]), (1, .inr [.index 185]), (1, .inr [.index 187]), (1, .inr [.index 189]), (1, .inr [.index 191]), (1, .inr [.index 193]), (1, .inr [.index 195]), (1, .inr [.index 197]), (1, .inr [.index 199]), (1, .inr [.index 201]), (1, .inr [.index 203]), (1, .inr [.index 205]), (1, .inr [.index 207]), (1, .inr [.index 209]), (1, .inr [.index 211]), (1, .inr [.index 213]), (1, .inr [.index 215]), (1, .inr [.index 217]), (1, .inr [.index 219]), (1, .inr [.index 221]), (1, .inr [.index 223]), (1, .inr [.index 225]), (1, .inr [.index 227]), (1, .inr [.index 229]), (1, .inr [.index 231]), (1, .inr [.index 233]), (1, .inr [.index 235]), (1, .inr [.index 237]), (1, .inr [.index 239]), (1, .inr [.index 241]), (1, .inr [.index 243]), (1, .inr [.index 245]), (1, .inr [.index 247]), (1, .inr [.index 249]), (1, .inr [.index 251]), (1, .inr [.index 253]), (1, .inr [.index 255]), (1, .inr [.index 257]), (1, .inr [.index 259]), (1, .inr [.index 261]), (1, .inr [.index 263]), (1, .inr [.index 265]), (1, .inr [.index 267]), (1, .inr [.index 269]), (1, .inr [.index 271]), (1, .inr [.index 273]), (1, .inr [.index 275]), (1, .inr [.index 277]), (1, .inr [.index 279]), (1, .inr [.index 281]), (1, .inr [.index 283]), (1, .inr [.index 285]), (1, .inr [.index 287]), (1, .inr [.index 289]), (1, .inr [.index 291]), (1, .inr [.index 293]), (1, .inr [.index 295]), (1, .inr [.index 297]), (1, .inr [.index 299]), (1, .inr [.index 301]), (1, .inr [.index 303])],
  [(1, .inr [.index 158]), (1, .inl (0, 12))],
  [(12, .inl (-2147483648, 2147483647))],
  [(1, .inr [.index 160]), (1, .inl (0, 12))],
  [(12, .inl (-2147483648, 2147483647))],
  [(1, .inr [.index 162]), (1, .inl (0, 12))],
  [(12, .inl (-2147483648, 2147483647))],
  [(1, .inr [.index 164]), (1, .inl (0, 12))],
  [(12, .inl (-2147483648, 2147483647))],
  [(1, .inr [.index 166]), (1, .inl (0, 12))],
  [(12, .inl (-2147483648, 2147483647))],
  [(1, .inr [.index 168]), (1, .inl (0, 12))],
  [(12, .inl (-2147483648, 2147483647))],
  [(1, .inr [.index 170]), (1, .inl (0, 12))],
  [(12, .inl (-2147483648, 2147483647))],
  [(1, .inr [.index 172]), (1, .inl (0, 12))],
  [(12, .inl (-2147483648, 2147483647))],
  [(1, .inr [.index 174]), (1, .inl (0, 12))],
  [(12, .inl (-2147483648, 2147483647))],
  [(1, .inr [.index 176]), (1, .inl (0, 12))],
  [(12, .inl (-2147483648, 2147483647))],
  [(1, .inr [.index 178]), (1, .inl (0, 12))],
  [(12, .inl (-2147483648, 2147483647))],
  [(1, .inr [.index 180]), (1, .inl (0, 12))],
  [(12, .inl (-2147483648, 2147483647))],
  [(1, .inr [.index 182]), (1, .inl (0, 12))],
  [(12, .inl (-2147483648, 2147483647))],
  [(1, .inr [.index 184]), (1, .inl (0, 12))],
  [(12, .inl (-2147483648, 2147483647))],
  [(1, .inr [.index 186]), (1, .inl (0, 12))],
  [(12, .inl (-2147483648, 2147483647))],
  [(1, .inr [.index 188]), (1, .inl (0, 12))],
  [(12, .inl (-2147483648, 2147483647))],
  [(1, .inr [.index 190]), (1, .inl (0, 12))],
  [(12, .inl (-2147483648, 2147483647))],
  [(1, .inr [.index 192]), (1, .inl (0, 12))],
  [(12, .inl (-2147483648, 2147483647))],
  [(1, .inr [.index 194]), (1, .inl (0, 12))],
  [(12, .inl (-2147483648, 2147483647))],
  [(1, .inr [.index 196]), (1, .inl (0, 12))],
  [(12, .inl (-2147483648, 2147483647))],
  [(1, .inr [.index 198]), (1, .inl (0, 12))],
  [(12, .inl (-2147483648, 2147483647))],
  [(1, .inr [.index 200]), (1, .inl (0, 12))],
  [(12, .inl (-2147483648, 2147483647))],
  [(1, .inr [.index 202]), (1, .inl (0, 12))],
  [(12, .inl (-2147483648, 2147483647))],
  [(1, .inr [.index 204]), (1, .inl (0, 12))],
  [(12, .inl (-2147483648, 2147483647))],
  [(1, .inr [.index 206]), (1, .inl (0, 12))],
  [(12, .inl (-2147483648, 2147483647))],
  [(1, .inr [.index 208]), (1, .inl (0, 12))],
  [(12, .inl (-2147483648, 2147483647))],
  [(1, .inr [.index 210]), (1, .inl (0, 12))],
  [(12, .inl (-2147483648, 2147483647))],
  [(1, .inr [.index 212]), (1, .inl (0, 12))],
  [(12, .inl (-2147483648, 2147483647))],
  [(1, .inr [.index 214]), (1, .inl (0, 12))],
  [(12, .inl (-2147483648, 2147483647))],
  [(1, .inr [.index 216]), (1, .inl (0, 12))],
  [(12, .inl (-2147483648, 2147483647))],
  [(1, .inr [.index 218]), (1, .inl (0, 12))],
  [(12, .inl (-2147483648, 2147483647))],
  [(1, .inr [.index 220]), (1, .inl (0, 12))],
  [(12, .inl (-2147483648, 2147483647))],
  [(1, .inr [.index 222]), (1, .inl (0, 12))],
  [(12, .inl (-2147483648, 2147483647))],
  [(1, .inr [.index 224]), (1, .inl (0, 12))],
  [(12, .inl (-2147483648, 2147483647))],
  [(1, .inr [.index 226]), (1, .inl (0, 12))],
  [(12, .inl (-2147483648, 2147483647))],
  [(1, .inr [.index 228]), (1, .inl (0, 12))],
  [(12, .inl (-2147483648, 2147483647))],
  [(1, .inr [.index 230]), (1, .inl (0, 12))],
  [(12, .inl (-2147483648, 2147483647))],
  [(1, .inr [.index 232]), (1, .inl (0, 12))],
  [(12, .inl (-2147483648, 2147483647))],
  [(1, .inr [.index 234]), (1, .inl (0, 12))],
  [(12, .inl (-2147483648, 2147483647))],
  [(1, .inr [.index 236]), (1, .inl (0, 12))],
  [(12, .inl (-2147483648, 2147483647))],
  [(1, .inr [.index 238]), (1, .inl (0, 12))],
  [(12, .inl (-2147483648, 2147483647))],
  [(1, .inr [.index 240]), (1, .inl (0, 12))],
  [(12, .inl (-2147483648, 2147483647))],
  [(1, .inr [.index 242]), (1, .inl (0, 12))],
  [(12, .inl (-2147483648, 2147483647))],
  [(1, .inr [.index 244]), (1, .inl (0, 12))],
  [(12, .inl (-2147483648, 2147483647))],
  [(1, .inr [.index 246]), (1, .inl (0, 12))],
  [(12, .inl (-2147483648, 2147483647))],
  [(1, .inr [.index 248]), (1, .inl (0, 12))],
  [(12, .inl (-2147483648, 2147483647))],
  [(1, .inr [.index 250]), (1, .inl (0, 12))],
  [(12, .inl (-2147483648, 2147483647))],
  [(1, .inr [.index 252]), (1, .inl (0, 12))],
  [(12, .inl (-2147483648, 2147483647))],
  [(1, .inr [.index 254]), (1, .inl (0, 12))],
  [(12, .inl (-2147483648, 2147483647))],
  [(1, .inr [.index 256]), (1, .inl (0, 12))],
  [(12, .inl (-2147483648, 2147483647))],
  [(1, .inr [.index 258]), (1, .inl (0, 12))],
  [(12, .inl (-2147483648, 2147483647))],
  [(1, .inr [.index 260]), (1, .inl (0, 12))],
  [(12, .inl (-2147483648, 2147483647))],
  [(1, .inr [.index 262]), (1, .inl (0, 12))],
  [(12, .inl (-2147483648, 2147483647))],
  [(1, .inr [.index 264]), (1, .inl (0, 12))],
  [(12, .inl (-2147483648, 2147483647))],
  [(1, .inr [.index 266]), (1, .inl (0, 12))],
  [(12, .inl (-2147483648, 2147483647))],
  [(1, .inr [.index 268]), (1, .inl (0, 12))],
  [(12, .inl (-2147483648, 2147483647))],
  [(1, .inr [.index 270]), (1, .inl (0, 12))],
  [(12, .inl (-2147483648, 2147483647))],
  [(1, .inr [.index 272]), (1, .inl (0, 12))],
  [(12, .inl (-2147483648, 2147483647))],
  [(1, .inr [.index 274]), (1, .inl (0, 12))],
  [(12, .inl (-2147483648, 2147483647))],
  [(1, .inr [.index 276]), (1, .inl (0, 12))],
  [(12, .inl (-2147483648, 2147483647))],
  [(1, .inr [.index 278]), (1, .inl (0, 12))],
  [(12, .inl (-2147483648, 2147483647))],
  [(1, .inr [.index 280]), (1, .inl (0, 12))],
  [(12, .inl (-2147483648, 2147483647))],
  [(1, .inr [.index 282]), (1, .inl (0, 12))],
  [(12, .inl (-2147483648, 2147483647))],
  [(1, .inr [.index 284]), (1, .inl (0, 12))],
  [(12, .inl (-2147483648, 2147483647))],
  [(1, .inr [.index 286]), (1, .inl (0, 12))],
  [(12, .inl (-2147483648, 2147483647))],
  [(1, .inr [.index 288]), (1, .inl (0, 12))],
  [(12, .inl (-2147483648, 2147483647))],
  [(1, .inr [.index 290]), (1, .inl (0, 12))],
  [(12, .inl (-2147483648, 2147483647))],
  [(1, .inr [.index 292]), (1, .inl (0, 12))],
  [(12, .inl (-2147483648, 2147483647))],
  [(1, .inr [.index 294]), (1, .inl (0, 12))],
  [(12, .inl (-2147483648, 2147483647))],
  [(1, .inr [.index 296]), (1, .inl (0, 12))],
  [(12, .inl (-2147483648, 2147483647))],
  [(1, .inr [.index 298]), (1, .inl (0, 12))],
  [(12, .inl (-2147483648, 2147483647))],
  [(1, .inr [.index 300]), (1, .inl (0, 12))],
  [(12, .inl (-2147483648, 2147483647))],
  [(1, .inr [.index 302]), (1, .inl (0, 12))],
  [(12, .inl (-2147483648, 2147483647))],
  [(1, .inr [.index 304]), (1, .inl (0, 12))],
  [(12, .inl (-2147483648, 2147483647))],
  [(1, .inr [.index 306]), (1, .inr [.index 308]), (6, .inl (-2147483648, 2147483647))],
  [(1, .inr [.index 307]), (1, .inl (0, 12))],
  [(12, .inl (-2147483648, 2147483647))],
  [(1, .inr [.index 309]), (1, .inl (0, 12))],
  [(12, .inl (-2147483648, 2147483647))],
  [(1, .inr [.index 311]), (4, .inl (-2147483648, 2147483647))],
  [(1, .inr [.index 312]), (1, .inl (0, 30))],
  [(30, .inl (-2147483648, 2147483647))],
  [(1, .inr [.index 324]), (1, .inr [.index 326]), (1, .inr [.index 328]), (1, .inr [.index 330])],
  [(1, .inr [.index 315]), (1, .inl (0, 4))],
  [(4, .inl (-2147483648, 2147483647))],
  [(1, .inr [.index 317]), (1, .inl (0, 4))],
  [(4, .inl (-2147483648, 2147483647))],
  [(1, .inr [.index 319]), (1, .inl (0, 12))],
  [(12, .inl (-2147483648, 2147483647))],
  [(1, .inr [.index 321]), (1, .inl (0, 12))],
  [(12, .inl (-2147483648, 2147483647))],
  [(1, .inr [.index 332]), (1, .inr [.index 334]), (1, .inr [.index 336])],
  [(7, .inl (-2147483648, 2147483647))],
  [(1, .inr [.index 325]), (2, .inl (-2147483648, 2147483647))],
  [(24, .inl (-2147483648, 2147483647))],
  [(1, .inr [.index 327]), (2, .inl (-2147483648, 2147483647))],
  [(24, .inl (-2147483648, 2147483647))],
  [(1, .inr [.index 329]), (2, .inl (-2147483648, 2147483647))],
  [(24, .inl (-2147483648, 2147483647))],
  [(1, .inr [.index 331]), (2, .inl (-2147483648, 2147483647))],
  [(24, .inl (-2147483648, 2147483647))],
  [(1, .inr [.index 333]), (1, .inl (0, 12))],
  [(12, .inl (-2147483648, 2147483647))],
  [(1, .inr [.index 335]), (1, .inl (0, 12))],
  [(12, .inl (-2147483648, 2147483647))],
  [(1, .inr [.index 337]), (1, .inl (0, 12))],
  [(12, .inl (-2147483648, 2147483647))],
  [(1, .inr [.index 339]), (1, .inr [.index 340]), (1, .inl (-2147483648, 2147483647)), (1, .inr [.index 341]), (1, .inr [.index 342]), (1, .inr [.index 343]), (1, .inr [.index 344]), (4, .inl (-2147483648, 2147483647)), (1, .inr [.index 345]), (1, .inr [.index 346]), (1, .inr [.index 347]), (1, .inr [.index 348]), (3, .inl (-2147483648, 2147483647)), (1, .inr [.index 349]), (3, .inl (-2147483648, 2147483647)), (1, .inr [.index 350]), (1, .inr [.index 351]), (1, .inr [.index 352]), (1, .inr [.index 353])],
  [(768, .inl (-2147483648, 2147483647))],
  [(768, .inl (-2147483648, 2147483647))],
  [(7, .inl (-2147483648, 2147483647))],
  [(13, .inl (-2147483648, 2147483647))],
  [(13, .inl (-2147483648, 2147483647))],
  [(13, .inl (-2147483648, 2147483647))],
  [(124, .inl (-2147483648, 2147483647))],
  [(128, .inl (-2147483648, 2147483647))],
  [(64, .inl (-2147483648, 2147483647))],
  [(1040, .inl (-2147483648, 2147483647))],
  [(30, .inl (-2147483648, 2147483647))],
  [(4, .inl (-2147483648, 2147483647))],
  [(4, .inl (-2147483648, 2147483647))],
  [(96, .inl (-2147483648, 2147483647))],
  [(24, .inl (-2147483648, 2147483647))]]
def bseg (l : List (Nat × bN)) (j : Nat) : Option bN := match l with
  | [] => none
  | q :: t => match Nat.ble (j + 1) q.1 with
    | true => some q.2
    | false => bseg t (j - q.1)
noncomputable def bI (i j : Nat) : Option bN := match xhg bIt i with
  | none => none
  | some l => bseg l j
theorem bZ_len : bZ.length = 354 := by decide +kernel
def bm2 (pc : Nat) : Nat := bif Nat.beq pc 7 then 172 else bif Nat.beq pc 14 then 172 else bif Nat.beq pc 61 then 69 else bif Nat.beq pc 79 then 87 else bif Nat.beq pc 93 then 109 else bif Nat.beq pc 100 then 109 else bif Nat.beq pc 111 then 166 else bif Nat.beq pc 116 then 166 else 99999
def bm3 (pc : Nat) : Nat := 99999
def bm5 (pc : Nat) : Nat := bif Nat.beq pc 29 then 44 else bif Nat.beq pc 36 then 44 else bif Nat.beq pc 51 then 77 else bif Nat.beq pc 61 then 69 else bif Nat.beq pc 69 then 77 else bif Nat.beq pc 91 then 115 else bif Nat.beq pc 96 then 115 else bif Nat.beq pc 109 then 115 else bif Nat.beq pc 120 then 135 else bif Nat.beq pc 127 then 135 else bif Nat.beq pc 143 then 154 else 99999
def bm6 (pc : Nat) : Nat := bif Nat.beq pc 31 then 113 else bif Nat.beq pc 45 then 113 else bif Nat.beq pc 65 then 107 else bif Nat.beq pc 70 then 83 else bif Nat.beq pc 75 then 83 else bif Nat.beq pc 89 then 102 else bif Nat.beq pc 94 then 102 else bif Nat.beq pc 114 then 127 else bif Nat.beq pc 119 then 127 else 99999
def bm7 (pc : Nat) : Nat := 99999
def bm8 (pc : Nat) : Nat := bif Nat.beq pc 26 then 34 else bif Nat.beq pc 59 then 72 else bif Nat.beq pc 64 then 72 else bif Nat.beq pc 77 then 93 else bif Nat.beq pc 85 then 93 else 99999
def bm9 (pc : Nat) : Nat := bif Nat.beq pc 7 then 58 else bif Nat.beq pc 21 then 58 else bif Nat.beq pc 39 then 58 else 99999
def bm10 (pc : Nat) : Nat := bif Nat.beq pc 19 then 27 else bif Nat.beq pc 32 then 40 else bif Nat.beq pc 40 then 48 else 99999
def bm13 (pc : Nat) : Nat := 99999
def bm14 (pc : Nat) : Nat := bif Nat.beq pc 8 then 32 else 99999
def bm16 (pc : Nat) : Nat := bif Nat.beq pc 16 then 59 else bif Nat.beq pc 32 then 53 else 99999
def bm17 (pc : Nat) : Nat := bif Nat.beq pc 7 then 58 else bif Nat.beq pc 19 then 52 else 99999
def bm18 (pc : Nat) : Nat := bif Nat.beq pc 36 then 62 else 99999
def bm19 (pc : Nat) : Nat := bif Nat.beq pc 14 then 80 else bif Nat.beq pc 28 then 74 else bif Nat.beq pc 49 then 74 else 99999
def bm20 (pc : Nat) : Nat := bif Nat.beq pc 13 then 40 else bif Nat.beq pc 26 then 34 else 99999
def bm22 (pc : Nat) : Nat := bif Nat.beq pc 28 then 50 else bif Nat.beq pc 42 then 50 else bif Nat.beq pc 52 then 63 else 99999
def bm23 (pc : Nat) : Nat := bif Nat.beq pc 11 then 30 else 99999
def bm24 (pc : Nat) : Nat := 99999
def bm25 (pc : Nat) : Nat := bif Nat.beq pc 22 then 31 else bif Nat.beq pc 40 then 103 else bif Nat.beq pc 44 then 103 else bif Nat.beq pc 55 then 103 else 99999
def bm26 (pc : Nat) : Nat := bif Nat.beq pc 19 then 35 else bif Nat.beq pc 75 then 109 else bif Nat.beq pc 91 then 109 else bif Nat.beq pc 101 then 109 else 99999
def bm28 (pc : Nat) : Nat := 99999
def bm29 (pc : Nat) : Nat := bif Nat.beq pc 6 then 48 else bif Nat.beq pc 16 then 48 else 99999
def bm30 (pc : Nat) : Nat := bif Nat.beq pc 3 then 17 else bif Nat.beq pc 9 then 17 else 99999
def bm32 (pc : Nat) : Nat := bif Nat.beq pc 1 then 27 else bif Nat.beq pc 13 then 27 else 99999
def bm33 (pc : Nat) : Nat := bif Nat.beq pc 1 then 30 else bif Nat.beq pc 14 then 30 else 99999
def bm35 (pc : Nat) : Nat := bif Nat.beq pc 5 then 22 else bif Nat.beq pc 14 then 22 else 99999
def bm38 (pc : Nat) : Nat := 99999
def bm40 (pc : Nat) : Nat := bif Nat.beq pc 50 then 58 else 99999
def bm41 (pc : Nat) : Nat := bif Nat.beq pc 5 then 13 else 99999
def bm42 (pc : Nat) : Nat := bif Nat.beq pc 9 then 39 else bif Nat.beq pc 27 then 33 else 99999
def bm43 (pc : Nat) : Nat := bif Nat.beq pc 7 then 63 else bif Nat.beq pc 19 then 37 else bif Nat.beq pc 23 then 37 else bif Nat.beq pc 29 then 37 else bif Nat.beq pc 39 then 57 else 99999
def bm44 (pc : Nat) : Nat := bif Nat.beq pc 7 then 43 else bif Nat.beq pc 19 then 37 else 99999
def bm45 (pc : Nat) : Nat := bif Nat.beq pc 11 then 49 else 99999
def bm46 (pc : Nat) : Nat := bif Nat.beq pc 13 then 50 else bif Nat.beq pc 20 then 44 else 99999
def bm48 (pc : Nat) : Nat := bif Nat.beq pc 4 then 12 else 99999
def bm49 (pc : Nat) : Nat := bif Nat.beq pc 18 then 34 else 99999
def bm50 (pc : Nat) : Nat := bif Nat.beq pc 6 then 29 else bif Nat.beq pc 20 then 29 else 99999
def bm51 (pc : Nat) : Nat := bif Nat.beq pc 1 then 31 else bif Nat.beq pc 5 then 31 else bif Nat.beq pc 13 then 31 else bif Nat.beq pc 23 then 31 else 99999
def bm54 (pc : Nat) : Nat := 99999
def bm55 (pc : Nat) : Nat := 99999
def bm56 (pc : Nat) : Nat := 99999
def bm58 (pc : Nat) : Nat := bif Nat.beq pc 7 then 15 else 99999
def bm59 (pc : Nat) : Nat := bif Nat.beq pc 12 then 160 else bif Nat.beq pc 31 then 154 else bif Nat.beq pc 37 then 154 else bif Nat.beq pc 50 then 68 else bif Nat.beq pc 80 then 154 else bif Nat.beq pc 85 then 154 else bif Nat.beq pc 103 then 111 else bif Nat.beq pc 117 then 154 else 99999
def bm60 (pc : Nat) : Nat := bif Nat.beq pc 1 then 17 else bif Nat.beq pc 7 then 17 else 99999
def bm61 (pc : Nat) : Nat := bif Nat.beq pc 93 then 105 else bif Nat.beq pc 97 then 105 else bif Nat.beq pc 107 then 119 else bif Nat.beq pc 111 then 119 else bif Nat.beq pc 122 then 130 else bif Nat.beq pc 133 then 141 else bif Nat.beq pc 144 then 152 else bif Nat.beq pc 166 then 176 else bif Nat.beq pc 178 then 188 else 99999
def bm63 (pc : Nat) : Nat := bif Nat.beq pc 8 then 32 else bif Nat.beq pc 40 then 64 else bif Nat.beq pc 72 then 102 else 99999
def bm65 (pc : Nat) : Nat := 99999
def bm66 (pc : Nat) : Nat := bif Nat.beq pc 4 then 108 else 99999
def bm67 (pc : Nat) : Nat := bif Nat.beq pc 41 then 89 else 99999
def bm68 (pc : Nat) : Nat := bif Nat.beq pc 14 then 40 else 99999
def bm71 (pc : Nat) : Nat := bif Nat.beq pc 43 then 124 else bif Nat.beq pc 59 then 118 else 99999
def bm72 (pc : Nat) : Nat := bif Nat.beq pc 22 then 65 else 99999
def bm74 (pc : Nat) : Nat := 99999
def bm75 (pc : Nat) : Nat := 99999
def bm76 (pc : Nat) : Nat := 99999
def bm77 (pc : Nat) : Nat := 99999
def bm78 (pc : Nat) : Nat := bif Nat.beq pc 44 then 71 else 99999
def bm79 (pc : Nat) : Nat := 99999
def bm80 (pc : Nat) : Nat := 99999
def bm81 (pc : Nat) : Nat := 99999
def bm82 (pc : Nat) : Nat := 99999
def bm83 (pc : Nat) : Nat := 99999
def bm84 (pc : Nat) : Nat := bif Nat.beq pc 46 then 78 else 99999
def bm85 (pc : Nat) : Nat := bif Nat.beq pc 25 then 35 else 99999
def bm86 (pc : Nat) : Nat := bif Nat.beq pc 25 then 33 else 99999
def bm87 (pc : Nat) : Nat := 99999
def bm88 (pc : Nat) : Nat := bif Nat.beq pc 69 then 77 else 99999
def bm89 (pc : Nat) : Nat := bif Nat.beq pc 33 then 65 else 99999
def bm90 (pc : Nat) : Nat := 99999
def bm91 (pc : Nat) : Nat := 99999
def bm92 (pc : Nat) : Nat := 99999
def bm93 (pc : Nat) : Nat := 99999
def bm94 (pc : Nat) : Nat := 99999
def bm95 (pc : Nat) : Nat := bif Nat.beq pc 63 then 80 else 99999
def bm96 (pc : Nat) : Nat := bif Nat.beq pc 34 then 50 else 99999
def bm97 (pc : Nat) : Nat := bif Nat.beq pc 107 then 120 else 99999
def bm98 (pc : Nat) : Nat := bif Nat.beq pc 32 then 43 else 99999
def bm99 (pc : Nat) : Nat := 99999
def bm100 (pc : Nat) : Nat := bif Nat.beq pc 91 then 99 else 99999
def bm101 (pc : Nat) : Nat := bif Nat.beq pc 72 then 97 else 99999
def bm102 (pc : Nat) : Nat := bif Nat.beq pc 42 then 58 else 99999
def bm103 (pc : Nat) : Nat := 99999
def bm104 (pc : Nat) : Nat := bif Nat.beq pc 139 then 159 else bif Nat.beq pc 162 then 182 else bif Nat.beq pc 186 then 199 else 99999
def bm106 (pc : Nat) : Nat := bif Nat.beq pc 55 then 69 else 99999
def bm107 (pc : Nat) : Nat := 99999
def bm108 (pc : Nat) : Nat := bif Nat.beq pc 73 then 81 else 99999
def bm109 (pc : Nat) : Nat := 99999
def bm110 (pc : Nat) : Nat := 99999
def bm111 (pc : Nat) : Nat := bif Nat.beq pc 66 then 108 else bif Nat.beq pc 73 then 108 else bif Nat.beq pc 86 then 108 else 99999
def bm113 (pc : Nat) : Nat := 99999
def bm114 (pc : Nat) : Nat := 99999
def bm115 (pc : Nat) : Nat := 99999
def bm116 (pc : Nat) : Nat := 99999
def bm117 (pc : Nat) : Nat := 99999
def bm119 (pc : Nat) : Nat := 99999
def bm120 (pc : Nat) : Nat := bif Nat.beq pc 1 then 20 else bif Nat.beq pc 12 then 20 else 99999
def bm121 (pc : Nat) : Nat := bif Nat.beq pc 1 then 20 else bif Nat.beq pc 12 then 20 else 99999
def bm122 (pc : Nat) : Nat := bif Nat.beq pc 1 then 14 else bif Nat.beq pc 6 then 14 else 99999
def bm123 (pc : Nat) : Nat := bif Nat.beq pc 1 then 15 else bif Nat.beq pc 7 then 15 else 99999
def bm124 (pc : Nat) : Nat := bif Nat.beq pc 1 then 15 else bif Nat.beq pc 7 then 15 else 99999
def bm125 (pc : Nat) : Nat := bif Nat.beq pc 1 then 14 else bif Nat.beq pc 6 then 14 else 99999
def bm126 (pc : Nat) : Nat := bif Nat.beq pc 34 then 48 else bif Nat.beq pc 40 then 48 else 99999
def bm127 (pc : Nat) : Nat := 99999
def bm128 (pc : Nat) : Nat := bif Nat.beq pc 14 then 70 else bif Nat.beq pc 54 then 64 else 99999
def bm129 (pc : Nat) : Nat := bif Nat.beq pc 5 then 13 else bif Nat.beq pc 53 then 102 else 99999
def bm130 (pc : Nat) : Nat := bif Nat.beq pc 1 then 27 else bif Nat.beq pc 7 then 27 else bif Nat.beq pc 13 then 27 else bif Nat.beq pc 19 then 27 else 99999
def bm131 (pc : Nat) : Nat := bif Nat.beq pc 3 then 17 else bif Nat.beq pc 9 then 17 else 99999
def bm132 (pc : Nat) : Nat := bif Nat.beq pc 4 then 13 else 99999
def bm133 (pc : Nat) : Nat := bif Nat.beq pc 31 then 43 else 99999
def bm136 (pc : Nat) : Nat := bif Nat.beq pc 2 then 15 else bif Nat.beq pc 7 then 15 else 99999
def bm137 (pc : Nat) : Nat := bif Nat.beq pc 2 then 19 else bif Nat.beq pc 11 then 19 else 99999
def bm138 (pc : Nat) : Nat := bif Nat.beq pc 6 then 21 else 99999
def bm142 (pc : Nat) : Nat := bif Nat.beq pc 7 then 26 else bif Nat.beq pc 18 then 26 else 99999
def bm143 (pc : Nat) : Nat := bif Nat.beq pc 9 then 21 else bif Nat.beq pc 25 then 59 else bif Nat.beq pc 36 then 59 else bif Nat.beq pc 47 then 59 else 99999
def bm144 (pc : Nat) : Nat := bif Nat.beq pc 6 then 14 else bif Nat.beq pc 21 then 49 else bif Nat.beq pc 25 then 49 else bif Nat.beq pc 34 then 42 else 99999
def bm145 (pc : Nat) : Nat := bif Nat.beq pc 5 then 25 else 99999
def bm146 (pc : Nat) : Nat := bif Nat.beq pc 5 then 36 else bif Nat.beq pc 19 then 29 else 99999
def bm147 (pc : Nat) : Nat := bif Nat.beq pc 8 then 36 else 99999
def bm148 (pc : Nat) : Nat := bif Nat.beq pc 6 then 39 else bif Nat.beq pc 16 then 31 else 99999
def bm149 (pc : Nat) : Nat := bif Nat.beq pc 10 then 38 else bif Nat.beq pc 19 then 32 else 99999
def bm150 (pc : Nat) : Nat := bif Nat.beq pc 6 then 86 else bif Nat.beq pc 14 then 86 else bif Nat.beq pc 69 then 79 else 99999
def bm151 (pc : Nat) : Nat := bif Nat.beq pc 6 then 150 else bif Nat.beq pc 68 then 100 else bif Nat.beq pc 78 then 93 else 99999
def bm152 (pc : Nat) : Nat := bif Nat.beq pc 12 then 38 else bif Nat.beq pc 16 then 38 else 99999
def bm153 (pc : Nat) : Nat := bif Nat.beq pc 5 then 19 else 99999
def bm154 (pc : Nat) : Nat := bif Nat.beq pc 11 then 25 else 99999
def bm155 (pc : Nat) : Nat := bif Nat.beq pc 11 then 31 else 99999
def bm157 (pc : Nat) : Nat := bif Nat.beq pc 5 then 52 else bif Nat.beq pc 22 then 43 else bif Nat.beq pc 28 then 43 else bif Nat.beq pc 35 then 43 else 99999
def bm158 (pc : Nat) : Nat := bif Nat.beq pc 17 then 42 else 99999
def bm159 (pc : Nat) : Nat := 99999
def bm160 (pc : Nat) : Nat := 99999
def bm161 (pc : Nat) : Nat := bif Nat.beq pc 2 then 37 else bif Nat.beq pc 21 then 37 else 99999
def bm162 (pc : Nat) : Nat := 99999
def bm163 (pc : Nat) : Nat := 99999
def bm165 (pc : Nat) : Nat := bif Nat.beq pc 45 then 115 else bif Nat.beq pc 62 then 72 else bif Nat.beq pc 99 then 107 else 99999
def bm166 (pc : Nat) : Nat := bif Nat.beq pc 4 then 19 else 99999
def bm167 (pc : Nat) : Nat := 99999
def bm168 (pc : Nat) : Nat := bif Nat.beq pc 5 then 31 else bif Nat.beq pc 14 then 31 else 99999
def bm169 (pc : Nat) : Nat := bif Nat.beq pc 1 then 40 else bif Nat.beq pc 6 then 40 else bif Nat.beq pc 11 then 40 else bif Nat.beq pc 16 then 40 else bif Nat.beq pc 22 then 40 else bif Nat.beq pc 27 then 40 else bif Nat.beq pc 32 then 40 else 99999
def bm170 (pc : Nat) : Nat := bif Nat.beq pc 34 then 51 else 99999
def bm171 (pc : Nat) : Nat := bif Nat.beq pc 20 then 40 else bif Nat.beq pc 30 then 40 else 99999
def bm172 (pc : Nat) : Nat := bif Nat.beq pc 42 then 90 else 99999
def bm173 (pc : Nat) : Nat := bif Nat.beq pc 11 then 31 else 99999
def bm174 (pc : Nat) : Nat := bif Nat.beq pc 4 then 68 else bif Nat.beq pc 10 then 68 else bif Nat.beq pc 16 then 68 else bif Nat.beq pc 22 then 68 else bif Nat.beq pc 28 then 68 else bif Nat.beq pc 42 then 68 else bif Nat.beq pc 48 then 68 else bif Nat.beq pc 54 then 68 else bif Nat.beq pc 60 then 68 else 99999
def bm176 (pc : Nat) : Nat := 99999
def bm177 (pc : Nat) : Nat := 99999
def bm178 (pc : Nat) : Nat := 99999
def bm179 (pc : Nat) : Nat := 99999
def bm180 (pc : Nat) : Nat := 99999
def bm181 (pc : Nat) : Nat := 99999
def bm182 (pc : Nat) : Nat := bif Nat.beq pc 48 then 94 else bif Nat.beq pc 62 then 94 else 99999
def bm183 (pc : Nat) : Nat := bif Nat.beq pc 13 then 21 else 99999
def bm184 (pc : Nat) : Nat := bif Nat.beq pc 39 then 61 else bif Nat.beq pc 53 then 61 else bif Nat.beq pc 112 then 139 else 99999
def bm185 (pc : Nat) : Nat := bif Nat.beq pc 20 then 28 else 99999
def bm186 (pc : Nat) : Nat := bif Nat.beq pc 133 then 153 else bif Nat.beq pc 142 then 153 else bif Nat.beq pc 155 then 170 else bif Nat.beq pc 160 then 170 else bif Nat.beq pc 173 then 181 else bif Nat.beq pc 184 then 192 else bif Nat.beq pc 195 then 203 else bif Nat.beq pc 205 then 217 else bif Nat.beq pc 209 then 217 else bif Nat.beq pc 219 then 231 else bif Nat.beq pc 223 then 231 else 99999
def bm187 (pc : Nat) : Nat := bif Nat.beq pc 22 then 164 else bif Nat.beq pc 57 then 158 else bif Nat.beq pc 63 then 158 else bif Nat.beq pc 73 then 88 else bif Nat.beq pc 98 then 158 else bif Nat.beq pc 116 then 124 else 99999
def bm188 (pc : Nat) : Nat := 99999
def bm189 (pc : Nat) : Nat := bif Nat.beq pc 58 then 66 else 99999
def bm190 (pc : Nat) : Nat := bif Nat.beq pc 19 then 44 else 99999
def bm191 (pc : Nat) : Nat := 99999
def bm192 (pc : Nat) : Nat := bif Nat.beq pc 18 then 26 else 99999
def bm193 (pc : Nat) : Nat := bif Nat.beq pc 50 then 78 else 99999
def bm194 (pc : Nat) : Nat := bif Nat.beq pc 47 then 77 else bif Nat.beq pc 56 then 77 else bif Nat.beq pc 66 then 77 else bif Nat.beq pc 89 then 127 else bif Nat.beq pc 100 then 118 else 99999
def bm195 (pc : Nat) : Nat := 99999
def bm196 (pc : Nat) : Nat := bif Nat.beq pc 6 then 25 else bif Nat.beq pc 15 then 25 else bif Nat.beq pc 32 then 228 else bif Nat.beq pc 41 then 222 else bif Nat.beq pc 50 then 222 else bif Nat.beq pc 76 then 160 else bif Nat.beq pc 81 then 160 else bif Nat.beq pc 98 then 142 else bif Nat.beq pc 103 then 142 else bif Nat.beq pc 126 then 134 else bif Nat.beq pc 144 then 152 else bif Nat.beq pc 167 then 203 else bif Nat.beq pc 172 then 203 else bif Nat.beq pc 210 then 218 else 99999
def bm197 (pc : Nat) : Nat := 99999
def bm198 (pc : Nat) : Nat := bif Nat.beq pc 7 then 94 else bif Nat.beq pc 22 then 75 else bif Nat.beq pc 27 then 75 else bif Nat.beq pc 41 then 67 else bif Nat.beq pc 59 then 67 else bif Nat.beq pc 78 then 86 else 99999
def bm199 (pc : Nat) : Nat := bif Nat.beq pc 48 then 81 else bif Nat.beq pc 63 then 73 else bif Nat.beq pc 82 then 96 else 99999
def bm200 (pc : Nat) : Nat := bif Nat.beq pc 62 then 99 else bif Nat.beq pc 83 then 91 else 99999
def bm201 (pc : Nat) : Nat := bif Nat.beq pc 81 then 118 else bif Nat.beq pc 92 then 118 else bif Nat.beq pc 109 then 118 else 99999
def bm202 (pc : Nat) : Nat := bif Nat.beq pc 7 then 20 else 99999
def bm203 (pc : Nat) : Nat := bif Nat.beq pc 3 then 37 else bif Nat.beq pc 21 then 29 else bif Nat.beq pc 29 then 37 else 99999
def bm204 (pc : Nat) : Nat := bif Nat.beq pc 66 then 74 else bif Nat.beq pc 92 then 104 else bif Nat.beq pc 96 then 104 else bif Nat.beq pc 117 then 147 else bif Nat.beq pc 152 then 164 else bif Nat.beq pc 156 then 164 else 99999
def bm205 (pc : Nat) : Nat := bif Nat.beq pc 21 then 131 else bif Nat.beq pc 34 then 131 else bif Nat.beq pc 49 then 128 else bif Nat.beq pc 55 then 128 else bif Nat.beq pc 83 then 101 else bif Nat.beq pc 89 then 101 else bif Nat.beq pc 93 then 101 else bif Nat.beq pc 105 then 127 else bif Nat.beq pc 114 then 127 else bif Nat.beq pc 119 then 127 else bif Nat.beq pc 132 then 144 else bif Nat.beq pc 136 then 144 else 99999
def bm206 (pc : Nat) : Nat := bif Nat.beq pc 38 then 54 else 99999
def bm207 (pc : Nat) : Nat := 99999
def bm208 (pc : Nat) : Nat := bif Nat.beq pc 41 then 61 else bif Nat.beq pc 53 then 61 else 99999
def bm209 (pc : Nat) : Nat := bif Nat.beq pc 8 then 55 else bif Nat.beq pc 16 then 45 else bif Nat.beq pc 60 then 97 else 99999
def bm210 (pc : Nat) : Nat := bif Nat.beq pc 11 then 98 else bif Nat.beq pc 35 then 92 else bif Nat.beq pc 55 then 89 else 99999
def bm211 (pc : Nat) : Nat := 99999
def bm212 (pc : Nat) : Nat := bif Nat.beq pc 40 then 63 else 99999
def bm213 (pc : Nat) : Nat := 99999
def bm214 (pc : Nat) : Nat := 99999
def bm215 (pc : Nat) : Nat := bif Nat.beq pc 33 then 60 else bif Nat.beq pc 44 then 60 else 99999
def bm216 (pc : Nat) : Nat := bif Nat.beq pc 8 then 41 else bif Nat.beq pc 17 then 41 else bif Nat.beq pc 25 then 41 else bif Nat.beq pc 33 then 41 else bif Nat.beq pc 114 then 248 else bif Nat.beq pc 120 then 248 else bif Nat.beq pc 149 then 157 else bif Nat.beq pc 163 then 171 else bif Nat.beq pc 176 then 193 else bif Nat.beq pc 183 then 193 else bif Nat.beq pc 197 then 242 else bif Nat.beq pc 202 then 242 else bif Nat.beq pc 250 then 282 else bif Nat.beq pc 261 then 282 else bif Nat.beq pc 272 then 282 else bif Nat.beq pc 287 then 306 else bif Nat.beq pc 293 then 306 else 99999
def bm218 (pc : Nat) : Nat := bif Nat.beq pc 6 then 29 else 99999
def bm219 (pc : Nat) : Nat := bif Nat.beq pc 2 then 25 else bif Nat.beq pc 8 then 25 else bif Nat.beq pc 17 then 25 else 99999
def bm221 (pc : Nat) : Nat := 99999
def bm222 (pc : Nat) : Nat := 99999
def bm223 (pc : Nat) : Nat := 99999
def bm224 (pc : Nat) : Nat := bif Nat.beq pc 61 then 69 else bif Nat.beq pc 74 then 96 else bif Nat.beq pc 84 then 96 else bif Nat.beq pc 117 then 135 else bif Nat.beq pc 157 then 175 else 99999
def bm225 (pc : Nat) : Nat := bif Nat.beq pc 45 then 95 else bif Nat.beq pc 60 then 95 else bif Nat.beq pc 75 then 95 else bif Nat.beq pc 101 then 115 else 99999
def bm226 (pc : Nat) : Nat := bif Nat.beq pc 11 then 28 else 99999
def bm228 (pc : Nat) : Nat := bif Nat.beq pc 78 then 86 else bif Nat.beq pc 94 then 116 else 99999
def bm229 (pc : Nat) : Nat := 99999
def bm230 (pc : Nat) : Nat := bif Nat.beq pc 119 then 149 else bif Nat.beq pc 156 then 187 else 99999
def bm231 (pc : Nat) : Nat := bif Nat.beq pc 45 then 104 else bif Nat.beq pc 51 then 104 else bif Nat.beq pc 68 then 104 else 99999
def bm233 (pc : Nat) : Nat := 99999
def bm234 (pc : Nat) : Nat := 99999
def bm235 (pc : Nat) : Nat := bif Nat.beq pc 54 then 97 else bif Nat.beq pc 65 then 97 else bif Nat.beq pc 88 then 97 else bif Nat.beq pc 100 then 122 else bif Nat.beq pc 111 then 122 else 99999
def bm236 (pc : Nat) : Nat := 99999
def bm237 (pc : Nat) : Nat := bif Nat.beq pc 7 then 24 else 99999
def bmp (mi pc : Nat) : Nat := bif Nat.beq mi 2 then bm2 pc else bif Nat.beq mi 3 then bm3 pc else bif Nat.beq mi 5 then bm5 pc else bif Nat.beq mi 6 then bm6 pc else bif Nat.beq mi 7 then bm7 pc else bif Nat.beq mi 8 then bm8 pc else bif Nat.beq mi 9 then bm9 pc else bif Nat.beq mi 10 then bm10 pc else bif Nat.beq mi 13 then bm13 pc else bif Nat.beq mi 14 then bm14 pc else bif Nat.beq mi 16 then bm16 pc else bif Nat.beq mi 17 then bm17 pc else bif Nat.beq mi 18 then bm18 pc else bif Nat.beq mi 19 then bm19 pc else bif Nat.beq mi 20 then bm20 pc else bif Nat.beq mi 22 then bm22 pc else bif Nat.beq mi 23 then bm23 pc else bif Nat.beq mi 24 then bm24 pc else bif Nat.beq mi 25 then bm25 pc else bif Nat.beq mi 26 then bm26 pc else bif Nat.beq mi 28 then bm28 pc else bif Nat.beq mi 29 then bm29 pc else bif Nat.beq mi 30 then bm30 pc else bif Nat.beq mi 32 then bm32 pc else bif Nat.beq mi 33 then bm33 pc else bif Nat.beq mi 35 then bm35 pc else bif Nat.beq mi 38 then bm38 pc else bif Nat.beq mi 40 then bm40 pc else bif Nat.beq mi 41 then bm41 pc else bif Nat.beq mi 42 then bm42 pc else bif Nat.beq mi 43 then bm43 pc else bif Nat.beq mi 44 then bm44 pc else bif Nat.beq mi 45 then bm45 pc else bif Nat.beq mi 46 then bm46 pc else bif Nat.beq mi 48 then bm48 pc else bif Nat.beq mi 49 then bm49 pc else bif Nat.beq mi 50 then bm50 pc else bif Nat.beq mi 51 then bm51 pc else bif Nat.beq mi 54 then bm54 pc else bif Nat.beq mi 55 then bm55 pc else bif Nat.beq mi 56 then bm56 pc else bif Nat.beq mi 58 then bm58 pc else bif Nat.beq mi 59 then bm59 pc else bif Nat.beq mi 60 then bm60 pc else bif Nat.beq mi 61 then bm61 pc else bif Nat.beq mi 63 then bm63 pc else bif Nat.beq mi 65 then bm65 pc else bif Nat.beq mi 66 then bm66 pc else bif Nat.beq mi 67 then bm67 pc else bif Nat.beq mi 68 then bm68 pc else bif Nat.beq mi 71 then bm71 pc else bif Nat.beq mi 72 then bm72 pc else bif Nat.beq mi 74 then bm74 pc else bif Nat.beq mi 75 then bm75 pc else bif Nat.beq mi 76 then bm76 pc else bif Nat.beq mi 77 then bm77 pc else bif Nat.beq mi 78 then bm78 pc else bif Nat.beq mi 79 then bm79 pc else bif Nat.beq mi 80 then bm80 pc else bif Nat.beq mi 81 then bm81 pc else bif Nat.beq mi 82 then bm82 pc else bif Nat.beq mi 83 then bm83 pc else bif Nat.beq mi 84 then bm84 pc else bif Nat.beq mi 85 then bm85 pc else bif Nat.beq mi 86 then bm86 pc else bif Nat.beq mi 87 then bm87 pc else bif Nat.beq mi 88 then bm88 pc else bif Nat.beq mi 89 then bm89 pc else bif Nat.beq mi 90 then bm90 pc else bif Nat.beq mi 91 then bm91 pc else bif Nat.beq mi 92 then bm92 pc else bif Nat.beq mi 93 then bm93 pc else bif Nat.beq mi 94 then bm94 pc else bif Nat.beq mi 95 then bm95 pc else bif Nat.beq mi 96 then bm96 pc else bif Nat.beq mi 97 then bm97 pc else bif Nat.beq mi 98 then bm98 pc else bif Nat.beq mi 99 then bm99 pc else bif Nat.beq mi 100 then bm100 pc else bif Nat.beq mi 101 then bm101 pc else bif Nat.beq mi 102 then bm102 pc else bif Nat.beq mi 103 then bm103 pc else bif Nat.beq mi 104 then bm104 pc else bif Nat.beq mi 106 then bm106 pc else bif Nat.beq mi 107 then bm107 pc else bif Nat.beq mi 108 then bm108 pc else bif Nat.beq mi 109 then bm109 pc else bif Nat.beq mi 110 then bm110 pc else bif Nat.beq mi 111 then bm111 pc else bif Nat.beq mi 113 then bm113 pc else bif Nat.beq mi 114 then bm114 pc else bif Nat.beq mi 115 then bm115 pc else bif Nat.beq mi 116 then bm116 pc else bif Nat.beq mi 117 then bm117 pc else bif Nat.beq mi 119 then bm119 pc else bif Nat.beq mi 120 then bm120 pc else bif Nat.beq mi 121 then bm121 pc else bif Nat.beq mi 122 then bm122 pc else bif Nat.beq mi 123 then bm123 pc else bif Nat.beq mi 124 then bm124 pc else bif Nat.beq mi 125 then bm125 pc else bif Nat.beq mi 126 then bm126 pc else bif Nat.beq mi 127 then bm127 pc else bif Nat.beq mi 128 then bm128 pc else bif Nat.beq mi 129 then bm129 pc else bif Nat.beq mi 130 then bm130 pc else bif Nat.beq mi 131 then bm131 pc else bif Nat.beq mi 132 then bm132 pc else bif Nat.beq mi 133 then bm133 pc else bif Nat.beq mi 136 then bm136 pc else bif Nat.beq mi 137 then bm137 pc else bif Nat.beq mi 138 then bm138 pc else bif Nat.beq mi 142 then bm142 pc else bif Nat.beq mi 143 then bm143 pc else bif Nat.beq mi 144 then bm144 pc else bif Nat.beq mi 145 then bm145 pc else bif Nat.beq mi 146 then bm146 pc else bif Nat.beq mi 147 then bm147 pc else bif Nat.beq mi 148 then bm148 pc else bif Nat.beq mi 149 then bm149 pc else bif Nat.beq mi 150 then bm150 pc else bif Nat.beq mi 151 then bm151 pc else bif Nat.beq mi 152 then bm152 pc else bif Nat.beq mi 153 then bm153 pc else bif Nat.beq mi 154 then bm154 pc else bif Nat.beq mi 155 then bm155 pc else bif Nat.beq mi 157 then bm157 pc else bif Nat.beq mi 158 then bm158 pc else bif Nat.beq mi 159 then bm159 pc else bif Nat.beq mi 160 then bm160 pc else bif Nat.beq mi 161 then bm161 pc else bif Nat.beq mi 162 then bm162 pc else bif Nat.beq mi 163 then bm163 pc else bif Nat.beq mi 165 then bm165 pc else bif Nat.beq mi 166 then bm166 pc else bif Nat.beq mi 167 then bm167 pc else bif Nat.beq mi 168 then bm168 pc else bif Nat.beq mi 169 then bm169 pc else bif Nat.beq mi 170 then bm170 pc else bif Nat.beq mi 171 then bm171 pc else bif Nat.beq mi 172 then bm172 pc else bif Nat.beq mi 173 then bm173 pc else bif Nat.beq mi 174 then bm174 pc else bif Nat.beq mi 176 then bm176 pc else bif Nat.beq mi 177 then bm177 pc else bif Nat.beq mi 178 then bm178 pc else bif Nat.beq mi 179 then bm179 pc else bif Nat.beq mi 180 then bm180 pc else bif Nat.beq mi 181 then bm181 pc else bif Nat.beq mi 182 then bm182 pc else bif Nat.beq mi 183 then bm183 pc else bif Nat.beq mi 184 then bm184 pc else bif Nat.beq mi 185 then bm185 pc else bif Nat.beq mi 186 then bm186 pc else bif Nat.beq mi 187 then bm187 pc else bif Nat.beq mi 188 then bm188 pc else bif Nat.beq mi 189 then bm189 pc else bif Nat.beq mi 190 then bm190 pc else bif Nat.beq mi 191 then bm191 pc else bif Nat.beq mi 192 then bm192 pc else bif Nat.beq mi 193 then bm193 pc else bif Nat.beq mi 194 then bm194 pc else bif Nat.beq mi 195 then bm195 pc else bif Nat.beq mi 196 then bm196 pc else bif Nat.beq mi 197 then bm197 pc else bif Nat.beq mi 198 then bm198 pc else bif Nat.beq mi 199 then bm199 pc else bif Nat.beq mi 200 then bm200 pc else bif Nat.beq mi 201 then bm201 pc else bif Nat.beq mi 202 then bm202 pc else bif Nat.beq mi 203 then bm203 pc else bif Nat.beq mi 204 then bm204 pc else bif Nat.beq mi 205 then bm205 pc else bif Nat.beq mi 206 then bm206 pc else bif Nat.beq mi 207 then bm207 pc else bif Nat.beq mi 208 then bm208 pc else bif Nat.beq mi 209 then bm209 pc else bif Nat.beq mi 210 then bm210 pc else bif Nat.beq mi 211 then bm211 pc else bif Nat.beq mi 212 then bm212 pc else bif Nat.beq mi 213 then bm213 pc else bif Nat.beq mi 214 then bm214 pc else bif Nat.beq mi 215 then bm215 pc else bif Nat.beq mi 216 then bm216 pc else bif Nat.beq mi 218 then bm218 pc else bif Nat.beq mi 219 then bm219 pc else bif Nat.beq mi 221 then bm221 pc else bif Nat.beq mi 222 then bm222 pc else bif Nat.beq mi 223 then bm223 pc else bif Nat.beq mi 224 then bm224 pc else bif Nat.beq mi 225 then bm225 pc else bif Nat.beq mi 226 then bm226 pc else bif Nat.beq mi 228 then bm228 pc else bif Nat.beq mi 229 then bm229 pc else bif Nat.beq mi 230 then bm230 pc else bif Nat.beq mi 231 then bm231 pc else bif Nat.beq mi 233 then bm233 pc else bif Nat.beq mi 234 then bm234 pc else bif Nat.beq mi 235 then bm235 pc else bif Nat.beq mi 236 then bm236 pc else bif Nat.beq mi 237 then bm237 pc else 99999
