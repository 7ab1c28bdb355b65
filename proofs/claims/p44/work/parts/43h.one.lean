-- ===== the parser's innermost: a name, a number, a denial, a text in brackets
def oS (a_ : Nat) : bT := ([(1, -2147483648, 2147483647), (0, (a_ : Int) + 1, 60)], 2, [(0, wth)], [], [((339, 684 + a_), some (.inl (bvr 1))), ((339, 6), some (.inl (bvr 0))), ((338, 7), wcn (a_ : Int))])
def oE (a_ : Nat) : bT := ([(0, 0, (a_ : Int))], 1, [(0, wth)], [], [((339, 6), some (.inl (bvr 0))), ((338, 7), wcn (a_ : Int))])
def oT26 (a_ : Nat) : bT := ([(2, 98, 116)], 3, [(0, wth)], [some (.inl (bvr 2)), wcn 1, wth], [((338, 7), wcn ((a_ : Int) + 1))])
def oT97 (a_ : Nat) (j_ : Int) : bT := ([(2, -2147483648, 2147483647)], 3, [(0, wth)], [some (.inl (bvr 2)), wcn 0, wth], [((338, 7), wcn ((a_ : Int) + j_))])
def oT9 (a_ : Nat) : bT := ([], 2, [(0, wth)], [wth], [((338, 7), wcn (a_ : Int))])
def oF (a_ : Nat) (q_ : bQ) : Bool := pis 26 2 (oT26 a_) q_ || ((pis 97 2 (oT97 a_ 1) q_ || (pis 97 2 (oT97 a_ 2) q_ || (pis 97 2 (oT97 a_ 3) q_ || pis 97 2 (oT97 a_ 4) q_))) || (pis 109 2 (oT9 a_) q_ || pis 149 2 (oT9 a_) q_))
noncomputable def oSc (a_ : Nat) : Bool := pchk (prun [(338, 338, 7, 7)] 182 0 2 [26, 97, 109, 149] (oS a_)) (oF a_) (pans 0 [])
noncomputable def oEc (a_ : Nat) : Bool := pchk (prun [(338, 338, 7, 7)] 182 0 1 [26, 97, 109, 149] (oE a_)) pno (pans 0 [])
theorem oEc_a : (List.range 61).all oEc = true := by decide +kernel
def lP5 : bT := ([], 0, [(0, wth)], [], [((338, 8), wcn 5)])
def lP4 : bT := ([(1, 0, 4), (0, 0, 59)], 2, [(0, wth)], [], [((338, 8), some (.inl (bvr 1))), ((338, 7), some (.inl (bvr 0)))])
def lN1 : bT := ([(0, 1, 5)], 1, [(0, wth)], [wcn 1], [((338, 8), some (.inl (bvr 0)))])
def lN2 : bT := ([], 1, [(0, wth)], [wcn 0, wcn 2, wth], [((338, 8), some (.inl (-1, [(0, 1)])))])
def lB1 : bT := ([(1, 1, 5), (0, 0, 60)], 2, [(0, wth)], [wcn 1], [((338, 8), some (.inl (bvr 1))), ((338, 7), some (.inl (bvr 0)))])
noncomputable def oV : Bool :=
  ((pcal 182 26 175 && (pcal 182 97 175 && pcal 182 137 175)) && ((pcal 182 109 181 && pcal 182 149 181) && ((pcal 182 116 182 && pcal 182 156 176) && (pcm 181 0 && (pcm 182 0 && pcm 176 0))))) &&
  ((pchk (prun [] 181 0 0 [] lP5) pno (pans 0 []) && pchk (prun [(338, 338, 7, 8)] 181 0 2 [] lP4) pno (pans 1 [((338, 8), (1, [(1, 1)])), ((338, 7), (1, [(0, 1)]))])) &&
  (((pchk (prun [] 182 112 0 [116] (lJS 0)) pno (pans 0 []) && pchk (prun [] 182 112 0 [116] (lJS 1)) (pis 116 0 lJt) pno) &&
  (pchk (prun [] 182 119 0 [137] (lJS 0)) pno (pans 0 []) && pchk (prun [(338, 338, 8, 8)] 182 119 1 [137] lN1) (pis 137 1 lN2) pno)) &&
  ((pchk (prun [] 182 140 0 [] lJ0) pno (pans 1 []) && (pchk (prun [] 182 29 0 [] lJ0) pno (pans 1 []) && pchk (prun [] 182 100 0 [] lJ0) pno (pans 1 []))) &&
  ((pchk (prun [] 182 152 0 [156] (lJS 0)) pno (pans 0 []) && pchk (prun [] 182 152 0 [156] (lJS 1)) (pis 156 0 lJt) pno) &&
  (pchk (prun [] 182 159 0 [] (lJS 0)) pno (pans 0 []) && pchk (prun [(338, 338, 7, 8)] 182 159 2 [] lB1) pno (fun r_ => pans 0 [] r_ || pans 1 [((338, 7), (1, [(0, 1)])), ((338, 8), (-1, [(1, 1)]))] r_))))))
theorem oV_ok : oV = true := by decide +kernel
