-- ===== text: what the parser laid down is taken over
def xtA (u_ : Nat) : bT := ([], 0, [(0, wth), (1, wcn (u_ : Int))], [], [])
def xtA2 (u_ : Nat) : bT := ([], 0, [(0, wth), (1, wcn (u_ : Int))], [wth], [((338, 7), wcn 0), ((338, 8), wcn 0), ((338, 9), wcn 0)])
def xtB0 (u_ : Nat) : bT := ([], 0, [(0, wth), (1, wcn (u_ : Int))], [wcn 0], [])
def xtB1 (u_ : Nat) : bT := ([(1, 0, 60), (0, 0, 60)], 2, [(0, wth), (1, wcn (u_ : Int))], [wcn 1], [((339, 434 + 125 * u_), some (.inl (bvr 1))), ((338, 9), some (.inl (bvr 0)))])
def xH0 (u_ : Nat) : bT := ([], 2, [(0, wth), (1, wcn (u_ : Int)), (3, wcn ((434 + 125 * u_ : Nat) : Int)), (4, wcn 0)], [], [((339, 434 + 125 * u_), some (.inl (bvr 0)))])
def xHk (u_ k_ : Nat) : bT := ([], 0, [(0, wth), (1, wcn (u_ : Int)), (3, wcn ((434 + 125 * u_ : Nat) : Int)), (4, wcn (k_ : Int))], [], [])
def xJk (u_ k_ : Nat) : bT := ([(1, -2147483648, 2147483647), (0, (k_ / 2 : Nat) + 1, 60)], 2, [(0, wth), (1, wcn (u_ : Int)), (3, wcn ((434 + 125 * u_ : Nat) : Int)), (4, wcn (k_ : Int))], [], [((345, k_), some (.inl (bvr 1))), ((338, 9), some (.inl (bvr 0)))])
def xJn (u_ k_ : Nat) : bT := ([], 2, [(0, wth), (1, wcn (u_ : Int)), (3, wcn ((434 + 125 * u_ : Nat) : Int)), (4, wcn ((k_ : Int) + 1))], [], [((339, 434 + 125 * u_ + 1 + k_), some (.inl (bvr 1)))])
def xXs (u_ s_ : Nat) : bT := ([], 0, [(0, wth), (1, wcn (u_ : Int)), (3, wcn ((434 + 125 * u_ : Nat) : Int)), (4, wcn ((2 * s_ : Nat) : Int))], [], [((338, 9), wcn (s_ : Int))])
def xWt (u_ : Nat) : bW := [(339, 339, 6, 6), (339, 339, 434 + 125 * u_, 434 + 125 * u_)]
noncomputable def xtc (u_ : Nat) : Bool :=
  (pchk (prun [(338, 338, 7, 10)] 184 0 0 [36] (xtA u_)) (pis 36 0 (xtA2 u_)) pno) &&
  ((pchk (prun [(339, 339, 6, 6)] 184 39 0 [104] (xtB0 u_)) pno (bans bzf bIm (some wany) [])) &&
  (pchk (prun (xWt u_) 184 39 2 [104] (xtB1 u_)) (pis 104 2 (xH0 u_)) (fun r_ => bans bzf bIm (some wany) [] r_ && (match blo r_.2.2.2.2.2 339 (434 + 125 * u_) with
  | some (some (.inl f_)) => decide (f_ = bvr 1)
  | _ => false))))
theorem xtc_all : (xtc 0 && xtc 1) = true := by decide +kernel
/-- behind the loop's head: on, or out -/
noncomputable def xkrun (W : bW) (nb : Nat) (J_ : bT) : Option bRs := babs bzf bIm W [] bmpm bmqm bjn bgm blpm bspm bdgm bldm [] 3000 true 4 184 104 [104] nb [J_]
noncomputable def xkc1 (u_ k_ : Nat) : Bool := pchk (xkrun [(339, 339, 434 + 125 * u_ + 1 + k_, 434 + 125 * u_ + 1 + k_)] 2 (xJk u_ k_)) (pis 104 2 (xJn u_ k_)) pno
noncomputable def xkc2 (u_ s_ : Nat) : Bool := pchk (xkrun [] 0 (xXs u_ s_)) pno (bans bzf bIm (some wany) [])
theorem xkc1_0 : (List.range 120).all (xkc1 0) = true := by decide +kernel
theorem xkc1_1 : (List.range 120).all (xkc1 1) = true := by decide +kernel
theorem xkc2_all : (List.range 61).all (fun s_ => xkc2 0 s_ && xkc2 1 s_) = true := by decide +kernel
def xEl : bT := ([(0, -2147483648, -1)], 1, [(0, wth), (1, some (.inl (bvr 0)))], [], [])
def xEh : bT := ([(0, 2, 2147483647)], 1, [(0, wth), (1, some (.inl (bvr 0)))], [], [])
theorem xE_all : (pchk (prun [(341, 341, 1, 1)] 184 0 1 [] xEl) pno (bans bzf bIm (some wany) []) && pchk (prun [(341, 341, 1, 1)] 184 0 1 [] xEh) pno (bans bzf bIm (some wany) [])) = true := by decide +kernel
