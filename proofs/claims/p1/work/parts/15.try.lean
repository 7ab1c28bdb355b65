def xisS (o : Option xO) : Bool := match o with
  | none => false
  | some _ => true
theorem xtry1 : xisS (xev 4000 20 73 0 [(0, .index 0)] [] [(11, xdf 11)] []) = true := by decide +kernel
