/-! The model's setters. -/
abbrev inR (p l u : Int32) : Prop := l.toInt ≤ p.toInt ∧ p.toInt ≤ u.toInt
section PW7
variable {b : Nat} {W : XH} {cap flo top eva lim rul rc uc rn dn lev dry ap : Int32} {rf us : Nat → Nat → Int32} {ra ac sv as : Nat → Int32} {sm th : Int32} {sd : Int64} {td : Int32} {sp : Nat → Int64} {lf : Int32} {tx : Nat → Int32} {tl pl nb : Int32}
variable {fu k n N D s L : Nat}
end PW7

