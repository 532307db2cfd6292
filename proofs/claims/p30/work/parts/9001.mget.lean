/-! The model's getters, in its raw form. -/
section PSR
variable {b : Nat} {W : XH} {cap flo top eva lim rul rc uc rn dn lev dry ap : Int32} {rf us : Nat → Nat → Int32} {ra ac sv as : Nat → Int32} {sm th : Int32} {sd : Int64} {td : Int32} {sp : Nat → Int64} {lf : Int32} {tx : Nat → Int32} {tl pl nb : Int32}
variable {a : Nat → Int32}
variable {fu L : Nat}
theorem xb01_t : xb01 True = 1 := rfl
end PSR

