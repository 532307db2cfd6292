/-! undo, both sides. -/
section PX40
variable {a0 a1 a2 a3 a4 a5 a6 a7 a8 a9 a10 a11 : Int32}
theorem zz_0 : zz a0 a1 a2 a3 a4 a5 a6 a7 a8 a9 a10 a11 0 = a0 := rfl
theorem zz_1 : zz a0 a1 a2 a3 a4 a5 a6 a7 a8 a9 a10 a11 1 = a1 := rfl
theorem zz_2 : zz a0 a1 a2 a3 a4 a5 a6 a7 a8 a9 a10 a11 2 = a2 := rfl
theorem zz_3 : zz a0 a1 a2 a3 a4 a5 a6 a7 a8 a9 a10 a11 3 = a3 := rfl
theorem zz_4 : zz a0 a1 a2 a3 a4 a5 a6 a7 a8 a9 a10 a11 4 = a4 := rfl
theorem zz_5 : zz a0 a1 a2 a3 a4 a5 a6 a7 a8 a9 a10 a11 5 = a5 := rfl
theorem zz_6 : zz a0 a1 a2 a3 a4 a5 a6 a7 a8 a9 a10 a11 6 = a6 := rfl
theorem zz_7 : zz a0 a1 a2 a3 a4 a5 a6 a7 a8 a9 a10 a11 7 = a7 := rfl
theorem zz_8 : zz a0 a1 a2 a3 a4 a5 a6 a7 a8 a9 a10 a11 8 = a8 := rfl
theorem zz_9 : zz a0 a1 a2 a3 a4 a5 a6 a7 a8 a9 a10 a11 9 = a9 := rfl
theorem zz_10 : zz a0 a1 a2 a3 a4 a5 a6 a7 a8 a9 a10 a11 10 = a10 := rfl
theorem zz_11 : zz a0 a1 a2 a3 a4 a5 a6 a7 a8 a9 a10 a11 11 = a11 := rfl
end PX40
section PX4
variable {B s L c k n N D : Nat} {h : XH} {cap flo top eva lim rul lev dry : Int32} {lo : Int64} {rf us : UT} {od ra ac : Nat → Int32} {ap : Int32} {rfm usm : UT} {ram acm sv as : Nat → Int32} {th : Int32} {sd : Int64} {td : Int32} {sp : Nat → Int64} {lf : Int32} {tx : Nat → Int32} {pl nb : Int32}
variable {fu : Nat}
theorem Sv_of (hS : St (B + 1) h cap flo top eva lim rul (nI k) (nI n) (nI N) (nI D) lev dry lo rf us od ra ac) : Sv (B + 1) h (zz cap flo top eva lim rul (nI k) (nI n) (nI N) (nI D) lev dry, lo, rf, us, od, ra, ac) := by
  unfold Sv
  simp only [zz_0, zz_1, zz_2, zz_3, zz_4, zz_5, zz_6, zz_7, zz_8, zz_9, zz_10, zz_11]
  exact hS
end PX4

