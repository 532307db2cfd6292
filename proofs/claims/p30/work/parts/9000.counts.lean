/-! Days counted. -/
def b_sh (ac : Nat → Int32) (d : Nat) : Int32 := if ac (d * 10 + 7) ≤ 0 then 0 else 1
def b_long (ac : Nat → Int32) (D : Nat) : Int32 × Int32 := it (fun d (x : Int32 × Int32) => (xmax x.1 (if b_sh ac d = 0 then 0 else x.2 + 1), if b_sh ac d = 0 then 0 else x.2 + 1)) (0, 0) D
def b_most (us : UT) (N : Int32) (n : Nat) : Int32 := it (fun i x => xmax x (us i 0 * N - us i 3)) 0 n
theorem xmax_le (x y : Int32) : (if y ≤ x then x else y) = xmax x y := by
  unfold xmax
  by_cases c : x < y
  · rw [if_pos c, if_neg (Int32.not_le.mpr c)]
  · rw [if_neg c, if_pos (Int32.not_lt.mp c)]
section PSQ
variable {b : Nat} {W : XH} {cap flo top eva lim rul rc uc rn dn lev dry ap : Int32} {rf us : Nat → Nat → Int32} {ra ac sv as : Nat → Int32} {sm th : Int32} {sd : Int64} {td : Int32} {sp : Nat → Int64} {lf : Int32} {tx : Nat → Int32} {tl pl nb : Int32}
variable {fu D n d : Nat}
end PSQ

