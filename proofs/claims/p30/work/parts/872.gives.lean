/-! The model's sharing: what one gives to a user, and the passes over all. -/
def m_g (us : UT) (u : Nat) (much lf : Int32) : Int32 :=
  if lf ≤ (if us u 0 - us u 2 ≤ much then us u 0 - us u 2 else much) then lf else (if us u 0 - us u 2 ≤ much then us u 0 - us u 2 else much)
def m_giv (x : Int32 × UT) (u : Nat) (much : Int32) : Int32 × UT := (x.1 - m_g x.2 u much x.1, xup x.2 u (xup (x.2 u) 2 (x.2 u 2 + m_g x.2 u much x.1)))
def m_pass (mu : UT → Nat → Int32) (n : Nat) (x : Int32 × UT) : Int32 × UT := it (fun i x => m_giv x i (mu x.2 i)) x n
section PS4
variable {b : Nat} {W : XH} {cap flo top eva lim rul rc uc rn dn lev dry ap : Int32} {rf us : Nat → Nat → Int32} {ra ac sv as : Nat → Int32} {sm th : Int32} {sd : Int64} {td : Int32} {sp : Nat → Int64} {lf : Int32} {tx : Nat → Int32} {tl pl nb : Int32}
variable {fu n : Nat}
def m_prt (w d : Int32) (us : UT) (i : Nat) : Int32 := Int64.toInt32 ((Int32.toInt64 (us i 0) * Int32.toInt64 w) / Int32.toInt64 d)
end PS4

