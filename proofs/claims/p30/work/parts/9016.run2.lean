/-! run, both sides: the days one after the other. -/
theorem okd_U4 {n : Nat} {u v : UT} (h : U4 n u v) (ho : u_okd n u) : u_okd n v := by
  intro i hi
  rw [← h i hi 0 (by decide), ← h i hi 1 (by decide)]; exact ho i hi
section PY1
variable {B s L c k n N D : Nat} {h : XH} {cap flo top eva lim rul lev dry : Int32} {lo : Int64} {rf us : UT} {od ra ac : Nat → Int32} {ap : Int32} {rfm usm : UT} {ram acm sv as : Nat → Int32} {th : Int32} {sd : Int64} {td : Int32} {sp : Nat → Int64} {lf : Int32} {tx : Nat → Int32} {pl nb : Int32}
variable {fu : Nat}
def cdays (cap flo top eva lim rul : Int32) (k n : Nat) (ra : Nat → Int32) (D : Nat) (x : CS) (d : Nat) : CS := it (fun i x => cday cap flo top eva lim rul k n ra (D + i) x) x d
end PY1

