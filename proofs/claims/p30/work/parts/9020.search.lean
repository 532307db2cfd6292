/-! gutterLoss, capacityFor, both sides. -/
section PZ3
variable {B s L c k n N D : Nat} {h : XH} {cap flo top eva lim rul lev dry : Int32} {lo : Int64} {rf us : UT} {od ra ac : Nat → Int32} {ap : Int32} {rfm usm : UT} {ram acm sv as : Nat → Int32} {th : Int32} {sd : Int64} {td : Int32} {sp : Nat → Int64} {lf : Int32} {tx : Nat → Int32} {pl nb : Int32}
variable {fu : Nat}
theorem cap_rng {i : Nat} (hi : i < 120) : 100 ≤ (nI (500 * (i + 1))).toInt ∧ (nI (500 * (i + 1))).toInt ≤ 60000 := by rw [xnI_toInt (by omega)]; omega
theorem cap_le {i : Nat} (hi : i < 120) : ¬ (60000 : Int32) < nI (500 * (i + 1)) := by
  have e6 : (60000 : Int32) = nI 60000 := rfl
  rw [e6, xnI_lt_iff (by omega) (by omega)]; omega
theorem cap_s (i : Nat) : nI (500 * (i + 1)) + (500 : Int32) = nI (500 * (i + 1 + 1)) := by
  have e6 : (500 : Int32) = nI 500 := rfl
  rw [e6, xnI_add]
  exact congrArg nI (by omega)
end PZ3

