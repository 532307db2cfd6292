/-! The model's small methods. -/
theorem p_X6_inTo (x : Int32) {n : Nat} (hn : n < 1000000) : f_X6_in (Int32.toInt64 x) (0 : Int64) (Int32.toInt64 (nI n) - (1 : Int64)) = some (xb01 (0 ≤ x.toInt ∧ x.toInt < n)) := by
  rw [p_X6_in]
  refine congrArg some (xb01_c ?_)
  have e1 : (Int32.toInt64 (nI n) - (1 : Int64)).toInt = (n : Int) - 1 := by
    have z : (1 : Int64).toInt = 1 := rfl
    rw [Int64.toInt_sub, Int32.toInt_toInt64, xnI_toInt (by omega), z, Int.bmod_eq_of_le (by omega) (by omega)]
  have e0 : (0 : Int64).toInt = 0 := rfl
  rw [Int64.le_iff_toInt_le, Int64.le_iff_toInt_le, Int32.toInt_toInt64, e1, e0]
  omega
section PSN
variable {b : Nat} {W : XH} {cap flo top eva lim rul rc uc rn dn lev dry ap : Int32} {rf us : Nat → Nat → Int32} {ra ac sv as : Nat → Int32} {sm th : Int32} {sd : Int64} {td : Int32} {sp : Nat → Int64} {lf : Int32} {tx : Nat → Int32} {tl pl nb : Int32}
variable {fu n k : Nat}
theorem p_X6_isUser (hn : n < 1000000) (x : Int32) : f_X6_isUser (hm b W cap flo top eva lim rul rc (nI n) rn dn lev dry ap rf us ra ac sv as sm th sd td sp lf tx tl pl nb) b x = some (xb01 (0 ≤ x.toInt ∧ x.toInt < n)) := by
  simp only [f_X6_isUser, gm_r1, gm_uc, Option.bind_some, p_X6_inTo x hn, obind1_some, xbool_01]
theorem p_X6_isRoof (hk : k < 1000000) (x : Int32) : f_X6_isRoof (hm b W cap flo top eva lim rul (nI k) uc rn dn lev dry ap rf us ra ac sv as sm th sd td sp lf tx tl pl nb) b x = some (xb01 (0 ≤ x.toInt ∧ x.toInt < k)) := by
  simp only [f_X6_isRoof, gm_r1, gm_rc, Option.bind_some, p_X6_inTo x hk, obind1_some, xbool_01]
theorem p_X6_thrown : f_X6_thrown (hm b W cap flo top eva lim rul rc uc rn dn lev dry ap rf us ra ac sv as sm th sd td sp lf tx tl pl nb) b = some th := by
  simp only [f_X6_thrown, gm_th, Option.bind_some]
end PSN
