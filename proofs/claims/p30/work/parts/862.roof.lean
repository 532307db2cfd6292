/-! Roofs and users. -/
section PR
variable {b : Nat} {W : XH} {cap flo top eva lim rul rc uc rn dn lev dry : Int32} {lo : Int64} {rf us : Nat → Nat → Int32} {od ra ac : Nat → Int32}
theorem p_X1_clearAmounts {i : Nat} (hi : i < 6) : f_X1_clearAmounts (hp b W cap flo top eva lim rul rc uc rn dn lev dry lo rf us od ra ac) (b + 2 + i) = some (hp b W cap flo top eva lim rul rc uc rn dn lev dry lo (xup rf i (xup (xup (rf i) 4 0) 5 0)) us od ra ac) := by
  simp [f_X1_clearAmounts, hs_rf, hi, xup_self, xup_xup]
theorem p_X1_caught {i : Nat} (hi : i < 6) (r : Int32) : f_X1_caught (hp b W cap flo top eva lim rul rc uc rn dn lev dry lo rf us od ra ac) (b + 2 + i) r = some (rf i 0 * r * rf i 1 / 100) := by
  simp [f_X1_caught, hg_rf, hi]
theorem p_X1_divert {i : Nat} (hi : i < 6) (x : Int32) : f_X1_divert (hp b W cap flo top eva lim rul rc uc rn dn lev dry lo rf us od ra ac) (b + 2 + i) x = some (xmin x (rf i 2 - rf i 4), hp b W cap flo top eva lim rul rc uc rn dn lev dry lo (xup rf i (xup (rf i) 4 (rf i 4 + xmin x (rf i 2 - rf i 4)))) us od ra ac) := by
  simp [f_X1_divert, hg_rf, hs_rf, hi, olet]
theorem p_X1_spill {i : Nat} (hi : i < 6) (x : Int32) : f_X1_spill (hp b W cap flo top eva lim rul rc uc rn dn lev dry lo rf us od ra ac) (b + 2 + i) x = some (xmax (x - rf i 3) 0, hp b W cap flo top eva lim rul rc uc rn dn lev dry lo (xup rf i (xup (rf i) 5 (rf i 5 + xmax (x - rf i 3) 0))) us od ra ac) := by
  simp [f_X1_spill, hg_rf, hs_rf, hi, olet]
theorem p_X1_drain {i : Nat} (hi : i < 6) : f_X1_drain (hp b W cap flo top eva lim rul rc uc rn dn lev dry lo rf us od ra ac) (b + 2 + i) = some (rf i 4, hp b W cap flo top eva lim rul rc uc rn dn lev dry lo (xup rf i (xup (rf i) 4 0)) us od ra ac) := by
  simp [f_X1_drain, hg_rf, hs_rf, hi]
theorem p_X1_set {i : Nat} (hi : i < 6) (p q r t : Int32) : f_X1_set (hp b W cap flo top eva lim rul rc uc rn dn lev dry lo rf us od ra ac) (b + 2 + i) p q r t = some (hp b W cap flo top eva lim rul rc uc rn dn lev dry lo (xup rf i (xup (xup (xup (xup (xup (xup (rf i) 0 p) 1 q) 2 r) 3 t) 4 0) 5 0)) us od ra ac) := by
  simp [f_X1_set, hs_rf, hi_roof, hi, p_X1_clearAmounts, obind1_some, xup_self, xup_xup]
theorem p_X1_value {i : Nat} (hi : i < 6) {k : Nat} (hk : k < 5) : f_X1_value (hp b W cap flo top eva lim rul rc uc rn dn lev dry lo rf us od ra ac) (b + 2 + i) (nI k) = some (rf i k) := by
  rcases (show k = 0 ∨ k = 1 ∨ k = 2 ∨ k = 3 ∨ k = 4 by omega) with rfl | rfl | rfl | rfl | rfl <;> simp [f_X1_value, hg_rf, hi, xnl0, xnl1, xnl2, xnl3, xnl4]
theorem p_X3_clearAmounts {i : Nat} (hi : i < 5) : f_X3_clearAmounts (hp b W cap flo top eva lim rul rc uc rn dn lev dry lo rf us od ra ac) (b + 10 + i) = some (hp b W cap flo top eva lim rul rc uc rn dn lev dry lo rf (xup us i (xup (xup (us i) 2 0) 3 0)) od ra ac) := by
  simp [f_X3_clearAmounts, hs_usr, hi, xup_self, xup_xup]
theorem p_X3_set {i : Nat} (hi : i < 5) (p q : Int32) : f_X3_set (hp b W cap flo top eva lim rul rc uc rn dn lev dry lo rf us od ra ac) (b + 10 + i) p q = some (hp b W cap flo top eva lim rul rc uc rn dn lev dry lo rf (xup us i (xup (xup (xup (xup (us i) 0 p) 1 q) 2 0) 3 0)) od ra ac) := by
  simp [f_X3_set, hs_usr, hi_user, hi, p_X3_clearAmounts, obind1_some, xup_self, xup_xup]
theorem p_X3_value {i : Nat} (hi : i < 5) {k : Nat} (hk : k < 4) : f_X3_value (hp b W cap flo top eva lim rul rc uc rn dn lev dry lo rf us od ra ac) (b + 10 + i) (nI k) = some (us i k) := by
  rcases xlt4 hk with rfl | rfl | rfl | rfl <;> simp [f_X3_value, hg_usr, hi, xnl0, xnl1, xnl2, xnl3, xnl4]
theorem p_X3_lack {i : Nat} (hi : i < 5) : f_X3_lack (hp b W cap flo top eva lim rul rc uc rn dn lev dry lo rf us od ra ac) (b + 10 + i) = some (us i 0 - us i 2) := by
  simp [f_X3_lack, hg_usr, hi]
theorem p_X3_portion {i : Nat} (hi : i < 5) : f_X3_portion (hp b W cap flo top eva lim rul rc uc rn dn lev dry lo rf us od ra ac) (b + 10 + i) = some (10 * us i 1) := by
  simp [f_X3_portion, hg_usr, hi]
theorem p_X3_give {i : Nat} (hi : i < 5) (x : Int32) : f_X3_give (hp b W cap flo top eva lim rul rc uc rn dn lev dry lo rf us od ra ac) (b + 10 + i) x = some (xmin x (us i 0 - us i 2), hp b W cap flo top eva lim rul rc uc rn dn lev dry lo rf (xup us i (xup (us i) 2 (us i 2 + xmin x (us i 0 - us i 2)))) od ra ac) := by
  simp [f_X3_give, hg_usr, hs_usr, hi_user, hi, p_X3_lack, obind1_some, olet]
end PR

