/-! Reads of the class at rest, and what it checks first. -/
theorem oexc_inl {α β : Type} {x : α} {f : α → Option (β ⊕ Nat)} : oexc (some (.inl x)) f = f x := rfl
theorem oexc_inr {α β : Type} {m : Nat} {f : α → Option (β ⊕ Nat)} : oexc (some (.inr m)) f = some (.inr m) := rfl
theorem olift_some {α : Type} {x : α} : olift (some x) = some (.inl x) := rfl
theorem cr_y {p l u : Int32} (h1 : l.toInt ≤ p.toInt ∧ p.toInt ≤ u.toInt) : f_X5_checkRange p l u = some (.inl ()) := by
  simp only [f_X5_checkRange, oletk]
  rw [if_neg (by rw [ti_lt]; omega), if_pos (by rw [ti_le]; omega)]
  rfl
theorem cr_n {p l u : Int32} (h1 : ¬ (l.toInt ≤ p.toInt ∧ p.toInt ≤ u.toInt)) : f_X5_checkRange p l u = some (.inr 0) := by
  simp only [f_X5_checkRange, oletk]
  by_cases c : p < l
  · rw [if_pos c]
  · rw [if_neg c, if_neg (fun e => h1 (by rw [ti_lt] at c; rw [ti_le] at e; omega))]
theorem ci_y {p : Int32} {n : Nat} (hn : n < 1000000) (h1 : 0 ≤ p.toInt ∧ p.toInt < n) : f_X5_checkIndex p (nI n) = some (.inl ()) := by
  simp only [f_X5_checkIndex, oletk]
  rw [if_neg (by rw [ti_lt, ti_0]; omega), if_pos (by rw [ti_lt, xnI_toInt (by omega)]; omega)]
  rfl
theorem ci_n {p : Int32} {n : Nat} (hn : n < 1000000) (h1 : ¬ (0 ≤ p.toInt ∧ p.toInt < n)) : f_X5_checkIndex p (nI n) = some (.inr 2) := by
  simp only [f_X5_checkIndex, oletk]
  by_cases c : p < 0
  · rw [if_pos c]
  · rw [if_neg c, if_neg (fun e => h1 (by rw [ti_lt, ti_0] at c; rw [ti_lt, xnI_toInt (by omega)] at e; omega))]
theorem ix_of {p : Int32} {n : Nat} (h1 : 0 ≤ p.toInt ∧ p.toInt < n) : ∃ i, i < n ∧ p = nI i := by
  have h0 : (0 : Int32) ≤ p := by rw [ti_le, ti_0]; exact h1.1
  refine ⟨p.toNatClampNeg, ?_, xnI_of h0⟩
  have : p.toNatClampNeg = p.toInt.toNat := rfl
  omega
theorem ix_to {p u : Int32} {n : Nat} (hu : u.toInt = n) (h1 : (0 : Int32).toInt ≤ p.toInt ∧ p.toInt ≤ u.toInt) : ∃ i, i < n + 1 ∧ p = nI i := ix_of ⟨by rw [ti_0] at h1; exact h1.1, by omega⟩
section PW4
variable {b : Nat} {W : XH} {cap flo top eva lim rul rc uc rn dn lev dry : Int32} {lo : Int64} {rf us : Nat → Nat → Int32} {od ra ac : Nat → Int32}
variable {h : XH}
theorem st_is (hS : St b h cap flo top eva lim rul rc uc rn dn lev dry lo rf us od ra ac) : xis h b 2 = some () := by rw [St_eq hS]; exact hi_st
theorem st_rc (hS : St b h cap flo top eva lim rul rc uc rn dn lev dry lo rf us od ra ac) : xgI h b 2 7 = some rc := by rw [St_eq hS]; exact hg_rc
theorem st_rn (hS : St b h cap flo top eva lim rul rc uc rn dn lev dry lo rf us od ra ac) : xgI h b 2 10 = some rn := by rw [St_eq hS]; exact hg_rn
theorem st_dn (hS : St b h cap flo top eva lim rul rc uc rn dn lev dry lo rf us od ra ac) : xgI h b 2 11 = some dn := by rw [St_eq hS]; exact hg_dn
theorem st_flo (hS : St b h cap flo top eva lim rul rc uc rn dn lev dry lo rf us od ra ac) : xgI h b 2 1 = some flo := by rw [St_eq hS]; exact hg_flo
theorem st_top (hS : St b h cap flo top eva lim rul rc uc rn dn lev dry lo rf us od ra ac) : xgI h b 2 2 = some top := by rw [St_eq hS]; exact hg_top
theorem st_uc (hS : St b h cap flo top eva lim rul rc uc rn dn lev dry lo rf us od ra ac) : xgI h (b + 8) 4 1 = some uc := by rw [St_eq hS]; exact hg_uc
theorem st_lo (hS : St b h cap flo top eva lim rul rc uc rn dn lev dry lo rf us od ra ac) : xgL h b 2 14 = some lo := by rw [St_eq hS]; exact hg_lo
theorem st_roofs (hS : St b h cap flo top eva lim rul rc uc rn dn lev dry lo rf us od ra ac) : xgR h b 2 6 = some (b + 1) := by rw [St_eq hS]; exact hg_roofs
theorem st_users (hS : St b h cap flo top eva lim rul rc uc rn dn lev dry lo rf us od ra ac) : xgR h b 2 8 = some (b + 8) := by rw [St_eq hS]; exact hg_users
theorem st_rains (hS : St b h cap flo top eva lim rul rc uc rn dn lev dry lo rf us od ra ac) : xgR h b 2 9 = some (b + 16) := by rw [St_eq hS]; exact hg_rains
theorem st_rows (hS : St b h cap flo top eva lim rul rc uc rn dn lev dry lo rf us od ra ac) : xgR h (b + 8) 4 0 = some (b + 9) := by rw [St_eq hS]; exact hg_rows
theorem st_iu (hS : St b h cap flo top eva lim rul rc uc rn dn lev dry lo rf us od ra ac) : xis h (b + 8) 4 = some () := by rw [St_eq hS]; exact hi_us
theorem st_qroof (hS : St b h cap flo top eva lim rul rc uc rn dn lev dry lo rf us od ra ac) {i : Nat} (hi : i < 6) : xaldR h (b + 1) 3 (nI i) = some (b + 2 + i) := by
  have e : xaldR (hp b h cap flo top eva lim rul rc uc rn dn lev dry lo rf us od ra ac) (b + 1) 3 (nI i) = some (b + 2 + (nI i).toNatClampNeg) := hq_roof (xin_nI hi (by decide))
  rw [xnI_nat (by omega), ← St_eq hS] at e
  exact e
theorem st_quser (hS : St b h cap flo top eva lim rul rc uc rn dn lev dry lo rf us od ra ac) {i : Nat} (hi : i < 5) : xaldR h (b + 9) 5 (nI i) = some (b + 10 + i) := by
  have e : xaldR (hp b h cap flo top eva lim rul rc uc rn dn lev dry lo rf us od ra ac) (b + 9) 5 (nI i) = some (b + 10 + (nI i).toNatClampNeg) := hq_user (xin_nI hi (by decide))
  rw [xnI_nat (by omega), ← St_eq hS] at e
  exact e
theorem st_ir (hS : St b h cap flo top eva lim rul rc uc rn dn lev dry lo rf us od ra ac) {i : Nat} (hi : i < 6) : xis h (b + 2 + i) 1 = some () := by rw [St_eq hS]; exact hi_roof hi
theorem st_iw (hS : St b h cap flo top eva lim rul rc uc rn dn lev dry lo rf us od ra ac) {i : Nat} (hi : i < 5) : xis h (b + 10 + i) 3 = some () := by rw [St_eq hS]; exact hi_user hi
theorem st_rv (hS : St b h cap flo top eva lim rul rc uc rn dn lev dry lo rf us od ra ac) {i w : Nat} (hi : i < 6) (hw : w < 5) : f_X1_value h (b + 2 + i) (nI w) = some (rf i w) := by rw [St_eq hS]; exact p_X1_value hi hw
theorem st_uv (hS : St b h cap flo top eva lim rul rc uc rn dn lev dry lo rf us od ra ac) {i w : Nat} (hi : i < 5) (hw : w < 4) : f_X3_value h (b + 10 + i) (nI w) = some (us i w) := by rw [St_eq hS]; exact p_X3_value hi hw
theorem st_ra (hS : St b h cap flo top eva lim rul rc uc rn dn lev dry lo rf us od ra ac) {i : Nat} (hi : i < 100) : xald h (b + 16) 0 (nI i) = some (ra i) := by
  have e : xald (hp b h cap flo top eva lim rul rc uc rn dn lev dry lo rf us od ra ac) (b + 16) 0 (nI i) = some (ra (nI i).toNatClampNeg) := hl_ra (xin_nI hi (by decide))
  rw [xnI_nat (by omega), ← St_eq hS] at e
  exact e
theorem st_acc (hS : St b h cap flo top eva lim rul rc uc rn dn lev dry lo rf us od ra ac) {d w : Nat} (hd : d < 100) (hw : w < 10) : f_X2_account h b (nI d) (nI w) = some (ac (d * 10 + w)) := by
  rw [St_eq hS]
  exact p_X2_account (d := d) rfl (by omega) _ _ xacc
theorem st_short (hS : St b h cap flo top eva lim rul rc uc rn dn lev dry lo rf us od ra ac) {d : Nat} (hd : d < 100) : f_X2_isShort h b (nI d) = some (if ac (d * 10 + 7) ≤ 0 then 0 else 1) := by
  rw [St_eq hS]; exact p_X2_isShort hd
theorem st_set (hS : St b h cap flo top eva lim rul rc uc rn dn lev dry lo rf us od ra ac) {w : Nat} (hw : w < 12) : f_X2_settingValue h b (nI w) = some (zz cap flo top eva lim rul rc uc rn dn lev dry w) := by
  rw [St_eq hS, hs_zz]; exact p_X2_settingValue hw
end PW4
section PW5
variable {b : Nat} {W : XH} {cap flo top eva lim rul rc uc rn dn lev dry ap : Int32} {rf us : Nat → Nat → Int32} {ra ac sv as : Nat → Int32} {sm th : Int32} {sd : Int64} {td : Int32} {sp : Nat → Int64} {lf : Int32} {tx : Nat → Int32} {tl pl nb : Int32}
variable {fu k n N D : Nat}
end PW5

