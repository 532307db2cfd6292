/-! The model's getters, in its raw form. -/
section PSR
variable {b : Nat} {W : XH} {cap flo top eva lim rul rc uc rn dn lev dry ap : Int32} {rf us : Nat → Nat → Int32} {ra ac sv as : Nat → Int32} {sm th : Int32} {sd : Int64} {td : Int32} {sp : Nat → Int64} {lf : Int32} {tx : Nat → Int32} {tl pl nb : Int32}
variable {a : Nat → Int32}
variable {fu L : Nat}
theorem hr_goes (c d : Prop) [Decidable c] [Decidable d] : f_X6_goes (hr b W a sv as sm th sd td sp lf tx tl pl nb) b (xb01 c) (xb01 d) = some (xb01 (c ∧ d), hr b W a sv as sm (if c then if d then 0 else 2 else 1) sd td sp lf tx tl pl nb) := p_X6_goes c d
theorem xb01_t : xb01 True = 1 := rfl
theorem hr_goes1 (c : Prop) [Decidable c] : f_X6_goes (hr b W a sv as sm th sd td sp lf tx tl pl nb) b (xb01 c) 1 = some (xb01 c, hr b W a sv as sm (if c then 0 else 1) sd td sp lf tx tl pl nb) := by
  have h := hr_goes (b := b) (W := W) (a := a) (sv := sv) (as := as) (sm := sm) (th := th) (sd := sd) (td := td) (sp := sp) (lf := lf) (tx := tx) (tl := tl) (pl := pl) (nb := nb) c True
  rw [xb01_t, xb01_c (show c ∧ True ↔ c from ⟨fun h => h.1, fun h => ⟨h, trivial⟩⟩)] at h
  rw [h]
  by_cases e : c
  · rw [if_pos e, if_pos e, if_pos trivial]
  · rw [if_neg e, if_neg e]
theorem p_X6_setting (x : Int32) : f_X6_setting (hr b W a sv as sm th sd td sp lf tx tl pl nb) b x = some (if 0 ≤ x.toInt ∧ x.toInt ≤ 11 then a x.toNatClampNeg else 0, hr b W a sv as sm (if 0 ≤ x.toInt ∧ x.toInt ≤ 11 then 0 else 1) sd td sp lf tx tl pl nb) := by
  have e : f_X6_in (Int32.toInt64 x) (0 : Int64) (11 : Int64) = some (xb01 (0 ≤ x.toInt ∧ x.toInt ≤ 11)) := p_X6_in32 x 0 11
  simp only [f_X6_setting, e, obind1_some, hr_is, Option.bind_some, hr_goes1, obind2_some, xb01_0]
  by_cases c : 0 ≤ x.toInt ∧ x.toInt ≤ 11
  · have hx : xin x 1163 = true := by
      have h3 : x.toNatClampNeg = x.toInt.toNat := rfl
      simp only [xin, Bool.and_eq_true, Bool.not_eq_true', decide_eq_false_iff_not, decide_eq_true_eq]
      refine ⟨?_, by omega⟩
      rw [ti_lt, ti_0]; omega
    rw [if_neg (fun h => h c), if_pos c, if_pos c, hr_r1, Option.bind_some, hr_al hx]
    rfl
  · rw [if_pos c, if_neg c, if_neg c]
    rfl
theorem p_X6_clearText : f_X6_clearText (hr b W a sv as sm th sd td sp lf tx tl pl nb) b = some (tl, hr b W a sv as sm 0 sd td sp lf tx 0 pl nb) := by
  simp only [f_X6_clearText, hr_sth, hr_tl, hr_stl, Option.bind_some]
end PSR
