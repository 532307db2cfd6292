/-! The model's own methods: single cells. -/
theorem ix_ra (d : Nat) : (63 : Int32) + nI d = nI (63 + d) := by show nI 63 + nI d = _; rw [xnI_add]
theorem ix_ac {x : Int32} {w : Nat} (d : Nat) (hx : x = nI w) : (163 : Int32) + (10 : Int32) * nI d + x = nI (163 + (d * 10 + w)) := by
  subst hx
  show nI 163 + nI 10 * nI d + nI w = _
  rw [xnI_mul, xnI_add, xnI_add, show 163 + 10 * d + w = 163 + (d * 10 + w) by omega]
section PS7
variable {b : Nat} {W : XH} {cap flo top eva lim rul rc uc rn dn lev dry ap : Int32} {rf us : Nat → Nat → Int32} {ra ac sv as : Nat → Int32} {sm th : Int32} {sd : Int64} {td : Int32} {sp : Nat → Int64} {lf : Int32} {tx : Nat → Int32} {tl pl nb : Int32}
end PS7
theorem obind1_ite {α ω : Type} {c : Prop} [Decidable c] {a a' : α} {f : α → Option ω} : obind1 (if c then some a else some a') f = f (if c then a else a') := by
  by_cases h : c
  · rw [if_pos h, if_pos h]; rfl
  · rw [if_neg h, if_neg h]; rfl
theorem xbool_01 (c : Prop) [Decidable c] : xbool (xb01 c) = some (xb01 c) := by
  unfold xb01
  by_cases h : c
  · rw [if_pos h]; rfl
  · rw [if_neg h]; rfl
theorem xb01_0 (c : Prop) [Decidable c] : (xb01 c = 0) = ¬ c := by
  unfold xb01
  by_cases h : c
  · rw [if_pos h]; simp [h]
  · rw [if_neg h]; simp [h]
