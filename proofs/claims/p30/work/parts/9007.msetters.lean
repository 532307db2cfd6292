/-! The model's setters. -/
theorem ch1 (c : Prop) [Decidable c] : (if xb01 c = (0 : Int32) then some (0 : Int32) else some 1) = some (xb01 c) := by
  by_cases e : c
  · rw [if_neg (by rw [xb01_0]; exact fun f => f e)]; unfold xb01; rw [if_pos e]
  · rw [if_pos (by rw [xb01_0]; exact e)]; unfold xb01; rw [if_neg e]
theorem chs (c d : Prop) [Decidable c] [Decidable d] : (if xb01 c = (0 : Int32) then some (0 : Int32) else some (xb01 d)) = some (xb01 (c ∧ d)) := by
  by_cases e : c
  · rw [if_neg (by rw [xb01_0]; exact fun f => f e)]
    exact congrArg some (xb01_c ⟨fun f => ⟨e, f⟩, fun f => f.2⟩)
  · rw [if_pos (by rw [xb01_0]; exact e)]; unfold xb01; rw [if_neg (fun f => e f.1)]
theorem chle (a b : Int32) : (if a ≤ b then some (0 : Int32) else some 1) = some (xb01 (¬ a ≤ b)) := by
  unfold xb01
  by_cases e : a ≤ b
  · rw [if_pos e, if_neg (fun f => f e)]
  · rw [if_neg e, if_pos e]
theorem chlt (a b : Int32) : (if a < b then some (0 : Int32) else some 1) = some (xb01 (¬ a < b)) := by
  unfold xb01
  by_cases e : a < b
  · rw [if_pos e, if_neg (fun f => f e)]
  · rw [if_neg e, if_pos e]
abbrev inR (p l u : Int32) : Prop := l.toInt ≤ p.toInt ∧ p.toInt ≤ u.toInt
section PW7
variable {b : Nat} {W : XH} {cap flo top eva lim rul rc uc rn dn lev dry ap : Int32} {rf us : Nat → Nat → Int32} {ra ac sv as : Nat → Int32} {sm th : Int32} {sd : Int64} {td : Int32} {sp : Nat → Int64} {lf : Int32} {tx : Nat → Int32} {tl pl nb : Int32}
variable {fu k n N D s L : Nat}
end PW7

