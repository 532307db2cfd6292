/-! The model's row of numbers as a whole: copying it. -/
theorem al_dec (a : Nat → Int32) : m_al (a 0) (a 1) (a 2) (a 3) (a 4) (a 5) (a 6) (a 7) (a 8) (a 9) (a 10) (a 11) (a 12) (fun i j => a (13 + 5 * i + j)) (fun i j => a (43 + 4 * i + j)) (fun d => a (63 + d)) (fun j => a (163 + j)) = a := by
  funext k
  by_cases h : k < 13
  · rcases (show k = 0 ∨ k = 1 ∨ k = 2 ∨ k = 3 ∨ k = 4 ∨ k = 5 ∨ k = 6 ∨ k = 7 ∨ k = 8 ∨ k = 9 ∨ k = 10 ∨ k = 11 ∨ k = 12 by omega) with rfl | rfl | rfl | rfl | rfl | rfl | rfl | rfl | rfl | rfl | rfl | rfl | rfl <;> rfl
  · rw [al_k (by omega)]
    by_cases h2 : k < 43
    · rw [if_pos h2]; refine congrArg a ?_; omega
    · rw [if_neg h2]
      by_cases h3 : k < 63
      · rw [if_pos h3]; refine congrArg a ?_; omega
      · rw [if_neg h3]
        by_cases h4 : k < 163
        · rw [if_pos h4]; refine congrArg a ?_; omega
        · rw [if_neg h4]; refine congrArg a ?_; omega
def cpn (n : Nat) (f g : Nat → Int32) : Nat → Int32 := fun k => if k < n then f k else g k
theorem cpn_s (n : Nat) (f g : Nat → Int32) : xup (cpn n f g) n (f n) = cpn (n + 1) f g := by
  funext k
  by_cases c : k = n
  · subst c; rw [xup_self]; simp [cpn]
  · rw [xup_ne _ _ c]
    unfold cpn
    by_cases h : k < n
    · rw [if_pos h, if_pos (by omega)]
    · rw [if_neg h, if_neg (by omega)]
section PSD
variable {b : Nat} {W : XH} {cap flo top eva lim rul rc uc rn dn lev dry ap : Int32} {rf us : Nat → Nat → Int32} {ra ac sv as : Nat → Int32} {sm th : Int32} {sd : Int64} {td : Int32} {sp : Nat → Int64} {lf : Int32} {tx : Nat → Int32} {tl pl nb : Int32}
variable {a : Nat → Int32}
variable {fu : Nat}
end PSD
/-- what is saved: the row after it, from 1163 s on -/
def m_put (s : Nat) (a sv : Nat → Int32) (n : Nat) : Nat → Int32 := fun k => if 1163 * s ≤ k ∧ k < 1163 * s + n then a (k - 1163 * s) else sv k
def m_shf (sv : Nat → Int32) (n : Nat) : Nat → Int32 := fun k => if k < n then sv (k + 1163) else sv k
def m_sav (s : Nat) (a sv : Nat → Int32) : Nat → Int32 := if s = 4 then m_put 3 a (m_shf sv 3489) 1163 else m_put s a sv 1163
theorem m_put_s (s : Nat) (a sv : Nat → Int32) (n : Nat) : xup (m_put s a sv n) (1163 * s + n) (a n) = m_put s a sv (n + 1) := by
  funext k
  by_cases c : k = 1163 * s + n
  · subst c; rw [xup_self]; unfold m_put; rw [if_pos (by omega), Nat.add_sub_cancel_left]
  · rw [xup_ne _ _ c]
    unfold m_put
    by_cases h : 1163 * s ≤ k ∧ k < 1163 * s + n
    · rw [if_pos h, if_pos (by omega)]
    · rw [if_neg h, if_neg (by omega)]
theorem m_shf_s (sv : Nat → Int32) (n : Nat) : xup (m_shf sv n) n (m_shf sv n (n + 1163)) = m_shf sv (n + 1) := by
  have e : m_shf sv n (n + 1163) = sv (n + 1163) := by unfold m_shf; rw [if_neg (by omega)]
  rw [e]
  funext k
  by_cases c : k = n
  · subst c; rw [xup_self]; unfold m_shf; rw [if_pos (by omega)]
  · rw [xup_ne _ _ c]
    unfold m_shf
    by_cases h : k < n
    · rw [if_pos h, if_pos (by omega)]
    · rw [if_neg h, if_neg (by omega)]
section PSE
variable {b : Nat} {W : XH} {cap flo top eva lim rul rc uc rn dn lev dry ap : Int32} {rf us : Nat → Nat → Int32} {ra ac sv as : Nat → Int32} {sm th : Int32} {sd : Int64} {td : Int32} {sp : Nat → Int64} {lf : Int32} {tx : Nat → Int32} {tl pl nb : Int32}
variable {a : Nat → Int32}
variable {fu : Nat}
theorem ix_sv (s i : Nat) : (1163 : Int32) * nI s + nI i = nI (1163 * s + i) := by show nI 1163 * nI s + nI i = _; rw [xnI_mul, xnI_add]
end PSE

