/-! A day of the model. -/
def aday (ac : Nat → Int32) (d : Nat) (v : Nat → Int32) : Nat → Int32 := fun j => if d * 10 ≤ j ∧ j < d * 10 + 10 then v (j - d * 10) else ac j
theorem aday_at (ac : Nat → Int32) (d : Nat) (v : Nat → Int32) {w : Nat} (hw : w < 10) : aday ac d v (d * 10 + w) = v w := by
  unfold aday
  rw [if_pos (by omega), Nat.add_sub_cancel_left]
theorem aday_out (ac : Nat → Int32) (d : Nat) (v : Nat → Int32) {j : Nat} (h : ¬ (d * 10 ≤ j ∧ j < d * 10 + 10)) : aday ac d v j = ac j := by
  unfold aday
  rw [if_neg h]
theorem aday_up (ac : Nat → Int32) (d : Nat) (v : Nat → Int32) {w : Nat} (hw : w < 10) (x : Int32) : xup (aday ac d v) (d * 10 + w) x = aday ac d (xup v w x) := by
  funext j
  by_cases c : j = d * 10 + w
  · subst c; rw [xup_self, aday_at _ _ _ hw, xup_self]
  · rw [xup_ne _ _ c]
    unfold aday
    by_cases h : d * 10 ≤ j ∧ j < d * 10 + 10
    · rw [if_pos h, if_pos h, xup_ne _ _ (by omega)]
    · rw [if_neg h, if_neg h]
theorem aday_clr (ac : Nat → Int32) (d : Nat) : it (fun w a => xup a (d * 10 + w) 0) ac 10 = aday ac d (fun _ => 0) := by
  have key : ∀ n, it (fun w a => xup a (d * 10 + w) 0) ac n = fun j => if d * 10 ≤ j ∧ j < d * 10 + n then (0 : Int32) else ac j := by
    intro n
    induction n with
    | zero => funext j; rw [it_0, if_neg (by omega)]
    | succ n ih =>
      rw [it_s, ih]
      funext j
      by_cases c : j = d * 10 + n
      · subst c; rw [xup_self, if_pos (by omega)]
      · rw [xup_ne _ _ c]
        by_cases h : d * 10 ≤ j ∧ j < d * 10 + n
        · rw [if_pos h, if_pos (by omega)]
        · rw [if_neg h, if_neg (by omega)]
  rw [key]; rfl
theorem xmin_if (x y : Int32) : (if y ≤ x then y else x) = xmin x y := by
  unfold xmin
  by_cases c : y < x
  · rw [if_pos c, if_pos (Int32.le_of_lt c)]
  · rw [if_neg c]
    by_cases e : y ≤ x
    · rw [if_pos e]; rw [ti_le] at e; rw [ti_lt] at c; exact ti_ext (by omega)
    · rw [if_neg e]
theorem xmax_if {a b : Int32} (h1 : -2147483648 ≤ a.toInt - b.toInt) (h2 : a.toInt - b.toInt < 2147483648) : (if a ≤ b then (0 : Int32) else a - b) = xmax (a - b) 0 := by
  refine ti_ext ?_
  rw [ti_max, ti_sub h1 h2, ti_0]
  by_cases c : a ≤ b
  · rw [if_pos c]; rw [ti_le] at c; rw [ti_0]; omega
  · rw [if_neg c, ti_sub h1 h2]; rw [ti_le] at c; omega
def r_ok (k : Nat) (rf : UT) : Prop := ∀ i, i < k → ((1 ≤ (rf i 0).toInt ∧ (rf i 0).toInt ≤ 500) ∧ (1 ≤ (rf i 1).toInt ∧ (rf i 1).toInt ≤ 100) ∧ (0 ≤ (rf i 2).toInt ∧ (rf i 2).toInt ≤ 999) ∧ (1 ≤ (rf i 3).toInt ∧ (rf i 3).toInt ≤ 50000)) ∧ 0 ≤ (rf i 4).toInt ∧ (rf i 4).toInt ≤ (rf i 2).toInt
theorem r_cat_ti {k : Nat} {rf : UT} {i : Nat} {rain : Int32} (h : r_ok k rf) (hi : i < k) (hr : 0 ≤ rain.toInt ∧ rain.toInt ≤ 200) : 0 ≤ (r_cat rf i rain).toInt ∧ (r_cat rf i rain).toInt ≤ 100000 := by
  have h0 := (h i hi).1
  have a1 : 0 ≤ (rf i 0).toInt * rain.toInt := Int.mul_nonneg (by omega) hr.1
  have a2 : (rf i 0).toInt * rain.toInt ≤ 500 * 200 := Int.mul_le_mul h0.1.2 hr.2 hr.1 (by omega)
  have m1 : (rf i 0 * rain).toInt = (rf i 0).toInt * rain.toInt := ti_mul (by omega) (by omega)
  have b1 : 0 ≤ (rf i 0).toInt * rain.toInt * (rf i 1).toInt := Int.mul_nonneg a1 (by omega)
  have b2 : (rf i 0).toInt * rain.toInt * (rf i 1).toInt ≤ 100000 * 100 := Int.mul_le_mul (by omega) h0.2.1.2 (by omega) (by omega)
  have m2 : (rf i 0 * rain * rf i 1).toInt = (rf i 0).toInt * rain.toInt * (rf i 1).toInt := by rw [ti_mul (by rw [m1]; omega) (by rw [m1]; omega), m1]
  have e : (r_cat rf i rain).toInt = (rf i 0).toInt * rain.toInt * (rf i 1).toInt / 100 := by
    unfold r_cat
    rw [ti_div (by rw [m2]; omega) (by decide), m2]
    rfl
  rw [e]
  omega
/-- a roof's day in numbers -/
theorem r_day {k : Nat} {rf : UT} {i : Nat} {rain : Int32} (h : r_ok k rf) (hi : i < k) (hr : 0 ≤ rain.toInt ∧ rain.toInt ≤ 200) :
    ((r_tak rf i rain).toInt = min (r_cat rf i rain).toInt ((rf i 2).toInt - (rf i 4).toInt) ∧ (r_cat rf i rain - r_tak rf i rain).toInt = (r_cat rf i rain).toInt - (r_tak rf i rain).toInt) ∧
    (r_spl rf i rain).toInt = max ((r_cat rf i rain).toInt - (r_tak rf i rain).toInt - (rf i 3).toInt) 0 ∧
    (r_cat rf i rain - r_tak rf i rain - r_spl rf i rain).toInt = (r_cat rf i rain).toInt - (r_tak rf i rain).toInt - (r_spl rf i rain).toInt ∧
    (rf i 4 + r_tak rf i rain).toInt = (rf i 4).toInt + (r_tak rf i rain).toInt := by
  have hc := r_cat_ti h hi hr
  have h0 := h i hi
  have t1 : (r_tak rf i rain).toInt = min (r_cat rf i rain).toInt ((rf i 2).toInt - (rf i 4).toInt) := by
    unfold r_tak
    rw [ti_min, ti_sub (by omega) (by omega)]
  have t2 : (r_cat rf i rain - r_tak rf i rain).toInt = (r_cat rf i rain).toInt - (r_tak rf i rain).toInt := ti_sub (by omega) (by omega)
  have t3 : (r_spl rf i rain).toInt = max ((r_cat rf i rain).toInt - (r_tak rf i rain).toInt - (rf i 3).toInt) 0 := by
    unfold r_spl
    rw [ti_max, ti_sub (by rw [t2]; omega) (by rw [t2]; omega), t2, ti_0]
  refine ⟨⟨t1, t2⟩, t3, ?_, ?_⟩
  · rw [ti_sub (by rw [t2]; omega) (by rw [t2]; omega), t2]
  · exact ti_add (by omega) (by omega)
/-- the model's roof keeps five cells -/
def r_newm (rf : UT) (i : Nat) (rain : Int32) : UT := xup rf i (xup (rf i) 4 (rf i 4 + r_tak rf i rain))
theorem r_newm_ok {k : Nat} {rf : UT} {i : Nat} {rain : Int32} (h : r_ok k rf) (hi : i < k) (hr : 0 ≤ rain.toInt ∧ rain.toInt ≤ 200) : r_ok k (r_newm rf i rain) := by
  have hd := r_day h hi hr
  have hc := r_cat_ti h hi hr
  have h0 := h i hi
  intro j hj
  unfold r_newm
  by_cases c : j = i
  · subst c
    rw [xup_self, xup_ne _ _ (show (0 : Nat) ≠ 4 by decide), xup_ne _ _ (show (1 : Nat) ≠ 4 by decide), xup_ne _ _ (show (2 : Nat) ≠ 4 by decide), xup_ne _ _ (show (3 : Nat) ≠ 4 by decide), xup_self, hd.2.2.2]
    omega
  · rw [xup_ne _ _ c]; exact h j hj
abbrev MR : Type := Int32 × Int32 × Int32 × UT × (Nat → Int64)
def m_rfs (k : Nat) (rain : Int32) (x : MR) : MR := it (fun i x => (x.1 + (r_cat x.2.2.2.1 i rain - r_tak x.2.2.2.1 i rain - r_spl x.2.2.2.1 i rain), x.2.1 + r_tak x.2.2.2.1 i rain, x.2.2.1 + r_spl x.2.2.2.1 i rain, r_newm x.2.2.2.1 i rain, xup x.2.2.2.2 i (x.2.2.2.2 i + Int32.toInt64 (r_spl x.2.2.2.1 i rain)))) x k
def m_v3 (v : Nat → Int32) (a b c : Int32) : Nat → Int32 := xup (xup (xup v 1 a) 2 b) 3 c
theorem m_v3_2 (v : Nat → Int32) (a b c x : Int32) : xup (m_v3 v a b c) 2 x = m_v3 v a x c := by
  funext j
  unfold m_v3 xup
  by_cases h : j = 2
  · subst h; simp
  · simp [h]
theorem m_v3_3 (v : Nat → Int32) (a b c x : Int32) : xup (m_v3 v a b c) 3 x = m_v3 v a b x := by unfold m_v3; rw [xup_xup]
theorem m_v3_1 (v : Nat → Int32) (a b c x : Int32) : xup (m_v3 v a b c) 1 x = m_v3 v x b c := by
  funext j
  unfold m_v3 xup
  by_cases h : j = 1
  · subst h; simp
  · simp [h]
section PS8
variable {b : Nat} {W : XH} {cap flo top eva lim rul rc uc rn dn lev dry ap : Int32} {rf us : Nat → Nat → Int32} {ra ac sv as : Nat → Int32} {sm th : Int32} {sd : Int64} {td : Int32} {sp : Nat → Int64} {lf : Int32} {tx : Nat → Int32} {tl pl nb : Int32}
variable {fu n k d : Nat}
end PS8

