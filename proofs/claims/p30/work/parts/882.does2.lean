/-! A day of the model, whole. -/
def s_cfg (cap flo top eva lev : Int32) : Prop := (100 ≤ cap.toInt ∧ cap.toInt ≤ 60000) ∧ (0 ≤ flo.toInt ∧ flo.toInt ≤ cap.toInt) ∧ (0 ≤ top.toInt ∧ top.toInt ≤ cap.toInt) ∧ (0 ≤ eva.toInt ∧ eva.toInt ≤ 100) ∧ 0 ≤ lev.toInt ∧ lev.toInt ≤ cap.toInt
/-- the numbers of a day's second half -/
theorem s_rng {cap flo top eva rul lev inf : Int32} {n : Nat} {us : UT} (hn : n ≤ 5) (ho : u_ok n us) (hc : s_cfg cap flo top eva lev) (hi : 0 ≤ inf.toInt ∧ inf.toInt ≤ 1000000) (od : Nat → Int32) :
    ((lev + inf).toInt = lev.toInt + inf.toInt ∧ 0 ≤ (s_lev3 cap eva lev inf).toInt ∧ (s_lev3 cap eva lev inf).toInt ≤ cap.toInt) ∧
    (0 ≤ (s_avl cap flo eva lev inf).toInt ∧ (s_avl cap flo eva lev inf).toInt ≤ 60000) ∧ (0 ≤ (s_lev4 cap flo eva rul lev inf n od us).toInt ∧ (s_lev4 cap flo eva rul lev inf n od us).toInt ≤ cap.toInt) ∧
    (0 ≤ (s_lev5 cap flo top eva rul lev inf n od us).toInt ∧ (s_lev5 cap flo top eva rul lev inf n od us).toInt ≤ cap.toInt) := by
  obtain ⟨c1, c2, c3, c4, c5⟩ := hc
  have e1 : (lev + inf).toInt = lev.toInt + inf.toInt := ti_add (by omega) (by omega)
  have e2 : (s_over cap lev inf).toInt = max (lev.toInt + inf.toInt - cap.toInt) 0 := by
    unfold s_over
    rw [ti_max, ti_sub (by rw [e1]; omega) (by rw [e1]; omega), e1, ti_0]
  have e3 : (s_lev2 cap lev inf).toInt = min (lev.toInt + inf.toInt) cap.toInt := by
    have : s_lev2 cap lev inf = (lev + inf) - s_over cap lev inf := rfl
    rw [this, ti_sub (by rw [e1, e2]; omega) (by rw [e1, e2]; omega), e1, e2]; omega
  have m0 : 0 ≤ (s_lev2 cap lev inf).toInt * eva.toInt := Int.mul_nonneg (by omega) c4.1
  have m1 : (s_lev2 cap lev inf).toInt * eva.toInt ≤ (s_lev2 cap lev inf).toInt * 100 := Int.mul_le_mul_of_nonneg_left c4.2 (by omega)
  have e4 : (s_evap cap eva lev inf).toInt = (s_lev2 cap lev inf).toInt * eva.toInt / 1000 := by
    unfold s_evap
    have m2 : (s_lev2 cap lev inf * eva).toInt = (s_lev2 cap lev inf).toInt * eva.toInt := ti_mul (by omega) (by omega)
    rw [ti_div (by rw [m2]; omega) (by decide), m2]; rfl
  have e5 : (s_lev3 cap eva lev inf).toInt = (s_lev2 cap lev inf).toInt - (s_evap cap eva lev inf).toInt := by
    unfold s_lev3
    exact ti_sub (by omega) (by omega)
  have e6 : (s_avl cap flo eva lev inf).toInt = max ((s_lev3 cap eva lev inf).toInt - flo.toInt) 0 := by
    unfold s_avl
    rw [ti_max, ti_sub (by omega) (by omega), ti_0]
  have hg := (u_hand_rng hn ho (A := s_avl cap flo eva lev inf) (by omega) (by omega) rul od).1
  have e7 : (s_lev4 cap flo eva rul lev inf n od us).toInt = (s_lev3 cap eva lev inf).toInt - (u_hand (s_avl cap flo eva lev inf) rul n od us).1.toInt := by
    unfold s_lev4 s_hand
    exact ti_sub (by omega) (by omega)
  have e8 : (s_mains cap flo top eva rul lev inf n od us).toInt = max (top.toInt - (s_lev4 cap flo eva rul lev inf n od us).toInt) 0 := by
    unfold s_mains
    rw [ti_max, ti_sub (by omega) (by omega), ti_0]
  have e9 : (s_lev5 cap flo top eva rul lev inf n od us).toInt = (s_lev4 cap flo eva rul lev inf n od us).toInt + (s_mains cap flo top eva rul lev inf n od us).toInt := by
    unfold s_lev5
    exact ti_add (by omega) (by omega)
  refine ⟨⟨e1, ?_, ?_⟩, ⟨?_, ?_⟩, ⟨?_, ?_⟩, ?_, ?_⟩ <;> omega
theorem r_ok_drn {k : Nat} {rf : UT} (h : r_ok k rf) (lim dry rain : Int32) : r_ok k (c_drn k lim dry rain rf).2 := by
  unfold c_drn
  split
  · split
    · exact h
    · refine it_inv (fun _ (x : Int32 × UT) => r_ok k x.2) _ k h ?_
      intro i x hi hx j hj
      show (((1 ≤ (xup x.2 i (xup (x.2 i) 4 0) j 0).toInt ∧ (xup x.2 i (xup (x.2 i) 4 0) j 0).toInt ≤ 500) ∧ (1 ≤ (xup x.2 i (xup (x.2 i) 4 0) j 1).toInt ∧ (xup x.2 i (xup (x.2 i) 4 0) j 1).toInt ≤ 100) ∧ (0 ≤ (xup x.2 i (xup (x.2 i) 4 0) j 2).toInt ∧ (xup x.2 i (xup (x.2 i) 4 0) j 2).toInt ≤ 999) ∧ (1 ≤ (xup x.2 i (xup (x.2 i) 4 0) j 3).toInt ∧ (xup x.2 i (xup (x.2 i) 4 0) j 3).toInt ≤ 50000)) ∧ 0 ≤ (xup x.2 i (xup (x.2 i) 4 0) j 4).toInt ∧ (xup x.2 i (xup (x.2 i) 4 0) j 4).toInt ≤ (xup x.2 i (xup (x.2 i) 4 0) j 2).toInt)
      have h0 := hx j hj
      by_cases c : j = i
      · subst c
        rw [xup_self, xup_ne _ _ (show (0 : Nat) ≠ 4 by decide), xup_ne _ _ (show (1 : Nat) ≠ 4 by decide), xup_ne _ _ (show (2 : Nat) ≠ 4 by decide), xup_ne _ _ (show (3 : Nat) ≠ 4 by decide), xup_self, ti_0]
        omega
      · rw [xup_ne _ _ c]; exact h0
  · exact h
theorem i32_0add (a : Int32) : 0 + a = a := by rw [Int32.zero_add]
theorem xmax_if2 {a b : Int32} (h1 : -2147483648 ≤ b.toInt - a.toInt) (h2 : b.toInt - a.toInt < 2147483648) : (if b ≤ a then (0 : Int32) else b - a) = xmax (b - a) 0 := xmax_if h1 h2
theorem m_v4z (x a b c : Int32) : m_v3 (xup (fun _ => 0) 9 x) a b c 4 = 0 ∧ m_v3 (xup (fun _ => 0) 9 x) a b c 5 = 0 ∧ m_v3 (xup (fun _ => 0) 9 x) a b c 6 = 0 ∧ m_v3 (xup (fun _ => 0) 9 x) a b c 7 = 0 ∧ m_v3 (xup (fun _ => 0) 9 x) a b c 8 = 0 ∧ m_v3 (xup (fun _ => 0) 9 x) a b c 0 = 0 := ⟨rfl, rfl, rfl, rfl, rfl, rfl⟩
theorem m_v3_z {v : Nat → Int32} (h1 : v 1 = 0) (h2 : v 2 = 0) (h3 : v 3 = 0) : m_v3 v 0 0 0 = v := by
  funext j
  unfold m_v3 xup
  by_cases c3 : j = 3
  · subst c3; simp [h3]
  · by_cases c2 : j = 2
    · subst c2; simp [h2]
    · by_cases c1 : j = 1
      · subst c1; simp [h1]
      · simp [c1, c2, c3]
/-- the roofs' part of a day in the model -/
def m_day (k : Nat) (lim dry rain : Int32) (rf : UT) (sp : Nat → Int64) : MR := m_rfs k rain (0, 0, 0, (c_drn k lim dry rain rf).2, sp)
theorem m_rfs_rng {k : Nat} {rain : Int32} {rf : UT} {sp : Nat → Int64} (hk : k ≤ 6) (h : r_ok k rf) (hr : 0 ≤ rain.toInt ∧ rain.toInt ≤ 200) (m : Nat) (hm : m ≤ k) :
    r_ok k (m_rfs m rain (0, 0, 0, rf, sp)).2.2.2.1 ∧ 0 ≤ (m_rfs m rain (0, 0, 0, rf, sp)).1.toInt ∧ (m_rfs m rain (0, 0, 0, rf, sp)).1.toInt ≤ 100000 * m := by
  refine it_inv (fun i (x : MR) => r_ok k x.2.2.2.1 ∧ 0 ≤ x.1.toInt ∧ x.1.toInt ≤ 100000 * i) _ m ⟨h, by simp [ti_0], by simp [ti_0]⟩ ?_
  rintro i ⟨a, b, c, v, q⟩ hi ⟨h1, h2, h3⟩
  simp only at h1 h2 h3 ⊢
  have hd := r_day h1 (show i < k by omega) hr
  have hc := r_cat_ti h1 (show i < k by omega) hr
  have h0 := h1 i (by omega)
  refine ⟨r_newm_ok h1 (by omega) hr, ?_, ?_⟩ <;> rw [ti_add (by rw [hd.2.2.1]; omega) (by rw [hd.2.2.1]; omega), hd.2.2.1] <;> omega
section PS9
variable {b : Nat} {W : XH} {cap flo top eva lim rul rc uc rn dn lev dry ap : Int32} {rf us : Nat → Nat → Int32} {ra ac sv as : Nat → Int32} {sm th : Int32} {sd : Int64} {td : Int32} {sp : Nat → Int64} {lf : Int32} {tx : Nat → Int32} {tl pl nb : Int32}
variable {fu n k d : Nat}
end PS9

