/-! Two plans: a roof of even numbers in one, its halves in the other. -/
def Hf (rf rg : UT) : Prop := rf 0 1 = 100 ∧ rg 0 1 = 100 ∧ (∀ j, j < 6 → rg 1 j = rg 0 j) ∧ ∀ j, j < 6 → j ≠ 1 → rf 0 j = rg 0 j + rg 0 j
def Tw (k m : Nat) (rf rg : UT) : Prop := (k = 0 ∧ m = 0) ∨ (1 ≤ k ∧ m = k + 1 ∧ Hf rf rg ∧ ∀ i, i + 1 < k → ∀ j, j < 6 → rf (i + 1) j = rg (i + 2) j)
theorem r_cat_v {k : Nat} {rf : UT} {i : Nat} {rain : Int32} (h : r_ok k rf) (hi : i < k) (hr : 0 ≤ rain.toInt ∧ rain.toInt ≤ 200) : (r_cat rf i rain).toInt = (rf i 0).toInt * rain.toInt * (rf i 1).toInt / 100 := by
  have h0 := (h i hi).1
  have a1 : 0 ≤ (rf i 0).toInt * rain.toInt := Int.mul_nonneg (by omega) hr.1
  have a2 : (rf i 0).toInt * rain.toInt ≤ 500 * 200 := Int.mul_le_mul h0.1.2 hr.2 hr.1 (by omega)
  have m1 : (rf i 0 * rain).toInt = (rf i 0).toInt * rain.toInt := ti_mul (by omega) (by omega)
  have b1 : 0 ≤ (rf i 0).toInt * rain.toInt * (rf i 1).toInt := Int.mul_nonneg a1 (by omega)
  have b2 : (rf i 0).toInt * rain.toInt * (rf i 1).toInt ≤ 100000 * 100 := Int.mul_le_mul (by omega) h0.2.1.2 (by omega) (by omega)
  have m2 : (rf i 0 * rain * rf i 1).toInt = (rf i 0).toInt * rain.toInt * (rf i 1).toInt := by rw [ti_mul (by rw [m1]; omega) (by rw [m1]; omega), m1]
  unfold r_cat
  rw [ti_div (by rw [m2]; omega) (by decide), m2]
  rfl
theorem r_new_5 {k : Nat} {rf : UT} {i : Nat} {rain : Int32} : R5 k (r_newm rf i rain) (r_new rf i rain) := by
  intro a _ j hj
  unfold r_newm r_new
  by_cases c : a = i
  · subst c
    rw [xup_self, xup_self, xup_ne (xup _ _ _) _ (show j ≠ 5 by omega)]
  · rw [xup_ne _ _ c, xup_ne _ _ c]
theorem r_new_ok {k : Nat} {rf : UT} {i : Nat} {rain : Int32} (h : r_ok k rf) (hi : i < k) (hr : 0 ≤ rain.toInt ∧ rain.toInt ≤ 200) : r_ok k (r_new rf i rain) := R5_ok r_new_5 (r_newm_ok h hi hr)
theorem ti_dbl {x y : Int32} (h : x = y + y) (h1 : 0 ≤ y.toInt) (h2 : y.toInt ≤ 1000000) : x.toInt = 2 * y.toInt := by
  rw [h, ti_add (by omega) (by omega)]; omega
theorem ti_dbl' {x y : Int32} (h : x.toInt = 2 * y.toInt) (h1 : 0 ≤ y.toInt) (h2 : y.toInt ≤ 1000000) : x = y + y := by
  apply ti_ext
  rw [ti_add (by omega) (by omega)]; omega
/-- what a roof of rows u does on a day, of its five numbers alone -/
theorem r_row {rf rg : UT} {i i' : Nat} (h : ∀ j, j < 6 → rf i j = rg i' j) (rain : Int32) : r_cat rf i rain = r_cat rg i' rain ∧ r_tak rf i rain = r_tak rg i' rain ∧ r_spl rf i rain = r_spl rg i' rain := by
  have e1 : r_cat rf i rain = r_cat rg i' rain := by unfold r_cat; rw [h 0 (by decide), h 1 (by decide)]
  have e2 : r_tak rf i rain = r_tak rg i' rain := by unfold r_tak; rw [e1, h 2 (by decide), h 4 (by decide)]
  refine ⟨e1, e2, ?_⟩
  unfold r_spl; rw [e1, e2, h 3 (by decide)]
theorem r_half {k m : Nat} {rf rg : UT} {rain : Int32} (hk : 0 < k) (hm : 0 < m) (h : r_ok k rf) (h' : r_ok m rg) (hr : 0 ≤ rain.toInt ∧ rain.toInt ≤ 200) (hh : Hf rf rg) :
    r_cat rf 0 rain = r_cat rg 0 rain + r_cat rg 0 rain ∧ r_tak rf 0 rain = r_tak rg 0 rain + r_tak rg 0 rain ∧ r_spl rf 0 rain = r_spl rg 0 rain + r_spl rg 0 rain := by
  obtain ⟨y1, y2, -, y4⟩ := hh
  have g0 := h' 0 hm
  have e0 := ti_dbl (y4 0 (by decide) (by decide)) (by omega) (by omega)
  have e2 := ti_dbl (y4 2 (by decide) (by decide)) (by omega) (by omega)
  have e3 := ti_dbl (y4 3 (by decide) (by decide)) (by omega) (by omega)
  have e4 := ti_dbl (y4 4 (by decide) (by decide)) (by omega) (by omega)
  have z : (100 : Int32).toInt = 100 := rfl
  have c1 := r_cat_v h hk hr
  have c2 := r_cat_v h' hm hr
  rw [y1, e0, z, Int.mul_ediv_cancel _ (by decide)] at c1
  rw [y2, z, Int.mul_ediv_cancel _ (by decide)] at c2
  have c3 := r_cat_ti h' hm hr
  have c4 : (r_cat rf 0 rain).toInt = 2 * (r_cat rg 0 rain).toInt := by rw [c1, c2, Int.mul_assoc]
  have d1 := r_day h hk hr
  have d2 := r_day h' hm hr
  have t1 : (r_tak rf 0 rain).toInt = 2 * (r_tak rg 0 rain).toInt := by rw [d1.1.1, d2.1.1]; omega
  have s1 : (r_spl rf 0 rain).toInt = 2 * (r_spl rg 0 rain).toInt := by rw [d1.2.1, d2.2.1]; omega
  have t2 := d2.1.1
  have s2 := d2.2.1
  exact ⟨ti_dbl' c4 (by omega) (by omega), ti_dbl' t1 (by omega) (by omega), ti_dbl' s1 (by omega) (by omega)⟩
abbrev RS4 : Type := Int32 × Int32 × Int32 × UT
def r_F (rain : Int32) (i : Nat) (x : RS4) : RS4 := (x.1 + (r_cat x.2.2.2 i rain - r_tak x.2.2.2 i rain - r_spl x.2.2.2 i rain), x.2.1 + r_tak x.2.2.2 i rain, x.2.2.1 + r_spl x.2.2.2 i rain, r_new x.2.2.2 i rain)
theorem c_rfs_F (k : Nat) (rain : Int32) (x : RS4) : c_rfs k rain x = it (r_F rain) x k := rfl
/-- both sides of a roof's day -/
def RP (k m : Nat) (x y : RS4) : Prop := x.1 = y.1 ∧ x.2.1 = y.2.1 ∧ x.2.2.1 = y.2.2.1 ∧ Tw k m x.2.2.2 y.2.2.2 ∧ r_ok k x.2.2.2 ∧ r_ok m y.2.2.2
theorem i32_h3 (a c t s : Int32) : a + ((c + c) - (t + t) - (s + s)) = a + (c - t - s) + (c - t - s) := by grind
theorem i32_h2 (a t : Int32) : a + (t + t) = a + t + t := by grind
theorem i32_h4 (a t : Int32) : (a + a) + (t + t) = (a + t) + (a + t) := by grind
theorem Tw_rfs {k m : Nat} {rf rg : UT} {rain : Int32} (hr : 0 ≤ rain.toInt ∧ rain.toInt ≤ 200) {a b c : Int32} (h : RP k m (a, b, c, rf) (a, b, c, rg)) : RP k m (c_rfs k rain (a, b, c, rf)) (c_rfs m rain (a, b, c, rg)) := by
  obtain ⟨-, -, -, hT, ok1, ok2⟩ := h
  rcases hT with ⟨rfl, rfl⟩ | ⟨hk, rfl, hh, hrest⟩
  · exact ⟨rfl, rfl, rfl, Or.inl ⟨rfl, rfl⟩, ok1, ok2⟩
  · obtain ⟨d, rfl⟩ : ∃ d, k = 1 + d := ⟨k - 1, by omega⟩
    rw [c_rfs_F, c_rfs_F, show 1 + d + 1 = 2 + d by omega, it_app, it_app]
    simp only at ok1 ok2 hh hrest
    have ok2 : r_ok (2 + d) rg := by rw [show 2 + d = 1 + d + 1 by omega]; exact ok2
    obtain ⟨H1, H2, H3⟩ := r_half (rain := rain) (show 0 < 1 + d by omega) (show 0 < 2 + d by omega) ok1 ok2 hr hh
    have okn1 : r_ok (1 + d) (r_new rf 0 rain) := r_new_ok ok1 (by omega) hr
    have okp1 : r_ok (2 + d) (r_new rg 0 rain) := r_new_ok ok2 (by omega) hr
    have okp2 : r_ok (2 + d) (r_new (r_new rg 0 rain) 1 rain) := r_new_ok okp1 (by omega) hr
    have row1 : ∀ j, j < 6 → r_new rg 0 rain 1 j = rg 0 j := fun j hj => by
      unfold r_new
      rw [xup_ne _ _ (show (1 : Nat) ≠ 0 by decide)]
      exact hh.2.2.1 j hj
    obtain ⟨G1, G2, G3⟩ := r_row (rf := r_new rg 0 rain) (rg := rg) (i := 1) (i' := 0) row1 rain
    have start : RP (1 + d) (2 + d) (it (r_F rain) (a, b, c, rf) 1) (it (r_F rain) (a, b, c, rg) 2) := by
      refine ⟨?_, ?_, ?_, Or.inr ⟨by omega, by omega, ⟨?_, ?_, ?_, ?_⟩, ?_⟩, okn1, okp2⟩
      · show a + (r_cat rf 0 rain - r_tak rf 0 rain - r_spl rf 0 rain) = a + (r_cat rg 0 rain - r_tak rg 0 rain - r_spl rg 0 rain) + (r_cat (r_new rg 0 rain) 1 rain - r_tak (r_new rg 0 rain) 1 rain - r_spl (r_new rg 0 rain) 1 rain)
        rw [H1, H2, H3, G1, G2, G3]; exact i32_h3 _ _ _ _
      · show b + r_tak rf 0 rain = b + r_tak rg 0 rain + r_tak (r_new rg 0 rain) 1 rain
        rw [H2, G2]; exact i32_h2 _ _
      · show c + r_spl rf 0 rain = c + r_spl rg 0 rain + r_spl (r_new rg 0 rain) 1 rain
        rw [H3, G3]; exact i32_h2 _ _
      · show r_new rf 0 rain 0 1 = 100
        unfold r_new
        rw [xup_self, xup_ne _ _ (by decide), xup_ne _ _ (by decide)]; exact hh.1
      · show r_new (r_new rg 0 rain) 1 rain 0 1 = 100
        rw [show r_new (r_new rg 0 rain) 1 rain 0 = r_new rg 0 rain 0 from xup_ne _ _ (by decide)]
        unfold r_new
        rw [xup_self, xup_ne _ _ (by decide), xup_ne _ _ (by decide)]; exact hh.2.1
      · intro j hj
        show r_new (r_new rg 0 rain) 1 rain 1 j = r_new (r_new rg 0 rain) 1 rain 0 j
        rw [show r_new (r_new rg 0 rain) 1 rain 0 = r_new rg 0 rain 0 from xup_ne _ _ (by decide)]
        have e1 : r_new (r_new rg 0 rain) 1 rain 1 = xup (xup (r_new rg 0 rain 1) 4 (r_new rg 0 rain 1 4 + r_tak (r_new rg 0 rain) 1 rain)) 5 (r_new rg 0 rain 1 5 + r_spl (r_new rg 0 rain) 1 rain) := xup_self _ _ _
        have e2 : r_new rg 0 rain 0 = xup (xup (rg 0) 4 (rg 0 4 + r_tak rg 0 rain)) 5 (rg 0 5 + r_spl rg 0 rain) := xup_self _ _ _
        rw [e1, e2, row1 4 (by decide), row1 5 (by decide), G2, G3]
        by_cases c5 : j = 5
        · subst c5; rw [xup_self, xup_self]
        · rw [xup_ne _ _ c5, xup_ne _ _ c5]
          by_cases c4 : j = 4
          · subst c4; rw [xup_self, xup_self]
          · rw [xup_ne _ _ c4, xup_ne _ _ c4]; exact row1 j hj
      · intro j hj hj1
        show r_new rf 0 rain 0 j = r_new (r_new rg 0 rain) 1 rain 0 j + r_new (r_new rg 0 rain) 1 rain 0 j
        rw [show r_new (r_new rg 0 rain) 1 rain 0 = r_new rg 0 rain 0 from xup_ne _ _ (by decide)]
        have e1 : r_new rf 0 rain 0 = xup (xup (rf 0) 4 (rf 0 4 + r_tak rf 0 rain)) 5 (rf 0 5 + r_spl rf 0 rain) := xup_self _ _ _
        have e2 : r_new rg 0 rain 0 = xup (xup (rg 0) 4 (rg 0 4 + r_tak rg 0 rain)) 5 (rg 0 5 + r_spl rg 0 rain) := xup_self _ _ _
        rw [e1, e2, H2, H3, hh.2.2.2 4 (by decide) (by decide), hh.2.2.2 5 (by decide) (by decide), i32_h4, i32_h4]
        by_cases c5 : j = 5
        · subst c5; rw [xup_self, xup_self]
        · rw [xup_ne _ _ c5, xup_ne _ _ c5]
          by_cases c4 : j = 4
          · subst c4; rw [xup_self, xup_self]
          · rw [xup_ne _ _ c4, xup_ne _ _ c4]; exact hh.2.2.2 j hj hj1
      · intro i hi j hj
        show r_new rf 0 rain (i + 1) j = r_new (r_new rg 0 rain) 1 rain (i + 2) j
        unfold r_new
        rw [xup_ne _ _ (by omega), xup_ne _ _ (by omega), xup_ne _ _ (by omega)]
        exact hrest i hi j hj
    refine it_two (fun _ x y => RP (1 + d) (2 + d) x y) _ _ d start ?_
    rintro i ⟨xa, xb, xc, xr⟩ ⟨ya, yb, yc, yr⟩ hi ⟨p1, p2, p3, p4, p5, p6⟩
    simp only at p1 p2 p3 p4 p5 p6
    subst p1 p2 p3
    rcases p4 with ⟨f, -⟩ | ⟨-, -, q1, q2⟩
    · exact absurd f (by omega)
    · have hrow : ∀ j, j < 6 → xr (1 + i) j = yr (2 + i) j := fun j hj => by
        rw [show 1 + i = i + 1 by omega, show 2 + i = i + 2 by omega]
        exact q2 i (by omega) j hj
      obtain ⟨E1, E2, E3⟩ := r_row hrow rain
      have f0 : ∀ a, a ≠ 1 + i → r_new xr (1 + i) rain a = xr a := fun a ha => xup_ne _ _ ha
      have g0 : ∀ a, a ≠ 2 + i → r_new yr (2 + i) rain a = yr a := fun a ha => xup_ne _ _ ha
      refine ⟨?_, ?_, ?_, Or.inr ⟨by omega, by omega, ⟨?_, ?_, ?_, ?_⟩, ?_⟩, r_new_ok p5 (by omega) hr, r_new_ok p6 (by omega) hr⟩
      · show xa + (r_cat xr (1 + i) rain - r_tak xr (1 + i) rain - r_spl xr (1 + i) rain) = xa + (r_cat yr (2 + i) rain - r_tak yr (2 + i) rain - r_spl yr (2 + i) rain)
        rw [E1, E2, E3]
      · show xb + r_tak xr (1 + i) rain = xb + r_tak yr (2 + i) rain
        rw [E2]
      · show xc + r_spl xr (1 + i) rain = xc + r_spl yr (2 + i) rain
        rw [E3]
      · show r_new xr (1 + i) rain 0 1 = 100
        rw [f0 0 (by omega)]; exact q1.1
      · show r_new yr (2 + i) rain 0 1 = 100
        rw [g0 0 (by omega)]; exact q1.2.1
      · intro j hj
        show r_new yr (2 + i) rain 1 j = r_new yr (2 + i) rain 0 j
        rw [g0 0 (by omega), g0 1 (by omega)]; exact q1.2.2.1 j hj
      · intro j hj hj1
        show r_new xr (1 + i) rain 0 j = r_new yr (2 + i) rain 0 j + r_new yr (2 + i) rain 0 j
        rw [f0 0 (by omega), g0 0 (by omega)]; exact q1.2.2.2 j hj hj1
      · intro e he j hj
        show r_new xr (1 + i) rain (e + 1) j = r_new yr (2 + i) rain (e + 2) j
        by_cases ce : e = i
        · subst ce
          have e1 : r_new xr (1 + e) rain (e + 1) = xup (xup (xr (1 + e)) 4 (xr (1 + e) 4 + r_tak xr (1 + e) rain)) 5 (xr (1 + e) 5 + r_spl xr (1 + e) rain) := by
            rw [show e + 1 = 1 + e by omega]; exact xup_self _ _ _
          have e2 : r_new yr (2 + e) rain (e + 2) = xup (xup (yr (2 + e)) 4 (yr (2 + e) 4 + r_tak yr (2 + e) rain)) 5 (yr (2 + e) 5 + r_spl yr (2 + e) rain) := by
            rw [show e + 2 = 2 + e by omega]; exact xup_self _ _ _
          rw [e1, e2, E2, E3, hrow 4 (by decide), hrow 5 (by decide)]
          by_cases c5 : j = 5
          · subst c5; rw [xup_self, xup_self]
          · rw [xup_ne _ _ c5, xup_ne _ _ c5]
            by_cases c4 : j = 4
            · subst c4; rw [xup_self, xup_self]
            · rw [xup_ne _ _ c4, xup_ne _ _ c4]; exact hrow j hj
        · rw [f0 _ (by omega), g0 _ (by omega)]; exact q2 e he j hj
