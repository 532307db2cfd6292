/-! What flows in and what flows out: a day's balance. -/
def zs (ac : Nat → Int32) (w D : Nat) : Int := zsum (fun d => (ac (d * 10 + w)).toInt) D
theorem zsum_s (f : Nat → Int) (n : Nat) : zsum f (n + 1) = zsum f n + f n := rfl
theorem zsum_one {f g : Nat → Int} {e n : Nat} (he : e < n) (h : ∀ i, i ≠ e → f i = g i) : zsum f n = zsum g n + (f e - g e) := by
  have key : ∀ m, zsum f m = zsum g m + (if e < m then f e - g e else 0) := by
    intro m
    induction m with
    | zero => rfl
    | succ m ih =>
      rw [zsum_s, zsum_s, ih]
      by_cases c : m = e
      · subst c
        rw [if_neg (Nat.lt_irrefl _), if_pos (by omega)]; omega
      · rw [h m c]
        by_cases c2 : e < m
        · rw [if_pos c2, if_pos (by omega)]; omega
        · rw [if_neg c2, if_neg (by omega)]; omega
  rw [key n, if_pos he]
theorem zs_day {ac ac' v : Nat → Int32} {D : Nat} (h : ∀ j, ac' j = aday ac D v j) {w : Nat} (hw : w < 10) : zs ac' w (D + 1) = zs ac w D + (v w).toInt := by
  unfold zs
  rw [zsum_s, h, aday_at _ _ _ hw]
  refine congrArg (· + _) (zsum_eq _ _ _ (fun d hd => ?_))
  rw [h, aday_out _ _ _ (by omega)]
theorem rfs_sum {k : Nat} {rf : UT} {rain : Int32} (hk : k ≤ 6) (ok : r_ok k rf) (hr : 0 ≤ rain.toInt ∧ rain.toInt ≤ 200) :
    (0 ≤ (c_rfs k rain (0, 0, 0, rf)).1.toInt ∧ (c_rfs k rain (0, 0, 0, rf)).1.toInt ≤ 600000) ∧ (0 ≤ (c_rfs k rain (0, 0, 0, rf)).2.1.toInt ∧ (c_rfs k rain (0, 0, 0, rf)).2.1.toInt ≤ 6000) ∧ (0 ≤ (c_rfs k rain (0, 0, 0, rf)).2.2.1.toInt ∧ (c_rfs k rain (0, 0, 0, rf)).2.2.1.toInt ≤ 600000) ∧
    zsum (fun i => ((c_rfs k rain (0, 0, 0, rf)).2.2.2 i 4).toInt) k = zsum (fun i => (rf i 4).toInt) k + (c_rfs k rain (0, 0, 0, rf)).2.1.toInt ∧ (rain.toInt = 0 → (c_rfs k rain (0, 0, 0, rf)).1 = 0 ∧ (c_rfs k rain (0, 0, 0, rf)).2.1 = 0) := by
  have key : (r_ok k (c_rfs k rain (0, 0, 0, rf)).2.2.2 ∧ (0 ≤ (c_rfs k rain (0, 0, 0, rf)).1.toInt ∧ (c_rfs k rain (0, 0, 0, rf)).1.toInt ≤ 100000 * (k : Int)) ∧ (0 ≤ (c_rfs k rain (0, 0, 0, rf)).2.1.toInt ∧ (c_rfs k rain (0, 0, 0, rf)).2.1.toInt ≤ 1000 * (k : Int)) ∧ (0 ≤ (c_rfs k rain (0, 0, 0, rf)).2.2.1.toInt ∧ (c_rfs k rain (0, 0, 0, rf)).2.2.1.toInt ≤ 100000 * (k : Int))) ∧
    zsum (fun i => ((c_rfs k rain (0, 0, 0, rf)).2.2.2 i 4).toInt) k = zsum (fun i => (rf i 4).toInt) k + (c_rfs k rain (0, 0, 0, rf)).2.1.toInt ∧ (rain.toInt = 0 → (c_rfs k rain (0, 0, 0, rf)).1 = 0 ∧ (c_rfs k rain (0, 0, 0, rf)).2.1 = 0) := by
    rw [c_rfs_F]
    refine it_inv (fun e (x : RS4) => (r_ok k x.2.2.2 ∧ (0 ≤ x.1.toInt ∧ x.1.toInt ≤ 100000 * (e : Int)) ∧ (0 ≤ x.2.1.toInt ∧ x.2.1.toInt ≤ 1000 * (e : Int)) ∧ (0 ≤ x.2.2.1.toInt ∧ x.2.2.1.toInt ≤ 100000 * (e : Int))) ∧ zsum (fun i => (x.2.2.2 i 4).toInt) k = zsum (fun i => (rf i 4).toInt) k + x.2.1.toInt ∧ (rain.toInt = 0 → x.1 = 0 ∧ x.2.1 = 0)) _ k ⟨⟨ok, ?_, ?_, ?_⟩, ?_, fun _ => ⟨rfl, rfl⟩⟩ ?_
    · simp [ti_0]
    · simp [ti_0]
    · simp [ti_0]
    · simp [ti_0]
    · rintro e ⟨xa, xb, xc, xr⟩ he ⟨⟨h1, h2, h3, h4⟩, h5, h6⟩
      simp only at h1 h2 h3 h4 h5 h6
      obtain ⟨⟨d1, d2⟩, d3, d4, d5⟩ := r_day h1 he hr
      have hc := r_cat_ti h1 he hr
      have h0 := h1 e he
      have b1 : (xa + (r_cat xr e rain - r_tak xr e rain - r_spl xr e rain)).toInt = xa.toInt + ((r_cat xr e rain).toInt - (r_tak xr e rain).toInt - (r_spl xr e rain).toInt) := by rw [ti_add (by rw [d4]; omega) (by rw [d4]; omega), d4]
      have b2 : (xb + r_tak xr e rain).toInt = xb.toInt + (r_tak xr e rain).toInt := ti_add (by omega) (by omega)
      have b3 : (xc + r_spl xr e rain).toInt = xc.toInt + (r_spl xr e rain).toInt := ti_add (by omega) (by omega)
      refine ⟨⟨r_new_ok h1 he hr, ?_, ?_, ?_⟩, ?_, fun hz => ?_⟩
      · show 0 ≤ (xa + (r_cat xr e rain - r_tak xr e rain - r_spl xr e rain)).toInt ∧ (xa + (r_cat xr e rain - r_tak xr e rain - r_spl xr e rain)).toInt ≤ 100000 * ((e + 1 : Nat) : Int)
        rw [b1]; omega
      · show 0 ≤ (xb + r_tak xr e rain).toInt ∧ (xb + r_tak xr e rain).toInt ≤ 1000 * ((e + 1 : Nat) : Int)
        rw [b2]; omega
      · show 0 ≤ (xc + r_spl xr e rain).toInt ∧ (xc + r_spl xr e rain).toInt ≤ 100000 * ((e + 1 : Nat) : Int)
        rw [b3]; omega
      · show zsum (fun i => (r_new xr e rain i 4).toInt) k = _ + (xb + r_tak xr e rain).toInt
        have e1 : r_new xr e rain e 4 = xr e 4 + r_tak xr e rain := by unfold r_new; rw [xup_self, xup_ne _ _ (by decide), xup_self]
        rw [zsum_one (g := fun i => (xr i 4).toInt) he (fun i hi => by show (r_new xr e rain i 4).toInt = _; rw [show r_new xr e rain i = xr i from xup_ne _ _ hi]), h5, b2]
        simp only [e1, d5]
        omega
      · obtain ⟨g1, g2⟩ := h6 hz
        have hv := r_cat_v h1 he hr
        rw [hz, Int.mul_zero, Int.zero_mul, Int.zero_ediv] at hv
        have t0 : (r_tak xr e rain).toInt = 0 := by omega
        have s0 : (r_spl xr e rain).toInt = 0 := by omega
        refine ⟨ti_ext ?_, ti_ext ?_⟩
        · show (xa + (r_cat xr e rain - r_tak xr e rain - r_spl xr e rain)).toInt = _
          rw [b1, g1, hv, t0, s0]; rfl
        · show (xb + r_tak xr e rain).toInt = _
          rw [b2, g2, t0]; rfl
  obtain ⟨⟨-, k2, k3, k4⟩, k5, k6⟩ := key
  exact ⟨by omega, by omega, by omega, k5, k6⟩
theorem drn_sum {k : Nat} {rf : UT} (hk : k ≤ 6) (ok : r_ok k rf) (lim dry rain : Int32) :
    (0 ≤ (c_drn k lim dry rain rf).1.toInt ∧ (c_drn k lim dry rain rf).1.toInt ≤ 6000) ∧ zsum (fun i => ((c_drn k lim dry rain rf).2 i 4).toInt) k = zsum (fun i => (rf i 4).toInt) k - (c_drn k lim dry rain rf).1.toInt ∧ (0 < rain.toInt → (c_drn k lim dry rain rf).1 = 0) := by
  have z : (0 : Int32).toInt = 0 := rfl
  unfold c_drn
  by_cases c0 : rain ≤ 0
  · rw [if_pos c0]
    rw [ti_le, z] at c0
    by_cases c1 : dry + 1 < lim
    · rw [if_pos c1]
      exact ⟨by rw [z]; omega, by rw [z]; simp, fun _ => rfl⟩
    · rw [if_neg c1]
      have key : (∀ i, k ≤ i → (it d_F (0, rf) k).2 i = rf i) ∧ (0 ≤ (it d_F (0, rf) k).1.toInt ∧ (it d_F (0, rf) k).1.toInt ≤ 1000 * (k : Int)) ∧ zsum (fun i => ((it d_F (0, rf) k).2 i 4).toInt) k = zsum (fun i => (rf i 4).toInt) k - (it d_F (0, rf) k).1.toInt := by
        refine it_inv (fun e (x : RS2) => (∀ i, e ≤ i → x.2 i = rf i) ∧ (0 ≤ x.1.toInt ∧ x.1.toInt ≤ 1000 * (e : Int)) ∧ zsum (fun i => (x.2 i 4).toInt) k = zsum (fun i => (rf i 4).toInt) k - x.1.toInt) _ k ⟨fun _ _ => rfl, ?_, ?_⟩ ?_
        · simp [ti_0]
        · simp [ti_0]
        · rintro e ⟨xa, xr⟩ he ⟨h1, h2, h3⟩
          simp only at h1 h2 h3
          have h0 := ok e he
          have r0 := h1 e (Nat.le_refl _)
          have b1 : (xa + xr e 4).toInt = xa.toInt + (rf e 4).toInt := by rw [ti_add (by rw [r0]; omega) (by rw [r0]; omega), r0]
          refine ⟨fun i hi => ?_, ?_, ?_⟩
          · show xup xr e (xup (xr e) 4 0) i = rf i
            rw [xup_ne _ _ (by omega)]; exact h1 i (by omega)
          · show 0 ≤ (xa + xr e 4).toInt ∧ (xa + xr e 4).toInt ≤ 1000 * ((e + 1 : Nat) : Int)
            rw [b1]; omega
          · show zsum (fun i => (xup xr e (xup (xr e) 4 0) i 4).toInt) k = _ - (xa + xr e 4).toInt
            rw [zsum_one (g := fun i => (xr i 4).toInt) he (fun i hi => by show (xup xr e (xup (xr e) 4 0) i 4).toInt = _; rw [xup_ne _ _ hi]), h3, b1]
            simp only [xup_self, z, r0]
            omega
      obtain ⟨-, k2, k3⟩ := key
      refine ⟨?_, k3, fun h => absurd h (by omega)⟩
      show 0 ≤ (it d_F (0, rf) k).1.toInt ∧ (it d_F (0, rf) k).1.toInt ≤ 6000
      omega
  · rw [if_neg c0]
    exact ⟨by rw [z]; omega, by rw [z]; simp, fun _ => rfl⟩
/-- the numbers of a day's second half, balanced -/
theorem s_bal {cap flo top eva rul lev inf : Int32} {n : Nat} {us : UT} (hn : n ≤ 5) (ho : u_ok n us) (hc : s_cfg cap flo top eva lev) (hi : 0 ≤ inf.toInt ∧ inf.toInt ≤ 1000000) (od : Nat → Int32) :
    (s_lev5 cap flo top eva rul lev inf n od us).toInt = lev.toInt + inf.toInt - (s_over cap lev inf).toInt - (s_evap cap eva lev inf).toInt - (s_hand cap flo eva rul lev inf n od us).1.toInt + (s_mains cap flo top eva rul lev inf n od us).toInt ∧
    (0 ≤ (s_over cap lev inf).toInt ∧ (s_over cap lev inf).toInt ≤ 2000000) ∧ (0 ≤ (s_evap cap eva lev inf).toInt ∧ (s_evap cap eva lev inf).toInt ≤ 60000) ∧ (0 ≤ (s_hand cap flo eva rul lev inf n od us).1.toInt ∧ (s_hand cap flo eva rul lev inf n od us).1.toInt ≤ 60000) ∧ (0 ≤ (s_mains cap flo top eva rul lev inf n od us).toInt ∧ (s_mains cap flo top eva rul lev inf n od us).toInt ≤ 60000) ∧
    (0 ≤ (s_lev5 cap flo top eva rul lev inf n od us).toInt ∧ (s_lev5 cap flo top eva rul lev inf n od us).toInt ≤ 60000) ∧ (-2000000 ≤ (s_lack cap flo eva rul lev inf n od us).toInt ∧ (s_lack cap flo eva rul lev inf n od us).toInt ≤ 2000000) ∧
    (0 ≤ (s_avl cap flo eva lev inf).toInt ∧ (s_avl cap flo eva lev inf).toInt ≤ 60000) := by
  have hrg := s_rng (rul := rul) hn ho hc hi od
  obtain ⟨c1, c2, c3, c4, c5⟩ := hc
  obtain ⟨⟨e1, l30, l31⟩, ⟨a0, a1⟩, ⟨l40, l41⟩, l50, l51⟩ := hrg
  have e2 : (s_over cap lev inf).toInt = max (lev.toInt + inf.toInt - cap.toInt) 0 := by
    unfold s_over
    rw [ti_max, ti_sub (by rw [e1]; omega) (by rw [e1]; omega), e1, ti_0]
  have e3 : (s_lev2 cap lev inf).toInt = lev.toInt + inf.toInt - (s_over cap lev inf).toInt := by
    have : s_lev2 cap lev inf = (lev + inf) - s_over cap lev inf := rfl
    rw [this, ti_sub (by rw [e1, e2]; omega) (by rw [e1, e2]; omega), e1]
  have m0 : 0 ≤ (s_lev2 cap lev inf).toInt * eva.toInt := Int.mul_nonneg (by omega) c4.1
  have m1 : (s_lev2 cap lev inf).toInt * eva.toInt ≤ (s_lev2 cap lev inf).toInt * 100 := Int.mul_le_mul_of_nonneg_left c4.2 (by omega)
  have e4 : (s_evap cap eva lev inf).toInt = (s_lev2 cap lev inf).toInt * eva.toInt / 1000 := by
    unfold s_evap
    have m2 : (s_lev2 cap lev inf * eva).toInt = (s_lev2 cap lev inf).toInt * eva.toInt := ti_mul (by omega) (by omega)
    rw [ti_div (by rw [m2]; omega) (by decide), m2]; rfl
  have e5 : (s_lev3 cap eva lev inf).toInt = (s_lev2 cap lev inf).toInt - (s_evap cap eva lev inf).toInt := by
    unfold s_lev3
    exact ti_sub (by omega) (by omega)
  have hg := (u_hand_rng hn ho (A := s_avl cap flo eva lev inf) a0 (by omega) rul od).1
  have hh : (s_hand cap flo eva rul lev inf n od us).1 = (u_hand (s_avl cap flo eva lev inf) rul n od us).1 := rfl
  rw [← hh] at hg
  have e7 : (s_lev4 cap flo eva rul lev inf n od us).toInt = (s_lev3 cap eva lev inf).toInt - (s_hand cap flo eva rul lev inf n od us).1.toInt := by
    unfold s_lev4
    exact ti_sub (by omega) (by omega)
  have e8 : (s_mains cap flo top eva rul lev inf n od us).toInt = max (top.toInt - (s_lev4 cap flo eva rul lev inf n od us).toInt) 0 := by
    unfold s_mains
    rw [ti_max, ti_sub (by omega) (by omega), ti_0]
  have e9 : (s_lev5 cap flo top eva rul lev inf n od us).toInt = (s_lev4 cap flo eva rul lev inf n od us).toInt + (s_mains cap flo top eva rul lev inf n od us).toInt := by
    unfold s_lev5
    exact ti_add (by omega) (by omega)
  have ek : (s_lack cap flo eva rul lev inf n od us).toInt = (u_dem n us).toInt - (s_hand cap flo eva rul lev inf n od us).1.toInt ∧ 0 ≤ (u_dem n us).toInt ∧ (u_dem n us).toInt ≤ 150000 := by
    have hcol : u_col us (s_hand cap flo eva rul lev inf n od us).2 := u_col_hand _ _ _ _ _
    have hD1 := ti_isum (fun i => us i 0) n 30000 (by omega) (by omega) (fun i hi => (ho i hi).1)
    have hd : (u_dem n us).toInt = zsum (fun i => (us i 0).toInt) n := hD1.1
    have hd0 := zsum_nn (fun i => (us i 0).toInt) n (fun i hi => (ho i hi).1.1)
    refine ⟨?_, by omega, by omega⟩
    unfold s_lack
    rw [u_dem_col hcol]
    exact ti_sub (by omega) (by omega)
  refine ⟨?_, ?_, ?_, ?_, ?_, ?_, ?_, ?_⟩ <;> omega
