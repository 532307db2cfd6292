/-! A day of the model, whole. -/
def s_cfg (cap flo top eva lev : Int32) : Prop := (100 ≤ cap.toInt ∧ cap.toInt ≤ 60000) ∧ (0 ≤ flo.toInt ∧ flo.toInt ≤ cap.toInt) ∧ (0 ≤ top.toInt ∧ top.toInt ≤ cap.toInt) ∧ (0 ≤ eva.toInt ∧ eva.toInt ≤ 100) ∧ 0 ≤ lev.toInt ∧ lev.toInt ≤ cap.toInt
/-- the numbers of a day's second half -/
theorem s_rng {cap flo top eva rul lev inf : Int32} {n : Nat} {us : UT} (hn : n ≤ 5) (ho : u_ok n us) (hc : s_cfg cap flo top eva lev) (hi : 0 ≤ inf.toInt ∧ inf.toInt ≤ 1000000) (od : Nat → Int32) :
    ((lev + inf).toInt = lev.toInt + inf.toInt ∧ 0 ≤ (s_lev3 cap eva lev inf).toInt ∧ (s_lev3 cap eva lev inf).toInt ≤ cap.toInt) ∧
    (0 ≤ (s_avl cap flo eva lev inf).toInt ∧ (s_avl cap flo eva lev inf).toInt ≤ 60000) ∧ (0 ≤ (s_lev4 cap flo eva rul lev inf n od us).toInt ∧ (s_lev4 cap flo eva rul lev inf n od us).toInt ≤ cap.toInt) ∧
    (0 ≤ (s_lev5 cap flo top eva rul lev inf n od us).toInt ∧ (s_lev5 cap flo top eva rul lev inf n od us).toInt ≤ cap.toInt) := by
  obtain ⟨c1, c2, c3, c4, c5⟩ := hc
  have e1 : (lev + inf).toInt = lev.toInt + inf.toInt := ti_add (by omega) (by omega)
  have e2 : (s_over cap lev inf).toInt = max (lev.toInt + inf.toInt - cap.toInt) 0 := by
    unfold s_over
    rw [ti_max, ti_sub (by rw [e1]; omega) (by rw [e1]; omega), e1, ti_0]
  have e3 : (s_lev2 cap lev inf).toInt = min (lev.toInt + inf.toInt) cap.toInt := by
    have : s_lev2 cap lev inf = (lev + inf) - s_over cap lev inf := rfl
    rw [this, ti_sub (by rw [e1, e2]; omega) (by rw [e1, e2]; omega), e1, e2]; omega
  have m0 : 0 ≤ (s_lev2 cap lev inf).toInt * eva.toInt := Int.mul_nonneg (by omega) c4.1
  have m1 : (s_lev2 cap lev inf).toInt * eva.toInt ≤ (s_lev2 cap lev inf).toInt * 100 := Int.mul_le_mul_of_nonneg_left c4.2 (by omega)
  have e4 : (s_evap cap eva lev inf).toInt = (s_lev2 cap lev inf).toInt * eva.toInt / 1000 := by
    unfold s_evap
    have m2 : (s_lev2 cap lev inf * eva).toInt = (s_lev2 cap lev inf).toInt * eva.toInt := ti_mul (by omega) (by omega)
    rw [ti_div (by rw [m2]; omega) (by decide), m2]; rfl
  have e5 : (s_lev3 cap eva lev inf).toInt = (s_lev2 cap lev inf).toInt - (s_evap cap eva lev inf).toInt := by
    unfold s_lev3
    exact ti_sub (by omega) (by omega)
  have e6 : (s_avl cap flo eva lev inf).toInt = max ((s_lev3 cap eva lev inf).toInt - flo.toInt) 0 := by
    unfold s_avl
    rw [ti_max, ti_sub (by omega) (by omega), ti_0]
  have hg := (u_hand_rng hn ho (A := s_avl cap flo eva lev inf) (by omega) (by omega) rul od).1
  have e7 : (s_lev4 cap flo eva rul lev inf n od us).toInt = (s_lev3 cap eva lev inf).toInt - (u_hand (s_avl cap flo eva lev inf) rul n od us).1.toInt := by
    unfold s_lev4 s_hand
    exact ti_sub (by omega) (by omega)
  have e8 : (s_mains cap flo top eva rul lev inf n od us).toInt = max (top.toInt - (s_lev4 cap flo eva rul lev inf n od us).toInt) 0 := by
    unfold s_mains
    rw [ti_max, ti_sub (by omega) (by omega), ti_0]
  have e9 : (s_lev5 cap flo top eva rul lev inf n od us).toInt = (s_lev4 cap flo eva rul lev inf n od us).toInt + (s_mains cap flo top eva rul lev inf n od us).toInt := by
    unfold s_lev5
    exact ti_add (by omega) (by omega)
  refine ⟨⟨e1, ?_, ?_⟩, ⟨?_, ?_⟩, ⟨?_, ?_⟩, ?_, ?_⟩ <;> omega
theorem r_ok_drn {k : Nat} {rf : UT} (h : r_ok k rf) (lim dry rain : Int32) : r_ok k (c_drn k lim dry rain rf).2 := by
  unfold c_drn
  split
  · split
    · exact h
    · refine it_inv (fun _ (x : Int32 × UT) => r_ok k x.2) _ k h ?_
      intro i x hi hx j hj
      show (((1 ≤ (xup x.2 i (xup (x.2 i) 4 0) j 0).toInt ∧ (xup x.2 i (xup (x.2 i) 4 0) j 0).toInt ≤ 500) ∧ (1 ≤ (xup x.2 i (xup (x.2 i) 4 0) j 1).toInt ∧ (xup x.2 i (xup (x.2 i) 4 0) j 1).toInt ≤ 100) ∧ (0 ≤ (xup x.2 i (xup (x.2 i) 4 0) j 2).toInt ∧ (xup x.2 i (xup (x.2 i) 4 0) j 2).toInt ≤ 999) ∧ (1 ≤ (xup x.2 i (xup (x.2 i) 4 0) j 3).toInt ∧ (xup x.2 i (xup (x.2 i) 4 0) j 3).toInt ≤ 50000)) ∧ 0 ≤ (xup x.2 i (xup (x.2 i) 4 0) j 4).toInt ∧ (xup x.2 i (xup (x.2 i) 4 0) j 4).toInt ≤ (xup x.2 i (xup (x.2 i) 4 0) j 2).toInt)
      have h0 := hx j hj
      by_cases c : j = i
      · subst c
        rw [xup_self, xup_ne _ _ (show (0 : Nat) ≠ 4 by decide), xup_ne _ _ (show (1 : Nat) ≠ 4 by decide), xup_ne _ _ (show (2 : Nat) ≠ 4 by decide), xup_ne _ _ (show (3 : Nat) ≠ 4 by decide), xup_self, ti_0]
        omega
      · rw [xup_ne _ _ c]; exact h0
  · exact h
theorem i32_0add (a : Int32) : 0 + a = a := by rw [Int32.zero_add]
theorem xmax_if2 {a b : Int32} (h1 : -2147483648 ≤ b.toInt - a.toInt) (h2 : b.toInt - a.toInt < 2147483648) : (if b ≤ a then (0 : Int32) else b - a) = xmax (b - a) 0 := xmax_if h1 h2
theorem m_v4z (x a b c : Int32) : m_v3 (xup (fun _ => 0) 9 x) a b c 4 = 0 ∧ m_v3 (xup (fun _ => 0) 9 x) a b c 5 = 0 ∧ m_v3 (xup (fun _ => 0) 9 x) a b c 6 = 0 ∧ m_v3 (xup (fun _ => 0) 9 x) a b c 7 = 0 ∧ m_v3 (xup (fun _ => 0) 9 x) a b c 8 = 0 ∧ m_v3 (xup (fun _ => 0) 9 x) a b c 0 = 0 := ⟨rfl, rfl, rfl, rfl, rfl, rfl⟩
theorem m_v3_z {v : Nat → Int32} (h1 : v 1 = 0) (h2 : v 2 = 0) (h3 : v 3 = 0) : m_v3 v 0 0 0 = v := by
  funext j
  unfold m_v3 xup
  by_cases c3 : j = 3
  · subst c3; simp [h3]
  · by_cases c2 : j = 2
    · subst c2; simp [h2]
    · by_cases c1 : j = 1
      · subst c1; simp [h1]
      · simp [c1, c2, c3]
/-- the roofs' part of a day in the model -/
def m_day (k : Nat) (lim dry rain : Int32) (rf : UT) (sp : Nat → Int64) : MR := m_rfs k rain (0, 0, 0, (c_drn k lim dry rain rf).2, sp)
theorem m_rfs_rng {k : Nat} {rain : Int32} {rf : UT} {sp : Nat → Int64} (hk : k ≤ 6) (h : r_ok k rf) (hr : 0 ≤ rain.toInt ∧ rain.toInt ≤ 200) (m : Nat) (hm : m ≤ k) :
    r_ok k (m_rfs m rain (0, 0, 0, rf, sp)).2.2.2.1 ∧ 0 ≤ (m_rfs m rain (0, 0, 0, rf, sp)).1.toInt ∧ (m_rfs m rain (0, 0, 0, rf, sp)).1.toInt ≤ 100000 * m := by
  refine it_inv (fun i (x : MR) => r_ok k x.2.2.2.1 ∧ 0 ≤ x.1.toInt ∧ x.1.toInt ≤ 100000 * i) _ m ⟨h, by simp [ti_0], by simp [ti_0]⟩ ?_
  rintro i ⟨a, b, c, v, q⟩ hi ⟨h1, h2, h3⟩
  simp only at h1 h2 h3 ⊢
  have hd := r_day h1 (show i < k by omega) hr
  have hc := r_cat_ti h1 (show i < k by omega) hr
  have h0 := h1 i (by omega)
  refine ⟨r_newm_ok h1 (by omega) hr, ?_, ?_⟩ <;> rw [ti_add (by rw [hd.2.2.1]; omega) (by rw [hd.2.2.1]; omega), hd.2.2.1] <;> omega
section PS9
variable {b : Nat} {W : XH} {cap flo top eva lim rul rc uc rn dn lev dry ap : Int32} {rf us : Nat → Nat → Int32} {ra ac sv as : Nat → Int32} {sm th : Int32} {sd : Int64} {td : Int32} {sp : Nat → Int64} {lf : Int32} {tx : Nat → Int32} {tl pl nb : Int32}
variable {fu n k d : Nat}
theorem p_X6_does (hk : k ≤ 6) (hn : n ≤ 5) (hf : 600010 < fu) (hd : d < 100) (hr : r_ok k rf) (ho : u_ok n us) (hc : s_cfg cap flo top eva lev) (hra : 0 ≤ (ra d).toInt ∧ (ra d).toInt ≤ 200) (od : Nat → Int32) :
    ∃ v : Nat → Int32, f_X6_does fu (hm b W cap flo top eva lim rul (nI k) (nI n) rn (nI d) lev dry ap rf us ra ac sv as sm th sd td sp lf tx tl pl nb) b = some (xb01 (s_avl cap flo eva lev (m_day k lim dry (ra d) rf sp).1 < u_dem n us),
      hm b W cap flo top eva lim rul (nI k) (nI n) rn (nI (d + 1)) (s_lev5 cap flo top eva rul lev (m_day k lim dry (ra d) rf sp).1 n od us) (c_dry dry (ra d)) ap (m_day k lim dry (ra d) rf sp).2.2.2.1 (s_hand cap flo eva rul lev (m_day k lim dry (ra d) rf sp).1 n od us).2 ra (aday ac d v) sv as sm th sd (nI d) (m_day k lim dry (ra d) rf sp).2.2.2.2 (s_avl cap flo eva lev (m_day k lim dry (ra d) rf sp).1 - (s_hand cap flo eva rul lev (m_day k lim dry (ra d) rf sp).1 n od us).1) tx tl pl nb) ∧
      (v 0 = s_lev5 cap flo top eva rul lev (m_day k lim dry (ra d) rf sp).1 n od us ∧ v 1 = (m_day k lim dry (ra d) rf sp).1 ∧ v 2 = (m_day k lim dry (ra d) rf sp).2.1 ∧ v 3 = (m_day k lim dry (ra d) rf sp).2.2.1 ∧ v 4 = s_over cap lev (m_day k lim dry (ra d) rf sp).1 ∧
      v 5 = s_evap cap eva lev (m_day k lim dry (ra d) rf sp).1 ∧ v 6 = (s_hand cap flo eva rul lev (m_day k lim dry (ra d) rf sp).1 n od us).1 ∧ v 7 = u_dem n us - (s_hand cap flo eva rul lev (m_day k lim dry (ra d) rf sp).1 n od us).1 ∧ v 8 = s_mains cap flo top eva rul lev (m_day k lim dry (ra d) rf sp).1 n od us ∧ v 9 = (c_drn k lim dry (ra d) rf).1) := by
  have hf6 : 6 < fu := by omega
  have hdry : (if ra d = 0 then dry + 1 else 0) = c_dry dry (ra d) := by
    unfold c_dry
    by_cases z : ra d = 0
    · rw [if_pos z, if_pos (by rw [z]; exact Int32.le_refl _)]
    · rw [if_neg z, if_neg (fun h => z (ti_ext (by rw [ti_le] at h; rw [ti_0] at h ⊢; omega)))]
  have hdr : (if ra d = 0 then (if c_dry dry (ra d) < lim then some (hm b W cap flo top eva lim rul (nI k) (nI n) rn (nI d) lev (c_dry dry (ra d)) ap rf us ra (aday ac d (fun _ => 0)) sv as sm th sd (nI d) sp lf tx tl pl nb) else obind1 (f_X6_drains fu (hm b W cap flo top eva lim rul (nI k) (nI n) rn (nI d) lev (c_dry dry (ra d)) ap rf us ra (aday ac d (fun _ => 0)) sv as sm th sd (nI d) sp lf tx tl pl nb) b) fun h7 => some h7) else some (hm b W cap flo top eva lim rul (nI k) (nI n) rn (nI d) lev (c_dry dry (ra d)) ap rf us ra (aday ac d (fun _ => 0)) sv as sm th sd (nI d) sp lf tx tl pl nb)) =
      some (hm b W cap flo top eva lim rul (nI k) (nI n) rn (nI d) lev (c_dry dry (ra d)) ap (c_drn k lim dry (ra d) rf).2 us ra (aday ac d (m_v3 (xup (fun _ => 0) 9 (c_drn k lim dry (ra d) rf).1) 0 0 0)) sv as sm th sd (nI d) sp lf tx tl pl nb) := by
    have hv3 : ∀ x : Int32, m_v3 (xup (fun _ => 0) 9 x) 0 0 0 = xup (fun _ => 0) 9 x := fun x => m_v3_z rfl rfl rfl
    have hv0 : (xup (fun _ => 0) 9 0 : Nat → Int32) = fun _ => 0 := xup_id (fun _ => (0 : Int32)) 9
    rw [hv3]
    unfold c_drn c_dry
    by_cases z : ra d = 0
    · have z2 : ra d ≤ 0 := by rw [z]; exact Int32.le_refl _
      rw [if_pos z, if_pos z2, if_pos z2]
      by_cases c : dry + 1 < lim
      · rw [if_pos c, if_pos c, hv0]
      · rw [if_neg c, if_neg c, p_X6_drains hk hf6 hd rfl, obind1_some]
    · have z2 : ¬ ra d ≤ 0 := fun h => z (ti_ext (by rw [ti_le] at h; rw [ti_0] at h ⊢; omega))
      rw [if_neg z, if_neg z2, if_neg z2, hv0]
  have hrd : r_ok k (c_drn k lim dry (ra d) rf).2 := r_ok_drn hr lim dry (ra d)
  have hmr := m_rfs_rng (sp := sp) hk hrd hra k (Nat.le_refl k)
  have hmd : m_rfs k (ra d) (0, 0, 0, (c_drn k lim dry (ra d) rf).2, sp) = m_day k lim dry (ra d) rf sp := rfl
  rw [hmd] at hmr
  have hsr := s_rng (rul := rul) hn ho hc (inf := (m_day k lim dry (ra d) rf sp).1) (by omega) od
  have hcc := hc
  obtain ⟨c1, c2, c3, c4, c5⟩ := hc
  refine ⟨xup (xup (xup (xup (xup (xup (m_v3 (xup (fun _ => 0) 9 (c_drn k lim dry (ra d) rf).1) (m_day k lim dry (ra d) rf sp).1 (m_day k lim dry (ra d) rf sp).2.1 (m_day k lim dry (ra d) rf sp).2.2.1) 4 (s_over cap lev (m_day k lim dry (ra d) rf sp).1)) 5 (s_evap cap eva lev (m_day k lim dry (ra d) rf sp).1)) 6 (s_hand cap flo eva rul lev (m_day k lim dry (ra d) rf sp).1 n od us).1) 7 (u_dem n us - (s_hand cap flo eva rul lev (m_day k lim dry (ra d) rf sp).1 n od us).1)) 8 (s_mains cap flo top eva rul lev (m_day k lim dry (ra d) rf sp).1 n od us)) 0 (s_lev5 cap flo top eva rul lev (m_day k lim dry (ra d) rf sp).1 n od us), ?_, ?_⟩
  · unfold f_X6_does
    simp only [gm_r1, gm_dn, Option.bind_some, sm_td]
    rw [xloop_E (fun w a => (nI w, hm b W cap flo top eva lim rul (nI k) (nI n) rn (nI d) lev dry ap rf us ra a sv as sm th sd (nI d) sp lf tx tl pl nb)) (fun w a => xup a (d * 10 + w) 0) (fun a => hm b W cap flo top eva lim rul (nI k) (nI n) rn (nI d) lev dry ap rf us ra a sv as sm th sd (nI d) sp lf tx tl pl nb) 10 ac ?h0 ?hs ?he ?hf]
    · rw [aday_clr, obind1_some]
      simp only [gm_r1, gm_td, Option.bind_some, ix_ra, gm_ra hd, gm_dry, obind1_ite, hdry, tm_dry, gm_lim, gm_is]
      rw [hdr, obind1_some]
      rw [xloop_I (fun i (x : MR) => r_ok k x.2.2.2.1) (fun i (x : MR) => (nI i, hm b W cap flo top eva lim rul (nI k) (nI n) rn (nI d) lev (c_dry dry (ra d)) ap x.2.2.2.1 us ra (aday ac d (m_v3 (xup (fun _ => 0) 9 (c_drn k lim dry (ra d) rf).1) x.1 x.2.1 x.2.2.1)) sv as sm th sd (nI d) x.2.2.2.2 lf tx tl pl nb)) (fun i x => (x.1 + (r_cat x.2.2.2.1 i (ra d) - r_tak x.2.2.2.1 i (ra d) - r_spl x.2.2.2.1 i (ra d)), x.2.1 + r_tak x.2.2.2.1 i (ra d), x.2.2.1 + r_spl x.2.2.2.1 i (ra d), r_newm x.2.2.2.1 i (ra d), xup x.2.2.2.2 i (x.2.2.2.2 i + Int32.toInt64 (r_spl x.2.2.2.1 i (ra d))))) (fun (x : MR) => hm b W cap flo top eva lim rul (nI k) (nI n) rn (nI d) lev (c_dry dry (ra d)) ap x.2.2.2.1 us ra (aday ac d (m_v3 (xup (fun _ => 0) 9 (c_drn k lim dry (ra d) rf).1) x.1 x.2.1 x.2.2.1)) sv as sm th sd (nI d) x.2.2.2.2 lf tx tl pl nb) k (0, 0, 0, (c_drn k lim dry (ra d) rf).2, sp) ?g0 ?gi ?gs ?ge ?gf]
      · show obind1 (some (hm b W cap flo top eva lim rul (nI k) (nI n) rn (nI d) lev (c_dry dry (ra d)) ap (m_day k lim dry (ra d) rf sp).2.2.2.1 us ra (aday ac d (m_v3 (xup (fun _ => 0) 9 (c_drn k lim dry (ra d) rf).1) (m_day k lim dry (ra d) rf sp).1 (m_day k lim dry (ra d) rf sp).2.1 (m_day k lim dry (ra d) rf sp).2.2.1)) sv as sm th sd (nI d) (m_day k lim dry (ra d) rf sp).2.2.2.2 lf tx tl pl nb)) _ = _
        generalize m_day k lim dry (ra d) rf sp = R at *
        obtain ⟨inf, dv, spl, rf2, sp2⟩ := R
        simp only at hmr hsr ⊢
        have t1 : (if lev + inf ≤ cap then (0 : Int32) else lev + inf - cap) = s_over cap lev inf := xmax_if (by omega) (by omega)
        have t2 : lev + inf - s_over cap lev inf = s_lev2 cap lev inf := rfl
        have t3 : s_lev2 cap lev inf * eva / 1000 = s_evap cap eva lev inf := rfl
        have t4 : s_lev2 cap lev inf - s_evap cap eva lev inf = s_lev3 cap eva lev inf := rfl
        have t5 : (if s_lev3 cap eva lev inf ≤ flo then (0 : Int32) else s_lev3 cap eva lev inf - flo) = s_avl cap flo eva lev inf := xmax_if (by omega) (by omega)
        have t6 : u_hand (s_avl cap flo eva lev inf) rul n od us = s_hand cap flo eva rul lev inf n od us := rfl
        have t7 : s_lev3 cap eva lev inf - (s_hand cap flo eva rul lev inf n od us).1 = s_lev4 cap flo eva rul lev inf n od us := rfl
        have t8 : (if top ≤ s_lev4 cap flo eva rul lev inf n od us then (0 : Int32) else top - s_lev4 cap flo eva rul lev inf n od us) = s_mains cap flo top eva rul lev inf n od us := xmax_if2 (by omega) (by omega)
        have t9 : s_lev4 cap flo eva rul lev inf n od us + s_mains cap flo top eva rul lev inf n od us = s_lev5 cap flo top eva rul lev inf n od us := rfl
        have hcell : ∀ w : Nat, w < 10 → d * 10 + w < 1000 := fun w hw => by omega
        simp only [obind1_some, gm_r1, gm_lev, gm_td, Option.bind_some, ix_ac d (show (1 : Int32) = nI 1 from rfl), gm_ac (hcell 1 (by decide)), aday_at _ _ _ (show 1 < 10 by decide), show m_v3 (xup (fun _ => 0) 9 (c_drn k lim dry (ra d) rf).1) inf dv spl 1 = inf from rfl, olet, gm_cap, obind1_ite, t1, gm_is, p_X6_tellsA (w := 4) (x := 4) rfl (by decide) hd, t2, gm_eva, t3, p_X6_tellsA (w := 5) (x := 5) rfl (by decide) hd, t4, gm_flo, t5]
        rw [p_X6_shares hn hf ho hsr.2.1.1 (by omega) od hd, t6, obind2_some]
        simp only [aday_at _ _ _ (show 6 < 10 by decide), aday_at _ _ _ (show 7 < 10 by decide), aday_up _ _ _ (show 6 < 10 by decide), aday_up _ _ _ (show 7 < 10 by decide)]
        simp only [gm_r1, gm_td, Option.bind_some, ix_ac d (show (6 : Int32) = nI 6 from rfl), gm_ac (hcell 6 (by decide)), aday_at _ _ _ (show 6 < 10 by decide), xup_ne _ _ (show (5 : Nat) ≠ 4 by decide), xup_ne _ _ (show (5 : Nat) ≠ 6 by decide), xup_ne _ _ (show (5 : Nat) ≠ 7 by decide), xup_ne _ _ (show (5 : Nat) ≠ 8 by decide), xup_ne _ _ (show (6 : Nat) ≠ 4 by decide), xup_ne _ _ (show (6 : Nat) ≠ 5 by decide), xup_ne _ _ (show (6 : Nat) ≠ 7 by decide), xup_ne _ _ (show (6 : Nat) ≠ 8 by decide), xup_ne _ _ (show (7 : Nat) ≠ 4 by decide), xup_ne _ _ (show (7 : Nat) ≠ 5 by decide), xup_ne _ _ (show (7 : Nat) ≠ 6 by decide), xup_ne _ _ (show (7 : Nat) ≠ 8 by decide), xup_ne _ _ (show (8 : Nat) ≠ 4 by decide), xup_ne _ _ (show (8 : Nat) ≠ 5 by decide), xup_ne _ _ (show (8 : Nat) ≠ 6 by decide), xup_ne _ _ (show (8 : Nat) ≠ 7 by decide), xup_ne _ _ (show (0 : Nat) ≠ 4 by decide), xup_ne _ _ (show (0 : Nat) ≠ 5 by decide), xup_ne _ _ (show (0 : Nat) ≠ 6 by decide), xup_ne _ _ (show (0 : Nat) ≠ 7 by decide), xup_ne _ _ (show (0 : Nat) ≠ 8 by decide), xup_self, m_v4z, i32_0add, olet, t7, gm_top, obind1_ite, t8, gm_is, p_X6_tellsA (w := 8) (x := 8) rfl (by decide) hd, obind1_some, t9, tm_lev, gm_lev, p_X6_tellsA (w := 0) (x := 0) rfl (by decide) hd, gm_dn, tm_dn, xnI_s, xbool_01]
      case g0 => rfl
      case gf => omega
      case gi => exact hrd
      case gs =>
        rintro i ⟨x1, x2, x3, v, q⟩ hi hx
        simp only at hx ⊢
        have hle : ¬ nI k ≤ nI i := nI_ge hi (by omega)
        refine ⟨?_, r_newm_ok hx hi hra⟩
        simp only [xf2, gm_r1, gm_rc, Option.bind_some, if_neg hle, gm_is, p_X6_flows hi hk hd hx hra, obind2_some, p_X6_tellsA (w := 1) (x := 1) rfl (by decide) hd, obind1_some, m_v3_1, olet, xnI_s]
        rfl
      case ge =>
        intro x _
        simp only [xf2, gm_r1, gm_rc, Option.bind_some, Int32.le_refl, if_true]
    case h0 => rfl
    case hf => omega
    case hs =>
      intro w a hw
      have hle : ¬ (10 : Int32) ≤ nI w := nI_ge (b := 10) hw (by decide)
      simp only [xf2, if_neg hle, gm_r1, gm_td, Option.bind_some, ix_ac d (show nI w = nI w from rfl), tm_ac (show d * 10 + w < 1000 by omega), olet, xnI_s]
    case he =>
      intro a
      simp only [xf2, show (10 : Int32) ≤ nI 10 from Int32.le_refl _, if_true]
  · refine ⟨?_, ?_, ?_, ?_, ?_, ?_, ?_, ?_, ?_, ?_⟩ <;> simp [xup, m_v3]
end PS9
