/-! Two plans: draining, a day, all days. -/
abbrev RS2 : Type := Int32 × UT
def d_F (i : Nat) (x : RS2) : RS2 := (x.1 + x.2 i 4, xup x.2 i (xup (x.2 i) 4 0))
def DP (k m : Nat) (x y : RS2) : Prop := x.1 = y.1 ∧ Tw k m x.2 y.2
theorem i32_00 : (0 : Int32) = 0 + 0 := by decide
theorem Tw_drain {k m : Nat} {rf rg : UT} (hT : Tw k m rf rg) : DP k m (it d_F (0, rf) k) (it d_F (0, rg) m) := by
  rcases hT with ⟨rfl, rfl⟩ | ⟨hk, rfl, hh, hrest⟩
  · exact ⟨rfl, Or.inl ⟨rfl, rfl⟩⟩
  · obtain ⟨d, rfl⟩ : ∃ d, k = 1 + d := ⟨k - 1, by omega⟩
    rw [show 1 + d + 1 = 2 + d by omega, it_app, it_app]
    have start : DP (1 + d) (2 + d) (it d_F (0, rf) 1) (it d_F (0, rg) 2) := by
      have q0 : (it d_F (0, rf) 1).2 0 = xup (rf 0) 4 0 := by
        show xup rf 0 (xup (rf 0) 4 0) 0 = _
        exact xup_self _ _ _
      have q1 : ∀ a, a ≠ 0 → (it d_F (0, rf) 1).2 a = rf a := fun a ha => xup_ne _ _ ha
      have p1 : (it d_F (0, rg) 2).2 1 = xup (rg 1) 4 0 := by
        show xup (xup rg 0 (xup (rg 0) 4 0)) 1 (xup (xup rg 0 (xup (rg 0) 4 0) 1) 4 0) 1 = _
        rw [xup_self, xup_ne _ _ (show (1 : Nat) ≠ 0 by decide)]
      have p0 : (it d_F (0, rg) 2).2 0 = xup (rg 0) 4 0 := by
        show xup (xup rg 0 (xup (rg 0) 4 0)) 1 (xup (xup rg 0 (xup (rg 0) 4 0) 1) 4 0) 0 = _
        rw [xup_ne _ _ (show (0 : Nat) ≠ 1 by decide), xup_self]
      have p2 : ∀ a, a ≠ 0 → a ≠ 1 → (it d_F (0, rg) 2).2 a = rg a := fun a ha hb => (xup_ne _ _ hb).trans (xup_ne _ _ ha)
      refine ⟨?_, Or.inr ⟨by omega, by omega, ⟨?_, ?_, ?_, ?_⟩, ?_⟩⟩
      · show (0 : Int32) + rf 0 4 = 0 + rg 0 4 + rg 1 4
        rw [hh.2.2.2 4 (by decide) (by decide), hh.2.2.1 4 (by decide)]; exact i32_h2 _ _
      · rw [q0, xup_ne _ _ (by decide)]; exact hh.1
      · rw [p0, xup_ne _ _ (by decide)]; exact hh.2.1
      · intro j hj
        rw [p0, p1]
        by_cases c4 : j = 4
        · subst c4; rw [xup_self, xup_self]
        · rw [xup_ne _ _ c4, xup_ne _ _ c4]; exact hh.2.2.1 j hj
      · intro j hj hj1
        rw [p0, q0]
        by_cases c4 : j = 4
        · subst c4; rw [xup_self, xup_self]; exact i32_00
        · rw [xup_ne _ _ c4, xup_ne _ _ c4]; exact hh.2.2.2 j hj hj1
      · intro i hi j hj
        rw [q1 _ (by omega), p2 _ (by omega) (by omega)]; exact hrest i hi j hj
    refine it_two (fun _ x y => DP (1 + d) (2 + d) x y) _ _ d start ?_
    rintro i ⟨xa, xr⟩ ⟨ya, yr⟩ hi ⟨p1, p4⟩
    simp only at p1 p4
    subst p1
    rcases p4 with ⟨f, -⟩ | ⟨-, -, q1, q2⟩
    · exact absurd f (by omega)
    · have hrow : ∀ j, j < 6 → xr (1 + i) j = yr (2 + i) j := fun j hj => by
        rw [show 1 + i = i + 1 by omega, show 2 + i = i + 2 by omega]
        exact q2 i (by omega) j hj
      have f1 : (d_F (1 + i) (xa, xr)).2 (1 + i) = xup (xr (1 + i)) 4 0 := xup_self _ _ _
      have g1 : (d_F (2 + i) (xa, yr)).2 (2 + i) = xup (yr (2 + i)) 4 0 := xup_self _ _ _
      have f0 : ∀ a, a ≠ 1 + i → (d_F (1 + i) (xa, xr)).2 a = xr a := fun a ha => xup_ne _ _ ha
      have g0 : ∀ a, a ≠ 2 + i → (d_F (2 + i) (xa, yr)).2 a = yr a := fun a ha => xup_ne _ _ ha
      refine ⟨?_, Or.inr ⟨by omega, by omega, ⟨?_, ?_, ?_, ?_⟩, ?_⟩⟩
      · show xa + xr (1 + i) 4 = xa + yr (2 + i) 4
        rw [hrow 4 (by decide)]
      · rw [f0 0 (by omega)]; exact q1.1
      · rw [g0 0 (by omega)]; exact q1.2.1
      · intro j hj
        rw [g0 0 (by omega), g0 1 (by omega)]; exact q1.2.2.1 j hj
      · intro j hj hj1
        rw [f0 0 (by omega), g0 0 (by omega)]; exact q1.2.2.2 j hj hj1
      · intro e he j hj
        by_cases ce : e = i
        · subst ce
          rw [show e + 1 = 1 + e by omega, show e + 2 = 2 + e by omega, f1, g1]
          by_cases c4 : j = 4
          · subst c4; rw [xup_self, xup_self]
          · rw [xup_ne _ _ c4, xup_ne _ _ c4]; exact hrow j hj
        · rw [f0 _ (by omega), g0 _ (by omega)]; exact q2 e he j hj
theorem Tw_drn {k m : Nat} {rf rg : UT} (hT : Tw k m rf rg) (lim dry rain : Int32) : DP k m (c_drn k lim dry rain rf) (c_drn m lim dry rain rg) := by
  unfold c_drn
  by_cases c0 : rain ≤ 0
  · rw [if_pos c0, if_pos c0]
    by_cases c1 : dry + 1 < lim
    · rw [if_pos c1, if_pos c1]; exact ⟨rfl, hT⟩
    · rw [if_neg c1, if_neg c1]; exact Tw_drain hT
  · rw [if_neg c0, if_neg c0]; exact ⟨rfl, hT⟩
/-- the roofs' day of both -/
theorem Tw_day {k m : Nat} {rf rg : UT} {rain : Int32} (hT : Tw k m rf rg) (ok1 : r_ok k rf) (ok2 : r_ok m rg) (hr : 0 ≤ rain.toInt ∧ rain.toInt ≤ 200) (lim dry : Int32) :
    (c_drn k lim dry rain rf).1 = (c_drn m lim dry rain rg).1 ∧ RP k m (c_day k lim dry rain rf) (c_day m lim dry rain rg) := by
  have h1 := Tw_drn hT lim dry rain
  exact ⟨h1.1, Tw_rfs hr ⟨rfl, rfl, rfl, h1.2, r_ok_drn ok1 lim dry rain, r_ok_drn ok2 lim dry rain⟩⟩
theorem g_rf_at {k i : Nat} {rf : UT} (hi : i < k) : g_rf k rf i = xup (xup (rf i) 4 0) 5 0 := by
  have e : g_rf k rf = u_map (fun _ r => xup (xup r 4 0) 5 0) k rf := it_map (fun _ r => xup (xup r 4 0) 5 0) k rf
  rw [e]
  simp only [u_map, if_pos hi]
/-- .. and of the roofs as they begin: of four numbers alone -/
theorem Tw_back {k m : Nat} {rf rg rf2 rg2 : UT} (hT : Tw k m rf rg) (h1 : R5 k rf rf2) (h2 : R5 m rg rg2) : Tw k m (g_rf k rf2) (g_rf m rg2) := by
  rcases hT with ⟨rfl, rfl⟩ | ⟨hk, rfl, hh, hrest⟩
  · exact Or.inl ⟨rfl, rfl⟩
  · have cl : ∀ (r s : Nat → Int32) (P : Int32 → Int32 → Prop), (P 0 0) → ∀ j, j < 6 → (j < 4 → P (r j) (s j)) → P (xup (xup r 4 0) 5 0 j) (xup (xup s 4 0) 5 0 j) := by
      intro r s P h0 j hj h4
      by_cases c5 : j = 5
      · subst c5; rw [xup_self, xup_self]; exact h0
      · rw [xup_ne _ _ c5, xup_ne _ _ c5]
        by_cases c4 : j = 4
        · subst c4; rw [xup_self, xup_self]; exact h0
        · rw [xup_ne _ _ c4, xup_ne _ _ c4]; exact h4 (by omega)
    refine Or.inr ⟨hk, rfl, ⟨?_, ?_, ?_, ?_⟩, ?_⟩
    · rw [g_rf_at (by omega), xup_ne _ _ (by decide), xup_ne _ _ (by decide), ← h1 0 (by omega) 1 (by decide)]; exact hh.1
    · rw [g_rf_at (by omega), xup_ne _ _ (by decide), xup_ne _ _ (by decide), ← h2 0 (by omega) 1 (by decide)]; exact hh.2.1
    · intro j hj
      rw [g_rf_at (by omega), g_rf_at (by omega)]
      exact cl _ _ (fun a b => a = b) rfl j hj (fun h4 => by rw [← h2 1 (by omega) j (by omega), ← h2 0 (by omega) j (by omega)]; exact hh.2.2.1 j hj)
    · intro j hj hj1
      rw [g_rf_at (by omega), g_rf_at (by omega)]
      exact cl _ _ (fun a b => a = b + b) i32_00 j hj (fun h4 => by rw [← h1 0 (by omega) j (by omega), ← h2 0 (by omega) j (by omega)]; exact hh.2.2.2 j hj hj1)
    · intro i hi j hj
      rw [g_rf_at (by omega), g_rf_at (by omega)]
      exact cl _ _ (fun a b => a = b) rfl j hj (fun h4 => by rw [← h1 (i + 1) (by omega) j (by omega), ← h2 (i + 2) (by omega) j (by omega)]; exact hrest i hi j hj)
theorem R5_rf {k : Nat} (rf : UT) : R5 k rf rf := fun _ _ _ _ => rfl
/-- all days of rain of both: inflows, and what is spilled -/
theorem Tw_tC {k m : Nat} {lim : Int32} {ra ra' : Nat → Int32} {rf rg : UT} {N : Nat} (hT : Tw k m rf rg) (ok1 : r_ok k rf) (ok2 : r_ok m rg) (e : ∀ d, d < N → ra d = ra' d) (hr : ∀ d, d < N → 0 ≤ (ra d).toInt ∧ (ra d).toInt ≤ 200) :
    ∀ d, d ≤ N → (t_C k lim ra rf d).1 = (t_C m lim ra' rg d).1 ∧ Tw k m (t_C k lim ra rf d).2 (t_C m lim ra' rg d).2 ∧ r_ok k (t_C k lim ra rf d).2 ∧ r_ok m (t_C m lim ra' rg d).2 := by
  intro d hd
  unfold t_C
  refine it_two (fun _ (x y : Int32 × UT) => x.1 = y.1 ∧ Tw k m x.2 y.2 ∧ r_ok k x.2 ∧ r_ok m y.2) _ _ d ⟨rfl, hT, ok1, ok2⟩ ?_
  rintro i ⟨a, u⟩ ⟨b, v⟩ hi ⟨h1, h2, h3, h4⟩
  simp only at h1 h2 h3 h4 ⊢
  subst h1
  rw [← e i (by omega)]
  obtain ⟨-, g1, g2, g3, g4, g5, g6⟩ := Tw_day h2 h3 h4 (hr i (by omega)) lim a
  exact ⟨rfl, g4, g5, g6⟩
theorem Tw_inf {k m : Nat} {lim : Int32} {ra ra' : Nat → Int32} {rf rg : UT} {N : Nat} (hT : Tw k m rf rg) (ok1 : r_ok k rf) (ok2 : r_ok m rg) (e : ∀ d, d < N → ra d = ra' d) (hr : ∀ d, d < N → 0 ≤ (ra d).toInt ∧ (ra d).toInt ≤ 200) {d : Nat} (hd : d < N) : t_inf k lim ra rf d = t_inf m lim ra' rg d := by
  obtain ⟨h1, h2, h3, h4⟩ := Tw_tC (lim := lim) hT ok1 ok2 e hr d (by omega)
  unfold t_inf
  rw [← e d hd, ← h1]
  exact (Tw_day h2 h3 h4 (hr d hd) lim _).2.1
theorem r_spl_le {k : Nat} {rf : UT} {i : Nat} {rain : Int32} (h : r_ok k rf) (hi : i < k) (hr : 0 ≤ rain.toInt ∧ rain.toInt ≤ 200) : 0 ≤ (r_spl rf i rain).toInt ∧ (r_spl rf i rain).toInt ≤ 100000 := by
  have hd := r_day h hi hr
  have hc := r_cat_ti h hi hr
  have h0 := h i hi
  have h1 := hd.1.1
  have h2 := hd.2.1
  omega
/-- what is spilled at a roof on a day -/
theorem c_rfs_5 {k : Nat} {rf : UT} {rain : Int32} {X : Int} (ok : r_ok k rf) (hr : 0 ≤ rain.toInt ∧ rain.toInt ≤ 200) (hX : X ≤ 100000000) (a b c : Int32) (hs : ∀ i, i < k → 0 ≤ (rf i 5).toInt ∧ (rf i 5).toInt ≤ X) :
    ∀ i, i < k → 0 ≤ ((c_rfs k rain (a, b, c, rf)).2.2.2 i 5).toInt ∧ ((c_rfs k rain (a, b, c, rf)).2.2.2 i 5).toInt ≤ X + 100000 := by
  have key : r_ok k (c_rfs k rain (a, b, c, rf)).2.2.2 ∧ ∀ i, i < k → 0 ≤ ((c_rfs k rain (a, b, c, rf)).2.2.2 i 5).toInt ∧ ((c_rfs k rain (a, b, c, rf)).2.2.2 i 5).toInt ≤ if i < k then X + 100000 else X := by
    rw [c_rfs_F]
    refine it_inv (fun e (x : RS4) => r_ok k x.2.2.2 ∧ ∀ i, i < k → 0 ≤ (x.2.2.2 i 5).toInt ∧ (x.2.2.2 i 5).toInt ≤ if i < e then X + 100000 else X) _ k ⟨ok, fun i hi => ?_⟩ ?_
    · rw [if_neg (Nat.not_lt_zero _)]; exact hs i hi
    · rintro e ⟨xa, xb, xc, xr⟩ he ⟨h1, h2⟩
      simp only at h1 h2
      refine ⟨r_new_ok h1 he hr, fun i hi => ?_⟩
      show 0 ≤ (r_new xr e rain i 5).toInt ∧ (r_new xr e rain i 5).toInt ≤ _
      have g := h2 i hi
      by_cases ce : i = e
      · subst ce
        rw [if_neg (Nat.lt_irrefl _)] at g
        have gs := r_spl_le h1 he hr
        have e1 : r_new xr i rain i 5 = xr i 5 + r_spl xr i rain := by unfold r_new; rw [xup_self, xup_self]
        rw [e1, ti_add (by omega) (by omega), if_pos (by omega)]; omega
      · have e1 : r_new xr e rain i = xr i := xup_ne _ _ ce
        rw [e1]
        by_cases c1 : i < e
        · rw [if_pos c1] at g; rw [if_pos (by omega)]; exact g
        · rw [if_neg c1] at g; rw [if_neg (by omega)]; exact g
  intro i hi
  have := key.2 i hi
  rw [if_pos hi] at this
  exact this
theorem c_drn_5 (k : Nat) (lim dry rain : Int32) (rf : UT) (i : Nat) : (c_drn k lim dry rain rf).2 i 5 = rf i 5 := (R5_drn (R5_rf (k := k) rf) lim dry rain).2.2 i
theorem t_C_5 {k : Nat} {lim : Int32} {ra : Nat → Int32} {rf : UT} {N : Nat} (ok : r_ok k rf) (hN : N ≤ 100) (hr : ∀ d, d < N → 0 ≤ (ra d).toInt ∧ (ra d).toInt ≤ 200) (h0 : ∀ i, i < k → rf i 5 = 0) :
    ∀ i, i < k → 0 ≤ ((t_C k lim ra rf N).2 i 5).toInt ∧ ((t_C k lim ra rf N).2 i 5).toInt ≤ 10000000 := by
  have key : r_ok k (t_C k lim ra rf N).2 ∧ ∀ i, i < k → 0 ≤ ((t_C k lim ra rf N).2 i 5).toInt ∧ ((t_C k lim ra rf N).2 i 5).toInt ≤ 100000 * (N : Int) := by
    unfold t_C
    refine it_inv (fun d (x : Int32 × UT) => r_ok k x.2 ∧ ∀ i, i < k → 0 ≤ (x.2 i 5).toInt ∧ (x.2 i 5).toInt ≤ 100000 * (d : Int)) _ N ⟨ok, fun i hi => ?_⟩ ?_
    · show 0 ≤ (rf i 5).toInt ∧ (rf i 5).toInt ≤ 100000 * ((0 : Nat) : Int)
      rw [h0 i hi, ti_0]; omega
    · rintro d ⟨a, u⟩ hd ⟨h1, h2⟩
      simp only at h1 h2 ⊢
      have okd := r_ok_drn h1 lim a (ra d)
      have h3 := c_rfs_5 (X := 100000 * (d : Int)) okd (hr d hd) (by omega) 0 0 0 (fun i hi => by rw [c_drn_5]; exact h2 i hi)
      refine ⟨?_, fun i hi => ?_⟩
      · have h4 : r_ok k (c_rfs k (ra d) (0, 0, 0, (c_drn k lim a (ra d) u).2)).2.2.2 := by
          rw [c_rfs_F]
          exact it_inv (fun _ (x : RS4) => r_ok k x.2.2.2) _ k okd (fun i x hi hx => r_new_ok hx hi (hr d hd))
        exact h4
      · have h5 := h3 i hi
        refine ⟨h5.1, ?_⟩
        have h6 : ((c_day k lim a (ra d) u).2.2.2 i 5).toInt ≤ 100000 * (d : Int) + 100000 := h5.2
        omega
  intro i hi
  have := key.2 i hi
  omega
