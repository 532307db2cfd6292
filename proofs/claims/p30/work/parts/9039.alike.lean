/-! What-if questions of two plans: the same answers. -/
section PW42
variable {cap flo top eva lim rul : Int32} {k m n N : Nat} {ra rb : Nat → Int32} {rf rg rf2 rg2 us vs : UT}
theorem A_inf (hT : Tw k m rf rg) (ok1 : r_ok k rf) (ok2 : r_ok m rg) (e : ∀ d, d < N → ra d = rb d) (hr : ∀ d, d < N → 0 ≤ (ra d).toInt ∧ (ra d).toInt ≤ 200) (h1 : R5 k rf rf2) (h2 : R5 m rg rg2) : ∀ d, d < N → t_inf k lim ra (g_rf k rf2) d = t_inf m lim rb (g_rf m rg2) d :=
  fun d hd => Tw_inf (Tw_back hT h1 h2) (g_rf_ok (R5_ok h1 ok1)) (g_rf_ok (R5_ok h2 ok2)) e hr hd
theorem A_cnt {inf inf' : Nat → Int32} (hn : n ≤ 5) (e : ∀ d, d < N → inf d = inf' d) (hU : U4 n us vs) : (t_S cap flo top eva rul n inf (u_clr n us) N).2.2 = (t_S cap flo top eva rul n inf' (u_clr n vs) N).2.2 :=
  (it_tS hn (U4_clr hU) e).2.2
theorem A_best {inf inf' : Nat → Int32} (hn : n ≤ 5) (e : ∀ d, d < N → inf d = inf' d) (hU : U4 n us vs) : LK cap flo top eva n N inf us = LK cap flo top eva n N inf' vs := by
  funext r
  exact b_most_eq (it_tS hn (U4_clr hU) e).2.1
theorem U4_scu (hU : U4 n us vs) (p : Int32) : U4 n (scu p us) (scu p vs) := by
  intro i hi j hj
  unfold scu
  by_cases c : j = 0
  · rw [if_pos c, if_pos c, hU i hi 0 (by decide)]
  · rw [if_neg c, if_neg c]; exact hU i hi j hj
theorem A_sust {inf inf' : Nat → Int32} (hn : n ≤ 5) (e : ∀ d, d < N → inf d = inf' d) (hU : U4 n us vs) (p : Int32) : SUs cap flo top eva rul n N inf us p = SUs cap flo top eva rul n N inf' vs p :=
  A_cnt hn e (U4_scu hU p)
theorem least_eq {P Q : Nat → Prop} (hPQ : ∀ i, P i ↔ Q i) {M i i' : Nat} (h1 : i ≤ M) (h2 : i' ≤ M) (a1 : i < M → P i) (a2 : i' < M → Q i') (b1 : ∀ j, j < i → ¬ P j) (b2 : ∀ j, j < i' → ¬ Q j) : i = i' := by
  rcases Nat.lt_trichotomy i i' with hlt | heq | hgt
  · exact absurd ((hPQ i).mp (a1 (by omega))) (b2 i hlt)
  · exact heq
  · exact absurd ((hPQ i').mpr (a2 (by omega))) (b1 i' hgt)
theorem i64_dbl {x : Int32} (h : 0 ≤ x.toInt ∧ x.toInt ≤ 10000000) : Int32.toInt64 (x + x) = Int32.toInt64 x + Int32.toInt64 x := by
  apply Int64.toInt_inj.mp
  rw [Int32.toInt_toInt64, Int64.toInt_add, Int32.toInt_toInt64, ti_add (by omega) (by omega), Int.bmod_eq_of_le (by omega) (by omega)]
theorem g_rf_5 {k i : Nat} {rf : UT} (hi : i < k) : g_rf k rf i 5 = 0 := by rw [g_rf_at hi, xup_self]
/-- what is spilled: roof 0 -/
theorem A_gut0 {rg3 : UT} (hk : 0 < k) (hN : N ≤ 100) (hT : Tw k m rf rg) (ok1 : r_ok k rf) (ok2 : r_ok m rg) (e : ∀ d, d < N → ra d = rb d) (hr : ∀ d, d < N → 0 ≤ (ra d).toInt ∧ (ra d).toInt ≤ 200) (h1 : R5 k rf rf2) (h2 : R5 m rg rg2) (h3 : R5 m rg rg3) :
    Int32.toInt64 ((t_C k lim ra (g_rf k rf2) N).2 0 5) = Int32.toInt64 ((t_C m lim rb (g_rf m rg2) N).2 0 5) + Int32.toInt64 ((t_C m lim rb (g_rf m rg3) N).2 1 5) := by
  have T2 := (Tw_tC (lim := lim) (Tw_back hT h1 h2) (g_rf_ok (R5_ok h1 ok1)) (g_rf_ok (R5_ok h2 ok2)) e hr N (Nat.le_refl _)).2.1
  have T3 := (Tw_tC (lim := lim) (Tw_back hT h1 h3) (g_rf_ok (R5_ok h1 ok1)) (g_rf_ok (R5_ok h3 ok2)) e hr N (Nat.le_refl _)).2.1
  have hr' : ∀ d, d < N → 0 ≤ (rb d).toInt ∧ (rb d).toInt ≤ 200 := fun d hd => by rw [← e d hd]; exact hr d hd
  rcases T2 with ⟨f, -⟩ | ⟨-, em, q2, -⟩
  · omega
  · rcases T3 with ⟨f, -⟩ | ⟨-, -, q3, -⟩
    · omega
    · have b2 := t_C_5 (lim := lim) (g_rf_ok (R5_ok h2 ok2)) hN hr' (fun i hi => g_rf_5 hi) 0 (by omega)
      have b3 := t_C_5 (lim := lim) (g_rf_ok (R5_ok h3 ok2)) hN hr' (fun i hi => g_rf_5 hi) 0 (by omega)
      have x2 := q2.2.2.2 5 (by decide) (by decide)
      have x3 := q3.2.2.2 5 (by decide) (by decide)
      have y3 := q3.2.2.1 5 (by decide)
      have d2 := ti_add (a := (t_C m lim rb (g_rf m rg2) N).2 0 5) (b := (t_C m lim rb (g_rf m rg2) N).2 0 5) (by omega) (by omega)
      have d3 := ti_add (a := (t_C m lim rb (g_rf m rg3) N).2 0 5) (b := (t_C m lim rb (g_rf m rg3) N).2 0 5) (by omega) (by omega)
      have e23 : (t_C m lim rb (g_rf m rg3) N).2 0 5 = (t_C m lim rb (g_rf m rg2) N).2 0 5 := by
        apply ti_ext
        rw [← x2] at d2
        rw [← x3] at d3
        omega
      rw [y3, e23, x2]
      exact i64_dbl b2
/-- .. and the others -/
theorem A_gut {i : Nat} (hi : i + 1 < k) (hT : Tw k m rf rg) (ok1 : r_ok k rf) (ok2 : r_ok m rg) (e : ∀ d, d < N → ra d = rb d) (hr : ∀ d, d < N → 0 ≤ (ra d).toInt ∧ (ra d).toInt ≤ 200) (h1 : R5 k rf rf2) (h2 : R5 m rg rg2) :
    (t_C k lim ra (g_rf k rf2) N).2 (i + 1) 5 = (t_C m lim rb (g_rf m rg2) N).2 (i + 2) 5 := by
  have T2 := (Tw_tC (lim := lim) (Tw_back hT h1 h2) (g_rf_ok (R5_ok h1 ok1)) (g_rf_ok (R5_ok h2 ok2)) e hr N (Nat.le_refl _)).2.1
  rcases T2 with ⟨f, -⟩ | ⟨-, -, -, q2⟩
  · omega
  · exact q2 i hi 5 (by decide)
end PW42
/-! The law's small numbers. -/
theorem and_nn (x : Int32) : 0 ≤ (x &&& (2147483647 : Int32)).toInt := by
  have h : (x &&& (2147483647 : Int32)).toBitVec.msb = false := by
    rw [Int32.toBitVec_and, BitVec.msb_and]
    have : (2147483647 : Int32).toBitVec.msb = false := by decide
    rw [this, Bool.and_false]
  show 0 ≤ (x &&& (2147483647 : Int32)).toBitVec.toInt
  rw [BitVec.toInt_eq_toNat_of_msb h]
  omega
theorem i_rem {z m : Int32} (hz : 0 ≤ z.toInt) (hm0 : 0 < m.toInt) : (xremI z m).toInt = z.toInt % m.toInt := by
  have hr1 := ti_rng z
  have hm1 := ti_rng m
  have q0 : 0 ≤ z.toInt / m.toInt := Int.ediv_nonneg hz (by omega)
  have ed : (z / m).toInt = z.toInt / m.toInt := ti_div hz hm0
  have g1 : z.toInt / m.toInt * m.toInt ≤ z.toInt := Int.ediv_mul_le _ (by omega)
  have g0 : 0 ≤ z.toInt / m.toInt * m.toInt := Int.mul_nonneg q0 (by omega)
  have em : (z / m * m).toInt = z.toInt / m.toInt * m.toInt := by rw [ti_mul (by rw [ed]; omega) (by rw [ed]; omega), ed]
  have key : z.toInt % m.toInt = z.toInt - z.toInt / m.toInt * m.toInt := by rw [Int.emod_def, Int.mul_comm]
  unfold xremI
  rw [ti_sub (by rw [em]; omega) (by rw [em]; omega), em, key]
theorem up_ok (x : Int32) {q : Int32} {m : Nat} (e : q = nI m) (h0 : 0 < m) (h1 : m < 2147483648) : ∃ r, r < m ∧ f_L_up x q = some (nI r) := by
  subst e
  have em : (nI m).toInt = (m : Int) := xnI_toInt h1
  have hz : ¬ nI m = (0 : Int32) := fun f => by have := congrArg Int32.toInt f; rw [em, ti_0] at this; omega
  have hn := and_nn x
  have er := i_rem hn (m := nI m) (by rw [em]; omega)
  rw [em] at er
  have r0 : 0 ≤ (x &&& (2147483647 : Int32)).toInt % (m : Int) := Int.emod_nonneg _ (by omega)
  have r1 : (x &&& (2147483647 : Int32)).toInt % (m : Int) < m := Int.emod_lt_of_pos _ (by omega)
  obtain ⟨i, hi, ei⟩ := ix_of (p := xremI (x &&& (2147483647 : Int32)) (nI m)) (n := m) (by rw [er]; omega)
  refine ⟨i, hi, ?_⟩
  rw [← ei]
  unfold f_L_up
  rw [show xnz (nI m) = some () from if_neg hz]
  rfl
theorem cell_ok {L : Nat} (hL : L ≤ 260) (xs : Nat → Int32) {q : Int32} {j : Nat} (e : q = nI j) (hj : j < 1000) : ∃ v, f_L_cell L xs q = some v := by
  subst e
  have eL : Int32.ofNat L = nI L := rfl
  unfold f_L_cell
  rw [eL]
  by_cases c : nI L ≤ nI j
  · rw [if_pos c]; exact ⟨_, rfl⟩
  · rw [if_neg c]
    rw [xnI_le_iff (by omega) (by omega)] at c
    have hx : xin (nI j) L = true := xin_nI (by omega) (by omega)
    unfold xsld
    rw [if_pos hx]
    exact ⟨_, rfl⟩
theorem inR_n {a l u : Nat} {p q : Int32} (e1 : p = nI l) (e2 : q = nI u) (h : l ≤ a ∧ a ≤ u) (hu : u < 2147483648) : inR (nI a) p q := by
  subst e1 e2
  unfold inR
  rw [xnI_toInt (by omega), xnI_toInt (by omega), xnI_toInt (by omega)]; omega
theorem nI_half (a : Nat) (h : 2 * a < 2147483648) : nI (2 * a) / (2 : Int32) = nI a := by
  have z : (2 : Int32).toInt = 2 := rfl
  apply ti_ext
  rw [ti_div (by rw [xnI_toInt h]; omega) (by rw [z]; omega), xnI_toInt h, z, xnI_toInt (by omega)]
  omega
