/-! Sharing by demand. -/
theorem zsum_mulr (c : Int) (f : Nat → Int) (n : Nat) : zsum (fun i => f i * c) n = zsum f n * c := by
  induction n with
  | zero => simp [zsum]
  | succ n ih => simp only [zsum, ih, Int.add_mul]
theorem xup_id {α : Type} (f : Nat → α) (k : Nat) : xup f k (f k) = f := by
  funext j
  by_cases h : j = k
  · subst h; rw [xup_self]
  · rw [xup_ne _ _ h]
theorem i32_add0 (a : Int32) : a + 0 = a := by rw [Int32.add_zero]
theorem m_giv_0 {lf : Int32} {v : UT} {u : Nat} {much : Int32} (h : m_g v u much lf = 0) : m_giv (lf, v) u much = (lf, v) := by
  unfold m_giv
  simp only [h, i32_sub0, i32_add0, xup_id]
theorem m_prop1 {n : Nat} {us : UT} {A : Int32} (hn : n ≤ 5) (ho : u_ok n us) (hz : u_z n us) (hA : 0 ≤ A.toInt) (hD : A.toInt < (u_dem n us).toInt) :
    m_pass (m_prt A (u_dem n us)) n (A, us) = u_prop A (u_dem n us) n (A, us) ∧
    (m_pass (m_prt A (u_dem n us)) n (A, us)).1.toInt = A.toInt - zsum (fun j => (us j 0).toInt * A.toInt / (u_dem n us).toInt) n ∧
    ∀ j, j < n → (m_pass (m_prt A (u_dem n us)) n (A, us)).2 j = xup (us j) 2 (m_prt A (u_dem n us) us j) := by
  have hA0 := ti_rng A
  have hD1 := ti_isum (fun i => us i 0) n 30000 (by omega) (by omega) (fun i hi => (ho i hi).1)
  have hd : (u_dem n us).toInt = zsum (fun i => (us i 0).toInt) n := hD1.1
  generalize (u_dem n us) = E at *
  have hr := ti_rng E
  have hpt : ∀ j, j < n → (m_prt A E us j).toInt = (us j 0).toInt * A.toInt / E.toInt := fun j hj => ti_prt (ho j hj).1.1 (by have := (ho j hj).1.2; omega) hA hD
  have hq : ∀ j, E.toInt * ((us j 0).toInt * A.toInt / E.toInt) ≤ (us j 0).toInt * A.toInt := fun j => Int.mul_ediv_self_le (by omega)
  have hp0 : ∀ j, j < n → 0 ≤ (us j 0).toInt * A.toInt / E.toInt := fun j hj => Int.ediv_nonneg (Int.mul_nonneg (ho j hj).1.1 hA) (by omega)
  have hpd : ∀ j, j < n → (us j 0).toInt * A.toInt / E.toInt ≤ (us j 0).toInt := by
    intro j hj
    have h1 : (us j 0).toInt * A.toInt / E.toInt ≤ (us j 0).toInt * E.toInt / E.toInt := Int.ediv_le_ediv (by omega) (Int.mul_le_mul_of_nonneg_left (by omega) (ho j hj).1.1)
    rwa [Int.mul_ediv_cancel _ (by omega)] at h1
  have key := it_two (fun i (x y : Int32 × UT) => x = y ∧ x.1.toInt = A.toInt - zsum (fun j => (us j 0).toInt * A.toInt / E.toInt) i ∧ (∀ j, i ≤ j → x.2 j = us j) ∧ ∀ j, j < i → x.2 j = xup (us j) 2 (m_prt A E us j))
    (fun i x => m_giv x i (m_prt A E x.2 i)) (fun i x => (x.1 - u_giv x.2 i (u_prt A E x.2 i), u_put x.2 i (u_prt A E x.2 i))) n (a := (A, us)) (b := (A, us)) ⟨rfl, by simp [zsum], fun _ _ => rfl, fun _ h => absurd h (Nat.not_lt_zero _)⟩ ?_
  · exact ⟨key.1, key.2.1, key.2.2.2⟩
  · rintro i ⟨lf, v⟩ y hi ⟨rfl, h1, hj, hk⟩
    simp only at h1 hj hk
    have e : v i = us i := hj i (Nat.le_refl _)
    have hi0 := ho i hi
    have z2 : (us i 2).toInt = 0 := by rw [hz i hi]; rfl
    have ep : m_prt A E v i = m_prt A E us i := by unfold m_prt; rw [e]
    have ep2 : u_prt A E v i = m_prt A E us i := by unfold m_prt u_prt; rw [e]
    -- what is left reaches
    have s1 : zsum (fun j => E.toInt * ((us j 0).toInt * A.toInt / E.toInt)) i ≤ zsum (fun j => (us j 0).toInt * A.toInt) i := zsum_le _ _ _ (fun j _ => hq j)
    rw [zsum_mul, zsum_mulr] at s1
    have s2 : zsum (fun i => (us i 0).toInt) i + (us i 0).toInt ≤ zsum (fun i => (us i 0).toInt) n := zsum_mono (fun i => (us i 0).toInt) (show i + 1 ≤ n by omega) (fun i hi => (ho i hi).1.1)
    have s3 : (zsum (fun i => (us i 0).toInt) i + (us i 0).toInt) * A.toInt ≤ E.toInt * A.toInt := Int.mul_le_mul_of_nonneg_right (by omega) hA
    rw [Int.add_mul] at s3
    have s4 := hq i
    have s5 : E.toInt * ((us i 0).toInt * A.toInt / E.toInt) ≤ E.toInt * lf.toInt := by
      rw [h1, Int.mul_sub]
      omega
    have s6 : (us i 0).toInt * A.toInt / E.toInt ≤ lf.toInt := Int.le_of_mul_le_mul_left s5 (by omega)
    have g1 : m_g v i (m_prt A E us i) lf = m_prt A E us i := by
      refine ti_ext ?_
      rw [m_g_ti _ _ (by rw [e]; omega) (by rw [e]; omega), e, hpt i hi]
      have := hpd i hi
      omega
    have g2 : u_giv v i (m_prt A E us i) = m_prt A E us i := by
      refine ti_ext ?_
      rw [u_giv_ti _ (by rw [e]; omega) (by rw [e]; omega), e, hpt i hi]
      have := hpd i hi
      omega
    have gg := m_giv_eq (g1.trans g2.symm)
    have zp := zsum_nn (fun j => (us j 0).toInt * A.toInt / E.toInt) i (fun j hj => hp0 j (by omega))
    have hp := hp0 i hi
    refine ⟨?_, ?_, ?_, ?_⟩
    · show m_giv (lf, v) i (m_prt A E v i) = (lf - u_giv v i (u_prt A E v i), u_put v i (u_prt A E v i))
      rw [ep, ep2, gg]
    · show (lf - m_g v i (m_prt A E v i) lf).toInt = _
      rw [ep, g1, ti_sub (by rw [hpt i hi]; omega) (by rw [hpt i hi]; omega), hpt i hi, h1]
      simp only [zsum]
      omega
    · intro j h
      show xup _ _ _ _ = _
      rw [xup_far h]
      exact hj j (by omega)
    · intro j h
      show xup v i (xup (v i) 2 (v i 2 + m_g v i (m_prt A E v i) lf)) j = _
      by_cases c : j = i
      · subst c
        rw [xup_self, ep, g1, e, hz j hi]
        refine congrArg _ ?_
        grind
      · rw [xup_ne _ _ c]; exact hk j (by omega)
theorem u_ones_0 (n : Nat) {x : Int32 × UT} (h : x.1 ≤ 0) : u_ones n x = x := by
  refine it_inv (fun _ y => y = x) _ n rfl ?_
  rintro i y _ rfl
  rw [if_pos h]
theorem m_prop2 {n : Nat} {us : UT} {A : Int32} (hn : n ≤ 5) (ho : u_ok n us) (hz : u_z n us) (hA : 0 ≤ A.toInt) (hD : A.toInt < (u_dem n us).toInt) :
    ∃ m, m ≤ 1 ∧ (∀ j, j < m → 0 < (it (fun _ y => m_pass (fun _ _ => 1) n y) (m_pass (m_prt A (u_dem n us)) n (A, us)) j).1) ∧
    (it (fun _ y => m_pass (fun _ _ => 1) n y) (m_pass (m_prt A (u_dem n us)) n (A, us)) m).1 = 0 ∧
    (it (fun _ y => m_pass (fun _ _ => 1) n y) (m_pass (m_prt A (u_dem n us)) n (A, us)) m).2 = (u_ones n (u_prop A (u_dem n us) n (A, us))).2 := by
  obtain ⟨k1, k2, k3⟩ := m_prop1 hn ho hz hA hD
  have hA0 := ti_rng A
  have hD1 := ti_isum (fun i => us i 0) n 30000 (by omega) (by omega) (fun i hi => (ho i hi).1)
  have hd : (u_dem n us).toInt = zsum (fun i => (us i 0).toInt) n := hD1.1
  rw [← k1]
  generalize m_pass (m_prt A (u_dem n us)) n (A, us) = x at *
  generalize (u_dem n us) = E at *
  have hr := ti_rng E
  have hq : ∀ j, E.toInt * ((us j 0).toInt * A.toInt / E.toInt) + ((us j 0).toInt * A.toInt) % E.toInt = (us j 0).toInt * A.toInt := fun j => Int.mul_ediv_add_emod _ _
  have hr0 : ∀ j, 0 ≤ ((us j 0).toInt * A.toInt) % E.toInt := fun j => Int.emod_nonneg _ (by omega)
  have hr1 : ∀ j, ((us j 0).toInt * A.toInt) % E.toInt < E.toInt := fun j => Int.emod_lt_of_pos _ (by omega)
  have hpt : ∀ j, j < n → (m_prt A E us j).toInt = (us j 0).toInt * A.toInt / E.toInt := fun j hj => ti_prt (ho j hj).1.1 (by have := (ho j hj).1.2; omega) hA hD
  have hp0 : ∀ j, j < n → 0 ≤ (us j 0).toInt * A.toInt / E.toInt := fun j hj => Int.ediv_nonneg (Int.mul_nonneg (ho j hj).1.1 hA) (by omega)
  have hpd : ∀ j, j < n → (us j 0).toInt * A.toInt / E.toInt ≤ (us j 0).toInt := by
    intro j hj
    have h1 : (us j 0).toInt * A.toInt / E.toInt ≤ (us j 0).toInt * E.toInt / E.toInt := Int.ediv_le_ediv (by omega) (Int.mul_le_mul_of_nonneg_left (by omega) (ho j hj).1.1)
    rwa [Int.mul_ediv_cancel _ (by omega)] at h1
  -- what is left, E times
  have hl : E.toInt * x.1.toInt = zsum (fun j => ((us j 0).toInt * A.toInt) % E.toInt) n := by
    have e1 : zsum (fun j => (us j 0).toInt * A.toInt - E.toInt * ((us j 0).toInt * A.toInt / E.toInt)) n = zsum (fun j => ((us j 0).toInt * A.toInt) % E.toInt) n := zsum_eq _ _ _ (fun j _ => by have := hq j; omega)
    rw [zsum_sub, zsum_mulr, zsum_mul, ← hd] at e1
    rw [k2, Int.mul_sub]
    omega
  have hl0 : 0 ≤ x.1.toInt := by
    have h0 := zsum_nn (fun j => ((us j 0).toInt * A.toInt) % E.toInt) n (fun j _ => hr0 j)
    rw [← hl] at h0
    exact Int.nonneg_of_mul_nonneg_right h0 (by omega)
  have key := it_two (fun i (y w : Int32 × UT) => y = w ∧ (0 ≤ y.1.toInt ∧ (y.1.toInt = 0 ∨ E.toInt * y.1.toInt ≤ zsum (fun j => ((us j 0).toInt * A.toInt) % E.toInt) n - zsum (fun j => ((us j 0).toInt * A.toInt) % E.toInt) i)) ∧ ∀ j, i ≤ j → y.2 j = x.2 j)
    (fun i x => m_giv x i 1) (fun i x => if x.1 ≤ 0 then x else (x.1 - u_giv x.2 i 1, u_put x.2 i 1)) n (a := x) (b := x) ⟨rfl, ⟨hl0, Or.inr (by rw [hl]; simp [zsum])⟩, fun _ _ => rfl⟩ ?_
  · have e1 : m_pass (fun _ _ => 1) n x = u_ones n x := key.1
    have e2 : (m_pass (fun _ _ => 1) n x).1 = 0 := by
      have h0 := key.2.1.1
      have h1 := key.2.1.2
      refine ti_ext ?_
      show (it (fun i x => m_giv x i 1) x n).1.toInt = 0
      rcases h1 with h1 | h1
      · exact h1
      · have h2 : E.toInt * (it (fun i x => m_giv x i 1) x n).1.toInt ≤ E.toInt * 0 := by omega
        have := Int.le_of_mul_le_mul_left h2 (by omega)
        omega
    by_cases c : x.1 ≤ 0
    · refine ⟨0, by omega, fun j h => absurd h (Nat.not_lt_zero _), ?_, ?_⟩
      · refine ti_ext ?_
        rw [ti_le, ti_0] at c
        rw [it_0, ti_0]; omega
      · rw [it_0, u_ones_0 n c]
    · refine ⟨1, by omega, ?_, ?_, ?_⟩
      · intro j hj
        rw [show j = 0 by omega, it_0]
        exact Int32.not_le.mp c
      · exact e2
      · rw [← e1]; rfl
  · rintro i ⟨lf, v⟩ w hi ⟨rfl, ⟨h1, h2⟩, hj⟩
    simp only at h1 h2 hj ⊢
    have e : v i = xup (us i) 2 (m_prt A E us i) := by rw [hj i (Nat.le_refl _)]; exact k3 i hi
    have hi0 := ho i hi
    have e0 : v i 0 = us i 0 := by rw [e]; exact xup_ne _ _ (by decide)
    have e2 : (v i 2).toInt = (us i 0).toInt * A.toInt / E.toInt := by rw [e, xup_self, hpt i hi]
    have hpi := hp0 i hi
    have hpu := hpd i hi
    have hlf := ti_rng lf
    have b1 : -2147483648 ≤ (v i 0).toInt - (v i 2).toInt := by rw [e0, e2]; omega
    have b2 : (v i 0).toInt - (v i 2).toInt < 2147483648 := by rw [e0, e2]; omega
    have hg := m_g_ti (us := v) (u := i) 1 lf b1 b2
    have hu := u_giv_ti (us := v) (u := i) 1 b1 b2
    rw [e0, e2, ti_1] at hg hu
    have zr : zsum (fun j => ((us j 0).toInt * A.toInt) % E.toInt) (i + 1) = zsum (fun j => ((us j 0).toInt * A.toInt) % E.toInt) i + ((us i 0).toInt * A.toInt) % E.toInt := rfl
    have hri := hr0 i
    have hri1 := hr1 i
    by_cases c : lf ≤ 0
    · have l0 : lf.toInt = 0 := by rw [ti_le, ti_0] at c; omega
      have g0 : m_g v i 1 lf = 0 := ti_ext (by rw [hg, ti_0]; omega)
      rw [m_giv_0 g0, if_pos c]
      exact ⟨rfl, ⟨h1, Or.inl l0⟩, fun j h => hj j (by omega)⟩
    · have l0 : 0 < lf.toInt := by rw [ti_le, ti_0] at c; omega
      have gg : m_g v i 1 lf = u_giv v i 1 := ti_ext (by rw [hg, hu]; omega)
      have g1 : (u_giv v i 1).toInt = min 1 ((us i 0).toInt - (us i 0).toInt * A.toInt / E.toInt) := hu
      rw [m_giv_eq gg, if_neg c]
      have s1 : (lf - u_giv v i 1).toInt = lf.toInt - (u_giv v i 1).toInt := ti_sub (by omega) (by omega)
      refine ⟨rfl, ⟨?_, ?_⟩, ?_⟩
      · show 0 ≤ (lf - u_giv v i 1).toInt
        omega
      · show (lf - u_giv v i 1).toInt = 0 ∨ E.toInt * (lf - u_giv v i 1).toInt ≤ _
        right
        have h3 : E.toInt * lf.toInt ≤ zsum (fun j => ((us j 0).toInt * A.toInt) % E.toInt) n - zsum (fun j => ((us j 0).toInt * A.toInt) % E.toInt) i := by
          rcases h2 with h2 | h2
          · omega
          · exact h2
        rw [s1, zr, Int.mul_sub]
        by_cases r0 : ((us i 0).toInt * A.toInt) % E.toInt = 0
        · have : 0 ≤ E.toInt * (u_giv v i 1).toInt := Int.mul_nonneg (by omega) (by omega)
          omega
        · have f1 : (us i 0).toInt * A.toInt / E.toInt < (us i 0).toInt := by
            rcases Int.lt_or_le ((us i 0).toInt * A.toInt / E.toInt) (us i 0).toInt with f | f
            · exact f
            · have f2 : E.toInt * (us i 0).toInt ≤ E.toInt * ((us i 0).toInt * A.toInt / E.toInt) := Int.mul_le_mul_of_nonneg_left f (by omega)
              have f3 : (us i 0).toInt * A.toInt ≤ (us i 0).toInt * E.toInt := Int.mul_le_mul_of_nonneg_left (by omega) hi0.1.1
              rw [Int.mul_comm (us i 0).toInt E.toInt] at f3
              have := hq i
              omega
          have g3 : (u_giv v i 1).toInt = 1 := by omega
          rw [g3]
          omega
      · intro j h
        show xup _ _ _ _ = _
        rw [xup_far h]
        exact hj j (by omega)

