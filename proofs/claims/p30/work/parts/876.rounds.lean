/-! Sharing by weights, in rounds. -/
def w_J (n : Nat) (A : Int) (x : Int32 × UT) : Prop :=
  (0 ≤ x.1.toInt ∧ x.1.toInt + zsum (fun i => (x.2 i 2).toInt) n = A) ∧ ∀ i, i < n → (((0 ≤ (x.2 i 0).toInt ∧ (x.2 i 0).toInt ≤ 30000) ∧ 1 ≤ (x.2 i 1).toInt ∧ (x.2 i 1).toInt ≤ 9) ∧ 0 ≤ (x.2 i 2).toInt ∧ (x.2 i 2).toInt ≤ (x.2 i 0).toInt)
def w_P (us : UT) (i : Nat) : Int32 := 10 * us i 1
theorem w_P_ti {us : UT} {i : Nat} (h : 1 ≤ (us i 1).toInt ∧ (us i 1).toInt ≤ 9) : (10 * us i 1 : Int32).toInt = 10 * (us i 1).toInt := by
  rw [ti_mul (by rw [ti_10]; omega) (by rw [ti_10]; omega), ti_10]
theorem zsum_up (us : UT) (i : Nat) (r : Nat → Int32) (n : Nat) : zsum (fun j => (xup us i r j 2).toInt) n = (if i < n then zsum (fun j => (us j 2).toInt) n + ((r 2).toInt - (us i 2).toInt) else zsum (fun j => (us j 2).toInt) n) := by
  induction n with
  | zero => rfl
  | succ n ih =>
    simp only [zsum]
    rw [ih]
    by_cases h : i = n
    · subst h
      rw [if_neg (by omega), if_pos (by omega), xup_self]
      omega
    · by_cases h2 : i < n
      · rw [if_pos h2, if_pos (by omega), xup_ne _ _ (by omega)]
        omega
      · rw [if_neg h2, if_neg (by omega), xup_ne _ _ (by omega)]
/-- what a step of a round gives -/
theorem w_step {n : Nat} {A : Int} {x : Int32 × UT} (hA : A ≤ 100000) (hJ : w_J n A x) {i : Nat} (hi : i < n) :
    (m_g x.2 i (10 * x.2 i 1) x.1).toInt = min x.1.toInt (min ((x.2 i 0).toInt - (x.2 i 2).toInt) (10 * (x.2 i 1).toInt)) ∧
    m_g x.2 i (10 * x.2 i 1) x.1 = u_giv x.2 i (xmin x.1 (10 * x.2 i 1)) ∧ w_J n A (m_giv x i (10 * x.2 i 1)) := by
  obtain ⟨⟨h1, h2⟩, h3⟩ := hJ
  have hi0 := h3 i hi
  have b1 : -2147483648 ≤ (x.2 i 0).toInt - (x.2 i 2).toInt := by omega
  have b2 : (x.2 i 0).toInt - (x.2 i 2).toInt < 2147483648 := by omega
  have hg := m_g_ti (us := x.2) (u := i) (10 * x.2 i 1) x.1 b1 b2
  have hu := u_giv_ti (us := x.2) (u := i) (xmin x.1 (10 * x.2 i 1)) b1 b2
  rw [w_P_ti hi0.1.2] at hg
  rw [ti_min, w_P_ti hi0.1.2] at hu
  refine ⟨hg, ti_ext (by rw [hg, hu]; omega), ?_⟩
  generalize hG : m_g x.2 i (10 * x.2 i 1) x.1 = G at *
  have hx := ti_rng x.1
  have s1 : (x.1 - G).toInt = x.1.toInt - G.toInt := ti_sub (by omega) (by omega)
  have s2 : (x.2 i 2 + G).toInt = (x.2 i 2).toInt + G.toInt := ti_add (by omega) (by omega)
  unfold m_giv
  rw [hG]
  refine ⟨⟨?_, ?_⟩, ?_⟩
  · show 0 ≤ (x.1 - G).toInt
    omega
  · show (x.1 - G).toInt + zsum (fun j => (xup x.2 i (xup (x.2 i) 2 (x.2 i 2 + G)) j 2).toInt) n = A
    rw [zsum_up, if_pos hi, xup_self]
    omega
  · intro j hj
    show ((((0 ≤ (xup x.2 i (xup (x.2 i) 2 (x.2 i 2 + G)) j 0).toInt ∧ (xup x.2 i (xup (x.2 i) 2 (x.2 i 2 + G)) j 0).toInt ≤ 30000) ∧ 1 ≤ (xup x.2 i (xup (x.2 i) 2 (x.2 i 2 + G)) j 1).toInt ∧ (xup x.2 i (xup (x.2 i) 2 (x.2 i 2 + G)) j 1).toInt ≤ 9) ∧ 0 ≤ (xup x.2 i (xup (x.2 i) 2 (x.2 i 2 + G)) j 2).toInt ∧ (xup x.2 i (xup (x.2 i) 2 (x.2 i 2 + G)) j 2).toInt ≤ (xup x.2 i (xup (x.2 i) 2 (x.2 i 2 + G)) j 0).toInt))
    by_cases c : j = i
    · subst c
      rw [xup_self, xup_ne _ _ (show (0 : Nat) ≠ 2 by decide), xup_ne _ _ (show (1 : Nat) ≠ 2 by decide), xup_self, s2]
      omega
    · rw [xup_ne _ _ c]; exact h3 j hj
def w_M (n : Nat) : Int32 × UT → Int32 × UT := m_pass (fun us i => 10 * us i 1) n
theorem w_J_M {n : Nat} {A : Int} {x : Int32 × UT} (hA : A ≤ 100000) (hJ : w_J n A x) : w_J n A (w_M n x) :=
  it_inv (fun _ y => w_J n A y) _ n hJ (fun _ _ hi h => (w_step hA h hi).2.2)
theorem w_rnd {n : Nat} {A : Int} {x : Int32 × UT} (hA : A ≤ 100000) (hJ : w_J n A x) : u_rnd n x = w_M n x := by
  refine (it_two (fun _ (y z : Int32 × UT) => y = z ∧ w_J n A z) _ _ n ⟨rfl, hJ⟩ ?_).1
  rintro i y z hi ⟨rfl, h⟩
  have hs := w_step hA h hi
  refine ⟨?_, hs.2.2⟩
  unfold m_giv u_put
  rw [hs.2.1]
theorem w_fix {n : Nat} {A : Int} {x : Int32 × UT} (hA : A ≤ 100000) (hJ : w_J n A x) (h0 : x.1.toInt = 0) : w_M n x = x := by
  refine it_inv (fun _ y => y = x) _ n rfl ?_
  rintro i y hi rfl
  have hs := (w_step hA hJ hi).1
  have h3 := hJ.2 i hi
  have g0 : m_g y.2 i (10 * y.2 i 1) y.1 = 0 := ti_ext (by rw [hs, ti_0]; omega)
  exact m_giv_0 g0
theorem it_shift {α : Type} (f : α → α) (x : α) (m : Nat) : it (fun _ y => f y) x (m + 1) = it (fun _ y => f y) (f x) m := by
  rw [Nat.add_comm m 1, it_add]; rfl
theorem w_first {n : Nat} {A : Int} (hA : A ≤ 100000) (M : Nat) : ∀ (x : Int32 × UT), w_J n A x → (it (fun _ y => w_M n y) x M).1.toInt = 0 →
    ∃ m, m ≤ M ∧ (∀ j, j < m → 0 < (it (fun _ y => w_M n y) x j).1) ∧ (it (fun _ y => w_M n y) x m).1 = 0 ∧ it (fun _ y => w_M n y) x m = it (fun _ y => w_M n y) x M := by
  induction M with
  | zero => intro x hJ h; exact ⟨0, Nat.le_refl _, fun j hj => absurd hj (Nat.not_lt_zero _), ti_ext h, rfl⟩
  | succ M ih =>
    intro x hJ h
    by_cases h0 : x.1.toInt = 0
    · refine ⟨0, by omega, fun j hj => absurd hj (Nat.not_lt_zero _), ti_ext h0, ?_⟩
      rw [it_fix _ _ (w_fix hA hJ h0) (M + 1)]; rfl
    · rw [it_shift] at h
      obtain ⟨m, h1, h2, h3, h4⟩ := ih _ (w_J_M hA hJ) h
      refine ⟨m + 1, by omega, ?_, ?_, ?_⟩
      · intro j hj
        cases j with
        | zero => rw [it_0, ti_lt, ti_0]; have := hJ.1.1; omega
        | succ j => rw [it_shift]; exact h2 j (by omega)
      · rw [it_shift]; exact h3
      · rw [it_shift, it_shift]; exact h4
/-! k rounds at once -/
def w_a (us : UT) (t : Int) (i : Nat) : Int := min (t * (10 * (us i 1).toInt)) ((us i 0).toInt - (us i 2).toInt)
def w_F (t : Int32) (_ : Nat) (r : Nat → Int32) : Nat → Int32 := xup r 2 (r 2 + xmin (t * (10 * r 1)) (r 0 - r 2))
theorem w_tP {t w : Int32} {c : Int} (h0 : 0 ≤ t.toInt) (h1 : t.toInt ≤ 100000) (hw : 1 ≤ w.toInt ∧ w.toInt ≤ 9) (hc : c = t.toInt) : (t * (10 * w)).toInt = c * (10 * w.toInt) ∧ 0 ≤ c * (10 * w.toInt) ∧ c * (10 * w.toInt) ≤ 9000000 := by
  subst hc
  have e : (10 * w : Int32).toInt = 10 * w.toInt := by rw [ti_mul (by rw [ti_10]; omega) (by rw [ti_10]; omega), ti_10]
  have h2 : 0 ≤ t.toInt * (10 * w.toInt) := Int.mul_nonneg h0 (by omega)
  have h3 : t.toInt * (10 * w.toInt) ≤ 100000 * 90 := Int.mul_le_mul h1 (by omega) (by omega) (by omega)
  refine ⟨?_, h2, by omega⟩
  rw [ti_mul (by rw [e]; omega) (by rw [e]; omega), e]
theorem w_F2 {us : UT} {t : Int32} {i : Nat} {c : Int} (h0 : 0 ≤ t.toInt) (h1 : t.toInt ≤ 100000) (hc : c = t.toInt) (h : (((0 ≤ (us i 0).toInt ∧ (us i 0).toInt ≤ 30000) ∧ 1 ≤ (us i 1).toInt ∧ (us i 1).toInt ≤ 9) ∧ 0 ≤ (us i 2).toInt ∧ (us i 2).toInt ≤ (us i 0).toInt)) :
    (xmin (t * (10 * us i 1)) (us i 0 - us i 2)).toInt = w_a us c i ∧ (us i 2 + xmin (t * (10 * us i 1)) (us i 0 - us i 2)).toInt = (us i 2).toInt + w_a us c i ∧ 0 ≤ w_a us c i ∧ w_a us c i ≤ (us i 0).toInt - (us i 2).toInt := by
  obtain ⟨e1, e2, e3⟩ := w_tP h0 h1 h.1.2 hc
  have e4 : (xmin (t * (10 * us i 1)) (us i 0 - us i 2)).toInt = w_a us c i := by
    rw [ti_min, ti_sub (by omega) (by omega), e1]; rfl
  have e5 : 0 ≤ w_a us c i ∧ w_a us c i ≤ (us i 0).toInt - (us i 2).toInt := by unfold w_a; omega
  exact ⟨e4, by rw [ti_add (by omega) (by omega), e4], e5⟩
def w_pi (us : UT) (i : Nat) : Int := if (us i 0).toInt - (us i 2).toInt ≤ 0 then 0 else 10 * (us i 1).toInt
theorem w_por {n : Nat} {A : Int} {x : Int32 × UT} (hn : n ≤ 5) (hJ : w_J n A x) : (u_por n x.2).toInt = zsum (w_pi x.2) n ∧ 0 ≤ zsum (w_pi x.2) n := by
  refine (it_inv (fun i (a : Int32) => (a.toInt = zsum (w_pi x.2) i ∧ 0 ≤ zsum (w_pi x.2) i) ∧ a.toInt ≤ 90 * i) _ n ⟨⟨rfl, by simp [zsum]⟩, by simp [ti_0]⟩ ?_).1
  rintro i a hi ⟨⟨h1, h0⟩, h2⟩
  have h3 := hJ.2 i hi
  have hs : (x.2 i 0 - x.2 i 2).toInt = (x.2 i 0).toInt - (x.2 i 2).toInt := ti_sub (by omega) (by omega)
  have zs : zsum (w_pi x.2) (i + 1) = zsum (w_pi x.2) i + w_pi x.2 i := rfl
  by_cases c : x.2 i 0 - x.2 i 2 ≤ 0
  · rw [if_pos c]
    rw [ti_le, hs, ti_0] at c
    have e : w_pi x.2 i = 0 := if_pos c
    refine ⟨⟨?_, ?_⟩, ?_⟩ <;> omega
  · rw [if_neg c]
    rw [ti_le, hs, ti_0] at c
    have e : w_pi x.2 i = 10 * (x.2 i 1).toInt := if_neg c
    have e2 := w_P_ti h3.1.2
    rw [ti_add (by rw [e2]; omega) (by rw [e2]; omega), e2]
    refine ⟨⟨?_, ?_⟩, ?_⟩ <;> omega
theorem w_a_le {us : UT} {i : Nat} {t : Int} (ht : 0 ≤ t) (h : (((0 ≤ (us i 0).toInt ∧ (us i 0).toInt ≤ 30000) ∧ 1 ≤ (us i 1).toInt ∧ (us i 1).toInt ≤ 9) ∧ 0 ≤ (us i 2).toInt ∧ (us i 2).toInt ≤ (us i 0).toInt)) : w_a us t i ≤ t * w_pi us i ∧ w_a us t i ≤ w_a us (t + 1) i := by
  unfold w_a w_pi
  rw [Int.add_mul, Int.one_mul]
  by_cases c : (us i 0).toInt - (us i 2).toInt ≤ 0
  · rw [if_pos c, Int.mul_zero]; omega
  · rw [if_neg c]; omega
/-- t of the model's rounds, as long as the water lasts -/
theorem w_many {n : Nat} {A : Int} {x : Int32 × UT} (hA : A ≤ 100000) (hJ : w_J n A x) (t : Nat) (ht : (t : Int) * zsum (w_pi x.2) n ≤ x.1.toInt) (ht2 : t ≤ 100000) :
    (it (fun _ y => w_M n y) x t).1.toInt = x.1.toInt - zsum (w_a x.2 t) n ∧ (it (fun _ y => w_M n y) x t).2 = u_map (w_F (nI t)) n x.2 := by
  have hpn : 0 ≤ zsum (w_pi x.2) n := zsum_nn _ _ (fun i hi => by have := hJ.2 i hi; unfold w_pi; split <;> omega)
  induction t with
  | zero =>
    have hz : ∀ i, i < n → w_a x.2 ((0 : Nat) : Int) i = 0 := by
      intro i hi
      have := hJ.2 i hi
      unfold w_a
      simp only [Int.natCast_zero, Int.zero_mul] at *
      omega
    refine ⟨?_, ?_⟩
    · rw [it_0, zsum_eq _ (fun _ => 0 * (0 : Int)) n (fun i hi => by rw [hz i hi]; rfl), zsum_mul]; omega
    · rw [it_0]
      funext i
      by_cases c : i < n
      · have h3 := hJ.2 i c
        have e := (w_F2 (us := x.2) (t := nI 0) (i := i) (c := ((0 : Nat) : Int)) (by decide) (by decide) rfl h3).2.1
        simp only [u_map, if_pos c, w_F]
        have e2 : x.2 i 2 + xmin (nI 0 * (10 * x.2 i 1)) (x.2 i 0 - x.2 i 2) = x.2 i 2 := ti_ext (by rw [e, hz i c]; omega)
        rw [e2, xup_id]
      · simp only [u_map, if_neg c]
  | succ t ih =>
    have e1 : ((t + 1 : Nat) : Int) = (t : Int) + 1 := by omega
    rw [e1] at ht ⊢
    rw [Int.add_mul, Int.one_mul] at ht
    obtain ⟨i1, i2⟩ := ih (by omega) (by omega)
    have hle : ∀ i, i < n → w_a x.2 t i ≤ w_a x.2 (t + 1) i := fun i hi => (w_a_le (by omega) (hJ.2 i hi)).2
    have hsum : zsum (w_a x.2 (t + 1)) n ≤ ((t : Int) + 1) * zsum (w_pi x.2) n := by
      rw [← zsum_mul]
      exact zsum_le _ _ _ (fun i hi => (w_a_le (by omega) (hJ.2 i hi)).1)
    rw [Int.add_mul, Int.one_mul] at hsum
    rw [it_s]
    generalize it (fun _ y => w_M n y) x t = y at *
    have htI : (nI t).toInt = (t : Int) := xnI_toInt (by omega)
    have htI1 : (nI (t + 1)).toInt = (t : Int) + 1 := by rw [xnI_toInt (by omega)]; omega
    have key := it_inv (fun i (z : Int32 × UT) => z.1.toInt = x.1.toInt - zsum (w_a x.2 t) n - (zsum (w_a x.2 (t + 1)) i - zsum (w_a x.2 t) i) ∧ (∀ j, j < i → z.2 j = w_F (nI (t + 1)) j (x.2 j)) ∧ ∀ j, i ≤ j → z.2 j = y.2 j)
      (fun i z => m_giv z i (10 * z.2 i 1)) n (a := y) ⟨by rw [i1]; simp [zsum], fun j hj => absurd hj (Nat.not_lt_zero _), fun _ _ => rfl⟩ ?_
    · obtain ⟨k1, k2, k3⟩ := key
      refine ⟨?_, ?_⟩
      · show (it (fun i z => m_giv z i (10 * z.2 i 1)) y n).1.toInt = _
        rw [k1]; omega
      · show (it (fun i z => m_giv z i (10 * z.2 i 1)) y n).2 = _
        funext j
        by_cases c : j < n
        · rw [k2 j c]; simp only [u_map, if_pos c]
        · rw [k3 j (by omega), i2]; simp only [u_map, if_neg c]
    · rintro i ⟨lf, v⟩ hi ⟨h1, h2, h3⟩
      simp only at h1 h2 h3 ⊢
      have hx := hJ.2 i hi
      have ev : v i = w_F (nI t) i (x.2 i) := by rw [h3 i (Nat.le_refl _), i2]; simp only [u_map, if_pos hi]
      have f1 := w_F2 (us := x.2) (t := nI t) (i := i) (c := (t : Int)) (by omega) (by omega) htI.symm hx
      have f2 := w_F2 (us := x.2) (t := nI (t + 1)) (i := i) (c := (t : Int) + 1) (by omega) (by omega) htI1.symm hx
      have v0 : v i 0 = x.2 i 0 := by rw [ev]; exact xup_ne _ _ (by decide)
      have v1 : v i 1 = x.2 i 1 := by rw [ev]; exact xup_ne _ _ (by decide)
      have v2 : (v i 2).toInt = (x.2 i 2).toInt + w_a x.2 t i := by rw [ev]; unfold w_F; rw [xup_self]; exact f1.2.1
      have hg := m_g_ti (us := v) (u := i) (10 * v i 1) lf (by rw [v0, v2]; omega) (by rw [v0, v2]; omega)
      rw [v0, v1, v2, w_P_ti hx.1.2] at hg
      have hd : min ((x.2 i 0).toInt - ((x.2 i 2).toInt + w_a x.2 t i)) (10 * (x.2 i 1).toInt) = w_a x.2 (t + 1) i - w_a x.2 t i := by
        unfold w_a
        rw [Int.add_mul, Int.one_mul]
        have := (w_tP (t := nI t) (w := x.2 i 1) (c := (t : Int)) (by omega) (by omega) hx.1.2 htI.symm).2.1
        omega
      have hmono : zsum (fun j => w_a x.2 (t + 1) j - w_a x.2 t j) (i + 1) ≤ zsum (fun j => w_a x.2 (t + 1) j - w_a x.2 t j) n := zsum_mono _ (by omega) (fun j hj => by have := hle j hj; omega)
      rw [zsum_sub, zsum_sub] at hmono
      have z1 : zsum (w_a x.2 (t + 1)) (i + 1) = zsum (w_a x.2 (t + 1)) i + w_a x.2 (t + 1) i := rfl
      have z2 : zsum (w_a x.2 t) (i + 1) = zsum (w_a x.2 t) i + w_a x.2 t i := rfl
      have m1 : zsum (fun i => w_a x.2 (t + 1) i) (i + 1) = zsum (w_a x.2 (t + 1)) (i + 1) := rfl
      have m2 : zsum (fun i => w_a x.2 t i) (i + 1) = zsum (w_a x.2 t) (i + 1) := rfl
      have m3 : zsum (fun i => w_a x.2 (t + 1) i) n = zsum (w_a x.2 (t + 1)) n := rfl
      have m4 : zsum (fun i => w_a x.2 t i) n = zsum (w_a x.2 t) n := rfl
      rw [m1, m2, m3, m4] at hmono
      have hli := hle i hi
      have hgv : (m_g v i (10 * v i 1) lf).toInt = w_a x.2 (t + 1) i - w_a x.2 t i := by rw [v1, hg, hd]; omega
      have hlf := ti_rng lf
      refine ⟨?_, ?_, ?_⟩
      · show (lf - m_g v i (10 * v i 1) lf).toInt = _
        rw [ti_sub (by rw [hgv]; omega) (by rw [hgv]; omega), hgv]
        omega
      · intro j hj
        show xup v i (xup (v i) 2 (v i 2 + m_g v i (10 * v i 1) lf)) j = _
        by_cases c : j = i
        · subst c
          rw [xup_self]
          have e : v j 2 + m_g v j (10 * v j 1) lf = x.2 j 2 + xmin (nI (t + 1) * (10 * x.2 j 1)) (x.2 j 0 - x.2 j 2) := by
            refine ti_ext ?_
            rw [f2.2.1, ti_add (by rw [hgv, v2]; omega) (by rw [hgv, v2]; omega), hgv, v2]
            omega
          rw [e, ev]
          unfold w_F
          rw [xup_xup]
        · rw [xup_ne _ _ c]; exact h2 j (by omega)
      · intro j hj
        show xup _ _ _ _ = _
        rw [xup_far hj]
        exact h3 j (by omega)

