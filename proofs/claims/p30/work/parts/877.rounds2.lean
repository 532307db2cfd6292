/-! The class's rounds: all full ones at once. -/
theorem w_rnds {n : Nat} {A : Int} {x : Int32 × UT} (hn : n ≤ 5) (hJ : w_J n A x) (k : Int32) (h0 : 0 ≤ k.toInt) (h1 : k.toInt ≤ 100000) :
    (u_rnds k n x.2).1.toInt = zsum (w_a x.2 k.toInt) n ∧ (u_rnds k n x.2).2 = u_map (w_F k) n x.2 := by
  have key := it_inv (fun i (z : Int32 × UT) => (z.1.toInt = zsum (w_a x.2 k.toInt) i ∧ 0 ≤ zsum (w_a x.2 k.toInt) i ∧ zsum (w_a x.2 k.toInt) i ≤ 30000 * i) ∧ (∀ j, j < i → z.2 j = w_F k j (x.2 j)) ∧ ∀ j, i ≤ j → z.2 j = x.2 j)
    (fun i z => (z.1 + u_giv z.2 i (k * (10 * z.2 i 1)), u_put z.2 i (k * (10 * z.2 i 1)))) n (a := (0, x.2)) ⟨⟨rfl, by simp [zsum], by simp [zsum]⟩, fun j hj => absurd hj (Nat.not_lt_zero _), fun _ _ => rfl⟩ ?_
  · refine ⟨key.1.1, ?_⟩
    show (it (fun i z => (z.1 + u_giv z.2 i (k * (10 * z.2 i 1)), u_put z.2 i (k * (10 * z.2 i 1)))) (0, x.2) n).2 = _
    funext j
    by_cases c : j < n
    · rw [key.2.1 j c]; simp only [u_map, if_pos c]
    · rw [key.2.2 j (by omega)]; simp only [u_map, if_neg c]
  · rintro i ⟨g, v⟩ hi ⟨⟨s1, s2, s4⟩, h2, h3⟩
    simp only at s1 h2 h3 ⊢
    have hx := hJ.2 i hi
    have ev : v i = x.2 i := h3 i (Nat.le_refl _)
    have f := w_F2 (us := x.2) (t := k) (i := i) (c := k.toInt) h0 h1 rfl hx
    have eg : u_giv v i (k * (10 * v i 1)) = xmin (k * (10 * x.2 i 1)) (x.2 i 0 - x.2 i 2) := by unfold u_giv; rw [ev]
    have zs : zsum (w_a x.2 k.toInt) (i + 1) = zsum (w_a x.2 k.toInt) i + w_a x.2 k.toInt i := rfl
    refine ⟨⟨?_, ?_, ?_⟩, ?_, ?_⟩
    · rw [eg, ti_add (by rw [f.1]; omega) (by rw [f.1]; omega), f.1, s1, zs]
    · rw [zs]; omega
    · rw [zs]; omega
    · intro j hj
      show xup v i (xup (v i) 2 (v i 2 + u_giv v i (k * (10 * v i 1)))) j = _
      by_cases c : j = i
      · subst c
        rw [xup_self, eg, ev]; rfl
      · rw [xup_ne _ _ c]; exact h2 j (by omega)
    · intro j hj
      show xup _ _ _ _ = _
      rw [xup_far hj]
      exact h3 j (by omega)
theorem w_Js {n : Nat} {A : Int} {x : Int32 × UT} (hA : A ≤ 100000) (hJ : w_J n A x) (t : Nat) : w_J n A (it (fun _ y => w_M n y) x t) :=
  it_inv (fun _ y => w_J n A y) _ t hJ (fun _ _ _ h => w_J_M hA h)
/-- the class's k -/
theorem w_full {n : Nat} {A : Int} {x : Int32 × UT} (hn : n ≤ 5) (hA : A ≤ 100000) (hJ : w_J n A x) (hp : 0 < zsum (w_pi x.2) n) :
    (u_full n x.2 x.1).toInt = x.1.toInt / zsum (w_pi x.2) n := by
  have h := w_por hn hJ
  unfold u_full
  rw [if_neg (by rw [ti_le, h.1, ti_0]; omega), ti_div hJ.1.1 (by rw [h.1]; omega), h.1]
theorem w_k {n : Nat} {A : Int} {x : Int32 × UT} (hn : n ≤ 5) (hA : A ≤ 100000) (hJ : w_J n A x) :
    0 ≤ (u_full n x.2 x.1).toInt ∧ (u_full n x.2 x.1).toInt ≤ 100000 ∧ (u_full n x.2 x.1).toInt * zsum (w_pi x.2) n ≤ x.1.toInt := by
  have h := w_por hn hJ
  have hl := hJ.1
  have hz : 0 ≤ zsum (fun i => (x.2 i 2).toInt) n := zsum_nn _ _ (fun i hi => (hJ.2 i hi).2.1)
  by_cases c : 0 < zsum (w_pi x.2) n
  · rw [w_full hn hA hJ c]
    have h1 : x.1.toInt / zsum (w_pi x.2) n ≤ x.1.toInt := Int.ediv_le_self _ hl.1
    have h2 : 0 ≤ x.1.toInt / zsum (w_pi x.2) n := Int.ediv_nonneg hl.1 h.2
    have h3 : x.1.toInt / zsum (w_pi x.2) n * zsum (w_pi x.2) n ≤ x.1.toInt := Int.ediv_mul_le _ (by omega)
    omega
  · have e : u_full n x.2 x.1 = 0 := by unfold u_full; rw [if_pos (by rw [ti_le, h.1, ti_0]; omega)]
    rw [e, ti_0, Int.zero_mul]
    omega
/-- a pass of the class: so many rounds of the model -/
theorem w_pass {n : Nat} {A : Int} {x : Int32 × UT} (hn : n ≤ 5) (hA : A ≤ 100000) (hJ : w_J n A x) :
    u_pass n x = it (fun _ y => w_M n y) x ((u_full n x.2 x.1).toInt.toNat + 1) := by
  obtain ⟨k1, k2, k3⟩ := w_k hn hA hJ
  obtain ⟨r1, r2⟩ := w_rnds hn hJ (u_full n x.2 x.1) k1 k2
  unfold u_pass
  generalize u_full n x.2 x.1 = k at *
  have ek : ((k.toInt.toNat : Nat) : Int) = k.toInt := Int.toNat_of_nonneg k1
  have en : nI k.toInt.toNat = k := ti_ext (by rw [xnI_toInt (by omega), ek])
  obtain ⟨m1, m2⟩ := w_many hA hJ k.toInt.toNat (by rw [ek]; exact k3) (by omega)
  rw [ek] at m1
  rw [en] at m2
  rw [it_s]
  have hJ2 := w_Js hA hJ k.toInt.toNat
  generalize it (fun _ y => w_M n y) x k.toInt.toNat = y at *
  have hl := hJ.1
  have hl2 := hJ2.1
  have hz : 0 ≤ zsum (fun i => (x.2 i 2).toInt) n := zsum_nn _ _ (fun i hi => (hJ.2 i hi).2.1)
  have e1 : (x.1 - (u_rnds k n x.2).1, (u_rnds k n x.2).2) = y := by
    refine Prod.ext (ti_ext ?_) (by rw [r2, m2])
    show (x.1 - (u_rnds k n x.2).1).toInt = _
    have hz2 : 0 ≤ zsum (fun i => (y.2 i 2).toInt) n := zsum_nn _ _ (fun i hi => (hJ2.2 i hi).2.1)
    rw [ti_sub (by omega) (by omega), r1, m1]
  rw [e1]
  exact w_rnd hA hJ2
/-! each pass closes a user or ends -/
def w_oc (us : UT) (i : Nat) : Int := if (us i 2).toInt < (us i 0).toInt then 1 else 0
theorem zsum_pt {f : Nat → Int} {n i : Nat} (hi : i < n) (h : ∀ j, j < n → 0 ≤ f j) : f i ≤ zsum f n := by
  have h1 := zsum_mono f (show i + 1 ≤ n by omega) h
  have h2 := zsum_nn f i (fun j hj => h j (by omega))
  simp only [zsum] at h1
  omega
theorem zsum_lt {f g : Nat → Int} {n i : Nat} (hi : i < n) (h : ∀ j, j < n → f j ≤ g j) (h1 : f i + 1 ≤ g i) : zsum f n + 1 ≤ zsum g n := by
  have := zsum_pt (f := fun j => g j - f j) hi (fun j hj => by have := h j hj; omega)
  rw [zsum_sub] at this
  have m1 : zsum (fun i => g i) n = zsum g n := rfl
  have m2 : zsum (fun i => f i) n = zsum f n := rfl
  omega
/-- nothing is taken back, and the rest of a row stays -/
def w_le (us vs : UT) : Prop := ∀ i, us i 0 = vs i 0 ∧ us i 1 = vs i 1 ∧ (us i 2).toInt ≤ (vs i 2).toInt
theorem w_le_M {n : Nat} {A : Int} {x : Int32 × UT} (hA : A ≤ 100000) (hJ : w_J n A x) : w_le x.2 (w_M n x).2 := by
  refine (it_inv (fun _ (y : Int32 × UT) => w_J n A y ∧ w_le x.2 y.2) _ n ⟨hJ, fun i => ⟨rfl, rfl, Int.le_refl _⟩⟩ ?_).2
  rintro i y hi ⟨h, hl⟩
  have hs := w_step hA h hi
  refine ⟨hs.2.2, ?_⟩
  intro j
  show x.2 j 0 = xup y.2 i (xup (y.2 i) 2 (y.2 i 2 + m_g y.2 i (10 * y.2 i 1) y.1)) j 0 ∧ x.2 j 1 = xup y.2 i (xup (y.2 i) 2 (y.2 i 2 + m_g y.2 i (10 * y.2 i 1) y.1)) j 1 ∧ (x.2 j 2).toInt ≤ (xup y.2 i (xup (y.2 i) 2 (y.2 i 2 + m_g y.2 i (10 * y.2 i 1) y.1)) j 2).toInt
  by_cases c : j = i
  · subst c
    have h3 := h.2 j hi
    have hl0 := h.1.1
    rw [xup_self, xup_ne _ _ (show (0 : Nat) ≠ 2 by decide), xup_ne _ _ (show (1 : Nat) ≠ 2 by decide), xup_self, ti_add (by rw [hs.1]; omega) (by rw [hs.1]; omega), hs.1]
    have := hl j
    refine ⟨this.1, this.2.1, by omega⟩
  · rw [xup_ne _ _ c]; exact hl j
theorem w_le_its {n : Nat} {A : Int} {x : Int32 × UT} (hA : A ≤ 100000) (hJ : w_J n A x) (t : Nat) : w_le x.2 (it (fun _ y => w_M n y) x t).2 := by
  refine (it_inv (fun _ (y : Int32 × UT) => w_J n A y ∧ w_le x.2 y.2) _ t ⟨hJ, fun i => ⟨rfl, rfl, Int.le_refl _⟩⟩ ?_).2
  rintro i y hi ⟨h, hl⟩
  refine ⟨w_J_M hA h, ?_⟩
  intro j
  have h1 := hl j
  have h2 := w_le_M hA h j
  exact ⟨h1.1.trans h2.1, h1.2.1.trans h2.2.1, by omega⟩
/-- a round that the water may not last for -/
theorem w_last {n : Nat} {A : Int} {x : Int32 × UT} (hA : A ≤ 100000) (hJ : w_J n A x) (hs : x.1.toInt < zsum (w_pi x.2) n) :
    (w_M n x).1.toInt = 0 ∨ ∃ j, j < n ∧ (x.2 j 2).toInt < (x.2 j 0).toInt ∧ ((w_M n x).2 j 2).toInt = (x.2 j 0).toInt := by
  have key := it_inv (fun i (y : Int32 × UT) => w_J n A y ∧ (y.1.toInt = 0 ∨ (∃ j, j < i ∧ (x.2 j 2).toInt < (x.2 j 0).toInt ∧ (y.2 j 2).toInt = (x.2 j 0).toInt) ∨ y.1.toInt ≤ x.1.toInt - zsum (w_pi x.2) i) ∧ ∀ j, i ≤ j → y.2 j = x.2 j)
    (fun i y => m_giv y i (10 * y.2 i 1)) n (a := x) ⟨hJ, Or.inr (Or.inr (by simp [zsum])), fun _ _ => rfl⟩ ?_
  · have e : w_M n x = it (fun i y => m_giv y i (10 * y.2 i 1)) x n := rfl
    rw [e]
    rcases key.2.1 with h | ⟨j, hj, h1, h2⟩ | h
    · exact Or.inl h
    · exact Or.inr ⟨j, hj, h1, h2⟩
    · have := key.1.1.1; omega
  · rintro i ⟨lf, v⟩ hi ⟨hJy, h1, h3⟩
    have hst := w_step hA hJy hi
    simp only at h1 h3 hst
    have hy := hJy.2 i hi
    have hl := hJy.1.1
    have hx := hJ.2 i hi
    simp only at hy hl
    have ev : v i = x.2 i := h3 i (Nat.le_refl _)
    have hlf := ti_rng lf
    refine ⟨hst.2.2, ?_, ?_⟩
    · have s1 : (lf - m_g v i (10 * v i 1) lf).toInt = lf.toInt - (m_g v i (10 * v i 1) lf).toInt := ti_sub (by rw [hst.1]; omega) (by rw [hst.1]; omega)
      have s2 : (v i 2 + m_g v i (10 * v i 1) lf).toInt = (v i 2).toInt + (m_g v i (10 * v i 1) lf).toInt := ti_add (by rw [hst.1]; omega) (by rw [hst.1]; omega)
      have hg := hst.1
      show (lf - m_g v i (10 * v i 1) lf).toInt = 0 ∨ (∃ j, j < i + 1 ∧ (x.2 j 2).toInt < (x.2 j 0).toInt ∧ (xup v i (xup (v i) 2 (v i 2 + m_g v i (10 * v i 1) lf)) j 2).toInt = (x.2 j 0).toInt) ∨ (lf - m_g v i (10 * v i 1) lf).toInt ≤ x.1.toInt - zsum (w_pi x.2) (i + 1)
      rcases h1 with h1 | ⟨j, hj, h4, h5⟩ | h1
      · left; omega
      · right; left
        exact ⟨j, by omega, h4, by rw [xup_ne _ _ (by omega)]; exact h5⟩
      · have zs : zsum (w_pi x.2) (i + 1) = zsum (w_pi x.2) i + w_pi x.2 i := rfl
        rw [ev] at hg s2 hy
        by_cases c0 : (x.2 i 0).toInt - (x.2 i 2).toInt ≤ 0
        · have e : w_pi x.2 i = 0 := if_pos c0
          right; right
          rw [s1, zs, ev]; omega
        · have e : w_pi x.2 i = 10 * (x.2 i 1).toInt := if_neg c0
          by_cases c1 : lf.toInt ≤ min ((x.2 i 0).toInt - (x.2 i 2).toInt) (10 * (x.2 i 1).toInt)
          · left
            rw [s1, ev]; omega
          · by_cases c2 : (x.2 i 0).toInt - (x.2 i 2).toInt ≤ 10 * (x.2 i 1).toInt
            · right; left
              refine ⟨i, by omega, by omega, ?_⟩
              rw [xup_self, xup_self, ev, s2]
              omega
            · right; right
              rw [s1, zs, ev]; omega
    · intro j hj
      show xup _ _ _ _ = _
      rw [xup_far hj]
      exact h3 j (by omega)
theorem w_prog {n : Nat} {A D : Int} {x : Int32 × UT} (hn : n ≤ 5) (hA : A ≤ 100000) (hJ : w_J n A x) (hD : A < D) (hd : zsum (fun i => (x.2 i 0).toInt) n = D) (h0 : 0 < x.1.toInt) :
    (u_pass n x).1.toInt = 0 ∨ zsum (w_oc (u_pass n x).2) n + 1 ≤ zsum (w_oc x.2) n := by
  obtain ⟨k1, k2, k3⟩ := w_k hn hA hJ
  have hpi0 : ∀ i, i < n → 0 ≤ w_pi x.2 i := fun i hi => by have := hJ.2 i hi; unfold w_pi; split <;> omega
  -- somebody lacks
  have hpos : 0 < zsum (w_pi x.2) n := by
    rcases Int.lt_or_le 0 (zsum (w_pi x.2) n) with h | h
    · exact h
    · have h1 : zsum (fun i => (x.2 i 0).toInt) n ≤ zsum (fun i => (x.2 i 2).toInt) n := by
        refine zsum_le _ _ _ (fun i hi => ?_)
        have h2 := zsum_pt hi hpi0
        have h3 := hJ.2 i hi
        have h4 := hpi0 i hi
        have h5 : w_pi x.2 i = 0 := by omega
        unfold w_pi at h5
        by_cases c : (x.2 i 0).toInt - (x.2 i 2).toInt ≤ 0
        · omega
        · rw [if_neg c] at h5; omega
      have := hJ.1.2
      omega
  have hfull := w_full hn hA hJ hpos
  have hps := w_pass hn hA hJ
  rw [hps]
  generalize u_full n x.2 x.1 = k at *
  have ek : ((k.toInt.toNat : Nat) : Int) = k.toInt := Int.toNat_of_nonneg k1
  have en : nI k.toInt.toNat = k := ti_ext (by rw [xnI_toInt (by omega), ek])
  obtain ⟨m1, m2⟩ := w_many hA hJ k.toInt.toNat (by rw [ek]; exact k3) (by omega)
  rw [ek] at m1
  rw [en] at m2
  have hJ2 := w_Js hA hJ k.toInt.toNat
  have hJ3 := w_Js hA hJ (k.toInt.toNat + 1)
  have hle3 := w_le_its hA hJ (k.toInt.toNat + 1)
  have hle2 := w_le_M hA hJ2
  have hsm : it (fun _ y => w_M n y) x (k.toInt.toNat + 1) = w_M n (it (fun _ y => w_M n y) x k.toInt.toNat) := rfl
  rw [hsm] at hJ3 hle3 ⊢
  generalize it (fun _ y => w_M n y) x k.toInt.toNat = y at *
  -- who is closed makes the number less
  have close : ∀ j, j < n → (x.2 j 2).toInt < (x.2 j 0).toInt → ((w_M n y).2 j 2).toInt = (x.2 j 0).toInt → zsum (w_oc (w_M n y).2) n + 1 ≤ zsum (w_oc x.2) n := by
    intro j hj c1 c2
    refine zsum_lt hj ?_ ?_
    · intro i hi
      have h1 := hle3 i
      have h2 := (hJ3.2 i hi).2
      unfold w_oc
      rw [← h1.1]
      by_cases c : (x.2 i 2).toInt < (x.2 i 0).toInt
      · rw [if_pos c]; split <;> omega
      · rw [if_neg c, if_neg (by omega)]; omega
    · unfold w_oc
      rw [if_pos c1, ← (hle3 j).1, if_neg (by omega)]; omega
  by_cases hA1 : ∃ j, j < n ∧ (x.2 j 2).toInt < (x.2 j 0).toInt ∧ w_a x.2 k.toInt j = (x.2 j 0).toInt - (x.2 j 2).toInt
  · right
    obtain ⟨j, hj, c1, c2⟩ := hA1
    refine close j hj c1 ?_
    have e1 : y.2 j = w_F k j (x.2 j) := by rw [m2]; simp only [u_map, if_pos hj]
    have e2 := (w_F2 (us := x.2) (t := k) (i := j) (c := k.toInt) k1 k2 rfl (hJ.2 j hj)).2.1
    have e3 : (y.2 j 2).toInt = (x.2 j 2).toInt + w_a x.2 k.toInt j := by rw [e1]; unfold w_F; rw [xup_self, e2]
    have h1 := hle3 j
    have h2 := hle2 j
    have h3 := (hJ3.2 j hj).2.2
    rw [← h1.1] at h3
    omega
  · have hnone : ∀ j, j < n → w_a x.2 k.toInt j = k.toInt * w_pi x.2 j ∧ w_pi y.2 j = w_pi x.2 j := by
      intro j hj
      have hx := hJ.2 j hj
      have e1 : y.2 j = w_F k j (x.2 j) := by rw [m2]; simp only [u_map, if_pos hj]
      have e2 := (w_F2 (us := x.2) (t := k) (i := j) (c := k.toInt) k1 k2 rfl hx)
      have e3 : (y.2 j 2).toInt = (x.2 j 2).toInt + w_a x.2 k.toInt j := by rw [e1]; unfold w_F; rw [xup_self, e2.2.1]
      have e4 : y.2 j 0 = x.2 j 0 := by rw [e1]; exact xup_ne _ _ (by decide)
      have e5 : y.2 j 1 = x.2 j 1 := by rw [e1]; exact xup_ne _ _ (by decide)
      have tP := (w_tP (t := k) (w := x.2 j 1) (c := k.toInt) k1 k2 hx.1.2 rfl).2.1
      unfold w_pi
      rw [e4, e5, e3]
      by_cases c : (x.2 j 0).toInt - (x.2 j 2).toInt ≤ 0
      · have : w_a x.2 k.toInt j = 0 := by unfold w_a; omega
        rw [if_pos c, if_pos (by omega), Int.mul_zero]
        exact ⟨this, rfl⟩
      · have hne : w_a x.2 k.toInt j ≠ (x.2 j 0).toInt - (x.2 j 2).toInt := fun h => hA1 ⟨j, hj, by omega, h⟩
        rw [if_neg c, if_neg (by omega)]
        refine ⟨?_, rfl⟩
        unfold w_a at hne ⊢
        omega
    have es : zsum (w_a x.2 k.toInt) n = k.toInt * zsum (w_pi x.2) n := by
      rw [← zsum_mul]
      exact zsum_eq _ _ _ (fun j hj => (hnone j hj).1)
    have ep : zsum (w_pi y.2) n = zsum (w_pi x.2) n := zsum_eq _ _ _ (fun j hj => (hnone j hj).2)
    have hlt : x.1.toInt < (k.toInt + 1) * zsum (w_pi x.2) n := by
      rw [hfull]
      exact Int.lt_ediv_add_one_mul_self _ hpos
    rw [Int.add_mul, Int.one_mul] at hlt
    rcases w_last hA hJ2 (by rw [ep]; omega) with h | ⟨j, hj, c1, c2⟩
    · exact Or.inl h
    · right
      have e1 : y.2 j = w_F k j (x.2 j) := by rw [m2]; simp only [u_map, if_pos hj]
      have e4 : y.2 j 0 = x.2 j 0 := by rw [e1]; exact xup_ne _ _ (by decide)
      have e2 := (w_F2 (us := x.2) (t := k) (i := j) (c := k.toInt) k1 k2 rfl (hJ.2 j hj))
      have e3 : (y.2 j 2).toInt = (x.2 j 2).toInt + w_a x.2 k.toInt j := by rw [e1]; unfold w_F; rw [xup_self, e2.2.1]
      rw [e4] at c1 c2
      exact close j hj (by omega) c2
theorem w_dem {n : Nat} {us vs : UT} (h : w_le us vs) : zsum (fun i => (vs i 0).toInt) n = zsum (fun i => (us i 0).toInt) n := zsum_eq _ _ _ (fun i _ => by rw [(h i).1])
/-- the class's passes: rounds of the model, and enough of them -/
theorem w_all {n : Nat} {A : Int32} {us : UT} (hn : n ≤ 5) (ho : u_ok n us) (hz : u_z n us) (hA0 : 0 ≤ A.toInt) (hA : A.toInt ≤ 100000) (hD : A.toInt < (u_dem n us).toInt) :
    ∃ m, m ≤ 600006 ∧ (∀ j, j < m → 0 < (it (fun _ y => w_M n y) (A, us) j).1) ∧ (it (fun _ y => w_M n y) (A, us) m).1 = 0 ∧ (it (fun _ y => w_M n y) (A, us) m).2 = (u_wts n (A, us)).2 := by
  have hD1 := ti_isum (fun i => us i 0) n 30000 (by omega) (by omega) (fun i hi => (ho i hi).1)
  have hd : (u_dem n us).toInt = zsum (fun i => (us i 0).toInt) n := hD1.1
  have hJ : w_J n A.toInt (A, us) := by
    refine ⟨⟨hA0, ?_⟩, ?_⟩
    · show A.toInt + zsum (fun i => (us i 2).toInt) n = A.toInt
      rw [zsum_eq _ (fun _ => 0 * (0 : Int)) n (fun i hi => by rw [hz i hi]; rfl), zsum_mul]; omega
    · intro i hi
      have := ho i hi
      have z : (us i 2).toInt = 0 := by rw [hz i hi]; rfl
      refine ⟨this, ?_, ?_⟩
      · show 0 ≤ (us i 2).toInt
        omega
      · show (us i 2).toInt ≤ (us i 0).toInt
        omega
  have key := it_inv (fun p (y : Int32 × UT) => w_J n A.toInt y ∧ (∃ M, M ≤ p * 100001 ∧ y = it (fun _ y => w_M n y) (A, us) M) ∧ (y.1.toInt = 0 ∨ zsum (w_oc y.2) n + p ≤ n))
    (fun _ x => if x.1 ≤ 0 then x else u_pass n x) (n + 1) (a := (A, us)) ⟨hJ, ⟨0, by omega, rfl⟩, Or.inr ?_⟩ ?_
  · obtain ⟨h1, ⟨M, hM, e⟩, h3⟩ := key
    have e2 : it (fun _ x => if x.1 ≤ 0 then x else u_pass n x) (A, us) (n + 1) = u_wts n (A, us) := rfl
    rw [e2] at e h1 h3
    have hl : (u_wts n (A, us)).1.toInt = 0 := by
      rcases h3 with h | h
      · exact h
      · have := zsum_nn (w_oc (u_wts n (A, us)).2) n (fun i _ => by unfold w_oc; split <;> omega)
        omega
    rw [e] at hl
    obtain ⟨m, f1, f2, f3, f4⟩ := w_first hA M (A, us) hJ hl
    have hM2 : (n + 1) * 100001 ≤ 600006 := by omega
    exact ⟨m, by omega, f2, f3, by rw [f4, ← e]⟩
  · have : zsum (w_oc us) n ≤ zsum (fun _ => (1 : Int) * 1) n := zsum_le _ _ _ (fun i _ => by unfold w_oc; split <;> omega)
    have h1 : ∀ m : Nat, zsum (fun _ => (1 : Int) * 1) m = m := by
      intro m
      induction m with
      | zero => rfl
      | succ m ih => simp only [zsum] at *; rw [ih]; omega
    rw [h1] at this
    show zsum (w_oc us) n + ((0 : Nat) : Int) ≤ n
    omega
  · rintro p y hp ⟨h1, ⟨M, hM, e⟩, h3⟩
    by_cases c : y.1 ≤ 0
    · rw [if_pos c]
      have c0 : y.1.toInt = 0 := by rw [ti_le, ti_0] at c; have := h1.1.1; omega
      exact ⟨h1, ⟨M, Nat.le_trans hM (Nat.mul_le_mul_right _ (Nat.le_succ p)), e⟩, Or.inl c0⟩
    · rw [if_neg c]
      rw [ti_le, ti_0] at c
      obtain ⟨k1, k2, k3⟩ := w_k hn hA h1
      have hps := w_pass hn hA h1
      have hle : w_le us y.2 := by rw [e]; exact w_le_its hA hJ M
      have hdd : zsum (fun i => (y.2 i 0).toInt) n = (u_dem n us).toInt := by rw [hd]; exact w_dem hle
      refine ⟨?_, ⟨M + ((u_full n y.2 y.1).toInt.toNat + 1), by rw [Nat.add_mul p 1, Nat.one_mul]; omega, ?_⟩, ?_⟩
      · rw [hps]; exact w_Js hA h1 _
      · rw [hps, it_add (w_M n) (A, us) M, ← e]
      · rcases w_prog hn hA h1 hD hdd (by omega) with h | h
        · exact Or.inl h
        · rcases h3 with h3 | h3
          · omega
          · right; omega

