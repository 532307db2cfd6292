/-! Sharing in order and by demand: the model's passes and the class's. -/
def u_ok (n : Nat) (us : UT) : Prop := ∀ i, i < n → (0 ≤ (us i 0).toInt ∧ (us i 0).toInt ≤ 30000) ∧ 1 ≤ (us i 1).toInt ∧ (us i 1).toInt ≤ 9
def u_z (n : Nat) (us : UT) : Prop := ∀ i, i < n → us i 2 = 0
theorem i32_sub0 (a : Int32) : a - 0 = a := by rw [Int32.sub_zero]
theorem m_g_ti {us : UT} {u : Nat} (much lf : Int32) (h1 : -2147483648 ≤ (us u 0).toInt - (us u 2).toInt) (h2 : (us u 0).toInt - (us u 2).toInt < 2147483648) :
    (m_g us u much lf).toInt = min lf.toInt (min ((us u 0).toInt - (us u 2).toInt) much.toInt) := by
  have e := ti_sub h1 h2
  unfold m_g
  by_cases c1 : us u 0 - us u 2 ≤ much
  · rw [if_pos c1]
    by_cases c2 : lf ≤ us u 0 - us u 2
    · rw [if_pos c2]; rw [ti_le] at c1 c2; omega
    · rw [if_neg c2]; rw [ti_le] at c1 c2; omega
  · rw [if_neg c1]
    by_cases c2 : lf ≤ much
    · rw [if_pos c2]; rw [ti_le] at c1 c2; omega
    · rw [if_neg c2]; rw [ti_le] at c1 c2; omega
theorem u_giv_ti {us : UT} {u : Nat} (x : Int32) (h1 : -2147483648 ≤ (us u 0).toInt - (us u 2).toInt) (h2 : (us u 0).toInt - (us u 2).toInt < 2147483648) :
    (u_giv us u x).toInt = min x.toInt ((us u 0).toInt - (us u 2).toInt) := by
  unfold u_giv
  rw [ti_min, ti_sub h1 h2]
theorem m_giv_eq {us : UT} {u : Nat} {much lf x : Int32} (h : m_g us u much lf = u_giv us u x) : m_giv (lf, us) u much = (lf - u_giv us u x, u_put us u x) := by
  unfold m_giv u_put
  simp only [h]
theorem xup_far {us : UT} {i j : Nat} {r : Nat → Int32} (h : i + 1 ≤ j) : xup us i r j = us j := xup_ne _ _ (by omega)
theorem m_order {n : Nat} {us : UT} (hz : u_z n us) (A : Int32) : m_pass (fun us i => us i 0) n (A, us) = u_ord (fun i => i) n (A, us) := by
  refine (it_two (fun i (x y : Int32 × UT) => x = y ∧ ∀ j, i ≤ j → x.2 j = us j) _ _ n ⟨rfl, fun _ _ => rfl⟩ ?_).1
  rintro i ⟨lf, v⟩ y hi ⟨rfl, hj⟩
  have e : v i = us i := hj i (Nat.le_refl _)
  have z : v i 2 = 0 := by rw [e]; exact hz i hi
  have hg : m_g v i (v i 0) lf = u_giv v i lf := by
    unfold m_g u_giv xmin
    rw [z, i32_sub0, if_pos (Int32.le_refl _)]
    by_cases c : lf ≤ v i 0
    · rw [if_pos c, if_neg (Int32.not_lt.mpr c)]
    · rw [if_neg c, if_pos (Int32.not_le.mp c)]
  refine ⟨m_giv_eq hg, ?_⟩
  intro j h
  show xup _ _ _ _ = _
  rw [xup_far h]
  exact hj j (by omega)
theorem m_fill {n : Nat} {us : UT} (hn : n ≤ 5) (ho : u_ok n us) (hz : u_z n us) {A : Int32} (hA : u_dem n us ≤ A) :
    (m_pass (fun us i => us i 0) n (A, us)).2 = (u_ord (fun i => i) n (u_dem n us, us)).2 ∧ (m_pass (fun us i => us i 0) n (A, us)).1.toInt = A.toInt - (u_dem n us).toInt := by
  have hA0 := ti_rng A
  have hD := ti_isum (fun i => us i 0) n 30000 (by omega) (by omega) (fun i hi => (ho i hi).1)
  have hd : (u_dem n us).toInt = zsum (fun i => (us i 0).toInt) n := hD.1
  rw [ti_le] at hA
  have key := it_two (fun i (x y : Int32 × UT) => x.2 = y.2 ∧ (x.1.toInt = A.toInt - zsum (fun i => (us i 0).toInt) i ∧ y.1.toInt = (u_dem n us).toInt - zsum (fun i => (us i 0).toInt) i) ∧ ∀ j, i ≤ j → x.2 j = us j)
    (fun i x => m_giv x i (x.2 i 0)) (fun i x => (x.1 - u_giv x.2 i x.1, u_put x.2 i x.1)) n (a := (A, us)) (b := (u_dem n us, us)) ⟨rfl, ⟨by simp [zsum], by simp [zsum]⟩, fun _ _ => rfl⟩ ?_
  · refine ⟨key.1, ?_⟩
    show (it (fun i x => m_giv x i (x.2 i 0)) (A, us) n).1.toInt = _
    rw [key.2.1.1, hd]
  · rintro i ⟨lf, v⟩ ⟨l2, v2⟩ hi ⟨e2, ⟨h1, h2⟩, hj⟩
    subst e2
    simp only at h1 h2 hj ⊢
    have e : v i = us i := hj i (Nat.le_refl _)
    have z : v i 2 = 0 := by rw [e]; exact hz i hi
    have hi0 := ho i hi
    have m1 := zsum_mono (fun i => (us i 0).toInt) (show i + 1 ≤ n by omega) (fun i hi => (ho i hi).1.1)
    have m0 := zsum_nn (fun i => (us i 0).toInt) i (fun j hj => (ho j (by omega)).1.1)
    have zs : zsum (fun i => (us i 0).toInt) (i + 1) = zsum (fun i => (us i 0).toInt) i + (us i 0).toInt := rfl
    rw [zs] at m1
    have z2 : (us i 2).toInt = 0 := by rw [hz i hi]; rfl
    have g1 : m_g v i (v i 0) lf = us i 0 := by
      refine ti_ext ?_
      rw [m_g_ti _ _ (by rw [e]; omega) (by rw [e]; omega), e]
      omega
    have g2 : u_giv v i l2 = us i 0 := by
      refine ti_ext ?_
      rw [u_giv_ti _ (by rw [e]; omega) (by rw [e]; omega), e]
      omega
    have s1 : (lf - us i 0).toInt = lf.toInt - (us i 0).toInt := ti_sub (by omega) (by omega)
    have s2 : (l2 - us i 0).toInt = l2.toInt - (us i 0).toInt := ti_sub (by omega) (by omega)
    refine ⟨?_, ⟨?_, ?_⟩, ?_⟩
    · show xup _ _ _ = xup _ _ _
      rw [g1, g2]
    · show (lf - m_g v i (v i 0) lf).toInt = _
      rw [g1, s1, zs]; omega
    · show (l2 - u_giv v i l2).toInt = _
      rw [g2, s2, zs]; omega
    · intro j h
      show xup _ _ _ _ = _
      rw [xup_far h]
      exact hj j (by omega)
/-- what is given is what is gone -/
theorem isum_up (us : UT) (i : Nat) (r : Nat → Int32) (n : Nat) : isum (fun j => xup us i r j 2) n = (if i < n then isum (fun j => us j 2) n + (r 2 - us i 2) else isum (fun j => us j 2) n) := by
  induction n with
  | zero => rfl
  | succ n ih =>
    simp only [isum]
    rw [ih]
    by_cases h : i = n
    · subst h
      rw [if_neg (by omega), if_pos (by omega), xup_self]
      grind
    · by_cases h2 : i < n
      · rw [if_pos h2, if_pos (by omega), xup_ne _ _ (by omega)]
        grind
      · rw [if_neg h2, if_neg (by omega), xup_ne _ _ (by omega)]
theorem m_sum (mu : UT → Nat → Int32) (n : Nat) (x : Int32 × UT) : (m_pass mu n x).1 + isum (fun j => (m_pass mu n x).2 j 2) n = x.1 + isum (fun j => x.2 j 2) n := by
  refine it_inv (fun _ (y : Int32 × UT) => y.1 + isum (fun j => y.2 j 2) n = x.1 + isum (fun j => x.2 j 2) n) _ n rfl ?_
  intro i y hi h
  simp only [m_giv]
  rw [isum_up, if_pos hi, xup_self, ← h]
  grind
theorem m_keep (mu : UT → Nat → Int32) (n : Nat) (x : Int32 × UT) : ∀ i j, j ≠ 2 → (m_pass mu n x).2 i j = x.2 i j := by
  refine it_inv (fun _ (y : Int32 × UT) => ∀ i j, j ≠ 2 → y.2 i j = x.2 i j) _ n (fun _ _ _ => rfl) ?_
  intro i y hi h k j hj
  simp only [m_giv]
  by_cases e : k = i
  · subst e; rw [xup_self, xup_ne _ _ hj]; exact h _ j hj
  · rw [xup_ne _ _ e]; exact h k j hj

