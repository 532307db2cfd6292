/-! What is handed out: its bounds. -/
theorem u_ord_rng {n : Nat} {us : UT} {s : Nat → Nat} (ho : u_ok n us) (hz : u_z n us) (hs : ∀ j, j < n → s j < n) {A : Int32} (hA : 0 ≤ A.toInt) : 0 ≤ (u_ord s n (A, us)).1.toInt ∧ (u_ord s n (A, us)).1.toInt ≤ A.toInt := by
  refine (it_inv (fun _ (x : Int32 × UT) => (0 ≤ x.1.toInt ∧ x.1.toInt ≤ A.toInt) ∧ ∀ i, i < n → x.2 i 0 = us i 0 ∧ 0 ≤ (x.2 i 2).toInt ∧ (x.2 i 2).toInt ≤ (us i 0).toInt) _ n ⟨⟨hA, Int.le_refl _⟩, fun i hi => ?_⟩ ?_).1
  · have := ho i hi
    have z : (us i 2).toInt = 0 := by rw [hz i hi]; rfl
    refine ⟨rfl, ?_, ?_⟩
    · show 0 ≤ (us i 2).toInt
      omega
    · show (us i 2).toInt ≤ _
      omega
  · rintro i ⟨l, v⟩ hi ⟨h1, h2⟩
    simp only at h1 h2
    have hsi := hs i hi
    have hv := h2 (s i) hsi
    have ho2 := ho (s i) hsi
    have hl := ti_rng l
    have hA2 := ti_rng A
    have hu := u_giv_ti (us := v) (u := s i) l (by rw [hv.1]; omega) (by rw [hv.1]; omega)
    rw [hv.1] at hu
    have s1 : (l - u_giv v (s i) l).toInt = l.toInt - (u_giv v (s i) l).toInt := ti_sub (by omega) (by omega)
    have s2 : (v (s i) 2 + u_giv v (s i) l).toInt = (v (s i) 2).toInt + (u_giv v (s i) l).toInt := ti_add (by omega) (by omega)
    refine ⟨?_, ?_⟩
    · show 0 ≤ (l - u_giv v (s i) l).toInt ∧ (l - u_giv v (s i) l).toInt ≤ _
      omega
    · intro j hj
      show xup v (s i) (xup (v (s i)) 2 (v (s i) 2 + u_giv v (s i) l)) j 0 = us j 0 ∧ 0 ≤ (xup v (s i) (xup (v (s i)) 2 (v (s i) 2 + u_giv v (s i) l)) j 2).toInt ∧ (xup v (s i) (xup (v (s i)) 2 (v (s i) 2 + u_giv v (s i) l)) j 2).toInt ≤ (us j 0).toInt
      by_cases c : j = s i
      · subst c
        rw [xup_self, xup_ne _ _ (show (0 : Nat) ≠ 2 by decide), xup_self, s2]
        exact ⟨hv.1, by omega, by omega⟩
      · rw [xup_ne _ _ c]; exact h2 j hj
theorem u_mid {n : Nat} {us : UT} (hn : n ≤ 5) (ho : u_ok n us) (hz : u_z n us) {A : Int32} (hA0 : 0 ≤ A.toInt) (hA1 : A.toInt ≤ 100000) (rul : Int32) (od : Nat → Int32) :
    ∃ l : Int32, l + isum (fun j => (if A < u_dem n us then u_share rul A (u_dem n us) n od us else (u_ord (fun i => i) n (u_dem n us, us)).2) j 2) n = A ∧ (0 ≤ l.toInt ∧ l.toInt ≤ A.toInt) ∧ (¬ A < u_dem n us → l.toInt = A.toInt - (u_dem n us).toInt) := by
  have hs0 : isum (fun j => us j 2) n = 0 := isum_0 hz
  by_cases hq : A < u_dem n us
  · simp only [if_pos hq]
    have hqi := hq
    rw [ti_lt] at hqi
    by_cases r0 : rul = 0
    · simp only [u_share, if_pos r0]
      obtain ⟨m, m1, m2, m3, m4⟩ := m_prop2 hn ho hz hA0 hqi
      have hsum := its_sum (fun _ _ => 1) n (m_pass (m_prt A (u_dem n us)) n (A, us)) m
      rw [m_sum, hs0, m4] at hsum
      exact ⟨_, hsum.trans (i32_add0 A), by rw [m3, ti_0]; omega, fun h => absurd hq h⟩
    · by_cases r1 : rul = 1
      · simp only [u_share, if_neg r0, if_pos r1]
        have hsum := m_sum (fun us i => us i 0) n (A, us)
        rw [hs0, m_order hz] at hsum
        exact ⟨_, hsum.trans (i32_add0 A), u_ord_rng ho hz (fun j hj => hj) hA0, fun h => absurd hq h⟩
      · by_cases r2 : rul = 2
        · simp only [u_share, if_neg r0, if_neg r1, if_pos r2]
          obtain ⟨m, m1, m2, m3, m4⟩ := w_all hn ho hz hA0 hA1 hqi
          have hsum := its_sum (fun us i => 10 * us i 1) n (A, us) m
          have m5 : (it (fun _ y => m_pass (fun us i => 10 * us i 1) n y) (A, us) m).2 = (u_wts n (A, us)).2 := m4
          have m6 : (it (fun _ y => m_pass (fun us i => 10 * us i 1) n y) (A, us) m).1 = 0 := m3
          rw [hs0, m5] at hsum
          exact ⟨_, hsum.trans (i32_add0 A), by rw [m6, ti_0]; omega, fun h => absurd hq h⟩
        · simp only [u_share, if_neg r0, if_neg r1, if_neg r2]
          have hs := u_srt_ord (fun i => us i 0) n hn od
          have hsum := ss_sum (s := fun j => (u_srt (fun i => us i 0) n od j).toNatClampNeg) (n := n) hs.1 (A, us)
          rw [hs0, m_small hs hz] at hsum
          exact ⟨_, hsum.trans (i32_add0 A), u_ord_rng ho hz hs.1 hA0, fun h => absurd hq h⟩
  · simp only [if_neg hq]
    have hfl := m_fill hn ho hz (Int32.not_lt.mp hq)
    have hsum := m_sum (fun us i => us i 0) n (A, us)
    rw [hs0, hfl.1] at hsum
    have hq2 := hq
    rw [ti_lt] at hq2
    have hD1 := ti_isum (fun i => us i 0) n 30000 (by omega) (by omega) (fun i hi => (ho i hi).1)
    have hd : (u_dem n us).toInt = zsum (fun i => (us i 0).toInt) n := hD1.1
    have hd0 := zsum_nn (fun i => (us i 0).toInt) n (fun i hi => (ho i hi).1.1)
    exact ⟨_, hsum.trans (i32_add0 A), by rw [hfl.2]; omega, fun _ => hfl.2⟩
/-- what one day's hand-out is -/
theorem u_hand_rng {n : Nat} {us : UT} (hn : n ≤ 5) (ho : u_ok n us) {A : Int32} (hA0 : 0 ≤ A.toInt) (hA1 : A.toInt ≤ 100000) (rul : Int32) (od : Nat → Int32) :
    (0 ≤ (u_hand A rul n od us).1.toInt ∧ (u_hand A rul n od us).1.toInt ≤ A.toInt) ∧ (0 < (u_dem n us - (u_hand A rul n od us).1).toInt ↔ A < u_dem n us) := by
  obtain ⟨l, h1, h2, h3⟩ := u_mid hn (clr2_ok ho) (clr2_z n us) hA0 hA1 rul od
  have hh : (u_hand A rul n od us).1 = isum (fun j => (if A < u_dem n (u_clr2 n us) then u_share rul A (u_dem n (u_clr2 n us)) n od (u_clr2 n us) else (u_ord (fun i => i) n (u_dem n (u_clr2 n us), u_clr2 n us)).2) j 2) n := by
    unfold u_hand; rw [u_got_eq]
  rw [clr2_dem] at h3
  have e : (u_hand A rul n od us).1 = A - l := by rw [hh, ← h1]; grind
  have hg : (u_hand A rul n od us).1.toInt = A.toInt - l.toInt := by rw [e, ti_sub (by omega) (by omega)]
  have hD1 := ti_isum (fun i => us i 0) n 30000 (by omega) (by omega) (fun i hi => (ho i hi).1)
  have hd : (u_dem n us).toInt = zsum (fun i => (us i 0).toInt) n := hD1.1
  have hd0 := zsum_nn (fun i => (us i 0).toInt) n (fun i hi => (ho i hi).1.1)
  refine ⟨by omega, ?_⟩
  rw [ti_sub (by omega) (by omega), hg, ti_lt]
  by_cases hq : A < u_dem n us
  · rw [ti_lt] at hq; omega
  · have h4 := h3 hq
    rw [ti_lt] at hq; omega
/-- columns that a sharing leaves alone -/
def u_col (us vs : UT) : Prop := ∀ i, us i 0 = vs i 0 ∧ us i 1 = vs i 1
theorem u_col_put {us v : UT} {i : Nat} {r : Nat → Int32} {j : Nat} (h : u_col us v) (hj0 : j ≠ 0) (hj1 : j ≠ 1) {x : Int32} (hr : r = xup (v i) j x) : u_col us (xup v i r) := by
  intro k
  subst hr
  by_cases c : k = i
  · subst c; rw [xup_self, xup_ne _ _ (Ne.symm hj0), xup_ne _ _ (Ne.symm hj1)]; exact h _
  · rw [xup_ne _ _ c]; exact h k
theorem u_col_ord {us v : UT} (h : u_col us v) (s : Nat → Nat) (n : Nat) (A : Int32) : u_col us (u_ord s n (A, v)).2 :=
  it_inv (fun _ (x : Int32 × UT) => u_col us x.2) _ n h (fun i x _ hx => u_col_put hx (by decide) (by decide) rfl)
theorem u_col_hand (A rul : Int32) (n : Nat) (od : Nat → Int32) (us : UT) : u_col us (u_hand A rul n od us).2 := by
  unfold u_hand
  rw [u_got_eq]
  have h0 : u_col us (u_clr2 n us) := it_inv (fun _ (x : UT) => u_col us x) _ n (fun _ => ⟨rfl, rfl⟩) (fun i x _ hx => u_col_put hx (by decide) (by decide) rfl)
  refine it_inv (fun _ (x : UT) => u_col us x) _ n ?_ (fun i x _ hx => u_col_put hx (by decide) (by decide) rfl)
  by_cases hq : A < u_dem n (u_clr2 n us)
  · rw [if_pos hq]
    unfold u_share
    split
    · refine it_inv (fun _ (x : Int32 × UT) => u_col us x.2) _ n ?_ (fun i x _ hx => ?_)
      · exact it_inv (fun _ (x : Int32 × UT) => u_col us x.2) _ n h0 (fun i x _ hx => u_col_put hx (by decide) (by decide) rfl)
      · split
        · exact hx
        · exact u_col_put hx (by decide) (by decide) rfl
    · split
      · exact u_col_ord h0 _ _ _
      · split
        · refine it_inv (fun _ (x : Int32 × UT) => u_col us x.2) _ (n + 1) h0 (fun i x _ hx => ?_)
          split
          · exact hx
          · refine it_inv (fun _ (x : Int32 × UT) => u_col us x.2) _ n ?_ (fun i x _ hx => u_col_put hx (by decide) (by decide) rfl)
            exact it_inv (fun _ (x : Int32 × UT) => u_col us x.2) _ n hx (fun i x _ hx => u_col_put hx (by decide) (by decide) rfl)
        · exact u_col_ord h0 _ _ _
  · rw [if_neg hq]
    exact u_col_ord h0 _ _ _
theorem u_ok_col {n : Nat} {us vs : UT} (h : u_col us vs) (ho : u_ok n us) : u_ok n vs := by
  intro i hi
  have := h i
  rw [← this.1, ← this.2]; exact ho i hi
theorem u_dem_col {n : Nat} {us vs : UT} (h : u_col us vs) : u_dem n vs = u_dem n us := isum_eq _ _ _ (fun i _ => ((h i).1).symm)

