/-! What each user gets on a day. -/
def EI (n : Nat) (us v : UT) : Prop := ∀ j, j < n → v j 0 = us j 0 ∧ v j 3 = us j 3 ∧ 0 ≤ (v j 2).toInt ∧ (v j 2).toInt ≤ (us j 0).toInt
theorem EI_put {n : Nat} {us v : UT} (ho : u_ok n us) (h : EI n us v) {i : Nat} (hi : i < n) {x : Int32} (hx : 0 ≤ x.toInt) : EI n us (u_put v i x) ∧ 0 ≤ (u_giv v i x).toInt ∧ (u_giv v i x).toInt ≤ x.toInt := by
  obtain ⟨h1, h2, h3, h4⟩ := h i hi
  have ho2 := ho i hi
  have hu := u_giv_ti (us := v) (u := i) x (by rw [h1]; omega) (by rw [h1]; omega)
  rw [h1] at hu
  have s2 : (v i 2 + u_giv v i x).toInt = (v i 2).toInt + (u_giv v i x).toInt := ti_add (by omega) (by omega)
  refine ⟨fun j hj => ?_, by omega, by omega⟩
  show xup v i (xup (v i) 2 (v i 2 + u_giv v i x)) j 0 = us j 0 ∧ xup v i (xup (v i) 2 (v i 2 + u_giv v i x)) j 3 = us j 3 ∧ 0 ≤ (xup v i (xup (v i) 2 (v i 2 + u_giv v i x)) j 2).toInt ∧ (xup v i (xup (v i) 2 (v i 2 + u_giv v i x)) j 2).toInt ≤ (us j 0).toInt
  by_cases c : j = i
  · subst c
    rw [xup_self, xup_ne _ _ (show (0 : Nat) ≠ 2 by decide), xup_ne _ _ (show (3 : Nat) ≠ 2 by decide), xup_self, s2]
    exact ⟨h1, h2, by omega, by omega⟩
  · rw [xup_ne _ _ c]; exact h j hj
theorem EI_z {n : Nat} {us : UT} (ho : u_ok n us) (hz : u_z n us) : EI n us us := fun j hj => by
  have z : (us j 2).toInt = 0 := by rw [hz j hj]; rfl
  have := ho j hj
  exact ⟨rfl, rfl, by omega, by omega⟩
theorem EI_ord {n : Nat} {us v : UT} {s : Nat → Nat} (ho : u_ok n us) (h : EI n us v) (hs : ∀ j, j < n → s j < n) {A : Int32} (hA : 0 ≤ A.toInt) : EI n us (u_ord s n (A, v)).2 := by
  refine (it_inv (fun _ (x : Int32 × UT) => 0 ≤ x.1.toInt ∧ EI n us x.2) _ n ⟨hA, h⟩ ?_).2
  rintro i ⟨l, w⟩ hi ⟨h1, h2⟩
  simp only at h1 h2
  obtain ⟨g1, g2, g3⟩ := EI_put ho h2 (hs i hi) h1
  refine ⟨?_, g1⟩
  show 0 ≤ (l - u_giv w (s i) l).toInt
  have hl := ti_rng l
  rw [ti_sub (by omega) (by omega)]; omega
theorem EI_prop {n : Nat} {us v : UT} (ho : u_ok n us) (h : EI n us v) {A D : Int32} (hA : 0 ≤ A.toInt) (hD : A.toInt < D.toInt) (l : Int32) : EI n us (u_prop A D n (l, v)).2 := by
  refine it_inv (fun _ (x : Int32 × UT) => EI n us x.2) _ n h ?_
  rintro i ⟨l, w⟩ hi h2
  simp only at h2
  have ho2 := ho i hi
  have e : (u_prt A D w i).toInt = (us i 0).toInt * A.toInt / D.toInt := by
    unfold u_prt
    rw [(h2 i hi).1]
    exact ti_prt (by omega) (by omega) hA hD
  have hx : 0 ≤ (u_prt A D w i).toInt := by
    rw [e]; exact Int.ediv_nonneg (Int.mul_nonneg (by omega) hA) (by omega)
  exact (EI_put ho h2 hi hx).1
theorem EI_ones {n : Nat} {us v : UT} (ho : u_ok n us) (h : EI n us v) (l : Int32) : EI n us (u_ones n (l, v)).2 := by
  refine it_inv (fun _ (x : Int32 × UT) => EI n us x.2) _ n h ?_
  rintro i ⟨l, w⟩ hi h2
  simp only at h2 ⊢
  by_cases c : l ≤ 0
  · rw [if_pos c]; exact h2
  · rw [if_neg c]; exact (EI_put ho h2 hi (x := 1) (by rw [ti_1]; omega)).1
def u_c03 (us v : UT) : Prop := ∀ i, v i 0 = us i 0 ∧ v i 3 = us i 3
theorem u_c03_put {us v : UT} (h : u_c03 us v) (i : Nat) (x : Int32) : u_c03 us (u_put v i x) := by
  intro j
  show xup v i (xup (v i) 2 (v i 2 + u_giv v i x)) j 0 = us j 0 ∧ xup v i (xup (v i) 2 (v i 2 + u_giv v i x)) j 3 = us j 3
  by_cases c : j = i
  · subst c
    rw [xup_self, xup_ne _ _ (show (0 : Nat) ≠ 2 by decide), xup_ne _ _ (show (3 : Nat) ≠ 2 by decide)]; exact h j
  · rw [xup_ne _ _ c]; exact h j
theorem u_c03_wts {us v : UT} (h : u_c03 us v) (n : Nat) (A : Int32) : u_c03 us (u_wts n (A, v)).2 := by
  refine it_inv (fun _ (x : Int32 × UT) => u_c03 us x.2) _ (n + 1) h (fun i x _ hx => ?_)
  split
  · exact hx
  · refine it_inv (fun _ (x : Int32 × UT) => u_c03 us x.2) _ n ?_ (fun i x _ hx => u_c03_put hx _ _)
    exact it_inv (fun _ (x : Int32 × UT) => u_c03 us x.2) _ n hx (fun i x _ hx => u_c03_put hx _ _)
theorem EI_share {n : Nat} {us : UT} (hn : n ≤ 5) (ho : u_ok n us) (hz : u_z n us) {A : Int32} (hA0 : 0 ≤ A.toInt) (hA1 : A.toInt ≤ 100000) (hD : A.toInt < (u_dem n us).toInt) (rul : Int32) (od : Nat → Int32) : EI n us (u_share rul A (u_dem n us) n od us) := by
  have h0 := EI_z ho hz
  unfold u_share
  by_cases r0 : rul = 0
  · rw [if_pos r0]
    have h1 := EI_prop ho h0 hA0 hD A
    generalize u_prop A (u_dem n us) n (A, us) = y at h1 ⊢
    exact EI_ones ho h1 y.1
  · rw [if_neg r0]
    by_cases r1 : rul = 1
    · rw [if_pos r1]; exact EI_ord ho h0 (fun j hj => hj) hA0
    · rw [if_neg r1]
      by_cases r2 : rul = 2
      · rw [if_pos r2]
        obtain ⟨m, -, -, -, e⟩ := w_all hn ho hz hA0 hA1 hD
        have hJ : w_J n A.toInt (A, us) := by
          refine ⟨⟨hA0, ?_⟩, fun i hi => ?_⟩
          · show A.toInt + zsum (fun i => (us i 2).toInt) n = A.toInt
            rw [zsum_eq _ (fun _ => 0 * (0 : Int)) n (fun i hi => by rw [hz i hi]; rfl), zsum_mul]; omega
          · have z : (us i 2).toInt = 0 := by rw [hz i hi]; rfl
            have := ho i hi
            refine ⟨this, ?_, ?_⟩
            · show 0 ≤ (us i 2).toInt
              omega
            · show (us i 2).toInt ≤ (us i 0).toInt
              omega
        have hJ2 := (w_Js hA1 hJ m).2
        rw [e] at hJ2
        have hc := u_c03_wts (us := us) (v := us) (fun _ => ⟨rfl, rfl⟩) n A
        intro j hj
        have g := hJ2 j hj
        rw [(hc j).1] at g
        exact ⟨(hc j).1, (hc j).2, g.2.1, g.2.2⟩
      · rw [if_neg r2]
        exact EI_ord ho h0 (u_srt_ord (fun i => us i 0) n hn od).1 hA0
theorem u_ever_at {n i : Nat} {u : UT} (hi : i < n) : u_ever n u i = xup (u i) 3 (u i 3 + u i 2) := by
  have e : u_ever n u = u_map (fun _ r => xup r 3 (r 3 + r 2)) n u := it_map (fun _ r => xup r 3 (r 3 + r 2)) n u
  rw [e]
  simp only [u_map, if_pos hi]
/-- .. and what that makes in all -/
theorem hand_each {n : Nat} {us : UT} (hn : n ≤ 5) (ho : u_ok n us) {A : Int32} (hA0 : 0 ≤ A.toInt) (hA1 : A.toInt ≤ 100000) (rul : Int32) (od : Nat → Int32) :
    (∀ i, i < n → (u_hand A rul n od us).2 i 0 = us i 0 ∧ (u_hand A rul n od us).2 i 3 = us i 3 + (u_hand A rul n od us).2 i 2 ∧ 0 ≤ ((u_hand A rul n od us).2 i 2).toInt ∧ ((u_hand A rul n od us).2 i 2).toInt ≤ (us i 0).toInt) ∧
    (u_hand A rul n od us).1.toInt = zsum (fun i => ((u_hand A rul n od us).2 i 2).toInt) n := by
  have hc := clr2_ok ho
  have hz := clr2_z n us
  have hd := clr2_dem n us
  obtain ⟨W, hW⟩ : ∃ W, W = if A < u_dem n (u_clr2 n us) then u_share rul A (u_dem n (u_clr2 n us)) n od (u_clr2 n us) else (u_ord (fun i => i) n (u_dem n (u_clr2 n us), u_clr2 n us)).2 := ⟨_, rfl⟩
  have hE : EI n (u_clr2 n us) W := by
    by_cases q : A < u_dem n (u_clr2 n us)
    · rw [hW, if_pos q]
      rw [ti_lt] at q
      exact EI_share hn hc hz hA0 hA1 q rul od
    · rw [hW, if_neg q]
      rw [ti_lt] at q
      have hd1 := ti_isum (fun i => u_clr2 n us i 0) n 30000 (by omega) (by omega) (fun i hi => (hc i hi).1)
      have hd2 : (u_dem n (u_clr2 n us)).toInt = zsum (fun i => (u_clr2 n us i 0).toInt) n := hd1.1
      have hd3 := zsum_nn (fun i => (u_clr2 n us i 0).toInt) n (fun i hi => (hc i hi).1.1)
      exact EI_ord hc (EI_z hc hz) (fun j hj => hj) (by omega)
  have eh : u_hand A rul n od us = (isum (fun i => W i 2) n, u_ever n W) := by
    unfold u_hand; rw [← hW]; exact u_got_eq n W
  simp only [eh]
  have e2 : ∀ i, i < n → u_ever n W i 2 = W i 2 := fun i hi => by rw [u_ever_at hi, xup_ne _ _ (by decide)]
  refine ⟨fun i hi => ?_, ?_⟩
  · obtain ⟨g1, g2, g3, g4⟩ := hE i hi
    have r0 : u_clr2 n us i 0 = us i 0 := by rw [clr2_row, if_neg (by omega)]
    have r3 : u_clr2 n us i 3 = us i 3 := by rw [clr2_row, if_neg (by omega)]
    rw [r0] at g1 g4
    rw [r3] at g2
    refine ⟨?_, ?_, ?_, ?_⟩
    · rw [u_ever_at hi, xup_ne _ _ (by decide)]; exact g1
    · rw [e2 i hi, u_ever_at hi, xup_self, g2]
    · rw [e2 i hi]; exact g3
    · rw [e2 i hi]; exact g4
  · have h1 := ti_isum (fun i => W i 2) n 30000 (by omega) (by omega) (fun i hi => by
      have g := hE i hi
      have g0 := hc i hi
      omega)
    rw [h1.1]
    exact zsum_eq _ _ _ (fun i hi => by rw [e2 i hi])
