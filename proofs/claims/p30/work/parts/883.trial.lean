/-! Loops by relation, the order's uniqueness, and a day side by side. -/
theorem xloop_P {S R : Type} {body : S → Option (S ⊕ R)} {s0 : S} {fu : Nat} (P : Nat → S → Prop) (Q : R → Prop) (n : Nat) (h0 : P 0 s0)
    (hs : ∀ i s, i < n → P i s → (∃ s', body s = some (.inl s') ∧ P (i + 1) s') ∨ ∃ r, body s = some (.inr r) ∧ Q r) (he : ∀ s, P n s → ∃ r, body s = some (.inr r) ∧ Q r) (hf : n < fu) : ∃ r, xloop body fu s0 = some r ∧ Q r := by
  have key : ∀ (m k : Nat) (fu : Nat) (s : S), k + m = n → m < fu → P k s → ∃ r, xloop body fu s = some r ∧ Q r := by
    intro m
    induction m with
    | zero =>
      intro k fu s hk hf hP
      obtain ⟨f, rfl⟩ : ∃ f, fu = f + 1 := ⟨fu - 1, by omega⟩
      obtain ⟨r, e, hq⟩ := he s (by rw [← hk]; exact hP)
      exact ⟨r, by unfold xloop; rw [e], hq⟩
    | succ m ih =>
      intro k fu s hk hf hP
      obtain ⟨f, rfl⟩ : ∃ f, fu = f + 1 := ⟨fu - 1, by omega⟩
      rcases hs k s (by omega) hP with ⟨s', e, hP'⟩ | ⟨r, e, hq⟩
      · obtain ⟨r, e2, hq⟩ := ih (k + 1) f s' (by omega) (by omega) hP'
        exact ⟨r, by unfold xloop; rw [e]; exact e2, hq⟩
      · exact ⟨r, by unfold xloop; rw [e], hq⟩
  exact key n 0 fu s0 (by omega) hf h0
theorem z_uniq {d : Nat → Int32} {n : Nat} {s t : Nat → Nat} (hs : z_ord d n s) (ht : z_ord d n t) : ∀ k, k < n → s k = t k := by
  intro k
  induction k using Nat.strongRecOn with
  | _ k ih =>
    intro hk
    obtain ⟨s1, s2, s3⟩ := hs
    obtain ⟨t1, t2, t3⟩ := ht
    obtain ⟨j, hj, ej⟩ := t3 (s k) (s1 k hk)
    obtain ⟨i, hi, ei⟩ := s3 (t k) (t1 k hk)
    have hjk : k ≤ j := by
      rcases Nat.lt_or_ge j k with h | h
      · have e := ih j h hj
        have l := s2 j k h hk
        rw [e, ej] at l
        unfold z_lt at l; omega
      · exact h
    have hik : k ≤ i := by
      rcases Nat.lt_or_ge i k with h | h
      · have e := ih i h hi
        have l := t2 i k h hk
        rw [← e, ei] at l
        unfold z_lt at l; omega
      · exact h
    by_cases c : j = k
    · subst c; exact ej.symm
    · by_cases c2 : i = k
      · subst c2; exact ei
      · have l1 := t2 k j (by omega) hj
        have l2 := s2 k i (by omega) hi
        rw [ej] at l1
        rw [ei] at l2
        unfold z_lt at l1 l2; omega
theorem u_ord_congr {s t : Nat → Nat} {n : Nat} (h : ∀ k, k < n → s k = t k) (x : Int32 × UT) : u_ord s n x = u_ord t n x := by
  refine it_two (fun _ (a b : Int32 × UT) => a = b) _ _ n rfl ?_
  rintro i a b hi rfl
  rw [h i hi]
theorem u_hand_od (A rul : Int32) {n : Nat} (hn : n ≤ 5) (od od' : Nat → Int32) (us : UT) : u_hand A rul n od us = u_hand A rul n od' us := by
  have e : ∀ us, u_share rul A (u_dem n us) n od us = u_share rul A (u_dem n us) n od' us := by
    intro us
    unfold u_share
    rw [u_ord_congr (z_uniq (u_srt_ord (fun i => us i 0) n hn od) (u_srt_ord (fun i => us i 0) n hn od'))]
  unfold u_hand
  rw [e]
def od0 : Nat → Int32 := fun _ => 0
theorem s_hand_od (cap flo eva rul lev inf : Int32) {n : Nat} (hn : n ≤ 5) (od : Nat → Int32) (us : UT) : s_hand cap flo eva rul lev inf n od us = s_hand cap flo eva rul lev inf n od0 us := u_hand_od _ _ hn _ _ _
theorem s_lev4_od (cap flo eva rul lev inf : Int32) {n : Nat} (hn : n ≤ 5) (od : Nat → Int32) (us : UT) : s_lev4 cap flo eva rul lev inf n od us = s_lev4 cap flo eva rul lev inf n od0 us := by unfold s_lev4; rw [s_hand_od _ _ _ _ _ _ hn]
theorem s_mains_od (cap flo top eva rul lev inf : Int32) {n : Nat} (hn : n ≤ 5) (od : Nat → Int32) (us : UT) : s_mains cap flo top eva rul lev inf n od us = s_mains cap flo top eva rul lev inf n od0 us := by unfold s_mains; rw [s_lev4_od _ _ _ _ _ _ hn]
theorem s_lev5_od (cap flo top eva rul lev inf : Int32) {n : Nat} (hn : n ≤ 5) (od : Nat → Int32) (us : UT) : s_lev5 cap flo top eva rul lev inf n od us = s_lev5 cap flo top eva rul lev inf n od0 us := by unfold s_lev5; rw [s_lev4_od _ _ _ _ _ _ hn, s_mains_od _ _ _ _ _ _ _ hn]
theorem s_lack_od (cap flo eva rul lev inf : Int32) {n : Nat} (hn : n ≤ 5) (od : Nat → Int32) (us : UT) : s_lack cap flo eva rul lev inf n od us = s_lack cap flo eva rul lev inf n od0 us := by unfold s_lack; rw [s_hand_od _ _ _ _ _ _ hn]
/-! roofs side by side: the class's six cells, the model's five -/
def R5 (k : Nat) (rf rg : UT) : Prop := ∀ i, i < k → ∀ j, j < 5 → rf i j = rg i j
theorem R5_ok {k : Nat} {rf rg : UT} (h : R5 k rf rg) (ho : r_ok k rf) : r_ok k rg := by
  intro i hi
  rw [← h i hi 0 (by decide), ← h i hi 1 (by decide), ← h i hi 2 (by decide), ← h i hi 3 (by decide), ← h i hi 4 (by decide)]
  exact ho i hi
theorem R5_drn {k : Nat} {rf rg : UT} (h : R5 k rf rg) (lim dry rain : Int32) : (c_drn k lim dry rain rf).1 = (c_drn k lim dry rain rg).1 ∧ R5 k (c_drn k lim dry rain rf).2 (c_drn k lim dry rain rg).2 ∧ ∀ i, (c_drn k lim dry rain rf).2 i 5 = rf i 5 := by
  unfold c_drn
  split
  · split
    · exact ⟨rfl, h, fun _ => rfl⟩
    · have key := it_two (fun _ (x y : Int32 × UT) => x.1 = y.1 ∧ R5 k x.2 y.2 ∧ ∀ i, x.2 i 5 = rf i 5) (fun i x => (x.1 + x.2 i 4, xup x.2 i (xup (x.2 i) 4 0))) (fun i x => (x.1 + x.2 i 4, xup x.2 i (xup (x.2 i) 4 0))) k (a := (0, rf)) (b := (0, rg)) ⟨rfl, h, fun _ => rfl⟩ ?_
      · exact key
      · rintro i ⟨a, v⟩ ⟨a2, w⟩ hi ⟨h1, h2, h3⟩
        simp only at h1 h2 h3 ⊢
        refine ⟨by rw [h1, h2 i hi 4 (by decide)], ?_, ?_⟩
        · intro j hj l hl
          by_cases c : j = i
          · subst c
            rw [xup_self, xup_self]
            by_cases c2 : l = 4
            · subst c2; rw [xup_self, xup_self]
            · rw [xup_ne _ _ c2, xup_ne _ _ c2]; exact h2 j hj l hl
          · rw [xup_ne _ _ c, xup_ne _ _ c]; exact h2 j hj l hl
        · intro j
          by_cases c : j = i
          · subst c; rw [xup_self, xup_ne _ _ (by decide)]; exact h3 _
          · rw [xup_ne _ _ c]; exact h3 j
  · exact ⟨rfl, h, fun _ => rfl⟩
theorem R5_fns {k : Nat} {rf rg : UT} (h : R5 k rf rg) {i : Nat} (hi : i < k) (rain : Int32) : r_cat rf i rain = r_cat rg i rain ∧ r_tak rf i rain = r_tak rg i rain ∧ r_spl rf i rain = r_spl rg i rain := by
  have h1 : r_cat rf i rain = r_cat rg i rain := by unfold r_cat; rw [h i hi 0 (by decide), h i hi 1 (by decide)]
  have h2 : r_tak rf i rain = r_tak rg i rain := by unfold r_tak; rw [h1, h i hi 2 (by decide), h i hi 4 (by decide)]
  exact ⟨h1, h2, by unfold r_spl; rw [h1, h2, h i hi 3 (by decide)]⟩
/-- a day's roofs, side by side; what was spilt, as a number -/
theorem R5_day {k : Nat} {rf rg : UT} {sp : Nat → Int64} (hk : k ≤ 6) (h : R5 k rf rg) (ho : r_ok k rf) (lim dry : Int32) {rain : Int32} (hr : 0 ≤ rain.toInt ∧ rain.toInt ≤ 200) :
    ((c_day k lim dry rain rf).1 = (m_day k lim dry rain rg sp).1 ∧ (c_day k lim dry rain rf).2.1 = (m_day k lim dry rain rg sp).2.1 ∧ (c_day k lim dry rain rf).2.2.1 = (m_day k lim dry rain rg sp).2.2.1) ∧
    (R5 k (c_day k lim dry rain rf).2.2.2 (m_day k lim dry rain rg sp).2.2.2.1 ∧ r_ok k (c_day k lim dry rain rf).2.2.2) ∧
    ∀ i c, i < k → 0 ≤ (rf i 5).toInt → (rf i 5).toInt ≤ c → c ≤ 20000000 → (sp i).toInt = (rf i 5).toInt → ((m_day k lim dry rain rg sp).2.2.2.2 i).toInt = ((c_day k lim dry rain rf).2.2.2 i 5).toInt ∧ 0 ≤ ((c_day k lim dry rain rf).2.2.2 i 5).toInt ∧ ((c_day k lim dry rain rf).2.2.2 i 5).toInt ≤ c + 100000 := by
  obtain ⟨d1, d2, d3⟩ := R5_drn h lim dry rain
  have dok := r_ok_drn ho lim dry rain
  have key := it_two (fun i (x : Int32 × Int32 × Int32 × UT) (y : MR) => (x.1 = y.1 ∧ x.2.1 = y.2.1 ∧ x.2.2.1 = y.2.2.1) ∧ (R5 k x.2.2.2 y.2.2.2.1 ∧ r_ok k x.2.2.2) ∧ (∀ j c, j < i → 0 ≤ (rf j 5).toInt → (rf j 5).toInt ≤ c → c ≤ 20000000 → (sp j).toInt = (rf j 5).toInt → (y.2.2.2.2 j).toInt = (x.2.2.2 j 5).toInt ∧ 0 ≤ (x.2.2.2 j 5).toInt ∧ (x.2.2.2 j 5).toInt ≤ c + 100000) ∧ ∀ j, i ≤ j → x.2.2.2 j 5 = rf j 5 ∧ y.2.2.2.2 j = sp j)
    (fun i x => (x.1 + (r_cat x.2.2.2 i rain - r_tak x.2.2.2 i rain - r_spl x.2.2.2 i rain), x.2.1 + r_tak x.2.2.2 i rain, x.2.2.1 + r_spl x.2.2.2 i rain, r_new x.2.2.2 i rain))
    (fun i (x : MR) => (x.1 + (r_cat x.2.2.2.1 i rain - r_tak x.2.2.2.1 i rain - r_spl x.2.2.2.1 i rain), x.2.1 + r_tak x.2.2.2.1 i rain, x.2.2.1 + r_spl x.2.2.2.1 i rain, r_newm x.2.2.2.1 i rain, xup x.2.2.2.2 i (x.2.2.2.2 i + Int32.toInt64 (r_spl x.2.2.2.1 i rain)))) k
    (a := (0, 0, 0, (c_drn k lim dry rain rf).2)) (b := (0, 0, 0, (c_drn k lim dry rain rg).2, sp)) ⟨⟨rfl, rfl, rfl⟩, ⟨d2, dok⟩, fun j _ h => absurd h (Nat.not_lt_zero _), fun j _ => ⟨d3 j, rfl⟩⟩ ?_
  · exact ⟨key.1, key.2.1, key.2.2.1⟩
  · rintro i ⟨a1, a2, a3, v⟩ ⟨b1, b2, b3, w, q⟩ hi ⟨⟨e1, e2, e3⟩, ⟨h1, h2⟩, h3, h4⟩
    simp only at e1 e2 e3 h1 h2 h3 h4 ⊢
    subst e1 e2 e3
    obtain ⟨f1, f2, f3⟩ := R5_fns h1 hi rain
    have hdd := r_day h2 hi hr
    have hc := r_cat_ti h2 hi hr
    have h0 := h2 i hi
    refine ⟨⟨by rw [f1, f2, f3], by rw [f2], by rw [f3]⟩, ⟨?_, ?_⟩, ?_, ?_⟩
    · intro j hj l hl
      unfold r_new r_newm
      by_cases c : j = i
      · subst c
        rw [xup_self, xup_self, xup_ne _ _ (show l ≠ 5 by omega)]
        by_cases c2 : l = 4
        · subst c2; rw [xup_self, xup_self, h1 j hi 4 (by decide), f2]
        · rw [xup_ne _ _ c2, xup_ne _ _ c2]; exact h1 j hj l hl
      · rw [xup_ne _ _ c, xup_ne _ _ c]; exact h1 j hj l hl
    · have hn := r_newm_ok h2 hi hr
      intro j hj
      have hnj := hn j hj
      unfold r_newm at hnj
      unfold r_new
      by_cases c : j = i
      · subst c
        rw [xup_self] at hnj ⊢
        rw [xup_ne _ _ (show (0 : Nat) ≠ 5 by decide), xup_ne _ _ (show (1 : Nat) ≠ 5 by decide), xup_ne _ _ (show (2 : Nat) ≠ 5 by decide), xup_ne _ _ (show (3 : Nat) ≠ 5 by decide), xup_ne _ _ (show (4 : Nat) ≠ 5 by decide)]
        exact hnj
      · rw [xup_ne _ _ c] at hnj ⊢; exact hnj
    · intro j c hj z1 z2 z3 z4
      unfold r_new
      by_cases cj : j = i
      · subst cj
        have h5 := h4 j (Nat.le_refl _)
        rw [xup_self, xup_self, xup_self, h5.1, h5.2, ← f3]
        have s1 : (rf j 5 + r_spl v j rain).toInt = (rf j 5).toInt + (r_spl v j rain).toInt := ti_add (by omega) (by omega)
        rw [s1, Int64.toInt_add, Int32.toInt_toInt64, z4, Int.bmod_eq_of_le (by omega) (by omega)]
        omega
      · rw [xup_ne _ _ cj, xup_ne _ _ cj]
        exact h3 j c (by omega) z1 z2 z3 z4
    · intro j hj
      unfold r_new
      rw [xup_ne _ _ (show j ≠ i by omega), xup_ne _ _ (show j ≠ i by omega)]
      exact h4 j (by omega)

