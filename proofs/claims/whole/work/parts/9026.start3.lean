/-! The model's object, as it begins, and the law whole. -/
theorem i_row : xup (xup (fun _ => (0 : Int32)) 0 10000) 4 3 = m_al 10000 0 0 0 3 0 0 0 0 0 0 0 0 (fun _ _ => 0) (fun _ _ => 0) (fun _ => 0) (fun _ => 0) := by
  funext k
  by_cases h0 : k = 0
  · subst h0; rfl
  · by_cases h4 : k = 4
    · subst h4; rfl
    · rw [xup_ne _ _ h4, xup_ne _ _ h0]
      simp [m_al, h0, h4]
theorem xm_0 : xin (0 : Int32) 1163 = true := by decide
theorem xm_4 : xin (4 : Int32) 1163 = true := by decide
abbrev md0 : Option XE := some (.inr (6, [.null, .null, .null, .int 0, .int 0, .long 0, .int 0, .null, .int 0, .null, .int 0, .int 0, .int 0]))
theorem i_X6 {h : XH} {a : Nat} (e : h a = md0) : f_X6_init h a (a + 1) = some (hm a h 10000 0 0 0 3 0 0 0 0 0 0 0 0 (fun _ _ => 0) (fun _ _ => 0) (fun _ => 0) (fun _ => 0) (fun _ => 0) (fun _ => 0) 0 0 0 0 (fun _ => 0) 0 (fun _ => 0) 0 0 0) := by
  have er := i_row
  simp [f_X6_init, olet, xpV, xgR, xg, xast, xup, e, xm_0, xm_4, xc_0, xc_4, Nat.add_assoc]
  funext q
  by_cases c : a ≤ q ∧ q < a + 6
  · obtain ⟨i, hi, rfl⟩ : ∃ i, i < 6 ∧ q = a + i := ⟨q - a, by omega, by omega⟩
    have h8 : i = 0 ∨ i = 1 ∨ i = 2 ∨ i = 3 ∨ i = 4 ∨ i = 5 := by omega
    rcases h8 with rfl | rfl | rfl | rfl | rfl | rfl
    · simp [hm, xup]
    · simp only [hm]
      rw [← er]
      simp [xup]
    all_goals simp [hm, xup]
  · have q0 : q ≠ a := by omega
    have q1 : q ≠ a + 1 := by omega
    have q2 : q ≠ a + 2 := by omega
    have q3 : q ≠ a + 3 := by omega
    have q4 : q ≠ a + 4 := by omega
    have q5 : q ≠ a + 5 := by omega
    simp [hm, xup, q0, q1, q2, q3, q4, q5]
theorem i_CT : CT 0 0 0 0 0 10000 0 0 0 0 0 0 (fun _ _ => 0) (fun _ _ => 0) (fun _ _ => 0) (fun _ _ => 0) (fun _ => 0) (fun _ => 0) (fun _ => 0) (fun _ => 0) := by
  have z1 : (10000 : Int32).toInt = 10000 := by decide
  have z0 : (0 : Int32).toInt = 0 := rfl
  refine ⟨⟨by omega, by omega, by omega, by omega⟩, ⟨rfl, Int.le_refl 0, Int.le_refl 0⟩, ⟨fun _ _ _ _ => rfl, fun _ _ _ _ => rfl, fun _ _ => rfl, fun _ _ => rfl⟩, ⟨by rw [z1]; omega, by rw [z1, z0]; omega, by rw [z1, z0]; omega, by rw [z0]; omega⟩, by rw [z1, z0]; omega, fun i hi => absurd hi (Nat.not_lt_zero _), fun i hi => absurd hi (Nat.not_lt_zero _), fun i hi => absurd hi (Nat.not_lt_zero _)⟩
theorem law0_ok (B : Nat) : ∃ h, f_law0 B = some h ∧ World B h 0 := by
  obtain ⟨h2, e2, s1, s2, R2, ⟨f, a1, a2⟩, z2, T2, F2⟩ := i_X5 (h := xup (fun _ => none) B (some (.inr (5, [.null, .null, .null, .int 0, .null])))) (B := B) (xup_self _ _ _)
  obtain ⟨h3, hh3⟩ : ∃ x, x = xup h2 (B + 113) md0 := ⟨_, rfl⟩
  have e3 := i_X6 (h := h3) (a := B + 113) (by rw [hh3]; exact xup_self _ _ _)
  obtain ⟨h4, hh4⟩ : ∃ x, x = hm (B + 113) h3 10000 0 0 0 3 0 0 0 0 0 0 0 0 (fun _ _ => 0) (fun _ _ => 0) (fun _ => 0) (fun _ => 0) (fun _ => 0) (fun _ => 0) 0 0 0 0 (fun _ => 0) 0 (fun _ => 0) 0 0 0 := ⟨_, rfl⟩
  have M4 : Mp (B + 113) h4 10000 0 0 0 3 0 (nI 0) (nI 0) (nI 0) (nI 0) 0 0 0 (fun _ _ => 0) (fun _ _ => 0) (fun _ => 0) (fun _ => 0) (fun _ => 0) (fun _ => 0) (nI 0) 0 0 0 (fun _ => 0) 0 (fun _ => 0) (nI 0) 0 0 := by
    rw [hh4]; exact Mp_hm
  rw [← hh4] at e3
  have fr : ∀ q, q < B + 113 → (xup h4 (B + 119) (some (.inl (2, 1, .inr (.inl (fun _ => 0)))))) q = h2 q := fun q hq => by
    rw [xup_ne _ _ (by omega), hh4, hm_out (by omega), hh3, xup_ne _ _ (by omega)]
  refine ⟨xup h4 (B + 119) (some (.inl (2, 1, .inr (.inl (fun _ => 0))))), ?_, ?_⟩
  · unfold f_law0
    rw [e2, obind1_some]
    show obind1 (f_X6_init (xup h2 (B + 113) md0) (B + 113) (B + 113 + 1)) _ = _
    rw [← hh3, e3, obind1_some]
  · have S1 : St (B + 1) (xup h4 (B + 119) (some (.inl (2, 1, .inr (.inl (fun _ => 0)))))) 10000 0 0 0 3 0 (nI 0) (nI 0) (nI 0) (nI 0) 0 0 0 (fun _ _ => 0) (fun _ _ => 0) (fun _ => 0) (fun _ => 0) (fun _ => 0) := StZ_fr s1 (fun q h1 h2 => fr q (by omega))
    have S2 := Sv_g (StZ_fr s2 (fun q h1 h2 => fr q (by omega)))
    have Z2 : ∀ i, i < 4 → Sv (B + 38 + 18 * i) (xup h4 (B + 119) (some (.inl (2, 1, .inr (.inl (fun _ => 0)))))) _ := fun i hi => Sv_g (StZ_fr (z2 i hi) (fun q h1 h2 => fr q (by omega)))
    have O1 : Ot B (xup h4 (B + 119) (some (.inl (2, 1, .inr (.inl (fun _ => 0)))))) 0 (fun _ => 0) 0 0 (fun _ => 0) :=
      ⟨Rt_fr (fr B (by omega)) R2, ⟨_, S2⟩, ⟨f, fun i => i, fun _ => _, ⟨(fr _ (by omega)).trans a1, fun i hi => ⟨hi, a2 i hi⟩, fun _ _ _ _ e => e, Z2⟩, fun j hj => absurd hj (Nat.not_lt_zero _)⟩, Tt_fr T2 (fun q h1 h2 => fr q (by omega))⟩
    exact W_mk S1 O1 (Mp_fr M4 (fun q h1 h2 => xup_ne _ _ (by omega))) i_CT (by omega) (by omega) ⟨_, xup_self _ _ _⟩
theorem law_ok : xLawOk := by
  intro B0 L xs hL
  obtain ⟨h, e, hW⟩ := law0_ok B0
  exact ⟨700000, 514, h, e, W_loop (by omega) hL 514 0 0 h hW (by omega) (by omega) (by omega)⟩
