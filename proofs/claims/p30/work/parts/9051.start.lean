/-! The two objects, as they begin. -/
theorem two_one {B : Nat} {h : XH} (e : h B = some (.inr (5, [.null, .null, .null, .int 0, .null]))) : ∃ h', f_X5_init h B (B + 1) = some h' ∧ StZ (B + 1) h' ∧ Ot B h' 0 (fun _ => 0) 0 0 (fun _ => 0) ∧ ∀ q, ¬ (B ≤ q ∧ q < B + 113) → h' q = h q := by
  obtain ⟨h2, e2, s1, s2, R2, ⟨f, a1, a2⟩, z2, T2, F2⟩ := i_X5 e
  have Z2 : ∀ i, i < 4 → Sv (B + 38 + 18 * i) h2 _ := fun i hi => Sv_g (z2 i hi)
  exact ⟨h2, e2, s1, ⟨R2, ⟨_, Sv_g s2⟩, ⟨f, fun i => i, fun _ => _, ⟨a1, fun i hi => ⟨hi, a2 i hi⟩, fun _ _ _ _ e => e, Z2⟩, fun j hj => absurd hj (Nat.not_lt_zero _)⟩, T2⟩, F2⟩
theorem two_start (B : Nat) : ∃ h2 h4 : XH, f_X5_init (xup (fun _ => none) B (some (.inr (5, [.null, .null, .null, .int 0, .null])))) B (B + 1) = some h2 ∧ f_X5_init (xup h2 (B + 113) (some (.inr (5, [.null, .null, .null, .int 0, .null])))) (B + 113) (B + 113 + 1) = some h4 ∧ Two B h4 0 0 0 0 0 := by
  obtain ⟨h2, e2, s1, o1, F1⟩ := two_one (h := xup (fun _ => none) B (some (.inr (5, [.null, .null, .null, .int 0, .null])))) (B := B) (xup_self _ _ _)
  obtain ⟨h4, e4, s2, o2, F2⟩ := two_one (h := xup h2 (B + 113) (some (.inr (5, [.null, .null, .null, .int 0, .null])))) (B := B + 113) (xup_self _ _ _)
  have fr : ∀ q, q < B + 113 → h4 q = h2 q := fun q hq => (F2 q (by omega)).trans (xup_ne _ _ (by omega))
  have S1 : St (B + 1) h4 10000 0 0 0 3 0 (nI 0) (nI 0) (nI 0) (nI 0) 0 0 0 (fun _ _ => 0) (fun _ _ => 0) (fun _ => 0) (fun _ => 0) (fun _ => 0) := StZ_fr s1 (fun q h1 h2 => fr q (by omega))
  have S2 : St (B + 113 + 1) h4 10000 0 0 0 3 0 (nI 0) (nI 0) (nI 0) (nI 0) 0 0 0 (fun _ _ => 0) (fun _ _ => 0) (fun _ => 0) (fun _ => 0) (fun _ => 0) := s2
  have O1 := Ot_fr o1 (h' := h4) (fun q g1 g2 _ => fr q (by omega))
  exact ⟨h2, h4, e2, e4, 0, 0, 10000, 0, 0, 0, 3, 0, 0, 0, 0, 0, 0, fun _ _ => 0, fun _ _ => 0, fun _ _ => 0, fun _ _ => 0, fun _ => 0, fun _ => 0, fun _ => 0, fun _ => 0, fun _ => 0, fun _ => 0, fun _ => 0, fun _ => 0, fun _ => 0, fun _ => 0, ⟨S1, O1, i_CT, by omega⟩, ⟨S2, o2, i_CT, by omega⟩, Or.inl ⟨rfl, rfl⟩, fun i hi => absurd hi (by omega), fun d hd => absurd hd (by omega), fun j hj => absurd hj (by omega), Snd_start (fun i hi => absurd hi (by omega)) (fun i hi => absurd hi (by omega)) _ _⟩
/-- the law's function answers -/
theorem law_ok (B L : Nat) (xs : Nat → Int32) (hL : L ≤ 260) : ∃ (fu : Nat) (h2 h4 : XH), f_X5_init (xup (fun _ => none) B (some (.inr (5, [.null, .null, .null, .int 0, .null])))) B (B + 1) = some h2 ∧ f_X5_init (xup h2 (B + 113) (some (.inr (5, [.null, .null, .null, .int 0, .null])))) (B + 113) (B + 114) = some h4 ∧ f_L_law fu L xs B (B + 113) h4 = some () := by
  obtain ⟨h2, h4, e2, e4, H⟩ := two_start B
  exact ⟨700000, h2, h4, e2, e4, law_fn xs hL (by omega) H⟩
