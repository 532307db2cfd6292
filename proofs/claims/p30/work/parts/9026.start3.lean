/-! The model's object, as it begins, and the law whole. -/
theorem i_row : xup (xup (fun _ => (0 : Int32)) 0 10000) 4 3 = m_al 10000 0 0 0 3 0 0 0 0 0 0 0 0 (fun _ _ => 0) (fun _ _ => 0) (fun _ => 0) (fun _ => 0) := by
  funext k
  by_cases h0 : k = 0
  · subst h0; rfl
  · by_cases h4 : k = 4
    · subst h4; rfl
    · rw [xup_ne _ _ h4, xup_ne _ _ h0]
      simp [m_al, h0, h4]
theorem xm_0 : xin (0 : Int32) 1163 = true := by decide
theorem xm_4 : xin (4 : Int32) 1163 = true := by decide
abbrev md0 : Option XE := some (.inr (6, [.null, .null, .null, .int 0, .int 0, .long 0, .int 0, .null, .int 0, .null, .int 0, .int 0, .int 0]))
theorem i_CT : CT 0 0 0 0 0 10000 0 0 0 0 0 0 (fun _ _ => 0) (fun _ _ => 0) (fun _ _ => 0) (fun _ _ => 0) (fun _ => 0) (fun _ => 0) (fun _ => 0) (fun _ => 0) := by
  have z1 : (10000 : Int32).toInt = 10000 := by decide
  have z0 : (0 : Int32).toInt = 0 := rfl
  refine ⟨⟨by omega, by omega, by omega, by omega⟩, ⟨rfl, Int.le_refl 0, Int.le_refl 0⟩, ⟨fun _ _ _ _ => rfl, fun _ _ _ _ => rfl, fun _ _ => rfl, fun _ _ => rfl⟩, ⟨by rw [z1]; omega, by rw [z1, z0]; omega, by rw [z1, z0]; omega, by rw [z0]; omega⟩, by rw [z1, z0]; omega, fun i hi => absurd hi (Nat.not_lt_zero _), fun i hi => absurd hi (Nat.not_lt_zero _), fun i hi => absurd hi (Nat.not_lt_zero _)⟩
