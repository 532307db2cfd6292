/-! The law's plans. -/
theorem ex_loop2 {S α β γ : Type} {body : S → Option (S ⊕ (α × β))} {s0 : S} {fu : Nat} {F : α → β → Option γ} {G : γ → Prop} (P : Nat → S → Prop) (Q : α → β → Prop) (n : Nat) (h0 : P 0 s0)
    (hs : ∀ i s, i < n → P i s → (∃ s', body s = some (.inl s') ∧ P (i + 1) s') ∨ ∃ a b, body s = some (.inr (a, b)) ∧ Q a b) (he : ∀ s, P n s → ∃ a b, body s = some (.inr (a, b)) ∧ Q a b) (hf : n < fu) (hF : ∀ a b, Q a b → ∃ z, F a b = some z ∧ G z) :
    ∃ z, obind2 (xloop body fu s0) F = some z ∧ G z := by
  obtain ⟨⟨a, b⟩, e, hq⟩ := xloop_P (body := body) (s0 := s0) (fu := fu) P (fun r => Q r.1 r.2) n h0
    (fun i s hi hp => by
      rcases hs i s hi hp with h | ⟨a, b, e, q⟩
      · exact Or.inl h
      · exact Or.inr ⟨(a, b), e, q⟩)
    (fun s hp => by
      obtain ⟨a, b, e, q⟩ := he s hp
      exact ⟨(a, b), e, q⟩) hf
  rw [e, obind2_some]
  exact hF a b hq
theorem ex_loop1 {S α γ : Type} {body : S → Option (S ⊕ α)} {s0 : S} {fu : Nat} {F : α → Option γ} {G : γ → Prop} (P : Nat → S → Prop) (Q : α → Prop) (n : Nat) (h0 : P 0 s0)
    (hs : ∀ i s, i < n → P i s → (∃ s', body s = some (.inl s') ∧ P (i + 1) s') ∨ ∃ a, body s = some (.inr a) ∧ Q a) (he : ∀ s, P n s → ∃ a, body s = some (.inr a) ∧ Q a) (hf : n < fu) (hF : ∀ a, Q a → ∃ z, F a = some z ∧ G z) :
    ∃ z, obind1 (xloop body fu s0) F = some z ∧ G z := by
  obtain ⟨a, e, hq⟩ := xloop_P (body := body) (s0 := s0) (fu := fu) P Q n h0 hs he hf
  rw [e, obind1_some]
  exact hF a hq
theorem i32_10 : ¬ (1 : Int32) = 0 := by decide
theorem nI_pos0 {a : Nat} (h : a < 2147483648) (h0 : 0 < a) : ¬ nI a = (0 : Int32) := fun e => by
  have := xnI_inj (a := a) (b := 0) h (by omega) (e.trans xnI_z.symm)
  omega
theorem pl_even (a : Nat) : (2 : Int32) + nI (2 * a) = nI (2 * (1 + a)) := by
  have e2 : (2 : Int32) = nI 2 := rfl
  rw [e2, xnI_add]
  exact congrArg nI (by omega)
theorem pl_even0 (a : Nat) : (2 : Int32) * nI a = nI (2 * a) := by
  have e2 : (2 : Int32) = nI 2 := rfl
  rw [e2, xnI_mul]
theorem pl_one (a : Nat) : (1 : Int32) + nI a = nI (1 + a) := by
  have e2 : (1 : Int32) = nI 1 := rfl
  rw [e2, xnI_add]
theorem pl_dbl (a : Nat) : nI (2 * a) = nI a + nI a := by
  rw [xnI_add]
  exact congrArg nI (by omega)
/-- the law's numbers of a roof -/
theorem pl_gs {a r t : Nat} (ha : a < 240) (hr : r < 300) (ht : t < 3000) : (inR (nI (2 * (1 + a))) 1 500 ∧ inR (nI (2 * r)) 0 999 ∧ inR (nI (2 * (1 + t))) 1 50000) ∧ inR (nI (1 + a)) 1 500 ∧ inR (nI r) 0 999 ∧ inR (nI (1 + t)) 1 50000 :=
  ⟨⟨inR_n (l := 1) (u := 500) rfl rfl (by omega) (by omega), inR_n (l := 0) (u := 999) rfl rfl (by omega) (by omega), inR_n (l := 1) (u := 50000) rfl rfl (by omega) (by omega)⟩, inR_n (l := 1) (u := 500) rfl rfl (by omega) (by omega), inR_n (l := 0) (u := 999) rfl rfl (by omega) (by omega), inR_n (l := 1) (u := 50000) rfl rfl (by omega) (by omega)⟩
theorem pl_100 : inR (100 : Int32) 1 100 := inR_n (a := 100) (l := 1) (u := 100) rfl rfl (by omega) (by omega)
