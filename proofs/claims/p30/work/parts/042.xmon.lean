/-! Steps of a function over the heap, with several answers at once. -/
def obind0 {ω : Type} (o : Option (Unit)) (f : Unit → Option ω) : Option ω := o.bind fun x => f ()
theorem xb0 {ω : Type} {o : Option Unit} {f : Unit → Option ω} {r : ω} (h : obind0 o f = some r) : ∃ a, o = some a ∧ f () = some r := Option.bind_eq_some_iff.mp h
theorem obind0_some {ω : Type} {f : Unit → Option ω} {u : Unit} : obind0 (some u) f = f () := rfl
theorem obind0_none {ω : Type} {f : Unit → Option ω} : obind0 none f = none := rfl
def obind1 {α ω : Type} (o : Option (α)) (f : α → Option ω) : Option ω := o.bind fun x => f x
theorem xb1 {α ω : Type} {o : Option (α)} {f : α → Option ω} {r : ω} (h : obind1 o f = some r) : ∃ a, o = some a ∧ f a = some r := by
  exact Option.bind_eq_some_iff.mp h
theorem obind1_some {α ω : Type} {f : α → Option ω} {a : α} : obind1 (some a) f = f a := rfl
theorem obind1_none {α ω : Type} {f : α → Option ω} : obind1 none f = none := rfl
def obind2 {α β ω : Type} (o : Option (α × β)) (f : α → β → Option ω) : Option ω := o.bind fun x => f x.1 x.2
theorem xb2 {α β ω : Type} {o : Option (α × β)} {f : α → β → Option ω} {r : ω} (h : obind2 o f = some r) : ∃ a b, o = some (a, b) ∧ f a b = some r := by
  obtain ⟨x, h1, h2⟩ := Option.bind_eq_some_iff.mp h
  exact ⟨x.1, x.2, h1, h2⟩
theorem obind2_some {α β ω : Type} {f : α → β → Option ω} {a : α} {b : β} : obind2 (some (a, b)) f = f a b := rfl
theorem obind2_none {α β ω : Type} {f : α → β → Option ω} : obind2 none f = none := rfl
def obind3 {α β γ ω : Type} (o : Option (α × β × γ)) (f : α → β → γ → Option ω) : Option ω := o.bind fun x => f x.1 x.2.1 x.2.2
theorem xb3 {α β γ ω : Type} {o : Option (α × β × γ)} {f : α → β → γ → Option ω} {r : ω} (h : obind3 o f = some r) : ∃ a b c, o = some (a, b, c) ∧ f a b c = some r := by
  obtain ⟨x, h1, h2⟩ := Option.bind_eq_some_iff.mp h
  exact ⟨x.1, x.2.1, x.2.2, h1, h2⟩
theorem obind3_some {α β γ ω : Type} {f : α → β → γ → Option ω} {a : α} {b : β} {c : γ} : obind3 (some (a, b, c)) f = f a b c := rfl
theorem obind3_none {α β γ ω : Type} {f : α → β → γ → Option ω} : obind3 none f = none := rfl
def obind4 {α β γ δ ω : Type} (o : Option (α × β × γ × δ)) (f : α → β → γ → δ → Option ω) : Option ω := o.bind fun x => f x.1 x.2.1 x.2.2.1 x.2.2.2
theorem xb4 {α β γ δ ω : Type} {o : Option (α × β × γ × δ)} {f : α → β → γ → δ → Option ω} {r : ω} (h : obind4 o f = some r) : ∃ a b c d, o = some (a, b, c, d) ∧ f a b c d = some r := by
  obtain ⟨x, h1, h2⟩ := Option.bind_eq_some_iff.mp h
  exact ⟨x.1, x.2.1, x.2.2.1, x.2.2.2, h1, h2⟩
theorem obind4_some {α β γ δ ω : Type} {f : α → β → γ → δ → Option ω} {a : α} {b : β} {c : γ} {d : δ} : obind4 (some (a, b, c, d)) f = f a b c d := rfl
theorem obind4_none {α β γ δ ω : Type} {f : α → β → γ → δ → Option ω} : obind4 none f = none := rfl
def obind5 {α β γ δ ε ω : Type} (o : Option (α × β × γ × δ × ε)) (f : α → β → γ → δ → ε → Option ω) : Option ω := o.bind fun x => f x.1 x.2.1 x.2.2.1 x.2.2.2.1 x.2.2.2.2
theorem xb5 {α β γ δ ε ω : Type} {o : Option (α × β × γ × δ × ε)} {f : α → β → γ → δ → ε → Option ω} {r : ω} (h : obind5 o f = some r) : ∃ a b c d e, o = some (a, b, c, d, e) ∧ f a b c d e = some r := by
  obtain ⟨x, h1, h2⟩ := Option.bind_eq_some_iff.mp h
  exact ⟨x.1, x.2.1, x.2.2.1, x.2.2.2.1, x.2.2.2.2, h1, h2⟩
theorem obind5_some {α β γ δ ε ω : Type} {f : α → β → γ → δ → ε → Option ω} {a : α} {b : β} {c : γ} {d : δ} {e : ε} : obind5 (some (a, b, c, d, e)) f = f a b c d e := rfl
theorem obind5_none {α β γ δ ε ω : Type} {f : α → β → γ → δ → ε → Option ω} : obind5 none f = none := rfl
def obind6 {α β γ δ ε ζ ω : Type} (o : Option (α × β × γ × δ × ε × ζ)) (f : α → β → γ → δ → ε → ζ → Option ω) : Option ω := o.bind fun x => f x.1 x.2.1 x.2.2.1 x.2.2.2.1 x.2.2.2.2.1 x.2.2.2.2.2
theorem xb6 {α β γ δ ε ζ ω : Type} {o : Option (α × β × γ × δ × ε × ζ)} {f : α → β → γ → δ → ε → ζ → Option ω} {r : ω} (h : obind6 o f = some r) : ∃ a b c d e f1, o = some (a, b, c, d, e, f1) ∧ f a b c d e f1 = some r := by
  obtain ⟨x, h1, h2⟩ := Option.bind_eq_some_iff.mp h
  exact ⟨x.1, x.2.1, x.2.2.1, x.2.2.2.1, x.2.2.2.2.1, x.2.2.2.2.2, h1, h2⟩
theorem obind6_some {α β γ δ ε ζ ω : Type} {f : α → β → γ → δ → ε → ζ → Option ω} {a : α} {b : β} {c : γ} {d : δ} {e : ε} {f1 : ζ} : obind6 (some (a, b, c, d, e, f1)) f = f a b c d e f1 := rfl
theorem obind6_none {α β γ δ ε ζ ω : Type} {f : α → β → γ → δ → ε → ζ → Option ω} : obind6 none f = none := rfl
def obind7 {α β γ δ ε ζ η ω : Type} (o : Option (α × β × γ × δ × ε × ζ × η)) (f : α → β → γ → δ → ε → ζ → η → Option ω) : Option ω := o.bind fun x => f x.1 x.2.1 x.2.2.1 x.2.2.2.1 x.2.2.2.2.1 x.2.2.2.2.2.1 x.2.2.2.2.2.2
theorem xb7 {α β γ δ ε ζ η ω : Type} {o : Option (α × β × γ × δ × ε × ζ × η)} {f : α → β → γ → δ → ε → ζ → η → Option ω} {r : ω} (h : obind7 o f = some r) : ∃ a b c d e f1 g1, o = some (a, b, c, d, e, f1, g1) ∧ f a b c d e f1 g1 = some r := by
  obtain ⟨x, h1, h2⟩ := Option.bind_eq_some_iff.mp h
  exact ⟨x.1, x.2.1, x.2.2.1, x.2.2.2.1, x.2.2.2.2.1, x.2.2.2.2.2.1, x.2.2.2.2.2.2, h1, h2⟩
theorem obind7_some {α β γ δ ε ζ η ω : Type} {f : α → β → γ → δ → ε → ζ → η → Option ω} {a : α} {b : β} {c : γ} {d : δ} {e : ε} {f1 : ζ} {g1 : η} : obind7 (some (a, b, c, d, e, f1, g1)) f = f a b c d e f1 g1 := rfl
theorem obind7_none {α β γ δ ε ζ η ω : Type} {f : α → β → γ → δ → ε → ζ → η → Option ω} : obind7 none f = none := rfl
theorem xpair2 {α β : Type} {a a' : α} {b b' : β} (h : (a, b) = (a', b')) : a = a' ∧ b = b' := by cases h; exact ⟨rfl, rfl⟩
theorem xinj2 {α β : Type} {a a' : α} {b b' : β} (h : some (a, b) = some (a', b')) : a = a' ∧ b = b' := by cases h; exact ⟨rfl, rfl⟩
theorem xpair3 {α β γ : Type} {a a' : α} {b b' : β} {c c' : γ} (h : (a, b, c) = (a', b', c')) : a = a' ∧ b = b' ∧ c = c' := by cases h; exact ⟨rfl, rfl, rfl⟩
theorem xinj3 {α β γ : Type} {a a' : α} {b b' : β} {c c' : γ} (h : some (a, b, c) = some (a', b', c')) : a = a' ∧ b = b' ∧ c = c' := by cases h; exact ⟨rfl, rfl, rfl⟩
theorem xpair4 {α β γ δ : Type} {a a' : α} {b b' : β} {c c' : γ} {d d' : δ} (h : (a, b, c, d) = (a', b', c', d')) : a = a' ∧ b = b' ∧ c = c' ∧ d = d' := by cases h; exact ⟨rfl, rfl, rfl, rfl⟩
theorem xinj4 {α β γ δ : Type} {a a' : α} {b b' : β} {c c' : γ} {d d' : δ} (h : some (a, b, c, d) = some (a', b', c', d')) : a = a' ∧ b = b' ∧ c = c' ∧ d = d' := by cases h; exact ⟨rfl, rfl, rfl, rfl⟩
theorem xpair5 {α β γ δ ε : Type} {a a' : α} {b b' : β} {c c' : γ} {d d' : δ} {e e' : ε} (h : (a, b, c, d, e) = (a', b', c', d', e')) : a = a' ∧ b = b' ∧ c = c' ∧ d = d' ∧ e = e' := by cases h; exact ⟨rfl, rfl, rfl, rfl, rfl⟩
theorem xinj5 {α β γ δ ε : Type} {a a' : α} {b b' : β} {c c' : γ} {d d' : δ} {e e' : ε} (h : some (a, b, c, d, e) = some (a', b', c', d', e')) : a = a' ∧ b = b' ∧ c = c' ∧ d = d' ∧ e = e' := by cases h; exact ⟨rfl, rfl, rfl, rfl, rfl⟩
theorem xpair6 {α β γ δ ε ζ : Type} {a a' : α} {b b' : β} {c c' : γ} {d d' : δ} {e e' : ε} {f1 f1' : ζ} (h : (a, b, c, d, e, f1) = (a', b', c', d', e', f1')) : a = a' ∧ b = b' ∧ c = c' ∧ d = d' ∧ e = e' ∧ f1 = f1' := by cases h; exact ⟨rfl, rfl, rfl, rfl, rfl, rfl⟩
theorem xinj6 {α β γ δ ε ζ : Type} {a a' : α} {b b' : β} {c c' : γ} {d d' : δ} {e e' : ε} {f1 f1' : ζ} (h : some (a, b, c, d, e, f1) = some (a', b', c', d', e', f1')) : a = a' ∧ b = b' ∧ c = c' ∧ d = d' ∧ e = e' ∧ f1 = f1' := by cases h; exact ⟨rfl, rfl, rfl, rfl, rfl, rfl⟩
theorem xpair7 {α β γ δ ε ζ η : Type} {a a' : α} {b b' : β} {c c' : γ} {d d' : δ} {e e' : ε} {f1 f1' : ζ} {g1 g1' : η} (h : (a, b, c, d, e, f1, g1) = (a', b', c', d', e', f1', g1')) : a = a' ∧ b = b' ∧ c = c' ∧ d = d' ∧ e = e' ∧ f1 = f1' ∧ g1 = g1' := by cases h; exact ⟨rfl, rfl, rfl, rfl, rfl, rfl, rfl⟩
theorem xinj7 {α β γ δ ε ζ η : Type} {a a' : α} {b b' : β} {c c' : γ} {d d' : δ} {e e' : ε} {f1 f1' : ζ} {g1 g1' : η} (h : some (a, b, c, d, e, f1, g1) = some (a', b', c', d', e', f1', g1')) : a = a' ∧ b = b' ∧ c = c' ∧ d = d' ∧ e = e' ∧ f1 = f1' ∧ g1 = g1' := by cases h; exact ⟨rfl, rfl, rfl, rfl, rfl, rfl, rfl⟩
def xf0 {ω : Type} (f : Unit → ω) (z : Unit) : ω := f ()
theorem xf0_e {ω : Type} {f : Unit → ω} {u : Unit} {r : ω} (h : xf0 f u = r) : f () = r := h
def xf1 {α ω : Type} (f : α → ω) (z : α) : ω := f z
theorem xf1_e {α ω : Type} {f : α → ω} {a : α} {r : ω} (h : xf1 f a = r) : f a = r := h
def xf2 {α β ω : Type} (f : α → β → ω) (z : α × β) : ω := f z.1 z.2
theorem xf2_e {α β ω : Type} {f : α → β → ω} {a : α} {b : β} {r : ω} (h : xf2 f (a, b) = r) : f a b = r := h
def xf3 {α β γ ω : Type} (f : α → β → γ → ω) (z : α × β × γ) : ω := f z.1 z.2.1 z.2.2
theorem xf3_e {α β γ ω : Type} {f : α → β → γ → ω} {a : α} {b : β} {c : γ} {r : ω} (h : xf3 f (a, b, c) = r) : f a b c = r := h
def xf4 {α β γ δ ω : Type} (f : α → β → γ → δ → ω) (z : α × β × γ × δ) : ω := f z.1 z.2.1 z.2.2.1 z.2.2.2
theorem xf4_e {α β γ δ ω : Type} {f : α → β → γ → δ → ω} {a : α} {b : β} {c : γ} {d : δ} {r : ω} (h : xf4 f (a, b, c, d) = r) : f a b c d = r := h
def xf5 {α β γ δ ε ω : Type} (f : α → β → γ → δ → ε → ω) (z : α × β × γ × δ × ε) : ω := f z.1 z.2.1 z.2.2.1 z.2.2.2.1 z.2.2.2.2
theorem xf5_e {α β γ δ ε ω : Type} {f : α → β → γ → δ → ε → ω} {a : α} {b : β} {c : γ} {d : δ} {e : ε} {r : ω} (h : xf5 f (a, b, c, d, e) = r) : f a b c d e = r := h
def xf6 {α β γ δ ε ζ ω : Type} (f : α → β → γ → δ → ε → ζ → ω) (z : α × β × γ × δ × ε × ζ) : ω := f z.1 z.2.1 z.2.2.1 z.2.2.2.1 z.2.2.2.2.1 z.2.2.2.2.2
theorem xf6_e {α β γ δ ε ζ ω : Type} {f : α → β → γ → δ → ε → ζ → ω} {a : α} {b : β} {c : γ} {d : δ} {e : ε} {f1 : ζ} {r : ω} (h : xf6 f (a, b, c, d, e, f1) = r) : f a b c d e f1 = r := h
def xf7 {α β γ δ ε ζ η ω : Type} (f : α → β → γ → δ → ε → ζ → η → ω) (z : α × β × γ × δ × ε × ζ × η) : ω := f z.1 z.2.1 z.2.2.1 z.2.2.2.1 z.2.2.2.2.1 z.2.2.2.2.2.1 z.2.2.2.2.2.2
theorem xf7_e {α β γ δ ε ζ η ω : Type} {f : α → β → γ → δ → ε → ζ → η → ω} {a : α} {b : β} {c : γ} {d : δ} {e : ε} {f1 : ζ} {g1 : η} {r : ω} (h : xf7 f (a, b, c, d, e, f1, g1) = r) : f a b c d e f1 g1 = r := h
def oret0 {ω : Type} (o : Option ((Unit) ⊕ ω)) (f : Unit → Option ω) : Option ω := match o with
  | none => none
  | some (.inl x) => f ()
  | some (.inr r) => some r
theorem xr0 {ω : Type} {o : Option ((Unit) ⊕ ω)} {f : Unit → Option ω} {r : ω} (h : oret0 o f = some r) : ∃ out, o = some out ∧ (out = .inl () → f () = some r) ∧ (∀ r1, out = .inr r1 → r1 = r) := by
  unfold oret0 at h
  split at h
  · cases h
  · exact ⟨_, rfl, (by intros; simp_all), (by intro r1 h1; cases h1)⟩
  · cases h; exact ⟨_, rfl, (by intros; simp_all), (by intro r1 h1; cases h1; rfl)⟩
def oret1 {α ω : Type} (o : Option ((α) ⊕ ω)) (f : α → Option ω) : Option ω := match o with
  | none => none
  | some (.inl x) => f x
  | some (.inr r) => some r
theorem xr1 {α ω : Type} {o : Option ((α) ⊕ ω)} {f : α → Option ω} {r : ω} (h : oret1 o f = some r) : ∃ out, o = some out ∧ (∀ a, out = .inl a → f a = some r) ∧ (∀ r1, out = .inr r1 → r1 = r) := by
  unfold oret1 at h
  split at h
  · cases h
  · exact ⟨_, rfl, (by intros; simp_all), (by intro r1 h1; cases h1)⟩
  · cases h; exact ⟨_, rfl, (by intros; simp_all), (by intro r1 h1; cases h1; rfl)⟩
def oret2 {α β ω : Type} (o : Option ((α × β) ⊕ ω)) (f : α → β → Option ω) : Option ω := match o with
  | none => none
  | some (.inl x) => f x.1 x.2
  | some (.inr r) => some r
theorem xr2 {α β ω : Type} {o : Option ((α × β) ⊕ ω)} {f : α → β → Option ω} {r : ω} (h : oret2 o f = some r) : ∃ out, o = some out ∧ (∀ a b, out = .inl (a, b) → f a b = some r) ∧ (∀ r1, out = .inr r1 → r1 = r) := by
  unfold oret2 at h
  split at h
  · cases h
  · exact ⟨_, rfl, (by intros; simp_all), (by intro r1 h1; cases h1)⟩
  · cases h; exact ⟨_, rfl, (by intros; simp_all), (by intro r1 h1; cases h1; rfl)⟩
def oret3 {α β γ ω : Type} (o : Option ((α × β × γ) ⊕ ω)) (f : α → β → γ → Option ω) : Option ω := match o with
  | none => none
  | some (.inl x) => f x.1 x.2.1 x.2.2
  | some (.inr r) => some r
theorem xr3 {α β γ ω : Type} {o : Option ((α × β × γ) ⊕ ω)} {f : α → β → γ → Option ω} {r : ω} (h : oret3 o f = some r) : ∃ out, o = some out ∧ (∀ a b c, out = .inl (a, b, c) → f a b c = some r) ∧ (∀ r1, out = .inr r1 → r1 = r) := by
  unfold oret3 at h
  split at h
  · cases h
  · exact ⟨_, rfl, (by intros; simp_all), (by intro r1 h1; cases h1)⟩
  · cases h; exact ⟨_, rfl, (by intros; simp_all), (by intro r1 h1; cases h1; rfl)⟩
def oret4 {α β γ δ ω : Type} (o : Option ((α × β × γ × δ) ⊕ ω)) (f : α → β → γ → δ → Option ω) : Option ω := match o with
  | none => none
  | some (.inl x) => f x.1 x.2.1 x.2.2.1 x.2.2.2
  | some (.inr r) => some r
theorem xr4 {α β γ δ ω : Type} {o : Option ((α × β × γ × δ) ⊕ ω)} {f : α → β → γ → δ → Option ω} {r : ω} (h : oret4 o f = some r) : ∃ out, o = some out ∧ (∀ a b c d, out = .inl (a, b, c, d) → f a b c d = some r) ∧ (∀ r1, out = .inr r1 → r1 = r) := by
  unfold oret4 at h
  split at h
  · cases h
  · exact ⟨_, rfl, (by intros; simp_all), (by intro r1 h1; cases h1)⟩
  · cases h; exact ⟨_, rfl, (by intros; simp_all), (by intro r1 h1; cases h1; rfl)⟩
def oret5 {α β γ δ ε ω : Type} (o : Option ((α × β × γ × δ × ε) ⊕ ω)) (f : α → β → γ → δ → ε → Option ω) : Option ω := match o with
  | none => none
  | some (.inl x) => f x.1 x.2.1 x.2.2.1 x.2.2.2.1 x.2.2.2.2
  | some (.inr r) => some r
theorem xr5 {α β γ δ ε ω : Type} {o : Option ((α × β × γ × δ × ε) ⊕ ω)} {f : α → β → γ → δ → ε → Option ω} {r : ω} (h : oret5 o f = some r) : ∃ out, o = some out ∧ (∀ a b c d e, out = .inl (a, b, c, d, e) → f a b c d e = some r) ∧ (∀ r1, out = .inr r1 → r1 = r) := by
  unfold oret5 at h
  split at h
  · cases h
  · exact ⟨_, rfl, (by intros; simp_all), (by intro r1 h1; cases h1)⟩
  · cases h; exact ⟨_, rfl, (by intros; simp_all), (by intro r1 h1; cases h1; rfl)⟩
theorem xk0 {ω : Type} {k F : Option ω} {r : ω} (e0 : k = F) (h : k = some r) : F = some r := e0 ▸ h
theorem xk1 {α ω : Type} {k F : α → Option ω} {r : ω} {a : α} (e0 : k = F) (h : k a = some r) : F a = some r := e0 ▸ h
theorem xk2 {α β ω : Type} {k F : α → β → Option ω} {r : ω} {a : α} {b : β} (e0 : k = F) (h : k a b = some r) : F a b = some r := e0 ▸ h
theorem xk3 {α β γ ω : Type} {k F : α → β → γ → Option ω} {r : ω} {a : α} {b : β} {c : γ} (e0 : k = F) (h : k a b c = some r) : F a b c = some r := e0 ▸ h
theorem xk4 {α β γ δ ω : Type} {k F : α → β → γ → δ → Option ω} {r : ω} {a : α} {b : β} {c : γ} {d : δ} (e0 : k = F) (h : k a b c d = some r) : F a b c d = some r := e0 ▸ h
/-! what may throw: an answer, or the number of an exception -/
def olift {α : Type} (o : Option α) : Option (α ⊕ Nat) := match o with
  | none => none
  | some v => some (.inl v)
theorem olift_l {α : Type} {o : Option α} {r : α} (h : olift o = some (.inl r)) : o = some r := by
  unfold olift at h
  split at h
  · cases h
  · cases h; rfl
theorem olift_r {α : Type} {o : Option α} {n : Nat} (h : olift o = some (.inr n)) : False := by
  unfold olift at h
  split at h
  · cases h
  · cases h
def oexc {α β : Type} (o : Option (α ⊕ Nat)) (f : α → Option (β ⊕ Nat)) : Option (β ⊕ Nat) := match o with
  | none => none
  | some (.inl v) => f v
  | some (.inr n) => some (.inr n)
theorem oexc_l {α β : Type} {o : Option (α ⊕ Nat)} {f : α → Option (β ⊕ Nat)} {r : β} (h : oexc o f = some (.inl r)) : ∃ v, o = some (.inl v) ∧ f v = some (.inl r) := by
  unfold oexc at h
  split at h
  · cases h
  · exact ⟨_, rfl, h⟩
  · cases h
theorem oexc_r {α β : Type} {o : Option (α ⊕ Nat)} {f : α → Option (β ⊕ Nat)} {n : Nat} (h : oexc o f = some (.inr n)) : o = some (.inr n) ∨ ∃ v, o = some (.inl v) ∧ f v = some (.inr n) := by
  unfold oexc at h
  split at h
  · cases h
  · exact Or.inr ⟨_, rfl, h⟩
  · cases h; exact Or.inl rfl
theorem xinjr {α : Type} {n k : Nat} (h : some (Sum.inr n : α ⊕ Nat) = some (.inr k)) : n = k := by cases h; rfl
def xnz (y : Int32) : Option Unit := if y = 0 then none else some ()
theorem xnz_spec {y : Int32} {u : Unit} (h : xnz y = some u) : ¬ y = 0 := by
  unfold xnz at h
  split at h
  · cases h
  · assumption
def xnzL (y : Int64) : Option Unit := if y = 0 then none else some ()
theorem xnzL_spec {y : Int64} {u : Unit} (h : xnzL y = some u) : ¬ y = 0 := by
  unfold xnzL at h
  split at h
  · cases h
  · assumption
/-- a quotient of doubles that is a number -/
def xdiv (x y : UInt64) : Option UInt64 := if FP.ddiv x y &&& 0x7fffffffffffffff ≤ 0x7ff0000000000000 then some (FP.ddiv x y) else none
def xremL (x y : Int64) : Int64 := x - x / y * y
def xremI (x y : Int32) : Int32 := x - x / y * y
def xd1 : UInt64 := 0x3ff0000000000000
section XM
variable {p : Program} {l : Launch} {e : Env} {R : Room} {s : State} {m : MethodId} {args : Array Value} {below : List Frame} {meth : Method} {c : Code} {H : Heap} {locs : List Loc} {cells slots : Nat} {Q : State → Prop}
variable {cc : ByteArray} {pc : Nat} {ls : Array Slot} {rest : List Value} {B0 : Nat} {G : XG} {h h1 : XH} {H0 : Heap} {a : Nat}
theorem xr_lrem (hexec : p.tables.exec = Jvm.exec) (hb : c.code = cc) {x y : Int64} (hdg : decode cc pc = .ok (.lrem, 1)) (hne : ¬ y = 0) (k : W p l e R s m args below meth c H locs cells slots Q (F0 m (pc + 1) ls (.long (xremL x y) :: rest))) : W p l e R s m args below meth c H locs cells slots Q (F0 m pc ls (.long y :: .long x :: rest)) := lv_lrem hexec hb hdg hne k
theorem xr_irem (hexec : p.tables.exec = Jvm.exec) (hb : c.code = cc) {x y : Int32} (hdg : decode cc pc = .ok (.irem, 1)) (hne : ¬ y = 0) (k : W p l e R s m args below meth c H locs cells slots Q (F0 m (pc + 1) ls (.int (xremI x y) :: rest))) : W p l e R s m args below meth c H locs cells slots Q (F0 m pc ls (.int y :: .int x :: rest)) := lv_irem hexec hb hdg hne k
theorem xr_ddiv (hexec : p.tables.exec = Jvm.exec) (hb : c.code = cc) {x y v : UInt64} (e1 : xdiv x y = some v) (hdg : decode cc pc = .ok (.ddiv, 1)) (k : W p l e R s m args below meth c H locs cells slots Q (F0 m (pc + 1) ls (.double v :: rest))) : W p l e R s m args below meth c H locs cells slots Q (F0 m pc ls (.double y :: .double x :: rest)) := by
  unfold xdiv at e1
  split at e1
  · next hq =>
    cases e1
    exact lv_ddiv hexec hb hdg hq k
  · cases e1
theorem xr_alen {t : Nat} (ht : ∀ G : XG, ∃ ty : FieldType, (xTy G)[t]? = some (G.2 t, ty)) (hexec : p.tables.exec = Jvm.exec) (hb : c.code = cc) (hK : xK G s) (hP : xP B0 G h H) {v : Int32} (e1 : xlen h a t = some v) (hdg : decode cc pc = .ok (.arraylength, 1))
    (kk : W p l e R s m args below meth c H locs cells slots Q (F0 m (pc + 1) ls (.int v :: rest))) : W p l e R s m args below meth c H locs cells slots Q (F0 m pc ls (.ref a :: rest)) := by
  obtain ⟨x, ha, hv⟩ := xlen_spec e1
  obtain ⟨ty, ht⟩ := ht G
  exact va_alen hexec hb hK (hP.get ha) 0 t rfl ht hv hdg kk
theorem xr_lcmp_le (hexec : p.tables.exec = Jvm.exec) (hb : c.code = cc) {x y : Int64} {off : Int} {tgt : Nat} (hdg : decode cc pc = .ok (.lcmp, 1)) (hd2 : decode cc (pc + 1) = .ok (.ifCond .le off, 3)) (ht : ((pc + 1 : Nat) : Int) + off = (tgt : Int))
    (kt : x ≤ y → W p l e R s m args below meth c H locs cells slots Q (F0 m tgt ls rest)) (kf : ¬ x ≤ y → W p l e R s m args below meth c H locs cells slots Q (F0 m (pc + 1 + 3) ls rest)) : W p l e R s m args below meth c H locs cells slots Q (F0 m pc ls (.long y :: .long x :: rest)) := by
  refine W.lcmp hexec hb hdg ?_
  have hq : (lg_cmp x y ≤ 0) ↔ x ≤ y := lg_cmp_le x y
  exact lv_if_le hexec hb hd2 ht (fun q => kt (hq.mp q)) (fun q => kf (fun z => q (hq.mpr z)))
theorem xr_lcmp_lt (hexec : p.tables.exec = Jvm.exec) (hb : c.code = cc) {x y : Int64} {off : Int} {tgt : Nat} (hdg : decode cc pc = .ok (.lcmp, 1)) (hd2 : decode cc (pc + 1) = .ok (.ifCond .lt off, 3)) (ht : ((pc + 1 : Nat) : Int) + off = (tgt : Int))
    (kt : x < y → W p l e R s m args below meth c H locs cells slots Q (F0 m tgt ls rest)) (kf : ¬ x < y → W p l e R s m args below meth c H locs cells slots Q (F0 m (pc + 1 + 3) ls rest)) : W p l e R s m args below meth c H locs cells slots Q (F0 m pc ls (.long y :: .long x :: rest)) := by
  refine W.lcmp hexec hb hdg ?_
  have hq : (lg_cmp x y < 0) ↔ x < y := lg_cmp_lt x y
  exact lv_if_lt hexec hb hd2 ht (fun q => kt (hq.mp q)) (fun q => kf (fun z => q (hq.mpr z)))
theorem xr_lcmp_ge (hexec : p.tables.exec = Jvm.exec) (hb : c.code = cc) {x y : Int64} {off : Int} {tgt : Nat} (hdg : decode cc pc = .ok (.lcmp, 1)) (hd2 : decode cc (pc + 1) = .ok (.ifCond .ge off, 3)) (ht : ((pc + 1 : Nat) : Int) + off = (tgt : Int))
    (kt : y ≤ x → W p l e R s m args below meth c H locs cells slots Q (F0 m tgt ls rest)) (kf : ¬ y ≤ x → W p l e R s m args below meth c H locs cells slots Q (F0 m (pc + 1 + 3) ls rest)) : W p l e R s m args below meth c H locs cells slots Q (F0 m pc ls (.long y :: .long x :: rest)) := by
  refine W.lcmp hexec hb hdg ?_
  have hq : (0 ≤ lg_cmp x y) ↔ y ≤ x := lg_cmp_ge x y
  exact lv_if_ge hexec hb hd2 ht (fun q => kt (hq.mp q)) (fun q => kf (fun z => q (hq.mpr z)))
theorem xr_lcmp_gt (hexec : p.tables.exec = Jvm.exec) (hb : c.code = cc) {x y : Int64} {off : Int} {tgt : Nat} (hdg : decode cc pc = .ok (.lcmp, 1)) (hd2 : decode cc (pc + 1) = .ok (.ifCond .gt off, 3)) (ht : ((pc + 1 : Nat) : Int) + off = (tgt : Int))
    (kt : y < x → W p l e R s m args below meth c H locs cells slots Q (F0 m tgt ls rest)) (kf : ¬ y < x → W p l e R s m args below meth c H locs cells slots Q (F0 m (pc + 1 + 3) ls rest)) : W p l e R s m args below meth c H locs cells slots Q (F0 m pc ls (.long y :: .long x :: rest)) := by
  refine W.lcmp hexec hb hdg ?_
  have hq : (0 < lg_cmp x y) ↔ y < x := lg_cmp_gt x y
  exact lv_if_gt hexec hb hd2 ht (fun q => kt (hq.mp q)) (fun q => kf (fun z => q (hq.mpr z)))
theorem xr_lcmp_eq (hexec : p.tables.exec = Jvm.exec) (hb : c.code = cc) {x y : Int64} {off : Int} {tgt : Nat} (hdg : decode cc pc = .ok (.lcmp, 1)) (hd2 : decode cc (pc + 1) = .ok (.ifCond .eq off, 3)) (ht : ((pc + 1 : Nat) : Int) + off = (tgt : Int))
    (kt : x = y → W p l e R s m args below meth c H locs cells slots Q (F0 m tgt ls rest)) (kf : ¬ x = y → W p l e R s m args below meth c H locs cells slots Q (F0 m (pc + 1 + 3) ls rest)) : W p l e R s m args below meth c H locs cells slots Q (F0 m pc ls (.long y :: .long x :: rest)) := by
  refine W.lcmp hexec hb hdg ?_
  have hq : (lg_cmp x y = 0) ↔ x = y := lg_cmp_eq x y
  exact lv_if_eq hexec hb hd2 ht (fun q => kt (hq.mp q)) (fun q => kf (fun z => q (hq.mpr z)))
theorem xr_lcmp_ne (hexec : p.tables.exec = Jvm.exec) (hb : c.code = cc) {x y : Int64} {off : Int} {tgt : Nat} (hdg : decode cc pc = .ok (.lcmp, 1)) (hd2 : decode cc (pc + 1) = .ok (.ifCond .ne off, 3)) (ht : ((pc + 1 : Nat) : Int) + off = (tgt : Int))
    (kt : ¬ x = y → W p l e R s m args below meth c H locs cells slots Q (F0 m tgt ls rest)) (kf : x = y → W p l e R s m args below meth c H locs cells slots Q (F0 m (pc + 1 + 3) ls rest)) : W p l e R s m args below meth c H locs cells slots Q (F0 m pc ls (.long y :: .long x :: rest)) := by
  refine W.lcmp hexec hb hdg ?_
  have hq : (lg_cmp x y = 0) ↔ x = y := lg_cmp_eq x y
  exact lv_if_ne hexec hb hd2 ht (fun q => kt (fun z => q (hq.mpr z))) (fun q => kf (hq.mp q))
end XM
