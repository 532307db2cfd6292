/-! The two objects, as they begin. -/
theorem xn5_0 : xin (0 : Int32) 5 = true := by decide
theorem xn5_1 : xin (1 : Int32) 5 = true := by decide
theorem xn5_2 : xin (2 : Int32) 5 = true := by decide
theorem xn5_3 : xin (3 : Int32) 5 = true := by decide
theorem xn5_4 : xin (4 : Int32) 5 = true := by decide
theorem xc_0 : (0 : Int32).toNatClampNeg = 0 := rfl
theorem xc_1 : (1 : Int32).toNatClampNeg = 1 := rfl
theorem xc_2 : (2 : Int32).toNatClampNeg = 2 := rfl
theorem xc_3 : (3 : Int32).toNatClampNeg = 3 := rfl
theorem xc_4 : (4 : Int32).toNatClampNeg = 4 := rfl
theorem xc_5 : (5 : Int32).toNatClampNeg = 5 := rfl
def arf (t m : Nat) (f : Nat → Option Nat) : Option XE := some (.inl (t, m, .inr (.inr (.inr (.inr f)))))
section PW9a
variable {h : XH} {a b : Nat}
theorem n_pV {l : List Value} {ci k : Nat} {v : Value} (e : h a = some (.inr (ci, l))) (hk : k < l.length) : xpV h a ci k v = some (xup h a (some (.inr (ci, l.set k v)))) := by
  simp [xpV, e, hk]
theorem n_gR {l : List Value} {ci k r : Nat} (e : h a = some (.inr (ci, l))) (hk : l[k]? = some (.ref r)) : xgR h a ci k = some r := by
  simp [xgR, xg, e, hk]
theorem n_is {l : List Value} {ci : Nat} (e : h a = some (.inr (ci, l))) : xis h a ci = some () := by
  simp [xis, e]
theorem n_len {t m : Nat} {f : Nat → Option Nat} (e : h a = arf t m f) : xlen h a t = some (Int32.ofNat m) := by
  simp [xlen, e, arf]
theorem n_aR {t m v : Nat} {f : Nat → Option Nat} {i : Int32} (e : h a = arf t m f) (hx : xin i m = true) : xastR h a t i v = some (xup h a (arf t m (xup f i.toNatClampNeg (some v)))) := by
  simp [xastR, e, arf, hx]
end PW9a
def zu : Option XE := some (.inr (3, [.int 0, .int 0, .int 0, .int 0]))
def U4i (h : XH) (a : Nat) : XH := fun q => if q = a then some (.inr (4, [.ref (a + 1), .int 0, .ref (a + 7)])) else if q = a + 1 then arf 5 5 (xrefs (a + 2) 5) else if a + 2 ≤ q ∧ q < a + 7 then zu else if q = a + 7 then some (.inl (0, 5, .inl fun _ => 0)) else h q
/-- a fresh Users, eight cells from a on -/
theorem i_X4 {h : XH} {a : Nat} (e : h a = some (.inr (4, [.null, .int 0, .null]))) : f_X4_init h a (a + 1) = some (U4i h a) := by
  have ef : xup (xup (xup (xup (xup (fun _ => none) 0 (some (a + 2))) 1 (some (a + 3))) 2 (some (a + 4))) 3 (some (a + 5))) 4 (some (a + 6)) = xrefs (a + 2) 5 := by
    funext j
    by_cases hj : j < 5
    · have h5 : j = 0 ∨ j = 1 ∨ j = 2 ∨ j = 3 ∨ j = 4 := by omega
      rcases h5 with rfl | rfl | rfl | rfl | rfl <;> simp [xup, xrefs]
    · unfold xrefs
      rw [if_neg hj, xup_ne _ _ (by omega), xup_ne _ _ (by omega), xup_ne _ _ (by omega), xup_ne _ _ (by omega), xup_ne _ _ (by omega)]
  simp [f_X4_init, olet, xpV, xgR, xg, xlen, xeqI, xis, xastR, xup, e, xn5_0, xn5_1, xn5_2, xn5_3, xn5_4, xc_0, xc_1, xc_2, xc_3, xc_4, Nat.add_assoc]
  funext q
  rw [show U4i h a q = if q = a then some (.inr (4, [.ref (a + 1), .int 0, .ref (a + 7)])) else if q = a + 1 then arf 5 5 (xrefs (a + 2) 5) else if a + 2 ≤ q ∧ q < a + 7 then zu else if q = a + 7 then some (.inl (0, 5, .inl fun _ => 0)) else h q from rfl, ← ef]
  by_cases c : a ≤ q ∧ q < a + 8
  · obtain ⟨i, hi, rfl⟩ : ∃ i, i < 8 ∧ q = a + i := ⟨q - a, by omega, by omega⟩
    have h8 : i = 0 ∨ i = 1 ∨ i = 2 ∨ i = 3 ∨ i = 4 ∨ i = 5 ∨ i = 6 ∨ i = 7 := by omega
    rcases h8 with rfl | rfl | rfl | rfl | rfl | rfl | rfl | rfl <;> simp [arf, zu, xup]
  · have q0 : q ≠ a := by omega
    have q1 : q ≠ a + 1 := by omega
    have q2 : q ≠ a + 2 := by omega
    have q3 : q ≠ a + 3 := by omega
    have q4 : q ≠ a + 4 := by omega
    have q5 : q ≠ a + 5 := by omega
    have q6 : q ≠ a + 6 := by omega
    have q7 : q ≠ a + 7 := by omega
    have q8 : ¬ (a + 2 ≤ q ∧ q < a + 7) := by omega
    simp [xup, q0, q1, q2, q3, q4, q5, q6, q7, q8]
theorem i_X4c {h : XH} {a c : Nat} (hc : c = a + 1) (e : h a = some (.inr (4, [.null, .int 0, .null]))) : f_X4_init h a c = some (U4i h a) := by subst hc; exact i_X4 e
theorem xn6_0 : xin (0 : Int32) 6 = true := by decide
theorem xn6_1 : xin (1 : Int32) 6 = true := by decide
theorem xn6_2 : xin (2 : Int32) 6 = true := by decide
theorem xn6_3 : xin (3 : Int32) 6 = true := by decide
theorem xn6_4 : xin (4 : Int32) 6 = true := by decide
theorem xn6_5 : xin (5 : Int32) 6 = true := by decide
abbrev st0 : Option XE := some (.inr (2, [.int 0, .int 0, .int 0, .int 0, .int 0, .int 0, .null, .int 0, .null, .null, .int 0, .int 0, .int 0, .int 0, .long 0, .null]))
/-- a fresh State -/
abbrev hp0 (h : XH) (a : Nat) : XH := hp a h 10000 0 0 0 3 0 0 0 0 0 0 0 0 (fun _ _ => 0) (fun _ _ => 0) (fun _ => 0) (fun _ => 0) (fun _ => 0)
theorem i_X2 {h : XH} {a : Nat} (e : h a = st0) : f_X2_init h a (a + 1) = some (hp0 h a) := by
  have ef : xup (xup (xup (xup (xup (xup (fun _ => none) 0 (some (a + 2))) 1 (some (a + 3))) 2 (some (a + 4))) 3 (some (a + 5))) 4 (some (a + 6))) 5 (some (a + 7)) = xrefs (a + 2) 6 := by
    funext j
    by_cases hj : j < 6
    · rcases xlt6 hj with rfl | rfl | rfl | rfl | rfl | rfl <;> simp [xup, xrefs]
    · unfold xrefs
      rw [if_neg hj, xup_ne _ _ (by omega), xup_ne _ _ (by omega), xup_ne _ _ (by omega), xup_ne _ _ (by omega), xup_ne _ _ (by omega), xup_ne _ _ (by omega)]
  have g1 : ¬ a + 10 ≤ a := by omega
  simp [f_X2_init, g1, olet, obind1_some, xpV, xgR, xg, xlen, xeqI, xis, xastR, xup, e, xn6_0, xn6_1, xn6_2, xn6_3, xn6_4, xn6_5, xc_0, xc_1, xc_2, xc_3, xc_4, xc_5, i_X4c, U4i, Nat.add_assoc]
  funext q
  by_cases c : a ≤ q ∧ q < a + 18
  · obtain ⟨i, hi, rfl⟩ : ∃ i, i < 18 ∧ q = a + i := ⟨q - a, by omega, by omega⟩
    by_cases c8 : i < 8
    · have h8 : i = 0 ∨ i = 1 ∨ i = 2 ∨ i = 3 ∨ i = 4 ∨ i = 5 ∨ i = 6 ∨ i = 7 := by omega
      rcases h8 with rfl | rfl | rfl | rfl | rfl | rfl | rfl | rfl
      · simp [hp, xup, U4i, zu, arf, g1]
      · simp only [hp]
        rw [← ef]
        have g2 : ¬ a + 9 ≤ a := by omega
        simp [xup, U4i, g1, g2]
      all_goals simp [hp, xup, U4i, zu, arf, g1]
    · have h8 : i = 8 ∨ i = 9 ∨ i = 10 ∨ i = 11 ∨ i = 12 ∨ i = 13 ∨ i = 14 ∨ i = 15 ∨ i = 16 ∨ i = 17 := by omega
      rcases h8 with rfl | rfl | rfl | rfl | rfl | rfl | rfl | rfl | rfl | rfl <;> simp [hp, xup, U4i, zu, arf, g1, Nat.add_assoc]
  · have q0 : q ≠ a := by omega
    have q1 : q ≠ a + 1 := by omega
    have q2 : q ≠ a + 2 := by omega
    have q3 : q ≠ a + 3 := by omega
    have q4 : q ≠ a + 4 := by omega
    have q5 : q ≠ a + 5 := by omega
    have q6 : q ≠ a + 6 := by omega
    have q7 : q ≠ a + 7 := by omega
    have q8 : q ≠ a + 8 := by omega
    have q9 : q ≠ a + 9 := by omega
    have qa : ¬ (a + 10 ≤ q ∧ q < a + 15) := by omega
    have qb : ¬ (a + 2 ≤ q ∧ q < a + 8) := by omega
    have q15 : q ≠ a + 15 := by omega
    have q16 : q ≠ a + 16 := by omega
    have q17 : q ≠ a + 17 := by omega
    simp [hp, xup, U4i, Nat.add_assoc, q0, q1, q2, q3, q4, q5, q6, q7, q8, q9, qa, qb, q15, q16, q17]
def StZ (b : Nat) (h : XH) : Prop := St b h 10000 0 0 0 3 0 0 0 0 0 0 0 0 (fun _ _ => 0) (fun _ _ => 0) (fun _ => 0) (fun _ => 0) (fun _ => 0)
theorem StZ_fr {b : Nat} {h h' : XH} (hS : StZ b h) (hf : ∀ q, b ≤ q → q < b + 18 → h' q = h q) : StZ b h' := St_fr hS hf
theorem i_new (g : XH) (b : Nat) {c : Nat} (hc : c = b + 1) : ∃ G, f_X2_init (xup g b st0) b c = some G ∧ StZ b G ∧ ∀ q, ¬ (b ≤ q ∧ q < b + 18) → G q = g q := by
  subst hc
  exact ⟨_, i_X2 (xup_self _ _ _), St_hp, fun q hq => (hp_out hq).trans (xup_ne _ _ (by omega))⟩
theorem i_X0 {h : XH} {a c : Nat} (hc : c = a + 1) : ∃ G, f_X0_init (xup h a (some (.inr (0, [.null, .int 0, .null, .int 0, .int 0, .int 0])))) a c = some G ∧ (∀ q, a ≤ q → q < a + 3 → G q = ht a (fun _ => none) 0 0 0 0 (fun _ => 0) (fun _ => 0) q) ∧ ∀ q, ¬ (a ≤ q ∧ q < a + 3) → G q = h q := by
  subst hc
  have e : f_X0_init (xup h a (some (.inr (0, [.null, .int 0, .null, .int 0, .int 0, .int 0])))) a (a + 1) = some (ht a h 0 0 0 0 (fun _ => 0) (fun _ => 0)) := by
    simp [f_X0_init, olet, xpV, xup, Nat.add_assoc]
    funext q
    by_cases c : a ≤ q ∧ q < a + 3
    · obtain ⟨i, hi, rfl⟩ : ∃ i, i < 3 ∧ q = a + i := ⟨q - a, by omega, by omega⟩
      have h8 : i = 0 ∨ i = 1 ∨ i = 2 := by omega
      rcases h8 with rfl | rfl | rfl <;> simp [ht, xup]
    · have q0 : q ≠ a := by omega
      have q1 : q ≠ a + 1 := by omega
      have q2 : q ≠ a + 2 := by omega
      simp [ht, xup, q0, q1, q2]
  exact ⟨_, e, fun q h1 h2 => ht_in _ h1 h2, fun q hq => ht_out hq⟩

