/-! The class's text in the heap, three cells from b on. -/
def ht (b : Nat) (W : XH) (tl fc pa nu : Int32) (by_ fo : Nat → Int32) : XH := fun q =>
  if q = b then some (.inr (0, [.ref (b + 1), .int tl, .ref (b + 2), .int fc, .int pa, .int nu]))
  else if q = b + 1 then some (.inl (1, 120, .inl by_))
  else if q = b + 2 then some (.inl (0, 100, .inl fo))
  else W q
theorem ht_0 {b : Nat} {W : XH} {tl fc pa nu : Int32} {by_ fo : Nat → Int32} : (ht b W tl fc pa nu by_ fo) b = some (.inr (0, [.ref (b + 1), .int tl, .ref (b + 2), .int fc, .int pa, .int nu])) := by simp [ht]
theorem ht_1 {b : Nat} {W : XH} {tl fc pa nu : Int32} {by_ fo : Nat → Int32} : (ht b W tl fc pa nu by_ fo) (b + 1) = some (.inl (1, 120, .inl by_)) := by simp [ht]
theorem ht_2 {b : Nat} {W : XH} {tl fc pa nu : Int32} {by_ fo : Nat → Int32} : (ht b W tl fc pa nu by_ fo) (b + 2) = some (.inl (0, 100, .inl fo)) := by simp [ht]
theorem ht_out {b : Nat} {W : XH} {tl fc pa nu : Int32} {by_ fo : Nat → Int32} {q : Nat} (h : ¬ (b ≤ q ∧ q < b + 3)) : (ht b W tl fc pa nu by_ fo) q = W q := by
  unfold ht
  rw [if_neg (by omega), if_neg (by omega), if_neg (by omega)]
theorem tg_r1 {b : Nat} {W : XH} {tl fc pa nu : Int32} {by_ fo : Nat → Int32} : xgR (ht b W tl fc pa nu by_ fo) b 0 0 = some (b + 1) := by simp [xgR, xg, ht_0]
theorem tg_r2 {b : Nat} {W : XH} {tl fc pa nu : Int32} {by_ fo : Nat → Int32} : xgR (ht b W tl fc pa nu by_ fo) b 0 2 = some (b + 2) := by simp [xgR, xg, ht_0]
theorem tg_is {b : Nat} {W : XH} {tl fc pa nu : Int32} {by_ fo : Nat → Int32} : xis (ht b W tl fc pa nu by_ fo) b 0 = some () := by simp [xis, ht_0]
theorem tg_tl {b : Nat} {W : XH} {tl fc pa nu : Int32} {by_ fo : Nat → Int32} : xgI (ht b W tl fc pa nu by_ fo) b 0 1 = some tl := by simp [xgI, xg, ht_0]
theorem ts_tl {b : Nat} {W : XH} {tl fc pa nu : Int32} {by_ fo : Nat → Int32} (v : Int32) : xpV (ht b W tl fc pa nu by_ fo) b 0 1 (.int v) = some (ht b W v fc pa nu by_ fo) := by
  simp only [xpV, ht_0]
  refine congrArg some ?_
  funext q
  by_cases hq : q = b
  · subst hq; rw [ht_0]; simp [xup]
  · rw [xup_ne _ _ hq]; simp only [ht, if_neg hq]
theorem tg_fc {b : Nat} {W : XH} {tl fc pa nu : Int32} {by_ fo : Nat → Int32} : xgI (ht b W tl fc pa nu by_ fo) b 0 3 = some fc := by simp [xgI, xg, ht_0]
theorem ts_fc {b : Nat} {W : XH} {tl fc pa nu : Int32} {by_ fo : Nat → Int32} (v : Int32) : xpV (ht b W tl fc pa nu by_ fo) b 0 3 (.int v) = some (ht b W tl v pa nu by_ fo) := by
  simp only [xpV, ht_0]
  refine congrArg some ?_
  funext q
  by_cases hq : q = b
  · subst hq; rw [ht_0]; simp [xup]
  · rw [xup_ne _ _ hq]; simp only [ht, if_neg hq]
theorem tg_pa {b : Nat} {W : XH} {tl fc pa nu : Int32} {by_ fo : Nat → Int32} : xgI (ht b W tl fc pa nu by_ fo) b 0 4 = some pa := by simp [xgI, xg, ht_0]
theorem ts_pa {b : Nat} {W : XH} {tl fc pa nu : Int32} {by_ fo : Nat → Int32} (v : Int32) : xpV (ht b W tl fc pa nu by_ fo) b 0 4 (.int v) = some (ht b W tl fc v nu by_ fo) := by
  simp only [xpV, ht_0]
  refine congrArg some ?_
  funext q
  by_cases hq : q = b
  · subst hq; rw [ht_0]; simp [xup]
  · rw [xup_ne _ _ hq]; simp only [ht, if_neg hq]
theorem tg_nu {b : Nat} {W : XH} {tl fc pa nu : Int32} {by_ fo : Nat → Int32} : xgI (ht b W tl fc pa nu by_ fo) b 0 5 = some nu := by simp [xgI, xg, ht_0]
theorem ts_nu {b : Nat} {W : XH} {tl fc pa nu : Int32} {by_ fo : Nat → Int32} (v : Int32) : xpV (ht b W tl fc pa nu by_ fo) b 0 5 (.int v) = some (ht b W tl fc pa v by_ fo) := by
  simp only [xpV, ht_0]
  refine congrArg some ?_
  funext q
  by_cases hq : q = b
  · subst hq; rw [ht_0]; simp [xup]
  · rw [xup_ne _ _ hq]; simp only [ht, if_neg hq]
theorem tg_by_ {b : Nat} {W : XH} {tl fc pa nu : Int32} {by_ fo : Nat → Int32} {i : Int32} (hi : xin i 120 = true) : xald (ht b W tl fc pa nu by_ fo) (b + 1) 1 i = some (by_ i.toNatClampNeg) := by simp [xald, ht_1, hi]
theorem tt_by_ {b : Nat} {W : XH} {tl fc pa nu : Int32} {by_ fo : Nat → Int32} {i : Int32} (hi : xin i 120 = true) (v : Int32) : xast (ht b W tl fc pa nu by_ fo) (b + 1) 1 i v = some (ht b W tl fc pa nu (xup by_ i.toNatClampNeg v) fo) := by
  simp only [xast, ht_1]
  rw [if_pos ⟨trivial, hi⟩]
  refine congrArg some ?_
  funext q
  by_cases hq : q = b + 1
  · subst hq; rw [ht_1, xup_self]
  · rw [xup_ne _ _ hq]; simp only [ht, if_neg hq]
theorem tg_fo {b : Nat} {W : XH} {tl fc pa nu : Int32} {by_ fo : Nat → Int32} {i : Int32} (hi : xin i 100 = true) : xald (ht b W tl fc pa nu by_ fo) (b + 2) 0 i = some (fo i.toNatClampNeg) := by simp [xald, ht_2, hi]
theorem tt_fo {b : Nat} {W : XH} {tl fc pa nu : Int32} {by_ fo : Nat → Int32} {i : Int32} (hi : xin i 100 = true) (v : Int32) : xast (ht b W tl fc pa nu by_ fo) (b + 2) 0 i v = some (ht b W tl fc pa nu by_ (xup fo i.toNatClampNeg v)) := by
  simp only [xast, ht_2]
  rw [if_pos ⟨trivial, hi⟩]
  refine congrArg some ?_
  funext q
  by_cases hq : q = b + 2
  · subst hq; rw [ht_2, xup_self]
  · rw [xup_ne _ _ hq]; simp only [ht, if_neg hq]
/-! reading a number: the signs that are figures, so many at most -/
def dg (L : Nat) (by_ : Nat → Int32) (q : Nat) : Bool := decide (q < L) && decide (48 ≤ (by_ q).toInt) && decide ((by_ q).toInt ≤ 57)
theorem dg_iff {L : Nat} {by_ : Nat → Int32} {q : Nat} : dg L by_ q = true ↔ q < L ∧ 48 ≤ (by_ q).toInt ∧ (by_ q).toInt ≤ 57 := by
  simp [dg, and_assoc]
def rd (L : Nat) (by_ : Nat → Int32) (p : Nat) : Nat → Nat × Int32
  | 0 => (p, 0)
  | m + 1 => if dg L by_ (rd L by_ p m).1 then ((rd L by_ p m).1 + 1, (rd L by_ p m).2 * 10 + by_ (rd L by_ p m).1 - 48) else rd L by_ p m
/-- what a number's reading comes to: where it goes wrong, or where it ends and what it is -/
def rn_ (L : Nat) (by_ : Nat → Int32) (p m : Nat) (lo hi : Int32) : Nat ⊕ (Nat × Int32) :=
  if dg L by_ (rd L by_ p m).1 then .inl (rd L by_ p m).1 else if (rd L by_ p m).1 = p then .inl p else if (rd L by_ p m).2 < lo then .inl p else if (rd L by_ p m).2 ≤ hi then .inr (rd L by_ p m) else .inl p
theorem rd_rng (L : Nat) (by_ : Nat → Int32) (p : Nat) (hp : p ≤ L) : ∀ m, p ≤ (rd L by_ p m).1 ∧ (rd L by_ p m).1 ≤ p + m ∧ (rd L by_ p m).1 ≤ L
  | 0 => ⟨Nat.le_refl _, Nat.le_refl _, hp⟩
  | m + 1 => by
    have ih := rd_rng L by_ p hp m
    unfold rd
    by_cases c : dg L by_ (rd L by_ p m).1
    · rw [if_pos c]; have := (dg_iff.mp c).1; simp only; omega
    · rw [if_neg c]; omega
theorem rd_full (L : Nat) (by_ : Nat → Int32) (p : Nat) : ∀ m, dg L by_ (rd L by_ p m).1 = true → (rd L by_ p m).1 = p + m
  | 0, _ => rfl
  | m + 1, h => by
    unfold rd at h ⊢
    by_cases c : dg L by_ (rd L by_ p m).1
    · rw [if_pos c]; have := rd_full L by_ p m c; simp only; omega
    · rw [if_neg c] at h; exact absurd h c

