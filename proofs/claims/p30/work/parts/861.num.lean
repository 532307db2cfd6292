/-! Numbers, loops. -/
theorem xnI_toInt {k : Nat} (h : k < 2147483648) : (nI k).toInt = (k : Int) := by unfold nI; exact Int32.toInt_ofNat_of_lt h
theorem xnI_nat {k : Nat} (h : k < 2147483648) : (nI k).toNatClampNeg = k := by
  show (nI k).toInt.toNat = k
  rw [xnI_toInt h]
  rfl
theorem xnI_le_iff {a b : Nat} (ha : a < 2147483648) (hb : b < 2147483648) : (nI a ≤ nI b) ↔ a ≤ b := by
  rw [Int32.le_iff_toInt_le, xnI_toInt ha, xnI_toInt hb]; omega
theorem xnI_lt_iff {a b : Nat} (ha : a < 2147483648) (hb : b < 2147483648) : (nI a < nI b) ↔ a < b := by
  rw [Int32.lt_iff_toInt_lt, xnI_toInt ha, xnI_toInt hb]; omega
theorem xnI_inj {a b : Nat} (ha : a < 2147483648) (hb : b < 2147483648) (h : nI a = nI b) : a = b := by
  have := congrArg Int32.toInt h
  rw [xnI_toInt ha, xnI_toInt hb] at this; omega
theorem xnI_s (a : Nat) : nI a + (1 : Int32) = nI (a + 1) := by unfold nI; rw [Int32.ofNat_add]; rfl
theorem xnI_add (a b : Nat) : nI a + nI b = nI (a + b) := by unfold nI; rw [Int32.ofNat_add]
theorem xnI_mul (a b : Nat) : nI a * nI b = nI (a * b) := by unfold nI; rw [Int32.ofNat_mul]
theorem xnI_z : nI 0 = (0 : Int32) := rfl
theorem xin_nI {k n : Nat} (h : k < n) (hn : n < 2147483648) : xin (nI k) n = true := by
  have h1 : k < 2147483648 := by omega
  simp only [xin, Bool.and_eq_true, Bool.not_eq_true', decide_eq_false_iff_not, decide_eq_true_eq]
  refine ⟨?_, by rw [xnI_nat h1]; exact h⟩
  rw [← xnI_z, xnI_lt_iff h1 (by omega)]
  omega
/-- a number that is not negative is that of its value -/
theorem xnI_of {x : Int32} (h : (0 : Int32) ≤ x) : x = nI x.toNatClampNeg := by
  apply Int32.toInt_inj.mp
  have h0 : 0 ≤ x.toInt := by simpa using Int32.le_iff_toInt_le.mp h
  have h1 : x.toInt < 2147483648 := Int32.toInt_lt x
  have h2 : x.toNatClampNeg = x.toInt.toNat := rfl
  rw [xnI_toInt (by omega), h2]
  omega
def it {α : Type} (f : Nat → α → α) (a : α) : Nat → α
  | 0 => a
  | n + 1 => f n (it f a n)
theorem it_s {α : Type} (f : Nat → α → α) (a : α) (n : Nat) : it f a (n + 1) = f n (it f a n) := rfl
theorem it_0 {α : Type} (f : Nat → α → α) (a : α) : it f a 0 = a := rfl
/-- a loop that counts up, its state x under an invariant -/
theorem xloop_it {S R α : Type} {body : S → Option (S ⊕ R)} (mk : Nat → α → S) (f : Nat → α → α) (I : Nat → α → Prop) (g : α → R) (n : Nat) {a : α} {fu : Nat} (h0 : I 0 a)
    (hs : ∀ i x, i < n → I i x → body (mk i x) = some (.inl (mk (i + 1) (f i x))) ∧ I (i + 1) (f i x)) (he : ∀ x, I n x → body (mk n x) = some (.inr (g x))) (hf : n < fu) : xloop body fu (mk 0 a) = some (g (it f a n)) := by
  have key : ∀ i, i ≤ n → I i (it f a i) := by
    intro i
    induction i with
    | zero => intro _; exact h0
    | succ i ih => intro hi; exact (hs i _ (by omega) (ih (by omega))).2
  have h1 := xloop_run (body := body) (fun i => mk i (it f a i)) (r := g (it f a n)) n 0 fu (fun i _ hi => (hs i _ (by omega) (key i (by omega))).1) (by rw [Nat.zero_add]; exact he _ (key n (Nat.le_refl _))) hf
  exact h1
/-- .. without one -/
theorem xloop_it0 {S R α : Type} {body : S → Option (S ⊕ R)} (mk : Nat → α → S) (f : Nat → α → α) (g : α → R) (n : Nat) {a : α} {fu : Nat}
    (hs : ∀ i x, i < n → body (mk i x) = some (.inl (mk (i + 1) (f i x)))) (he : ∀ x, body (mk n x) = some (.inr (g x))) (hf : n < fu) : xloop body fu (mk 0 a) = some (g (it f a n)) :=
  xloop_it mk f (fun _ _ => True) g n trivial (fun i x hi _ => ⟨hs i x hi, trivial⟩) (fun x _ => he x) hf
def isum (f : Nat → Int32) : Nat → Int32
  | 0 => 0
  | n + 1 => isum f n + f n
theorem xnl0 : nI 0 = (0 : Int32) := rfl
theorem xnl1 : nI 1 = (1 : Int32) := rfl
theorem xnl2 : nI 2 = (2 : Int32) := rfl
theorem xnl3 : nI 3 = (3 : Int32) := rfl
theorem xnl4 : nI 4 = (4 : Int32) := rfl
theorem xnl5 : nI 5 = (5 : Int32) := rfl
theorem xnl6 : nI 6 = (6 : Int32) := rfl
theorem xnl7 : nI 7 = (7 : Int32) := rfl
theorem xnl8 : nI 8 = (8 : Int32) := rfl
theorem xnl9 : nI 9 = (9 : Int32) := rfl
theorem xnl10 : nI 10 = (10 : Int32) := rfl
theorem xnl11 : nI 11 = (11 : Int32) := rfl
theorem xnl12 : nI 12 = (12 : Int32) := rfl
/-- as a row for 'rw' -/
theorem xloop_E {S R α : Type} {body : S → Option (S ⊕ R)} {s0 : S} {fu : Nat} (mk : Nat → α → S) (f : Nat → α → α) (g : α → R) (n : Nat) (a : α) (h0 : s0 = mk 0 a)
    (hs : ∀ i x, i < n → body (mk i x) = some (.inl (mk (i + 1) (f i x)))) (he : ∀ x, body (mk n x) = some (.inr (g x))) (hf : n < fu) : xloop body fu s0 = some (g (it f a n)) := by
  subst h0
  exact xloop_it0 mk f g n hs he hf
theorem xloop_I {S R α : Type} {body : S → Option (S ⊕ R)} {s0 : S} {fu : Nat} (I : Nat → α → Prop) (mk : Nat → α → S) (f : Nat → α → α) (g : α → R) (n : Nat) (a : α) (h0 : s0 = mk 0 a) (hi : I 0 a)
    (hs : ∀ i x, i < n → I i x → body (mk i x) = some (.inl (mk (i + 1) (f i x))) ∧ I (i + 1) (f i x)) (he : ∀ x, I n x → body (mk n x) = some (.inr (g x))) (hf : n < fu) : xloop body fu s0 = some (g (it f a n)) := by
  subst h0
  exact xloop_it mk f I g n hi hs he hf
theorem it_inv {α : Type} (I : Nat → α → Prop) (f : Nat → α → α) (n : Nat) {a : α} (h0 : I 0 a) (hs : ∀ i x, i < n → I i x → I (i + 1) (f i x)) : I n (it f a n) := by
  have key : ∀ i, i ≤ n → I i (it f a i) := by
    intro i
    induction i with
    | zero => intro _; exact h0
    | succ i ih => intro hi; exact hs i _ (by omega) (ih (by omega))
  exact key n (Nat.le_refl _)
theorem isum_it (f : Nat → Int32) (n : Nat) : it (fun i a => a + f i) 0 n = isum f n := by
  induction n with
  | zero => rfl
  | succ n ih => rw [it_s, ih]; rfl
/-- a loop that may stop early -/
theorem xloop_S {S R α : Type} {body : S → Option (S ⊕ R)} {s0 : S} {fu : Nat} (mk : Nat → α → S) (stop : α → Prop) [DecidablePred stop] (f : Nat → α → α) (g : α → R) (n : Nat) (a : α) (h0 : s0 = mk 0 a)
    (hb : ∀ i x, i < n → stop x → body (mk i x) = some (.inr (g x))) (hs : ∀ i x, i < n → ¬ stop x → body (mk i x) = some (.inl (mk (i + 1) (f i x)))) (he : ∀ x, body (mk n x) = some (.inr (g x))) (hf : n < fu) :
    xloop body fu s0 = some (g (it (fun i x => if stop x then x else f i x) a n)) := by
  subst h0
  have key : ∀ (m k : Nat) (fu : Nat) (x : α), k + m = n → m < fu → xloop body fu (mk k x) = some (g (it (fun i x => if stop x then x else f (k + i) x) x m)) := by
    intro m
    induction m with
    | zero =>
      intro k fu x hk hf
      obtain ⟨f, rfl⟩ : ∃ f, fu = f + 1 := ⟨fu - 1, by omega⟩
      unfold xloop
      rw [show k = n by omega, he]
      rfl
    | succ m ih =>
      intro k fu x hk hf
      obtain ⟨f9, rfl⟩ : ∃ f, fu = f + 1 := ⟨fu - 1, by omega⟩
      have hz : ∀ (j : Nat) (y : α), stop y → it (fun i x => if stop x then x else f (k + i) x) y j = y := by
        intro j y hy
        induction j with
        | zero => rfl
        | succ j ihj => rw [it_s, ihj, if_pos hy]
      unfold xloop
      by_cases hx : stop x
      · rw [hb k x (by omega) hx, hz _ _ hx]
      · rw [hs k x (by omega) hx]
        simp only
        rw [ih (k + 1) f9 (f k x) (by omega) (by omega)]
        refine congrArg (fun z => some (g z)) ?_
        have hsh : ∀ j, it (fun i x => if stop x then x else f (k + 1 + i) x) (f k x) j = it (fun i x => if stop x then x else f (k + i) x) x (j + 1) := by
          intro j
          induction j with
          | zero => rw [it_s, it_0, it_0, if_neg hx, Nat.add_zero]
          | succ j ihj => rw [it_s, ihj, it_s _ _ (j + 1), show k + 1 + j = k + (j + 1) by omega]
        exact hsh m
  have h := key n 0 fu a (by omega) hf
  simp only [Nat.zero_add] at h
  exact h
theorem olet_eq {α β : Type} (x : α) (f : α → Option β) : olet x f = f x := rfl

