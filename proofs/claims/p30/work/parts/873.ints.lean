/-! Numbers as integers. -/
theorem ti_rng (a : Int32) : -2147483648 ≤ a.toInt ∧ a.toInt < 2147483648 := by
  have h1 := Int32.le_toInt a
  have h2 := Int32.toInt_lt a
  exact ⟨by simpa using h1, by simpa using h2⟩
theorem ti_ext {a b : Int32} (h : a.toInt = b.toInt) : a = b := Int32.toInt_inj.mp h
theorem ti_le {a b : Int32} : a ≤ b ↔ a.toInt ≤ b.toInt := Int32.le_iff_toInt_le
theorem ti_lt {a b : Int32} : a < b ↔ a.toInt < b.toInt := Int32.lt_iff_toInt_lt
theorem ti_add {a b : Int32} (h1 : -2147483648 ≤ a.toInt + b.toInt) (h2 : a.toInt + b.toInt < 2147483648) : (a + b).toInt = a.toInt + b.toInt := by
  rw [Int32.toInt_add, Int.bmod_eq_of_le (by omega) (by omega)]
theorem ti_sub {a b : Int32} (h1 : -2147483648 ≤ a.toInt - b.toInt) (h2 : a.toInt - b.toInt < 2147483648) : (a - b).toInt = a.toInt - b.toInt := by
  rw [Int32.toInt_sub, Int.bmod_eq_of_le (by omega) (by omega)]
theorem ti_mul {a b : Int32} (h1 : -2147483648 ≤ a.toInt * b.toInt) (h2 : a.toInt * b.toInt < 2147483648) : (a * b).toInt = a.toInt * b.toInt := by
  rw [Int32.toInt_mul, Int.bmod_eq_of_le (by omega) (by omega)]
theorem ti_min (a b : Int32) : (xmin a b).toInt = min a.toInt b.toInt := by
  unfold xmin
  by_cases h : b < a
  · rw [if_pos h]; rw [ti_lt] at h; omega
  · rw [if_neg h]; rw [ti_lt] at h; omega
theorem ti_max (a b : Int32) : (xmax a b).toInt = max a.toInt b.toInt := by
  unfold xmax
  by_cases h : a < b
  · rw [if_pos h]; rw [ti_lt] at h; omega
  · rw [if_neg h]; rw [ti_lt] at h; omega
theorem ti_div {a b : Int32} (h1 : 0 ≤ a.toInt) (h2 : 0 < b.toInt) : (a / b).toInt = a.toInt / b.toInt := by
  have ha := ti_rng a
  have h4 : a.toInt / b.toInt ≤ a.toInt := Int.ediv_le_self _ h1
  have h5 : 0 ≤ a.toInt / b.toInt := Int.ediv_nonneg h1 (by omega)
  rw [Int32.toInt_div, Int.tdiv_eq_ediv_of_nonneg h1, Int.bmod_eq_of_le (by omega) (by omega)]
theorem ti_0 : (0 : Int32).toInt = 0 := rfl
theorem ti_1 : (1 : Int32).toInt = 1 := rfl
theorem ti_10 : (10 : Int32).toInt = 10 := rfl
/-- a part of A that goes by d of D -/
theorem ti_prt {d A D : Int32} (h1 : 0 ≤ d.toInt) (h2 : d.toInt ≤ 1000000) (h3 : 0 ≤ A.toInt) (h4 : A.toInt < D.toInt) : (Int64.toInt32 (Int32.toInt64 d * Int32.toInt64 A / Int32.toInt64 D)).toInt = d.toInt * A.toInt / D.toInt := by
  have hA := ti_rng A
  have hD := ti_rng D
  have e0 : 0 ≤ d.toInt * A.toInt := Int.mul_nonneg h1 h3
  have e1 : d.toInt * A.toInt ≤ 1000000 * 2147483648 := Int.mul_le_mul h2 (by omega) h3 (by omega)
  have e2 : d.toInt * A.toInt / D.toInt ≤ d.toInt := by
    have : d.toInt * A.toInt / D.toInt ≤ d.toInt * D.toInt / D.toInt := Int.ediv_le_ediv (by omega) (Int.mul_le_mul_of_nonneg_left (by omega) h1)
    rwa [Int.mul_ediv_cancel _ (by omega)] at this
  have e3 : 0 ≤ d.toInt * A.toInt / D.toInt := Int.ediv_nonneg e0 (by omega)
  have m1 : (Int32.toInt64 d * Int32.toInt64 A).toInt = d.toInt * A.toInt := by
    rw [Int64.toInt_mul, Int32.toInt_toInt64, Int32.toInt_toInt64, Int.bmod_eq_of_le (by omega) (by omega)]
  have m2 : (Int32.toInt64 d * Int32.toInt64 A / Int32.toInt64 D).toInt = d.toInt * A.toInt / D.toInt := by
    rw [Int64.toInt_div, m1, Int32.toInt_toInt64, Int.tdiv_eq_ediv_of_nonneg e0, Int.bmod_eq_of_le (by omega) (by omega)]
  rw [Int64.toInt_toInt32, m2, Int.bmod_eq_of_le (by omega) (by omega)]
/-! loops side by side, and sums -/
theorem it_two {α β : Type} (P : Nat → α → β → Prop) (f : Nat → α → α) (g : Nat → β → β) (n : Nat) {a : α} {b : β} (h0 : P 0 a b) (hs : ∀ i x y, i < n → P i x y → P (i + 1) (f i x) (g i y)) : P n (it f a n) (it g b n) := by
  have key : ∀ i, i ≤ n → P i (it f a i) (it g b i) := by
    intro i
    induction i with
    | zero => intro _; exact h0
    | succ i ih => intro hi; exact hs i _ _ (by omega) (ih (by omega))
  exact key n (Nat.le_refl _)
theorem it_add {α : Type} (f : α → α) (a : α) (m n : Nat) : it (fun _ x => f x) a (m + n) = it (fun _ x => f x) (it (fun _ x => f x) a m) n := by
  induction n with
  | zero => rfl
  | succ n ih => rw [← Nat.add_assoc, it_s, it_s, ih]
theorem it_fix {α : Type} (f : α → α) (a : α) (h : f a = a) (n : Nat) : it (fun _ x => f x) a n = a := by
  induction n with
  | zero => rfl
  | succ n ih => rw [it_s, ih, h]
def zsum (f : Nat → Int) : Nat → Int
  | 0 => 0
  | n + 1 => zsum f n + f n
theorem zsum_mul (c : Int) (f : Nat → Int) (n : Nat) : zsum (fun i => c * f i) n = c * zsum f n := by
  induction n with
  | zero => simp [zsum]
  | succ n ih => simp only [zsum, ih, Int.mul_add]
theorem zsum_sub (f g : Nat → Int) (n : Nat) : zsum (fun i => f i - g i) n = zsum f n - zsum g n := by
  induction n with
  | zero => simp [zsum]
  | succ n ih => simp only [zsum, ih]; omega
theorem zsum_le (f g : Nat → Int) (n : Nat) (h : ∀ i, i < n → f i ≤ g i) : zsum f n ≤ zsum g n := by
  induction n with
  | zero => simp [zsum]
  | succ n ih => have := ih (fun i hi => h i (by omega)); have := h n (by omega); simp only [zsum]; omega
theorem zsum_eq (f g : Nat → Int) (n : Nat) (h : ∀ i, i < n → f i = g i) : zsum f n = zsum g n := by
  induction n with
  | zero => rfl
  | succ n ih => simp only [zsum]; rw [ih (fun i hi => h i (by omega)), h n (by omega)]
theorem zsum_nn (f : Nat → Int) (n : Nat) (h : ∀ i, i < n → 0 ≤ f i) : 0 ≤ zsum f n := by
  induction n with
  | zero => simp [zsum]
  | succ n ih => have := ih (fun i hi => h i (by omega)); have := h n (by omega); simp only [zsum]; omega
theorem zsum_mono (f : Nat → Int) {m n : Nat} (hmn : m ≤ n) (h : ∀ i, i < n → 0 ≤ f i) : zsum f m ≤ zsum f n := by
  induction n with
  | zero => rw [show m = 0 by omega]; omega
  | succ n ih =>
    by_cases e : m = n + 1
    · subst e; omega
    · have := ih (by omega) (fun i hi => h i (by omega)); have := h n (by omega); simp only [zsum]; omega
/-- a sum of numbers, if it stays small -/
theorem ti_isum (f : Nat → Int32) (n : Nat) (c : Int) (hc : 0 ≤ c) (hn : c * n < 2147483648) (h : ∀ i, i < n → 0 ≤ (f i).toInt ∧ (f i).toInt ≤ c) : (isum f n).toInt = zsum (fun i => (f i).toInt) n ∧ zsum (fun i => (f i).toInt) n ≤ c * n := by
  induction n with
  | zero => exact ⟨rfl, by simp [zsum]⟩
  | succ n ih =>
    have e : c * ((n + 1 : Nat) : Int) = c * (n : Int) + c := by rw [Int.natCast_add, Int.mul_add]; simp
    rw [e] at hn ⊢
    have i1 := ih (by omega) (fun i hi => h i (by omega))
    have h1 := h n (by omega)
    have h0 := zsum_nn (fun i => (f i).toInt) n (fun i hi => (h i (by omega)).1)
    simp only [isum, zsum]
    rw [ti_add (by omega) (by omega), i1.1]
    exact ⟨rfl, by omega⟩
/-- a loop that changes each row by itself -/
def u_map (h : Nat → (Nat → Int32) → Nat → Int32) (n : Nat) (us : UT) : UT := fun i => if i < n then h i (us i) else us i
theorem it_map (h : Nat → (Nat → Int32) → Nat → Int32) (n : Nat) (us : UT) : it (fun i u => xup u i (h i (u i))) us n = u_map h n us := by
  induction n with
  | zero => funext i; simp [u_map, it]
  | succ n ih =>
    rw [it_s, ih]
    funext i
    by_cases hi : i = n
    · subst hi; rw [xup_self]; simp [u_map]
    · rw [xup_ne _ _ hi]
      by_cases h2 : i < n
      · simp [u_map, h2, show i < n + 1 by omega]
      · simp [u_map, h2, show ¬ i < n + 1 by omega]

