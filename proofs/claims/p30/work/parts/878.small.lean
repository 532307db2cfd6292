/-! Sharing from the smallest demand up. -/
def z_lt (d : Nat → Int32) (a b : Nat) : Prop := (d a).toInt < (d b).toInt ∨ ((d a).toInt = (d b).toInt ∧ a < b)
/-- an order: all users below n, one behind another -/
def z_ord (d : Nat → Int32) (n : Nat) (s : Nat → Nat) : Prop := (∀ j, j < n → s j < n) ∧ (∀ a b, a < b → b < n → z_lt d (s a) (s b)) ∧ ∀ m, m < n → ∃ j, j < n ∧ s j = m
theorem u_ins_spec (d : Nat → Int32) (di : Int32) : ∀ (p : Nat) (o : Nat → Int32), (∀ j, j < (u_ins d di p o).1 → (u_ins d di p o).2 j = o j) ∧ (∀ j, (u_ins d di p o).1 ≤ j → j < p → (u_ins d di p o).2 (j + 1) = o j ∧ di < d (o j).toNatClampNeg) ∧
    (∀ j, p < j → (u_ins d di p o).2 j = o j) ∧ ((u_ins d di p o).1 = 0 ∨ d (o ((u_ins d di p o).1 - 1)).toNatClampNeg ≤ di) := by
  intro p
  induction p with
  | zero => intro o; exact ⟨fun _ _ => rfl, fun j _ h => absurd h (Nat.not_lt_zero _), fun _ _ => rfl, Or.inl rfl⟩
  | succ p ih =>
    intro o
    by_cases hq : d (o p).toNatClampNeg ≤ di
    · have e : u_ins d di (p + 1) o = (p + 1, o) := if_pos hq
      rw [e]
      refine ⟨fun _ _ => rfl, fun j h1 h2 => ?_, fun _ _ => rfl, Or.inr hq⟩
      simp only at h1; omega
    · have e : u_ins d di (p + 1) o = u_ins d di p (xup o (p + 1) (o p)) := if_neg hq
      rw [e]
      obtain ⟨h1, h2, h3, h4⟩ := ih (xup o (p + 1) (o p))
      have hle := u_ins_le d di p (xup o (p + 1) (o p))
      refine ⟨?_, ?_, ?_, ?_⟩
      · intro j hj
        rw [h1 j hj, xup_ne _ _ (by omega)]
      · intro j ha hb
        by_cases c : j = p
        · subst c
          rw [h3 (j + 1) (by omega), xup_self]
          exact ⟨rfl, Int32.not_le.mp hq⟩
        · have := h2 j ha (by omega)
          rw [xup_ne _ _ (show j ≠ p + 1 by omega)] at this
          exact this
      · intro j hj
        rw [h3 j (by omega), xup_ne _ _ (by omega)]
      · rcases h4 with h4 | h4
        · exact Or.inl h4
        · by_cases c : (u_ins d di p (xup o (p + 1) (o p))).1 = 0
          · exact Or.inl c
          · right
            rw [xup_ne _ _ (show (u_ins d di p (xup o (p + 1) (o p))).1 - 1 ≠ p + 1 by omega)] at h4
            exact h4
theorem u_srt_ord (d : Nat → Int32) (n : Nat) (hn : n ≤ 5) (od : Nat → Int32) : z_ord d n (fun j => (u_srt d n od j).toNatClampNeg) := by
  refine it_inv (fun i (o : Nat → Int32) => z_ord d i (fun j => (o j).toNatClampNeg)) _ n ⟨fun j h => absurd h (Nat.not_lt_zero _), fun _ b _ h => absurd h (Nat.not_lt_zero _), fun m h => absurd h (Nat.not_lt_zero _)⟩ ?_
  rintro i o hi ⟨q1, q2, q3⟩
  have hle := u_ins_le d (d i) i o
  obtain ⟨h1, h2, h3, h4⟩ := u_ins_spec d (d i) i o
  generalize (u_ins d (d i) i o).1 = p at *
  generalize (u_ins d (d i) i o).2 = o2 at *
  have ni : (nI i).toNatClampNeg = i := xnI_nat (by omega)
  -- what stands where
  have r1 : ∀ j, j < p → xup o2 p (nI i) j = o j := fun j hj => by rw [xup_ne _ _ (by omega), h1 j hj]
  have r2 : xup o2 p (nI i) p = nI i := xup_self _ _ _
  have r3 : ∀ j, p ≤ j → j < i → xup o2 p (nI i) (j + 1) = o j := fun j ha hb => by rw [xup_ne _ _ (by omega), (h2 j ha hb).1]
  have lo : ∀ j, j < p → z_lt d (o j).toNatClampNeg i := by
    intro j hj
    have hb : d (o (p - 1)).toNatClampNeg ≤ d i := by
      rcases h4 with h4 | h4
      · omega
      · exact h4
    rw [ti_le] at hb
    have hk := q1 j (by omega)
    simp only at hk
    unfold z_lt
    by_cases c : j = p - 1
    · subst c; omega
    · have := q2 j (p - 1) (by omega) (by omega)
      unfold z_lt at this
      simp only at this
      omega
  have hi2 : ∀ j, p ≤ j → j < i → z_lt d i (o j).toNatClampNeg := by
    intro j ha hb
    have := (h2 j ha hb).2
    rw [ti_lt] at this
    exact Or.inl this
  refine ⟨?_, ?_, ?_⟩
  · intro j hj
    simp only
    by_cases c1 : j < p
    · rw [r1 j c1]; have := q1 j (by omega); simp only at this; omega
    · by_cases c2 : j = p
      · subst c2; rw [r2, ni]; omega
      · obtain ⟨k, rfl⟩ : ∃ k, j = k + 1 := ⟨j - 1, by omega⟩
        rw [r3 k (by omega) (by omega)]; have := q1 k (by omega); simp only at this; omega
  · intro a b hab hb
    simp only
    by_cases a1 : a < p
    · rw [r1 a a1]
      by_cases b1 : b < p
      · rw [r1 b b1]; exact q2 a b hab (by omega)
      · by_cases b2 : b = p
        · subst b2; rw [r2, ni]; exact lo a a1
        · obtain ⟨k, rfl⟩ : ∃ k, b = k + 1 := ⟨b - 1, by omega⟩
          rw [r3 k (by omega) (by omega)]; exact q2 a k (by omega) (by omega)
    · by_cases a2 : a = p
      · subst a2
        rw [r2, ni]
        obtain ⟨k, rfl⟩ : ∃ k, b = k + 1 := ⟨b - 1, by omega⟩
        rw [r3 k (by omega) (by omega)]; exact hi2 k (by omega) (by omega)
      · obtain ⟨k, rfl⟩ : ∃ k, b = k + 1 := ⟨b - 1, by omega⟩
        obtain ⟨l, rfl⟩ : ∃ l, a = l + 1 := ⟨a - 1, by omega⟩
        rw [r3 k (by omega) (by omega), r3 l (by omega) (by omega)]; exact q2 l k (by omega) (by omega)
  · intro m hm
    by_cases c : m = i
    · subst c
      exact ⟨p, by omega, by simp only; rw [r2, ni]⟩
    · obtain ⟨j, hj, e⟩ := q3 m (by omega)
      simp only at e
      by_cases c1 : j < p
      · exact ⟨j, by omega, by simp only; rw [r1 j c1]; exact e⟩
      · exact ⟨j + 1, by omega, by simp only; rw [r3 j (by omega) hj]; exact e⟩
/-! the model's choice -/
def z_enc : Option Nat → Int32
  | none => -1
  | some w => nI w
def z_st (d : Nat → Int32) (m i : Nat) (v : Option Nat) : Option Nat :=
  if m.testBit i then v else match v with
    | none => some i
    | some w => if d w ≤ d i then some w else some i
theorem z_bit : ∀ m, m < 32 → ∀ u, u < 5 → ((((nI m) >>> ((nI u) &&& (31 : Int32))) &&& (1 : Int32)) = (0 : Int32) ↔ m.testBit u = false) := by decide +kernel
theorem z_or : ∀ m, m < 32 → ∀ u, u < 5 → ((nI m) ||| ((1 : Int32) <<< ((nI u) &&& (31 : Int32)))) = nI (m ||| (1 <<< u)) ∧ (m ||| (1 <<< u)) < 32 ∧ ∀ w, w < 5 → (m ||| (1 <<< u)).testBit w = (m.testBit w || decide (u = w)) := by decide +kernel
theorem z_ne1 {w : Nat} (h : w < 5) : ¬ nI w = (-1 : Int32) := by
  intro e
  have h1 := xnI_toInt (k := w) (by omega)
  rw [e] at h1
  have : (-1 : Int32).toInt = -1 := by decide
  omega
theorem z_sel {d : Nat → Int32} {n : Nat} {s : Nat → Nat} (hs : z_ord d n s) {m k : Nat} (hk : k < n) (hm : ∀ u, u < n → (m.testBit u = true ↔ ∃ j, j < k ∧ s j = u)) :
    it (fun i v => z_st d m i v) none n = some (s k) := by
  obtain ⟨q1, q2, q3⟩ := hs
  have hinj : ∀ a b, a < n → b < n → s a = s b → a = b := by
    intro a b ha hb e
    rcases Nat.lt_trichotomy a b with h | h | h
    · have := q2 a b h hb; rw [e] at this; unfold z_lt at this; omega
    · exact h
    · have := q2 b a h ha; rw [e] at this; unfold z_lt at this; omega
  have key := it_inv (fun i (v : Option Nat) => (v = none → ∀ u, u < i → m.testBit u = true) ∧ ∀ w, v = some w → w < i ∧ m.testBit w = false ∧ ∀ u, u < i → m.testBit u = false → u ≠ w → z_lt d w u)
    (fun i v => z_st d m i v) n (a := none) ⟨fun _ u h => absurd h (Nat.not_lt_zero _), fun w h => by cases h⟩ ?_
  · have op : m.testBit (s k) = false := by
      rcases Bool.eq_false_or_eq_true (m.testBit (s k)) with h | h
      · obtain ⟨j, hj, e⟩ := (hm _ (q1 k hk)).mp h
        have := hinj j k (by omega) hk e
        omega
      · exact h
    generalize it (fun i v => z_st d m i v) none n = v at *
    cases v with
    | none =>
      have := key.1 rfl (s k) (q1 k hk)
      rw [op] at this; cases this
    | some w =>
      obtain ⟨w1, w2, w3⟩ := key.2 w rfl
      by_cases c : s k = w
      · rw [c]
      · exfalso
        have l1 := w3 (s k) (q1 k hk) op c
        obtain ⟨j, hj, e⟩ := q3 w w1
        have hkj : k < j := by
          rcases Nat.lt_trichotomy k j with h | h | h
          · exact h
          · subst h; exact absurd e c
          · have := (hm w w1).mpr ⟨j, h, e⟩
            rw [w2] at this; cases this
        have l2 := q2 k j hkj hj
        rw [e] at l2
        unfold z_lt at l1 l2
        omega
  · rintro i v hi ⟨h1, h2⟩
    unfold z_st
    by_cases c : m.testBit i = true
    · rw [if_pos c]
      refine ⟨?_, ?_⟩
      · intro e u hu
        by_cases cu : u = i
        · subst cu; exact c
        · exact h1 e u (by omega)
      · intro w e
        obtain ⟨w1, w2, w3⟩ := h2 w e
        refine ⟨by omega, w2, ?_⟩
        intro u hu o ne
        by_cases cu : u = i
        · subst cu; rw [c] at o; cases o
        · exact w3 u (by omega) o ne
    · rw [if_neg c]
      have cf : m.testBit i = false := by
        rcases Bool.eq_false_or_eq_true (m.testBit i) with h | h
        · exact absurd h c
        · exact h
      cases v with
      | none =>
        refine ⟨fun e => (by cases e), ?_⟩
        intro w e
        cases e
        refine ⟨by omega, cf, ?_⟩
        intro u hu o ne
        have := h1 rfl u (by omega)
        rw [o] at this; cases this
      | some w =>
        obtain ⟨w1, w2, w3⟩ := h2 w rfl
        simp only
        by_cases cd : d w ≤ d i
        · rw [if_pos cd]
          rw [ti_le] at cd
          refine ⟨fun e => (by cases e), ?_⟩
          intro w' e
          cases e
          refine ⟨by omega, w2, ?_⟩
          intro u hu o ne
          by_cases cu : u = i
          · subst cu; unfold z_lt; omega
          · exact w3 u (by omega) o ne
        · rw [if_neg cd]
          rw [ti_le] at cd
          refine ⟨fun e => (by cases e), ?_⟩
          intro w' e
          cases e
          refine ⟨by omega, cf, ?_⟩
          intro u hu o ne
          by_cases cu : u = w
          · subst cu; unfold z_lt; omega
          · have := w3 u (by omega) o cu
            unfold z_lt at *; omega
def m_ss (s : Nat → Nat) (n : Nat) (x : Int32 × UT) : Int32 × UT := it (fun k x => m_giv x (s k) (x.2 (s k) 0)) x n
/-- one order, two ways to give -/
theorem m_small {n : Nat} {us : UT} {s : Nat → Nat} (hs : z_ord (fun i => us i 0) n s) (hz : u_z n us) (A : Int32) : m_ss s n (A, us) = u_ord s n (A, us) := by
  obtain ⟨q1, q2, q3⟩ := hs
  refine (it_two (fun i (x y : Int32 × UT) => x = y ∧ ∀ j, i ≤ j → j < n → x.2 (s j) = us (s j)) _ _ n ⟨rfl, fun _ _ _ => rfl⟩ ?_).1
  rintro i ⟨lf, v⟩ y hi ⟨rfl, hj⟩
  simp only at hj ⊢
  have e : v (s i) = us (s i) := hj i (Nat.le_refl _) hi
  have z : v (s i) 2 = 0 := by rw [e]; exact hz _ (q1 i hi)
  have hg : m_g v (s i) (v (s i) 0) lf = u_giv v (s i) lf := by
    unfold m_g u_giv xmin
    rw [z, i32_sub0, if_pos (Int32.le_refl _)]
    by_cases c : lf ≤ v (s i) 0
    · rw [if_pos c, if_neg (Int32.not_lt.mpr c)]
    · rw [if_neg c, if_pos (Int32.not_le.mp c)]
  refine ⟨m_giv_eq hg, ?_⟩
  intro j h h2
  show xup _ _ _ _ = _
  rw [xup_ne _ _ ?_]
  · exact hj j (by omega) h2
  · intro ee
    have := q2 i j (by omega) h2
    rw [ee] at this
    unfold z_lt at this; omega
section PS5
variable {b : Nat} {W : XH} {cap flo top eva lim rul rc uc rn dn lev dry ap : Int32} {rf us : Nat → Nat → Int32} {ra ac sv as : Nat → Int32} {sm th : Int32} {sd : Int64} {td : Int32} {sp : Nat → Int64} {lf : Int32} {tx : Nat → Int32} {tl pl nb : Int32}
variable {fu n : Nat}
end PS5

