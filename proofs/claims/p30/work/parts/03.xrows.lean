/-! Rows over a heap that is a function: h says what lies at an address, and nothing of the rest. -/
abbrev XE : Type := (Nat × vp_A) ⊕ (Nat × List Value)
abbrev XH : Type := Nat → Option XE
abbrev XG : Type := va_G × (Nat → ClassId)
/-- the kinds of arrays: 0 int, 1 byte, 2 int (none), 3 Roof, 4 State, 5 User -/
def xTy (G : XG) : List (ClassId × FieldType) := [(G.2 0, .int), (G.2 1, .byte), (G.2 2, .int), (G.2 3, .object RX1), (G.2 4, .object RX2), (G.2 5, .object RX3)]
def xK (G : XG) (U : State) : Prop := va_K G.1 vwCl (xTy G) U
def xe (G : XG) : XE → va_E
  | .inl x => .inl (G.2 x.1, x.2)
  | .inr o => .inr o
def xA (B0 : Nat) : Nat → Prop := fun q => B0 ≤ q
def xP (B0 : Nat) (G : XG) (h : XH) (H : Heap) : Prop := B0 ≤ H.size ∧ ∀ (q : Nat) (e : XE), h q = some e → B0 ≤ q ∧ va_at G.1 vwCl (q, xe G e) H
def xU (B0 : Nat) (G : XG) (h : XH) : State → Prop := fun U => xP B0 G h U.heap ∧ xK G U
/-! the heap's own operations -/
def xup {α : Type} (f : Nat → α) (k : Nat) (x : α) : Nat → α := fun j => if j = k then x else f j
def xin (i : Int32) (n : Nat) : Bool := !(decide (i < 0)) && decide (i.toNatClampNeg < n)
def xmax (x y : Int32) : Int32 := if x < y then y else x
def xmin (x y : Int32) : Int32 := if y < x then y else x
def olet {α β : Type} (x : α) (f : α → Option β) : Option β := f x
def oletk {α β : Type} (x : α) (f : α → Option β) : Option β := f x
def xg (h : XH) (a ci k : Nat) : Option Value := match h a with
  | some (.inr o) => if o.1 = ci then o.2[k]? else none
  | _ => none
def xgI (h : XH) (a ci k : Nat) : Option Int32 := match xg h a ci k with
  | some (.int x) => some x
  | _ => none
def xgL (h : XH) (a ci k : Nat) : Option Int64 := match xg h a ci k with
  | some (.long x) => some x
  | _ => none
def xgR (h : XH) (a ci k : Nat) : Option Nat := match xg h a ci k with
  | some (.ref x) => some x
  | _ => none
def xis (h : XH) (a ci : Nat) : Option Unit := match h a with
  | some (.inr o) => if o.1 = ci then some () else none
  | _ => none
def xpV (h : XH) (a ci k : Nat) (v : Value) : Option XH := match h a with
  | some (.inr o) => if o.1 = ci ∧ k < o.2.length then some (xup h a (some (.inr (ci, o.2.set k v)))) else none
  | _ => none
def xlen (h : XH) (a t : Nat) : Option Int32 := match h a with
  | some (.inl x) => if x.1 = t then some (Int32.ofNat x.2.1) else none
  | _ => none
/-- an element of an array of ints or bytes -/
def xald (h : XH) (a t : Nat) (i : Int32) : Option Int32 := match h a with
  | some (.inl (t', n, .inl f)) => if t' = t ∧ xin i n = true then some (f i.toNatClampNeg) else none
  | _ => none
def xast (h : XH) (a t : Nat) (i x : Int32) : Option XH := match h a with
  | some (.inl (t', n, .inl f)) => if t' = t ∧ xin i n = true then some (xup h a (some (.inl (t, n, .inl (xup f i.toNatClampNeg x))))) else none
  | _ => none
def xaldL (h : XH) (a : Nat) (i : Int32) : Option Int64 := match h a with
  | some (.inl (t', n, .inr (.inl f))) => if t' = 2 ∧ xin i n = true then some (f i.toNatClampNeg) else none
  | _ => none
def xastL (h : XH) (a : Nat) (i : Int32) (x : Int64) : Option XH := match h a with
  | some (.inl (t', n, .inr (.inl f))) => if t' = 2 ∧ xin i n = true then some (xup h a (some (.inl (2, n, .inr (.inl (xup f i.toNatClampNeg x)))))) else none
  | _ => none
def xaldR (h : XH) (a t : Nat) (i : Int32) : Option Nat := match h a with
  | some (.inl (t', n, .inr (.inr (.inr (.inr f))))) => if t' = t ∧ xin i n = true then f i.toNatClampNeg else none
  | _ => none
def xastR (h : XH) (a t : Nat) (i : Int32) (v : Nat) : Option XH := match h a with
  | some (.inl (t', n, .inr (.inr (.inr (.inr f))))) => if t' = t ∧ xin i n = true then some (xup h a (some (.inl (t, n, .inr (.inr (.inr (.inr (xup f i.toNatClampNeg (some v))))))))) else none
  | _ => none
/-- System.arraycopy of ints, between two arrays -/
def xcpy (f g : Nat → Int32) (sp dp n : Nat) : Nat → Int32 := fun k => if dp ≤ k ∧ k < dp + n then f (sp + (k - dp)) else g k
def xcopy (h : XH) (a0 : Nat) (sp : Int32) (a : Nat) (dp n : Int32) : Option XH := match h a0, h a with
  | some (.inl (t0, n0, .inl f)), some (.inl (t1, n1, .inl g)) => if t0 = 0 ∧ t1 = 0 ∧ ¬ sp < 0 ∧ ¬ dp < 0 ∧ ¬ n < 0 ∧ sp.toNatClampNeg + n.toNatClampNeg ≤ n0 ∧ dp.toNatClampNeg + n.toNatClampNeg ≤ n1 then some (xup h a (some (.inl (0, n1, .inl (xcpy f g sp.toNatClampNeg dp.toNatClampNeg n.toNatClampNeg))))) else none
  | _, _ => none
/-- a loop, with so many rounds at most -/
def xloop {S R : Type} (body : S → Option (S ⊕ R)) : Nat → S → Option R
  | 0, _ => none
  | n + 1, s => match body s with
    | none => none
    | some (.inl s') => xloop body n s'
    | some (.inr r) => some r
theorem xloop_ind {S R : Type} {body : S → Option (S ⊕ R)} {r : R} (P : S → Prop) (hb : ∀ s o, body s = some o → (∀ s', o = .inl s' → P s') → (∀ r', o = .inr r' → r' = r) → P s) : ∀ {n : Nat} {s : S}, xloop body n s = some r → P s := by
  intro n
  induction n with
  | zero => intro s h; cases h
  | succ n ih =>
    intro s h
    unfold xloop at h
    cases ho : body s with
    | none => rw [ho] at h; cases h
    | some o =>
      rw [ho] at h
      refine hb s o ho (fun s' e => ?_) (fun r' e => ?_)
      · subst e; exact ih h
      · subst e; exact Option.some.inj h
theorem xloop_run {S R : Type} {body : S → Option (S ⊕ R)} (σ : Nat → S) {r : R} : ∀ (n : Nat) (k fu : Nat), (∀ i, k ≤ i → i < k + n → body (σ i) = some (.inl (σ (i + 1)))) → body (σ (k + n)) = some (.inr r) → n < fu → xloop body fu (σ k) = some r := by
  intro n
  induction n with
  | zero =>
    intro k fu _ he hf
    obtain ⟨f, rfl⟩ : ∃ f, fu = f + 1 := ⟨fu - 1, by omega⟩
    unfold xloop
    rw [show k = k + 0 from rfl, he]
  | succ n ih =>
    intro k fu hs he hf
    obtain ⟨f, rfl⟩ : ∃ f, fu = f + 1 := ⟨fu - 1, by omega⟩
    unfold xloop
    rw [hs k (Nat.le_refl _) (by omega)]
    exact ih (k + 1) f (fun i h1 h2 => hs i (by omega) (by omega)) (by rw [show k + 1 + n = k + (n + 1) by omega]; exact he) (by omega)
theorem xb {α β : Type} {o : Option α} {f : α → Option β} {r : β} (h : o.bind f = some r) : ∃ v, o = some v ∧ f v = some r := Option.bind_eq_some_iff.mp h
theorem xl {α β : Type} {x : α} {f : α → Option β} {r : β} (h : olet x f = some r) : ∃ v, v = x ∧ f v = some r := ⟨x, rfl, h⟩
theorem xlk {α β : Type} {x : α} {f : α → Option β} {r : β} (h : oletk x f = some r) : ∃ v, v = x ∧ f v = some r := ⟨x, rfl, h⟩
theorem xif_t {α : Type} {c : Prop} [Decidable c] {x y : Option α} {r : α} (h : (if c then x else y) = some r) (hc : c) : x = some r := by rw [if_pos hc] at h; exact h
theorem xif_f {α : Type} {c : Prop} [Decidable c] {x y : Option α} {r : α} (h : (if c then x else y) = some r) (hc : ¬ c) : y = some r := by rw [if_neg hc] at h; exact h
theorem xin_vp {i : Int32} {n : Nat} (h : xin i n = true) : vp_in i n := by
  simp only [xin, Bool.and_eq_true, Bool.not_eq_true', decide_eq_false_iff_not, decide_eq_true_eq] at h
  exact fun q => q.elim h.1 (fun z => absurd h.2 (Nat.not_lt.mpr z))
theorem xP.get {B0 : Nat} {G : XG} {h : XH} {H : Heap} (hP : xP B0 G h H) {a : Nat} {e : XE} (he : h a = some e) : va_P G.1 vwCl [(a, xe G e)] H := by
  intro k q hk
  have h1 := List.mem_of_getElem? hk
  rw [List.mem_singleton] at h1
  subst h1
  exact (hP.2 a e he).2
theorem xP.set {B0 : Nat} {G : XG} {h : XH} {H H1 : Heap} (hP : xP B0 G h H) {a : Nat} {e : XE} (hB : B0 ≤ a) (he : va_at G.1 vwCl (a, xe G e) H1) (z : H1.size = H.size) (oq : ∀ q : Nat, q ≠ a → H1[q]? = H[q]?) : xP B0 G (xup h a (some e)) H1 := by
  refine ⟨by rw [z]; exact hP.1, fun q e' hq => ?_⟩
  by_cases hqa : q = a
  · subst hqa
    simp only [xup, if_true] at hq
    cases hq
    exact ⟨hB, he⟩
  · simp only [xup, if_neg hqa] at hq
    exact ⟨(hP.2 q e' hq).1, (hP.2 q e' hq).2.kept (oq q hqa)⟩
theorem xP.moved {B0 : Nat} {G : XG} {h : XH} {H H1 : Heap} (hP : xP B0 G h H) (z : H.size ≤ H1.size) (oq : ∀ q : Nat, q < H.size → H1[q]? = H[q]?) : xP B0 G h H1 :=
  ⟨Nat.le_trans hP.1 z, fun q e hq => ⟨(hP.2 q e hq).1, (hP.2 q e hq).2.kept (oq q (hP.2 q e hq).2.lt)⟩⟩
theorem xK.moved {G : XG} {u U : State} (hvm : u.vm.Alike U.vm) (h : xK G u) : xK G U := va_K.moved hvm h
theorem xg_spec {h : XH} {a ci k : Nat} {v : Value} (e : xg h a ci k = some v) : ∃ fs : List Value, h a = some (.inr (ci, fs)) ∧ fs[k]? = some v := by
  unfold xg at e
  split at e
  · next o ho =>
    split at e
    · next hc => subst hc; exact ⟨o.2, ho, e⟩
    · cases e
  · cases e
theorem xgI_spec {h : XH} {a ci k : Nat} {v : Int32} (e : xgI h a ci k = some v) : xg h a ci k = some (.int v) := by
  unfold xgI at e
  split at e
  · next hq => cases e; exact hq
  · cases e
theorem xgL_spec {h : XH} {a ci k : Nat} {v : Int64} (e : xgL h a ci k = some v) : xg h a ci k = some (.long v) := by
  unfold xgL at e
  split at e
  · next hq => cases e; exact hq
  · cases e
theorem xgR_spec {h : XH} {a ci k : Nat} {v : Nat} (e : xgR h a ci k = some v) : xg h a ci k = some (.ref v) := by
  unfold xgR at e
  split at e
  · next hq => cases e; exact hq
  · cases e
theorem xis_spec {h : XH} {a ci : Nat} {u : Unit} (e : xis h a ci = some u) : ∃ fs : List Value, h a = some (.inr (ci, fs)) := by
  unfold xis at e
  split at e
  · next o ho =>
    split at e
    · next hc => subst hc; exact ⟨o.2, ho⟩
    · cases e
  · cases e
theorem xpV_spec {h h1 : XH} {a ci k : Nat} {v : Value} (e : xpV h a ci k v = some h1) : ∃ fs : List Value, h a = some (.inr (ci, fs)) ∧ k < fs.length ∧ h1 = xup h a (some (.inr (ci, fs.set k v))) := by
  unfold xpV at e
  split at e
  · next o ho =>
    split at e
    · next hc =>
      obtain ⟨hc, hk⟩ := hc
      subst hc
      cases e
      exact ⟨o.2, ho, hk, rfl⟩
    · cases e
  · cases e
theorem xlen_spec {h : XH} {a t : Nat} {v : Int32} (e : xlen h a t = some v) : ∃ x : vp_A, h a = some (.inl (t, x)) ∧ Int32.ofNat x.1 = v := by
  unfold xlen at e
  split at e
  · next o ho =>
    split at e
    · next hc => subst hc; cases e; exact ⟨o.2, ho, rfl⟩
    · cases e
  · cases e
theorem xald_spec {h : XH} {a t : Nat} {i v : Int32} (e : xald h a t i = some v) : ∃ (n : Nat) (f : Nat → Int32), h a = some (.inl (t, n, .inl f)) ∧ vp_in i n ∧ f i.toNatClampNeg = v := by
  unfold xald at e
  split at e
  · next t' n f ho =>
    split at e
    · next hc =>
      obtain ⟨hc, hk⟩ := hc
      subst hc
      cases e
      exact ⟨n, f, ho, xin_vp hk, rfl⟩
    · cases e
  · cases e
theorem xast_spec {h h1 : XH} {a t : Nat} {i v : Int32} (e : xast h a t i v = some h1) : ∃ (n : Nat) (f : Nat → Int32), h a = some (.inl (t, n, .inl f)) ∧ vp_in i n ∧ h1 = xup h a (some (.inl (t, n, .inl (xup f i.toNatClampNeg v)))) := by
  unfold xast at e
  split at e
  · next t' n f ho =>
    split at e
    · next hc =>
      obtain ⟨hc, hk⟩ := hc
      subst hc
      cases e
      exact ⟨n, f, ho, xin_vp hk, rfl⟩
    · cases e
  · cases e
theorem xaldL_spec {h : XH} {a : Nat} {i : Int32} {v : Int64} (e : xaldL h a i = some v) : ∃ (n : Nat) (f : Nat → Int64), h a = some (.inl (2, n, .inr (.inl f))) ∧ vp_in i n ∧ f i.toNatClampNeg = v := by
  unfold xaldL at e
  split at e
  · next t' n f ho =>
    split at e
    · next hc =>
      obtain ⟨hc, hk⟩ := hc
      subst hc
      cases e
      exact ⟨n, f, ho, xin_vp hk, rfl⟩
    · cases e
  · cases e
theorem xastL_spec {h h1 : XH} {a : Nat} {i : Int32} {v : Int64} (e : xastL h a i v = some h1) : ∃ (n : Nat) (f : Nat → Int64), h a = some (.inl (2, n, .inr (.inl f))) ∧ vp_in i n ∧ h1 = xup h a (some (.inl (2, n, .inr (.inl (xup f i.toNatClampNeg v))))) := by
  unfold xastL at e
  split at e
  · next t' n f ho =>
    split at e
    · next hc =>
      obtain ⟨hc, hk⟩ := hc
      subst hc
      cases e
      exact ⟨n, f, ho, xin_vp hk, rfl⟩
    · cases e
  · cases e
theorem xaldR_spec {h : XH} {a t : Nat} {i : Int32} {v : Nat} (e : xaldR h a t i = some v) : ∃ (n : Nat) (f : Nat → Option Nat), h a = some (.inl (t, n, .inr (.inr (.inr (.inr f))))) ∧ vp_in i n ∧ f i.toNatClampNeg = some v := by
  unfold xaldR at e
  split at e
  · next t' n f ho =>
    split at e
    · next hc =>
      obtain ⟨hc, hk⟩ := hc
      subst hc
      exact ⟨n, f, ho, xin_vp hk, e⟩
    · cases e
  · cases e
theorem xastR_spec {h h1 : XH} {a t : Nat} {i : Int32} {v : Nat} (e : xastR h a t i v = some h1) : ∃ (n : Nat) (f : Nat → Option Nat), h a = some (.inl (t, n, .inr (.inr (.inr (.inr f))))) ∧ vp_in i n ∧ h1 = xup h a (some (.inl (t, n, .inr (.inr (.inr (.inr (xup f i.toNatClampNeg (some v)))))))) := by
  unfold xastR at e
  split at e
  · next t' n f ho =>
    split at e
    · next hc =>
      obtain ⟨hc, hk⟩ := hc
      subst hc
      cases e
      exact ⟨n, f, ho, xin_vp hk, rfl⟩
    · cases e
  · cases e
