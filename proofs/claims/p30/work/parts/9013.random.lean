/-! addRandomRain, both sides. -/
theorem l_rem {z m : Int64} (hz : 0 ≤ z.toInt) (hm0 : 0 < m.toInt) : (xremL z m).toInt = z.toInt % m.toInt := by
  have hr1 : z.toInt < 9223372036854775808 := Int64.toInt_lt z
  have hm1 : m.toInt < 9223372036854775808 := Int64.toInt_lt m
  have q0 : 0 ≤ z.toInt / m.toInt := Int.ediv_nonneg hz (by omega)
  have q1 : z.toInt / m.toInt ≤ z.toInt := Int.ediv_le_self _ hz
  have ed : (z / m).toInt = z.toInt / m.toInt := by
    rw [Int64.toInt_div, Int.tdiv_eq_ediv_of_nonneg hz, Int.bmod_eq_of_le (by omega) (by omega)]
  have g1 : z.toInt / m.toInt * m.toInt ≤ z.toInt := Int.ediv_mul_le _ (by omega)
  have g0 : 0 ≤ z.toInt / m.toInt * m.toInt := Int.mul_nonneg q0 (by omega)
  have em : (z / m * m).toInt = z.toInt / m.toInt * m.toInt := by
    rw [Int64.toInt_mul, ed, Int.bmod_eq_of_le (by omega) (by omega)]
  have key : z.toInt % m.toInt = z.toInt - z.toInt / m.toInt * m.toInt := by rw [Int.emod_def, Int.mul_comm]
  unfold xremL
  rw [Int64.toInt_sub, em, key, Int.bmod_eq_of_le (by omega) (by omega)]
def rr_n (s : Int64) : Int64 := xremL ((1103515245 : Int64) * s + (12345 : Int64)) (2147483648 : Int64)
def rq (s m : Int64) : Int64 := xremL (s / (65536 : Int64)) m
theorem rq_eq (s m : Int64) : xremL (s / (65536 : Int64)) m = rq s m := rfl
def rr1 (r : Int32) (s : Int64) : Int64 := if Int32.toInt64 r ≤ rq (rr_n s) (100 : Int64) then rr_n s else rr_n (rr_n s)
def rr2 (r t : Int32) (s : Int64) : Int32 := if Int32.toInt64 r ≤ rq (rr_n s) (100 : Int64) then 0 else 1 + Int64.toInt32 (rq (rr_n (rr_n s)) (Int32.toInt64 t))
def rrsG (G1 : Int64 → Int64) (G2 : Int64 → Int32) (N : Nat) (d : Nat) (x : Int64 × (Nat → Int32)) : Int64 × (Nat → Int32) := it (fun i x => (G1 x.1, xup x.2 (N + i) (G2 x.1))) x d
def rrs (r t : Int32) (N : Nat) (d : Nat) (x : Int64 × (Nat → Int32)) : Int64 × (Nat → Int32) := rrsG (rr1 r) (rr2 r t) N d x
def rok (s : Int64) : Prop := 0 ≤ s.toInt ∧ s.toInt < 2147483648
theorem rr_n_ok {s : Int64} (h : rok s) : rok (rr_n s) := by
  obtain ⟨h0, h1⟩ := h
  have z1 : (1103515245 : Int64).toInt = 1103515245 := rfl
  have z2 : (12345 : Int64).toInt = 12345 := rfl
  have z3 : (2147483648 : Int64).toInt = 2147483648 := rfl
  have e1 : ((1103515245 : Int64) * s).toInt = 1103515245 * s.toInt := by
    rw [Int64.toInt_mul, z1, Int.bmod_eq_of_le (by omega) (by omega)]
  have e2 : ((1103515245 : Int64) * s + (12345 : Int64)).toInt = 1103515245 * s.toInt + 12345 := by
    rw [Int64.toInt_add, e1, z2, Int.bmod_eq_of_le (by omega) (by omega)]
  unfold rok rr_n
  rw [l_rem (by rw [e2]; omega) (by rw [z3]; omega), e2, z3]
  omega
theorem rr_q {s : Int64} (h : rok s) : (s / (65536 : Int64)).toInt = s.toInt / 65536 := by
  obtain ⟨h0, h1⟩ := h
  have z1 : (65536 : Int64).toInt = 65536 := rfl
  rw [Int64.toInt_div, z1, Int.tdiv_eq_ediv_of_nonneg h0, Int.bmod_eq_of_le (by omega) (by omega)]
theorem rr_100 {s : Int64} (h : rok s) : (Int64.toInt32 (rq s (100 : Int64))).toInt = (rq s (100 : Int64)).toInt := by
  unfold rq
  have z1 : (100 : Int64).toInt = 100 := rfl
  have h0 := h.1
  have e := l_rem (z := s / (65536 : Int64)) (m := 100) (by rw [rr_q h]; omega) (by rw [z1]; omega)
  rw [Int64.toInt_toInt32, e, rr_q h, z1, Int.bmod_eq_of_le (by omega) (by omega)]
theorem rr_cond {s : Int64} (h : rok s) (r : Int32) : r ≤ Int64.toInt32 (rq s (100 : Int64)) ↔ Int32.toInt64 r ≤ rq s (100 : Int64) := by
  rw [ti_le, rr_100 h, Int64.le_iff_toInt_le, Int32.toInt_toInt64]
theorem rr_v {s : Int64} (h : rok s) {t : Int32} (ht : 1 ≤ t.toInt ∧ t.toInt ≤ 200) : 0 ≤ (1 + Int64.toInt32 (rq s (Int32.toInt64 t))).toInt ∧ (1 + Int64.toInt32 (rq s (Int32.toInt64 t))).toInt ≤ 200 := by
  have h0 := h.1
  have e := l_rem (z := s / (65536 : Int64)) (m := Int32.toInt64 t) (by rw [rr_q h]; omega) (by rw [Int32.toInt_toInt64]; omega)
  rw [Int32.toInt_toInt64] at e
  have m0 : 0 ≤ (s / (65536 : Int64)).toInt % t.toInt := Int.emod_nonneg _ (by omega)
  have m1 : (s / (65536 : Int64)).toInt % t.toInt < t.toInt := Int.emod_lt_of_pos _ (by omega)
  have e2 : (Int64.toInt32 (rq s (Int32.toInt64 t))).toInt = (s / (65536 : Int64)).toInt % t.toInt := by
    unfold rq
    rw [Int64.toInt_toInt32, e, Int.bmod_eq_of_le (by omega) (by omega)]
  rw [ti_add (by rw [ti_1, e2]; omega) (by rw [ti_1, e2]; omega), ti_1, e2]
  omega
theorem rr_ok {s : Int64} (h : rok s) (r : Int32) {t : Int32} (ht : 1 ≤ t.toInt ∧ t.toInt ≤ 200) : rok (rr1 r s) ∧ 0 ≤ (rr2 r t s).toInt ∧ (rr2 r t s).toInt ≤ 200 := by
  unfold rr1 rr2
  by_cases c : Int32.toInt64 r ≤ rq (rr_n s) (100 : Int64)
  · rw [if_pos c, if_pos c]; exact ⟨rr_n_ok h, Int.le_refl 0, by rw [ti_0]; omega⟩
  · rw [if_neg c, if_neg c]; exact ⟨rr_n_ok (rr_n_ok h), rr_v (rr_n_ok (rr_n_ok h)) ht⟩
theorem rrsG_rel {G1 : Int64 → Int64} {G2 : Int64 → Int32} {K : Int64 → Prop} (hG : ∀ s, K s → K (G1 s) ∧ 0 ≤ (G2 s).toInt ∧ (G2 s).toInt ≤ 200) (N : Nat) {x y : Int64 × (Nat → Int32)} (h1 : x.1 = y.1) (h2 : K x.1) (h3 : ∀ j, j < N → x.2 j = y.2 j ∧ 0 ≤ (x.2 j).toInt ∧ (x.2 j).toInt ≤ 200) :
    ∀ d, (rrsG G1 G2 N d x).1 = (rrsG G1 G2 N d y).1 ∧ K (rrsG G1 G2 N d x).1 ∧ ∀ j, j < N + d → (rrsG G1 G2 N d x).2 j = (rrsG G1 G2 N d y).2 j ∧ 0 ≤ ((rrsG G1 G2 N d x).2 j).toInt ∧ ((rrsG G1 G2 N d x).2 j).toInt ≤ 200 := by
  intro d
  induction d with
  | zero => exact ⟨h1, h2, h3⟩
  | succ d ih =>
    obtain ⟨i1, i2, i3⟩ := ih
    have e : ∀ z, rrsG G1 G2 N (d + 1) z = (G1 (rrsG G1 G2 N d z).1, xup (rrsG G1 G2 N d z).2 (N + d) (G2 (rrsG G1 G2 N d z).1)) := fun z => rfl
    have ok := hG _ i2
    rw [e x, e y, ← i1]
    refine And.intro rfl (And.intro ok.1 (fun j hj => ?_))
    by_cases c : j = N + d
    · rw [c]
      simp only [xup_self]
      exact And.intro trivial ok.2
    · simp only [xup_ne _ _ c]
      exact i3 j (Nat.lt_of_le_of_ne (Nat.lt_succ_iff.mp hj) c)
theorem rr_nz {t : Int32} (ht : 1 ≤ t.toInt) : xnzL (Int32.toInt64 t) = some () := by
  unfold xnzL
  rw [if_neg]
  intro e
  have := congrArg Int64.toInt e
  rw [Int32.toInt_toInt64] at this
  have z : (0 : Int64).toInt = 0 := rfl
  omega
section PX5
variable {b : Nat} {W : XH} {cap flo top eva lim rul rc uc rn dn lev dry ap : Int32} {rf us : Nat → Nat → Int32} {ra ac sv as : Nat → Int32} {sm th : Int32} {sd : Int64} {td : Int32} {sp : Nat → Int64} {lf : Int32} {tx : Nat → Int32} {tl pl nb : Int32}
variable {fu N s : Nat}
end PX5
section PX6
variable {B s L c k n N D : Nat} {h : XH} {cap flo top eva lim rul lev dry : Int32} {lo : Int64} {rf us : UT} {od ra ac : Nat → Int32} {ap : Int32} {rfm usm : UT} {ram acm sv as : Nat → Int32} {th : Int32} {sd : Int64} {td : Int32} {sp : Nat → Int64} {lf : Int32} {tx : Nat → Int32} {pl nb : Int32}
variable {fu : Nat}
theorem CT_rand (hC : CT c k n N D cap flo top eva lev lo ap rf us rfm usm ra ac ram acm) {d : Nat} (hd : N + d ≤ 100) {p r t : Int32} (c1 : inR p 0 999999) (c4 : inR t 1 200) : CT (c + 1) k n (N + d) D cap flo top eva lev lo ap rf us rfm usm (rrs r t N d (Int32.toInt64 p, ra)).2 ac (rrs r t N d (Int32.toInt64 p, ram)).2 acm := by
  obtain ⟨⟨a1, a2, a3, a4⟩, ⟨b1, b2, b3⟩, ⟨r1, r2, r3, r4⟩, h4, h5, h6, h7, h8⟩ := hC
  have ht : 1 ≤ t.toInt ∧ t.toInt ≤ 200 := c4
  have ep : rok (Int32.toInt64 p) := by
    unfold rok
    rw [Int32.toInt_toInt64]
    have g0 : 0 ≤ p.toInt := c1.1
    have g1 : p.toInt ≤ 999999 := c1.2
    omega
  obtain ⟨-, -, key⟩ := rrsG_rel (G1 := rr1 r) (G2 := rr2 r t) (K := rok) (fun s hs => rr_ok hs r ht) N (x := (Int32.toInt64 p, ra)) (y := (Int32.toInt64 p, ram)) rfl ep (fun j hj => ⟨r3 j hj, h8 j hj⟩) d
  unfold rrs
  generalize rrsG (rr1 r) (rr2 r t) N d (Int32.toInt64 p, ra) = u at key ⊢
  generalize rrsG (rr1 r) (rr2 r t) N d (Int32.toInt64 p, ram) = v at key ⊢
  exact ⟨⟨a1, a2, hd, by omega⟩, ⟨b1, b2, by omega⟩, ⟨r1, r2, fun j hj => (key j hj).1, r4⟩, h4, h5, h6, h7, fun j hj => (key j hj).2⟩
end PX6

