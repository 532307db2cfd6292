/-! addRandomRain, both sides. -/
theorem l_rem {z m : Int64} (hz : 0 ≤ z.toInt) (hm0 : 0 < m.toInt) : (xremL z m).toInt = z.toInt % m.toInt := by
  have hr1 : z.toInt < 9223372036854775808 := Int64.toInt_lt z
  have hm1 : m.toInt < 9223372036854775808 := Int64.toInt_lt m
  have q0 : 0 ≤ z.toInt / m.toInt := Int.ediv_nonneg hz (by omega)
  have q1 : z.toInt / m.toInt ≤ z.toInt := Int.ediv_le_self _ hz
  have ed : (z / m).toInt = z.toInt / m.toInt := by
    rw [Int64.toInt_div, Int.tdiv_eq_ediv_of_nonneg hz, Int.bmod_eq_of_le (by omega) (by omega)]
  have g1 : z.toInt / m.toInt * m.toInt ≤ z.toInt := Int.ediv_mul_le _ (by omega)
  have g0 : 0 ≤ z.toInt / m.toInt * m.toInt := Int.mul_nonneg q0 (by omega)
  have em : (z / m * m).toInt = z.toInt / m.toInt * m.toInt := by
    rw [Int64.toInt_mul, ed, Int.bmod_eq_of_le (by omega) (by omega)]
  have key : z.toInt % m.toInt = z.toInt - z.toInt / m.toInt * m.toInt := by rw [Int.emod_def, Int.mul_comm]
  unfold xremL
  rw [Int64.toInt_sub, em, key, Int.bmod_eq_of_le (by omega) (by omega)]
def rr_n (s : Int64) : Int64 := xremL ((1103515245 : Int64) * s + (12345 : Int64)) (2147483648 : Int64)
def rq (s m : Int64) : Int64 := xremL (s / (65536 : Int64)) m
theorem rq_eq (s m : Int64) : xremL (s / (65536 : Int64)) m = rq s m := rfl
def rr1 (r : Int32) (s : Int64) : Int64 := if Int32.toInt64 r ≤ rq (rr_n s) (100 : Int64) then rr_n s else rr_n (rr_n s)
def rr2 (r t : Int32) (s : Int64) : Int32 := if Int32.toInt64 r ≤ rq (rr_n s) (100 : Int64) then 0 else 1 + Int64.toInt32 (rq (rr_n (rr_n s)) (Int32.toInt64 t))
def rrsG (G1 : Int64 → Int64) (G2 : Int64 → Int32) (N : Nat) (d : Nat) (x : Int64 × (Nat → Int32)) : Int64 × (Nat → Int32) := it (fun i x => (G1 x.1, xup x.2 (N + i) (G2 x.1))) x d
def rrs (r t : Int32) (N : Nat) (d : Nat) (x : Int64 × (Nat → Int32)) : Int64 × (Nat → Int32) := rrsG (rr1 r) (rr2 r t) N d x
def rok (s : Int64) : Prop := 0 ≤ s.toInt ∧ s.toInt < 2147483648
theorem rr_n_ok {s : Int64} (h : rok s) : rok (rr_n s) := by
  obtain ⟨h0, h1⟩ := h
  have z1 : (1103515245 : Int64).toInt = 1103515245 := rfl
  have z2 : (12345 : Int64).toInt = 12345 := rfl
  have z3 : (2147483648 : Int64).toInt = 2147483648 := rfl
  have e1 : ((1103515245 : Int64) * s).toInt = 1103515245 * s.toInt := by
    rw [Int64.toInt_mul, z1, Int.bmod_eq_of_le (by omega) (by omega)]
  have e2 : ((1103515245 : Int64) * s + (12345 : Int64)).toInt = 1103515245 * s.toInt + 12345 := by
    rw [Int64.toInt_add, e1, z2, Int.bmod_eq_of_le (by omega) (by omega)]
  unfold rok rr_n
  rw [l_rem (by rw [e2]; omega) (by rw [z3]; omega), e2, z3]
  omega
theorem rr_q {s : Int64} (h : rok s) : (s / (65536 : Int64)).toInt = s.toInt / 65536 := by
  obtain ⟨h0, h1⟩ := h
  have z1 : (65536 : Int64).toInt = 65536 := rfl
  rw [Int64.toInt_div, z1, Int.tdiv_eq_ediv_of_nonneg h0, Int.bmod_eq_of_le (by omega) (by omega)]
theorem rr_100 {s : Int64} (h : rok s) : (Int64.toInt32 (rq s (100 : Int64))).toInt = (rq s (100 : Int64)).toInt := by
  unfold rq
  have z1 : (100 : Int64).toInt = 100 := rfl
  have h0 := h.1
  have e := l_rem (z := s / (65536 : Int64)) (m := 100) (by rw [rr_q h]; omega) (by rw [z1]; omega)
  rw [Int64.toInt_toInt32, e, rr_q h, z1, Int.bmod_eq_of_le (by omega) (by omega)]
theorem rr_cond {s : Int64} (h : rok s) (r : Int32) : r ≤ Int64.toInt32 (rq s (100 : Int64)) ↔ Int32.toInt64 r ≤ rq s (100 : Int64) := by
  rw [ti_le, rr_100 h, Int64.le_iff_toInt_le, Int32.toInt_toInt64]
theorem rr_v {s : Int64} (h : rok s) {t : Int32} (ht : 1 ≤ t.toInt ∧ t.toInt ≤ 200) : 0 ≤ (1 + Int64.toInt32 (rq s (Int32.toInt64 t))).toInt ∧ (1 + Int64.toInt32 (rq s (Int32.toInt64 t))).toInt ≤ 200 := by
  have h0 := h.1
  have e := l_rem (z := s / (65536 : Int64)) (m := Int32.toInt64 t) (by rw [rr_q h]; omega) (by rw [Int32.toInt_toInt64]; omega)
  rw [Int32.toInt_toInt64] at e
  have m0 : 0 ≤ (s / (65536 : Int64)).toInt % t.toInt := Int.emod_nonneg _ (by omega)
  have m1 : (s / (65536 : Int64)).toInt % t.toInt < t.toInt := Int.emod_lt_of_pos _ (by omega)
  have e2 : (Int64.toInt32 (rq s (Int32.toInt64 t))).toInt = (s / (65536 : Int64)).toInt % t.toInt := by
    unfold rq
    rw [Int64.toInt_toInt32, e, Int.bmod_eq_of_le (by omega) (by omega)]
  rw [ti_add (by rw [ti_1, e2]; omega) (by rw [ti_1, e2]; omega), ti_1, e2]
  omega
theorem rr_ok {s : Int64} (h : rok s) (r : Int32) {t : Int32} (ht : 1 ≤ t.toInt ∧ t.toInt ≤ 200) : rok (rr1 r s) ∧ 0 ≤ (rr2 r t s).toInt ∧ (rr2 r t s).toInt ≤ 200 := by
  unfold rr1 rr2
  by_cases c : Int32.toInt64 r ≤ rq (rr_n s) (100 : Int64)
  · rw [if_pos c, if_pos c]; exact ⟨rr_n_ok h, Int.le_refl 0, by rw [ti_0]; omega⟩
  · rw [if_neg c, if_neg c]; exact ⟨rr_n_ok (rr_n_ok h), rr_v (rr_n_ok (rr_n_ok h)) ht⟩
theorem rrsG_rel {G1 : Int64 → Int64} {G2 : Int64 → Int32} {K : Int64 → Prop} (hG : ∀ s, K s → K (G1 s) ∧ 0 ≤ (G2 s).toInt ∧ (G2 s).toInt ≤ 200) (N : Nat) {x y : Int64 × (Nat → Int32)} (h1 : x.1 = y.1) (h2 : K x.1) (h3 : ∀ j, j < N → x.2 j = y.2 j ∧ 0 ≤ (x.2 j).toInt ∧ (x.2 j).toInt ≤ 200) :
    ∀ d, (rrsG G1 G2 N d x).1 = (rrsG G1 G2 N d y).1 ∧ K (rrsG G1 G2 N d x).1 ∧ ∀ j, j < N + d → (rrsG G1 G2 N d x).2 j = (rrsG G1 G2 N d y).2 j ∧ 0 ≤ ((rrsG G1 G2 N d x).2 j).toInt ∧ ((rrsG G1 G2 N d x).2 j).toInt ≤ 200 := by
  intro d
  induction d with
  | zero => exact ⟨h1, h2, h3⟩
  | succ d ih =>
    obtain ⟨i1, i2, i3⟩ := ih
    have e : ∀ z, rrsG G1 G2 N (d + 1) z = (G1 (rrsG G1 G2 N d z).1, xup (rrsG G1 G2 N d z).2 (N + d) (G2 (rrsG G1 G2 N d z).1)) := fun z => rfl
    have ok := hG _ i2
    rw [e x, e y, ← i1]
    refine And.intro rfl (And.intro ok.1 (fun j hj => ?_))
    by_cases c : j = N + d
    · rw [c]
      simp only [xup_self]
      exact And.intro trivial ok.2
    · simp only [xup_ne _ _ c]
      exact i3 j (Nat.lt_of_le_of_ne (Nat.lt_succ_iff.mp hj) c)
theorem rr_nz {t : Int32} (ht : 1 ≤ t.toInt) : xnzL (Int32.toInt64 t) = some () := by
  unfold xnzL
  rw [if_neg]
  intro e
  have := congrArg Int64.toInt e
  rw [Int32.toInt_toInt64] at this
  have z : (0 : Int64).toInt = 0 := rfl
  omega
section PX5
variable {b : Nat} {W : XH} {cap flo top eva lim rul rc uc rn dn lev dry ap : Int32} {rf us : Nat → Nat → Int32} {ra ac sv as : Nat → Int32} {sm th : Int32} {sd : Int64} {td : Int32} {sp : Nat → Int64} {lf : Int32} {tx : Nat → Int32} {tl pl nb : Int32}
variable {fu N s : Nat}
theorem p_X6_draws (p : Int32) (hp : 1 ≤ p.toInt) : f_X6_draws (hm b W cap flo top eva lim rul rc uc rn dn lev dry ap rf us ra ac sv as sm th sd td sp lf tx tl pl nb) b p = some (Int64.toInt32 (rq (rr_n sd) (Int32.toInt64 p)), hm b W cap flo top eva lim rul rc uc rn dn lev dry ap rf us ra ac sv as sm th (rr_n sd) td sp lf tx tl pl nb) := by
  simp only [f_X6_draws, gm_sd, Option.bind_some, sm_sd, rr_nz hp]
  rfl
theorem mg_rand (hs : s ≤ 4) (hf : 3489 < fu) {d : Nat} (hN : N + d ≤ 100) (hd : 1 ≤ d) {p r t : Int32} (c1 : inR p 0 999999) (c3 : inR r 0 100) (c4 : inR t 1 200) : f_X6_addRandomRain fu (hm b W cap flo top eva lim rul rc uc (nI N) dn lev dry ap rf us ra ac sv as (nI s) th sd td sp lf tx tl pl nb) b p (nI d) r t =
    some (nI (N + d), hm b W cap flo top eva lim rul rc uc (nI (N + d)) dn lev dry ap rf us (rrs r t N d (Int32.toInt64 p, ra)).2 ac (m_sav s (m_al cap flo top eva lim rul rc uc (nI N) dn lev dry ap rf us ra ac) sv) as (nI (min s 3 + 1)) 0 (rrs r t N d (Int32.toInt64 p, ra)).1 td sp lf tx tl pl nb) := by
  have e1 : f_X6_in (Int32.toInt64 p) (0 : Int64) (999999 : Int64) = some (xb01 (inR p 0 999999)) := p_X6_in32 _ 0 999999
  have e2 : f_X6_in (Int32.toInt64 (nI d)) (1 : Int64) (100 : Int64) = some (xb01 (inR (nI d) 1 100)) := p_X6_in32 _ 1 100
  have e3 : f_X6_in (Int32.toInt64 r) (0 : Int64) (100 : Int64) = some (xb01 (inR r 0 100)) := p_X6_in32 _ 0 100
  have e4 : f_X6_in (Int32.toInt64 t) (1 : Int64) (200 : Int64) = some (xb01 (inR t 1 200)) := p_X6_in32 _ 1 200
  have c2 : inR (nI d) 1 100 := by
    have z1 : (1 : Int32).toInt = 1 := rfl
    have z2 : (100 : Int32).toInt = 100 := rfl
    unfold inR
    rw [xnI_toInt (by omega), z1, z2]; omega
  have c5 : ¬ (100 : Int32) < nI (N + d) := by
    have e6 : (100 : Int32) = nI 100 := rfl
    rw [e6, xnI_lt_iff (by omega) (by omega)]; omega
  have ht : 1 ≤ t.toInt ∧ t.toInt ≤ 200 := c4
  have ep : rok (Int32.toInt64 p) := by
    unfold rok
    rw [Int32.toInt_toInt64]
    have g0 : 0 ≤ p.toInt := c1.1
    have g1 : p.toInt ≤ 999999 := c1.2
    omega
  have er : ∀ {W : XH} {R : Nat} {ra : Nat → Int32} {sd : Int64} {sm th : Int32} {sv : Nat → Int32}, R + 1 ≤ 100 → ∀ v : Int32, f_X6_rains fu (hm b W cap flo top eva lim rul rc uc (nI R) dn lev dry ap rf us ra ac sv as sm th sd td sp lf tx tl pl nb) b v (1 : Int32) = some (hm b W cap flo top eva lim rul rc uc (nI (R + 1)) dn lev dry ap rf us (xup ra R v) ac sv as sm th sd td sp lf tx tl pl nb) := fun hR v => p_X6_rains (d := 1) hR (by omega) v
  simp only [f_X6_addRandomRain, e1, e2, e3, e4, obind1_some, oletk, ch1, chs, gm_r1, gm_rn, gm_is, Option.bind_some, xnI_add, chlt, p_X6_goes, obind2_some]
  simp only [xb01_0]
  rw [if_neg (fun f => f ⟨⟨c1, c2, c3, c4⟩, ⟨c1, c2, c3, c4⟩, c5⟩), if_pos ⟨c1, c2, c3, c4⟩, if_pos ⟨⟨c1, c2, c3, c4⟩, c5⟩]
  simp only [mg_save hs hf, obind1_some, sm_sd, Option.bind_some]
  have hG1 : ∀ s, Int32.toInt64 r ≤ rq (rr_n s) (100 : Int64) → rr1 r s = rr_n s ∧ rr2 r t s = 0 := fun s c => ⟨if_pos c, if_pos c⟩
  have hG2 : ∀ s, ¬ Int32.toInt64 r ≤ rq (rr_n s) (100 : Int64) → rr1 r s = rr_n (rr_n s) ∧ rr2 r t s = 1 + Int64.toInt32 (rq (rr_n (rr_n s)) (Int32.toInt64 t)) := fun s c => ⟨if_neg c, if_neg c⟩
  have hG3 : ∀ s, rok s → rok (rr1 r s) := fun s h => (rr_ok h r ht).1
  have hG4 : ∀ s, rok s → (r ≤ Int64.toInt32 (rq (rr_n s) (100 : Int64)) ↔ Int32.toInt64 r ≤ rq (rr_n s) (100 : Int64)) := fun s h => rr_cond (rr_n_ok h) r
  unfold rrs
  generalize rr1 r = G1 at hG1 hG2 hG3 ⊢
  generalize rr2 r t = G2 at hG1 hG2 ⊢
  generalize rok = K at ep hG3 hG4
  rw [xloop_I (fun i (x : Int64 × (Nat → Int32)) => K x.1) (fun i (x : Int64 × (Nat → Int32)) => (nI i, hm b W cap flo top eva lim rul rc uc (nI (N + i)) dn lev dry ap rf us x.2 ac (m_sav s (m_al cap flo top eva lim rul rc uc (nI N) dn lev dry ap rf us ra ac) sv) as (nI (min s 3 + 1)) 0 x.1 td sp lf tx tl pl nb)) (fun i x => (G1 x.1, xup x.2 (N + i) (G2 x.1))) (fun x => hm b W cap flo top eva lim rul rc uc (nI (N + d)) dn lev dry ap rf us x.2 ac (m_sav s (m_al cap flo top eva lim rul rc uc (nI N) dn lev dry ap rf us ra ac) sv) as (nI (min s 3 + 1)) 0 x.1 td sp lf tx tl pl nb) d (Int32.toInt64 p, ra) ?h0 ?hi ?hs ?he ?hf]
  · simp only [obind1_some, gm_r1, gm_rn, Option.bind_some]
    rfl
  case h0 => rfl
  case hi => exact ep
  case hf => omega
  case hs =>
    intro i x hi I
    have hle : ¬ nI d ≤ nI i := nI_ge hi (by omega)
    have q1 : N + i + 1 ≤ 100 := by omega
    refine And.intro ?_ (hG3 x.1 I)
    have e100 : Int32.toInt64 (100 : Int32) = (100 : Int64) := rfl
    have e1h : 1 ≤ (100 : Int32).toInt := by decide
    simp only [xf2, if_neg hle, gm_is, Option.bind_some]
    rw [p_X6_draws (100 : Int32) e1h, obind2_some, e100]
    by_cases c : Int32.toInt64 r ≤ rq (rr_n x.1) (100 : Int64)
    · have er2 := hG1 _ c
      rw [if_pos ((hG4 _ I).mpr c), obind1_some, if_pos rfl, obind2_some]
      simp only [gm_is, Option.bind_some, er q1, obind1_some, olet, xnI_s, er2.1, er2.2, Nat.add_assoc]
    · have er2 := hG2 _ c
      rw [if_neg (fun f => c ((hG4 _ I).mp f)), obind1_some, if_neg (show ¬ (1 : Int32) = 0 by decide)]
      simp only [gm_is, Option.bind_some]
      rw [p_X6_draws t ht.1, obind2_some, obind2_some]
      simp only [gm_is, Option.bind_some, er q1, obind1_some, olet, xnI_s, er2.1, er2.2, Nat.add_assoc]
  case he =>
    intro x _
    simp only [xf2, Int32.le_refl, if_true]
theorem mg_rand0 {p q r t : Int32} (c : ¬ ((inR p 0 999999 ∧ inR q 1 100 ∧ inR r 0 100 ∧ inR t 1 200) ∧ ¬ (100 : Int32) < nI N + q)) : f_X6_addRandomRain fu (hm b W cap flo top eva lim rul rc uc (nI N) dn lev dry ap rf us ra ac sv as sm th sd td sp lf tx tl pl nb) b p q r t = some (0, hm b W cap flo top eva lim rul rc uc (nI N) dn lev dry ap rf us ra ac sv as sm (if inR p 0 999999 ∧ inR q 1 100 ∧ inR r 0 100 ∧ inR t 1 200 then 2 else 1) sd td sp lf tx tl pl nb) := by
  have e1 : f_X6_in (Int32.toInt64 p) (0 : Int64) (999999 : Int64) = some (xb01 (inR p 0 999999)) := p_X6_in32 _ 0 999999
  have e2 : f_X6_in (Int32.toInt64 q) (1 : Int64) (100 : Int64) = some (xb01 (inR q 1 100)) := p_X6_in32 _ 1 100
  have e3 : f_X6_in (Int32.toInt64 r) (0 : Int64) (100 : Int64) = some (xb01 (inR r 0 100)) := p_X6_in32 _ 0 100
  have e4 : f_X6_in (Int32.toInt64 t) (1 : Int64) (200 : Int64) = some (xb01 (inR t 1 200)) := p_X6_in32 _ 1 200
  simp only [f_X6_addRandomRain, e1, e2, e3, e4, obind1_some, oletk, ch1, chs, gm_r1, gm_rn, gm_is, Option.bind_some, chlt, p_X6_goes, obind2_some]
  simp only [xb01_0]
  by_cases g : inR p 0 999999 ∧ inR q 1 100 ∧ inR r 0 100 ∧ inR t 1 200
  · rw [if_pos (fun f => c f.2), if_pos g, if_neg (fun f => c f), if_pos g]
  · rw [if_pos (fun f => g f.1), if_neg g, if_neg g]
end PX5
section PX6
variable {B s L c k n N D : Nat} {h : XH} {cap flo top eva lim rul lev dry : Int32} {lo : Int64} {rf us : UT} {od ra ac : Nat → Int32} {ap : Int32} {rfm usm : UT} {ram acm sv as : Nat → Int32} {th : Int32} {sd : Int64} {td : Int32} {sp : Nat → Int64} {lf : Int32} {tx : Nat → Int32} {pl nb : Int32}
variable {fu : Nat}
theorem CT_rand (hC : CT c k n N D cap flo top eva lev lo ap rf us rfm usm ra ac ram acm) {d : Nat} (hd : N + d ≤ 100) {p r t : Int32} (c1 : inR p 0 999999) (c4 : inR t 1 200) : CT (c + 1) k n (N + d) D cap flo top eva lev lo ap rf us rfm usm (rrs r t N d (Int32.toInt64 p, ra)).2 ac (rrs r t N d (Int32.toInt64 p, ram)).2 acm := by
  obtain ⟨⟨a1, a2, a3, a4⟩, ⟨b1, b2, b3⟩, ⟨r1, r2, r3, r4⟩, h4, h5, h6, h7, h8⟩ := hC
  have ht : 1 ≤ t.toInt ∧ t.toInt ≤ 200 := c4
  have ep : rok (Int32.toInt64 p) := by
    unfold rok
    rw [Int32.toInt_toInt64]
    have g0 : 0 ≤ p.toInt := c1.1
    have g1 : p.toInt ≤ 999999 := c1.2
    omega
  obtain ⟨-, -, key⟩ := rrsG_rel (G1 := rr1 r) (G2 := rr2 r t) (K := rok) (fun s hs => rr_ok hs r ht) N (x := (Int32.toInt64 p, ra)) (y := (Int32.toInt64 p, ram)) rfl ep (fun j hj => ⟨r3 j hj, h8 j hj⟩) d
  unfold rrs
  generalize rrsG (rr1 r) (rr2 r t) N d (Int32.toInt64 p, ra) = u at key ⊢
  generalize rrsG (rr1 r) (rr2 r t) N d (Int32.toInt64 p, ram) = v at key ⊢
  exact ⟨⟨a1, a2, hd, by omega⟩, ⟨b1, b2, by omega⟩, ⟨r1, r2, fun j hj => (key j hj).1, r4⟩, h4, h5, h6, h7, fun j hj => (key j hj).2⟩
theorem K_rand (hS : St (B + 1) h cap flo top eva lim rul (nI k) (nI n) (nI N) (nI D) lev dry lo rf us od ra ac) (hO : Ot B h s sv c L tx) (hM : Mp (B + 113) h cap flo top eva lim rul (nI k) (nI n) (nI N) (nI D) lev dry ap rfm usm ram acm sv as (nI s) th sd td sp lf tx (nI L) pl nb) (hC : CT c k n N D cap flo top eva lev lo ap rf us rfm usm ra ac ram acm) (hs : s ≤ 4) (hL : L ≤ 120) (hX : Oc B h) (hf : 3489 < fu) (p q r t : Int32) : KW Int32.toInt64 B c (f_L_addRandomRain fu h B p q r t (B + 119)) (fun g => f_X6_addRandomRain fu g (B + 113) p q r t) := by
  have hN : N ≤ 100 := hC.1.2.2.1
  by_cases g : inR p 0 999999 ∧ inR q 1 100 ∧ inR r 0 100 ∧ inR t 1 200
  · have g0 : (0 : Int32).toInt ≤ q.toInt ∧ q.toInt ≤ (100 : Int32).toInt := by
      have z1 : (1 : Int32).toInt = 1 := rfl
      have z0 : (0 : Int32).toInt = 0 := rfl
      have := g.2.1.1
      have := g.2.1.2
      omega
    have ht : 1 ≤ t.toInt ∧ t.toInt ≤ 200 := g.2.2.2
    obtain ⟨d, hd, rfl⟩ := ix_to (n := 100) rfl g0
    have hd1 : 1 ≤ d := by
      have z1 : (1 : Int32).toInt = 1 := rfl
      have := g.2.1.1
      rw [xnI_toInt (by omega), z1] at this
      omega
    have e6 : (100 : Int32) = nI 100 := rfl
    by_cases g2 : N + d ≤ 100
    · have hle : nI (N + d) ≤ (100 : Int32) := by rw [e6, xnI_le_iff (by omega) (by omega)]; exact g2
      obtain ⟨h1, e0, S1, O1, F1⟩ := w_save hO hS hC hs (show 7 < fu by omega)
      have R1 := O1.1
      obtain ⟨w, hw⟩ : ∃ w, w = h1 := ⟨_, rfl⟩
      have e : f_X5_addRandomRain fu h B p (nI d) r t = some (.inl (nI (N + d), hp (B + 1) w cap flo top eva lim rul (nI k) (nI n) (nI (N + d)) (nI D) lev dry lo rf us od (rrs r t N d (Int32.toInt64 p, ra)).2 ac)) := by
        simp only [f_X5_addRandomRain, cr_y g.1, cr_y g.2.1, cr_y g.2.2.1, cr_y g.2.2.2, oexc_inl, rt_is hO.1, Option.bind_some, f_X5_checkRoomForDays, rt_0 hO.1, st_rn hS, xnI_add, if_pos hle, olift_some, e0, obind1_some, olet]
        have hG1 : ∀ s, Int32.toInt64 r ≤ rq (rr_n s) (100 : Int64) → rr1 r s = rr_n s ∧ rr2 r t s = 0 := fun s c => ⟨if_pos c, if_pos c⟩
        have hG2 : ∀ s, ¬ Int32.toInt64 r ≤ rq (rr_n s) (100 : Int64) → rr1 r s = rr_n (rr_n s) ∧ rr2 r t s = 1 + Int64.toInt32 (rq (rr_n (rr_n s)) (Int32.toInt64 t)) := fun s c => ⟨if_neg c, if_neg c⟩
        have hnz := rr_nz ht.1
        have en : ∀ y, f_X5_nextRandom y = some (rr_n y) := fun _ => rfl
        unfold rrs
        generalize rr1 r = G1 at hG1 hG2 ⊢
        generalize rr2 r t = G2 at hG1 hG2 ⊢
        rw [St_eq S1, xloop_E (fun i (x : Int64 × (Nat → Int32)) => (x.1, nI i, hp (B + 1) h1 cap flo top eva lim rul (nI k) (nI n) (nI (N + i)) (nI D) lev dry lo rf us od x.2 ac)) (fun i x => (G1 x.1, xup x.2 (N + i) (G2 x.1))) (fun x => hp (B + 1) h1 cap flo top eva lim rul (nI k) (nI n) (nI (N + d)) (nI D) lev dry lo rf us od x.2 ac) d (Int32.toInt64 p, ra) ?h0 ?hs ?he ?hf]
        · simp only [obind1_some, rt_0 (Rt_hp R1 (show B < B + 1 by omega)), Option.bind_some, hg_rn, olift_some, hw]
          rfl
        case h0 => rfl
        case hf => omega
        case hs =>
          intro i x hi
          have hle2 : ¬ nI d ≤ nI i := nI_ge hi (by omega)
          have q1 : N + i < 100 := by omega
          simp only [xf3, if_neg hle2]
          rw [en, obind1_some, rq_eq]
          by_cases c : Int32.toInt64 r ≤ rq (rr_n x.1) (100 : Int64)
          · have er2 := hG1 _ c
            rw [if_pos c, obind2_some]
            simp only [rt_0 (Rt_hp R1 (show B < B + 1 by omega)), Option.bind_some, hi_st, p_X2_putRain q1, obind1_some, xnI_s, er2.1, er2.2, Nat.add_assoc]
          · have er2 := hG2 _ c
            rw [if_neg c, en, obind1_some, hnz, Option.bind_some, rq_eq, obind2_some]
            simp only [rt_0 (Rt_hp R1 (show B < B + 1 by omega)), Option.bind_some, hi_st, p_X2_putRain q1, obind1_some, xnI_s, er2.1, er2.2, Nat.add_assoc]
        case he =>
          intro x
          simp only [xf3, Int32.le_refl, if_true]
      have eL : f_L_addRandomRain fu h B p (nI d) r t (B + 119) = (xastL (hp (B + 1) w cap flo top eva lim rul (nI k) (nI n) (nI (N + d)) (nI D) lev dry lo rf us od (rrs r t N d (Int32.toInt64 p, ra)).2 ac) (B + 119) 0 (Int32.toInt64 (nI (N + d)))).bind fun h2 => some (0, h2) := by
        simp only [f_L_addRandomRain, rt_is hO.1, Option.bind_some, e, xcatch_inl]
      rw [eL]
      subst hw
      exact K_ret hM hX St_hp (Ot_fr O1 (fun q _ _ hq => hp_out (by omega))) (fun q hq => (hp_out (by omega)).trans (F1 q hq)) (CT_rand hC g2 g.1 g.2.2.2) (by omega) hL (fun w hw => by
        show f_X6_addRandomRain fu w (B + 113) p (nI d) r t = _
        conv => lhs; rw [Mp_eq hw]
        exact mg_rand hs hf g2 hd1 g.1 g.2.2.1 g.2.2.2)
    · have hle : ¬ nI (N + d) ≤ (100 : Int32) := by rw [e6, xnI_le_iff (by omega) (by omega)]; exact g2
      have e : f_X5_addRandomRain fu h B p (nI d) r t = some (.inr 1) := by
        simp only [f_X5_addRandomRain, cr_y g.1, cr_y g.2.1, cr_y g.2.2.1, cr_y g.2.2.2, oexc_inl, rt_is hO.1, Option.bind_some, f_X5_checkRoomForDays, rt_0 hO.1, st_rn hS, xnI_add, if_neg hle, oexc_inr]
      have eL : f_L_addRandomRain fu h B p (nI d) r t (B + 119) = some (2, h) := by
        simp only [f_L_addRandomRain, rt_is hO.1, Option.bind_some, e, xcatch_inr]
        rfl
      rw [eL]
      exact K_thr (by decide) hS hO hM hC hs hL hX (fun w hw => by
        show f_X6_addRandomRain fu w (B + 113) p (nI d) r t = _
        conv => lhs; rw [Mp_eq hw]
        rw [mg_rand0 (fun f => f.2 (by rw [xnI_add]; exact i32_nle hle)), if_pos g])
  · have e : f_X5_addRandomRain fu h B p q r t = some (.inr 0) := by
      unfold f_X5_addRandomRain
      by_cases a1 : inR p 0 999999
      · rw [cr_y a1, oexc_inl]
        by_cases a2 : inR q 1 100
        · rw [cr_y a2, oexc_inl]
          by_cases a3 : inR r 0 100
          · rw [cr_y a3, oexc_inl, cr_n (fun a4 => g ⟨a1, a2, a3, a4⟩), oexc_inr]
          · rw [cr_n a3, oexc_inr]
        · rw [cr_n a2, oexc_inr]
      · rw [cr_n a1, oexc_inr]
    have eL : f_L_addRandomRain fu h B p q r t (B + 119) = some (1, h) := by
      simp only [f_L_addRandomRain, rt_is hO.1, Option.bind_some, e, xcatch_inr]
      rfl
    rw [eL]
    exact K_thr (by decide) hS hO hM hC hs hL hX (fun w hw => by
      show f_X6_addRandomRain fu w (B + 113) p q r t = _
      conv => lhs; rw [Mp_eq hw]
      rw [mg_rand0 (fun f => g f.1), if_neg g])
end PX6
