/-! Two plans in one heap: o at B, p at B + 113. -/
def Two (B : Nat) (h : XH) (c k n N D : Nat) : Prop := ∃ (s s2 : Nat) (cap flo top eva lim rul lev dry : Int32) (lo : Int64) (ap : Int32) (m : Nat) (rf rg us vs : UT) (od oe ra rb ac ad sv sw tx ty : Nat → Int32),
  (St (B + 1) h cap flo top eva lim rul (nI k) (nI n) (nI N) (nI D) lev dry lo rf us od ra ac ∧ Ot B h s sv c 0 tx ∧ CO c k n N D cap flo top eva lev lo ap rf us ra ac ∧ s ≤ 4) ∧
  (St (B + 113 + 1) h cap flo top eva lim rul (nI m) (nI n) (nI N) (nI D) lev dry lo rg vs oe rb ad ∧ Ot (B + 113) h s2 sw c 0 ty ∧ CO c m n N D cap flo top eva lev lo ap rg vs rb ad ∧ s2 ≤ 4) ∧
  Tw k m rf rg ∧ U4 n us vs ∧ (∀ d, d < N → ra d = rb d) ∧ (∀ j, j < D * 10 → ac j = ad j) ∧ Snd k n D lev lo rf us ra ac
section PW50
variable {B s L c k n N D : Nat} {h : XH} {cap flo top eva lim rul lev dry : Int32} {lo : Int64} {rf us : UT} {od ra ac : Nat → Int32} {ap : Int32} {sv tx : Nat → Int32} {fu : Nat}
theorem CO_c (h : CO c k n N D cap flo top eva lev lo ap rf us ra ac) : CO (c + 1) k n N D cap flo top eva lev lo ap rf us ra ac := CT_c h
theorem Snd_roof (h : Snd k n 0 lev lo rf us ra ac) (p q r t : Int32) : Snd (k + 1) n 0 lev lo (xup rf k (xup (xup (xup (xup (xup (xup (rf k) 0 p) 1 q) 2 r) 3 t) 4 0) 5 0)) us ra ac := by
  obtain ⟨q1, q2, q3, q4⟩ := h
  refine ⟨q1, q2, ?_, q4⟩
  rw [q3, zsum_s]
  rw [xup_self, xup_ne _ _ (show (4 : Nat) ≠ 5 by decide), xup_self, ti_0, Int.add_zero]
  exact congrArg (_ + ·) (zsum_eq _ _ _ (fun i hi => by rw [xup_ne _ _ (show i ≠ k by omega)]))
theorem Snd_user (h : Snd k n 0 lev lo rf us ra ac) {p q : Int32} (hp : 0 ≤ p.toInt) : Snd k (n + 1) 0 lev lo rf (xup us n (xup (xup (xup (xup (us n) 0 p) 1 q) 2 0) 3 0)) ra ac := by
  obtain ⟨q1, q2, q3, q4, q5, q6⟩ := h
  refine ⟨q1, q2, q3, ?_, fun i hi => ?_, q6⟩
  · rw [← q4, zsum_s, xup_self, xup_self, ti_0, Int.add_zero]
    exact zsum_eq _ _ _ (fun i hi => by rw [xup_ne _ _ (show i ≠ n by omega)])
  · by_cases c : i = n
    · subst c
      rw [xup_self, xup_self, xup_ne _ _ (show (2 : Nat) ≠ 3 by decide), xup_self, xup_ne _ _ (show (0 : Nat) ≠ 3 by decide), xup_ne _ _ (show (0 : Nat) ≠ 2 by decide), xup_ne _ _ (show (0 : Nat) ≠ 1 by decide), xup_self, ti_0]
      omega
    · rw [xup_ne _ _ c]; exact q5 i (by omega)
end PW50
/-- a row of a roof as it is laid -/
abbrev rrow (r0 : Nat → Int32) (p q r t : Int32) : Nat → Int32 := xup (xup (xup (xup (xup (xup r0 0 p) 1 q) 2 r) 3 t) 4 0) 5 0
theorem rrow_at (r0 : Nat → Int32) (p q r t : Int32) : rrow r0 p q r t 0 = p ∧ rrow r0 p q r t 1 = q ∧ rrow r0 p q r t 2 = r ∧ rrow r0 p q r t 3 = t ∧ rrow r0 p q r t 4 = 0 ∧ rrow r0 p q r t 5 = 0 := ⟨rfl, rfl, rfl, rfl, rfl, rfl⟩
theorem rrow_eq (r0 s0 : Nat → Int32) (p q r t : Int32) : ∀ j, j < 6 → rrow r0 p q r t j = rrow s0 p q r t j := by
  intro j hj
  obtain ⟨a0, a1, a2, a3, a4, a5⟩ := rrow_at r0 p q r t
  obtain ⟨b0, b1, b2, b3, b4, b5⟩ := rrow_at s0 p q r t
  rcases xlt6 hj with rfl | rfl | rfl | rfl | rfl | rfl
  · rw [a0, b0]
  · rw [a1, b1]
  · rw [a2, b2]
  · rw [a3, b3]
  · rw [a4, b4]
  · rw [a5, b5]
theorem Tw_roof {k m : Nat} {rf rg : UT} (hk : 1 ≤ k) (h : Tw k m rf rg) (p q r t : Int32) : Tw (k + 1) (m + 1) (xup rf k (rrow (rf k) p q r t)) (xup rg m (rrow (rg m) p q r t)) := by
  rcases h with ⟨rfl, -⟩ | ⟨-, rfl, q1, q2⟩
  · omega
  · refine Or.inr ⟨by omega, rfl, ⟨?_, ?_, ?_, ?_⟩, ?_⟩
    · rw [xup_ne _ _ (show (0 : Nat) ≠ k by omega)]; exact q1.1
    · rw [xup_ne _ _ (show (0 : Nat) ≠ k + 1 by omega)]; exact q1.2.1
    · intro j hj
      rw [xup_ne _ _ (show (0 : Nat) ≠ k + 1 by omega), xup_ne _ _ (show (1 : Nat) ≠ k + 1 by omega)]; exact q1.2.2.1 j hj
    · intro j hj hj1
      rw [xup_ne _ _ (show (0 : Nat) ≠ k by omega), xup_ne _ _ (show (0 : Nat) ≠ k + 1 by omega)]; exact q1.2.2.2 j hj hj1
    · intro i hi j hj
      by_cases c : i + 1 = k
      · have c2 : i + 2 = k + 1 := by omega
        rw [c, c2, xup_self, xup_self]
        exact rrow_eq _ _ _ _ _ _ j hj
      · rw [xup_ne _ _ c, xup_ne _ _ (show i + 2 ≠ k + 1 by omega)]; exact q2 i (by omega) j hj
/-- the first roof: its halves in the second plan -/
theorem Tw_roof0 {rf rg : UT} {a r t : Int32} : Tw 1 2 (xup rf 0 (rrow (rf 0) (a + a) 100 (r + r) (t + t))) (xup (xup rg 0 (rrow (rg 0) a 100 r t)) 1 (rrow (xup rg 0 (rrow (rg 0) a 100 r t) 1) a 100 r t)) := by
  have e0 : xup (xup rg 0 (rrow (rg 0) a 100 r t)) 1 (rrow (xup rg 0 (rrow (rg 0) a 100 r t) 1) a 100 r t) 0 = rrow (rg 0) a 100 r t := by rw [xup_ne _ _ (show (0 : Nat) ≠ 1 by decide), xup_self]
  refine Or.inr ⟨Nat.le_refl _, rfl, ⟨?_, ?_, ?_, ?_⟩, fun i hi => absurd hi (by omega)⟩
  · rw [xup_self]; rfl
  · rw [e0]; rfl
  · intro j hj
    rw [e0, xup_self]
    exact rrow_eq _ _ _ _ _ _ j hj
  · intro j hj hj1
    rw [e0, xup_self]
    obtain ⟨a0, a1, a2, a3, a4, a5⟩ := rrow_at (rf 0) (a + a) 100 (r + r) (t + t)
    obtain ⟨b0, b1, b2, b3, b4, b5⟩ := rrow_at (rg 0) a 100 r t
    rcases xlt6 hj with rfl | rfl | rfl | rfl | rfl | rfl
    · rw [a0, b0]
    · exact absurd rfl hj1
    · rw [a2, b2]
    · rw [a3, b3]
    · rw [a4, b4]; exact i32_00
    · rw [a5, b5]; exact i32_00
section PW51
variable {B c k n N D : Nat} {h : XH} {fu : Nat}
/-- the reads of o and p: what stands in both -/
theorem Two_is (H : Two B h c k n N D) : xis h B 5 = some () ∧ xis h (B + 113) 5 = some () := by
  obtain ⟨s, s2, cap, flo, top, eva, lim, rul, lev, dry, lo, ap, m, rf, rg, us, vs, od, oe, ra, rb, ac, ad, sv, sw, tx, ty, ⟨hS, hO, hC, hs⟩, ⟨hS2, hO2, hC2, ht⟩, hT, hU, hR, hA, hQ⟩ := H
  exact ⟨rt_is hO.1, rt_is hO2.1⟩
theorem Two_num (H : Two B h c k n N D) : k ≤ 6 ∧ n ≤ 5 ∧ N ≤ 100 ∧ D ≤ N := by
  obtain ⟨s, s2, cap, flo, top, eva, lim, rul, lev, dry, lo, ap, m, rf, rg, us, vs, od, oe, ra, rb, ac, ad, sv, sw, tx, ty, ⟨hS, hO, hC, hs⟩, ⟨hS2, hO2, hC2, ht⟩, hT, hU, hR, hA, hQ⟩ := H
  exact hC.1
/-- a roof more, behind the first -/
theorem Two_roof (H : Two B h c k n N 0) (hk : 1 ≤ k) (hk5 : k < 5) (hf : 3489 < fu) {p q r t : Int32} (g : inR p 1 500 ∧ inR q 1 100 ∧ inR r 0 999 ∧ inR t 1 50000) :
    ∃ h1 h2 : XH, f_X5_addRoof fu h B p q r t = some (.inl (nI k, h1)) ∧ xis h1 (B + 113) 5 = some () ∧ f_X5_addRoof fu h1 (B + 113) p q r t = some (.inl (nI (k + 1), h2)) ∧ Two B h2 (c + 1) (k + 1) n N 0 := by
  obtain ⟨s, s2, cap, flo, top, eva, lim, rul, lev, dry, lo, ap, m, rf, rg, us, vs, od, oe, ra, rb, ac, ad, sv, sw, tx, ty, ⟨hS, hO, hC, hs⟩, ⟨hS2, hO2, hC2, ht⟩, hT, hU, hR, hA, hQ⟩ := H
  have em : m = k + 1 := by
    rcases hT with ⟨f, -⟩ | ⟨-, e, -⟩
    · omega
    · exact e
  subst em
  obtain ⟨h1, sv1, e1, S1, O1, F1, C1⟩ := c_addRoof hS hO hC hs hf g (by omega)
  have S2' := St_fr hS2 (h' := h1) (fun q g1 g2 => F1 q (by omega))
  have O2' := Ot_fr hO2 (h' := h1) (fun q g1 g2 _ => F1 q (by omega))
  obtain ⟨h2, sw1, e2, S2, O2, F2, C2⟩ := c_addRoof S2' O2' hC2 ht hf g (by omega)
  refine ⟨h1, h2, e1, rt_is O2'.1, e2, _, _, cap, flo, top, eva, lim, rul, lev, dry, lo, ap, _, _, _, us, vs, od, oe, ra, rb, ac, ad, _, _, tx, ty, ⟨St_fr S1 (fun q g1 g2 => F2 q (by omega)), Ot_fr O1 (fun q g1 g2 _ => F2 q (by omega)), C1, by omega⟩, ⟨S2, O2, C2, by omega⟩, Tw_roof hk hT p q r t, hU, hR, hA, Snd_roof hQ p q r t⟩
/-- the first roof -/
theorem Two_roof0 (H : Two B h c 0 n N 0) (hf : 3489 < fu) {P R T p r t : Int32} (eP : P = p + p) (eR : R = r + r) (eT : T = t + t) (g : inR P 1 500 ∧ inR (100 : Int32) 1 100 ∧ inR R 0 999 ∧ inR T 1 50000) (g' : inR p 1 500 ∧ inR (100 : Int32) 1 100 ∧ inR r 0 999 ∧ inR t 1 50000) :
    ∃ h1 h2 h3 : XH, f_X5_addRoof fu h B P 100 R T = some (.inl (nI 0, h1)) ∧ xis h1 (B + 113) 5 = some () ∧ f_X5_addRoof fu h1 (B + 113) p 100 r t = some (.inl (nI 0, h2)) ∧ xis h2 (B + 113) 5 = some () ∧ f_X5_addRoof fu h2 (B + 113) p 100 r t = some (.inl (nI 1, h3)) ∧ Two B h3 (c + 2) 1 n N 0 := by
  obtain ⟨s, s2, cap, flo, top, eva, lim, rul, lev, dry, lo, ap, m, rf, rg, us, vs, od, oe, ra, rb, ac, ad, sv, sw, tx, ty, ⟨hS, hO, hC, hs⟩, ⟨hS2, hO2, hC2, ht⟩, hT, hU, hR, hA, hQ⟩ := H
  have em : m = 0 := by
    rcases hT with ⟨-, e⟩ | ⟨f, -, -⟩
    · exact e
    · omega
  subst em
  subst eP eR eT
  obtain ⟨h1, sv1, e1, S1, O1, F1, C1⟩ := c_addRoof hS hO hC hs hf g (by omega)
  have S2' := St_fr hS2 (h' := h1) (fun q g1 g2 => F1 q (by omega))
  have O2' := Ot_fr hO2 (h' := h1) (fun q g1 g2 _ => F1 q (by omega))
  obtain ⟨h2, sw1, e2, S2, O2, F2, C2⟩ := c_addRoof S2' O2' hC2 ht hf g' (by omega)
  obtain ⟨h3, sw2, e3, S3, O3, F3, C3⟩ := c_addRoof S2 O2 C2 (by omega) hf g' (by omega)
  exact ⟨h1, h2, h3, e1, rt_is O2'.1, e2, rt_is O2.1, e3, _, _, cap, flo, top, eva, lim, rul, lev, dry, lo, ap, _, _, _, us, vs, od, oe, ra, rb, ac, ad, _, _, tx, ty, ⟨St_fr S1 (fun q g1 g2 => (F3 q (by omega)).trans (F2 q (by omega))), Ot_c (Ot_fr O1 (fun q g1 g2 _ => (F3 q (by omega)).trans (F2 q (by omega)))), CO_c C1, by omega⟩, ⟨S3, O3, C3, by omega⟩, Tw_roof0, hU, hR, hA, Snd_roof hQ _ _ _ _⟩
theorem U4_user {us vs : UT} (h : U4 n us vs) (p q : Int32) : U4 (n + 1) (xup us n (xup (xup (xup (xup (us n) 0 p) 1 q) 2 0) 3 0)) (xup vs n (xup (xup (xup (xup (vs n) 0 p) 1 q) 2 0) 3 0)) := by
  intro i hi j hj
  by_cases c : i = n
  · subst c
    rw [xup_self, xup_self]
    rcases xlt4 hj with rfl | rfl | rfl | rfl <;> rfl
  · rw [xup_ne _ _ c, xup_ne _ _ c]; exact h i (by omega) j hj
theorem Two_user (H : Two B h c k n N 0) (hn5 : n < 5) (hf : 3489 < fu) {p q : Int32} (g : inR p 0 9999 ∧ inR q 1 9) :
    ∃ h1 h2 : XH, f_X5_addUser fu h B p q = some (.inl (nI n, h1)) ∧ xis h1 (B + 113) 5 = some () ∧ f_X5_addUser fu h1 (B + 113) p q = some (.inl (nI n, h2)) ∧ Two B h2 (c + 1) k (n + 1) N 0 := by
  obtain ⟨s, s2, cap, flo, top, eva, lim, rul, lev, dry, lo, ap, m, rf, rg, us, vs, od, oe, ra, rb, ac, ad, sv, sw, tx, ty, ⟨hS, hO, hC, hs⟩, ⟨hS2, hO2, hC2, ht⟩, hT, hU, hR, hA, hQ⟩ := H
  obtain ⟨h1, sv1, e1, S1, O1, F1, C1⟩ := c_addUser hS hO hC hs hf g hn5
  have S2' := St_fr hS2 (h' := h1) (fun q g1 g2 => F1 q (by omega))
  have O2' := Ot_fr hO2 (h' := h1) (fun q g1 g2 _ => F1 q (by omega))
  obtain ⟨h2, sw1, e2, S2, O2, F2, C2⟩ := c_addUser S2' O2' hC2 ht hf g hn5
  have hp : 0 ≤ p.toInt := g.1.1
  exact ⟨h1, h2, e1, rt_is O2'.1, e2, _, _, cap, flo, top, eva, lim, rul, lev, dry, lo, ap, _, _, _, _, _, od, oe, ra, rb, ac, ad, _, _, tx, ty, ⟨St_fr S1 (fun q g1 g2 => F2 q (by omega)), Ot_fr O1 (fun q g1 g2 _ => F2 q (by omega)), C1, by omega⟩, ⟨S2, O2, C2, by omega⟩, hT, U4_user hU p q, hR, hA, Snd_user hQ hp⟩
theorem Two_res (H : Two B h c k n N D) (hc : c < 1000) (hf : 3489 < fu) {p q r : Int32} (g : inR p 100 60000 ∧ inR q 0 p ∧ inR r 0 p) :
    ∃ (v : Int32) (h1 h2 : XH), f_X5_setReservoir fu h B p q r = some (.inl (v, h1)) ∧ xis h1 (B + 113) 5 = some () ∧ f_X5_setReservoir fu h1 (B + 113) p q r = some (.inl (v, h2)) ∧ Two B h2 (c + 1) k n N D := by
  obtain ⟨s, s2, cap, flo, top, eva, lim, rul, lev, dry, lo, ap, m, rf, rg, us, vs, od, oe, ra, rb, ac, ad, sv, sw, tx, ty, ⟨hS, hO, hC, hs⟩, ⟨hS2, hO2, hC2, ht⟩, hT, hU, hR, hA, hQ⟩ := H
  obtain ⟨h1, sv1, e1, S1, O1, F1, C1⟩ := c_setReservoir hS hO hC hs hf hc g
  have S2' := St_fr hS2 (h' := h1) (fun q g1 g2 => F1 q (by omega))
  have O2' := Ot_fr hO2 (h' := h1) (fun q g1 g2 _ => F1 q (by omega))
  obtain ⟨h2, sw1, e2, S2, O2, F2, C2⟩ := c_setReservoir S2' O2' hC2 ht hf hc g
  exact ⟨cap, h1, h2, e1, rt_is O2'.1, e2, _, _, p, q, r, eva, lim, rul, _, dry, _, _, _, _, _, us, vs, od, oe, ra, rb, ac, ad, _, _, tx, ty, ⟨St_fr S1 (fun q g1 g2 => F2 q (by omega)), Ot_fr O1 (fun q g1 g2 _ => F2 q (by omega)), C1, by omega⟩, ⟨S2, O2, C2, by omega⟩, hT, hU, hR, hA, Snd_res hC hc hQ g.1⟩
theorem Two_ways (H : Two B h c k n N D) (hf : 3489 < fu) {p q r : Int32} (g : inR p 0 100 ∧ inR q 1 20 ∧ inR r 0 3) :
    ∃ (v : Int32) (h1 h2 : XH), f_X5_setWays fu h B p q r = some (.inl (v, h1)) ∧ xis h1 (B + 113) 5 = some () ∧ f_X5_setWays fu h1 (B + 113) p q r = some (.inl (v, h2)) ∧ Two B h2 (c + 1) k n N D := by
  obtain ⟨s, s2, cap, flo, top, eva, lim, rul, lev, dry, lo, ap, m, rf, rg, us, vs, od, oe, ra, rb, ac, ad, sv, sw, tx, ty, ⟨hS, hO, hC, hs⟩, ⟨hS2, hO2, hC2, ht⟩, hT, hU, hR, hA, hQ⟩ := H
  obtain ⟨h1, sv1, e1, S1, O1, F1, C1⟩ := c_setWays hS hO hC hs hf g
  have S2' := St_fr hS2 (h' := h1) (fun q g1 g2 => F1 q (by omega))
  have O2' := Ot_fr hO2 (h' := h1) (fun q g1 g2 _ => F1 q (by omega))
  obtain ⟨h2, sw1, e2, S2, O2, F2, C2⟩ := c_setWays S2' O2' hC2 ht hf g
  exact ⟨rul, h1, h2, e1, rt_is O2'.1, e2, _, _, cap, flo, top, p, q, r, lev, dry, lo, ap, _, _, _, us, vs, od, oe, ra, rb, ac, ad, _, _, tx, ty, ⟨St_fr S1 (fun q g1 g2 => F2 q (by omega)), Ot_fr O1 (fun q g1 g2 _ => F2 q (by omega)), C1, by omega⟩, ⟨S2, O2, C2, by omega⟩, hT, hU, hR, hA, hQ⟩
theorem rrs_lo (r t : Int32) (N : Nat) (x : Int64 × (Nat → Int32)) {j : Nat} (hj : j < N) : ∀ d, (rrs r t N d x).2 j = x.2 j := by
  intro d
  unfold rrs rrsG
  refine it_inv (fun _ (y : Int64 × (Nat → Int32)) => y.2 j = x.2 j) _ d rfl (fun i y _ hy => ?_)
  show xup y.2 (N + i) _ j = _
  rw [xup_ne _ _ (by omega)]; exact hy
theorem Two_rain (H : Two B h c k n N D) (hf : 3489 < fu) {d : Nat} (hd : N + d ≤ 100) {p r t : Int32} (g : inR p 0 999999 ∧ inR (nI d) 1 100 ∧ inR r 0 100 ∧ inR t 1 200) :
    ∃ (v : Int32) (h1 h2 : XH), f_X5_addRandomRain fu h B p (nI d) r t = some (.inl (v, h1)) ∧ xis h1 (B + 113) 5 = some () ∧ f_X5_addRandomRain fu h1 (B + 113) p (nI d) r t = some (.inl (v, h2)) ∧ Two B h2 (c + 1) k n (N + d) D := by
  obtain ⟨s, s2, cap, flo, top, eva, lim, rul, lev, dry, lo, ap, m, rf, rg, us, vs, od, oe, ra, rb, ac, ad, sv, sw, tx, ty, ⟨hS, hO, hC, hs⟩, ⟨hS2, hO2, hC2, ht⟩, hT, hU, hR, hA, hQ⟩ := H
  obtain ⟨h1, sv1, e1, S1, O1, F1, C1⟩ := c_random hS hO hC hs hf hd g
  have S2' := St_fr hS2 (h' := h1) (fun q g1 g2 => F1 q (by omega))
  have O2' := Ot_fr hO2 (h' := h1) (fun q g1 g2 _ => F1 q (by omega))
  obtain ⟨h2, sw1, e2, S2, O2, F2, C2⟩ := c_random S2' O2' hC2 ht hf hd g
  have hDN := hC.1.2.2.2
  have hra := hC.2.2.2.2.2.2.2
  have ht' : 1 ≤ t.toInt ∧ t.toInt ≤ 200 := g.2.2.2
  have ep : rok (Int32.toInt64 p) := by
    unfold rok
    rw [Int32.toInt_toInt64]
    have g0 : 0 ≤ p.toInt := g.1.1
    have g1 : p.toInt ≤ 999999 := g.1.2
    omega
  have key := (rrsG_rel (G1 := rr1 r) (G2 := rr2 r t) (K := rok) (fun s hs => rr_ok hs r ht') N (x := (Int32.toInt64 p, ra)) (y := (Int32.toInt64 p, rb)) rfl ep (fun j hj => ⟨hR j hj, hra j hj⟩) d).2.2
  have eR : ∀ j, j < N + d → (rrs r t N d (Int32.toInt64 p, ra)).2 j = (rrs r t N d (Int32.toInt64 p, rb)).2 j := fun j hj => (key j hj).1
  have eQ : ∀ j, j < D → (rrs r t N d (Int32.toInt64 p, ra)).2 j = ra j := fun j hj => rrs_lo r t N _ (by omega) d
  exact ⟨nI (N + d), h1, h2, e1, rt_is O2'.1, e2, _, _, cap, flo, top, eva, lim, rul, lev, dry, lo, ap, _, _, _, us, vs, od, oe, _, _, ac, ad, _, _, tx, ty, ⟨St_fr S1 (fun q g1 g2 => F2 q (by omega)), Ot_fr O1 (fun q g1 g2 _ => F2 q (by omega)), C1, by omega⟩, ⟨S2, O2, C2, by omega⟩, hT, hU, eR, hA, Snd_ra hQ eQ⟩
theorem Two_restart (H : Two B h c k n N D) (hf : 3489 < fu) :
    ∃ (h1 h2 : XH), f_X5_restart fu h B = some (nI D, h1) ∧ xis h1 (B + 113) 5 = some () ∧ f_X5_restart fu h1 (B + 113) = some (nI D, h2) ∧ Two B h2 (c + 1) k n N 0 := by
  obtain ⟨s, s2, cap, flo, top, eva, lim, rul, lev, dry, lo, ap, m, rf, rg, us, vs, od, oe, ra, rb, ac, ad, sv, sw, tx, ty, ⟨hS, hO, hC, hs⟩, ⟨hS2, hO2, hC2, ht⟩, hT, hU, hR, hA, hQ⟩ := H
  obtain ⟨h1, e1, S1, O1, F1, C1⟩ := c_restart hS hO hC hs hf
  have S2' := St_fr hS2 (h' := h1) (fun q g1 g2 => F1 q (by omega))
  have O2' := Ot_fr hO2 (h' := h1) (fun q g1 g2 _ => F1 q (by omega))
  obtain ⟨h2, e2, S2, O2, F2, C2⟩ := c_restart S2' O2' hC2 ht hf
  have huo := hC.2.2.2.2.2.2.1
  refine ⟨h1, h2, e1, rt_is O2'.1, e2, _, _, cap, flo, top, eva, lim, rul, 0, 0, 0, 0, _, _, _, _, _, od, oe, ra, rb, ac, ad, _, _, tx, ty, ⟨St_fr S1 (fun q g1 g2 => F2 q (by omega)), Ot_fr O1 (fun q g1 g2 _ => F2 q (by omega)), C1, by omega⟩, ⟨S2, O2, C2, by omega⟩, Tw_back hT (R5_rf rf) (R5_rf rg), U4_clr hU, hR, fun j hj => absurd hj (by omega), Snd_start (fun i hi => ?_) (fun i hi => ?_) ra ac⟩
  · rw [g_rf_at hi, xup_ne _ _ (by decide), xup_self]
  · rw [u_clr_at hi]
    refine ⟨xup_self _ _ _, ?_, ?_⟩
    · rw [xup_ne _ _ (by decide), xup_self]
    · rw [xup_ne _ _ (by decide), xup_ne _ _ (by decide)]; exact (huo i hi).1.1
end PW51
