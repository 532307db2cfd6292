/-! The law's end: restart, undo, digests. -/
section PW71
variable {B c k n N D : Nat} {h : XH} {fu : Nat}
theorem k_of {a b : Nat} (ha : a < 2147483648) (hb : b < 2147483648) {x : Int32} (e1 : x = nI a) (e2 : x = nI b) : a = b := xnI_inj ha hb (e1.symm.trans e2)
theorem Two_end (H : Two B h c k n N D) (hf : 600010 < fu) :
    ∃ (v v' : Int64) (t : Nat) (h1 h2 : XH), f_X5_digest fu h B = some v ∧ f_X5_restart fu h B = some (nI D, h1) ∧ xis h1 B 5 = some () ∧ xis h1 (B + 113) 5 = some () ∧ f_X5_setting h1 (B + 113) (9 : Int32) = some (.inl (nI D)) ∧ f_X5_setting h1 B (10 : Int32) = some (.inl 0) ∧ f_X5_sum fu h1 B (6 : Int32) = some (.inl 0) ∧
      f_X5_undo fu h1 B = some (.inl (nI t, h2)) ∧ t < 4 ∧ xis h2 B 5 = some () ∧ f_X5_digest fu h2 B = some v' ∧ (v' = v ∨ v' = v - 1) := by
  obtain ⟨s, s2, cap, flo, top, eva, lim, rul, lev, dry, lo, ap, m, rf, rg, us, vs, od, oe, ra, rb, ac, ad, sv, sw, tx, ty, ⟨hS, hO, hC, hs⟩, ⟨hS2, hO2, hC2, ht⟩, hT, hU, hR, hA, hQ⟩ := H
  have hk := hC.1.1
  have hn := hC.1.2.1
  have hN := hC.1.2.2.1
  have hDN := hC.1.2.2.2
  have dg1 := c_digest hS hO hC hs (show 1163 < fu by omega)
  obtain ⟨h1, e1, S1, O1, F1, C1⟩ := c_restart hS hO hC hs (show 3489 < fu by omega)
  have S2' := St_fr hS2 (h' := h1) (fun q g1 g2 => F1 q (by omega))
  have O2' := Ot_fr hO2 (h' := h1) (fun q g1 g2 _ => F1 q (by omega))
  have hs3 : min s 3 + 1 ≤ 4 := by omega
  have g9 : f_X5_setting h1 (B + 113) (9 : Int32) = some (.inl (nI D)) := c_setting S2' O2' hC2 ht (w := 9) (by omega)
  have g10 : f_X5_setting h1 B (10 : Int32) = some (.inl 0) := c_setting S1 O1 C1 hs3 (w := 10) (by omega)
  have S6 : f_X5_sum fu h1 B (6 : Int32) = some (.inl 0) := c_sum_n S1 O1 C1 hs3 (show 101 < fu by omega) (w := 6) (by omega) (by omega) (q := 6) rfl
  obtain ⟨h7, z, rf2, us2, od2, ra2, ac2, k2, n2, N2, D2, e7, S7, O7, ⟨v6, v7, v8, v9⟩, hz, C7⟩ := c_undo S1 O1 (show min s 3 < 4 by omega) (show 7 < fu by omega)
  have hrow : ∀ q, q < 1163 → m_sav s (m_al cap flo top eva lim rul (nI k) (nI n) (nI N) (nI D) lev dry ap rf us ra ac) sv (1163 * min s 3 + q) = m_al cap flo top eva lim rul (nI k) (nI n) (nI N) (nI D) lev dry ap rf us ra ac q := fun q hq => m_sav_at hs _ _ hq
  have b7 := C7.1
  have ez : ∀ i, i < 12 → z.1 i = m_al cap flo top eva lim rul (nI k) (nI n) (nI N) (nI D) lev dry ap rf us ra ac i := fun i hi => (hz i hi).symm.trans (hrow i (by omega))
  have ek : k2 = k := k_of (by omega) (by omega) v6 (ez 6 (by omega))
  have en : n2 = n := k_of (by omega) (by omega) v7 (ez 7 (by omega))
  have eN : N2 = N := k_of (by omega) (by omega) v8 (ez 8 (by omega))
  have eD : D2 = D := k_of (by omega) (by omega) v9 (ez 9 (by omega))
  subst ek en eN eD
  have dg2 := w_digest S7 O7 C7 (show min s 3 ≤ 4 by omega) (show 1163 < fu by omega)
  obtain ⟨R7, U7, A7, B7⟩ := C7.2.2.1
  have eap : m_sav s (m_al cap flo top eva lim rul (nI k2) (nI n2) (nI N2) (nI D2) lev dry ap rf us ra ac) sv (1163 * min s 3 + 12) = ap := hrow 12 (by omega)
  rw [eap] at dg2
  have hcg := dg_cg (k := k2) (n := n2) (N := N2) (D := D2)
    (Z := zz (z.1 0) (z.1 1) (z.1 2) (z.1 3) (z.1 4) (z.1 5) (nI k2) (nI n2) (nI N2) (nI D2) (z.1 10) (z.1 11)) (Z' := zz cap flo top eva lim rul (nI k2) (nI n2) (nI N2) (nI D2) lev dry)
    (rf := rf2) (rg := rf) (us := us2) (vs := us) (ra := ra2) (rb := ra) (ac := ac2) (ad := ac)
    (S := fun w => lsum (fun j => m_sav s (m_al cap flo top eva lim rul (nI k2) (nI n2) (nI N2) (nI D2) lev dry ap rf us ra ac) sv (1163 * min s 3 + (163 + j))) w (if nI w = (4 : Int32) then Int32.toInt64 ap else 0) D2) (S' := fun w => lsum ac w (if nI w = (4 : Int32) then Int32.toInt64 ap else 0) D2)
    (fun i hi => by
      rw [ez 0 (by omega), ez 1 (by omega), ez 2 (by omega), ez 3 (by omega), ez 4 (by omega), ez 5 (by omega), ez 10 (by omega), ez 11 (by omega)]
      rfl)
    (fun i hi j hj => (R7 i hi j hj).trans ((hrow (13 + 5 * i + j) (by omega)).trans (al_rf (by omega) hj)))
    (fun i hi j hj => (U7 i hi j hj).trans ((hrow (43 + 4 * i + j) (by omega)).trans (al_us (by omega) hj)))
    (fun d hd => (A7 d hd).trans ((hrow (63 + d) (by omega)).trans (al_ra (by omega))))
    (fun j hj => (B7 j hj).trans ((hrow (163 + j) (by omega)).trans (al_ac j)))
    (fun w w1 w2 => lsum_eq2 (fun j hj => (hrow (163 + j) (by omega)).trans (al_ac j)) w2) (min s 3) ((99293 : Int64) + Int32.toInt64 (nI 0))
  rw [hcg] at dg2
  exact ⟨_, _, min s 3, h1, h7, dg1, e1, rt_is O1.1, rt_is O2'.1, g9, g10, S6, e7, by omega, rt_is O7.1, dg2, dg_last _ _ _ _ _ _ _ _ _ _ hs _⟩
end PW71
