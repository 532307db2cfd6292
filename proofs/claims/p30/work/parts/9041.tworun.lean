/-! Days of two plans; what-if questions of both. -/
section PW52
variable {B c k n N D : Nat} {h : XH} {fu : Nat}
theorem Two_run (H : Two B h c k n N D) (hf : 600010 < fu) {f r : Nat} (hd : D + (f + r) ≤ N) :
    ∃ (v v1 v2 : Int32) (h1 h2 h3 : XH), f_X5_run fu h B (nI (f + r)) = some (.inl (v, h1)) ∧ xis h1 (B + 113) 5 = some () ∧ f_X5_run fu h1 (B + 113) (nI f) = some (.inl (v1, h2)) ∧ xis h2 (B + 113) 5 = some () ∧ f_X5_run fu h2 (B + 113) (nI r) = some (.inl (v2, h3)) ∧ v = v1 + v2 ∧ Two B h3 (c + 2) k n N (D + (f + r)) := by
  obtain ⟨s, s2, cap, flo, top, eva, lim, rul, lev, dry, lo, ap, m, rf, rg, us, vs, od, oe, ra, rb, ac, ad, sv, sw, tx, ty, ⟨hS, hO, hC, hs⟩, ⟨hS2, hO2, hC2, ht⟩, hT, hU, hR, hA, hQ⟩ := H
  obtain ⟨X, hX⟩ : ∃ X, X = cdays cap flo top eva lim rul k n ra D (0, lev, dry, rf, us, od, ac) := ⟨_, rfl⟩
  obtain ⟨Y, hY⟩ : ∃ Y, Y = cdays cap flo top eva lim rul m n rb D (0, lev, dry, rg, vs, oe, ad) := ⟨_, rfl⟩
  obtain ⟨h1, sv1, e1, S1, O1, F1⟩ := c_run hS hO hC hs hf hd hX
  have S2' := St_fr hS2 (h' := h1) (fun q g1 g2 => F1 q (by omega))
  have O2' := Ot_fr hO2 (h' := h1) (fun q g1 g2 _ => F1 q (by omega))
  obtain ⟨h2, sw1, e2, S2, O2, F2⟩ := c_run (d := f) S2' O2' hC2 ht hf (by omega) hY
  have C2 := CO_days (lim := lim) (rul := rul) (dry := dry) (od := oe) hC2 0 f (by omega)
  rw [← hY] at C2
  obtain ⟨Z, hZ⟩ : ∃ Z, Z = cdays cap flo top eva lim rul m n rb (D + f) (0, (Y f).2.1, (Y f).2.2.1, (Y f).2.2.2.1, (Y f).2.2.2.2.1, (Y f).2.2.2.2.2.1, (Y f).2.2.2.2.2.2) := ⟨_, rfl⟩
  obtain ⟨h3, sw2, e3, S3, O3, F3⟩ := c_run (d := r) S2 O2 (CO_c C2) (by omega) hf (by omega) hZ
  have C3 := CO_days (lim := lim) (rul := rul) (dry := (Y f).2.2.1) (od := (Y f).2.2.2.2.2.1) C2 0 r (by omega)
  rw [← hZ] at C3
  have C1 := CO_days (lim := lim) (rul := rul) (dry := dry) (od := od) hC 0 (f + r) hd
  rw [← hX] at C1
  have Q1 := Snd_days (lim := lim) (rul := rul) (dry := dry) (od := od) hC hQ 0 (f + r) hd
  rw [← hX] at Q1
  have T1 := TD_days (lim := lim) (rul := rul) (dry := dry) (od := od) (od2 := oe) hC hC2 hT hU hR hA 0 (f + r) hd
  rw [← hX, ← hY] at T1
  have eY : Y (f + r) = ((Y f).1 + (Z r).1, (Z r).2) := by
    have a1 : Y (f + r) = cdays cap flo top eva lim rul m n rb (D + f) ((Y f).1, (Y f).2) r := by
      rw [hY]; exact cdays_app _ _ _ _ _ _ _ _ _ _ _ f r
    have a2 := cdays_cnt cap flo top eva lim rul m n rb (D + f) (Y f).1 (Y f).2 r
    have a3 : cdays cap flo top eva lim rul m n rb (D + f) (0, (Y f).2) r = Z r := by rw [hZ]
    rw [a3] at a2
    rw [a1]
    exact Prod.ext a2.1 a2.2
  rw [eY] at T1
  obtain ⟨t1, t2, t3, t4, t5, t6⟩ := T1
  simp only at t1 t2 t3 t4 t5 t6
  have eD : D + (f + r) = D + f + r := (Nat.add_assoc _ _ _).symm
  refine ⟨_, _, _, h1, h2, h3, e1, rt_is O2'.1, e2, rt_is O2.1, e3, t1, ?_⟩
  rw [← eD] at S3 C3
  rw [← t2, ← t3] at S3
  rw [← t2] at C3
  exact ⟨_, _, cap, flo, top, eva, lim, rul, _, _, lo, ap, m, _, _, _, _, _, _, ra, rb, _, _, _, _, tx, ty, ⟨St_fr S1 (fun q g1 g2 => (F3 q (by omega)).trans (F2 q (by omega))), Ot_c (Ot_fr O1 (fun q g1 g2 _ => (F3 q (by omega)).trans (F2 q (by omega)))), CO_c (CO_c C1), by omega⟩, ⟨S3, O3, CO_c (CO_c C3), by omega⟩, t4, t5, hR, t6, Q1⟩
/-- what-if questions of both: alike, and nothing has changed -/
theorem Two_sdw (H : Two B h c k n N D) (hf : 600010 < fu) {p : Int32} (g : inR p 100 60000) :
    ∃ (v : Int32) (h1 h2 : XH), f_X5_shortDaysWith fu h B p = some (.inl (v, h1)) ∧ xis h1 (B + 113) 5 = some () ∧ f_X5_shortDaysWith fu h1 (B + 113) p = some (.inl (v, h2)) ∧ Two B h2 c k n N D := by
  obtain ⟨s, s2, cap, flo, top, eva, lim, rul, lev, dry, lo, ap, m, rf, rg, us, vs, od, oe, ra, rb, ac, ad, sv, sw, tx, ty, ⟨hS, hO, hC, hs⟩, ⟨hS2, hO2, hC2, ht⟩, hT, hU, hR, hA, hQ⟩ := H
  obtain ⟨h1, rf2, e1, r1, S1, O1, F1⟩ := c_sdw hS hO hC hs hf g
  have S2' := St_fr hS2 (h' := h1) (fun q g1 g2 => F1 q (by omega))
  have O2' := Ot_fr hO2 (h' := h1) (fun q g1 g2 _ => F1 q (by omega))
  obtain ⟨h2, rg2, e2, r2, S2, O2, F2⟩ := c_sdw S2' O2' hC2 ht hf g
  have ei := A_inf (lim := lim) hT hC.2.2.2.2.2.1 hC2.2.2.2.2.2.1 hR hC.2.2.2.2.2.2.2 r1 r2
  rw [← A_cnt hC.1.2.1 ei hU] at e2
  exact ⟨_, h1, h2, e1, rt_is O2'.1, e2, _, _, cap, flo, top, eva, lim, rul, lev, dry, lo, ap, _, _, _, us, vs, od, oe, ra, rb, ac, ad, _, _, tx, ty, ⟨St_fr S1 (fun q g1 g2 => F2 q (by omega)), Ot_fr O1 (fun q g1 g2 _ => F2 q (by omega)), hC, hs⟩, ⟨S2, O2, hC2, ht⟩, hT, hU, hR, hA, hQ⟩
theorem Two_cap (H : Two B h c k n N D) (hf : 600010 < fu) {p : Int32} (g : inR p 0 100) :
    ∃ (v : Int32) (h1 h2 : XH), f_X5_capacityFor fu h B p = some (.inl (v, h1)) ∧ xis h1 (B + 113) 5 = some () ∧ f_X5_capacityFor fu h1 (B + 113) p = some (.inl (v, h2)) ∧ Two B h2 c k n N D := by
  obtain ⟨s, s2, cap, flo, top, eva, lim, rul, lev, dry, lo, ap, m, rf, rg, us, vs, od, oe, ra, rb, ac, ad, sv, sw, tx, ty, ⟨hS, hO, hC, hs⟩, ⟨hS2, hO2, hC2, ht⟩, hT, hU, hR, hA, hQ⟩ := H
  obtain ⟨h1, rf2, i, e1, r1, a1, b1, d1, S1, O1, F1⟩ := c_cap hS hO hC hs hf g
  have S2' := St_fr hS2 (h' := h1) (fun q g1 g2 => F1 q (by omega))
  have O2' := Ot_fr hO2 (h' := h1) (fun q g1 g2 _ => F1 q (by omega))
  obtain ⟨h2, rg2, i', e2, r2, a2, b2, d2, S2, O2, F2⟩ := c_cap S2' O2' hC2 ht hf g
  have ei := A_inf (lim := lim) hT hC.2.2.2.2.2.1 hC2.2.2.2.2.2.1 hR hC.2.2.2.2.2.2.2 r1 r2
  have eq : i = i' := least_eq (P := fun i => (t_S (nI (500 * (i + 1))) (xmin flo (nI (500 * (i + 1)))) (xmin top (nI (500 * (i + 1)))) eva rul n (t_inf k lim ra (g_rf k rf2)) (u_clr n us) N).2.2 ≤ p) (Q := fun i => (t_S (nI (500 * (i + 1))) (xmin flo (nI (500 * (i + 1)))) (xmin top (nI (500 * (i + 1)))) eva rul n (t_inf m lim rb (g_rf m rg2)) (u_clr n vs) N).2.2 ≤ p) (fun i => by rw [A_cnt hC.1.2.1 ei hU]) a1 a2 b1 b2 d1 d2
  subst eq
  exact ⟨_, h1, h2, e1, rt_is O2'.1, e2, _, _, cap, flo, top, eva, lim, rul, lev, dry, lo, ap, _, _, _, us, vs, od, oe, ra, rb, ac, ad, _, _, tx, ty, ⟨St_fr S1 (fun q g1 g2 => F2 q (by omega)), Ot_fr O1 (fun q g1 g2 _ => F2 q (by omega)), hC, hs⟩, ⟨S2, O2, hC2, ht⟩, hT, hU, hR, hA, hQ⟩
theorem Two_best (H : Two B h c k n N D) (hf : 600010 < fu) :
    ∃ (v : Int32) (h1 h2 : XH), f_X5_bestRule fu h B = some (v, h1) ∧ xis h1 (B + 113) 5 = some () ∧ f_X5_bestRule fu h1 (B + 113) = some (v, h2) ∧ Two B h2 c k n N D := by
  obtain ⟨s, s2, cap, flo, top, eva, lim, rul, lev, dry, lo, ap, m, rf, rg, us, vs, od, oe, ra, rb, ac, ad, sv, sw, tx, ty, ⟨hS, hO, hC, hs⟩, ⟨hS2, hO2, hC2, ht⟩, hT, hU, hR, hA, hQ⟩ := H
  obtain ⟨h1, rf2, e1, r1, S1, O1, F1⟩ := c_best hS hO hC hs hf
  have S2' := St_fr hS2 (h' := h1) (fun q g1 g2 => F1 q (by omega))
  have O2' := Ot_fr hO2 (h' := h1) (fun q g1 g2 _ => F1 q (by omega))
  obtain ⟨h2, rg2, e2, r2, S2, O2, F2⟩ := c_best S2' O2' hC2 ht hf
  have ei := A_inf (lim := lim) hT hC.2.2.2.2.2.1 hC2.2.2.2.2.2.1 hR hC.2.2.2.2.2.2.2 r1 r2
  rw [← A_best hC.1.2.1 ei hU] at e2
  exact ⟨_, h1, h2, e1, rt_is O2'.1, e2, _, _, cap, flo, top, eva, lim, rul, lev, dry, lo, ap, _, _, _, us, vs, od, oe, ra, rb, ac, ad, _, _, tx, ty, ⟨St_fr S1 (fun q g1 g2 => F2 q (by omega)), Ot_fr O1 (fun q g1 g2 _ => F2 q (by omega)), hC, hs⟩, ⟨S2, O2, hC2, ht⟩, hT, hU, hR, hA, hQ⟩
theorem Two_sust (H : Two B h c k n N D) (hf : 600010 < fu) :
    ∃ (v : Int32) (h1 h2 : XH), f_X5_sustainable fu h B = some (v, h1) ∧ xis h1 (B + 113) 5 = some () ∧ f_X5_sustainable fu h1 (B + 113) = some (v, h2) ∧ Two B h2 c k n N D := by
  obtain ⟨s, s2, cap, flo, top, eva, lim, rul, lev, dry, lo, ap, m, rf, rg, us, vs, od, oe, ra, rb, ac, ad, sv, sw, tx, ty, ⟨hS, hO, hC, hs⟩, ⟨hS2, hO2, hC2, ht⟩, hT, hU, hR, hA, hQ⟩ := H
  obtain ⟨h1, rf2, i, e1, r1, a1, b1, d1, S1, O1, F1⟩ := c_sust hS hO hC hs hf
  have S2' := St_fr hS2 (h' := h1) (fun q g1 g2 => F1 q (by omega))
  have O2' := Ot_fr hO2 (h' := h1) (fun q g1 g2 _ => F1 q (by omega))
  obtain ⟨h2, rg2, i', e2, r2, a2, b2, d2, S2, O2, F2⟩ := c_sust S2' O2' hC2 ht hf
  have ei := A_inf (lim := lim) hT hC.2.2.2.2.2.1 hC2.2.2.2.2.2.1 hR hC.2.2.2.2.2.2.2 r1 r2
  have eq : i = i' := least_eq (P := fun i => SUs cap flo top eva rul n N (t_inf k lim ra (g_rf k rf2)) us (nI (300 - 5 * i)) = 0) (Q := fun i => SUs cap flo top eva rul n N (t_inf m lim rb (g_rf m rg2)) vs (nI (300 - 5 * i)) = 0) (fun i => by rw [A_sust hC.1.2.1 ei hU]) a1 a2 b1 b2 d1 d2
  subst eq
  exact ⟨_, h1, h2, e1, rt_is O2'.1, e2, _, _, cap, flo, top, eva, lim, rul, lev, dry, lo, ap, _, _, _, us, vs, od, oe, ra, rb, ac, ad, _, _, tx, ty, ⟨St_fr S1 (fun q g1 g2 => F2 q (by omega)), Ot_fr O1 (fun q g1 g2 _ => F2 q (by omega)), hC, hs⟩, ⟨S2, O2, hC2, ht⟩, hT, hU, hR, hA, hQ⟩
theorem Two_gut (H : Two B h c k n N D) (hf : 600010 < fu) {i : Nat} (hi : i + 1 < k) :
    ∃ (v : Int64) (h1 h2 : XH), f_X5_gutterLoss fu h B (nI (i + 1)) = some (.inl (v, h1)) ∧ xis h1 (B + 113) 5 = some () ∧ f_X5_gutterLoss fu h1 (B + 113) (nI (i + 2)) = some (.inl (v, h2)) ∧ Two B h2 c k n N D := by
  obtain ⟨s, s2, cap, flo, top, eva, lim, rul, lev, dry, lo, ap, m, rf, rg, us, vs, od, oe, ra, rb, ac, ad, sv, sw, tx, ty, ⟨hS, hO, hC, hs⟩, ⟨hS2, hO2, hC2, ht⟩, hT, hU, hR, hA, hQ⟩ := H
  have em : m = k + 1 := by
    rcases hT with ⟨f, -⟩ | ⟨-, e, -⟩
    · omega
    · exact e
  obtain ⟨h1, rf2, e1, r1, S1, O1, F1⟩ := c_gutter hS hO hC hs hf hi
  have S2' := St_fr hS2 (h' := h1) (fun q g1 g2 => F1 q (by omega))
  have O2' := Ot_fr hO2 (h' := h1) (fun q g1 g2 _ => F1 q (by omega))
  obtain ⟨h2, rg2, e2, r2, S2, O2, F2⟩ := c_gutter S2' O2' hC2 ht hf (i := i + 2) (by omega)
  rw [← A_gut (lim := lim) hi hT hC.2.2.2.2.2.1 hC2.2.2.2.2.2.1 hR hC.2.2.2.2.2.2.2 r1 r2] at e2
  exact ⟨_, h1, h2, e1, rt_is O2'.1, e2, _, _, cap, flo, top, eva, lim, rul, lev, dry, lo, ap, _, _, _, us, vs, od, oe, ra, rb, ac, ad, _, _, tx, ty, ⟨St_fr S1 (fun q g1 g2 => F2 q (by omega)), Ot_fr O1 (fun q g1 g2 _ => F2 q (by omega)), hC, hs⟩, ⟨S2, O2, hC2, ht⟩, hT, hU, hR, hA, hQ⟩
theorem Two_gut0 (H : Two B h c k n N D) (hf : 600010 < fu) (hk : 0 < k) :
    ∃ (v v1 v2 : Int64) (h1 h2 h3 : XH), f_X5_gutterLoss fu h B (nI 0) = some (.inl (v, h1)) ∧ xis h1 (B + 113) 5 = some () ∧ f_X5_gutterLoss fu h1 (B + 113) (nI 0) = some (.inl (v1, h2)) ∧ xis h2 (B + 113) 5 = some () ∧ f_X5_gutterLoss fu h2 (B + 113) (nI 1) = some (.inl (v2, h3)) ∧ v = v1 + v2 ∧ Two B h3 c k n N D := by
  obtain ⟨s, s2, cap, flo, top, eva, lim, rul, lev, dry, lo, ap, m, rf, rg, us, vs, od, oe, ra, rb, ac, ad, sv, sw, tx, ty, ⟨hS, hO, hC, hs⟩, ⟨hS2, hO2, hC2, ht⟩, hT, hU, hR, hA, hQ⟩ := H
  have em : m = k + 1 := by
    rcases hT with ⟨f, -⟩ | ⟨-, e, -⟩
    · omega
    · exact e
  obtain ⟨h1, rf2, e1, r1, S1, O1, F1⟩ := c_gutter hS hO hC hs hf hk
  have S2' := St_fr hS2 (h' := h1) (fun q g1 g2 => F1 q (by omega))
  have O2' := Ot_fr hO2 (h' := h1) (fun q g1 g2 _ => F1 q (by omega))
  obtain ⟨h2, rg2, e2, r2, S2, O2, F2⟩ := c_gutter S2' O2' hC2 ht hf (i := 0) (by omega)
  obtain ⟨h3, rg3, e3, r3, S3, O3, F3⟩ := c_gutter S2 O2 hC2 ht hf (i := 1) (by omega)
  have eg := A_gut0 (lim := lim) hk hC.1.2.2.1 hT hC.2.2.2.2.2.1 hC2.2.2.2.2.2.1 hR hC.2.2.2.2.2.2.2 r1 r2 r3
  exact ⟨_, _, _, h1, h2, h3, e1, rt_is O2'.1, e2, rt_is O2.1, e3, eg, _, _, cap, flo, top, eva, lim, rul, lev, dry, lo, ap, _, _, _, us, vs, od, oe, ra, rb, ac, ad, _, _, tx, ty, ⟨St_fr S1 (fun q g1 g2 => (F3 q (by omega)).trans (F2 q (by omega))), Ot_fr O1 (fun q g1 g2 _ => (F3 q (by omega)).trans (F2 q (by omega))), hC, hs⟩, ⟨S3, O3, hC2, ht⟩, hT, hU, hR, hA, hQ⟩
end PW52
