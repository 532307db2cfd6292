/-! The law's calls. -/
theorem xs_0 {M : Nat} {xs : Nat → Int32} {i : Nat} (h : i + 5 ≤ M) (hM : M ≤ 2560) : xsld M xs (nI i) = some (xs i) := by
  have hx : xin (nI i) M = true := xin_nI (by omega) (by omega)
  have h3 : (nI i).toNatClampNeg = i := xnI_nat (by omega)
  unfold xsld
  rw [if_pos hx, h3]
theorem xs_1 {M : Nat} {xs : Nat → Int32} {i : Nat} (h : i + 5 ≤ M) (hM : M ≤ 2560) : xsld M xs (nI i + (1 : Int32)) = some (xs (i + 1)) := by
  have e : nI i + (1 : Int32) = nI (i + 1) := xnI_add i 1
  have hx : xin (nI (i + 1)) M = true := xin_nI (by omega) (by omega)
  have h3 : (nI (i + 1)).toNatClampNeg = i + 1 := xnI_nat (by omega)
  unfold xsld
  rw [e, if_pos hx, h3]
theorem xs_2 {M : Nat} {xs : Nat → Int32} {i : Nat} (h : i + 5 ≤ M) (hM : M ≤ 2560) : xsld M xs (nI i + (2 : Int32)) = some (xs (i + 2)) := by
  have e : nI i + (2 : Int32) = nI (i + 2) := xnI_add i 2
  have hx : xin (nI (i + 2)) M = true := xin_nI (by omega) (by omega)
  have h3 : (nI (i + 2)).toNatClampNeg = i + 2 := xnI_nat (by omega)
  unfold xsld
  rw [e, if_pos hx, h3]
theorem xs_3 {M : Nat} {xs : Nat → Int32} {i : Nat} (h : i + 5 ≤ M) (hM : M ≤ 2560) : xsld M xs (nI i + (3 : Int32)) = some (xs (i + 3)) := by
  have e : nI i + (3 : Int32) = nI (i + 3) := xnI_add i 3
  have hx : xin (nI (i + 3)) M = true := xin_nI (by omega) (by omega)
  have h3 : (nI (i + 3)).toNatClampNeg = i + 3 := xnI_nat (by omega)
  unfold xsld
  rw [e, if_pos hx, h3]
theorem xs_4 {M : Nat} {xs : Nat → Int32} {i : Nat} (h : i + 5 ≤ M) (hM : M ≤ 2560) : xsld M xs (nI i + (4 : Int32)) = some (xs (i + 4)) := by
  have e : nI i + (4 : Int32) = nI (i + 4) := xnI_add i 4
  have hx : xin (nI (i + 4)) M = true := xin_nI (by omega) (by omega)
  have h3 : (nI (i + 4)).toNatClampNeg = i + 4 := xnI_nat (by omega)
  unfold xsld
  rw [e, if_pos hx, h3]
section PV
variable {fu M B c i : Nat} {xs : Nat → Int32} {h : XH}
theorem W_0 (hW : World B h c) (hf : 600010 < fu) (hc : c < 1000) (hi : i + 5 ≤ M) (hM2 : M ≤ 2560) : ∃ h2, lc_0 fu M xs B (B + 113) (B + 119) (nI i) h = some h2 ∧ World B h2 (c + 1) := by
  obtain ⟨s, L, k, n, N, D, cap, flo, top, eva, lim, rul, lev, dry, lo, rf, us, od, ra, ac, ap, rfm, usm, ram, acm, sv, as, th, sd, td, sp, lf, tx, pl, nb, hS, hO, hM, hC, ⟨hs, hL⟩, hX⟩ := hW
  have K := K_addRoof hS hO hM hC hs hL hX (show 3489 < fu by omega) (xs (i + 1)) (xs (i + 2)) (xs (i + 3)) (xs (i + 4))
  simp only [lc_0, xs_1 hi hM2, xs_2 hi hM2, xs_3 hi hM2, xs_4 hi hM2, Option.bind_some]
  exact K_lc (G := fun g => f_X6_addRoof fu g (B + 113) (xs (i + 1)) (xs (i + 2)) (xs (i + 3)) (xs (i + 4))) K
theorem W_1 (hW : World B h c) (hf : 600010 < fu) (hc : c < 1000) (hi : i + 5 ≤ M) (hM2 : M ≤ 2560) : ∃ h2, lc_1 fu M xs B (B + 113) (B + 119) (nI i) h = some h2 ∧ World B h2 (c + 1) := by
  obtain ⟨s, L, k, n, N, D, cap, flo, top, eva, lim, rul, lev, dry, lo, rf, us, od, ra, ac, ap, rfm, usm, ram, acm, sv, as, th, sd, td, sp, lf, tx, pl, nb, hS, hO, hM, hC, ⟨hs, hL⟩, hX⟩ := hW
  have K := K_addUser hS hO hM hC hs hL hX (show 3489 < fu by omega) (xs (i + 1)) (xs (i + 2))
  simp only [lc_1, xs_1 hi hM2, xs_2 hi hM2, Option.bind_some]
  exact K_lc (G := fun g => f_X6_addUser fu g (B + 113) (xs (i + 1)) (xs (i + 2))) K
theorem W_2 (hW : World B h c) (hf : 600010 < fu) (hc : c < 1000) (hi : i + 5 ≤ M) (hM2 : M ≤ 2560) : ∃ h2, lc_2 fu M xs B (B + 113) (B + 119) (nI i) h = some h2 ∧ World B h2 (c + 1) := by
  obtain ⟨s, L, k, n, N, D, cap, flo, top, eva, lim, rul, lev, dry, lo, rf, us, od, ra, ac, ap, rfm, usm, ram, acm, sv, as, th, sd, td, sp, lf, tx, pl, nb, hS, hO, hM, hC, ⟨hs, hL⟩, hX⟩ := hW
  have K := K_setDemand hS hO hM hC hs hL hX (show 3489 < fu by omega) (xs (i + 1)) (xs (i + 2))
  simp only [lc_2, xs_1 hi hM2, xs_2 hi hM2, Option.bind_some]
  exact K_lc (G := fun g => f_X6_setDemand fu g (B + 113) (xs (i + 1)) (xs (i + 2))) K
theorem W_3 (hW : World B h c) (hf : 600010 < fu) (hc : c < 1000) (hi : i + 5 ≤ M) (hM2 : M ≤ 2560) : ∃ h2, lc_3 fu M xs B (B + 113) (B + 119) (nI i) h = some h2 ∧ World B h2 (c + 1) := by
  obtain ⟨s, L, k, n, N, D, cap, flo, top, eva, lim, rul, lev, dry, lo, rf, us, od, ra, ac, ap, rfm, usm, ram, acm, sv, as, th, sd, td, sp, lf, tx, pl, nb, hS, hO, hM, hC, ⟨hs, hL⟩, hX⟩ := hW
  have K := K_setReservoir hS hO hM hC hs hL hX (show 3489 < fu by omega) hc (xs (i + 1)) (xs (i + 2)) (xs (i + 3))
  simp only [lc_3, xs_1 hi hM2, xs_2 hi hM2, xs_3 hi hM2, Option.bind_some]
  exact K_lc (G := fun g => f_X6_setReservoir fu g (B + 113) (xs (i + 1)) (xs (i + 2)) (xs (i + 3))) K
theorem W_4 (hW : World B h c) (hf : 600010 < fu) (hc : c < 1000) (hi : i + 5 ≤ M) (hM2 : M ≤ 2560) : ∃ h2, lc_4 fu M xs B (B + 113) (B + 119) (nI i) h = some h2 ∧ World B h2 (c + 1) := by
  obtain ⟨s, L, k, n, N, D, cap, flo, top, eva, lim, rul, lev, dry, lo, rf, us, od, ra, ac, ap, rfm, usm, ram, acm, sv, as, th, sd, td, sp, lf, tx, pl, nb, hS, hO, hM, hC, ⟨hs, hL⟩, hX⟩ := hW
  have K := K_setWays hS hO hM hC hs hL hX (show 3489 < fu by omega) (xs (i + 1)) (xs (i + 2)) (xs (i + 3))
  simp only [lc_4, xs_1 hi hM2, xs_2 hi hM2, xs_3 hi hM2, Option.bind_some]
  exact K_lc (G := fun g => f_X6_setWays fu g (B + 113) (xs (i + 1)) (xs (i + 2)) (xs (i + 3))) K
theorem W_5 (hW : World B h c) (hf : 600010 < fu) (hc : c < 1000) (hi : i + 5 ≤ M) (hM2 : M ≤ 2560) : ∃ h2, lc_5 fu M xs B (B + 113) (B + 119) (nI i) h = some h2 ∧ World B h2 (c + 1) := by
  obtain ⟨s, L, k, n, N, D, cap, flo, top, eva, lim, rul, lev, dry, lo, rf, us, od, ra, ac, ap, rfm, usm, ram, acm, sv, as, th, sd, td, sp, lf, tx, pl, nb, hS, hO, hM, hC, ⟨hs, hL⟩, hX⟩ := hW
  have K := K_setting hS hO hM hC hs hL hX (xs (i + 1))
  simp only [lc_5, xs_1 hi hM2, Option.bind_some]
  exact K_lc (G := fun g => f_X6_setting g (B + 113) (xs (i + 1))) K
theorem W_6 (hW : World B h c) (hf : 600010 < fu) (hc : c < 1000) (hi : i + 5 ≤ M) (hM2 : M ≤ 2560) : ∃ h2, lc_6 fu M xs B (B + 113) (B + 119) (nI i) h = some h2 ∧ World B h2 (c + 1) := by
  obtain ⟨s, L, k, n, N, D, cap, flo, top, eva, lim, rul, lev, dry, lo, rf, us, od, ra, ac, ap, rfm, usm, ram, acm, sv, as, th, sd, td, sp, lf, tx, pl, nb, hS, hO, hM, hC, ⟨hs, hL⟩, hX⟩ := hW
  have K := K_roof hS hO hM hC hs hL hX (xs (i + 1)) (xs (i + 2))
  simp only [lc_6, xs_1 hi hM2, xs_2 hi hM2, Option.bind_some]
  exact K_lc (G := fun g => f_X6_roof g (B + 113) (xs (i + 1)) (xs (i + 2))) K
theorem W_7 (hW : World B h c) (hf : 600010 < fu) (hc : c < 1000) (hi : i + 5 ≤ M) (hM2 : M ≤ 2560) : ∃ h2, lc_7 fu M xs B (B + 113) (B + 119) (nI i) h = some h2 ∧ World B h2 (c + 1) := by
  obtain ⟨s, L, k, n, N, D, cap, flo, top, eva, lim, rul, lev, dry, lo, rf, us, od, ra, ac, ap, rfm, usm, ram, acm, sv, as, th, sd, td, sp, lf, tx, pl, nb, hS, hO, hM, hC, ⟨hs, hL⟩, hX⟩ := hW
  have K := K_user hS hO hM hC hs hL hX (xs (i + 1)) (xs (i + 2))
  simp only [lc_7, xs_1 hi hM2, xs_2 hi hM2, Option.bind_some]
  exact K_lc (G := fun g => f_X6_user g (B + 113) (xs (i + 1)) (xs (i + 2))) K
theorem W_8 (hW : World B h c) (hf : 600010 < fu) (hc : c < 1000) (hi : i + 5 ≤ M) (hM2 : M ≤ 2560) : ∃ h2, lc_8 fu M xs B (B + 113) (B + 119) (nI i) h = some h2 ∧ World B h2 (c + 1) := by
  obtain ⟨s, L, k, n, N, D, cap, flo, top, eva, lim, rul, lev, dry, lo, rf, us, od, ra, ac, ap, rfm, usm, ram, acm, sv, as, th, sd, td, sp, lf, tx, pl, nb, hS, hO, hM, hC, ⟨hs, hL⟩, hX⟩ := hW
  have K := K_addRain hS hO hM hC hs hL hX (show 3489 < fu by omega) (xs (i + 1)) (xs (i + 2))
  simp only [lc_8, xs_1 hi hM2, xs_2 hi hM2, Option.bind_some]
  exact K_lc (G := fun g => f_X6_addRain fu g (B + 113) (xs (i + 1)) (xs (i + 2))) K
theorem W_9 (hW : World B h c) (hf : 600010 < fu) (hc : c < 1000) (hi : i + 5 ≤ M) (hM2 : M ≤ 2560) : ∃ h2, lc_9 fu M xs B (B + 113) (B + 119) (nI i) h = some h2 ∧ World B h2 (c + 1) := by
  obtain ⟨s, L, k, n, N, D, cap, flo, top, eva, lim, rul, lev, dry, lo, rf, us, od, ra, ac, ap, rfm, usm, ram, acm, sv, as, th, sd, td, sp, lf, tx, pl, nb, hS, hO, hM, hC, ⟨hs, hL⟩, hX⟩ := hW
  have K := K_rand hS hO hM hC hs hL hX (show 3489 < fu by omega) (xs (i + 1)) (xs (i + 2)) (xs (i + 3)) (xs (i + 4))
  simp only [lc_9, xs_1 hi hM2, xs_2 hi hM2, xs_3 hi hM2, xs_4 hi hM2, Option.bind_some]
  exact K_lc (G := fun g => f_X6_addRandomRain fu g (B + 113) (xs (i + 1)) (xs (i + 2)) (xs (i + 3)) (xs (i + 4))) K
theorem W_10 (hW : World B h c) (hf : 600010 < fu) (hc : c < 1000) (hi : i + 5 ≤ M) (hM2 : M ≤ 2560) : ∃ h2, lc_10 fu M xs B (B + 113) (B + 119) (nI i) h = some h2 ∧ World B h2 (c + 1) := by
  obtain ⟨s, L, k, n, N, D, cap, flo, top, eva, lim, rul, lev, dry, lo, rf, us, od, ra, ac, ap, rfm, usm, ram, acm, sv, as, th, sd, td, sp, lf, tx, pl, nb, hS, hO, hM, hC, ⟨hs, hL⟩, hX⟩ := hW
  have K := K_rain hS hO hM hC hs hL hX (xs (i + 1))
  simp only [lc_10, xs_1 hi hM2, Option.bind_some]
  exact K_lc (G := fun g => f_X6_rain g (B + 113) (xs (i + 1))) K
theorem W_11 (hW : World B h c) (hf : 600010 < fu) (hc : c < 1000) (hi : i + 5 ≤ M) (hM2 : M ≤ 2560) : ∃ h2, lc_11 fu M xs B (B + 113) (B + 119) (nI i) h = some h2 ∧ World B h2 (c + 1) := by
  obtain ⟨s, L, k, n, N, D, cap, flo, top, eva, lim, rul, lev, dry, lo, rf, us, od, ra, ac, ap, rfm, usm, ram, acm, sv, as, th, sd, td, sp, lf, tx, pl, nb, hS, hO, hM, hC, ⟨hs, hL⟩, hX⟩ := hW
  have K := K_run hS hO hM hC hs hL hX hf (xs (i + 1))
  simp only [lc_11, xs_1 hi hM2, Option.bind_some]
  exact K_lc (G := fun g => f_X6_run fu g (B + 113) (xs (i + 1))) K
theorem W_12 (hW : World B h c) (hf : 600010 < fu) (hc : c < 1000) (hi : i + 5 ≤ M) (hM2 : M ≤ 2560) : ∃ h2, lc_12 fu M xs B (B + 113) (B + 119) (nI i) h = some h2 ∧ World B h2 (c + 1) := by
  obtain ⟨s, L, k, n, N, D, cap, flo, top, eva, lim, rul, lev, dry, lo, rf, us, od, ra, ac, ap, rfm, usm, ram, acm, sv, as, th, sd, td, sp, lf, tx, pl, nb, hS, hO, hM, hC, ⟨hs, hL⟩, hX⟩ := hW
  have K := K_restart hS hO hM hC hs hL hX (show 3489 < fu by omega)
  unfold lc_12
  rw [rt_is hO.1, Option.bind_some]
  exact KV_lc (G := fun g => f_X6_restart fu g (B + 113)) K
theorem W_13 (hW : World B h c) (hf : 600010 < fu) (hc : c < 1000) (hi : i + 5 ≤ M) (hM2 : M ≤ 2560) : ∃ h2, lc_13 fu M xs B (B + 113) (B + 119) (nI i) h = some h2 ∧ World B h2 (c + 1) := by
  obtain ⟨s, L, k, n, N, D, cap, flo, top, eva, lim, rul, lev, dry, lo, rf, us, od, ra, ac, ap, rfm, usm, ram, acm, sv, as, th, sd, td, sp, lf, tx, pl, nb, hS, hO, hM, hC, ⟨hs, hL⟩, hX⟩ := hW
  have K := K_day hS hO hM hC hs hL hX (xs (i + 1)) (xs (i + 2))
  simp only [lc_13, xs_1 hi hM2, xs_2 hi hM2, Option.bind_some]
  exact K_lc (G := fun g => f_X6_day g (B + 113) (xs (i + 1)) (xs (i + 2))) K
theorem W_14 (hW : World B h c) (hf : 600010 < fu) (hc : c < 1000) (hi : i + 5 ≤ M) (hM2 : M ≤ 2560) : ∃ h2, lc_14 fu M xs B (B + 113) (B + 119) (nI i) h = some h2 ∧ World B h2 (c + 1) := by
  obtain ⟨s, L, k, n, N, D, cap, flo, top, eva, lim, rul, lev, dry, lo, rf, us, od, ra, ac, ap, rfm, usm, ram, acm, sv, as, th, sd, td, sp, lf, tx, pl, nb, hS, hO, hM, hC, ⟨hs, hL⟩, hX⟩ := hW
  have K := K_sum hS hO hM hC hs hL hX (show 101 < fu by omega) (xs (i + 1))
  simp only [lc_14, xs_1 hi hM2, Option.bind_some]
  exact K_lc (G := fun g => f_X6_sum fu g (B + 113) (xs (i + 1))) K
theorem W_15 (hW : World B h c) (hf : 600010 < fu) (hc : c < 1000) (hi : i + 5 ≤ M) (hM2 : M ≤ 2560) : ∃ h2, lc_15 fu M xs B (B + 113) (B + 119) (nI i) h = some h2 ∧ World B h2 (c + 1) := by
  obtain ⟨s, L, k, n, N, D, cap, flo, top, eva, lim, rul, lev, dry, lo, rf, us, od, ra, ac, ap, rfm, usm, ram, acm, sv, as, th, sd, td, sp, lf, tx, pl, nb, hS, hO, hM, hC, ⟨hs, hL⟩, hX⟩ := hW
  have K := K_rel hS hO hM hC hs hL hX (show 101 < fu by omega)
  obtain ⟨v, h1, e1, e2, e3, e4⟩ := K
  refine ⟨h1, ?_, e4⟩
  unfold lc_15
  rw [rt_is hO.1, Option.bind_some, e1, obind1_some, e2, Option.bind_some, e3, obind2_some]
  simp only [oletk]
  by_cases c1 : (Op.cmpValue (FP.dcmp v v) .l) = (0 : Int32)
  · rw [if_pos c1]
  · rw [if_neg c1, if_neg c1, if_neg c1]
theorem W_16 (hW : World B h c) (hf : 600010 < fu) (hc : c < 1000) (hi : i + 5 ≤ M) (hM2 : M ≤ 2560) : ∃ h2, lc_16 fu M xs B (B + 113) (B + 119) (nI i) h = some h2 ∧ World B h2 (c + 1) := by
  obtain ⟨s, L, k, n, N, D, cap, flo, top, eva, lim, rul, lev, dry, lo, rf, us, od, ra, ac, ap, rfm, usm, ram, acm, sv, as, th, sd, td, sp, lf, tx, pl, nb, hS, hO, hM, hC, ⟨hs, hL⟩, hX⟩ := hW
  have K := K_longest hS hO hM hC hs hL hX (show 101 < fu by omega)
  obtain ⟨v, h1, e1, e2, e3, e4⟩ := K
  refine ⟨h1, ?_, e4⟩
  unfold lc_16
  rw [rt_is hO.1, Option.bind_some, e1, obind1_some, e2, Option.bind_some, e3, obind2_some]
  rw [if_pos rfl]
theorem W_17 (hW : World B h c) (hf : 600010 < fu) (hc : c < 1000) (hi : i + 5 ≤ M) (hM2 : M ≤ 2560) : ∃ h2, lc_17 fu M xs B (B + 113) (B + 119) (nI i) h = some h2 ∧ World B h2 (c + 1) := by
  obtain ⟨s, L, k, n, N, D, cap, flo, top, eva, lim, rul, lev, dry, lo, rf, us, od, ra, ac, ap, rfm, usm, ram, acm, sv, as, th, sd, td, sp, lf, tx, pl, nb, hS, hO, hM, hC, ⟨hs, hL⟩, hX⟩ := hW
  have K := K_sdw hS hO hM hC hs hL hX hf (xs (i + 1))
  simp only [lc_17, xs_1 hi hM2, Option.bind_some]
  exact K_lc (G := fun g => f_X6_shortDaysWith fu g (B + 113) (xs (i + 1))) K
theorem W_18 (hW : World B h c) (hf : 600010 < fu) (hc : c < 1000) (hi : i + 5 ≤ M) (hM2 : M ≤ 2560) : ∃ h2, lc_18 fu M xs B (B + 113) (B + 119) (nI i) h = some h2 ∧ World B h2 (c + 1) := by
  obtain ⟨s, L, k, n, N, D, cap, flo, top, eva, lim, rul, lev, dry, lo, rf, us, od, ra, ac, ap, rfm, usm, ram, acm, sv, as, th, sd, td, sp, lf, tx, pl, nb, hS, hO, hM, hC, ⟨hs, hL⟩, hX⟩ := hW
  have K := K_cap hS hO hM hC hs hL hX hf (xs (i + 1))
  simp only [lc_18, xs_1 hi hM2, Option.bind_some]
  exact K_lc (G := fun g => f_X6_capacityFor fu g (B + 113) (xs (i + 1))) K
theorem W_19 (hW : World B h c) (hf : 600010 < fu) (hc : c < 1000) (hi : i + 5 ≤ M) (hM2 : M ≤ 2560) : ∃ h2, lc_19 fu M xs B (B + 113) (B + 119) (nI i) h = some h2 ∧ World B h2 (c + 1) := by
  obtain ⟨s, L, k, n, N, D, cap, flo, top, eva, lim, rul, lev, dry, lo, rf, us, od, ra, ac, ap, rfm, usm, ram, acm, sv, as, th, sd, td, sp, lf, tx, pl, nb, hS, hO, hM, hC, ⟨hs, hL⟩, hX⟩ := hW
  have K := K_best hS hO hM hC hs hL hX hf
  unfold lc_19
  rw [rt_is hO.1, Option.bind_some]
  exact KV_lc (G := fun g => f_X6_bestRule fu g (B + 113)) K
theorem W_20 (hW : World B h c) (hf : 600010 < fu) (hc : c < 1000) (hi : i + 5 ≤ M) (hM2 : M ≤ 2560) : ∃ h2, lc_20 fu M xs B (B + 113) (B + 119) (nI i) h = some h2 ∧ World B h2 (c + 1) := by
  obtain ⟨s, L, k, n, N, D, cap, flo, top, eva, lim, rul, lev, dry, lo, rf, us, od, ra, ac, ap, rfm, usm, ram, acm, sv, as, th, sd, td, sp, lf, tx, pl, nb, hS, hO, hM, hC, ⟨hs, hL⟩, hX⟩ := hW
  have K := K_sust hS hO hM hC hs hL hX hf
  unfold lc_20
  rw [rt_is hO.1, Option.bind_some]
  exact KV_lc (G := fun g => f_X6_sustainable fu g (B + 113)) K
theorem W_21 (hW : World B h c) (hf : 600010 < fu) (hc : c < 1000) (hi : i + 5 ≤ M) (hM2 : M ≤ 2560) : ∃ h2, lc_21 fu M xs B (B + 113) (B + 119) (nI i) h = some h2 ∧ World B h2 (c + 1) := by
  obtain ⟨s, L, k, n, N, D, cap, flo, top, eva, lim, rul, lev, dry, lo, rf, us, od, ra, ac, ap, rfm, usm, ram, acm, sv, as, th, sd, td, sp, lf, tx, pl, nb, hS, hO, hM, hC, ⟨hs, hL⟩, hX⟩ := hW
  have K := K_gutter hS hO hM hC hs hL hX hf (xs (i + 1))
  simp only [lc_21, xs_1 hi hM2, Option.bind_some]
  exact K_lc (G := fun g => f_X6_gutterLoss fu g (B + 113) (xs (i + 1))) K
theorem W_22 (hW : World B h c) (hf : 600010 < fu) (hc : c < 1000) (hi : i + 5 ≤ M) (hM2 : M ≤ 2560) : ∃ h2, lc_22 fu M xs B (B + 113) (B + 119) (nI i) h = some h2 ∧ World B h2 (c + 1) := by
  obtain ⟨s, L, k, n, N, D, cap, flo, top, eva, lim, rul, lev, dry, lo, rf, us, od, ra, ac, ap, rfm, usm, ram, acm, sv, as, th, sd, td, sp, lf, tx, pl, nb, hS, hO, hM, hC, ⟨hs, hL⟩, hX⟩ := hW
  have K := K_append hS hO hM hC hs hL hX (xs (i + 1))
  simp only [lc_22, xs_1 hi hM2, Option.bind_some]
  exact K_lc (G := fun g => f_X6_append g (B + 113) (xs (i + 1))) K
theorem W_23 (hW : World B h c) (hf : 600010 < fu) (hc : c < 1000) (hi : i + 5 ≤ M) (hM2 : M ≤ 2560) : ∃ h2, lc_23 fu M xs B (B + 113) (B + 119) (nI i) h = some h2 ∧ World B h2 (c + 1) := by
  obtain ⟨s, L, k, n, N, D, cap, flo, top, eva, lim, rul, lev, dry, lo, rf, us, od, ra, ac, ap, rfm, usm, ram, acm, sv, as, th, sd, td, sp, lf, tx, pl, nb, hS, hO, hM, hC, ⟨hs, hL⟩, hX⟩ := hW
  have K := K_clearText hS hO hM hC hs hL hX
  unfold lc_23
  rw [rt_is hO.1, Option.bind_some]
  exact KV_lc (G := fun g => f_X6_clearText g (B + 113)) K
theorem W_24 (hW : World B h c) (hf : 600010 < fu) (hc : c < 1000) (hi : i + 5 ≤ M) (hM2 : M ≤ 2560) : ∃ h2, lc_24 fu M xs B (B + 113) (B + 119) (nI i) h = some h2 ∧ World B h2 (c + 1) := by
  obtain ⟨s, L, k, n, N, D, cap, flo, top, eva, lim, rul, lev, dry, lo, rf, us, od, ra, ac, ap, rfm, usm, ram, acm, sv, as, th, sd, td, sp, lf, tx, pl, nb, hS, hO, hM, hC, ⟨hs, hL⟩, hX⟩ := hW
  have K := K_parse hS hO hM hC hs hL hX (show 3489 < fu by omega)
  unfold lc_24
  rw [rt_is hO.1, Option.bind_some]
  exact KV_lc (G := fun g => f_X6_parse fu g (B + 113)) K
theorem W_25 (hW : World B h c) (hf : 600010 < fu) (hc : c < 1000) (hi : i + 5 ≤ M) (hM2 : M ≤ 2560) : ∃ h2, lc_25 fu M xs B (B + 113) (B + 119) (nI i) h = some h2 ∧ World B h2 (c + 1) := by
  obtain ⟨s, L, k, n, N, D, cap, flo, top, eva, lim, rul, lev, dry, lo, rf, us, od, ra, ac, ap, rfm, usm, ram, acm, sv, as, th, sd, td, sp, lf, tx, pl, nb, hS, hO, hM, hC, ⟨hs, hL⟩, hX⟩ := hW
  have K := K_undo hS hO hM hC hs hL hX (show 1163 < fu by omega)
  unfold lc_25
  exact K_lc (G := fun g => f_X6_undo fu g (B + 113)) K
theorem W_26 (hW : World B h c) (hf : 600010 < fu) (hc : c < 1000) (hi : i + 5 ≤ M) (hM2 : M ≤ 2560) : ∃ h2, lc_26 fu M xs B (B + 113) (B + 119) (nI i) h = some h2 ∧ World B h2 (c + 1) := by
  obtain ⟨s, L, k, n, N, D, cap, flo, top, eva, lim, rul, lev, dry, lo, rf, us, od, ra, ac, ap, rfm, usm, ram, acm, sv, as, th, sd, td, sp, lf, tx, pl, nb, hS, hO, hM, hC, ⟨hs, hL⟩, hX⟩ := hW
  have K := K_digest hS hO hM hC hs hL hX (show 1163 < fu by omega)
  obtain ⟨v, h1, e1, e2, e3, e4⟩ := K
  refine ⟨h1, ?_, e4⟩
  unfold lc_26
  rw [rt_is hO.1, Option.bind_some, e1, obind1_some, e2, Option.bind_some, e3, obind2_some]
  rw [if_pos rfl]
theorem W_c (hW : World B h c) : World B h (c + 1) := by
  obtain ⟨s, L, k, n, N, D, cap, flo, top, eva, lim, rul, lev, dry, lo, rf, us, od, ra, ac, ap, rfm, usm, ram, acm, sv, as, th, sd, td, sp, lf, tx, pl, nb, hS, hO, hM, hC, ⟨hs, hL⟩, hX⟩ := hW
  exact W_mk hS (Ot_c hO) hM (CT_c hC) hs hL hX
theorem W_step (hW : World B h c) (hf : 600010 < fu) (hc : c < 1000) (hi : i + 5 ≤ M) (hM2 : M ≤ 2560) : ∃ h2, lstep fu M xs B (B + 113) (B + 119) (nI i) h = some h2 ∧ World B h2 (c + 1) := by
  unfold lstep
  rw [xs_0 hi hM2, Option.bind_some]
  by_cases c0 : (xs i &&& (31 : Int32)) = (0 : Int32)
  · rw [if_pos c0]; exact W_0 hW hf hc hi hM2
  rw [if_neg c0]
  by_cases c1 : (xs i &&& (31 : Int32)) = (1 : Int32)
  · rw [if_pos c1]; exact W_1 hW hf hc hi hM2
  rw [if_neg c1]
  by_cases c2 : (xs i &&& (31 : Int32)) = (2 : Int32)
  · rw [if_pos c2]; exact W_2 hW hf hc hi hM2
  rw [if_neg c2]
  by_cases c3 : (xs i &&& (31 : Int32)) = (3 : Int32)
  · rw [if_pos c3]; exact W_3 hW hf hc hi hM2
  rw [if_neg c3]
  by_cases c4 : (xs i &&& (31 : Int32)) = (4 : Int32)
  · rw [if_pos c4]; exact W_4 hW hf hc hi hM2
  rw [if_neg c4]
  by_cases c5 : (xs i &&& (31 : Int32)) = (5 : Int32)
  · rw [if_pos c5]; exact W_5 hW hf hc hi hM2
  rw [if_neg c5]
  by_cases c6 : (xs i &&& (31 : Int32)) = (6 : Int32)
  · rw [if_pos c6]; exact W_6 hW hf hc hi hM2
  rw [if_neg c6]
  by_cases c7 : (xs i &&& (31 : Int32)) = (7 : Int32)
  · rw [if_pos c7]; exact W_7 hW hf hc hi hM2
  rw [if_neg c7]
  by_cases c8 : (xs i &&& (31 : Int32)) = (8 : Int32)
  · rw [if_pos c8]; exact W_8 hW hf hc hi hM2
  rw [if_neg c8]
  by_cases c9 : (xs i &&& (31 : Int32)) = (9 : Int32)
  · rw [if_pos c9]; exact W_9 hW hf hc hi hM2
  rw [if_neg c9]
  by_cases c10 : (xs i &&& (31 : Int32)) = (10 : Int32)
  · rw [if_pos c10]; exact W_10 hW hf hc hi hM2
  rw [if_neg c10]
  by_cases c11 : (xs i &&& (31 : Int32)) = (11 : Int32)
  · rw [if_pos c11]; exact W_11 hW hf hc hi hM2
  rw [if_neg c11]
  by_cases c12 : (xs i &&& (31 : Int32)) = (12 : Int32)
  · rw [if_pos c12]; exact W_12 hW hf hc hi hM2
  rw [if_neg c12]
  by_cases c13 : (xs i &&& (31 : Int32)) = (13 : Int32)
  · rw [if_pos c13]; exact W_13 hW hf hc hi hM2
  rw [if_neg c13]
  by_cases c14 : (xs i &&& (31 : Int32)) = (14 : Int32)
  · rw [if_pos c14]; exact W_14 hW hf hc hi hM2
  rw [if_neg c14]
  by_cases c15 : (xs i &&& (31 : Int32)) = (15 : Int32)
  · rw [if_pos c15]; exact W_15 hW hf hc hi hM2
  rw [if_neg c15]
  by_cases c16 : (xs i &&& (31 : Int32)) = (16 : Int32)
  · rw [if_pos c16]; exact W_16 hW hf hc hi hM2
  rw [if_neg c16]
  by_cases c17 : (xs i &&& (31 : Int32)) = (17 : Int32)
  · rw [if_pos c17]; exact W_17 hW hf hc hi hM2
  rw [if_neg c17]
  by_cases c18 : (xs i &&& (31 : Int32)) = (18 : Int32)
  · rw [if_pos c18]; exact W_18 hW hf hc hi hM2
  rw [if_neg c18]
  by_cases c19 : (xs i &&& (31 : Int32)) = (19 : Int32)
  · rw [if_pos c19]; exact W_19 hW hf hc hi hM2
  rw [if_neg c19]
  by_cases c20 : (xs i &&& (31 : Int32)) = (20 : Int32)
  · rw [if_pos c20]; exact W_20 hW hf hc hi hM2
  rw [if_neg c20]
  by_cases c21 : (xs i &&& (31 : Int32)) = (21 : Int32)
  · rw [if_pos c21]; exact W_21 hW hf hc hi hM2
  rw [if_neg c21]
  by_cases c22 : (xs i &&& (31 : Int32)) = (22 : Int32)
  · rw [if_pos c22]; exact W_22 hW hf hc hi hM2
  rw [if_neg c22]
  by_cases c23 : (xs i &&& (31 : Int32)) = (23 : Int32)
  · rw [if_pos c23]; exact W_23 hW hf hc hi hM2
  rw [if_neg c23]
  by_cases c24 : (xs i &&& (31 : Int32)) = (24 : Int32)
  · rw [if_pos c24]; exact W_24 hW hf hc hi hM2
  rw [if_neg c24]
  by_cases c25 : (xs i &&& (31 : Int32)) = (25 : Int32)
  · rw [if_pos c25]; exact W_25 hW hf hc hi hM2
  rw [if_neg c25]
  by_cases c26 : (xs i &&& (31 : Int32)) = (26 : Int32)
  · rw [if_pos c26]; exact W_26 hW hf hc hi hM2
  rw [if_neg c26]
  exact ⟨h, rfl, W_c hW⟩
end PV
theorem W_loop {fu M B : Nat} {xs : Nat → Int32} (hf : 600010 < fu) (hM2 : M ≤ 2560) : ∀ (n i c : Nat) (h : XH), World B h c → c + n < 1000 → i ≤ M → M + 5 ≤ i + 5 * n → f_lawloop fu M xs B (B + 113) (B + 119) n (nI i) h = some () := by
  intro n
  induction n with
  | zero => intro i c h _ _ h1 h2; omega
  | succ n ih =>
    intro i c h hW hc h1 h2
    unfold f_lawloop
    by_cases e : Int32.ofNat M - (5 : Int32) < nI i
    · rw [if_pos e]
    · have hi := xnI5 hM2 (show i ≤ 2560 by omega) e
      obtain ⟨h3, e1, W3⟩ := W_step (xs := xs) hW hf (show c < 1000 by omega) hi hM2
      rw [if_neg e, e1, Option.bind_some, xnI_add5]
      exact ih (i + 5) (c + 1) h3 W3 (by omega) (by omega) (by omega)
