/-! What-if questions of an object by itself. -/
section PW41
variable {B s L c k n N D : Nat} {h : XH} {cap flo top eva lim rul lev dry : Int32} {lo : Int64} {rf us : UT} {od ra ac : Nat → Int32} {ap : Int32} {sv tx : Nat → Int32} {fu : Nat}
theorem c_sdw (hS : St (B + 1) h cap flo top eva lim rul (nI k) (nI n) (nI N) (nI D) lev dry lo rf us od ra ac) (hO : Ot B h s sv c L tx) (hC : CO c k n N D cap flo top eva lev lo ap rf us ra ac) (hs : s ≤ 4) (hf : 600010 < fu) {p : Int32} (g : inR p 100 60000) :
    ∃ (h2 : XH) (rf2 : UT), f_X5_shortDaysWith fu h B p = some (.inl ((t_S p (xmin flo p) (xmin top p) eva rul n (t_inf k lim ra (g_rf k rf2)) (u_clr n us) N).2.2, h2)) ∧ R5 k rf rf2 ∧ St (B + 1) h2 cap flo top eva lim rul (nI k) (nI n) (nI N) (nI D) lev dry lo rf us od ra ac ∧ Ot B h2 s sv c L tx ∧ ∀ q, ¬ (B ≤ q ∧ q < B + 113) → h2 q = h q := by
  obtain ⟨h1, rf2, eP, T1, q1, q2, q3, -⟩ := w_prepQ hO hS hC (show 101 < fu by omega)
  obtain ⟨cnt, hA, h2, eA, eB, eC, eT, T2, c2⟩ := w_tried (fu := fu) T1 hS hO hC.1.2.1 hC.1.2.2.1 hC.2.2.2.1 (okd_U4 hC.2.2.1.2.1 hC.2.2.2.2.2.2.1) (inf_rng hC q1) (by omega) g 100
  obtain ⟨S2, O2, F2⟩ := TQ_ok T2 hS hO
  have R1 : Rt B h1 s := (TQ_ok T1 hS hO).2.1.1
  have ec : cnt = (t_S p (xmin flo p) (xmin top p) eva rul n (t_inf k lim ra (g_rf k rf2)) (u_clr n us) N).2.2 := by
    rcases c2 with c2 | ⟨-, c2⟩
    · exact c2
    · have := t_S_cnt (cap := p) (flo := xmin flo p) (top := xmin top p) (eva := eva) (rul := rul) (n := n) (inf := t_inf k lim ra (g_rf k rf2)) (us0 := u_clr n us) N (by have := hC.1.2.2.1; omega)
      rw [ti_lt] at c2
      have z1 : (100 : Int32).toInt = 100 := rfl
      have := hC.1.2.2.1
      omega
  have e : f_X5_shortDaysWith fu h B p = some (.inl (cnt, h2)) := by
    simp only [f_X5_shortDaysWith, cr_y g, oexc_inl, rt_is hO.1, Option.bind_some, eP, obind1_some, rt_is R1, eA, eB, eC, eT, obind2_some, olift_some]
  rw [ec] at e
  exact ⟨h2, rf2, e, q1, S2, O2, F2⟩
theorem c_gutter (hS : St (B + 1) h cap flo top eva lim rul (nI k) (nI n) (nI N) (nI D) lev dry lo rf us od ra ac) (hO : Ot B h s sv c L tx) (hC : CO c k n N D cap flo top eva lev lo ap rf us ra ac) (hs : s ≤ 4) (hf : 600010 < fu) {i : Nat} (hi : i < k) :
    ∃ (h1 : XH) (rf2 : UT), f_X5_gutterLoss fu h B (nI i) = some (.inl (Int32.toInt64 ((t_C k lim ra (g_rf k rf2) N).2 i 5), h1)) ∧ R5 k rf rf2 ∧ St (B + 1) h1 cap flo top eva lim rul (nI k) (nI n) (nI N) (nI D) lev dry lo rf us od ra ac ∧ Ot B h1 s sv c L tx ∧ ∀ q, ¬ (B ≤ q ∧ q < B + 113) → h1 q = h q := by
  have hk := hC.1.1
  have e1 : f_X5_checkIndex (nI i) (nI k) = some (.inl ()) := ci_y (by omega) (by rw [xnI_toInt (by omega)]; omega)
  obtain ⟨h1, rf2, eP, T1, q1, q2, q3, q4⟩ := w_prepQ hO hS hC (show 101 < fu by omega)
  obtain ⟨S2, O2, F2⟩ := TQ_ok T1 hS hO
  obtain ⟨a1, a2, a3, a4⟩ := q4 i hi
  have e : f_X5_gutterLoss fu h B (nI i) = some (.inl (Int32.toInt64 ((t_C k lim ra (g_rf k rf2) N).2 i 5), h1)) := by
    simp only [f_X5_gutterLoss, rt_0 hO.1, Option.bind_some, st_rc hS, e1, oexc_inl, rt_is hO.1, eP, obind1_some, a1, a2, a3, a4, olift_some]
  exact ⟨h1, rf2, e, q1, S2, O2, F2⟩
theorem c_cap (hS : St (B + 1) h cap flo top eva lim rul (nI k) (nI n) (nI N) (nI D) lev dry lo rf us od ra ac) (hO : Ot B h s sv c L tx) (hC : CO c k n N D cap flo top eva lev lo ap rf us ra ac) (hs : s ≤ 4) (hf : 600010 < fu) {p : Int32} (g : inR p 0 100) :
    ∃ (h2 : XH) (rf2 : UT) (i : Nat), f_X5_capacityFor fu h B p = some (.inl (if i < 120 then nI (500 * (i + 1)) else -1, h2)) ∧ R5 k rf rf2 ∧ i ≤ 120 ∧ (i < 120 → (t_S (nI (500 * (i + 1))) (xmin flo (nI (500 * (i + 1)))) (xmin top (nI (500 * (i + 1)))) eva rul n (t_inf k lim ra (g_rf k rf2)) (u_clr n us) N).2.2 ≤ p) ∧ (∀ j, j < i → ¬ (t_S (nI (500 * (j + 1))) (xmin flo (nI (500 * (j + 1)))) (xmin top (nI (500 * (j + 1)))) eva rul n (t_inf k lim ra (g_rf k rf2)) (u_clr n us) N).2.2 ≤ p) ∧ St (B + 1) h2 cap flo top eva lim rul (nI k) (nI n) (nI N) (nI D) lev dry lo rf us od ra ac ∧ Ot B h2 s sv c L tx ∧ ∀ q, ¬ (B ≤ q ∧ q < B + 113) → h2 q = h q := by
  obtain ⟨h1, rf2, eP, T1, q1, q2, q3, -⟩ := w_prepQ hO hS hC (show 101 < fu by omega)
  have key := xloop_P (body := xf2 fun (v3 : Int32) (h2 : XH) => if (60000 : Int32) < v3 then some (.inr (.inl h2)) else (xis h2 B 5).bind fun _ => obind1 (f_X5_setTrialCapacity h2 B v3) fun h4 => (xgR h4 B 5 1).bind fun v5 => (xis h4 v5 2).bind fun _ => obind2 (f_X2_serveAll fu h4 v5 p) fun v7 h5 => if p < v7 then olet (v3 + (500 : Int32)) fun v8 => some (.inl (v8, h5)) else some (.inr (.inr (v3, h5))))
    (s0 := ((500 : Int32), h1)) (fu := fu)
    (fun i st => ∃ (h2 : XH) (cap1 flo1 top1 : Int32), st = (nI (500 * (i + 1)), h2) ∧ TQ B h h2 k n N eva lim rul (t_inf k lim ra (g_rf k rf2)) us cap1 flo1 top1 ∧ ∀ j, j < i → ¬ (t_S (nI (500 * (j + 1))) (xmin flo (nI (500 * (j + 1)))) (xmin top (nI (500 * (j + 1)))) eva rul n (t_inf k lim ra (g_rf k rf2)) (u_clr n us) N).2.2 ≤ p)
    (fun (r : XH ⊕ (Int32 × XH)) => ∃ (i : Nat) (h2 : XH) (cap1 flo1 top1 : Int32), r = (if i < 120 then .inr (nI (500 * (i + 1)), h2) else .inl h2) ∧ TQ B h h2 k n N eva lim rul (t_inf k lim ra (g_rf k rf2)) us cap1 flo1 top1 ∧ i ≤ 120 ∧ (i < 120 → (t_S (nI (500 * (i + 1))) (xmin flo (nI (500 * (i + 1)))) (xmin top (nI (500 * (i + 1)))) eva rul n (t_inf k lim ra (g_rf k rf2)) (u_clr n us) N).2.2 ≤ p) ∧
      ∀ j, j < i → ¬ (t_S (nI (500 * (j + 1))) (xmin flo (nI (500 * (j + 1)))) (xmin top (nI (500 * (j + 1)))) eva rul n (t_inf k lim ra (g_rf k rf2)) (u_clr n us) N).2.2 ≤ p)
    120 ⟨h1, cap, flo, top, rfl, T1, fun j hj => absurd hj (Nat.not_lt_zero _)⟩ ?ks ?ke (by omega)
  · obtain ⟨r, eR, i, h2, cap1, flo1, top1, rfl, T2, k1, k2, k3⟩ := key
    obtain ⟨S2, O2, F2⟩ := TQ_ok T2 hS hO
    have e : f_X5_capacityFor fu h B p = some (.inl (if i < 120 then nI (500 * (i + 1)) else -1, h2)) := by
      simp only [f_X5_capacityFor, cr_y g, oexc_inl, rt_is hO.1, Option.bind_some, eP, obind1_some, eR]
      by_cases ci : i < 120
      · simp only [if_pos ci, oret1]; rfl
      · simp only [if_neg ci, oret1]; rfl
    exact ⟨h2, rf2, i, e, q1, k1, k2, k3, S2, O2, F2⟩
  case ks =>
    rintro i st hi ⟨h2, cap1, flo1, top1, rfl, T2, p1⟩
    obtain ⟨cnt, hA, h3, eA, eB, eC, eT, T3, c3⟩ := w_tried (fu := fu) T2 hS hO hC.1.2.1 hC.1.2.2.1 hC.2.2.2.1 (okd_U4 hC.2.2.1.2.1 hC.2.2.2.2.2.2.1) (inf_rng hC q1) (by omega) (cap_rng hi) p
    have R2 : Rt B h2 s := (TQ_ok T2 hS hO).2.1.1
    have ec : p < cnt ↔ ¬ (t_S (nI (500 * (i + 1))) (xmin flo (nI (500 * (i + 1)))) (xmin top (nI (500 * (i + 1)))) eva rul n (t_inf k lim ra (g_rf k rf2)) (u_clr n us) N).2.2 ≤ p := by
      rcases c3 with c3 | ⟨c3, c4⟩
      · rw [c3, ti_lt, ti_le]; omega
      · exact ⟨fun _ => by rw [ti_lt] at c4; rw [ti_le]; omega, fun _ => c3⟩
    by_cases cs : (t_S (nI (500 * (i + 1))) (xmin flo (nI (500 * (i + 1)))) (xmin top (nI (500 * (i + 1)))) eva rul n (t_inf k lim ra (g_rf k rf2)) (u_clr n us) N).2.2 ≤ p
    · right
      refine ⟨.inr (nI (500 * (i + 1)), h3), ?_, i, h3, _, _, _, (if_pos hi).symm, T3, by omega, fun _ => cs, p1⟩
      simp only [xf2, if_neg (cap_le hi), rt_is R2, Option.bind_some, eA, obind1_some, eB, eC, eT, obind2_some, if_neg (fun f => ec.mp f cs)]
    · left
      refine ⟨(nI (500 * (i + 1 + 1)), h3), ?_, h3, _, _, _, rfl, T3, fun j hj => ?_⟩
      · simp only [xf2, if_neg (cap_le hi), rt_is R2, Option.bind_some, eA, obind1_some, eB, eC, eT, obind2_some, if_pos (ec.mpr cs), olet, cap_s]
      · by_cases cj : j = i
        · subst cj; exact cs
        · exact p1 j (by omega)
  case ke =>
    rintro st ⟨h2, cap1, flo1, top1, rfl, T2, p1⟩
    refine ⟨.inl h2, ?_, 120, h2, _, _, _, rfl, T2, Nat.le_refl _, fun h => absurd h (by omega), p1⟩
    simp only [xf2]
    rw [if_pos (show (60000 : Int32) < nI (500 * (120 + 1)) by decide)]
theorem c_best (hS : St (B + 1) h cap flo top eva lim rul (nI k) (nI n) (nI N) (nI D) lev dry lo rf us od ra ac) (hO : Ot B h s sv c L tx) (hC : CO c k n N D cap flo top eva lev lo ap rf us ra ac) (hs : s ≤ 4) (hf : 600010 < fu) :
    ∃ (h2 : XH) (rf2 : UT), f_X5_bestRule fu h B = some ((bst (LK cap flo top eva n N (t_inf k lim ra (g_rf k rf2)) us) 4).1, h2) ∧ R5 k rf rf2 ∧ St (B + 1) h2 cap flo top eva lim rul (nI k) (nI n) (nI N) (nI D) lev dry lo rf us od ra ac ∧ Ot B h2 s sv c L tx ∧ ∀ q, ¬ (B ≤ q ∧ q < B + 113) → h2 q = h q := by
  have hn := hC.1.2.1
  have hN := hC.1.2.2.1
  obtain ⟨h1, rf2, eP, T1, q1, q2, q3, -⟩ := w_prepQ hO hS hC (show 101 < fu by omega)
  obtain ⟨F, hF⟩ : ∃ F, F = LK cap flo top eva n N (t_inf k lim ra (g_rf k rf2)) us := ⟨_, rfl⟩
  have key := xloop_P (body := xf4 fun (v2 : Int32) (v3 : Int32) (v4 : Int32) (h2 : XH) => if (4 : Int32) ≤ v4 then some (.inr (v2, h2)) else (xgR h2 B 5 1).bind fun v6 => (xpV h2 v6 2 5 (.int v4)).bind fun h4 => (xgR h4 B 5 1).bind fun v7 => (xis h4 v7 2).bind fun v8 => obind2 (f_X2_serveAll fu h4 v7 (100 : Int32)) fun v9 h5 => (xgR h5 B 5 1).bind fun v10 => (xgR h5 v10 2 8).bind fun v11 => (xgR h5 B 5 1).bind fun v12 => (xgI h5 v12 2 10).bind fun v13 => (xis h5 v11 4).bind fun v14 =>
      obind1 (f_X4_greatestLack fu h5 v11 v13) fun v15 => obind2 (oletk (some (v4, v15)) fun k3 => if v4 = (0 : Int32) then k3 else if v3 ≤ v15 then some (v2, v3) else k3) fun v16 v17 => olet (v4 + (1 : Int32)) fun v18 => some (.inl (v16, v17, v18, h5)))
    (s0 := ((0 : Int32), (0 : Int32), (0 : Int32), h1)) (fu := fu)
    (fun i st => ∃ (h2 : XH) (ru : Int32), st = ((bst F i).1, (bst F i).2, nI i, h2) ∧ TQ B h h2 k n N eva lim ru (t_inf k lim ra (g_rf k rf2)) us cap flo top)
    (fun r => ∃ (h2 : XH) (ru : Int32), r = ((bst F 4).1, h2) ∧ TQ B h h2 k n N eva lim ru (t_inf k lim ra (g_rf k rf2)) us cap flo top)
    4 ⟨h1, rul, rfl, T1⟩ ?ks ?ke (by omega)
  · obtain ⟨r, eR, h2, ru, rfl, T2⟩ := key
    obtain ⟨S2, O2, F2⟩ := TQ_ok T2 hS hO
    have e : f_X5_bestRule fu h B = some ((bst F 4).1, h2) := by
      simp only [f_X5_bestRule, rt_is hO.1, Option.bind_some, eP, obind1_some, eR, obind2_some]
    rw [hF] at e
    exact ⟨h2, rf2, e, q1, S2, O2, F2⟩
  case ks =>
    rintro i st hi ⟨h2, ru, rfl, T2⟩
    left
    have e4 : (4 : Int32) = nI 4 := rfl
    have hle : ¬ (4 : Int32) ≤ nI i := by rw [e4, xnI_le_iff (by omega) (by omega)]; omega
    have R2 : Rt B h2 s := (TQ_ok T2 hS hO).2.1.1
    obtain ⟨dn, lev1, dry1, lo1, rf1, us1, od1, ra1, ac1, s1, v1, a1, f1⟩ := T2
    have ho : u_ok n us1 := okd_ok (fun i hi => by rw [(v1 i hi).1, (v1 i hi).2]; exact okd_U4 hC.2.2.1.2.1 hC.2.2.2.2.2.2.1 i hi)
    obtain ⟨cnt, lev', us', od', ac', h3, e3, s3, f3, a3, v3, c3⟩ := w_try (fu := fu) (St_hp (b := B + 19) (W := h2) (cap := cap) (flo := flo) (top := top) (eva := eva) (lim := lim) (rul := nI i) (rc := nI k) (uc := nI n) (rn := nI N) (dn := dn) (lev := lev1) (dry := dry1) (lo := lo1) (rf := rf1) (us := us1) (od := od1) (ra := ra1) (ac := ac1)) hn hN (by omega) ho hC.2.2.2.1 (inf_rng hC q1) a1 v1 100
    have R3 : Rt B h3 s := Rt_fr ((f3 B (by omega)).trans (hp_out (by omega))) R2
    have eU : U4 n us' (t_S cap flo top eva (nI i) n (t_inf k lim ra (g_rf k rf2)) (u_clr n us) N).2.1 := by
      rcases c3 with c3 | ⟨-, c3⟩
      · exact c3.2
      · have := t_S_cnt (cap := cap) (flo := flo) (top := top) (eva := eva) (rul := nI i) (n := n) (inf := t_inf k lim ra (g_rf k rf2)) (us0 := u_clr n us) N (by omega)
        rw [ti_lt] at c3
        have z1 : (100 : Int32).toInt = 100 := rfl
        omega
    have eG : f_X4_greatestLack fu h3 (B + 19 + 8) (nI N) = some (F i) := by
      have eb : b_most us' (nI N) n = F i := by rw [b_most_eq eU, hF]; rfl
      rw [← eb, St_eq s3]
      exact p_X4_greatestLack hn (by omega) (nI N)
    refine ⟨((bst F (i + 1)).1, (bst F (i + 1)).2, nI (i + 1), h3), ?_, h3, nI i, rfl, dn, lev', dry1, lo1, rf1, us', od', ra1, ac', s3, v3, a3, fun q hq => ?_⟩
    · have em : bst F (i + 1) = if nI i = (0 : Int32) then (nI i, F i) else if (bst F i).2 ≤ F i then bst F i else (nI i, F i) := rfl
      simp only [xf4, if_neg hle, rt_1 R2, Option.bind_some]
      rw [St_eq s1]
      simp only [hs_rul, rt_1 (Rt_hp R2 (show B < B + 19 by omega)), Option.bind_some, hi_st, e3, obind2_some, rt_1 R3, st_users s3, st_rn s3, st_iu s3, eG, obind1_some, oletk, em]
      by_cases c0 : nI i = (0 : Int32)
      · simp only [if_pos c0, obind2_some, olet, xnI_s]
      · by_cases c5 : (bst F i).2 ≤ F i
        · simp only [if_neg c0, if_pos c5, obind2_some, olet, xnI_s]
        · simp only [if_neg c0, if_neg c5, obind2_some, olet, xnI_s]
    · rw [f3 q (by omega), hp_out (by omega)]; exact f1 q hq
  case ke =>
    rintro st ⟨h2, ru, rfl, T2⟩
    refine ⟨((bst F 4).1, h2), ?_, h2, ru, rfl, T2⟩
    simp only [xf4]
    rw [if_pos (show (4 : Int32) ≤ nI 4 by decide)]
theorem c_sust (hS : St (B + 1) h cap flo top eva lim rul (nI k) (nI n) (nI N) (nI D) lev dry lo rf us od ra ac) (hO : Ot B h s sv c L tx) (hC : CO c k n N D cap flo top eva lev lo ap rf us ra ac) (hs : s ≤ 4) (hf : 600010 < fu) :
    ∃ (h2 : XH) (rf2 : UT) (i : Nat), f_X5_sustainable fu h B = some (if i < 60 then nI (300 - 5 * i) else -1, h2) ∧ R5 k rf rf2 ∧ i ≤ 60 ∧ (i < 60 → SUs cap flo top eva rul n N (t_inf k lim ra (g_rf k rf2)) us (nI (300 - 5 * i)) = 0) ∧ (∀ j, j < i → ¬ SUs cap flo top eva rul n N (t_inf k lim ra (g_rf k rf2)) us (nI (300 - 5 * j)) = 0) ∧ St (B + 1) h2 cap flo top eva lim rul (nI k) (nI n) (nI N) (nI D) lev dry lo rf us od ra ac ∧ Ot B h2 s sv c L tx ∧ ∀ q, ¬ (B ≤ q ∧ q < B + 113) → h2 q = h q := by
  have hn := hC.1.2.1
  have hN := hC.1.2.2.1
  have hod := okd_U4 hC.2.2.1.2.1 hC.2.2.2.2.2.2.1
  obtain ⟨h1, rf2, eP, T1, q1, q2, q3, -⟩ := w_prepQ hO hS hC (show 101 < fu by omega)
  obtain ⟨S, hSS⟩ : ∃ S, S = SUs cap flo top eva rul n N (t_inf k lim ra (g_rf k rf2)) us := ⟨_, rfl⟩
  have key := xloop_P (body := xf2 fun (v2 : Int32) (h2 : XH) => if v2 < (5 : Int32) then some (.inr (.inl h2)) else (xgR h2 B 5 1).bind fun v3 => (xgR h2 v3 2 8).bind fun v4 => (xgR h2 B 5 0).bind fun v5 => (xgR h2 v5 2 8).bind fun v6 => (xis h2 v4 4).bind fun v7 => obind1 (f_X4_scaleDemands fu h2 v4 v6 v2) fun h4 => (xgR h4 B 5 1).bind fun v8 => (xis h4 v8 2).bind fun v9 => obind2 (f_X2_serveAll fu h4 v8 (0 : Int32)) fun v10 h5 =>
      if v10 = (0 : Int32) then some (.inr (.inr (v2, h5))) else olet (v2 + (-5 : Int32)) fun v11 => some (.inl (v11, h5)))
    (s0 := ((300 : Int32), h1)) (fu := fu)
    (fun i st => ∃ (h2 : XH) (v : UT), st = (nI (300 - 5 * i), h2) ∧ TQ B h h2 k n N eva lim rul (t_inf k lim ra (g_rf k rf2)) v cap flo top ∧ (∀ m, m < n → v m 1 = us m 1) ∧ ∀ j, j < i → ¬ S (nI (300 - 5 * j)) = 0)
    (fun (r : XH ⊕ (Int32 × XH)) => ∃ (i : Nat) (h2 : XH) (v : UT), r = (if i < 60 then .inr (nI (300 - 5 * i), h2) else .inl h2) ∧ TQ B h h2 k n N eva lim rul (t_inf k lim ra (g_rf k rf2)) v cap flo top ∧ i ≤ 60 ∧ (i < 60 → S (nI (300 - 5 * i)) = 0) ∧ ∀ j, j < i → ¬ S (nI (300 - 5 * j)) = 0)
    60 ⟨h1, us, rfl, T1, fun _ _ => rfl, fun j hj => absurd hj (Nat.not_lt_zero _)⟩ ?ks ?ke (by omega)
  · obtain ⟨r, eR, i, h2, v, rfl, T2, k1, k2, k3⟩ := key
    obtain ⟨S2, O2, F2⟩ := TQ_ok T2 hS hO
    have e : f_X5_sustainable fu h B = some (if i < 60 then nI (300 - 5 * i) else -1, h2) := by
      simp only [f_X5_sustainable, rt_is hO.1, Option.bind_some, eP, obind1_some, eR]
      by_cases ci : i < 60
      · simp only [if_pos ci, oret1]
      · simp only [if_neg ci, oret1]
    rw [hSS] at k2 k3
    exact ⟨h2, rf2, i, e, q1, k1, k2, k3, S2, O2, F2⟩
  case ks =>
    rintro i st hi ⟨h2, v, rfl, T2, p0, p1⟩
    have e5 : (5 : Int32) = nI 5 := rfl
    have hle : ¬ nI (300 - 5 * i) < (5 : Int32) := by rw [e5, xnI_lt_iff (by omega) (by omega)]; omega
    obtain ⟨S2, O2, F2⟩ := TQ_ok T2 hS hO
    have R2 : Rt B h2 s := O2.1
    obtain ⟨dn, lev1, dry1, lo1, rf1, us1, od1, ra1, ac1, s1, v1, a1, f1⟩ := T2
    have hd : (B + 19) + 18 ≤ B + 1 ∨ (B + 1) + 18 ≤ B + 19 := by omega
    have eSc : f_X4_scaleDemands fu h2 (B + 19 + 8) (B + 1 + 8) (nI (300 - 5 * i)) = some (hp (B + 19) h2 cap flo top eva lim rul (nI k) (nI n) (nI N) dn lev1 dry1 lo1 rf1 (w_sc n (nI (300 - 5 * i)) us us1) od1 ra1 ac1) := by
      have e := p_X4_scaleDemands (fu := fu) (b := B + 19) (W := h2) (cap := cap) (flo := flo) (top := top) (eva := eva) (lim := lim) (rul := rul) (rc := nI k) (rn := nI N) (dn := dn) (lev := lev1) (dry := dry1) (lo := lo1) (rf := rf1) (us := us1) (od := od1) (ra := ra1) (ac := ac1) S2 hd hn (by omega) (nI (300 - 5 * i))
      rwa [← St_eq s1] at e
    have hw : ∀ m, m < n → w_sc n (nI (300 - 5 * i)) us us1 m 0 = scu (nI (300 - 5 * i)) us m 0 ∧ w_sc n (nI (300 - 5 * i)) us us1 m 1 = scu (nI (300 - 5 * i)) us m 1 := fun m hm1 => by
      rw [w_sc_at _ _ _ hm1, hC.2.2.1.2.1 m hm1 0 (by decide)]
      exact ⟨rfl, ((v1 m hm1).2).trans (p0 m hm1)⟩
    have ho : u_ok n (w_sc n (nI (300 - 5 * i)) us us1) := fun m hm1 => by
      rw [(hw m hm1).1, (hw m hm1).2]
      exact ⟨sc_rng (hod m hm1).1 (pv_rng hi), (hod m hm1).2⟩
    obtain ⟨cnt, lev', us', od', ac', h3, e3, s3, f3, a3, v3, c3⟩ := w_try (fu := fu) (St_hp (b := B + 19) (W := h2) (cap := cap) (flo := flo) (top := top) (eva := eva) (lim := lim) (rul := rul) (rc := nI k) (uc := nI n) (rn := nI N) (dn := dn) (lev := lev1) (dry := dry1) (lo := lo1) (rf := rf1) (us := w_sc n (nI (300 - 5 * i)) us us1) (od := od1) (ra := ra1) (ac := ac1)) hn hN (by omega) ho hC.2.2.2.1 (inf_rng hC q1) a1 hw 0
    have T3 : TQ B h h3 k n N eva lim rul (t_inf k lim ra (g_rf k rf2)) (scu (nI (300 - 5 * i)) us) cap flo top := ⟨dn, lev', dry1, lo1, rf1, us', od', ra1, ac', s3, v3, a3, fun q hq => by rw [f3 q (by omega), hp_out (by omega)]; exact f1 q hq⟩
    have ec : cnt = 0 ↔ S (nI (300 - 5 * i)) = 0 := by
      have eS : S (nI (300 - 5 * i)) = (t_S cap flo top eva rul n (t_inf k lim ra (g_rf k rf2)) (u_clr n (scu (nI (300 - 5 * i)) us)) N).2.2 := by rw [hSS]; rfl
      rw [eS]
      rcases c3 with ⟨c3, -⟩ | ⟨c3, c4⟩
      · rw [c3]
      · constructor
        · intro f; rw [f, ti_lt] at c3; exact absurd c3 (by omega)
        · intro f; rw [f, ti_lt] at c4; exact absurd c4 (by omega)
    by_cases cs : S (nI (300 - 5 * i)) = 0
    · right
      refine ⟨.inr (nI (300 - 5 * i), h3), ?_, i, h3, _, (if_pos hi).symm, T3, by omega, fun _ => cs, p1⟩
      simp only [xf2, if_neg hle, rt_1 R2, rt_0 R2, Option.bind_some, st_users s1, st_users S2, st_iu s1, eSc, obind1_some, rt_1 (Rt_hp R2 (show B < B + 19 by omega)), hi_st, e3, obind2_some, if_pos (ec.mpr cs)]
    · left
      refine ⟨(nI (300 - 5 * (i + 1)), h3), ?_, h3, _, rfl, T3, fun m hm1 => rfl, fun j hj => ?_⟩
      · simp only [xf2, if_neg hle, rt_1 R2, rt_0 R2, Option.bind_some, st_users s1, st_users S2, st_iu s1, eSc, obind1_some, rt_1 (Rt_hp R2 (show B < B + 19 by omega)), hi_st, e3, obind2_some, if_neg (fun f => cs (ec.mp f)), olet, pv_s hi]
      · by_cases cj : j = i
        · subst cj; exact cs
        · exact p1 j (by omega)
  case ke =>
    rintro st ⟨h2, v, rfl, T2, p0, p1⟩
    refine ⟨.inl h2, ?_, 60, h2, v, rfl, T2, Nat.le_refl _, fun h => absurd h (by omega), p1⟩
    simp only [xf2]
    rw [if_pos (show nI (300 - 5 * 60) < (5 : Int32) by decide)]
end PW41
