/-! gutterLoss, capacityFor, both sides. -/
section PZ3
variable {B s L c k n N D : Nat} {h : XH} {cap flo top eva lim rul lev dry : Int32} {lo : Int64} {rf us : UT} {od ra ac : Nat → Int32} {ap : Int32} {rfm usm : UT} {ram acm sv as : Nat → Int32} {th : Int32} {sd : Int64} {td : Int32} {sp : Nat → Int64} {lf : Int32} {tx : Nat → Int32} {pl nb : Int32}
variable {fu : Nat}
/-- all days in the model, from a row that was laid aside, and back -/
theorem mg_all (hC : CT c k n N D cap flo top eva lev lo ap rf us rfm usm ra ac ram acm) (hf : 600010 < fu) {ru : Int32} {u : UT} (hu : u_ok n u) {rfc : UT} (hR : R5 k rfc rfm) (hr : r_ok k rfc) {z : Nat → Int32} {W : XH} :
    ∃ (h4 : XH) (td' : Int32) (sp' : Nat → Int64) (lf' : Int32), f_X6_shortDays fu (hm (B + 113) W cap flo top eva lim ru (nI k) (nI n) (nI N) (nI D) lev dry ap rfm u ram acm sv (cpn 1163 (m_al cap flo top eva lim rul (nI k) (nI n) (nI N) (nI D) lev dry ap rfm usm ram acm) z) (nI s) th sd td sp lf tx (nI L) pl nb) (B + 113) =
      some ((t_S cap flo top eva ru n (t_inf k lim ram (g_rf k rfc)) (u_clr n u) N).2.2, h4) ∧ xis h4 (B + 113) 6 = some () ∧
      f_X6_mostLack fu h4 (B + 113) = some (b_most (t_S cap flo top eva ru n (t_inf k lim ram (g_rf k rfc)) (u_clr n u) N).2.1 (nI N) n) ∧
      f_X6_takesBack fu h4 (B + 113) = some (hm (B + 113) W cap flo top eva lim rul (nI k) (nI n) (nI N) (nI D) lev dry ap rfm usm ram acm sv (cpn 1163 (m_al cap flo top eva lim rul (nI k) (nI n) (nI N) (nI D) lev dry ap rfm usm ram acm) z) (nI s) th sd td' sp' lf' tx (nI L) pl nb) ∧
      ∀ i, i < k → (sp' i).toInt = ((t_C k lim ram (g_rf k rfc) N).2 i 5).toInt := by
  have hra : ∀ d, d < N → 0 ≤ (ram d).toInt ∧ (ram d).toInt ≤ 200 := fun d hd => by rw [← hC.2.2.1.2.2.1 d hd]; exact hC.2.2.2.2.2.2.2 d hd
  obtain ⟨dn', lev', dry', rf', ac', td', lf', sp', e, e2, e3⟩ := p_X6_shortDays (fu := fu) (b := B + 113) (W := W) (cap := cap) (flo := flo) (top := top) (eva := eva) (lim := lim) (rul := ru) (dn := nI D) (lev := lev) (dry := dry) (ap := ap) (rf := rfm) (us := u) (ra := ram) (ac := acm) (sv := sv) (as := cpn 1163 (m_al cap flo top eva lim rul (nI k) (nI n) (nI N) (nI D) lev dry ap rfm usm ram acm) z) (sm := nI s) (th := th) (sd := sd) (td := td) (sp := sp) (lf := lf) (tx := tx) (tl := nI L) (pl := pl) (nb := nb) hC.1.1 hC.1.2.1 hC.1.2.2.1 hf hR hr hu hC.2.2.2.1 hra
  exact ⟨_, td', sp', lf', e, gm_is, p_X6_mostLack hC.1.2.1 (show 101 < fu by omega), mg_tb (show 1163 < fu by omega) e3 z, e2⟩
theorem K_gutter (hS : St (B + 1) h cap flo top eva lim rul (nI k) (nI n) (nI N) (nI D) lev dry lo rf us od ra ac) (hO : Ot B h s sv c L tx) (hM : Mp (B + 113) h cap flo top eva lim rul (nI k) (nI n) (nI N) (nI D) lev dry ap rfm usm ram acm sv as (nI s) th sd td sp lf tx (nI L) pl nb) (hC : CT c k n N D cap flo top eva lev lo ap rf us rfm usm ra ac ram acm) (hs : s ≤ 4) (hL : L ≤ 120) (hX : Oc B h) (hf : 600010 < fu) (x : Int32) : KW (fun v : Int64 => v) B c (f_L_gutterLoss fu h B x (B + 119)) (fun g => f_X6_gutterLoss fu g (B + 113) x) := by
  have hk := hC.1.1
  by_cases c1 : 0 ≤ x.toInt ∧ x.toInt < k
  · have e1 : f_X5_checkIndex x (nI k) = some (.inl ()) := ci_y (by omega) c1
    obtain ⟨i, hi, rfl⟩ := ix_of c1
    obtain ⟨h1, rf2, eP, T1, q1, q2, q3, q4⟩ := w_prepQ hO hS hC (show 101 < fu by omega)
    obtain ⟨S2, O2, F2⟩ := TQ_ok T1 hS hO
    obtain ⟨a1, a2, a3, a4⟩ := q4 i hi
    have e : f_X5_gutterLoss fu h B (nI i) = some (.inl (Int32.toInt64 ((t_C k lim ram (g_rf k rf2) N).2 i 5), h1)) := by
      simp only [f_X5_gutterLoss, rt_0 hO.1, Option.bind_some, st_rc hS, e1, oexc_inl, rt_is hO.1, eP, obind1_some, a1, a2, a3, a4, olift_some]
    have eL : f_L_gutterLoss fu h B (nI i) (B + 119) = (xastL h1 (B + 119) 0 (Int32.toInt64 ((t_C k lim ram (g_rf k rf2) N).2 i 5))).bind fun h2 => some (0, h2) := by
      simp only [f_L_gutterLoss, rt_is hO.1, Option.bind_some, e, xcatch_inl]
    rw [eL]
    exact K_retE (cv := fun v : Int64 => v) hM hX S2 O2 F2 hs hL (fun w hw => by
      obtain ⟨h4, td', sp', lf', e5, e6, e7, e8, e9⟩ := mg_all (B := B) (lim := lim) (rul := rul) (dry := dry) (s := s) (L := L) (sv := sv) (th := 0) (sd := sd) (td := td) (sp := sp) (lf := lf) (tx := tx) (pl := pl) (nb := nb) (W := w) (z := as) (ru := rul) (u := usm) hC hf (okd_ok (okd_U4 hC.2.2.1.2.1 hC.2.2.2.2.2.2.1)) q2 q3
      refine ⟨ap, rfm, usm, ram, acm, cpn 1163 (m_al cap flo top eva lim rul (nI k) (nI n) (nI N) (nI D) lev dry ap rfm usm ram acm) as, sd, td', sp', lf', pl, nb, ?_, CT_c hC⟩
      show f_X6_gutterLoss fu w (B + 113) (nI i) = _
      conv => lhs; rw [Mp_eq hw]
      have hx : xin (nI i) 6 = true := xin_nI (by omega) (by decide)
      have h3 : (nI i).toNatClampNeg = i := xnI_nat (by omega)
      have g1 : 0 ≤ (nI i).toInt ∧ (nI i).toInt < k := by rw [xnI_toInt (by omega)]; omega
      simp only [f_X6_gutterLoss, gm_is, Option.bind_some, p_X6_isRoof (show k < 1000000 by omega), obind1_some, gm_goes1, obind2_some, xb01_0, if_neg (fun f => f g1 : ¬ ¬ (0 ≤ (nI i).toInt ∧ (nI i).toInt < k)), if_pos g1, mg_lays (show 1163 < fu by omega), e5, e6, e8, gm_r4, gm_sp hx, h3]
      rw [i64_of (e9 i hi).symm])
  · have e : f_X5_gutterLoss fu h B x = some (.inr 2) := by
      simp only [f_X5_gutterLoss, rt_0 hO.1, Option.bind_some, st_rc hS, ci_n (show k < 1000000 by omega) c1, oexc_inr]
    have eL : f_L_gutterLoss fu h B x (B + 119) = some (1, h) := by
      simp only [f_L_gutterLoss, rt_is hO.1, Option.bind_some, e, xcatch_inr]
      rfl
    rw [eL]
    exact K_thr (w := 0) (by decide) hS hO hM hC hs hL hX (fun w hw => by
      show f_X6_gutterLoss fu w (B + 113) x = _
      conv => lhs; rw [Mp_eq hw]
      simp only [f_X6_gutterLoss, gm_is, Option.bind_some, p_X6_isRoof (show k < 1000000 by omega), obind1_some, gm_goes1, obind2_some, xb01_0, if_pos c1, if_neg c1])
theorem cap_rng {i : Nat} (hi : i < 120) : 100 ≤ (nI (500 * (i + 1))).toInt ∧ (nI (500 * (i + 1))).toInt ≤ 60000 := by rw [xnI_toInt (by omega)]; omega
theorem cap_le {i : Nat} (hi : i < 120) : ¬ (60000 : Int32) < nI (500 * (i + 1)) := by
  have e6 : (60000 : Int32) = nI 60000 := rfl
  rw [e6, xnI_lt_iff (by omega) (by omega)]; omega
theorem cap_s (i : Nat) : nI (500 * (i + 1)) + (500 : Int32) = nI (500 * (i + 1 + 1)) := by
  have e6 : (500 : Int32) = nI 500 := rfl
  rw [e6, xnI_add]
  exact congrArg nI (by omega)
/-- what the model finds -/
theorem mg_cap (hC : CT c k n N D cap flo top eva lev lo ap rf us rfm usm ra ac ram acm) (hf : 600010 < fu) {p : Int32} (hp : inR p 0 100) {rfc : UT} (hR : R5 k rfc rfm) (hr : r_ok k rfc) {W : XH} :
    ∃ (i : Nat) (as' : Nat → Int32) (td' : Int32) (sp' : Nat → Int64) (lf' : Int32), f_X6_capacityFor fu (hm (B + 113) W cap flo top eva lim rul (nI k) (nI n) (nI N) (nI D) lev dry ap rfm usm ram acm sv as (nI s) th sd td sp lf tx (nI L) pl nb) (B + 113) p = some (if i < 120 then nI (500 * (i + 1)) else -1, hm (B + 113) W cap flo top eva lim rul (nI k) (nI n) (nI N) (nI D) lev dry ap rfm usm ram acm sv as' (nI s) 0 sd td' sp' lf' tx (nI L) pl nb) ∧ i ≤ 120 ∧
      (i < 120 → (t_S (nI (500 * (i + 1))) (xmin flo (nI (500 * (i + 1)))) (xmin top (nI (500 * (i + 1)))) eva rul n (t_inf k lim ram (g_rf k rfc)) (u_clr n usm) N).2.2 ≤ p) ∧
      ∀ j, j < i → ¬ (t_S (nI (500 * (j + 1))) (xmin flo (nI (500 * (j + 1)))) (xmin top (nI (500 * (j + 1)))) eva rul n (t_inf k lim ram (g_rf k rfc)) (u_clr n usm) N).2.2 ≤ p := by
  have e1 : f_X6_in (Int32.toInt64 p) (0 : Int64) (100 : Int64) = some (xb01 (inR p 0 100)) := p_X6_in32 _ 0 100
  have key := xloop_P (body := xf2 fun (v5 : Int32) (h3 : XH) => if (60000 : Int32) < v5 then some (.inr (v5, h3)) else (xis h3 (B + 113) 6).bind fun v7 => obind2 (f_X6_shortWith fu h3 (B + 113) v5) fun v8 h5 => if v8 ≤ p then some (.inr (v5, h5)) else olet (v5 + (500 : Int32)) fun v9 => some (.inl (v9, h5)))
    (s0 := ((500 : Int32), hm (B + 113) W cap flo top eva lim rul (nI k) (nI n) (nI N) (nI D) lev dry ap rfm usm ram acm sv (cpn 1163 (m_al cap flo top eva lim rul (nI k) (nI n) (nI N) (nI D) lev dry ap rfm usm ram acm) as) (nI s) 0 sd td sp lf tx (nI L) pl nb)) (fu := fu)
    (fun i st => ∃ (td' : Int32) (sp' : Nat → Int64) (lf' : Int32), st = (nI (500 * (i + 1)), hm (B + 113) W cap flo top eva lim rul (nI k) (nI n) (nI N) (nI D) lev dry ap rfm usm ram acm sv (cpn 1163 (m_al cap flo top eva lim rul (nI k) (nI n) (nI N) (nI D) lev dry ap rfm usm ram acm) as) (nI s) 0 sd td' sp' lf' tx (nI L) pl nb) ∧ ∀ j, j < i → ¬ (t_S (nI (500 * (j + 1))) (xmin flo (nI (500 * (j + 1)))) (xmin top (nI (500 * (j + 1)))) eva rul n (t_inf k lim ram (g_rf k rfc)) (u_clr n usm) N).2.2 ≤ p)
    (fun r => ∃ (i : Nat) (td' : Int32) (sp' : Nat → Int64) (lf' : Int32), r = (nI (500 * (i + 1)), hm (B + 113) W cap flo top eva lim rul (nI k) (nI n) (nI N) (nI D) lev dry ap rfm usm ram acm sv (cpn 1163 (m_al cap flo top eva lim rul (nI k) (nI n) (nI N) (nI D) lev dry ap rfm usm ram acm) as) (nI s) 0 sd td' sp' lf' tx (nI L) pl nb) ∧ i ≤ 120 ∧ (i < 120 → (t_S (nI (500 * (i + 1))) (xmin flo (nI (500 * (i + 1)))) (xmin top (nI (500 * (i + 1)))) eva rul n (t_inf k lim ram (g_rf k rfc)) (u_clr n usm) N).2.2 ≤ p) ∧
      ∀ j, j < i → ¬ (t_S (nI (500 * (j + 1))) (xmin flo (nI (500 * (j + 1)))) (xmin top (nI (500 * (j + 1)))) eva rul n (t_inf k lim ram (g_rf k rfc)) (u_clr n usm) N).2.2 ≤ p)
    120 ⟨td, sp, lf, rfl, fun j hj => absurd hj (Nat.not_lt_zero _)⟩ ?ks ?ke (by omega)
  · obtain ⟨r, e, i, td', sp', lf', rfl, k1, k2, k3⟩ := key
    refine ⟨i, cpn 1163 (m_al cap flo top eva lim rul (nI k) (nI n) (nI N) (nI D) lev dry ap rfm usm ram acm) as, td', sp', lf', ?_, k1, k2, k3⟩
    simp only [f_X6_capacityFor, e1, obind1_some, gm_is, Option.bind_some, gm_goes1, obind2_some, xb01_0, if_neg (fun f => f hp : ¬ ¬ inR p 0 100), if_pos hp, mg_lays (show 1163 < fu by omega), e]
    by_cases ci : i < 120
    · rw [if_pos ci, if_neg (cap_le ci), obind1_some]
    · have ei : i = 120 := by omega
      subst ei
      rw [if_neg ci, if_pos (show (60000 : Int32) < nI (500 * (120 + 1)) by decide), obind1_some]
  case ks =>
    rintro i st hi ⟨td', sp', lf', rfl, p1⟩
    obtain ⟨td2, sp2, lf2, e2⟩ := mg_shortWith (B := B) (lim := lim) (rul := rul) (dry := dry) (s := s) (L := L) (sv := sv) (th := 0) (sd := sd) (td := td') (sp := sp') (lf := lf') (tx := tx) (pl := pl) (nb := nb) (W := W) (z := as) hC hf (cap_rng hi) hR hr
    by_cases cs : (t_S (nI (500 * (i + 1))) (xmin flo (nI (500 * (i + 1)))) (xmin top (nI (500 * (i + 1)))) eva rul n (t_inf k lim ram (g_rf k rfc)) (u_clr n usm) N).2.2 ≤ p
    · right
      refine ⟨(nI (500 * (i + 1)), hm (B + 113) W cap flo top eva lim rul (nI k) (nI n) (nI N) (nI D) lev dry ap rfm usm ram acm sv (cpn 1163 (m_al cap flo top eva lim rul (nI k) (nI n) (nI N) (nI D) lev dry ap rfm usm ram acm) as) (nI s) 0 sd td2 sp2 lf2 tx (nI L) pl nb), ?_, i, td2, sp2, lf2, rfl, by omega, fun _ => cs, p1⟩
      simp only [xf2, if_neg (cap_le hi), gm_is, Option.bind_some, e2, obind2_some, if_pos cs]
    · left
      refine ⟨(nI (500 * (i + 1 + 1)), hm (B + 113) W cap flo top eva lim rul (nI k) (nI n) (nI N) (nI D) lev dry ap rfm usm ram acm sv (cpn 1163 (m_al cap flo top eva lim rul (nI k) (nI n) (nI N) (nI D) lev dry ap rfm usm ram acm) as) (nI s) 0 sd td2 sp2 lf2 tx (nI L) pl nb), ?_, td2, sp2, lf2, rfl, fun j hj => ?_⟩
      · simp only [xf2, if_neg (cap_le hi), gm_is, Option.bind_some, e2, obind2_some, if_neg cs, olet, cap_s]
      · by_cases cj : j = i
        · subst cj; exact cs
        · exact p1 j (by omega)
  case ke =>
    rintro st ⟨td', sp', lf', rfl, p1⟩
    refine ⟨(nI (500 * (120 + 1)), hm (B + 113) W cap flo top eva lim rul (nI k) (nI n) (nI N) (nI D) lev dry ap rfm usm ram acm sv (cpn 1163 (m_al cap flo top eva lim rul (nI k) (nI n) (nI N) (nI D) lev dry ap rfm usm ram acm) as) (nI s) 0 sd td' sp' lf' tx (nI L) pl nb), ?_, 120, td', sp', lf', rfl, Nat.le_refl _, fun h => absurd h (by omega), p1⟩
    simp only [xf2]
    rw [if_pos (show (60000 : Int32) < nI (500 * (120 + 1)) by decide)]
theorem K_cap (hS : St (B + 1) h cap flo top eva lim rul (nI k) (nI n) (nI N) (nI D) lev dry lo rf us od ra ac) (hO : Ot B h s sv c L tx) (hM : Mp (B + 113) h cap flo top eva lim rul (nI k) (nI n) (nI N) (nI D) lev dry ap rfm usm ram acm sv as (nI s) th sd td sp lf tx (nI L) pl nb) (hC : CT c k n N D cap flo top eva lev lo ap rf us rfm usm ra ac ram acm) (hs : s ≤ 4) (hL : L ≤ 120) (hX : Oc B h) (hf : 600010 < fu) (p : Int32) : KW Int32.toInt64 B c (f_L_capacityFor fu h B p (B + 119)) (fun g => f_X6_capacityFor fu g (B + 113) p) := by
  have e1 : f_X6_in (Int32.toInt64 p) (0 : Int64) (100 : Int64) = some (xb01 (inR p 0 100)) := p_X6_in32 _ 0 100
  by_cases g : inR p 0 100
  · obtain ⟨h1, rf2, eP, T1, q1, q2, q3, -⟩ := w_prepQ hO hS hC (show 101 < fu by omega)
    have key := xloop_P (body := xf2 fun (v3 : Int32) (h2 : XH) => if (60000 : Int32) < v3 then some (.inr (.inl h2)) else (xis h2 B 5).bind fun _ => obind1 (f_X5_setTrialCapacity h2 B v3) fun h4 => (xgR h4 B 5 1).bind fun v5 => (xis h4 v5 2).bind fun _ => obind2 (f_X2_serveAll fu h4 v5 p) fun v7 h5 => if p < v7 then olet (v3 + (500 : Int32)) fun v8 => some (.inl (v8, h5)) else some (.inr (.inr (v3, h5))))
      (s0 := ((500 : Int32), h1)) (fu := fu)
      (fun i st => ∃ (h2 : XH) (cap1 flo1 top1 : Int32), st = (nI (500 * (i + 1)), h2) ∧ TQ B h h2 k n N eva lim rul (t_inf k lim ram (g_rf k rf2)) usm cap1 flo1 top1 ∧ ∀ j, j < i → ¬ (t_S (nI (500 * (j + 1))) (xmin flo (nI (500 * (j + 1)))) (xmin top (nI (500 * (j + 1)))) eva rul n (t_inf k lim ram (g_rf k rf2)) (u_clr n usm) N).2.2 ≤ p)
      (fun (r : XH ⊕ (Int32 × XH)) => ∃ (i : Nat) (h2 : XH) (cap1 flo1 top1 : Int32), r = (if i < 120 then .inr (nI (500 * (i + 1)), h2) else .inl h2) ∧ TQ B h h2 k n N eva lim rul (t_inf k lim ram (g_rf k rf2)) usm cap1 flo1 top1 ∧ i ≤ 120 ∧ (i < 120 → (t_S (nI (500 * (i + 1))) (xmin flo (nI (500 * (i + 1)))) (xmin top (nI (500 * (i + 1)))) eva rul n (t_inf k lim ram (g_rf k rf2)) (u_clr n usm) N).2.2 ≤ p) ∧
        ∀ j, j < i → ¬ (t_S (nI (500 * (j + 1))) (xmin flo (nI (500 * (j + 1)))) (xmin top (nI (500 * (j + 1)))) eva rul n (t_inf k lim ram (g_rf k rf2)) (u_clr n usm) N).2.2 ≤ p)
      120 ⟨h1, cap, flo, top, rfl, T1, fun j hj => absurd hj (Nat.not_lt_zero _)⟩ ?ks ?ke (by omega)
    · obtain ⟨r, eR, i, h2, cap1, flo1, top1, rfl, T2, k1, k2, k3⟩ := key
      obtain ⟨S2, O2, F2⟩ := TQ_ok T2 hS hO
      have e : f_X5_capacityFor fu h B p = some (.inl (if i < 120 then nI (500 * (i + 1)) else -1, h2)) := by
        simp only [f_X5_capacityFor, cr_y g, oexc_inl, rt_is hO.1, Option.bind_some, eP, obind1_some, eR]
        by_cases ci : i < 120
        · simp only [if_pos ci, oret1]; rfl
        · simp only [if_neg ci, oret1]; rfl
      have eL : f_L_capacityFor fu h B p (B + 119) = (xastL h2 (B + 119) 0 (Int32.toInt64 (if i < 120 then nI (500 * (i + 1)) else -1))).bind fun h2 => some (0, h2) := by
        simp only [f_L_capacityFor, rt_is hO.1, Option.bind_some, e, xcatch_inl]
      rw [eL]
      exact K_retE hM hX S2 O2 F2 hs hL (fun w hw => by
        obtain ⟨i', as', td', sp', lf', e9, m1, m2, m3⟩ := mg_cap (B := B) (lim := lim) (rul := rul) (dry := dry) (s := s) (L := L) (sv := sv) (as := as) (th := th) (sd := sd) (td := td) (sp := sp) (lf := lf) (tx := tx) (pl := pl) (nb := nb) (W := w) hC hf g q2 q3
        have ei : i' = i := by
          rcases Nat.lt_trichotomy i' i with hlt | heq | hgt
          · exact absurd (m2 (by omega)) (k3 i' hlt)
          · exact heq
          · exact absurd (k2 (by omega)) (m3 i hgt)
        subst ei
        rw [← Mp_eq hw] at e9
        exact ⟨ap, rfm, usm, ram, acm, as', sd, td', sp', lf', pl, nb, e9, CT_c hC⟩)
    case ks =>
      rintro i st hi ⟨h2, cap1, flo1, top1, rfl, T2, p1⟩
      obtain ⟨cnt, hA, h3, eA, eB, eC, eT, T3, c3⟩ := w_tried (fu := fu) T2 hS hO hC.1.2.1 hC.1.2.2.1 hC.2.2.2.1 (okd_U4 hC.2.2.1.2.1 hC.2.2.2.2.2.2.1) (inf_rng hC q1) (by omega) (cap_rng hi) p
      have R2 : Rt B h2 s := (TQ_ok T2 hS hO).2.1.1
      have ec : p < cnt ↔ ¬ (t_S (nI (500 * (i + 1))) (xmin flo (nI (500 * (i + 1)))) (xmin top (nI (500 * (i + 1)))) eva rul n (t_inf k lim ram (g_rf k rf2)) (u_clr n usm) N).2.2 ≤ p := by
        rcases c3 with c3 | ⟨c3, c4⟩
        · rw [c3, ti_lt, ti_le]; omega
        · exact ⟨fun _ => by rw [ti_lt] at c4; rw [ti_le]; omega, fun _ => c3⟩
      by_cases cs : (t_S (nI (500 * (i + 1))) (xmin flo (nI (500 * (i + 1)))) (xmin top (nI (500 * (i + 1)))) eva rul n (t_inf k lim ram (g_rf k rf2)) (u_clr n usm) N).2.2 ≤ p
      · right
        refine ⟨.inr (nI (500 * (i + 1)), h3), ?_, i, h3, _, _, _, (if_pos hi).symm, T3, by omega, fun _ => cs, p1⟩
        simp only [xf2, if_neg (cap_le hi), rt_is R2, Option.bind_some, eA, obind1_some, eB, eC, eT, obind2_some, if_neg (fun f => ec.mp f cs)]
      · left
        refine ⟨(nI (500 * (i + 1 + 1)), h3), ?_, h3, _, _, _, rfl, T3, fun j hj => ?_⟩
        · simp only [xf2, if_neg (cap_le hi), rt_is R2, Option.bind_some, eA, obind1_some, eB, eC, eT, obind2_some, if_pos (ec.mpr cs), olet, cap_s]
        · by_cases cj : j = i
          · subst cj; exact cs
          · exact p1 j (by omega)
    case ke =>
      rintro st ⟨h2, cap1, flo1, top1, rfl, T2, p1⟩
      refine ⟨.inl h2, ?_, 120, h2, _, _, _, rfl, T2, Nat.le_refl _, fun h => absurd h (by omega), p1⟩
      simp only [xf2]
      rw [if_pos (show (60000 : Int32) < nI (500 * (120 + 1)) by decide)]
  · have e : f_X5_capacityFor fu h B p = some (.inr 0) := by
      simp only [f_X5_capacityFor, cr_n g, oexc_inr]
    have eL : f_L_capacityFor fu h B p (B + 119) = some (1, h) := by
      simp only [f_L_capacityFor, rt_is hO.1, Option.bind_some, e, xcatch_inr]
      rfl
    rw [eL]
    exact K_thr (w := 0) (by decide) hS hO hM hC hs hL hX (fun w hw => by
      show f_X6_capacityFor fu w (B + 113) p = _
      conv => lhs; rw [Mp_eq hw]
      simp only [f_X6_capacityFor, e1, obind1_some, gm_is, Option.bind_some, gm_goes1, obind2_some, xb01_0, if_pos g, if_neg g])
end PZ3
