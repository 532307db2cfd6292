/-! What-if questions: what trying leaves, and what it counts. -/
theorem Sv_g {b : Nat} {h : XH} {a0 a1 a2 a3 a4 a5 a6 a7 a8 a9 a10 a11 : Int32} {lo : Int64} {rf us : UT} {od ra ac : Nat → Int32} (hS : St b h a0 a1 a2 a3 a4 a5 a6 a7 a8 a9 a10 a11 lo rf us od ra ac) : Sv b h (zz a0 a1 a2 a3 a4 a5 a6 a7 a8 a9 a10 a11, lo, rf, us, od, ra, ac) := by
  unfold Sv
  simp only [zz_0, zz_1, zz_2, zz_3, zz_4, zz_5, zz_6, zz_7, zz_8, zz_9, zz_10, zz_11]
  exact hS
def TQ (B : Nat) (h0 h : XH) (k n N : Nat) (eva lim rul : Int32) (inf : Nat → Int32) (v : UT) (cap flo top : Int32) : Prop := ∃ (dn lev dry : Int32) (lo : Int64) (rf us : UT) (od ra ac : Nat → Int32),
  St (B+19) h cap flo top eva lim rul (nI k) (nI n) (nI N) dn lev dry lo rf us od ra ac ∧ (∀ i, i < n → us i 0 = v i 0 ∧ us i 1 = v i 1) ∧ (∀ d, d < N → ac (d * 10 + 1) = inf d) ∧ ∀ q, ¬ (B + 19 ≤ q ∧ q < B + 37) → h q = h0 q
theorem cf_min {cap flo top eva p : Int32} (hcf : s_cf0 cap flo top eva) (hp : 100 ≤ p.toInt ∧ p.toInt ≤ 60000) : s_cf0 p (xmin flo p) (xmin top p) eva := by
  obtain ⟨h1, h2, h3, h4⟩ := hcf
  refine ⟨hp, ?_, ?_, h4⟩
  · rw [ti_min]; omega
  · rw [ti_min]; omega
section PZ2
variable {B s L c k n N D : Nat} {h : XH} {cap flo top eva lim rul lev dry : Int32} {lo : Int64} {rf us : UT} {od ra ac : Nat → Int32} {ap : Int32} {rfm usm : UT} {ram acm sv as : Nat → Int32} {th : Int32} {sd : Int64} {td : Int32} {sp : Nat → Int64} {lf : Int32} {tx : Nat → Int32} {pl nb : Int32}
variable {fu : Nat}
theorem TQ_ok {h1 : XH} {v : UT} {inf : Nat → Int32} {ev li ru cap1 flo1 top1 : Int32} (hT : TQ B h h1 k n N ev li ru inf v cap1 flo1 top1) (hS : St (B + 1) h cap flo top eva lim rul (nI k) (nI n) (nI N) (nI D) lev dry lo rf us od ra ac) (hO : Ot B h s sv c L tx) : St (B + 1) h1 cap flo top eva lim rul (nI k) (nI n) (nI N) (nI D) lev dry lo rf us od ra ac ∧ Ot B h1 s sv c L tx ∧ ∀ q, ¬ (B ≤ q ∧ q < B + 113) → h1 q = h q := by
  obtain ⟨dn, lev1, dry1, lo1, rf1, us1, od1, ra1, ac1, s1, -, -, f1⟩ := hT
  exact ⟨St_fr hS (fun q h1 h2 => f1 q (by omega)), ⟨Rt_fr (f1 B (by omega)) hO.1, ⟨_, Sv_g s1⟩, Sd_fr hO.2.2.1 (fun q h1 h2 => f1 q (by omega)), Tt_fr hO.2.2.2 (fun q h1 h2 => f1 q (by omega))⟩, fun q hq => f1 q (by omega)⟩
theorem inf_rng {rf2 : UT} (hC : CT c k n N D cap flo top eva lev lo ap rf us rfm usm ra ac ram acm) (hR : R5 k rf rf2) : ∀ d, d < N → 0 ≤ (t_inf k lim ram (g_rf k rf2) d).toInt ∧ (t_inf k lim ram (g_rf k rf2) d).toInt ≤ 1000000 := by
  have hra : ∀ d, d < N → 0 ≤ (ram d).toInt ∧ (ram d).toInt ≤ 200 := fun d hd => by rw [← hC.2.2.1.2.2.1 d hd]; exact hC.2.2.2.2.2.2.2 d hd
  exact fun d hd => t_inf_rng hC.1.1 (g_rf_ok (R5_ok hR hC.2.2.2.2.2.1)) hra d hd
theorem w_prepQ (hO : Ot B h s sv c L tx) (hS : St (B + 1) h cap flo top eva lim rul (nI k) (nI n) (nI N) (nI D) lev dry lo rf us od ra ac) (hC : CT c k n N D cap flo top eva lev lo ap rf us rfm usm ra ac ram acm) (hf : 101 < fu) :
    ∃ (h1 : XH) (rf2 : UT), f_X5_prepareTrial fu h B = some h1 ∧ TQ B h h1 k n N eva lim rul (t_inf k lim ram (g_rf k rf2)) usm cap flo top ∧ R5 k rf rf2 ∧ R5 k rf2 rfm ∧ r_ok k rf2 ∧ ∀ i, i < k → xgR h1 B 5 1 = some (B + 19) ∧ xgR h1 (B + 19) 2 6 = some (B + 19 + 1) ∧ xaldR h1 (B + 19 + 1) 3 (nI i) = some (B + 19 + 2 + i) ∧ xgI h1 (B + 19 + 2 + i) 1 5 = some ((t_C k lim ram (g_rf k rf2) N).2 i 5) := by
  obtain ⟨h1, rf2, us2, od2, ra2, ac2, e, s1, f1, g1, g2, g3⟩ := w_prep hO hS hC hf
  have hk := hC.1.1
  have r1 := hC.2.2.1.1
  have r2 := hC.2.2.1.2.1
  refine ⟨h1, rf2, e, ⟨_, _, _, _, _, _, _, _, _, s1, fun i hi => ?_, g3, f1⟩, g1, fun i hi j hj => (g1 i hi j hj).symm.trans (r1 i hi j hj), R5_ok g1 hC.2.2.2.2.2.1, fun i hi => ⟨rt_1 (Rt_fr (f1 B (by omega)) hO.1), st_roofs s1, st_qroof s1 (by omega), ?_⟩⟩
  · rw [u_clr_at hi]
    exact ⟨(g2 i hi 0 (by decide)).symm.trans (r2 i hi 0 (by decide)), (g2 i hi 1 (by decide)).symm.trans (r2 i hi 1 (by decide))⟩
  · rw [St_eq s1]; exact hg_rf (show i < 6 by omega) (show 5 < 6 by decide)
theorem w_tried {h1 : XH} {v : UT} {inf : Nat → Int32} {cap1 flo1 top1 : Int32} (hT : TQ B h h1 k n N eva lim rul inf v cap1 flo1 top1) (hS : St (B + 1) h cap flo top eva lim rul (nI k) (nI n) (nI N) (nI D) lev dry lo rf us od ra ac) (hO : Ot B h s sv c L tx) (hn : n ≤ 5) (hN : N ≤ 100) (hcf : s_cf0 cap flo top eva) (hv : u_okd n v) (hi : ∀ d, d < N → 0 ≤ (inf d).toInt ∧ (inf d).toInt ≤ 1000000) (hf : 101 < fu) {p : Int32} (hp : 100 ≤ p.toInt ∧ p.toInt ≤ 60000) (en : Int32) :
    ∃ (cnt : Int32) (hA h2 : XH), f_X5_setTrialCapacity h1 B p = some hA ∧ xgR hA B 5 1 = some (B + 19) ∧ xis hA (B + 19) 2 = some () ∧ f_X2_serveAll fu hA (B + 19) en = some (cnt, h2) ∧ TQ B h h2 k n N eva lim rul inf v p (xmin flo p) (xmin top p) ∧
      (cnt = (t_S p (xmin flo p) (xmin top p) eva rul n inf (u_clr n v) N).2.2 ∨ (en < cnt ∧ en < (t_S p (xmin flo p) (xmin top p) eva rul n inf (u_clr n v) N).2.2)) := by
  obtain ⟨dn, lev1, dry1, lo1, rf1, us1, od1, ra1, ac1, s1, v1, a1, f1⟩ := hT
  have R1 : Rt B h1 s := Rt_fr (f1 B (by omega)) hO.1
  have S1 : St (B + 1) h1 cap flo top eva lim rul (nI k) (nI n) (nI N) (nI D) lev dry lo rf us od ra ac := St_fr hS (fun q h1 h2 => f1 q (by omega))
  have ho : u_ok n us1 := okd_ok (fun i hi => by rw [(v1 i hi).1, (v1 i hi).2]; exact hv i hi)
  have hd : (B + 19) + 18 ≤ B + 1 ∨ (B + 1) + 18 ≤ B + 19 := by omega
  obtain ⟨cnt, lev', us', od', ac', h2, e2, s2, f2, a2, v2, c2⟩ := w_try (fu := fu) (St_hp (b := B + 19) (W := h1) (cap := p) (flo := xmin flo p) (top := xmin top p) (eva := eva) (lim := lim) (rul := rul) (rc := nI k) (uc := nI n) (rn := nI N) (dn := dn) (lev := lev1) (dry := dry1) (lo := lo1) (rf := rf1) (us := us1) (od := od1) (ra := ra1) (ac := ac1)) hn hN hf ho (cf_min hcf hp) hi a1 v1 en
  refine ⟨cnt, _, h2, ?_, rt_1 (Rt_hp R1 (show B < B + 19 by omega)), hi_st, e2, ⟨dn, lev', dry1, lo1, rf1, us', od', ra1, ac', s2, v2, a2, fun q hq => ?_⟩, ?_⟩
  · unfold f_X5_setTrialCapacity
    conv => lhs; rw [St_eq s1]
    simp only [rt_1 (Rt_hp R1 (show B < B + 19 by omega)), rt_0 (Rt_hp R1 (show B < B + 19 by omega)), Option.bind_some, hs_cap, sr_flo S1 hd, hs_flo, sr_top S1 hd, hs_top]
  · rw [f2 q (by omega), hp_out (by omega)]; exact f1 q hq
  · rcases c2 with ⟨c, -⟩ | c
    · exact Or.inl c
    · exact Or.inr c
theorem mg_shortWith (hC : CT c k n N D cap flo top eva lev lo ap rf us rfm usm ra ac ram acm) (hf : 600010 < fu) {p : Int32} (hp : 100 ≤ p.toInt ∧ p.toInt ≤ 60000) {rfc : UT} (hR : R5 k rfc rfm) (hr : r_ok k rfc) {z : Nat → Int32} {W : XH} :
    ∃ (td' : Int32) (sp' : Nat → Int64) (lf' : Int32), f_X6_shortWith fu (hm (B + 113) W cap flo top eva lim rul (nI k) (nI n) (nI N) (nI D) lev dry ap rfm usm ram acm sv (cpn 1163 (m_al cap flo top eva lim rul (nI k) (nI n) (nI N) (nI D) lev dry ap rfm usm ram acm) z) (nI s) th sd td sp lf tx (nI L) pl nb) (B + 113) p =
      some ((t_S p (xmin flo p) (xmin top p) eva rul n (t_inf k lim ram (g_rf k rfc)) (u_clr n usm) N).2.2, hm (B + 113) W cap flo top eva lim rul (nI k) (nI n) (nI N) (nI D) lev dry ap rfm usm ram acm sv (cpn 1163 (m_al cap flo top eva lim rul (nI k) (nI n) (nI N) (nI D) lev dry ap rfm usm ram acm) z) (nI s) th sd td' sp' lf' tx (nI L) pl nb) := by
  have hra : ∀ d, d < N → 0 ≤ (ram d).toInt ∧ (ram d).toInt ≤ 200 := fun d hd => by rw [← hC.2.2.1.2.2.1 d hd]; exact hC.2.2.2.2.2.2.2 d hd
  obtain ⟨dn', lev', dry', rf', ac', td', lf', sp', e, -, e3⟩ := p_X6_shortDays (fu := fu) (b := B + 113) (W := W) (cap := p) (flo := xmin flo p) (top := xmin top p) (eva := eva) (lim := lim) (rul := rul) (dn := nI D) (lev := lev) (dry := dry) (ap := ap) (rf := rfm) (us := usm) (ra := ram) (ac := acm) (sv := sv) (as := cpn 1163 (m_al cap flo top eva lim rul (nI k) (nI n) (nI N) (nI D) lev dry ap rfm usm ram acm) z) (sm := nI s) (th := th) (sd := sd) (td := td) (sp := sp) (lf := lf) (tx := tx) (tl := nI L) (pl := pl) (nb := nb) hC.1.1 hC.1.2.1 hC.1.2.2.1 hf hR hr (okd_ok (okd_U4 hC.2.2.1.2.1 hC.2.2.2.2.2.2.1)) (cf_min hC.2.2.2.1 hp) hra
  refine ⟨td', sp', lf', ?_⟩
  simp only [f_X6_shortWith, gm_r1, tm_cap, gm_flo, Option.bind_some, obind1_ite, xmin_if, tm_flo, gm_top, tm_top, gm_is]
  rw [e]
  simp only [obind2_some, gm_is, Option.bind_some]
  rw [mg_tb (show 1163 < fu by omega) e3 z]
  rfl
theorem K_sdw (hS : St (B + 1) h cap flo top eva lim rul (nI k) (nI n) (nI N) (nI D) lev dry lo rf us od ra ac) (hO : Ot B h s sv c L tx) (hM : Mp (B + 113) h cap flo top eva lim rul (nI k) (nI n) (nI N) (nI D) lev dry ap rfm usm ram acm sv as (nI s) th sd td sp lf tx (nI L) pl nb) (hC : CT c k n N D cap flo top eva lev lo ap rf us rfm usm ra ac ram acm) (hs : s ≤ 4) (hL : L ≤ 120) (hX : Oc B h) (hf : 600010 < fu) (p : Int32) : KW Int32.toInt64 B c (f_L_shortDaysWith fu h B p (B + 119)) (fun g => f_X6_shortDaysWith fu g (B + 113) p) := by
  have e1 : f_X6_in (Int32.toInt64 p) (100 : Int64) (60000 : Int64) = some (xb01 (inR p 100 60000)) := p_X6_in32 _ 100 60000
  by_cases g : inR p 100 60000
  · obtain ⟨h1, rf2, eP, T1, q1, q2, q3, -⟩ := w_prepQ hO hS hC (show 101 < fu by omega)
    obtain ⟨cnt, hA, h2, eA, eB, eC, eT, T2, c2⟩ := w_tried (fu := fu) T1 hS hO hC.1.2.1 hC.1.2.2.1 hC.2.2.2.1 (okd_U4 hC.2.2.1.2.1 hC.2.2.2.2.2.2.1) (inf_rng hC q1) (by omega) g 100
    obtain ⟨S2, O2, F2⟩ := TQ_ok T2 hS hO
    have R1 : Rt B h1 s := (TQ_ok T1 hS hO).2.1.1
    have ec : cnt = (t_S p (xmin flo p) (xmin top p) eva rul n (t_inf k lim ram (g_rf k rf2)) (u_clr n usm) N).2.2 := by
      rcases c2 with c2 | ⟨-, c2⟩
      · exact c2
      · have := t_S_cnt (cap := p) (flo := xmin flo p) (top := xmin top p) (eva := eva) (rul := rul) (n := n) (inf := t_inf k lim ram (g_rf k rf2)) (us0 := u_clr n usm) N (by have := hC.1.2.2.1; omega)
        rw [ti_lt] at c2
        have z1 : (100 : Int32).toInt = 100 := rfl
        have := hC.1.2.2.1
        omega
    have e : f_X5_shortDaysWith fu h B p = some (.inl (cnt, h2)) := by
      simp only [f_X5_shortDaysWith, cr_y g, oexc_inl, rt_is hO.1, Option.bind_some, eP, obind1_some, rt_is R1, eA, eB, eC, eT, obind2_some, olift_some]
    have eL : f_L_shortDaysWith fu h B p (B + 119) = (xastL h2 (B + 119) 0 (Int32.toInt64 cnt)).bind fun h2 => some (0, h2) := by
      simp only [f_L_shortDaysWith, rt_is hO.1, Option.bind_some, e, xcatch_inl]
    rw [eL]
    exact K_retE hM hX S2 O2 F2 hs hL (fun w hw => by
      obtain ⟨td', sp', lf', e9⟩ := mg_shortWith (B := B) (lim := lim) (rul := rul) (dry := dry) (s := s) (L := L) (sv := sv) (th := 0) (sd := sd) (td := td) (sp := sp) (lf := lf) (tx := tx) (pl := pl) (nb := nb) (W := w) (z := as) hC hf g q2 q3
      refine ⟨ap, rfm, usm, ram, acm, cpn 1163 (m_al cap flo top eva lim rul (nI k) (nI n) (nI N) (nI D) lev dry ap rfm usm ram acm) as, sd, td', sp', lf', pl, nb, ?_, CT_c hC⟩
      show f_X6_shortDaysWith fu w (B + 113) p = _
      conv => lhs; rw [Mp_eq hw]
      simp only [f_X6_shortDaysWith, e1, obind1_some, gm_is, Option.bind_some, gm_goes1, obind2_some, xb01_0, if_neg (fun f => f g : ¬ ¬ inR p 100 60000), if_pos g, mg_lays (show 1163 < fu by omega), e9, ec])
  · have e : f_X5_shortDaysWith fu h B p = some (.inr 0) := by
      simp only [f_X5_shortDaysWith, cr_n g, oexc_inr]
    have eL : f_L_shortDaysWith fu h B p (B + 119) = some (1, h) := by
      simp only [f_L_shortDaysWith, rt_is hO.1, Option.bind_some, e, xcatch_inr]
      rfl
    rw [eL]
    exact K_thr (w := 0) (by decide) hS hO hM hC hs hL hX (fun w hw => by
      show f_X6_shortDaysWith fu w (B + 113) p = _
      conv => lhs; rw [Mp_eq hw]
      simp only [f_X6_shortDaysWith, e1, obind1_some, gm_is, Option.bind_some, gm_goes1, obind2_some, xb01_0, if_pos g, if_neg g])
end PZ2
