/-! What-if questions: what trying leaves, and what it counts. -/
theorem Sv_g {b : Nat} {h : XH} {a0 a1 a2 a3 a4 a5 a6 a7 a8 a9 a10 a11 : Int32} {lo : Int64} {rf us : UT} {od ra ac : Nat → Int32} (hS : St b h a0 a1 a2 a3 a4 a5 a6 a7 a8 a9 a10 a11 lo rf us od ra ac) : Sv b h (zz a0 a1 a2 a3 a4 a5 a6 a7 a8 a9 a10 a11, lo, rf, us, od, ra, ac) := by
  unfold Sv
  simp only [zz_0, zz_1, zz_2, zz_3, zz_4, zz_5, zz_6, zz_7, zz_8, zz_9, zz_10, zz_11]
  exact hS
def TQ (B : Nat) (h0 h : XH) (k n N : Nat) (eva lim rul : Int32) (inf : Nat → Int32) (v : UT) (cap flo top : Int32) : Prop := ∃ (dn lev dry : Int32) (lo : Int64) (rf us : UT) (od ra ac : Nat → Int32),
  St (B+19) h cap flo top eva lim rul (nI k) (nI n) (nI N) dn lev dry lo rf us od ra ac ∧ (∀ i, i < n → us i 0 = v i 0 ∧ us i 1 = v i 1) ∧ (∀ d, d < N → ac (d * 10 + 1) = inf d) ∧ ∀ q, ¬ (B + 19 ≤ q ∧ q < B + 37) → h q = h0 q
theorem cf_min {cap flo top eva p : Int32} (hcf : s_cf0 cap flo top eva) (hp : 100 ≤ p.toInt ∧ p.toInt ≤ 60000) : s_cf0 p (xmin flo p) (xmin top p) eva := by
  obtain ⟨h1, h2, h3, h4⟩ := hcf
  refine ⟨hp, ?_, ?_, h4⟩
  · rw [ti_min]; omega
  · rw [ti_min]; omega
section PZ2
variable {B s L c k n N D : Nat} {h : XH} {cap flo top eva lim rul lev dry : Int32} {lo : Int64} {rf us : UT} {od ra ac : Nat → Int32} {ap : Int32} {rfm usm : UT} {ram acm sv as : Nat → Int32} {th : Int32} {sd : Int64} {td : Int32} {sp : Nat → Int64} {lf : Int32} {tx : Nat → Int32} {pl nb : Int32}
variable {fu : Nat}
theorem TQ_ok {h1 : XH} {v : UT} {inf : Nat → Int32} {ev li ru cap1 flo1 top1 : Int32} (hT : TQ B h h1 k n N ev li ru inf v cap1 flo1 top1) (hS : St (B + 1) h cap flo top eva lim rul (nI k) (nI n) (nI N) (nI D) lev dry lo rf us od ra ac) (hO : Ot B h s sv c L tx) : St (B + 1) h1 cap flo top eva lim rul (nI k) (nI n) (nI N) (nI D) lev dry lo rf us od ra ac ∧ Ot B h1 s sv c L tx ∧ ∀ q, ¬ (B ≤ q ∧ q < B + 113) → h1 q = h q := by
  obtain ⟨dn, lev1, dry1, lo1, rf1, us1, od1, ra1, ac1, s1, -, -, f1⟩ := hT
  exact ⟨St_fr hS (fun q h1 h2 => f1 q (by omega)), ⟨Rt_fr (f1 B (by omega)) hO.1, ⟨_, Sv_g s1⟩, Sd_fr hO.2.2.1 (fun q h1 h2 => f1 q (by omega)), Tt_fr hO.2.2.2 (fun q h1 h2 => f1 q (by omega))⟩, fun q hq => f1 q (by omega)⟩
theorem inf_rng {rf2 : UT} (hC : CT c k n N D cap flo top eva lev lo ap rf us rfm usm ra ac ram acm) (hR : R5 k rf rf2) : ∀ d, d < N → 0 ≤ (t_inf k lim ram (g_rf k rf2) d).toInt ∧ (t_inf k lim ram (g_rf k rf2) d).toInt ≤ 1000000 := by
  have hra : ∀ d, d < N → 0 ≤ (ram d).toInt ∧ (ram d).toInt ≤ 200 := fun d hd => by rw [← hC.2.2.1.2.2.1 d hd]; exact hC.2.2.2.2.2.2.2 d hd
  exact fun d hd => t_inf_rng hC.1.1 (g_rf_ok (R5_ok hR hC.2.2.2.2.2.1)) hra d hd
theorem w_prepQ (hO : Ot B h s sv c L tx) (hS : St (B + 1) h cap flo top eva lim rul (nI k) (nI n) (nI N) (nI D) lev dry lo rf us od ra ac) (hC : CT c k n N D cap flo top eva lev lo ap rf us rfm usm ra ac ram acm) (hf : 101 < fu) :
    ∃ (h1 : XH) (rf2 : UT), f_X5_prepareTrial fu h B = some h1 ∧ TQ B h h1 k n N eva lim rul (t_inf k lim ram (g_rf k rf2)) usm cap flo top ∧ R5 k rf rf2 ∧ R5 k rf2 rfm ∧ r_ok k rf2 ∧ ∀ i, i < k → xgR h1 B 5 1 = some (B + 19) ∧ xgR h1 (B + 19) 2 6 = some (B + 19 + 1) ∧ xaldR h1 (B + 19 + 1) 3 (nI i) = some (B + 19 + 2 + i) ∧ xgI h1 (B + 19 + 2 + i) 1 5 = some ((t_C k lim ram (g_rf k rf2) N).2 i 5) := by
  obtain ⟨h1, rf2, us2, od2, ra2, ac2, e, s1, f1, g1, g2, g3⟩ := w_prep hO hS hC hf
  have hk := hC.1.1
  have r1 := hC.2.2.1.1
  have r2 := hC.2.2.1.2.1
  refine ⟨h1, rf2, e, ⟨_, _, _, _, _, _, _, _, _, s1, fun i hi => ?_, g3, f1⟩, g1, fun i hi j hj => (g1 i hi j hj).symm.trans (r1 i hi j hj), R5_ok g1 hC.2.2.2.2.2.1, fun i hi => ⟨rt_1 (Rt_fr (f1 B (by omega)) hO.1), st_roofs s1, st_qroof s1 (by omega), ?_⟩⟩
  · rw [u_clr_at hi]
    exact ⟨(g2 i hi 0 (by decide)).symm.trans (r2 i hi 0 (by decide)), (g2 i hi 1 (by decide)).symm.trans (r2 i hi 1 (by decide))⟩
  · rw [St_eq s1]; exact hg_rf (show i < 6 by omega) (show 5 < 6 by decide)
theorem w_tried {h1 : XH} {v : UT} {inf : Nat → Int32} {cap1 flo1 top1 : Int32} (hT : TQ B h h1 k n N eva lim rul inf v cap1 flo1 top1) (hS : St (B + 1) h cap flo top eva lim rul (nI k) (nI n) (nI N) (nI D) lev dry lo rf us od ra ac) (hO : Ot B h s sv c L tx) (hn : n ≤ 5) (hN : N ≤ 100) (hcf : s_cf0 cap flo top eva) (hv : u_okd n v) (hi : ∀ d, d < N → 0 ≤ (inf d).toInt ∧ (inf d).toInt ≤ 1000000) (hf : 101 < fu) {p : Int32} (hp : 100 ≤ p.toInt ∧ p.toInt ≤ 60000) (en : Int32) :
    ∃ (cnt : Int32) (hA h2 : XH), f_X5_setTrialCapacity h1 B p = some hA ∧ xgR hA B 5 1 = some (B + 19) ∧ xis hA (B + 19) 2 = some () ∧ f_X2_serveAll fu hA (B + 19) en = some (cnt, h2) ∧ TQ B h h2 k n N eva lim rul inf v p (xmin flo p) (xmin top p) ∧
      (cnt = (t_S p (xmin flo p) (xmin top p) eva rul n inf (u_clr n v) N).2.2 ∨ (en < cnt ∧ en < (t_S p (xmin flo p) (xmin top p) eva rul n inf (u_clr n v) N).2.2)) := by
  obtain ⟨dn, lev1, dry1, lo1, rf1, us1, od1, ra1, ac1, s1, v1, a1, f1⟩ := hT
  have R1 : Rt B h1 s := Rt_fr (f1 B (by omega)) hO.1
  have S1 : St (B + 1) h1 cap flo top eva lim rul (nI k) (nI n) (nI N) (nI D) lev dry lo rf us od ra ac := St_fr hS (fun q h1 h2 => f1 q (by omega))
  have ho : u_ok n us1 := okd_ok (fun i hi => by rw [(v1 i hi).1, (v1 i hi).2]; exact hv i hi)
  have hd : (B + 19) + 18 ≤ B + 1 ∨ (B + 1) + 18 ≤ B + 19 := by omega
  obtain ⟨cnt, lev', us', od', ac', h2, e2, s2, f2, a2, v2, c2⟩ := w_try (fu := fu) (St_hp (b := B + 19) (W := h1) (cap := p) (flo := xmin flo p) (top := xmin top p) (eva := eva) (lim := lim) (rul := rul) (rc := nI k) (uc := nI n) (rn := nI N) (dn := dn) (lev := lev1) (dry := dry1) (lo := lo1) (rf := rf1) (us := us1) (od := od1) (ra := ra1) (ac := ac1)) hn hN hf ho (cf_min hcf hp) hi a1 v1 en
  refine ⟨cnt, _, h2, ?_, rt_1 (Rt_hp R1 (show B < B + 19 by omega)), hi_st, e2, ⟨dn, lev', dry1, lo1, rf1, us', od', ra1, ac', s2, v2, a2, fun q hq => ?_⟩, ?_⟩
  · unfold f_X5_setTrialCapacity
    conv => lhs; rw [St_eq s1]
    simp only [rt_1 (Rt_hp R1 (show B < B + 19 by omega)), rt_0 (Rt_hp R1 (show B < B + 19 by omega)), Option.bind_some, hs_cap, sr_flo S1 hd, hs_flo, sr_top S1 hd, hs_top]
  · rw [f2 q (by omega), hp_out (by omega)]; exact f1 q hq
  · rcases c2 with ⟨c, -⟩ | c
    · exact Or.inl c
    · exact Or.inr c
end PZ2

