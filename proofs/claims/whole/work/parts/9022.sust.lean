/-! sustainable, both sides. -/
def scu (p : Int32) (u : UT) : UT := fun i j => if j = 0 then u i 0 * p / 100 else u i j
def msc (n : Nat) (p : Int32) (u : UT) : UT := it (fun i u => xup u i (xup (u i) 0 (u i 0 * p / 100))) u n
def SUs (cap flo top eva rul : Int32) (n N : Nat) (inf : Nat → Int32) (u : UT) (p : Int32) : Int32 := (t_S cap flo top eva rul n inf (u_clr n (scu p u)) N).2.2
theorem pv_s {i : Nat} (hi : i < 60) : nI (300 - 5 * i) + (-5 : Int32) = nI (300 - 5 * (i + 1)) := by
  have e : 300 - 5 * i = (300 - 5 * (i + 1)) + 5 := by omega
  rw [e, ← xnI_add]
  show nI (300 - 5 * (i + 1)) + (5 : Int32) + (-5 : Int32) = _
  grind
theorem sc_rng {d p : Int32} (h1 : 0 ≤ d.toInt ∧ d.toInt ≤ 9999) (h2 : 0 ≤ p.toInt ∧ p.toInt ≤ 300) : 0 ≤ (d * p / 100).toInt ∧ (d * p / 100).toInt ≤ 30000 := by
  have z : (100 : Int32).toInt = 100 := rfl
  have g0 : 0 ≤ d.toInt * p.toInt := Int.mul_nonneg h1.1 h2.1
  have g1 : d.toInt * p.toInt ≤ 9999 * 300 := Int.mul_le_mul h1.2 h2.2 h2.1 (by omega)
  have e : (d * p).toInt = d.toInt * p.toInt := ti_mul (by omega) (by omega)
  rw [ti_div (by rw [e]; exact g0) (by rw [z]; omega), e, z]
  omega
theorem msc_at {n i : Nat} (p : Int32) (u : UT) (hi : i < n) : msc n p u i = xup (u i) 0 (u i 0 * p / 100) := by
  have e : msc n p u = u_map (fun _ r => xup r 0 (r 0 * p / 100)) n u := it_map (fun _ r => xup r 0 (r 0 * p / 100)) n u
  rw [e]
  simp only [u_map, if_pos hi]
theorem w_sc_at {n i : Nat} (p : Int32) (v u : UT) (hi : i < n) : w_sc n p v u i = xup (u i) 0 (v i 0 * p / 100) := by
  have e : w_sc n p v u = u_map (fun i r => xup r 0 (v i 0 * p / 100)) n u := it_map (fun i r => xup r 0 (v i 0 * p / 100)) n u
  rw [e]
  simp only [u_map, if_pos hi]
theorem pv_rng {i : Nat} (hi : i < 60) : 0 ≤ (nI (300 - 5 * i)).toInt ∧ (nI (300 - 5 * i)).toInt ≤ 300 := by rw [xnI_toInt (by omega)]; omega
section PZ5
variable {B s L c k n N D : Nat} {h : XH} {cap flo top eva lim rul lev dry : Int32} {lo : Int64} {rf us : UT} {od ra ac : Nat → Int32} {ap : Int32} {rfm usm : UT} {ram acm sv as : Nat → Int32} {th : Int32} {sd : Int64} {td : Int32} {sp : Nat → Int64} {lf : Int32} {tx : Nat → Int32} {pl nb : Int32}
variable {fu : Nat}
theorem msc_ok {u : UT} (ho : u_okd n u) {p : Int32} (hp : 0 ≤ p.toInt ∧ p.toInt ≤ 300) : u_ok n (msc n p u) := by
  intro i hi
  rw [msc_at p u hi]
  exact ⟨sc_rng (ho i hi).1 hp, (ho i hi).2⟩
theorem msc_scu (u : UT) (p : Int32) : ∀ i, i < n → msc n p u i 0 = scu p u i 0 ∧ msc n p u i 1 = scu p u i 1 := fun i hi => by
  rw [msc_at p u hi]
  exact ⟨rfl, rfl⟩
theorem mg_sust (hC : CT c k n N D cap flo top eva lev lo ap rf us rfm usm ra ac ram acm) (hf : 600010 < fu) {rfc : UT} (hR : R5 k rfc rfm) (hr : r_ok k rfc) {W : XH} {S : Int32 → Int32} (hS : S = SUs cap flo top eva rul n N (t_inf k lim ram (g_rf k rfc)) usm) :
    ∃ (i : Nat) (as' : Nat → Int32) (td' : Int32) (sp' : Nat → Int64) (lf' : Int32), f_X6_sustainable fu (hm (B + 113) W cap flo top eva lim rul (nI k) (nI n) (nI N) (nI D) lev dry ap rfm usm ram acm sv as (nI s) th sd td sp lf tx (nI L) pl nb) (B + 113) = some (if i < 60 then nI (300 - 5 * i) else -1, hm (B + 113) W cap flo top eva lim rul (nI k) (nI n) (nI N) (nI D) lev dry ap rfm usm ram acm sv as' (nI s) 0 sd td' sp' lf' tx (nI L) pl nb) ∧ i ≤ 60 ∧ (i < 60 → S (nI (300 - 5 * i)) = 0) ∧ ∀ j, j < i → ¬ S (nI (300 - 5 * j)) = 0 := by
  have hn := hC.1.2.1
  have hod := okd_U4 hC.2.2.1.2.1 hC.2.2.2.2.2.2.1
  have key := xloop_P (body := xf2 fun (v2 : Int32) (h3 : XH) => if v2 ≤ (0 : Int32) then some (.inr (.inl h3)) else obind1 (xloop (xf2 fun (v3 : Int32) (h5 : XH) => (xgR h5 (B + 113) 6 0).bind fun v4 => (xald h5 v4 0 (7 : Int32)).bind fun v5 => if v5 ≤ v3 then some (.inr h5) else (xgR h5 (B + 113) 6 0).bind fun v6 => obind1 (f_X6_userAt v3 (0 : Int32)) fun v7 => (xis h5 (B + 113) 6).bind fun v8 => obind1 (f_X6_ofUser h5 (B + 113) v3 (0 : Int32)) fun v9 => (xast h5 v6 0 v7 ((v9 * v2) / (100 : Int32))).bind fun h7 => olet (v3 + (1 : Int32)) fun v10 => some (.inl (v10, h7))) fu ((0 : Int32), h3)) fun h6 =>
      (xis h6 (B + 113) 6).bind fun v11 => obind2 (f_X6_shortDays fu h6 (B + 113)) fun v12 h8 => (xis h8 (B + 113) 6).bind fun v13 => obind1 (f_X6_takesBack fu h8 (B + 113)) fun h9 => if v12 = (0 : Int32) then some (.inr (.inr (v2, h9))) else olet (v2 + (-5 : Int32)) fun v14 => some (.inl (v14, h9)))
    (s0 := ((300 : Int32), hm (B + 113) W cap flo top eva lim rul (nI k) (nI n) (nI N) (nI D) lev dry ap rfm usm ram acm sv (cpn 1163 (m_al cap flo top eva lim rul (nI k) (nI n) (nI N) (nI D) lev dry ap rfm usm ram acm) as) (nI s) 0 sd td sp lf tx (nI L) pl nb)) (fu := fu)
    (fun i st => ∃ (td' : Int32) (sp' : Nat → Int64) (lf' : Int32), st = (nI (300 - 5 * i), hm (B + 113) W cap flo top eva lim rul (nI k) (nI n) (nI N) (nI D) lev dry ap rfm usm ram acm sv (cpn 1163 (m_al cap flo top eva lim rul (nI k) (nI n) (nI N) (nI D) lev dry ap rfm usm ram acm) as) (nI s) 0 sd td' sp' lf' tx (nI L) pl nb) ∧ ∀ j, j < i → ¬ S (nI (300 - 5 * j)) = 0)
    (fun (r : XH ⊕ (Int32 × XH)) => ∃ (i : Nat) (td' : Int32) (sp' : Nat → Int64) (lf' : Int32), r = (if i < 60 then .inr (nI (300 - 5 * i), hm (B + 113) W cap flo top eva lim rul (nI k) (nI n) (nI N) (nI D) lev dry ap rfm usm ram acm sv (cpn 1163 (m_al cap flo top eva lim rul (nI k) (nI n) (nI N) (nI D) lev dry ap rfm usm ram acm) as) (nI s) 0 sd td' sp' lf' tx (nI L) pl nb) else .inl (hm (B + 113) W cap flo top eva lim rul (nI k) (nI n) (nI N) (nI D) lev dry ap rfm usm ram acm sv (cpn 1163 (m_al cap flo top eva lim rul (nI k) (nI n) (nI N) (nI D) lev dry ap rfm usm ram acm) as) (nI s) 0 sd td' sp' lf' tx (nI L) pl nb)) ∧ i ≤ 60 ∧ (i < 60 → S (nI (300 - 5 * i)) = 0) ∧ ∀ j, j < i → ¬ S (nI (300 - 5 * j)) = 0)
    60 ⟨td, sp, lf, rfl, fun j hj => absurd hj (Nat.not_lt_zero _)⟩ ?ks ?ke (by omega)
  · obtain ⟨r, e, i, td', sp', lf', rfl, k1, k2, k3⟩ := key
    refine ⟨i, cpn 1163 (m_al cap flo top eva lim rul (nI k) (nI n) (nI N) (nI D) lev dry ap rfm usm ram acm) as, td', sp', lf', ?_, k1, k2, k3⟩
    simp only [f_X6_sustainable, sm_th, Option.bind_some, gm_is, mg_lays (show 1163 < fu by omega), obind1_some, e]
    by_cases ci : i < 60
    · simp only [if_pos ci, oret1]
    · simp only [if_neg ci, oret1]
  case ks =>
    rintro i st hi ⟨td', sp', lf', rfl, p1⟩
    have hle : ¬ nI (300 - 5 * i) ≤ (0 : Int32) := by
      rw [ti_le, xnI_toInt (by omega), ti_0]; omega
    obtain ⟨h4, td2, sp2, lf2, e5, e6, -, e8, -⟩ := mg_all (B := B) (lim := lim) (rul := rul) (dry := dry) (s := s) (L := L) (sv := sv) (th := 0) (sd := sd) (td := td') (sp := sp') (lf := lf') (tx := tx) (pl := pl) (nb := nb) (W := W) (z := as) (ru := rul) (u := msc n (nI (300 - 5 * i)) usm) hC hf (msc_ok hod (pv_rng hi)) hR hr
    have eS : (t_S cap flo top eva rul n (t_inf k lim ram (g_rf k rfc)) (u_clr n (msc n (nI (300 - 5 * i)) usm)) N).2.2 = S (nI (300 - 5 * i)) := by
      rw [hS]
      exact (it_tS hn (U4_clr_of (msc_scu usm (nI (300 - 5 * i)))) (fun _ _ => rfl)).2.2
    rw [eS] at e5
    have eI : xloop (xf2 fun (v3 : Int32) (h5 : XH) => (xgR h5 (B + 113) 6 0).bind fun v4 => (xald h5 v4 0 (7 : Int32)).bind fun v5 => if v5 ≤ v3 then some (.inr h5) else (xgR h5 (B + 113) 6 0).bind fun v6 => obind1 (f_X6_userAt v3 (0 : Int32)) fun v7 => (xis h5 (B + 113) 6).bind fun v8 => obind1 (f_X6_ofUser h5 (B + 113) v3 (0 : Int32)) fun v9 => (xast h5 v6 0 v7 ((v9 * nI (300 - 5 * i)) / (100 : Int32))).bind fun h7 => olet (v3 + (1 : Int32)) fun v10 => some (.inl (v10, h7))) fu ((0 : Int32), hm (B + 113) W cap flo top eva lim rul (nI k) (nI n) (nI N) (nI D) lev dry ap rfm usm ram acm sv (cpn 1163 (m_al cap flo top eva lim rul (nI k) (nI n) (nI N) (nI D) lev dry ap rfm usm ram acm) as) (nI s) 0 sd td' sp' lf' tx (nI L) pl nb) =
        some (hm (B + 113) W cap flo top eva lim rul (nI k) (nI n) (nI N) (nI D) lev dry ap rfm (msc n (nI (300 - 5 * i)) usm) ram acm sv (cpn 1163 (m_al cap flo top eva lim rul (nI k) (nI n) (nI N) (nI D) lev dry ap rfm usm ram acm) as) (nI s) 0 sd td' sp' lf' tx (nI L) pl nb) := by
      rw [xloop_E (fun m (u : UT) => (nI m, hm (B + 113) W cap flo top eva lim rul (nI k) (nI n) (nI N) (nI D) lev dry ap rfm u ram acm sv (cpn 1163 (m_al cap flo top eva lim rul (nI k) (nI n) (nI N) (nI D) lev dry ap rfm usm ram acm) as) (nI s) 0 sd td' sp' lf' tx (nI L) pl nb)) (fun m u => xup u m (xup (u m) 0 (u m 0 * nI (300 - 5 * i) / 100))) (fun u => hm (B + 113) W cap flo top eva lim rul (nI k) (nI n) (nI N) (nI D) lev dry ap rfm u ram acm sv (cpn 1163 (m_al cap flo top eva lim rul (nI k) (nI n) (nI N) (nI D) lev dry ap rfm usm ram acm) as) (nI s) 0 sd td' sp' lf' tx (nI L) pl nb) n usm ?h0 ?hs ?he ?hf]
      · rfl
      case h0 => rfl
      case hf => omega
      case hs =>
        intro m u hm1
        have hle2 : ¬ nI n ≤ nI m := nI_ge hm1 (by omega)
        have e3 : f_X6_userAt (nI m) (0 : Int32) = some (nI (43 + 4 * m + 0)) := mu_0
        simp only [xf2, gm_r1, gm_uc, Option.bind_some, if_neg hle2, e3, obind1_some, gm_is, ous_0 (show m < 5 by omega), tm_us (show m < 5 by omega) (show 0 < 4 by decide), olet, xnI_s]
      case he =>
        intro u
        simp only [xf2, gm_r1, gm_uc, Option.bind_some, Int32.le_refl, if_true]
    by_cases cs : S (nI (300 - 5 * i)) = 0
    · right
      refine ⟨.inr (nI (300 - 5 * i), hm (B + 113) W cap flo top eva lim rul (nI k) (nI n) (nI N) (nI D) lev dry ap rfm usm ram acm sv (cpn 1163 (m_al cap flo top eva lim rul (nI k) (nI n) (nI N) (nI D) lev dry ap rfm usm ram acm) as) (nI s) 0 sd td2 sp2 lf2 tx (nI L) pl nb), ?_, i, td2, sp2, lf2, (if_pos hi).symm, by omega, fun _ => cs, p1⟩
      simp only [xf2, if_neg hle, eI, obind1_some, gm_is, Option.bind_some, e5, obind2_some, e6, e8, if_pos cs]
    · left
      refine ⟨(nI (300 - 5 * (i + 1)), hm (B + 113) W cap flo top eva lim rul (nI k) (nI n) (nI N) (nI D) lev dry ap rfm usm ram acm sv (cpn 1163 (m_al cap flo top eva lim rul (nI k) (nI n) (nI N) (nI D) lev dry ap rfm usm ram acm) as) (nI s) 0 sd td2 sp2 lf2 tx (nI L) pl nb), ?_, td2, sp2, lf2, rfl, fun j hj => ?_⟩
      · simp only [xf2, if_neg hle, eI, obind1_some, gm_is, Option.bind_some, e5, obind2_some, e6, e8, if_neg cs]
        simp only [olet, pv_s hi]
      · by_cases cj : j = i
        · subst cj; exact cs
        · exact p1 j (by omega)
  case ke =>
    rintro st ⟨td', sp', lf', rfl, p1⟩
    refine ⟨.inl (hm (B + 113) W cap flo top eva lim rul (nI k) (nI n) (nI N) (nI D) lev dry ap rfm usm ram acm sv (cpn 1163 (m_al cap flo top eva lim rul (nI k) (nI n) (nI N) (nI D) lev dry ap rfm usm ram acm) as) (nI s) 0 sd td' sp' lf' tx (nI L) pl nb), ?_, 60, td', sp', lf', rfl, Nat.le_refl _, fun h => absurd h (by omega), p1⟩
    simp only [xf2]
    rw [if_pos (show nI (300 - 5 * 60) ≤ (0 : Int32) by decide)]
theorem K_sust (hS : St (B + 1) h cap flo top eva lim rul (nI k) (nI n) (nI N) (nI D) lev dry lo rf us od ra ac) (hO : Ot B h s sv c L tx) (hM : Mp (B + 113) h cap flo top eva lim rul (nI k) (nI n) (nI N) (nI D) lev dry ap rfm usm ram acm sv as (nI s) th sd td sp lf tx (nI L) pl nb) (hC : CT c k n N D cap flo top eva lev lo ap rf us rfm usm ra ac ram acm) (hs : s ≤ 4) (hL : L ≤ 120) (hX : Oc B h) (hf : 600010 < fu) : KV B c (f_X5_sustainable fu h B) (fun g => f_X6_sustainable fu g (B + 113)) := by
  have hn := hC.1.2.1
  have hN := hC.1.2.2.1
  have hod := okd_U4 hC.2.2.1.2.1 hC.2.2.2.2.2.2.1
  obtain ⟨h1, rf2, eP, T1, q1, q2, q3, -⟩ := w_prepQ hO hS hC (show 101 < fu by omega)
  obtain ⟨S, hSS⟩ : ∃ S, S = SUs cap flo top eva rul n N (t_inf k lim ram (g_rf k rf2)) usm := ⟨_, rfl⟩
  have key := xloop_P (body := xf2 fun (v2 : Int32) (h2 : XH) => if v2 < (5 : Int32) then some (.inr (.inl h2)) else (xgR h2 B 5 1).bind fun v3 => (xgR h2 v3 2 8).bind fun v4 => (xgR h2 B 5 0).bind fun v5 => (xgR h2 v5 2 8).bind fun v6 => (xis h2 v4 4).bind fun v7 => obind1 (f_X4_scaleDemands fu h2 v4 v6 v2) fun h4 => (xgR h4 B 5 1).bind fun v8 => (xis h4 v8 2).bind fun v9 => obind2 (f_X2_serveAll fu h4 v8 (0 : Int32)) fun v10 h5 =>
      if v10 = (0 : Int32) then some (.inr (.inr (v2, h5))) else olet (v2 + (-5 : Int32)) fun v11 => some (.inl (v11, h5)))
    (s0 := ((300 : Int32), h1)) (fu := fu)
    (fun i st => ∃ (h2 : XH) (v : UT), st = (nI (300 - 5 * i), h2) ∧ TQ B h h2 k n N eva lim rul (t_inf k lim ram (g_rf k rf2)) v cap flo top ∧ (∀ m, m < n → v m 1 = usm m 1) ∧ ∀ j, j < i → ¬ S (nI (300 - 5 * j)) = 0)
    (fun (r : XH ⊕ (Int32 × XH)) => ∃ (i : Nat) (h2 : XH) (v : UT), r = (if i < 60 then .inr (nI (300 - 5 * i), h2) else .inl h2) ∧ TQ B h h2 k n N eva lim rul (t_inf k lim ram (g_rf k rf2)) v cap flo top ∧ i ≤ 60 ∧ (i < 60 → S (nI (300 - 5 * i)) = 0) ∧ ∀ j, j < i → ¬ S (nI (300 - 5 * j)) = 0)
    60 ⟨h1, usm, rfl, T1, fun _ _ => rfl, fun j hj => absurd hj (Nat.not_lt_zero _)⟩ ?ks ?ke (by omega)
  · obtain ⟨r, eR, i, h2, v, rfl, T2, k1, k2, k3⟩ := key
    obtain ⟨S2, O2, F2⟩ := TQ_ok T2 hS hO
    have e : f_X5_sustainable fu h B = some (if i < 60 then nI (300 - 5 * i) else -1, h2) := by
      simp only [f_X5_sustainable, rt_is hO.1, Option.bind_some, eP, obind1_some, eR]
      by_cases ci : i < 60
      · simp only [if_pos ci, oret1]
      · simp only [if_neg ci, oret1]
    rw [e]
    exact KV_retE hM hX S2 O2 F2 hs hL (fun w hw => by
      obtain ⟨i', as', td', sp', lf', e9, m1, m2, m3⟩ := mg_sust (B := B) (lim := lim) (rul := rul) (dry := dry) (s := s) (L := L) (sv := sv) (as := as) (th := th) (sd := sd) (td := td) (sp := sp) (lf := lf) (tx := tx) (pl := pl) (nb := nb) (W := w) hC hf q2 q3 hSS
      have ei : i' = i := by
        rcases Nat.lt_trichotomy i' i with hlt | heq | hgt
        · exact absurd (m2 (by omega)) (k3 i' hlt)
        · exact heq
        · exact absurd (k2 (by omega)) (m3 i hgt)
      subst ei
      rw [← Mp_eq hw] at e9
      exact ⟨ap, rfm, usm, ram, acm, as', sd, td', sp', lf', pl, nb, e9, CT_c hC⟩)
  case ks =>
    rintro i st hi ⟨h2, v, rfl, T2, p0, p1⟩
    have e5 : (5 : Int32) = nI 5 := rfl
    have hle : ¬ nI (300 - 5 * i) < (5 : Int32) := by rw [e5, xnI_lt_iff (by omega) (by omega)]; omega
    obtain ⟨S2, O2, F2⟩ := TQ_ok T2 hS hO
    have R2 : Rt B h2 s := O2.1
    obtain ⟨dn, lev1, dry1, lo1, rf1, us1, od1, ra1, ac1, s1, v1, a1, f1⟩ := T2
    have hd : (B + 19) + 18 ≤ B + 1 ∨ (B + 1) + 18 ≤ B + 19 := by omega
    have eSc : f_X4_scaleDemands fu h2 (B + 19 + 8) (B + 1 + 8) (nI (300 - 5 * i)) = some (hp (B + 19) h2 cap flo top eva lim rul (nI k) (nI n) (nI N) dn lev1 dry1 lo1 rf1 (w_sc n (nI (300 - 5 * i)) us us1) od1 ra1 ac1) := by
      have e := p_X4_scaleDemands (fu := fu) (b := B + 19) (W := h2) (cap := cap) (flo := flo) (top := top) (eva := eva) (lim := lim) (rul := rul) (rc := nI k) (rn := nI N) (dn := dn) (lev := lev1) (dry := dry1) (lo := lo1) (rf := rf1) (us := us1) (od := od1) (ra := ra1) (ac := ac1) S2 hd hn (by omega) (nI (300 - 5 * i))
      rwa [← St_eq s1] at e
    have hw : ∀ m, m < n → w_sc n (nI (300 - 5 * i)) us us1 m 0 = scu (nI (300 - 5 * i)) usm m 0 ∧ w_sc n (nI (300 - 5 * i)) us us1 m 1 = scu (nI (300 - 5 * i)) usm m 1 := fun m hm1 => by
      rw [w_sc_at _ _ _ hm1, hC.2.2.1.2.1 m hm1 0 (by decide)]
      exact ⟨rfl, ((v1 m hm1).2).trans (p0 m hm1)⟩
    have ho : u_ok n (w_sc n (nI (300 - 5 * i)) us us1) := fun m hm1 => by
      rw [(hw m hm1).1, (hw m hm1).2]
      exact ⟨sc_rng (hod m hm1).1 (pv_rng hi), (hod m hm1).2⟩
    obtain ⟨cnt, lev', us', od', ac', h3, e3, s3, f3, a3, v3, c3⟩ := w_try (fu := fu) (St_hp (b := B + 19) (W := h2) (cap := cap) (flo := flo) (top := top) (eva := eva) (lim := lim) (rul := rul) (rc := nI k) (uc := nI n) (rn := nI N) (dn := dn) (lev := lev1) (dry := dry1) (lo := lo1) (rf := rf1) (us := w_sc n (nI (300 - 5 * i)) us us1) (od := od1) (ra := ra1) (ac := ac1)) hn hN (by omega) ho hC.2.2.2.1 (inf_rng hC q1) a1 hw 0
    have T3 : TQ B h h3 k n N eva lim rul (t_inf k lim ram (g_rf k rf2)) (scu (nI (300 - 5 * i)) usm) cap flo top := ⟨dn, lev', dry1, lo1, rf1, us', od', ra1, ac', s3, v3, a3, fun q hq => by rw [f3 q (by omega), hp_out (by omega)]; exact f1 q hq⟩
    have ec : cnt = 0 ↔ S (nI (300 - 5 * i)) = 0 := by
      have eS : S (nI (300 - 5 * i)) = (t_S cap flo top eva rul n (t_inf k lim ram (g_rf k rf2)) (u_clr n (scu (nI (300 - 5 * i)) usm)) N).2.2 := by rw [hSS]; rfl
      rw [eS]
      rcases c3 with ⟨c3, -⟩ | ⟨c3, c4⟩
      · rw [c3]
      · constructor
        · intro f; rw [f, ti_lt] at c3; exact absurd c3 (by omega)
        · intro f; rw [f, ti_lt] at c4; exact absurd c4 (by omega)
    by_cases cs : S (nI (300 - 5 * i)) = 0
    · right
      refine ⟨.inr (nI (300 - 5 * i), h3), ?_, i, h3, _, (if_pos hi).symm, T3, by omega, fun _ => cs, p1⟩
      simp only [xf2, if_neg hle, rt_1 R2, rt_0 R2, Option.bind_some, st_users s1, st_users S2, st_iu s1, eSc, obind1_some, rt_1 (Rt_hp R2 (show B < B + 19 by omega)), hi_st, e3, obind2_some, if_pos (ec.mpr cs)]
    · left
      refine ⟨(nI (300 - 5 * (i + 1)), h3), ?_, h3, _, rfl, T3, fun m hm1 => rfl, fun j hj => ?_⟩
      · simp only [xf2, if_neg hle, rt_1 R2, rt_0 R2, Option.bind_some, st_users s1, st_users S2, st_iu s1, eSc, obind1_some, rt_1 (Rt_hp R2 (show B < B + 19 by omega)), hi_st, e3, obind2_some, if_neg (fun f => cs (ec.mp f)), olet, pv_s hi]
      · by_cases cj : j = i
        · subst cj; exact cs
        · exact p1 j (by omega)
  case ke =>
    rintro st ⟨h2, v, rfl, T2, p0, p1⟩
    refine ⟨.inl h2, ?_, 60, h2, v, rfl, T2, Nat.le_refl _, fun h => absurd h (by omega), p1⟩
    simp only [xf2]
    rw [if_pos (show nI (300 - 5 * 60) < (5 : Int32) by decide)]
end PZ5
