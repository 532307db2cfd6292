/-! bestRule, sustainable, both sides. -/
theorem b_most_eq {n : Nat} {u v : UT} {N : Int32} (h : U4 n u v) : b_most u N n = b_most v N n := by
  unfold b_most
  exact it_cg (fun i x hi => by rw [h i hi 0 (by decide), h i hi 3 (by decide)]) 0
/-- what a rule leaves lacking -/
def LK (cap flo top eva : Int32) (n N : Nat) (inf : Nat → Int32) (u : UT) (r : Nat) : Int32 := b_most (t_S cap flo top eva (nI r) n inf (u_clr n u) N).2.1 (nI N) n
def bst (F : Nat → Int32) (i : Nat) : Int32 × Int32 := it (fun r (x : Int32 × Int32) => if nI r = (0 : Int32) then (nI r, F r) else if x.2 ≤ F r then x else (nI r, F r)) (0, 0) i
theorem bst_n (F : Nat → Int32) : ∀ i, i ≤ 4 → ∃ r, r ≤ i ∧ (bst F i).1 = nI r
  | 0, _ => ⟨0, Nat.le_refl _, rfl⟩
  | i + 1, h => by
    obtain ⟨r, h1, h2⟩ := bst_n F i (by omega)
    show ∃ r, r ≤ i + 1 ∧ (if nI i = (0 : Int32) then (nI i, F i) else if (bst F i).2 ≤ F i then bst F i else (nI i, F i)).1 = nI r
    by_cases c : nI i = (0 : Int32)
    · rw [if_pos c]; exact ⟨i, by omega, rfl⟩
    · rw [if_neg c]
      by_cases c2 : (bst F i).2 ≤ F i
      · rw [if_pos c2]; exact ⟨r, by omega, h2⟩
      · rw [if_neg c2]; exact ⟨i, by omega, rfl⟩
def mbst (F : Nat → Int32) (i : Nat) : Int32 × Int32 := if i = 0 then (-1, 0) else bst F i
theorem nI_iff0 {i : Nat} (h : i < 100) : nI i = (0 : Int32) ↔ i = 0 := by
  constructor
  · intro e
    exact xnI_inj (by omega) (by omega) (e.trans xnI_z.symm)
  · intro e; subst e; rfl
section PZ4
variable {B s L c k n N D : Nat} {h : XH} {cap flo top eva lim rul lev dry : Int32} {lo : Int64} {rf us : UT} {od ra ac : Nat → Int32} {ap : Int32} {rfm usm : UT} {ram acm sv as : Nat → Int32} {th : Int32} {sd : Int64} {td : Int32} {sp : Nat → Int64} {lf : Int32} {tx : Nat → Int32} {pl nb : Int32}
variable {fu : Nat}
theorem mg_best (hC : CT c k n N D cap flo top eva lev lo ap rf us rfm usm ra ac ram acm) (hf : 600010 < fu) {rfc : UT} (hR : R5 k rfc rfm) (hr : r_ok k rfc) {W : XH} {F : Nat → Int32} (hF : F = LK cap flo top eva n N (t_inf k lim ram (g_rf k rfc)) usm) :
    ∃ (as' : Nat → Int32) (td' : Int32) (sp' : Nat → Int64) (lf' : Int32), f_X6_bestRule fu (hm (B + 113) W cap flo top eva lim rul (nI k) (nI n) (nI N) (nI D) lev dry ap rfm usm ram acm sv as (nI s) th sd td sp lf tx (nI L) pl nb) (B + 113) = some ((bst F 4).1, hm (B + 113) W cap flo top eva lim rul (nI k) (nI n) (nI N) (nI D) lev dry ap rfm usm ram acm sv as' (nI s) 0 sd td' sp' lf' tx (nI L) pl nb) := by
  have hu := okd_ok (okd_U4 hC.2.2.1.2.1 hC.2.2.2.2.2.2.1)
  have key := xloop_P (body := xf4 fun (v2 : Int32) (v3 : Int32) (v4 : Int32) (h3 : XH) => if (4 : Int32) ≤ v4 then some (.inr (v2, h3)) else (xgR h3 (B + 113) 6 0).bind fun v6 => (xast h3 v6 0 (5 : Int32) v4).bind fun h5 => (xis h5 (B + 113) 6).bind fun v7 => obind2 (f_X6_shortDays fu h5 (B + 113)) fun v8 h6 => (xis h6 (B + 113) 6).bind fun v9 => obind1 (f_X6_mostLack fu h6 (B + 113)) fun v10 => (xis h6 (B + 113) 6).bind fun v11 => obind1 (f_X6_takesBack fu h6 (B + 113)) fun h7 =>
      obind1 (oletk (some (1 : Int32)) fun k3 => if v2 = (-1 : Int32) then k3 else if v3 ≤ v10 then some (0 : Int32) else k3) fun v12 => obind1 (if v12 = (0 : Int32) then some v2 else some v4) fun v13 => obind1 (if v12 = (0 : Int32) then some v3 else some v10) fun v14 => olet (v4 + (1 : Int32)) fun v15 => some (.inl (v13, v14, v15, h7)))
    (s0 := ((-1 : Int32), (0 : Int32), (0 : Int32), hm (B + 113) W cap flo top eva lim rul (nI k) (nI n) (nI N) (nI D) lev dry ap rfm usm ram acm sv (cpn 1163 (m_al cap flo top eva lim rul (nI k) (nI n) (nI N) (nI D) lev dry ap rfm usm ram acm) as) (nI s) 0 sd td sp lf tx (nI L) pl nb)) (fu := fu)
    (fun i st => ∃ (td' : Int32) (sp' : Nat → Int64) (lf' : Int32), st = ((mbst F i).1, (mbst F i).2, nI i, hm (B + 113) W cap flo top eva lim rul (nI k) (nI n) (nI N) (nI D) lev dry ap rfm usm ram acm sv (cpn 1163 (m_al cap flo top eva lim rul (nI k) (nI n) (nI N) (nI D) lev dry ap rfm usm ram acm) as) (nI s) 0 sd td' sp' lf' tx (nI L) pl nb))
    (fun r => ∃ (td' : Int32) (sp' : Nat → Int64) (lf' : Int32), r = ((mbst F 4).1, hm (B + 113) W cap flo top eva lim rul (nI k) (nI n) (nI N) (nI D) lev dry ap rfm usm ram acm sv (cpn 1163 (m_al cap flo top eva lim rul (nI k) (nI n) (nI N) (nI D) lev dry ap rfm usm ram acm) as) (nI s) 0 sd td' sp' lf' tx (nI L) pl nb))
    4 ⟨td, sp, lf, rfl⟩ ?ks ?ke (by omega)
  · obtain ⟨r, e, td', sp', lf', rfl⟩ := key
    refine ⟨cpn 1163 (m_al cap flo top eva lim rul (nI k) (nI n) (nI N) (nI D) lev dry ap rfm usm ram acm) as, td', sp', lf', ?_⟩
    simp only [f_X6_bestRule, sm_th, Option.bind_some, gm_is, mg_lays (show 1163 < fu by omega), obind1_some, e, obind2_some]
    rfl
  case ks =>
    rintro i st hi ⟨td', sp', lf', rfl⟩
    left
    have e4 : (4 : Int32) = nI 4 := rfl
    have hle : ¬ (4 : Int32) ≤ nI i := by rw [e4, xnI_le_iff (by omega) (by omega)]; omega
    obtain ⟨h4, td2, sp2, lf2, e5, e6, e7, e8, -⟩ := mg_all (B := B) (lim := lim) (rul := rul) (dry := dry) (s := s) (L := L) (sv := sv) (th := 0) (sd := sd) (td := td') (sp := sp') (lf := lf') (tx := tx) (pl := pl) (nb := nb) (W := W) (z := as) (ru := nI i) (u := usm) hC hf hu hR hr
    have eF : b_most (t_S cap flo top eva (nI i) n (t_inf k lim ram (g_rf k rfc)) (u_clr n usm) N).2.1 (nI N) n = F i := by rw [hF]; rfl
    rw [eF] at e7
    refine ⟨((mbst F (i + 1)).1, (mbst F (i + 1)).2, nI (i + 1), hm (B + 113) W cap flo top eva lim rul (nI k) (nI n) (nI N) (nI D) lev dry ap rfm usm ram acm sv (cpn 1163 (m_al cap flo top eva lim rul (nI k) (nI n) (nI N) (nI D) lev dry ap rfm usm ram acm) as) (nI s) 0 sd td2 sp2 lf2 tx (nI L) pl nb), ?_, td2, sp2, lf2, rfl⟩
    have em : mbst F (i + 1) = if nI i = (0 : Int32) then (nI i, F i) else if (bst F i).2 ≤ F i then bst F i else (nI i, F i) := rfl
    simp only [xf4, if_neg hle, gm_r1, tm_rul, gm_is, Option.bind_some, e5, obind2_some, e6, e7, e8, obind1_some, oletk]
    by_cases c0 : i = 0
    · subst c0
      have c1 : (mbst F 0).1 = (-1 : Int32) := rfl
      have c2 : ¬ (1 : Int32) = 0 := by decide
      rw [if_pos c1, obind1_some]
      simp only [if_neg c2, obind1_some, olet, xnI_s]
      rw [em, if_pos ((nI_iff0 (by omega)).mpr rfl)]
    · have c1 : ¬ nI i = (0 : Int32) := fun f => c0 ((nI_iff0 (by omega)).mp f)
      have em2 : mbst F i = bst F i := if_neg c0
      obtain ⟨r, r1, r2⟩ := bst_n F i (by omega)
      have c2 : ¬ (bst F i).1 = (-1 : Int32) := by rw [r2]; exact xnI_neg1 (by omega)
      rw [em, em2, if_neg c2, if_neg c1]
      by_cases c3 : (bst F i).2 ≤ F i
      · simp only [if_pos c3, obind1_some, if_true, olet, xnI_s]
      · have c4 : ¬ (1 : Int32) = 0 := by decide
        simp only [if_neg c3, obind1_some, if_neg c4, olet, xnI_s]
  case ke =>
    rintro st ⟨td', sp', lf', rfl⟩
    refine ⟨((mbst F 4).1, hm (B + 113) W cap flo top eva lim rul (nI k) (nI n) (nI N) (nI D) lev dry ap rfm usm ram acm sv (cpn 1163 (m_al cap flo top eva lim rul (nI k) (nI n) (nI N) (nI D) lev dry ap rfm usm ram acm) as) (nI s) 0 sd td' sp' lf' tx (nI L) pl nb), ?_, td', sp', lf', rfl⟩
    simp only [xf4]
    rw [if_pos (show (4 : Int32) ≤ nI 4 by decide)]
theorem K_best (hS : St (B + 1) h cap flo top eva lim rul (nI k) (nI n) (nI N) (nI D) lev dry lo rf us od ra ac) (hO : Ot B h s sv c L tx) (hM : Mp (B + 113) h cap flo top eva lim rul (nI k) (nI n) (nI N) (nI D) lev dry ap rfm usm ram acm sv as (nI s) th sd td sp lf tx (nI L) pl nb) (hC : CT c k n N D cap flo top eva lev lo ap rf us rfm usm ra ac ram acm) (hs : s ≤ 4) (hL : L ≤ 120) (hX : Oc B h) (hf : 600010 < fu) : KV B c (f_X5_bestRule fu h B) (fun g => f_X6_bestRule fu g (B + 113)) := by
  have hn := hC.1.2.1
  have hN := hC.1.2.2.1
  obtain ⟨h1, rf2, eP, T1, q1, q2, q3, -⟩ := w_prepQ hO hS hC (show 101 < fu by omega)
  obtain ⟨F, hF⟩ : ∃ F, F = LK cap flo top eva n N (t_inf k lim ram (g_rf k rf2)) usm := ⟨_, rfl⟩
  have key := xloop_P (body := xf4 fun (v2 : Int32) (v3 : Int32) (v4 : Int32) (h2 : XH) => if (4 : Int32) ≤ v4 then some (.inr (v2, h2)) else (xgR h2 B 5 1).bind fun v6 => (xpV h2 v6 2 5 (.int v4)).bind fun h4 => (xgR h4 B 5 1).bind fun v7 => (xis h4 v7 2).bind fun v8 => obind2 (f_X2_serveAll fu h4 v7 (100 : Int32)) fun v9 h5 => (xgR h5 B 5 1).bind fun v10 => (xgR h5 v10 2 8).bind fun v11 => (xgR h5 B 5 1).bind fun v12 => (xgI h5 v12 2 10).bind fun v13 => (xis h5 v11 4).bind fun v14 =>
      obind1 (f_X4_greatestLack fu h5 v11 v13) fun v15 => obind2 (oletk (some (v4, v15)) fun k3 => if v4 = (0 : Int32) then k3 else if v3 ≤ v15 then some (v2, v3) else k3) fun v16 v17 => olet (v4 + (1 : Int32)) fun v18 => some (.inl (v16, v17, v18, h5)))
    (s0 := ((0 : Int32), (0 : Int32), (0 : Int32), h1)) (fu := fu)
    (fun i st => ∃ (h2 : XH) (ru : Int32), st = ((bst F i).1, (bst F i).2, nI i, h2) ∧ TQ B h h2 k n N eva lim ru (t_inf k lim ram (g_rf k rf2)) usm cap flo top)
    (fun r => ∃ (h2 : XH) (ru : Int32), r = ((bst F 4).1, h2) ∧ TQ B h h2 k n N eva lim ru (t_inf k lim ram (g_rf k rf2)) usm cap flo top)
    4 ⟨h1, rul, rfl, T1⟩ ?ks ?ke (by omega)
  · obtain ⟨r, eR, h2, ru, rfl, T2⟩ := key
    obtain ⟨S2, O2, F2⟩ := TQ_ok T2 hS hO
    have e : f_X5_bestRule fu h B = some ((bst F 4).1, h2) := by
      simp only [f_X5_bestRule, rt_is hO.1, Option.bind_some, eP, obind1_some, eR, obind2_some]
    rw [e]
    exact KV_retE hM hX S2 O2 F2 hs hL (fun w hw => by
      obtain ⟨as', td', sp', lf', e9⟩ := mg_best (B := B) (lim := lim) (rul := rul) (dry := dry) (s := s) (L := L) (sv := sv) (as := as) (th := th) (sd := sd) (td := td) (sp := sp) (lf := lf) (tx := tx) (pl := pl) (nb := nb) (W := w) hC hf q2 q3 hF
      rw [← Mp_eq hw] at e9
      exact ⟨ap, rfm, usm, ram, acm, as', sd, td', sp', lf', pl, nb, e9, CT_c hC⟩)
  case ks =>
    rintro i st hi ⟨h2, ru, rfl, T2⟩
    left
    have e4 : (4 : Int32) = nI 4 := rfl
    have hle : ¬ (4 : Int32) ≤ nI i := by rw [e4, xnI_le_iff (by omega) (by omega)]; omega
    have R2 : Rt B h2 s := (TQ_ok T2 hS hO).2.1.1
    obtain ⟨dn, lev1, dry1, lo1, rf1, us1, od1, ra1, ac1, s1, v1, a1, f1⟩ := T2
    have ho : u_ok n us1 := okd_ok (fun i hi => by rw [(v1 i hi).1, (v1 i hi).2]; exact okd_U4 hC.2.2.1.2.1 hC.2.2.2.2.2.2.1 i hi)
    obtain ⟨cnt, lev', us', od', ac', h3, e3, s3, f3, a3, v3, c3⟩ := w_try (fu := fu) (St_hp (b := B + 19) (W := h2) (cap := cap) (flo := flo) (top := top) (eva := eva) (lim := lim) (rul := nI i) (rc := nI k) (uc := nI n) (rn := nI N) (dn := dn) (lev := lev1) (dry := dry1) (lo := lo1) (rf := rf1) (us := us1) (od := od1) (ra := ra1) (ac := ac1)) hn hN (by omega) ho hC.2.2.2.1 (inf_rng hC q1) a1 v1 100
    have R3 : Rt B h3 s := Rt_fr ((f3 B (by omega)).trans (hp_out (by omega))) R2
    have eU : U4 n us' (t_S cap flo top eva (nI i) n (t_inf k lim ram (g_rf k rf2)) (u_clr n usm) N).2.1 := by
      rcases c3 with c3 | ⟨-, c3⟩
      · exact c3.2
      · have := t_S_cnt (cap := cap) (flo := flo) (top := top) (eva := eva) (rul := nI i) (n := n) (inf := t_inf k lim ram (g_rf k rf2)) (us0 := u_clr n usm) N (by omega)
        rw [ti_lt] at c3
        have z1 : (100 : Int32).toInt = 100 := rfl
        omega
    have eG : f_X4_greatestLack fu h3 (B + 19 + 8) (nI N) = some (F i) := by
      have eb : b_most us' (nI N) n = F i := by rw [b_most_eq eU, hF]; rfl
      rw [← eb, St_eq s3]
      exact p_X4_greatestLack hn (by omega) (nI N)
    refine ⟨((bst F (i + 1)).1, (bst F (i + 1)).2, nI (i + 1), h3), ?_, h3, nI i, rfl, dn, lev', dry1, lo1, rf1, us', od', ra1, ac', s3, v3, a3, fun q hq => ?_⟩
    · have em : bst F (i + 1) = if nI i = (0 : Int32) then (nI i, F i) else if (bst F i).2 ≤ F i then bst F i else (nI i, F i) := rfl
      simp only [xf4, if_neg hle, rt_1 R2, Option.bind_some]
      rw [St_eq s1]
      simp only [hs_rul, rt_1 (Rt_hp R2 (show B < B + 19 by omega)), Option.bind_some, hi_st, e3, obind2_some, rt_1 R3, st_users s3, st_rn s3, st_iu s3, eG, obind1_some, oletk, em]
      by_cases c0 : nI i = (0 : Int32)
      · simp only [if_pos c0, obind2_some, olet, xnI_s]
      · by_cases c5 : (bst F i).2 ≤ F i
        · simp only [if_neg c0, if_pos c5, obind2_some, olet, xnI_s]
        · simp only [if_neg c0, if_neg c5, obind2_some, olet, xnI_s]
    · rw [f3 q (by omega), hp_out (by omega)]; exact f1 q hq
  case ke =>
    rintro st ⟨h2, ru, rfl, T2⟩
    refine ⟨((bst F 4).1, h2), ?_, h2, ru, rfl, T2⟩
    simp only [xf4]
    rw [if_pos (show (4 : Int32) ≤ nI 4 by decide)]
end PZ4
