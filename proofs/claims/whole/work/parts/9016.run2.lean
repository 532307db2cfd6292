/-! run, both sides: the days one after the other. -/
theorem okd_U4 {n : Nat} {u v : UT} (h : U4 n u v) (ho : u_okd n u) : u_okd n v := by
  intro i hi
  rw [← h i hi 0 (by decide), ← h i hi 1 (by decide)]; exact ho i hi
section PY1
variable {B s L c k n N D : Nat} {h : XH} {cap flo top eva lim rul lev dry : Int32} {lo : Int64} {rf us : UT} {od ra ac : Nat → Int32} {ap : Int32} {rfm usm : UT} {ram acm sv as : Nat → Int32} {th : Int32} {sd : Int64} {td : Int32} {sp : Nat → Int64} {lf : Int32} {tx : Nat → Int32} {pl nb : Int32}
variable {fu : Nat}
def cdays (cap flo top eva lim rul : Int32) (k n : Nat) (ra : Nat → Int32) (D : Nat) (x : CS) (d : Nat) : CS := it (fun i x => cday cap flo top eva lim rul k n ra (D + i) x) x d
theorem mg_runloop (hC : CT c k n N D cap flo top eva lev lo ap rf us rfm usm ra ac ram acm) {d : Nat} (hd : D + d ≤ N) (hf : 600010 < fu) {W : XH} {X : Nat → CS} (hX : X = cdays cap flo top eva lim rul k n ra D (0, lev, dry, rf, us, od, ac)) :
    ∃ (rfm' usm' : UT) (acm' : Nat → Int32) (td' : Int32) (sp' : Nat → Int64) (lf' : Int32), xloop (xf3 fun (v10 : Int32) (v11 : Int32) (h3 : XH) => if nI d ≤ v11 then some (.inr (v10, h3)) else (xis h3 (B + 113) 6).bind fun v13 => obind2 (f_X6_does fu h3 (B + 113)) fun v14 h5 =>
        obind1 (if v14 = (0 : Int32) then some (0 : Int32) else some (1 : Int32)) fun v15 => olet ((v10 + v15)) fun v16 => olet (v11 + (1 : Int32)) fun v17 => some (.inl (v16, v17, h5))) fu ((0 : Int32), (0 : Int32), hm (B + 113) W cap flo top eva lim rul (nI k) (nI n) (nI N) (nI D) lev dry ap rfm usm ram acm sv as (nI s) th sd td sp lf tx (nI L) pl nb) =
      some ((X d).1, hm (B + 113) W cap flo top eva lim rul (nI k) (nI n) (nI N) (nI (D + d)) ((X d).2.1) ((X d).2.2.1) ap rfm' usm' ram acm' sv as (nI s) th sd td' sp' lf' tx (nI L) pl nb) ∧
      CT c k n N (D + d) cap flo top eva (X d).2.1 lo ap (X d).2.2.2.1 (X d).2.2.2.2.1 rfm' usm' ra (X d).2.2.2.2.2.2 ram acm' := by
  have hk : k ≤ 6 := hC.1.1
  have hn : n ≤ 5 := hC.1.2.1
  have hN : N ≤ 100 := hC.1.2.2.1
  have key := xloop_P (body := xf3 fun (v10 : Int32) (v11 : Int32) (h3 : XH) => if nI d ≤ v11 then some (.inr (v10, h3)) else (xis h3 (B + 113) 6).bind fun v13 => obind2 (f_X6_does fu h3 (B + 113)) fun v14 h5 =>
        obind1 (if v14 = (0 : Int32) then some (0 : Int32) else some (1 : Int32)) fun v15 => olet ((v10 + v15)) fun v16 => olet (v11 + (1 : Int32)) fun v17 => some (.inl (v16, v17, h5)))
    (s0 := ((0 : Int32), (0 : Int32), hm (B + 113) W cap flo top eva lim rul (nI k) (nI n) (nI N) (nI D) lev dry ap rfm usm ram acm sv as (nI s) th sd td sp lf tx (nI L) pl nb)) (fu := fu)
    (fun i st => ∃ (rfm' usm' : UT) (acm' : Nat → Int32) (td' : Int32) (sp' : Nat → Int64) (lf' : Int32), st = ((X i).1, nI i, hm (B + 113) W cap flo top eva lim rul (nI k) (nI n) (nI N) (nI (D + i)) ((X i).2.1) ((X i).2.2.1) ap rfm' usm' ram acm' sv as (nI s) th sd td' sp' lf' tx (nI L) pl nb) ∧
      CT c k n N (D + i) cap flo top eva (X i).2.1 lo ap (X i).2.2.2.1 (X i).2.2.2.2.1 rfm' usm' ra (X i).2.2.2.2.2.2 ram acm')
    (fun r => ∃ (rfm' usm' : UT) (acm' : Nat → Int32) (td' : Int32) (sp' : Nat → Int64) (lf' : Int32), r = ((X d).1, hm (B + 113) W cap flo top eva lim rul (nI k) (nI n) (nI N) (nI (D + d)) ((X d).2.1) ((X d).2.2.1) ap rfm' usm' ram acm' sv as (nI s) th sd td' sp' lf' tx (nI L) pl nb) ∧
      CT c k n N (D + d) cap flo top eva (X d).2.1 lo ap (X d).2.2.2.1 (X d).2.2.2.2.1 rfm' usm' ra (X d).2.2.2.2.2.2 ram acm')
    d ?k0 ?ks ?ke (by omega)
  · obtain ⟨r, e, rfm', usm', acm', td', sp', lf', rfl, h2⟩ := key
    exact ⟨rfm', usm', acm', td', sp', lf', e, h2⟩
  case k0 =>
    subst hX
    exact ⟨rfm, usm, acm, td, sp, lf, rfl, hC⟩
  case ks =>
    rintro i st hi ⟨rfm', usm', acm', td', sp', lf', rfl, C1⟩
    left
    have hle : ¬ nI d ≤ nI i := nI_ge hi (by omega)
    have hDi : D + i < N := by omega
    have r1 := C1.2.2.1.1
    have r2 := C1.2.2.1.2.1
    have r3 := C1.2.2.1.2.2.1 (D + i) hDi
    have hrng := C1.2.2.2.2.2.2.2 (D + i) hDi
    rw [r3] at hrng
    obtain ⟨v, e, hv⟩ := p_X6_does (b := B + 113) (W := W) (cap := cap) (flo := flo) (top := top) (eva := eva) (lim := lim) (rul := rul) (rn := nI N) (lev := (X i).2.1) (dry := (X i).2.2.1) (ap := ap) (rf := rfm') (us := usm') (ra := ram) (ac := acm') (sv := sv) (as := as) (sm := nI s) (th := th) (sd := sd) (td := td') (sp := sp') (lf := lf') (tx := tx) (tl := nI L) (pl := pl) (nb := nb) hk hn hf (show D + i < 100 by omega) (R5_ok r1 C1.2.2.2.2.2.1) (okd_ok (okd_U4 r2 C1.2.2.2.2.2.2.1)) (s_cf_lev C1.2.2.2.1 C1.2.2.2.2.1) hrng (X i).2.2.2.2.2.1
    obtain ⟨D1, D2, D3, D4⟩ := CT_day (lim := lim) (rul := rul) (dry := (X i).2.2.1) (od := (X i).2.2.2.2.2.1) (sp := sp') C1 hDi hv (X i).1
    have eX : X (i + 1) = cday cap flo top eva lim rul k n ra (D + i) ((X i).1, (X i).2.1, (X i).2.2.1, (X i).2.2.2.1, (X i).2.2.2.2.1, (X i).2.2.2.2.2.1, (X i).2.2.2.2.2.2) := by subst hX; rfl
    rw [← eX] at D1 D2 D3 D4
    refine ⟨((X (i + 1)).1, nI (i + 1), hm (B + 113) W cap flo top eva lim rul (nI k) (nI n) (nI N) (nI (D + (i + 1))) ((X (i + 1)).2.1) ((X (i + 1)).2.2.1) ap ((m_day k lim ((X i).2.2.1) (ram (D + i)) rfm' sp').2.2.2.1) ((s_hand cap flo eva rul ((X i).2.1) (m_day k lim ((X i).2.2.1) (ram (D + i)) rfm' sp').1 n ((X i).2.2.2.2.2.1) usm').2) ram (aday acm' (D + i) v) sv as (nI s) th sd (nI (D + i)) ((m_day k lim ((X i).2.2.1) (ram (D + i)) rfm' sp').2.2.2.2) (s_avl cap flo eva ((X i).2.1) (m_day k lim ((X i).2.2.1) (ram (D + i)) rfm' sp').1 - (s_hand cap flo eva rul ((X i).2.1) (m_day k lim ((X i).2.2.1) (ram (D + i)) rfm' sp').1 n ((X i).2.2.2.2.2.1) usm').1) tx (nI L) pl nb), ?_, _, _, _, _, _, _, rfl, D1⟩
    simp only [xf3, if_neg hle, gm_is, Option.bind_some, e, obind2_some, obind1_ite, xb01_if, olet, xnI_s, D2, D3, D4, Nat.add_assoc]
  case ke =>
    rintro st ⟨rfm', usm', acm', td', sp', lf', rfl, C1⟩
    refine ⟨((X d).1, hm (B + 113) W cap flo top eva lim rul (nI k) (nI n) (nI N) (nI (D + d)) ((X d).2.1) ((X d).2.2.1) ap rfm' usm' ram acm' sv as (nI s) th sd td' sp' lf' tx (nI L) pl nb), ?_, rfm', usm', acm', td', sp', lf', rfl, C1⟩
    simp only [xf3, Int32.le_refl, if_true]
theorem mg_run (hC : CT c k n N D cap flo top eva lev lo ap rf us rfm usm ra ac ram acm) (hs : s ≤ 4) {d : Nat} (hd : D + d ≤ N) (hf : 600010 < fu) {W : XH} {X : Nat → CS} (hX : X = cdays cap flo top eva lim rul k n ra D (0, lev, dry, rf, us, od, ac)) :
    ∃ (rfm' usm' : UT) (acm' : Nat → Int32) (td' : Int32) (sp' : Nat → Int64) (lf' : Int32), f_X6_run fu (hm (B + 113) W cap flo top eva lim rul (nI k) (nI n) (nI N) (nI D) lev dry ap rfm usm ram acm sv as (nI s) th sd td sp lf tx (nI L) pl nb) (B + 113) (nI d) =
      some ((X d).1, hm (B + 113) W cap flo top eva lim rul (nI k) (nI n) (nI N) (nI (D + d)) ((X d).2.1) ((X d).2.2.1) ap rfm' usm' ram acm' (m_sav s (m_al cap flo top eva lim rul (nI k) (nI n) (nI N) (nI D) lev dry ap rfm usm ram acm) sv) as (nI (min s 3 + 1)) 0 sd td' sp' lf' tx (nI L) pl nb) ∧
      CT c k n N (D + d) cap flo top eva (X d).2.1 lo ap (X d).2.2.2.1 (X d).2.2.2.2.1 rfm' usm' ra (X d).2.2.2.2.2.2 ram acm' := by
  have hN : N ≤ 100 := hC.1.2.2.1
  have e1 : f_X6_in (Int32.toInt64 (nI d)) (0 : Int64) (100 : Int64) = some (xb01 (inR (nI d) 0 100)) := p_X6_in32 _ 0 100
  have c1 : inR (nI d) 0 100 := by
    have z1 : (0 : Int32).toInt = 0 := rfl
    have z2 : (100 : Int32).toInt = 100 := rfl
    unfold inR
    rw [xnI_toInt (by omega), z1, z2]; omega
  have c2 : ¬ nI N < nI (D + d) := by rw [xnI_lt_iff (by omega) (by omega)]; omega
  obtain ⟨rfm', usm', acm', td', sp', lf', eL, C2⟩ := mg_runloop (B := B) (s := min s 3 + 1) (L := L) (sv := m_sav s (m_al cap flo top eva lim rul (nI k) (nI n) (nI N) (nI D) lev dry ap rfm usm ram acm) sv) (as := as) (th := 0) (sd := sd) (td := td) (sp := sp) (lf := lf) (tx := tx) (pl := pl) (nb := nb) (W := W) hC hd hf hX
  refine ⟨rfm', usm', acm', td', sp', lf', ?_, C2⟩
  simp only [f_X6_run, e1, obind1_some, oletk, gm_r1, gm_dn, gm_rn, gm_is, Option.bind_some, xnI_add, chlt, chs, p_X6_goes, obind2_some]
  simp only [xb01_0]
  rw [if_neg (fun f => f ⟨c1, c1, c2⟩), if_pos c1, if_pos ⟨c1, c2⟩]
  simp only [mg_save hs (show 3489 < fu by omega), obind1_some]
  rw [eL]
  rfl
theorem mg_run0 {q : Int32} (c : ¬ (inR q 0 100 ∧ ¬ nI N < nI D + q)) {W : XH} : f_X6_run fu (hm (B + 113) W cap flo top eva lim rul (nI k) (nI n) (nI N) (nI D) lev dry ap rfm usm ram acm sv as (nI s) th sd td sp lf tx (nI L) pl nb) (B + 113) q = some (0, hm (B + 113) W cap flo top eva lim rul (nI k) (nI n) (nI N) (nI D) lev dry ap rfm usm ram acm sv as (nI s) (if inR q 0 100 then 2 else 1) sd td sp lf tx (nI L) pl nb) := by
  have e1 : f_X6_in (Int32.toInt64 q) (0 : Int64) (100 : Int64) = some (xb01 (inR q 0 100)) := p_X6_in32 _ 0 100
  simp only [f_X6_run, e1, obind1_some, oletk, gm_r1, gm_dn, gm_rn, gm_is, Option.bind_some, chlt, chs, p_X6_goes, obind2_some]
  simp only [xb01_0]
  by_cases g : inR q 0 100
  · rw [if_pos (fun f => c f.2), if_pos g, if_neg (fun f => c f), if_pos g]
  · rw [if_pos (fun f => g f.1), if_neg g, if_neg g]
theorem K_run (hS : St (B + 1) h cap flo top eva lim rul (nI k) (nI n) (nI N) (nI D) lev dry lo rf us od ra ac) (hO : Ot B h s sv c L tx) (hM : Mp (B + 113) h cap flo top eva lim rul (nI k) (nI n) (nI N) (nI D) lev dry ap rfm usm ram acm sv as (nI s) th sd td sp lf tx (nI L) pl nb) (hC : CT c k n N D cap flo top eva lev lo ap rf us rfm usm ra ac ram acm) (hs : s ≤ 4) (hL : L ≤ 120) (hX : Oc B h) (hf : 600010 < fu) (q : Int32) : KW Int32.toInt64 B c (f_L_run fu h B q (B + 119)) (fun g => f_X6_run fu g (B + 113) q) := by
  have hk : k ≤ 6 := hC.1.1
  have hn : n ≤ 5 := hC.1.2.1
  have hN : N ≤ 100 := hC.1.2.2.1
  have hDN : D ≤ N := hC.1.2.2.2
  have esub : nI N - nI D = nI (N - D) := by
    have := xnI_subp D (N - D)
    rwa [show D + (N - D) = N by omega] at this
  by_cases g : inR q 0 100
  · obtain ⟨d, hd, rfl⟩ := ix_to (n := 100) rfl g
    by_cases g2 : D + d ≤ N
    · have hle : nI d ≤ nI (N - D) := by rw [xnI_le_iff (by omega) (by omega)]; omega
      obtain ⟨h1, e0, S1, O1, F1⟩ := w_save hO hS hC hs (show 7 < fu by omega)
      have R1 := O1.1
      obtain ⟨w, hw⟩ : ∃ w, w = h1 := ⟨_, rfl⟩
      obtain ⟨X, hXX⟩ : ∃ X, X = cdays cap flo top eva lim rul k n ra D (0, lev, dry, rf, us, od, ac) := ⟨_, rfl⟩
      have e : f_X5_run fu h B (nI d) = some (.inl ((X d).1, hp (B + 1) w cap flo top eva lim rul (nI k) (nI n) (nI N) (nI (D + d)) ((X d).2.1) ((X d).2.2.1) lo ((X d).2.2.2.1) ((X d).2.2.2.2.1) ((X d).2.2.2.2.2.1) ra ((X d).2.2.2.2.2.2))) := by
        simp only [f_X5_run, cr_y g, oexc_inl, rt_0 hO.1, Option.bind_some, st_rn hS, st_dn hS, esub, if_pos hle, rt_is hO.1, e0, obind1_some]
        rw [St_eq S1, xloop_E (fun i (x : CS) => (x.1, nI i, hp (B + 1) h1 cap flo top eva lim rul (nI k) (nI n) (nI N) (nI (D + i)) (x.2.1) (x.2.2.1) lo (x.2.2.2.1) (x.2.2.2.2.1) (x.2.2.2.2.2.1) ra (x.2.2.2.2.2.2))) (fun i x => cday cap flo top eva lim rul k n ra (D + i) x) (fun x => (x.1, hp (B + 1) h1 cap flo top eva lim rul (nI k) (nI n) (nI N) (nI (D + d)) (x.2.1) (x.2.2.1) lo (x.2.2.2.1) (x.2.2.2.2.1) (x.2.2.2.2.2.1) ra (x.2.2.2.2.2.2))) d (0, lev, dry, rf, us, od, ac) ?h0 ?hs ?he ?hf]
        · rw [obind2_some, olift_some, hw, hXX]
          rfl
        case h0 => rfl
        case hf => omega
        case hs =>
          intro i x hi
          have hle2 : ¬ nI d ≤ nI i := nI_ge hi (by omega)
          simp only [xf3, if_neg hle2, rt_0 (Rt_hp R1 (show B < B + 1 by omega)), Option.bind_some, hg_dn, hi_st, p_X2_collect hk (show 6 < fu by omega) (show D + i < 100 by omega), p_X2_serve hn (show 6 < fu by omega) (show D + i < 100 by omega), obind1_some, hs_dn, p_X2_isShort (show D + i < 100 by omega), s_acc_7, obind1_ite, olet, xnI_s, cday, Nat.add_assoc]
        case he =>
          intro x
          simp only [xf3, Int32.le_refl, if_true]
      have eL : f_L_run fu h B (nI d) (B + 119) = (xastL (hp (B + 1) w cap flo top eva lim rul (nI k) (nI n) (nI N) (nI (D + d)) ((X d).2.1) ((X d).2.2.1) lo ((X d).2.2.2.1) ((X d).2.2.2.2.1) ((X d).2.2.2.2.2.1) ra ((X d).2.2.2.2.2.2)) (B + 119) 0 (Int32.toInt64 (X d).1)).bind fun h2 => some (0, h2) := by
        simp only [f_L_run, rt_is hO.1, Option.bind_some, e, xcatch_inl]
      rw [eL]
      subst hw
      exact K_retE hM hX St_hp (Ot_fr O1 (fun q _ _ hq => hp_out (by omega))) (fun q hq => (hp_out (by omega)).trans (F1 q hq)) (by omega) hL (fun w hw => by
        obtain ⟨rfm', usm', acm', td', sp', lf', e9, C9⟩ := mg_run (B := B) (L := L) (sv := sv) (as := as) (th := th) (sd := sd) (td := td) (sp := sp) (lf := lf) (tx := tx) (pl := pl) (nb := nb) (W := w) hC hs g2 hf hXX
        rw [← Mp_eq hw] at e9
        exact ⟨ap, rfm', usm', ram, acm', as, sd, td', sp', lf', pl, nb, e9, CT_c C9⟩)
    · have hle : ¬ nI d ≤ nI (N - D) := by rw [xnI_le_iff (by omega) (by omega)]; omega
      have e : f_X5_run fu h B (nI d) = some (.inr 1) := by
        simp only [f_X5_run, cr_y g, oexc_inl, rt_0 hO.1, Option.bind_some, st_rn hS, st_dn hS, esub, if_neg hle]
      have eL : f_L_run fu h B (nI d) (B + 119) = some (2, h) := by
        simp only [f_L_run, rt_is hO.1, Option.bind_some, e, xcatch_inr]
        rfl
      rw [eL]
      exact K_thr (by decide) hS hO hM hC hs hL hX (fun w hw => by
        show f_X6_run fu w (B + 113) (nI d) = _
        conv => lhs; rw [Mp_eq hw]
        rw [mg_run0 (fun f => f.2 (by rw [xnI_add, xnI_lt_iff (by omega) (by omega)]; omega)), if_pos g])
  · have e : f_X5_run fu h B q = some (.inr 0) := by
      simp only [f_X5_run, cr_n g, oexc_inr]
    have eL : f_L_run fu h B q (B + 119) = some (1, h) := by
      simp only [f_L_run, rt_is hO.1, Option.bind_some, e, xcatch_inr]
      rfl
    rw [eL]
    exact K_thr (by decide) hS hO hM hC hs hL hX (fun w hw => by
      show f_X6_run fu w (B + 113) q = _
      conv => lhs; rw [Mp_eq hw]
      rw [mg_run0 (fun f => g f.1), if_neg g])
end PY1
