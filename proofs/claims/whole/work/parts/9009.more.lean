/-! restart, addRain, append, clearText, both sides. -/
theorem fill_s (v : Int32) (c n : Nat) (fo : Nat → Int32) : fill v c (n + 1) fo = xup (fill v c n fo) (c + n) v := rfl
theorem xnar {p : Int32} (h : inR p 0 127) : vp_nar .byte (Int8.toInt32 (Int32.toInt8 p)) = p := by
  obtain ⟨i, hi, rfl⟩ := ix_to (n := 127) rfl h
  have H : ∀ m, m < 128 → vp_nar .byte (Int8.toInt32 (Int32.toInt8 (nI m))) = nI m := by decide +kernel
  exact H i hi
section PW9
variable {B s L c k n N D : Nat} {h : XH} {cap flo top eva lim rul lev dry : Int32} {lo : Int64} {rf us : UT} {od ra ac : Nat → Int32} {ap : Int32} {rfm usm : UT} {ram acm sv as : Nat → Int32} {th : Int32} {sd : Int64} {td : Int32} {sp : Nat → Int64} {lf : Int32} {tx : Nat → Int32} {pl nb : Int32}
variable {fu : Nat}
theorem u_clr_at {u : UT} {i : Nat} (hi : i < n) : u_clr n u i = xup (xup (u i) 2 0) 3 0 := by
  have e : u_clr n u = u_map (fun _ r => xup (xup r 2 0) 3 0) n u := it_map (fun _ r => xup (xup r 2 0) 3 0) n u
  rw [e]
  simp only [u_map, if_pos hi]
theorem U4_clr {u v : UT} (h : U4 n u v) : U4 n (u_clr n u) (u_clr n v) := by
  intro i hi j hj
  rw [u_clr_at hi, u_clr_at hi]
  rcases xlt4 hj with rfl | rfl | rfl | rfl
  · exact h i hi 0 hj
  · exact h i hi 1 hj
  · rfl
  · rfl
theorem okd_col {u v : UT} (h : u_col u v) (ho : u_okd n u) : u_okd n v := by
  intro i hi
  rw [← (h i).1, ← (h i).2]; exact ho i hi
theorem okd_ok {u : UT} (ho : u_okd n u) : u_ok n u := fun i hi => ⟨⟨(ho i hi).1.1, by have := (ho i hi).1.2; omega⟩, (ho i hi).2⟩
theorem CT_back (hC : CT c k n N D cap flo top eva lev lo ap rf us rfm usm ra ac ram acm) : CT (c + 1) k n N 0 cap flo top eva 0 0 0 (g_rf k rf) (u_clr n us) (mg_rf k rfm) (u_clr n usm) ra ac ram acm := by
  obtain ⟨⟨a1, a2, a3, a4⟩, hb, ⟨r1, r2, r3, r4⟩, h4, ⟨h5, h5'⟩, h6, h7, h8⟩ := hC
  have z0 : (0 : Int32).toInt = 0 := rfl
  have z1 : (0 : Int64).toInt = 0 := rfl
  exact ⟨⟨a1, a2, a3, Nat.zero_le _⟩, ⟨rfl, Int.le_refl 0, by rw [z1]; omega⟩, ⟨(g_rf_R5 r1).1, U4_clr r2, r3, fun j hj => by omega⟩, h4, ⟨Int.le_refl 0, by rw [z0]; omega⟩, g_rf_ok h6, okd_col (u_clr_col n us) h7, h8⟩
theorem K_restart (hS : St (B + 1) h cap flo top eva lim rul (nI k) (nI n) (nI N) (nI D) lev dry lo rf us od ra ac) (hO : Ot B h s sv c L tx) (hM : Mp (B + 113) h cap flo top eva lim rul (nI k) (nI n) (nI N) (nI D) lev dry ap rfm usm ram acm sv as (nI s) th sd td sp lf tx (nI L) pl nb) (hC : CT c k n N D cap flo top eva lev lo ap rf us rfm usm ra ac ram acm) (hs : s ≤ 4) (hL : L ≤ 120) (hX : Oc B h) (hf : 3489 < fu) : KV B c (f_X5_restart fu h B) (fun g => f_X6_restart fu g (B + 113)) := by
  have hk : k ≤ 6 := hC.1.1
  have hn : n ≤ 5 := hC.1.2.1
  obtain ⟨h1, e0, S1, O1, F1⟩ := w_save hO hS hC hs (show 7 < fu by omega)
  have R1 := O1.1
  obtain ⟨w, hw⟩ : ∃ w, w = h1 := ⟨_, rfl⟩
  have e : f_X5_restart fu h B = some (nI D, hp (B + 1) w cap flo top eva lim rul (nI k) (nI n) (nI N) 0 0 0 0 (g_rf k rf) (u_clr n us) od ra ac) := by
    simp only [f_X5_restart, rt_is hO.1, Option.bind_some, e0, obind1_some]
    rw [St_eq S1]
    simp only [rt_0 (Rt_hp R1 (show B < B + 1 by omega)), Option.bind_some, hg_dn, hi_st, p_X2_goBack hk hn (show 6 < fu by omega), obind1_some, hw]
  rw [e]
  subst hw
  exact KV_ret (D' := 0) hM hX St_hp (Ot_fr O1 (fun q _ _ hq => hp_out (by omega))) (fun q hq => (hp_out (by omega)).trans (F1 q hq)) (CT_back hC) (by omega) hL (fun w hw => by
    show f_X6_restart fu w (B + 113) = _
    conv => lhs; rw [Mp_eq hw]
    exact mg_restart hs hf hk hn)
theorem CT_rain (hC : CT c k n N D cap flo top eva lev lo ap rf us rfm usm ra ac ram acm) {d : Nat} (hd : N + d ≤ 100) {p : Int32} (g : inR p 0 200) : CT (c + 1) k n (N + d) D cap flo top eva lev lo ap rf us rfm usm (fill p N d ra) ac (fill p N d ram) acm := by
  obtain ⟨⟨a1, a2, a3, a4⟩, ⟨b1, b2, b3⟩, ⟨r1, r2, r3, r4⟩, h4, h5, h6, h7, h8⟩ := hC
  refine ⟨⟨a1, a2, hd, by omega⟩, ⟨b1, b2, by omega⟩, ⟨r1, r2, fun j hj => ?_, r4⟩, h4, h5, h6, h7, fun j hj => ?_⟩
  · rw [fill_at, fill_at]
    by_cases e : N ≤ j ∧ j < N + d
    · rw [if_pos e, if_pos e]
    · rw [if_neg e, if_neg e]; exact r3 j (by omega)
  · rw [fill_at]
    by_cases e : N ≤ j ∧ j < N + d
    · rw [if_pos e]; exact g
    · rw [if_neg e]; exact h8 j (by omega)
theorem K_addRain (hS : St (B + 1) h cap flo top eva lim rul (nI k) (nI n) (nI N) (nI D) lev dry lo rf us od ra ac) (hO : Ot B h s sv c L tx) (hM : Mp (B + 113) h cap flo top eva lim rul (nI k) (nI n) (nI N) (nI D) lev dry ap rfm usm ram acm sv as (nI s) th sd td sp lf tx (nI L) pl nb) (hC : CT c k n N D cap flo top eva lev lo ap rf us rfm usm ra ac ram acm) (hs : s ≤ 4) (hL : L ≤ 120) (hX : Oc B h) (hf : 3489 < fu) (p q : Int32) : KW Int32.toInt64 B c (f_L_addRain fu h B p q (B + 119)) (fun g => f_X6_addRain fu g (B + 113) p q) := by
  have hN : N ≤ 100 := hC.1.2.2.1
  by_cases g : inR p 0 200 ∧ inR q 1 100
  · have g0 : (0 : Int32).toInt ≤ q.toInt ∧ q.toInt ≤ (100 : Int32).toInt := by
      have z1 : (1 : Int32).toInt = 1 := rfl
      have z0 : (0 : Int32).toInt = 0 := rfl
      have := g.2.1
      have := g.2.2
      omega
    obtain ⟨d, hd, rfl⟩ := ix_to (n := 100) rfl g0
    have hd1 : 1 ≤ d := by
      have z1 : (1 : Int32).toInt = 1 := rfl
      have := g.2.1
      rw [xnI_toInt (by omega), z1] at this
      omega
    have e6 : (100 : Int32) = nI 100 := rfl
    by_cases g2 : N + d ≤ 100
    · have hle : nI (N + d) ≤ (100 : Int32) := by rw [e6, xnI_le_iff (by omega) (by omega)]; exact g2
      obtain ⟨h1, e0, S1, O1, F1⟩ := w_save hO hS hC hs (show 7 < fu by omega)
      have R1 := O1.1
      obtain ⟨w, hw⟩ : ∃ w, w = h1 := ⟨_, rfl⟩
      have e : f_X5_addRain fu h B p (nI d) = some (.inl (nI (N + d), hp (B + 1) w cap flo top eva lim rul (nI k) (nI n) (nI (N + d)) (nI D) lev dry lo rf us od (fill p N d ra) ac)) := by
        simp only [f_X5_addRain, cr_y g.1, cr_y g.2, oexc_inl, rt_is hO.1, Option.bind_some, f_X5_checkRoomForDays, rt_0 hO.1, st_rn hS, xnI_add, if_pos hle, olift_some, e0, obind1_some]
        rw [St_eq S1, xloop_E (fun i (r : Nat → Int32) => (nI i, hp (B + 1) h1 cap flo top eva lim rul (nI k) (nI n) (nI (N + i)) (nI D) lev dry lo rf us od r ac)) (fun i r => xup r (N + i) p) (fun r => hp (B + 1) h1 cap flo top eva lim rul (nI k) (nI n) (nI (N + d)) (nI D) lev dry lo rf us od r ac) d ra ?h0 ?hs ?he ?hf]
        · simp only [obind1_some, rt_0 (Rt_hp R1 (show B < B + 1 by omega)), Option.bind_some, hg_rn, olift_some, hw]
          rfl
        case h0 => rfl
        case hf => omega
        case hs =>
          intro i r hi
          have hle2 : ¬ nI d ≤ nI i := nI_ge hi (by omega)
          simp only [xf2, if_neg hle2, rt_0 (Rt_hp R1 (show B < B + 1 by omega)), Option.bind_some, hi_st, p_X2_putRain (show N + i < 100 by omega), obind1_some, olet, xnI_s, Nat.add_assoc]
        case he =>
          intro r
          simp only [xf2, Int32.le_refl, if_true]
      have eL : f_L_addRain fu h B p (nI d) (B + 119) = (xastL (hp (B + 1) w cap flo top eva lim rul (nI k) (nI n) (nI (N + d)) (nI D) lev dry lo rf us od (fill p N d ra) ac) (B + 119) 0 (Int32.toInt64 (nI (N + d)))).bind fun h2 => some (0, h2) := by
        simp only [f_L_addRain, rt_is hO.1, Option.bind_some, e, xcatch_inl]
      rw [eL]
      subst hw
      exact K_ret hM hX St_hp (Ot_fr O1 (fun q _ _ hq => hp_out (by omega))) (fun q hq => (hp_out (by omega)).trans (F1 q hq)) (CT_rain hC g2 g.1) (by omega) hL (fun w hw => by
        show f_X6_addRain fu w (B + 113) p (nI d) = _
        conv => lhs; rw [Mp_eq hw]
        exact mg_addRain hs hf g2 hd1 g.1)
    · have hle : ¬ nI (N + d) ≤ (100 : Int32) := by rw [e6, xnI_le_iff (by omega) (by omega)]; exact g2
      have e : f_X5_addRain fu h B p (nI d) = some (.inr 1) := by
        simp only [f_X5_addRain, cr_y g.1, cr_y g.2, oexc_inl, rt_is hO.1, Option.bind_some, f_X5_checkRoomForDays, rt_0 hO.1, st_rn hS, xnI_add, if_neg hle, oexc_inr]
      have eL : f_L_addRain fu h B p (nI d) (B + 119) = some (2, h) := by
        simp only [f_L_addRain, rt_is hO.1, Option.bind_some, e, xcatch_inr]
        rfl
      rw [eL]
      exact K_thr (by decide) hS hO hM hC hs hL hX (fun w hw => by
        show f_X6_addRain fu w (B + 113) p (nI d) = _
        conv => lhs; rw [Mp_eq hw]
        rw [mg_addRain0 (fun f => f.2 (by rw [xnI_add]; exact i32_nle hle)), if_pos g])
  · have e : f_X5_addRain fu h B p q = some (.inr 0) := by
      unfold f_X5_addRain
      by_cases a1 : inR p 0 200
      · rw [cr_y a1, oexc_inl, cr_n (fun a2 => g ⟨a1, a2⟩), oexc_inr]
      · rw [cr_n a1, oexc_inr]
    have eL : f_L_addRain fu h B p q (B + 119) = some (1, h) := by
      simp only [f_L_addRain, rt_is hO.1, Option.bind_some, e, xcatch_inr]
      rfl
    rw [eL]
    exact K_thr (by decide) hS hO hM hC hs hL hX (fun w hw => by
      show f_X6_addRain fu w (B + 113) p q = _
      conv => lhs; rw [Mp_eq hw]
      rw [mg_addRain0 (fun f => g f.1), if_neg g])
theorem tt_tl (hT : Tt B h L tx) : xgI h (B + 110) 0 1 = some (nI L) := by
  obtain ⟨fc, pa, nu, fo, e⟩ := Tt_eq hT
  rw [e]; exact tg_tl
theorem Ot_ht (hO : Ot B h s sv c L tx) {L' : Nat} {fc pa nu : Int32} {tx' fo : Nat → Int32} : Ot B (ht (B + 110) h (nI L') fc pa nu tx' fo) s sv c L' tx' :=
  ⟨Rt_ht hO.1 (by omega), Tr_fr hO.2.1 (fun q h1 h2 => ht_out (by omega)), Sd_fr hO.2.2.1 (fun q h1 h2 => ht_out (by omega)), Tt_ht⟩
theorem K_append (hS : St (B + 1) h cap flo top eva lim rul (nI k) (nI n) (nI N) (nI D) lev dry lo rf us od ra ac) (hO : Ot B h s sv c L tx) (hM : Mp (B + 113) h cap flo top eva lim rul (nI k) (nI n) (nI N) (nI D) lev dry ap rfm usm ram acm sv as (nI s) th sd td sp lf tx (nI L) pl nb) (hC : CT c k n N D cap flo top eva lev lo ap rf us rfm usm ra ac ram acm) (hs : s ≤ 4) (hL : L ≤ 120) (hX : Oc B h) (p : Int32) : KW Int32.toInt64 B c (f_L_append h B p (B + 119)) (fun g => f_X6_append g (B + 113) p) := by
  have e6 : (120 : Int32) = nI 120 := rfl
  by_cases g : inR p 0 127
  · by_cases g2 : (120 : Int32) ≤ nI L
    · have e : f_X5_append h B p = some (.inr 1) := by
        simp only [f_X5_append, cr_y g, oexc_inl, rt_4 hO.1, tt_tl hO.2.2.2, Option.bind_some, if_neg (i32_le g2)]
      have eL : f_L_append h B p (B + 119) = some (2, h) := by
        simp only [f_L_append, rt_is hO.1, Option.bind_some, e, xcatch_inr]
        rfl
      rw [eL]
      exact K_thr (by decide) hS hO hM hC hs hL hX (fun w hw => by
        show f_X6_append w (B + 113) p = _
        conv => lhs; rw [Mp_eq hw]
        rw [mg_append hL, if_neg (fun f => f.2 g2), if_pos g])
    · have hL1 : L < 120 := by
        rw [e6, xnI_le_iff (by omega) (by omega)] at g2
        omega
      obtain ⟨fc, pa, nu, fo, eT⟩ := Tt_eq hO.2.2.2
      obtain ⟨w, hw⟩ : ∃ w, w = h := ⟨_, rfl⟩
      have hx : xin (nI L) 120 = true := xin_nI hL1 (by decide)
      have h3 : (nI L).toNatClampNeg = L := xnI_nat (by omega)
      have e : f_X5_append h B p = some (.inl (nI (L + 1), ht (B + 110) w (nI (L + 1)) fc pa nu (xup tx L p) fo)) := by
        have R0 := hO.1
        simp only [f_X5_append, cr_y g, oexc_inl, rt_4 hO.1, tt_tl hO.2.2.2, Option.bind_some, if_pos (i32_nle g2), xnar g]
        rw [eT]
        simp only [rt_4 (Rt_ht R0 (show B < B + 110 by omega)), Option.bind_some, tg_r1, tg_tl, tt_by_ hx, h3, xnI_s, ts_tl, olift_some, hw]
      have eL : f_L_append h B p (B + 119) = (xastL (ht (B + 110) w (nI (L + 1)) fc pa nu (xup tx L p) fo) (B + 119) 0 (Int32.toInt64 (nI (L + 1)))).bind fun h2 => some (0, h2) := by
        simp only [f_L_append, rt_is hO.1, Option.bind_some, e, xcatch_inl]
      rw [eL]
      subst hw
      exact K_ret hM hX (St_fr hS (fun q h1 h2 => ht_out (by omega))) (Ot_ht hO) (fun q hq => ht_out (by omega)) (CT_c hC) hs (by omega) (fun w hw => by
        show f_X6_append w (B + 113) p = _
        conv => lhs; rw [Mp_eq hw]
        rw [mg_append hL, if_pos ⟨g, g2⟩])
  · have e : f_X5_append h B p = some (.inr 0) := by
      simp only [f_X5_append, cr_n g, oexc_inr]
    have eL : f_L_append h B p (B + 119) = some (1, h) := by
      simp only [f_L_append, rt_is hO.1, Option.bind_some, e, xcatch_inr]
      rfl
    rw [eL]
    exact K_thr (by decide) hS hO hM hC hs hL hX (fun w hw => by
      show f_X6_append w (B + 113) p = _
      conv => lhs; rw [Mp_eq hw]
      rw [mg_append hL, if_neg (fun f => g f.1), if_neg g])
theorem K_clearText (hS : St (B + 1) h cap flo top eva lim rul (nI k) (nI n) (nI N) (nI D) lev dry lo rf us od ra ac) (hO : Ot B h s sv c L tx) (hM : Mp (B + 113) h cap flo top eva lim rul (nI k) (nI n) (nI N) (nI D) lev dry ap rfm usm ram acm sv as (nI s) th sd td sp lf tx (nI L) pl nb) (hC : CT c k n N D cap flo top eva lev lo ap rf us rfm usm ra ac ram acm) (hs : s ≤ 4) (hL : L ≤ 120) (hX : Oc B h) : KV B c (f_X5_clearText h B) (fun g => f_X6_clearText g (B + 113)) := by
  obtain ⟨fc, pa, nu, fo, eT⟩ := Tt_eq hO.2.2.2
  obtain ⟨w, hw⟩ : ∃ w, w = h := ⟨_, rfl⟩
  have e : f_X5_clearText h B = some (nI L, ht (B + 110) w 0 fc pa nu tx fo) := by
    simp only [f_X5_clearText, rt_4 hO.1, Option.bind_some, tt_tl hO.2.2.2]
    rw [eT]
    simp only [ts_tl, Option.bind_some, hw]
  rw [e]
  subst hw
  exact KV_ret (L' := 0) hM hX (St_fr hS (fun q h1 h2 => ht_out (by omega))) (Ot_ht hO) (fun q hq => ht_out (by omega)) (CT_c hC) hs (by omega) (fun w hw => by
    show f_X6_clearText w (B + 113) = _
    conv => lhs; rw [Mp_eq hw]
    exact mg_clear)
end PW9
