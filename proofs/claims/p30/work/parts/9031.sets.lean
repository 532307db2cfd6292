/-! An object of the class by itself: what its changes answer and leave. -/
theorem CO_of {c k n N D : Nat} {cap flo top eva lev : Int32} {lo : Int64} {ap : Int32} {rf us rfm usm : UT} {ra ac ram acm : Nat → Int32} (h : CT c k n N D cap flo top eva lev lo ap rf us rfm usm ra ac ram acm) : CO c k n N D cap flo top eva lev lo ap rf us ra ac :=
  ⟨h.1, h.2.1, ⟨fun _ _ _ _ => rfl, fun _ _ _ _ => rfl, fun _ _ => rfl, fun _ _ => rfl⟩, h.2.2.2⟩
section PW31
variable {B s L c k n N D : Nat} {h : XH} {cap flo top eva lim rul lev dry : Int32} {lo : Int64} {rf us : UT} {od ra ac : Nat → Int32} {ap : Int32} {sv tx : Nat → Int32} {fu : Nat}
theorem c_addRoof (hS : St (B + 1) h cap flo top eva lim rul (nI k) (nI n) (nI N) (nI D) lev dry lo rf us od ra ac) (hO : Ot B h s sv c L tx) (hC : CO c k n N D cap flo top eva lev lo ap rf us ra ac) (hs : s ≤ 4) (hf : 3489 < fu) {p q r t : Int32} (g : inR p 1 500 ∧ inR q 1 100 ∧ inR r 0 999 ∧ inR t 1 50000) (hk6 : k < 6) :
    ∃ (h1 : XH) (sv1 : Nat → Int32), f_X5_addRoof fu h B p q r t = some (.inl (nI k, h1)) ∧ St (B + 1) h1 cap flo top eva lim rul (nI (k + 1)) (nI n) (nI N) (nI D) lev dry lo (xup rf k (xup (xup (xup (xup (xup (xup (rf k) 0 p) 1 q) 2 r) 3 t) 4 0) 5 0)) us od ra ac ∧ Ot B h1 (min s 3 + 1) sv1 (c + 1) L tx ∧ (∀ q, ¬ (B ≤ q ∧ q < B + 113) → h1 q = h q) ∧
      CO (c + 1) (k + 1) n N D cap flo top eva lev lo ap (xup rf k (xup (xup (xup (xup (xup (xup (rf k) 0 p) 1 q) 2 r) 3 t) 4 0) 5 0)) us ra ac := by
  have hk : k ≤ 6 := hC.1.1
  have g2 : ¬ (6 : Int32) ≤ nI k := by
    have e6 : (6 : Int32) = nI 6 := rfl
    rw [e6, xnI_le_iff (by omega) (by omega)]; omega
  obtain ⟨h1, e1, S1, O1, F1⟩ := w_save hO hS hC hs (show 7 < fu by omega)
  have R1 := O1.1
  obtain ⟨w, hw⟩ : ∃ w, w = h1 := ⟨_, rfl⟩
  have hx : xin (nI k) 6 = true := xin_nI hk6 (by decide)
  have h3 : (nI k).toNatClampNeg = k := xnI_nat (by omega)
  have e : f_X5_addRoof fu h B p q r t = some (.inl (nI k, hp (B + 1) w cap flo top eva lim rul (nI (k + 1)) (nI n) (nI N) (nI D) lev dry lo (xup rf k (xup (xup (xup (xup (xup (xup (rf k) 0 p) 1 q) 2 r) 3 t) 4 0) 5 0)) us od ra ac)) := by
    simp only [f_X5_addRoof, cr_y g.1, cr_y g.2.1, cr_y g.2.2.1, cr_y g.2.2.2, oexc_inl, rt_0 hO.1, Option.bind_some, st_rc hS, if_pos (i32_nle g2), rt_is hO.1, e1, obind1_some]
    rw [St_eq S1]
    simp only [rt_0 (Rt_hp R1 (show B < B + 1 by omega)), Option.bind_some, hg_roofs, hg_rc, hq_roof hx, h3, hi_roof hk6, p_X1_set hk6, obind1_some, xnI_s, hs_rc, xnI_s1, olift_some, hw]
  rw [e]
  subst hw
  exact ⟨_, _, rfl, St_hp, Ot_c (Ot_fr O1 (fun q _ _ hq => hp_out (by omega))), fun q hq => (hp_out (by omega)).trans (F1 q hq), CO_of (CT_rc hC hk6 g)⟩
theorem c_addUser (hS : St (B + 1) h cap flo top eva lim rul (nI k) (nI n) (nI N) (nI D) lev dry lo rf us od ra ac) (hO : Ot B h s sv c L tx) (hC : CO c k n N D cap flo top eva lev lo ap rf us ra ac) (hs : s ≤ 4) (hf : 3489 < fu) {p q : Int32} (g : inR p 0 9999 ∧ inR q 1 9) (hn5 : n < 5) :
    ∃ (h1 : XH) (sv1 : Nat → Int32), f_X5_addUser fu h B p q = some (.inl (nI n, h1)) ∧ St (B + 1) h1 cap flo top eva lim rul (nI k) (nI (n + 1)) (nI N) (nI D) lev dry lo rf (xup us n (xup (xup (xup (xup (us n) 0 p) 1 q) 2 0) 3 0)) od ra ac ∧ Ot B h1 (min s 3 + 1) sv1 (c + 1) L tx ∧ (∀ q, ¬ (B ≤ q ∧ q < B + 113) → h1 q = h q) ∧
      CO (c + 1) k (n + 1) N D cap flo top eva lev lo ap rf (xup us n (xup (xup (xup (xup (us n) 0 p) 1 q) 2 0) 3 0)) ra ac := by
  have hn : n ≤ 5 := hC.1.2.1
  have g2 : ¬ (5 : Int32) ≤ nI n := by
    have e6 : (5 : Int32) = nI 5 := rfl
    rw [e6, xnI_le_iff (by omega) (by omega)]; omega
  obtain ⟨h1, e1, S1, O1, F1⟩ := w_save hO hS hC hs (show 7 < fu by omega)
  have R1 := O1.1
  obtain ⟨w, hw⟩ : ∃ w, w = h1 := ⟨_, rfl⟩
  have hx : xin (nI n) 5 = true := xin_nI hn5 (by decide)
  have h3 : (nI n).toNatClampNeg = n := xnI_nat (by omega)
  have e : f_X5_addUser fu h B p q = some (.inl (nI n, hp (B + 1) w cap flo top eva lim rul (nI k) (nI (n + 1)) (nI N) (nI D) lev dry lo rf (xup us n (xup (xup (xup (xup (us n) 0 p) 1 q) 2 0) 3 0)) od ra ac)) := by
    simp only [f_X5_addUser, cr_y g.1, cr_y g.2, oexc_inl, rt_0 hO.1, Option.bind_some, st_users hS, st_uc hS, if_pos (i32_nle g2), rt_is hO.1, e1, obind1_some]
    rw [St_eq S1]
    simp only [rt_0 (Rt_hp R1 (show B < B + 1 by omega)), Option.bind_some, hg_users, hg_rows, hg_uc, hq_user hx, h3, hi_user hn5, p_X3_set hn5, obind1_some, xnI_s, hs_uc, xnI_s1, olift_some, hw]
  rw [e]
  subst hw
  exact ⟨_, _, rfl, St_hp, Ot_c (Ot_fr O1 (fun q _ _ hq => hp_out (by omega))), fun q hq => (hp_out (by omega)).trans (F1 q hq), CO_of (CT_uc hC hn5 g)⟩
theorem c_setWays (hS : St (B + 1) h cap flo top eva lim rul (nI k) (nI n) (nI N) (nI D) lev dry lo rf us od ra ac) (hO : Ot B h s sv c L tx) (hC : CO c k n N D cap flo top eva lev lo ap rf us ra ac) (hs : s ≤ 4) (hf : 3489 < fu) {p q r : Int32} (g : inR p 0 100 ∧ inR q 1 20 ∧ inR r 0 3) :
    ∃ (h1 : XH) (sv1 : Nat → Int32), f_X5_setWays fu h B p q r = some (.inl (rul, h1)) ∧ St (B + 1) h1 cap flo top p q r (nI k) (nI n) (nI N) (nI D) lev dry lo rf us od ra ac ∧ Ot B h1 (min s 3 + 1) sv1 (c + 1) L tx ∧ (∀ q, ¬ (B ≤ q ∧ q < B + 113) → h1 q = h q) ∧ CO (c + 1) k n N D cap flo top p lev lo ap rf us ra ac := by
  obtain ⟨h1, e0, S1, O1, F1⟩ := w_save hO hS hC hs (show 7 < fu by omega)
  have R1 := O1.1
  obtain ⟨w, hw⟩ : ∃ w, w = h1 := ⟨_, rfl⟩
  have e : f_X5_setWays fu h B p q r = some (.inl (rul, hp (B + 1) w cap flo top p q r (nI k) (nI n) (nI N) (nI D) lev dry lo rf us od ra ac)) := by
    simp only [f_X5_setWays, cr_y g.1, cr_y g.2.1, cr_y g.2.2, oexc_inl, rt_is hO.1, Option.bind_some, e0, obind1_some]
    rw [St_eq S1]
    simp only [rt_0 (Rt_hp R1 (show B < B + 1 by omega)), Option.bind_some, hg_rul, hs_eva, hs_lim, hs_rul, olift_some, hw]
  rw [e]
  subst hw
  have C1 := CT_c hC
  exact ⟨_, _, rfl, St_hp, Ot_c (Ot_fr O1 (fun q _ _ hq => hp_out (by omega))), fun q hq => (hp_out (by omega)).trans (F1 q hq), ⟨C1.1, C1.2.1, C1.2.2.1, ⟨C1.2.2.2.1.1, C1.2.2.2.1.2.1, C1.2.2.2.1.2.2.1, g.1⟩, C1.2.2.2.2⟩⟩
theorem c_setReservoir (hS : St (B + 1) h cap flo top eva lim rul (nI k) (nI n) (nI N) (nI D) lev dry lo rf us od ra ac) (hO : Ot B h s sv c L tx) (hC : CO c k n N D cap flo top eva lev lo ap rf us ra ac) (hs : s ≤ 4) (hf : 3489 < fu) (hc : c < 1000) {p q r : Int32} (g : inR p 100 60000 ∧ inR q 0 p ∧ inR r 0 p) :
    ∃ (h1 : XH) (sv1 : Nat → Int32), f_X5_setReservoir fu h B p q r = some (.inl (cap, h1)) ∧ St (B + 1) h1 p q r eva lim rul (nI k) (nI n) (nI N) (nI D) (lev - xmax (lev - p) 0) dry (lo + Int32.toInt64 (xmax (lev - p) 0)) rf us od ra ac ∧ Ot B h1 (min s 3 + 1) sv1 (c + 1) L tx ∧ (∀ q, ¬ (B ≤ q ∧ q < B + 113) → h1 q = h q) ∧
      CO (c + 1) k n N D p q r eva (lev - xmax (lev - p) 0) (lo + Int32.toInt64 (xmax (lev - p) 0)) (if lev ≤ p then ap else ap + (lev - p)) rf us ra ac := by
  obtain ⟨h1, e0, S1, O1, F1⟩ := w_save hO hS hC hs (show 7 < fu by omega)
  have R1 := O1.1
  obtain ⟨w, hw⟩ : ∃ w, w = h1 := ⟨_, rfl⟩
  have e : f_X5_setReservoir fu h B p q r = some (.inl (cap, hp (B + 1) w p q r eva lim rul (nI k) (nI n) (nI N) (nI D) (lev - xmax (lev - p) 0) dry (lo + Int32.toInt64 (xmax (lev - p) 0)) rf us od ra ac)) := by
    simp only [f_X5_setReservoir, cr_y g.1, cr_y g.2.1, cr_y g.2.2, oexc_inl, rt_is hO.1, Option.bind_some, e0, obind1_some]
    rw [St_eq S1]
    simp only [rt_0 (Rt_hp R1 (show B < B + 1 by omega)), Option.bind_some, hg_cap, hs_cap, hs_flo, hs_top, hg_lo, hi_st, p_X2_drop, obind2_some, hs_lo, olift_some, hw]
  rw [e]
  subst hw
  exact ⟨_, _, rfl, St_hp, Ot_c (Ot_fr O1 (fun q _ _ hq => hp_out (by omega))), fun q hq => (hp_out (by omega)).trans (F1 q hq), (CT_res hC hc g).1⟩
theorem c_restart (hS : St (B + 1) h cap flo top eva lim rul (nI k) (nI n) (nI N) (nI D) lev dry lo rf us od ra ac) (hO : Ot B h s sv c L tx) (hC : CO c k n N D cap flo top eva lev lo ap rf us ra ac) (hs : s ≤ 4) (hf : 3489 < fu) :
    ∃ h1 : XH, f_X5_restart fu h B = some (nI D, h1) ∧ St (B + 1) h1 cap flo top eva lim rul (nI k) (nI n) (nI N) (nI 0) 0 0 0 (g_rf k rf) (u_clr n us) od ra ac ∧ Ot B h1 (min s 3 + 1) (m_sav s (m_al cap flo top eva lim rul (nI k) (nI n) (nI N) (nI D) lev dry ap rf us ra ac) sv) (c + 1) L tx ∧ (∀ q, ¬ (B ≤ q ∧ q < B + 113) → h1 q = h q) ∧
      CO (c + 1) k n N 0 cap flo top eva 0 0 0 (g_rf k rf) (u_clr n us) ra ac := by
  have hk : k ≤ 6 := hC.1.1
  have hn : n ≤ 5 := hC.1.2.1
  obtain ⟨h1, e0, S1, O1, F1⟩ := w_save hO hS hC hs (show 7 < fu by omega)
  have R1 := O1.1
  obtain ⟨w, hw⟩ : ∃ w, w = h1 := ⟨_, rfl⟩
  have e : f_X5_restart fu h B = some (nI D, hp (B + 1) w cap flo top eva lim rul (nI k) (nI n) (nI N) 0 0 0 0 (g_rf k rf) (u_clr n us) od ra ac) := by
    simp only [f_X5_restart, rt_is hO.1, Option.bind_some, e0, obind1_some]
    rw [St_eq S1]
    simp only [rt_0 (Rt_hp R1 (show B < B + 1 by omega)), Option.bind_some, hg_dn, hi_st, p_X2_goBack hk hn (show 6 < fu by omega), obind1_some, hw]
  rw [e]
  subst hw
  exact ⟨_, rfl, St_hp, Ot_c (Ot_fr O1 (fun q _ _ hq => hp_out (by omega))), fun q hq => (hp_out (by omega)).trans (F1 q hq), CO_of (CT_back hC)⟩
theorem c_random (hS : St (B + 1) h cap flo top eva lim rul (nI k) (nI n) (nI N) (nI D) lev dry lo rf us od ra ac) (hO : Ot B h s sv c L tx) (hC : CO c k n N D cap flo top eva lev lo ap rf us ra ac) (hs : s ≤ 4) (hf : 3489 < fu) {d : Nat} (hd : N + d ≤ 100) {p r t : Int32} (g : inR p 0 999999 ∧ inR (nI d) 1 100 ∧ inR r 0 100 ∧ inR t 1 200) :
    ∃ (h1 : XH) (sv1 : Nat → Int32), f_X5_addRandomRain fu h B p (nI d) r t = some (.inl (nI (N + d), h1)) ∧ St (B + 1) h1 cap flo top eva lim rul (nI k) (nI n) (nI (N + d)) (nI D) lev dry lo rf us od (rrs r t N d (Int32.toInt64 p, ra)).2 ac ∧ Ot B h1 (min s 3 + 1) sv1 (c + 1) L tx ∧ (∀ q, ¬ (B ≤ q ∧ q < B + 113) → h1 q = h q) ∧
      CO (c + 1) k n (N + d) D cap flo top eva lev lo ap rf us (rrs r t N d (Int32.toInt64 p, ra)).2 ac := by
  have ht : 1 ≤ t.toInt ∧ t.toInt ≤ 200 := g.2.2.2
  have e6 : (100 : Int32) = nI 100 := rfl
  have hle : nI (N + d) ≤ (100 : Int32) := by rw [e6, xnI_le_iff (by omega) (by omega)]; exact hd
  obtain ⟨h1, e0, S1, O1, F1⟩ := w_save hO hS hC hs (show 7 < fu by omega)
  have R1 := O1.1
  obtain ⟨w, hw⟩ : ∃ w, w = h1 := ⟨_, rfl⟩
  have e : f_X5_addRandomRain fu h B p (nI d) r t = some (.inl (nI (N + d), hp (B + 1) w cap flo top eva lim rul (nI k) (nI n) (nI (N + d)) (nI D) lev dry lo rf us od (rrs r t N d (Int32.toInt64 p, ra)).2 ac)) := by
    simp only [f_X5_addRandomRain, cr_y g.1, cr_y g.2.1, cr_y g.2.2.1, cr_y g.2.2.2, oexc_inl, rt_is hO.1, Option.bind_some, f_X5_checkRoomForDays, rt_0 hO.1, st_rn hS, xnI_add, if_pos hle, olift_some, e0, obind1_some, olet]
    have hG1 : ∀ s, Int32.toInt64 r ≤ rq (rr_n s) (100 : Int64) → rr1 r s = rr_n s ∧ rr2 r t s = 0 := fun s c => ⟨if_pos c, if_pos c⟩
    have hG2 : ∀ s, ¬ Int32.toInt64 r ≤ rq (rr_n s) (100 : Int64) → rr1 r s = rr_n (rr_n s) ∧ rr2 r t s = 1 + Int64.toInt32 (rq (rr_n (rr_n s)) (Int32.toInt64 t)) := fun s c => ⟨if_neg c, if_neg c⟩
    have hnz := rr_nz ht.1
    have en : ∀ y, f_X5_nextRandom y = some (rr_n y) := fun _ => rfl
    unfold rrs
    generalize rr1 r = G1 at hG1 hG2 ⊢
    generalize rr2 r t = G2 at hG1 hG2 ⊢
    rw [St_eq S1, xloop_E (fun i (x : Int64 × (Nat → Int32)) => (x.1, nI i, hp (B + 1) h1 cap flo top eva lim rul (nI k) (nI n) (nI (N + i)) (nI D) lev dry lo rf us od x.2 ac)) (fun i x => (G1 x.1, xup x.2 (N + i) (G2 x.1))) (fun x => hp (B + 1) h1 cap flo top eva lim rul (nI k) (nI n) (nI (N + d)) (nI D) lev dry lo rf us od x.2 ac) d (Int32.toInt64 p, ra) ?h0 ?hs ?he ?hf]
    · simp only [obind1_some, rt_0 (Rt_hp R1 (show B < B + 1 by omega)), Option.bind_some, hg_rn, olift_some, hw]
      rfl
    case h0 => rfl
    case hf => omega
    case hs =>
      intro i x hi
      have hle2 : ¬ nI d ≤ nI i := nI_ge hi (by omega)
      have q1 : N + i < 100 := by omega
      simp only [xf3, if_neg hle2]
      rw [en, obind1_some, rq_eq]
      by_cases c : Int32.toInt64 r ≤ rq (rr_n x.1) (100 : Int64)
      · have er2 := hG1 _ c
        rw [if_pos c, obind2_some]
        simp only [rt_0 (Rt_hp R1 (show B < B + 1 by omega)), Option.bind_some, hi_st, p_X2_putRain q1, obind1_some, xnI_s, er2.1, er2.2, Nat.add_assoc]
      · have er2 := hG2 _ c
        rw [if_neg c, en, obind1_some, hnz, Option.bind_some, rq_eq, obind2_some]
        simp only [rt_0 (Rt_hp R1 (show B < B + 1 by omega)), Option.bind_some, hi_st, p_X2_putRain q1, obind1_some, xnI_s, er2.1, er2.2, Nat.add_assoc]
    case he =>
      intro x
      simp only [xf3, Int32.le_refl, if_true]
  rw [e]
  subst hw
  exact ⟨_, _, rfl, St_hp, Ot_c (Ot_fr O1 (fun q _ _ hq => hp_out (by omega))), fun q hq => (hp_out (by omega)).trans (F1 q hq), CO_of (CT_rand hC hd g.1 g.2.2.2)⟩
theorem c_run (hS : St (B + 1) h cap flo top eva lim rul (nI k) (nI n) (nI N) (nI D) lev dry lo rf us od ra ac) (hO : Ot B h s sv c L tx) (hC : CO c k n N D cap flo top eva lev lo ap rf us ra ac) (hs : s ≤ 4) (hf : 600010 < fu) {d : Nat} (hd : D + d ≤ N) {X : Nat → CS} (hXX : X = cdays cap flo top eva lim rul k n ra D (0, lev, dry, rf, us, od, ac)) :
    ∃ (h1 : XH) (sv1 : Nat → Int32), f_X5_run fu h B (nI d) = some (.inl ((X d).1, h1)) ∧ St (B + 1) h1 cap flo top eva lim rul (nI k) (nI n) (nI N) (nI (D + d)) ((X d).2.1) ((X d).2.2.1) lo ((X d).2.2.2.1) ((X d).2.2.2.2.1) ((X d).2.2.2.2.2.1) ra ((X d).2.2.2.2.2.2) ∧ Ot B h1 (min s 3 + 1) sv1 (c + 1) L tx ∧ ∀ q, ¬ (B ≤ q ∧ q < B + 113) → h1 q = h q := by
  have hk : k ≤ 6 := hC.1.1
  have hn : n ≤ 5 := hC.1.2.1
  have hN : N ≤ 100 := hC.1.2.2.1
  have hDN : D ≤ N := hC.1.2.2.2
  have esub : nI N - nI D = nI (N - D) := by
    have := xnI_subp D (N - D)
    rwa [show D + (N - D) = N by omega] at this
  have g : inR (nI d) 0 100 := by
    have z1 : (0 : Int32).toInt = 0 := rfl
    have z2 : (100 : Int32).toInt = 100 := rfl
    unfold inR
    rw [xnI_toInt (by omega), z1, z2]; omega
  have hle : nI d ≤ nI (N - D) := by rw [xnI_le_iff (by omega) (by omega)]; omega
  obtain ⟨h1, e0, S1, O1, F1⟩ := w_save hO hS hC hs (show 7 < fu by omega)
  have R1 := O1.1
  obtain ⟨w, hw⟩ : ∃ w, w = h1 := ⟨_, rfl⟩
  have e : f_X5_run fu h B (nI d) = some (.inl ((X d).1, hp (B + 1) w cap flo top eva lim rul (nI k) (nI n) (nI N) (nI (D + d)) ((X d).2.1) ((X d).2.2.1) lo ((X d).2.2.2.1) ((X d).2.2.2.2.1) ((X d).2.2.2.2.2.1) ra ((X d).2.2.2.2.2.2))) := by
    simp only [f_X5_run, cr_y g, oexc_inl, rt_0 hO.1, Option.bind_some, st_rn hS, st_dn hS, esub, if_pos hle, rt_is hO.1, e0, obind1_some]
    rw [St_eq S1, xloop_E (fun i (x : CS) => (x.1, nI i, hp (B + 1) h1 cap flo top eva lim rul (nI k) (nI n) (nI N) (nI (D + i)) (x.2.1) (x.2.2.1) lo (x.2.2.2.1) (x.2.2.2.2.1) (x.2.2.2.2.2.1) ra (x.2.2.2.2.2.2))) (fun i x => cday cap flo top eva lim rul k n ra (D + i) x) (fun x => (x.1, hp (B + 1) h1 cap flo top eva lim rul (nI k) (nI n) (nI N) (nI (D + d)) (x.2.1) (x.2.2.1) lo (x.2.2.2.1) (x.2.2.2.2.1) (x.2.2.2.2.2.1) ra (x.2.2.2.2.2.2))) d (0, lev, dry, rf, us, od, ac) ?h0 ?hs ?he ?hf]
    · rw [obind2_some, olift_some, hw, hXX]
      rfl
    case h0 => rfl
    case hf => omega
    case hs =>
      intro i x hi
      have hle2 : ¬ nI d ≤ nI i := nI_ge hi (by omega)
      simp only [xf3, if_neg hle2, rt_0 (Rt_hp R1 (show B < B + 1 by omega)), Option.bind_some, hg_dn, hi_st, p_X2_collect hk (show 6 < fu by omega) (show D + i < 100 by omega), p_X2_serve hn (show 6 < fu by omega) (show D + i < 100 by omega), obind1_some, hs_dn, p_X2_isShort (show D + i < 100 by omega), s_acc_7, obind1_ite, olet, xnI_s, cday, Nat.add_assoc]
    case he =>
      intro x
      simp only [xf3, Int32.le_refl, if_true]
  rw [e]
  subst hw
  exact ⟨_, _, rfl, St_hp, Ot_c (Ot_fr O1 (fun q _ _ hq => hp_out (by omega))), fun q hq => (hp_out (by omega)).trans (F1 q hq)⟩
end PW31
