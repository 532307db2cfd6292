/-! The setters, both sides. -/
theorem xnI_s1 (m : Nat) : nI (m + 1) - (1 : Int32) = nI m := by rw [← xnI_s]; grind
theorem i32_nle {a b : Int32} (h : ¬ a ≤ b) : b < a := by rw [ti_le] at h; rw [ti_lt]; omega
theorem i32_le {a b : Int32} (h : a ≤ b) : ¬ b < a := by rw [ti_le] at h; rw [ti_lt]; omega
section PW8
variable {B s L c k n N D : Nat} {h : XH} {cap flo top eva lim rul lev dry : Int32} {lo : Int64} {rf us : UT} {od ra ac : Nat → Int32} {ap : Int32} {rfm usm : UT} {ram acm sv as : Nat → Int32} {th : Int32} {sd : Int64} {td : Int32} {sp : Nat → Int64} {lf : Int32} {tx : Nat → Int32} {pl nb : Int32}
variable {fu : Nat}
theorem CT_rc (hC : CT c k n N D cap flo top eva lev lo ap rf us rfm usm ra ac ram acm) (hk : k < 6) {p q r t : Int32} (g : inR p 1 500 ∧ inR q 1 100 ∧ inR r 0 999 ∧ inR t 1 50000) :
    CT (c + 1) (k + 1) n N D cap flo top eva lev lo ap (xup rf k (xup (xup (xup (xup (xup (xup (rf k) 0 p) 1 q) 2 r) 3 t) 4 0) 5 0)) us (xup rfm k (xup (xup (xup (xup (xup (rfm k) 0 p) 1 q) 2 r) 3 t) 4 0)) usm ra ac ram acm := by
  obtain ⟨⟨a1, a2, a3, a4⟩, ⟨b1, b2, b3⟩, ⟨r1, r2, r3, r4⟩, h4, h5, h6, h7, h8⟩ := hC
  refine ⟨⟨hk, a2, a3, a4⟩, ⟨b1, b2, by omega⟩, ⟨fun i hi j hj => ?_, r2, r3, r4⟩, h4, h5, fun i hi => ?_, h7, h8⟩
  · by_cases e : i = k
    · subst e
      rw [xup_self, xup_self]
      have h5 : j = 0 ∨ j = 1 ∨ j = 2 ∨ j = 3 ∨ j = 4 := by omega
      rcases h5 with rfl | rfl | rfl | rfl | rfl <;> rfl
    · rw [xup_ne _ _ e, xup_ne _ _ e]; exact r1 i (by omega) j hj
  · by_cases e : i = k
    · subst e
      rw [xup_self]
      obtain ⟨g1, g2, g3, g4⟩ := g
      exact ⟨⟨g1, g2, g3, g4⟩, Int.le_refl 0, g3.1⟩
    · rw [xup_ne _ _ e]; exact h6 i (by omega)
theorem K_addRoof (hS : St (B + 1) h cap flo top eva lim rul (nI k) (nI n) (nI N) (nI D) lev dry lo rf us od ra ac) (hO : Ot B h s sv c L tx) (hM : Mp (B + 113) h cap flo top eva lim rul (nI k) (nI n) (nI N) (nI D) lev dry ap rfm usm ram acm sv as (nI s) th sd td sp lf tx (nI L) pl nb) (hC : CT c k n N D cap flo top eva lev lo ap rf us rfm usm ra ac ram acm) (hs : s ≤ 4) (hL : L ≤ 120) (hX : Oc B h) (hf : 3489 < fu) (p q r t : Int32) : KW Int32.toInt64 B c (f_L_addRoof fu h B p q r t (B + 119)) (fun g => f_X6_addRoof fu g (B + 113) p q r t) := by
  have hk : k ≤ 6 := hC.1.1
  by_cases g : inR p 1 500 ∧ inR q 1 100 ∧ inR r 0 999 ∧ inR t 1 50000
  · by_cases g2 : (6 : Int32) ≤ nI k
    · have e : f_X5_addRoof fu h B p q r t = some (.inr 1) := by
        simp only [f_X5_addRoof, cr_y g.1, cr_y g.2.1, cr_y g.2.2.1, cr_y g.2.2.2, oexc_inl, rt_0 hO.1, Option.bind_some, st_rc hS, if_neg (i32_le g2)]
      have eL : f_L_addRoof fu h B p q r t (B + 119) = some (2, h) := by
        simp only [f_L_addRoof, rt_is hO.1, Option.bind_some, e, xcatch_inr]
        rfl
      rw [eL]
      exact K_thr (by decide) hS hO hM hC hs hL hX (fun w hw => by
        show f_X6_addRoof fu w (B + 113) p q r t = _
        conv => lhs; rw [Mp_eq hw]
        rw [mg_addRoof hs hf hk, if_neg (fun f => f.2 g2), if_pos g, if_neg (fun f => f g2)])
    · have hk6 : k < 6 := by
        have e6 : (6 : Int32) = nI 6 := rfl
        rw [e6, xnI_le_iff (by omega) (by omega)] at g2
        omega
      obtain ⟨h1, e1, S1, O1, F1⟩ := w_save hO hS hC hs (show 7 < fu by omega)
      have R1 := O1.1
      obtain ⟨w, hw⟩ : ∃ w, w = h1 := ⟨_, rfl⟩
      have hx : xin (nI k) 6 = true := xin_nI hk6 (by decide)
      have h3 : (nI k).toNatClampNeg = k := xnI_nat (by omega)
      have e : f_X5_addRoof fu h B p q r t = some (.inl (nI k, hp (B + 1) w cap flo top eva lim rul (nI (k + 1)) (nI n) (nI N) (nI D) lev dry lo (xup rf k (xup (xup (xup (xup (xup (xup (rf k) 0 p) 1 q) 2 r) 3 t) 4 0) 5 0)) us od ra ac)) := by
        simp only [f_X5_addRoof, cr_y g.1, cr_y g.2.1, cr_y g.2.2.1, cr_y g.2.2.2, oexc_inl, rt_0 hO.1, Option.bind_some, st_rc hS, if_pos (i32_nle g2), rt_is hO.1, e1, obind1_some]
        rw [St_eq S1]
        simp only [rt_0 (Rt_hp R1 (show B < B + 1 by omega)), Option.bind_some, hg_roofs, hg_rc, hq_roof hx, h3, hi_roof hk6, p_X1_set hk6, obind1_some, xnI_s, hs_rc, xnI_s1, olift_some, hw]
      have eL : f_L_addRoof fu h B p q r t (B + 119) = (xastL (hp (B + 1) w cap flo top eva lim rul (nI (k + 1)) (nI n) (nI N) (nI D) lev dry lo (xup rf k (xup (xup (xup (xup (xup (xup (rf k) 0 p) 1 q) 2 r) 3 t) 4 0) 5 0)) us od ra ac) (B + 119) 0 (Int32.toInt64 (nI k))).bind fun h2 => some (0, h2) := by
        simp only [f_L_addRoof, rt_is hO.1, Option.bind_some, e, xcatch_inl]
      rw [eL]
      subst hw
      exact K_ret hM hX St_hp (Ot_fr O1 (fun q _ _ hq => hp_out (by omega))) (fun q hq => (hp_out (by omega)).trans (F1 q hq)) (CT_rc hC hk6 g) (by omega) hL (fun w hw => by
        show f_X6_addRoof fu w (B + 113) p q r t = _
        conv => lhs; rw [Mp_eq hw]
        rw [mg_addRoof hs hf hk, if_pos ⟨g, g2⟩])
  · have e : f_X5_addRoof fu h B p q r t = some (.inr 0) := by
      unfold f_X5_addRoof
      by_cases a1 : inR p 1 500
      · rw [cr_y a1, oexc_inl]
        by_cases a2 : inR q 1 100
        · rw [cr_y a2, oexc_inl]
          by_cases a3 : inR r 0 999
          · rw [cr_y a3, oexc_inl, cr_n (fun a4 => g ⟨a1, a2, a3, a4⟩), oexc_inr]
          · rw [cr_n a3, oexc_inr]
        · rw [cr_n a2, oexc_inr]
      · rw [cr_n a1, oexc_inr]
    have eL : f_L_addRoof fu h B p q r t (B + 119) = some (1, h) := by
      simp only [f_L_addRoof, rt_is hO.1, Option.bind_some, e, xcatch_inr]
      rfl
    rw [eL]
    exact K_thr (by decide) hS hO hM hC hs hL hX (fun w hw => by
      show f_X6_addRoof fu w (B + 113) p q r t = _
      conv => lhs; rw [Mp_eq hw]
      rw [mg_addRoof hs hf hk, if_neg (fun f => g f.1), if_neg g])
theorem CT_uc (hC : CT c k n N D cap flo top eva lev lo ap rf us rfm usm ra ac ram acm) (hn : n < 5) {p q : Int32} (g : inR p 0 9999 ∧ inR q 1 9) :
    CT (c + 1) k (n + 1) N D cap flo top eva lev lo ap rf (xup us n (xup (xup (xup (xup (us n) 0 p) 1 q) 2 0) 3 0)) rfm (xup usm n (xup (xup (xup (xup (usm n) 0 p) 1 q) 2 0) 3 0)) ra ac ram acm := by
  obtain ⟨⟨a1, a2, a3, a4⟩, ⟨b1, b2, b3⟩, ⟨r1, r2, r3, r4⟩, h4, h5, h6, h7, h8⟩ := hC
  refine ⟨⟨a1, hn, a3, a4⟩, ⟨b1, b2, by omega⟩, ⟨r1, fun i hi j hj => ?_, r3, r4⟩, h4, h5, h6, fun i hi => ?_, h8⟩
  · by_cases e : i = n
    · subst e
      rw [xup_self, xup_self]
      rcases xlt4 hj with rfl | rfl | rfl | rfl <;> rfl
    · rw [xup_ne _ _ e, xup_ne _ _ e]; exact r2 i (by omega) j hj
  · by_cases e : i = n
    · subst e
      rw [xup_self]
      exact ⟨g.1, g.2⟩
    · rw [xup_ne _ _ e]; exact h7 i (by omega)
theorem K_addUser (hS : St (B + 1) h cap flo top eva lim rul (nI k) (nI n) (nI N) (nI D) lev dry lo rf us od ra ac) (hO : Ot B h s sv c L tx) (hM : Mp (B + 113) h cap flo top eva lim rul (nI k) (nI n) (nI N) (nI D) lev dry ap rfm usm ram acm sv as (nI s) th sd td sp lf tx (nI L) pl nb) (hC : CT c k n N D cap flo top eva lev lo ap rf us rfm usm ra ac ram acm) (hs : s ≤ 4) (hL : L ≤ 120) (hX : Oc B h) (hf : 3489 < fu) (p q : Int32) : KW Int32.toInt64 B c (f_L_addUser fu h B p q (B + 119)) (fun g => f_X6_addUser fu g (B + 113) p q) := by
  have hn : n ≤ 5 := hC.1.2.1
  by_cases g : inR p 0 9999 ∧ inR q 1 9
  · by_cases g2 : (5 : Int32) ≤ nI n
    · have e : f_X5_addUser fu h B p q = some (.inr 1) := by
        simp only [f_X5_addUser, cr_y g.1, cr_y g.2, oexc_inl, rt_0 hO.1, Option.bind_some, st_users hS, st_uc hS, if_neg (i32_le g2)]
      have eL : f_L_addUser fu h B p q (B + 119) = some (2, h) := by
        simp only [f_L_addUser, rt_is hO.1, Option.bind_some, e, xcatch_inr]
        rfl
      rw [eL]
      exact K_thr (by decide) hS hO hM hC hs hL hX (fun w hw => by
        show f_X6_addUser fu w (B + 113) p q = _
        conv => lhs; rw [Mp_eq hw]
        rw [mg_addUser hs hf hn, if_neg (fun f => f.2 g2), if_pos g, if_neg (fun f => f g2)])
    · have hn5 : n < 5 := by
        have e6 : (5 : Int32) = nI 5 := rfl
        rw [e6, xnI_le_iff (by omega) (by omega)] at g2
        omega
      obtain ⟨h1, e1, S1, O1, F1⟩ := w_save hO hS hC hs (show 7 < fu by omega)
      have R1 := O1.1
      obtain ⟨w, hw⟩ : ∃ w, w = h1 := ⟨_, rfl⟩
      have hx : xin (nI n) 5 = true := xin_nI hn5 (by decide)
      have h3 : (nI n).toNatClampNeg = n := xnI_nat (by omega)
      have e : f_X5_addUser fu h B p q = some (.inl (nI n, hp (B + 1) w cap flo top eva lim rul (nI k) (nI (n + 1)) (nI N) (nI D) lev dry lo rf (xup us n (xup (xup (xup (xup (us n) 0 p) 1 q) 2 0) 3 0)) od ra ac)) := by
        simp only [f_X5_addUser, cr_y g.1, cr_y g.2, oexc_inl, rt_0 hO.1, Option.bind_some, st_users hS, st_uc hS, if_pos (i32_nle g2), rt_is hO.1, e1, obind1_some]
        rw [St_eq S1]
        simp only [rt_0 (Rt_hp R1 (show B < B + 1 by omega)), Option.bind_some, hg_users, hg_rows, hg_uc, hq_user hx, h3, hi_user hn5, p_X3_set hn5, obind1_some, xnI_s, hs_uc, xnI_s1, olift_some, hw]
      have eL : f_L_addUser fu h B p q (B + 119) = (xastL (hp (B + 1) w cap flo top eva lim rul (nI k) (nI (n + 1)) (nI N) (nI D) lev dry lo rf (xup us n (xup (xup (xup (xup (us n) 0 p) 1 q) 2 0) 3 0)) od ra ac) (B + 119) 0 (Int32.toInt64 (nI n))).bind fun h2 => some (0, h2) := by
        simp only [f_L_addUser, rt_is hO.1, Option.bind_some, e, xcatch_inl]
      rw [eL]
      subst hw
      exact K_ret hM hX St_hp (Ot_fr O1 (fun q _ _ hq => hp_out (by omega))) (fun q hq => (hp_out (by omega)).trans (F1 q hq)) (CT_uc hC hn5 g) (by omega) hL (fun w hw => by
        show f_X6_addUser fu w (B + 113) p q = _
        conv => lhs; rw [Mp_eq hw]
        rw [mg_addUser hs hf hn, if_pos ⟨g, g2⟩])
  · have e : f_X5_addUser fu h B p q = some (.inr 0) := by
      unfold f_X5_addUser
      by_cases a1 : inR p 0 9999
      · rw [cr_y a1, oexc_inl, cr_n (fun a2 => g ⟨a1, a2⟩), oexc_inr]
      · rw [cr_n a1, oexc_inr]
    have eL : f_L_addUser fu h B p q (B + 119) = some (1, h) := by
      simp only [f_L_addUser, rt_is hO.1, Option.bind_some, e, xcatch_inr]
      rfl
    rw [eL]
    exact K_thr (by decide) hS hO hM hC hs hL hX (fun w hw => by
      show f_X6_addUser fu w (B + 113) p q = _
      conv => lhs; rw [Mp_eq hw]
      rw [mg_addUser hs hf hn, if_neg (fun f => g f.1), if_neg g])
theorem CT_de (hC : CT c k n N D cap flo top eva lev lo ap rf us rfm usm ra ac ram acm) {i : Nat} (hi : i < n) {q : Int32} (g : inR q 0 9999) : CT (c + 1) k n N D cap flo top eva lev lo ap rf (xup us i (xup (us i) 0 q)) rfm (xup usm i (xup (usm i) 0 q)) ra ac ram acm := by
  obtain ⟨h1, ⟨b1, b2, b3⟩, ⟨r1, r2, r3, r4⟩, h4, h5, h6, h7, h8⟩ := hC
  refine ⟨h1, ⟨b1, b2, by omega⟩, ⟨r1, fun m hm' j hj => ?_, r3, r4⟩, h4, h5, h6, fun m hm' => ?_, h8⟩
  · by_cases e : m = i
    · subst e
      rw [xup_self, xup_self]
      by_cases ej : j = 0
      · subst ej; rw [xup_self, xup_self]
      · rw [xup_ne _ _ ej, xup_ne _ _ ej]; exact r2 m hm' j hj
    · rw [xup_ne _ _ e, xup_ne _ _ e]; exact r2 m hm' j hj
  · by_cases e : m = i
    · subst e
      rw [xup_self]
      exact ⟨g, (h7 m hm').2⟩
    · rw [xup_ne _ _ e]; exact h7 m hm'
theorem K_setDemand (hS : St (B + 1) h cap flo top eva lim rul (nI k) (nI n) (nI N) (nI D) lev dry lo rf us od ra ac) (hO : Ot B h s sv c L tx) (hM : Mp (B + 113) h cap flo top eva lim rul (nI k) (nI n) (nI N) (nI D) lev dry ap rfm usm ram acm sv as (nI s) th sd td sp lf tx (nI L) pl nb) (hC : CT c k n N D cap flo top eva lev lo ap rf us rfm usm ra ac ram acm) (hs : s ≤ 4) (hL : L ≤ 120) (hX : Oc B h) (hf : 3489 < fu) (x q : Int32) : KW Int32.toInt64 B c (f_L_setDemand fu h B x q (B + 119)) (fun g => f_X6_setDemand fu g (B + 113) x q) := by
  have hn : n ≤ 5 := hC.1.2.1
  by_cases c1 : 0 ≤ x.toInt ∧ x.toInt < n
  · by_cases c2 : inR q 0 9999
    · have e1 : f_X5_checkIndex x (nI n) = some (.inl ()) := ci_y (by omega) c1
      obtain ⟨i, hi, rfl⟩ := ix_of c1
      have hi5 : i < 5 := by omega
      obtain ⟨h1, e0, S1, O1, F1⟩ := w_save hO hS hC hs (show 7 < fu by omega)
      have R1 := O1.1
      obtain ⟨w, hw⟩ : ∃ w, w = h1 := ⟨_, rfl⟩
      have hx : xin (nI i) 5 = true := xin_nI hi5 (by decide)
      have h3 : (nI i).toNatClampNeg = i := xnI_nat (by omega)
      have e : f_X5_setDemand fu h B (nI i) q = some (.inl (us i 0, hp (B + 1) w cap flo top eva lim rul (nI k) (nI n) (nI N) (nI D) lev dry lo rf (xup us i (xup (us i) 0 q)) od ra ac)) := by
        simp only [f_X5_setDemand, rt_0 hO.1, Option.bind_some, st_users hS, st_uc hS, e1, cr_y c2, oexc_inl, rt_is hO.1, e0, obind1_some]
        rw [St_eq S1]
        simp only [rt_0 (Rt_hp R1 (show B < B + 1 by omega)), Option.bind_some, hg_users, hg_rows, hq_user hx, h3, hg_usr hi5 (show 0 < 4 by decide), hs_usr hi5 (show 0 < 4 by decide), olift_some, hw]
      have eL : f_L_setDemand fu h B (nI i) q (B + 119) = (xastL (hp (B + 1) w cap flo top eva lim rul (nI k) (nI n) (nI N) (nI D) lev dry lo rf (xup us i (xup (us i) 0 q)) od ra ac) (B + 119) 0 (Int32.toInt64 (usm i 0))).bind fun h2 => some (0, h2) := by
        simp only [f_L_setDemand, rt_is hO.1, Option.bind_some, e, xcatch_inl, hC.2.2.1.2.1 i hi 0 (show 0 < 4 by decide)]
      rw [eL]
      subst hw
      exact K_ret hM hX St_hp (Ot_fr O1 (fun q _ _ hq => hp_out (by omega))) (fun q hq => (hp_out (by omega)).trans (F1 q hq)) (CT_de hC hi c2) (by omega) hL (fun w hw => by
        show f_X6_setDemand fu w (B + 113) (nI i) q = _
        conv => lhs; rw [Mp_eq hw]
        exact mg_setDemand hs hf hn hi c2)
    · have e : f_X5_setDemand fu h B x q = some (.inr 0) := by
        simp only [f_X5_setDemand, rt_0 hO.1, Option.bind_some, st_users hS, st_uc hS, ci_y (show n < 1000000 by omega) c1, cr_n c2, oexc_inl, oexc_inr]
      have eL : f_L_setDemand fu h B x q (B + 119) = some (2, h) := by
        simp only [f_L_setDemand, rt_is hO.1, Option.bind_some, e, xcatch_inr]
        rfl
      rw [eL]
      exact K_thr (by decide) hS hO hM hC hs hL hX (fun w hw => by
        show f_X6_setDemand fu w (B + 113) x q = _
        conv => lhs; rw [Mp_eq hw]
        rw [mg_setDemand0 hn (fun f => c2 f.2), if_pos c1, if_neg c2])
  · have e : f_X5_setDemand fu h B x q = some (.inr 2) := by
      simp only [f_X5_setDemand, rt_0 hO.1, Option.bind_some, st_users hS, st_uc hS, ci_n (show n < 1000000 by omega) c1, oexc_inr]
    have eL : f_L_setDemand fu h B x q (B + 119) = some (1, h) := by
      simp only [f_L_setDemand, rt_is hO.1, Option.bind_some, e, xcatch_inr]
      rfl
    rw [eL]
    exact K_thr (by decide) hS hO hM hC hs hL hX (fun w hw => by
      show f_X6_setDemand fu w (B + 113) x q = _
      conv => lhs; rw [Mp_eq hw]
      rw [mg_setDemand0 hn (fun f => c1 f.1), if_neg c1])
theorem K_setWays (hS : St (B + 1) h cap flo top eva lim rul (nI k) (nI n) (nI N) (nI D) lev dry lo rf us od ra ac) (hO : Ot B h s sv c L tx) (hM : Mp (B + 113) h cap flo top eva lim rul (nI k) (nI n) (nI N) (nI D) lev dry ap rfm usm ram acm sv as (nI s) th sd td sp lf tx (nI L) pl nb) (hC : CT c k n N D cap flo top eva lev lo ap rf us rfm usm ra ac ram acm) (hs : s ≤ 4) (hL : L ≤ 120) (hX : Oc B h) (hf : 3489 < fu) (p q r : Int32) : KW Int32.toInt64 B c (f_L_setWays fu h B p q r (B + 119)) (fun g => f_X6_setWays fu g (B + 113) p q r) := by
  by_cases g : inR p 0 100 ∧ inR q 1 20 ∧ inR r 0 3
  · obtain ⟨h1, e0, S1, O1, F1⟩ := w_save hO hS hC hs (show 7 < fu by omega)
    have R1 := O1.1
    obtain ⟨w, hw⟩ : ∃ w, w = h1 := ⟨_, rfl⟩
    have e : f_X5_setWays fu h B p q r = some (.inl (rul, hp (B + 1) w cap flo top p q r (nI k) (nI n) (nI N) (nI D) lev dry lo rf us od ra ac)) := by
      simp only [f_X5_setWays, cr_y g.1, cr_y g.2.1, cr_y g.2.2, oexc_inl, rt_is hO.1, Option.bind_some, e0, obind1_some]
      rw [St_eq S1]
      simp only [rt_0 (Rt_hp R1 (show B < B + 1 by omega)), Option.bind_some, hg_rul, hs_eva, hs_lim, hs_rul, olift_some, hw]
    have eL : f_L_setWays fu h B p q r (B + 119) = (xastL (hp (B + 1) w cap flo top p q r (nI k) (nI n) (nI N) (nI D) lev dry lo rf us od ra ac) (B + 119) 0 (Int32.toInt64 rul)).bind fun h2 => some (0, h2) := by
      simp only [f_L_setWays, rt_is hO.1, Option.bind_some, e, xcatch_inl]
    rw [eL]
    subst hw
    have C1 := CT_c hC
    exact K_ret hM hX St_hp (Ot_fr O1 (fun q _ _ hq => hp_out (by omega))) (fun q hq => (hp_out (by omega)).trans (F1 q hq)) ⟨C1.1, C1.2.1, C1.2.2.1, ⟨C1.2.2.2.1.1, C1.2.2.2.1.2.1, C1.2.2.2.1.2.2.1, g.1⟩, C1.2.2.2.2⟩ (by omega) hL (fun w hw => by
      show f_X6_setWays fu w (B + 113) p q r = _
      conv => lhs; rw [Mp_eq hw]
      rw [mg_setWays hs hf, if_pos g])
  · have e : f_X5_setWays fu h B p q r = some (.inr 0) := by
      unfold f_X5_setWays
      by_cases a1 : inR p 0 100
      · rw [cr_y a1, oexc_inl]
        by_cases a2 : inR q 1 20
        · rw [cr_y a2, oexc_inl, cr_n (fun a3 => g ⟨a1, a2, a3⟩), oexc_inr]
        · rw [cr_n a2, oexc_inr]
      · rw [cr_n a1, oexc_inr]
    have eL : f_L_setWays fu h B p q r (B + 119) = some (1, h) := by
      simp only [f_L_setWays, rt_is hO.1, Option.bind_some, e, xcatch_inr]
      rfl
    rw [eL]
    exact K_thr (by decide) hS hO hM hC hs hL hX (fun w hw => by
      show f_X6_setWays fu w (B + 113) p q r = _
      conv => lhs; rw [Mp_eq hw]
      rw [mg_setWays hs hf, if_neg g])
theorem CT_res (hC : CT c k n N D cap flo top eva lev lo ap rf us rfm usm ra ac ram acm) (hc : c < 1000) {p q r : Int32} (g : inR p 100 60000 ∧ inR q 0 p ∧ inR r 0 p) :
    CT (c + 1) k n N D p q r eva (lev - xmax (lev - p) 0) (lo + Int32.toInt64 (xmax (lev - p) 0)) (if lev ≤ p then ap else ap + (lev - p)) rf us rfm usm ra ac ram acm ∧ (if lev ≤ p then lev else p) = lev - xmax (lev - p) 0 := by
  obtain ⟨h1, ⟨b1, b2, b3⟩, h3, h4, ⟨h5, h5'⟩, h6⟩ := hC
  obtain ⟨g1, g2, g3⟩ := g
  obtain ⟨l1, l2⟩ := h4.1
  have z0 : (0 : Int32).toInt = 0 := rfl
  have z1 : (100 : Int32).toInt = 100 := rfl
  have z6 : (60000 : Int32).toInt = 60000 := rfl
  have g11 : 100 ≤ p.toInt := g1.1
  have g12 : p.toInt ≤ 60000 := g1.2
  have es : (lev - p).toInt = lev.toInt - p.toInt := ti_sub (by omega) (by omega)
  have em : (xmax (lev - p) 0).toInt = max (lev.toInt - p.toInt) 0 := by rw [ti_max, es, z0]
  have el : (lev - xmax (lev - p) 0).toInt = lev.toInt - max (lev.toInt - p.toInt) 0 := by rw [ti_sub (by rw [em]; omega) (by rw [em]; omega), em]
  have eo : (lo + Int32.toInt64 (xmax (lev - p) 0)).toInt = lo.toInt + max (lev.toInt - p.toInt) 0 := by
    rw [Int64.toInt_add, Int32.toInt_toInt64, em, Int.bmod_eq_of_le (by omega) (by omega)]
  refine ⟨⟨h1, ⟨?_, by rw [eo]; omega, by rw [eo]; omega⟩, h3, ⟨g1, g2, g3, h4.2.2.2⟩, ⟨by rw [el]; omega, by rw [el]; omega⟩, h6⟩, ?_⟩
  · by_cases cl : lev ≤ p
    · rw [if_pos cl, eo, b1]
      rw [ti_le] at cl
      omega
    · rw [if_neg cl, eo, ti_add (by rw [es]; omega) (by rw [es]; omega), es, b1]
      rw [ti_le] at cl
      omega
  · apply ti_ext
    rw [el]
    by_cases cl : lev ≤ p
    · rw [if_pos cl]; rw [ti_le] at cl; omega
    · rw [if_neg cl]; rw [ti_le] at cl; omega
theorem K_setReservoir (hS : St (B + 1) h cap flo top eva lim rul (nI k) (nI n) (nI N) (nI D) lev dry lo rf us od ra ac) (hO : Ot B h s sv c L tx) (hM : Mp (B + 113) h cap flo top eva lim rul (nI k) (nI n) (nI N) (nI D) lev dry ap rfm usm ram acm sv as (nI s) th sd td sp lf tx (nI L) pl nb) (hC : CT c k n N D cap flo top eva lev lo ap rf us rfm usm ra ac ram acm) (hs : s ≤ 4) (hL : L ≤ 120) (hX : Oc B h) (hf : 3489 < fu) (hc : c < 1000) (p q r : Int32) : KW Int32.toInt64 B c (f_L_setReservoir fu h B p q r (B + 119)) (fun g => f_X6_setReservoir fu g (B + 113) p q r) := by
  by_cases g : inR p 100 60000 ∧ inR q 0 p ∧ inR r 0 p
  · obtain ⟨h1, e0, S1, O1, F1⟩ := w_save hO hS hC hs (show 7 < fu by omega)
    have R1 := O1.1
    obtain ⟨w, hw⟩ : ∃ w, w = h1 := ⟨_, rfl⟩
    have e : f_X5_setReservoir fu h B p q r = some (.inl (cap, hp (B + 1) w p q r eva lim rul (nI k) (nI n) (nI N) (nI D) (lev - xmax (lev - p) 0) dry (lo + Int32.toInt64 (xmax (lev - p) 0)) rf us od ra ac)) := by
      simp only [f_X5_setReservoir, cr_y g.1, cr_y g.2.1, cr_y g.2.2, oexc_inl, rt_is hO.1, Option.bind_some, e0, obind1_some]
      rw [St_eq S1]
      simp only [rt_0 (Rt_hp R1 (show B < B + 1 by omega)), Option.bind_some, hg_cap, hs_cap, hs_flo, hs_top, hg_lo, hi_st, p_X2_drop, obind2_some, hs_lo, olift_some, hw]
    have eL : f_L_setReservoir fu h B p q r (B + 119) = (xastL (hp (B + 1) w p q r eva lim rul (nI k) (nI n) (nI N) (nI D) (lev - xmax (lev - p) 0) dry (lo + Int32.toInt64 (xmax (lev - p) 0)) rf us od ra ac) (B + 119) 0 (Int32.toInt64 cap)).bind fun h2 => some (0, h2) := by
      simp only [f_L_setReservoir, rt_is hO.1, Option.bind_some, e, xcatch_inl]
    rw [eL]
    subst hw
    obtain ⟨C1, C2⟩ := CT_res hC hc g
    exact K_ret hM hX St_hp (Ot_fr O1 (fun q _ _ hq => hp_out (by omega))) (fun q hq => (hp_out (by omega)).trans (F1 q hq)) C1 (by omega) hL (fun w hw => by
      show f_X6_setReservoir fu w (B + 113) p q r = _
      conv => lhs; rw [Mp_eq hw]
      rw [mg_setReservoir hs hf, if_pos g, C2])
  · have e : f_X5_setReservoir fu h B p q r = some (.inr 0) := by
      unfold f_X5_setReservoir
      by_cases a1 : inR p 100 60000
      · rw [cr_y a1, oexc_inl]
        by_cases a2 : inR q 0 p
        · rw [cr_y a2, oexc_inl, cr_n (fun a3 => g ⟨a1, a2, a3⟩), oexc_inr]
        · rw [cr_n a2, oexc_inr]
      · rw [cr_n a1, oexc_inr]
    have eL : f_L_setReservoir fu h B p q r (B + 119) = some (1, h) := by
      simp only [f_L_setReservoir, rt_is hO.1, Option.bind_some, e, xcatch_inr]
      rfl
    rw [eL]
    exact K_thr (by decide) hS hO hM hC hs hL hX (fun w hw => by
      show f_X6_setReservoir fu w (B + 113) p q r = _
      conv => lhs; rw [Mp_eq hw]
      rw [mg_setReservoir hs hf, if_neg g])
end PW8
