/-! A step of the law. -/
theorem ob1 {α ω : Type} {G : Option α} {F : α → Option ω} {a : α} (e : G = some a) : obind1 G F = F a := by rw [e]; rfl
theorem obd {α ω : Type} {G : Option α} {F : α → Option ω} {a : α} (e : G = some a) : G.bind F = F a := by rw [e]; rfl
theorem obx2 {α ω : Type} {G : Option ((Int32 × α) ⊕ Nat)} {F : Int32 → α → Option ω} {a : Int32} {b : α} (e : G = some (.inl (a, b))) : obind2 (xinl G) F = F a b := by rw [e]; rfl
theorem obx1 {α ω : Type} {G : Option (α ⊕ Nat)} {F : α → Option ω} {a : α} (e : G = some (.inl a)) : obind1 (xinl G) F = F a := by rw [e]; rfl
theorem xbool_1 : xbool (1 : Int32) = some 1 := by decide
theorem pl_100a (a : Nat) : (100 : Int32) + nI a = nI (100 + a) := by
  have e2 : (100 : Int32) = nI 100 := rfl
  rw [e2, xnI_add]
theorem sets_ok {B c k n N D fu : Nat} {h : XH} (hf : 600010 < fu) (hc : c < 1000) (H : Two B h c k n N D) (x : Int32) :
    ∃ z : Int32 × XH, f_L_sets fu h B (B + 113) x = some z ∧ z.1 = 1 ∧ Two B z.2 (c + 1) k n N D := by
  obtain ⟨a, ha, e1⟩ := up_ok x (q := 9000) (m := 9000) rfl (by omega) (by omega)
  obtain ⟨b, hb, e3⟩ := up_ok (x >>> ((8 : Int32) &&& (31 : Int32))) (q := 200) (m := 200) rfl (by omega) (by omega)
  obtain ⟨t, ht, e6⟩ := up_ok (x >>> ((12 : Int32) &&& (31 : Int32))) (q := 3) (m := 3) rfl (by omega) (by omega)
  obtain ⟨w, hw, e8⟩ := up_ok (x >>> ((14 : Int32) &&& (31 : Int32))) (q := nI (100 + a)) (m := 100 + a) rfl (by omega) (by omega)
  obtain ⟨fl, hfl, e4⟩ : ∃ fl, fl ≤ 100 + a ∧ (if nI (100 + a) ≤ nI b then some (0 : Int32) else obind1 (f_L_up (x >>> ((8 : Int32) &&& (31 : Int32))) (200 : Int32)) fun v5 => some v5) = some (nI fl) := by
    by_cases q : nI (100 + a) ≤ nI b
    · exact ⟨0, by omega, by rw [if_pos q]; rfl⟩
    · rw [if_neg q, e3, obind1_some]
      rw [xnI_le_iff (by omega) (by omega)] at q
      exact ⟨b, by omega, rfl⟩
  obtain ⟨tp, htp, e7⟩ : ∃ tp, tp ≤ 100 + a ∧ (if nI t = (0 : Int32) then obind1 (f_L_up (x >>> ((14 : Int32) &&& (31 : Int32))) (nI (100 + a))) fun v8 => some v8 else some (0 : Int32)) = some (nI tp) := by
    by_cases q : nI t = (0 : Int32)
    · rw [if_pos q, e8, obind1_some]; exact ⟨w, by omega, rfl⟩
    · rw [if_neg q]; exact ⟨0, by omega, rfl⟩
  obtain ⟨i1, -⟩ := Two_is H
  have em : (nI (100 + a)).toInt = ((100 + a : Nat) : Int) := xnI_toInt (by omega)
  obtain ⟨v, h1, h2, k1, k2, k3, H2⟩ := Two_res (fu := fu) H hc (by omega) (p := nI (100 + a)) (q := nI fl) (r := nI tp) ⟨inR_n (l := 100) (u := 60000) rfl rfl (by omega) (by omega), inR_n (l := 0) (u := 100 + a) rfl rfl (by omega) (by omega), inR_n (l := 0) (u := 100 + a) rfl rfl (by omega) (by omega)⟩
  refine ⟨(1, h2), ?_, rfl, H2⟩
  unfold f_L_sets
  rw [ob1 e1, olet_eq, pl_100a, ob1 e3, ob1 e4, ob1 e6, ob1 e7, obd i1, obx2 k1, obd k2, obx2 k3, if_pos rfl, obind1_some, xbool_1, Option.bind_some]
theorem Two_set {B c k n N D : Nat} {h : XH} (H : Two B h c k n N D) : (f_X5_setting h B (8 : Int32) = some (.inl (nI N)) ∧ f_X5_setting h B (9 : Int32) = some (.inl (nI D)) ∧ f_X5_setting h B (6 : Int32) = some (.inl (nI k)) ∧ f_X5_setting h B (7 : Int32) = some (.inl (nI n))) ∧ f_X5_setting h (B + 113) (9 : Int32) = some (.inl (nI D)) := by
  obtain ⟨s, s2, cap, flo, top, eva, lim, rul, lev, dry, lo, ap, m, rf, rg, us, vs, od, oe, ra, rb, ac, ad, sv, sw, tx, ty, ⟨hS, hO, hC, hs⟩, ⟨hS2, hO2, hC2, ht⟩, hT, hU, hR, hA, hQ⟩ := H
  exact ⟨⟨c_setting hS hO hC hs (w := 8) (by omega), c_setting hS hO hC hs (w := 9) (by omega), c_setting hS hO hC hs (w := 6) (by omega), c_setting hS hO hC hs (w := 7) (by omega)⟩, c_setting hS2 hO2 hC2 ht (w := 9) (by omega)⟩
theorem nI_sub {a b : Nat} (h : b ≤ a) : nI a - nI b = nI (a - b) := by
  have := xnI_subp b (a - b)
  rwa [show b + (a - b) = a by omega] at this
theorem step_ok {B c k n N D fu : Nat} {h : XH} (hf : 600010 < fu) (hc : c < 1000) (H : Two B h c k n N D) (x : Int32) :
    ∃ z : Int32 × XH, f_L_isStep fu h B (B + 113) x = some z ∧ z.1 = 1 ∧ ∃ c' N' D', c' ≤ c + 2 ∧ Two B z.2 c' k n N' D' := by
  obtain ⟨a, ha, e1⟩ := up_ok x (q := 7) (m := 7) rfl (by omega) (by omega)
  obtain ⟨i1, i2⟩ := Two_is H
  obtain ⟨-, -, hN, hDN⟩ := Two_num H
  obtain ⟨⟨g8, g9, -, -⟩, -⟩ := Two_set H
  unfold f_L_isStep
  rw [ob1 e1]
  by_cases a0 : a = 0
  · rw [a0, if_pos (show nI 0 = (0 : Int32) from rfl)]
    obtain ⟨⟨z1, z2⟩, ez, rfl, HZ⟩ := sets_ok hf hc H (x >>> ((3 : Int32) &&& (31 : Int32)))
    rw [ob2 ez, xbool_1, Option.bind_some]
    exact ⟨_, rfl, rfl, c + 1, N, D, by omega, HZ⟩
  rw [if_neg (nI_pos0 (by omega) (by omega))]
  by_cases a1 : a = 1
  · rw [a1, if_pos (show nI 1 = (1 : Int32) from rfl)]
    obtain ⟨p, hp, e4⟩ := up_ok (x >>> ((3 : Int32) &&& (31 : Int32))) (q := 101) (m := 101) rfl (by omega) (by omega)
    obtain ⟨q, hq, e5⟩ := up_ok (x >>> ((10 : Int32) &&& (31 : Int32))) (q := 9) (m := 9) rfl (by omega) (by omega)
    obtain ⟨r, hr, e6⟩ := up_ok (x >>> ((14 : Int32) &&& (31 : Int32))) (q := 4) (m := 4) rfl (by omega) (by omega)
    obtain ⟨v, h1, h2, k1, k2, k3, H2⟩ := Two_ways (fu := fu) H (by omega) (p := nI p) (q := nI (1 + q)) (r := nI r) ⟨inR_n (l := 0) (u := 100) rfl rfl (by omega) (by omega), inR_n (l := 1) (u := 20) rfl rfl (by omega) (by omega), inR_n (l := 0) (u := 3) rfl rfl (by omega) (by omega)⟩
    refine ⟨(1, h2), ?_, rfl, c + 1, N, D, by omega, H2⟩
    rw [ob1 e4, ob1 e5, ob1 e6, obd i1, pl_one, obx2 k1, ob1 e4, ob1 e5, ob1 e6, obd k2, pl_one, obx2 k3, if_pos rfl, obind1_some, xbool_1, Option.bind_some]
  rw [if_neg (show ¬ nI a = (1 : Int32) from fun f => a1 (xnI_inj (a := a) (b := 1) (by omega) (by omega) f))]
  by_cases a2 : a = 2
  · rw [a2, if_pos (show nI 2 = (2 : Int32) from rfl), obd i1, obx1 g8]
    by_cases c8 : (80 : Int32) < nI N
    · rw [ob2 (a := 1) (b := h) (by rw [oletk_eq, if_pos c8]), xbool_1, Option.bind_some]
      exact ⟨_, rfl, rfl, c, N, D, by omega, H⟩
    · have e80 : (80 : Int32) = nI 80 := rfl
      have hN80 : N ≤ 80 := by
        rw [e80, xnI_lt_iff (by omega) (by omega)] at c8; omega
      obtain ⟨p, hp, e4⟩ := up_ok (x >>> ((3 : Int32) &&& (31 : Int32))) (q := 1000000) (m := 1000000) rfl (by omega) (by omega)
      obtain ⟨d, hd, e5⟩ := up_ok (x >>> ((4 : Int32) &&& (31 : Int32))) (q := 20) (m := 20) rfl (by omega) (by omega)
      obtain ⟨r, hr, e6⟩ := up_ok (x >>> ((8 : Int32) &&& (31 : Int32))) (q := 101) (m := 101) rfl (by omega) (by omega)
      obtain ⟨t, ht, e7⟩ := up_ok (x >>> ((9 : Int32) &&& (31 : Int32))) (q := 80) (m := 80) rfl (by omega) (by omega)
      obtain ⟨v, h1, h2, k1, k2, k3, H2⟩ := Two_rain (fu := fu) H (by omega) (d := 1 + d) (by omega) (p := nI p) (r := nI r) (t := nI (1 + t)) ⟨inR_n (l := 0) (u := 999999) rfl rfl (by omega) (by omega), inR_n (l := 1) (u := 100) rfl rfl (by omega) (by omega), inR_n (l := 0) (u := 100) rfl rfl (by omega) (by omega), inR_n (l := 1) (u := 200) rfl rfl (by omega) (by omega)⟩
      refine ⟨(1, h2), ?_, rfl, c + 1, _, D, by omega, H2⟩
      rw [ob2 (a := 1) (b := h2) ?x1, xbool_1, Option.bind_some]
      case x1 =>
        rw [oletk_eq, if_neg c8, ob1 e4, ob1 e5, ob1 e6, ob1 e7, obd i1, pl_one, pl_one, obx2 k1, ob1 e4, ob1 e5, ob1 e6, ob1 e7, obd k2, pl_one, pl_one, obx2 k3, if_pos rfl]
  rw [if_neg (show ¬ nI a = (2 : Int32) from fun f => a2 (xnI_inj (a := a) (b := 2) (by omega) (by omega) f))]
  by_cases a3 : a = 3
  · rw [a3, if_pos (show nI 3 = (3 : Int32) from rfl)]
    obtain ⟨w, hw, e4⟩ := up_ok (x >>> ((3 : Int32) &&& (31 : Int32))) (q := 4) (m := 4) rfl (by omega) (by omega)
    rw [ob1 e4]
    by_cases c0 : (0 : Int32) < nI w
    · rw [ob2 (a := 1) (b := h) (by rw [oletk_eq, if_pos c0]), xbool_1, Option.bind_some]
      exact ⟨_, rfl, rfl, c, N, D, by omega, H⟩
    · obtain ⟨h1, h2, k1, k2, k3, H2⟩ := Two_restart (fu := fu) H (by omega)
      refine ⟨(1, h2), ?_, rfl, c + 1, N, 0, by omega, H2⟩
      rw [ob2 (a := 1) (b := h2) ?x2, xbool_1, Option.bind_some]
      case x2 =>
        rw [oletk_eq, if_neg c0, obd i1, ob2 k1, obd k2, ob2 k3, if_pos rfl]
  rw [if_neg (show ¬ nI a = (3 : Int32) from fun f => a3 (xnI_inj (a := a) (b := 3) (by omega) (by omega) f)), obd i1, obx1 g8, obd i1, obx1 g9, olet_eq, nI_sub hDN]
  obtain ⟨d, hd, e5⟩ : ∃ d, d ≤ N - D ∧ (if nI (N - D) = (0 : Int32) then some (0 : Int32) else obind1 (f_L_up (x >>> ((3 : Int32) &&& (31 : Int32))) (nI (N - D) + (1 : Int32))) fun v45 => some v45) = some (nI d) := by
    by_cases q : nI (N - D) = (0 : Int32)
    · rw [if_pos q]; exact ⟨0, by omega, rfl⟩
    · obtain ⟨d, hd, e⟩ := up_ok (x >>> ((3 : Int32) &&& (31 : Int32))) (q := nI (N - D) + (1 : Int32)) (m := N - D + 1) (xnI_s _) (by omega) (by omega)
      rw [if_neg q, e, obind1_some]; exact ⟨d, by omega, rfl⟩
  obtain ⟨f, hfd, e6⟩ : ∃ f, f ≤ d ∧ (if nI d = (0 : Int32) then some (0 : Int32) else obind1 (f_L_up (x >>> ((12 : Int32) &&& (31 : Int32))) (nI d)) fun v47 => some v47) = some (nI f) := by
    by_cases q : nI d = (0 : Int32)
    · rw [if_pos q]; exact ⟨0, by omega, rfl⟩
    · have hd0 : 0 < d := by
        rcases Nat.eq_zero_or_pos d with e | e
        · subst e; exact absurd rfl q
        · exact e
      obtain ⟨f, hfd, e⟩ := up_ok (x >>> ((12 : Int32) &&& (31 : Int32))) (q := nI d) (m := d) rfl hd0 (by omega)
      rw [if_neg q, e, obind1_some]; exact ⟨f, by omega, rfl⟩
  obtain ⟨r, rfl⟩ : ∃ r, d = f + r := ⟨d - f, by omega⟩
  obtain ⟨v, v1, v2, h1, h2, h3, k1, k2, k3, k4, k5, ev, H2⟩ := Two_run (fu := fu) H hf (f := f) (r := r) (by omega)
  refine ⟨(1, h3), ?_, rfl, c + 2, N, _, by omega, H2⟩
  rw [ob1 e5, ob1 e6, obd i1, obx2 k1, obd k2, obx2 k3, obd k4, xnI_subp, obx2 k5, if_pos ev, obind1_some, xbool_1, Option.bind_some]
