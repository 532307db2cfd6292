/-! The class's second half of all days. -/
theorem s_acc_1 (cap flo top eva rul lev : Int32) (n d : Nat) (od : Nat → Int32) (u : UT) (ac : Nat → Int32) {m : Nat} (h : ∀ w, w = 0 ∨ w = 4 ∨ w = 5 ∨ w = 6 ∨ w = 7 ∨ w = 8 → m ≠ d * 10 + w) : s_acc cap flo top eva rul lev n d od u ac m = ac m := by
  unfold s_acc
  rw [xup_ne _ _ (h 0 (by omega)), xup_ne _ _ (h 8 (by omega)), xup_ne _ _ (h 7 (by omega)), xup_ne _ _ (h 6 (by omega)), xup_ne _ _ (h 5 (by omega)), xup_ne _ _ (h 4 (by omega))]
theorem s_acc_7 (cap flo top eva rul lev : Int32) (n d : Nat) (od : Nat → Int32) (u : UT) (ac : Nat → Int32) : s_acc cap flo top eva rul lev n d od u ac (d * 10 + 7) = s_lack cap flo eva rul lev (ac (d * 10 + 1)) n od u := by
  unfold s_acc
  rw [xup_ne _ _ (show d * 10 + 7 ≠ d * 10 + 0 by omega), xup_ne _ _ (show d * 10 + 7 ≠ d * 10 + 8 by omega), xup_self]
/-- whether a day is short, by its account -/
theorem s_short {cap flo top eva rul lev inf : Int32} {n : Nat} {us : UT} (hn : n ≤ 5) (ho : u_ok n us) (hc : s_cfg cap flo top eva lev) (hi : 0 ≤ inf.toInt ∧ inf.toInt ≤ 1000000) (od : Nat → Int32) :
    (if s_lack cap flo eva rul lev inf n od us ≤ 0 then (0 : Int32) else 1) = xb01 (s_avl cap flo eva lev inf < u_dem n us) := by
  have h1 := s_rng (rul := rul) hn ho hc hi od
  have h2 := (u_hand_rng hn ho h1.2.1.1 (by omega) rul od).2
  have e : s_lack cap flo eva rul lev inf n od us = u_dem n us - (u_hand (s_avl cap flo eva lev inf) rul n od us).1 := by
    unfold s_lack s_hand
    rw [u_dem_col (u_col_hand _ _ _ _ _)]
  rw [e]
  unfold xb01
  by_cases c : s_avl cap flo eva lev inf < u_dem n us
  · rw [if_pos c, if_neg (by rw [ti_le, ti_0]; have := h2.mpr c; omega)]
  · rw [if_neg c, if_pos (by rw [ti_le, ti_0]; rcases Int.lt_or_le 0 (u_dem n us - (u_hand (s_avl cap flo eva lev inf) rul n od us).1).toInt with h | h; exact absurd (h2.mp h) c; exact h)]
theorem xb01_if2 (c : Prop) [Decidable c] (v : Int32) : (if xb01 c = 0 then v else v + 1) = v + xb01 c := by
  simp only [xb01_0]
  unfold xb01
  by_cases h : c
  · rw [if_pos h, if_neg (fun hh => hh h)]
  · rw [if_neg h, if_pos h, i32_add0]
section PSB
variable {b : Nat} {W : XH} {cap flo top eva lim rul rc uc rn dn lev dry : Int32} {lo : Int64} {rf us : Nat → Nat → Int32} {od ra ac : Nat → Int32}
variable {fu n N : Nat}
theorem p_X2_serveAll (hn : n ≤ 5) (hN : N ≤ 100) (hf : 101 < fu) (ho : u_ok n us) (hc : s_cf0 cap flo top eva) {inf : Nat → Int32} (hi : ∀ d, d < N → 0 ≤ (inf d).toInt ∧ (inf d).toInt ≤ 1000000) (ha : ∀ d, d < N → ac (d * 10 + 1) = inf d) (en : Int32) :
    ∃ (cnt lev' : Int32) (us' : UT) (od' ac' : Nat → Int32), f_X2_serveAll fu (hp b W cap flo top eva lim rul rc (nI n) (nI N) dn lev dry lo rf us od ra ac) b en = some (cnt, hp b W cap flo top eva lim rul rc (nI n) (nI N) dn lev' dry lo rf us' od' ra ac') ∧
      ((∀ d, d < N → ac' (d * 10 + 1) = inf d) ∧ u_col us us') ∧ ((cnt = (t_S cap flo top eva rul n inf (u_clr n us) N).2.2 ∧ us' = (t_S cap flo top eva rul n inf (u_clr n us) N).2.1) ∨ (en < cnt ∧ en < (t_S cap flo top eva rul n inf (u_clr n us) N).2.2)) := by
  have hclr : u_ok n (u_clr n us) := u_ok_col (u_clr_col n us) ho
  unfold f_X2_serveAll
  simp only [hs_lev, Option.bind_some, hg_users, hi_us, p_X4_clearAmounts hn (show 5 < fu by omega), obind1_some]
  have key := xloop_P (body := xf3 fun (v3 : Int32) (v4 : Int32) (h3 : XH) => (xgI h3 b 2 10).bind fun v6 => if v6 ≤ v4 then some (Sum.inr (v3, h3)) else if en < v3 then some (Sum.inr (v3, h3)) else
      (xis h3 b 2).bind fun v7 => obind1 (f_X2_serve fu h3 b v4) fun h5 => (xis h5 b 2).bind fun v8 => obind1 (f_X2_isShort h5 b v4) fun v9 => obind1 (if v9 = 0 then some v3 else olet (v3 + 1) fun v11 => some v11) fun v10 => olet (v4 + 1) fun v12 => some (Sum.inl (v10, v12, h5)))
    (s0 := (0, 0, hp b W cap flo top eva lim rul rc (nI n) (nI N) dn 0 dry lo rf (u_clr n us) od ra ac)) (fu := fu)
    (fun i s => ∃ (od' ac' : Nat → Int32), s = ((t_S cap flo top eva rul n inf (u_clr n us) i).2.2, nI i, hp b W cap flo top eva lim rul rc (nI n) (nI N) dn (t_S cap flo top eva rul n inf (u_clr n us) i).1 dry lo rf (t_S cap flo top eva rul n inf (u_clr n us) i).2.1 od' ra ac') ∧ (∀ d, d < N → ac' (d * 10 + 1) = inf d) ∧ u_col us (t_S cap flo top eva rul n inf (u_clr n us) i).2.1)
    (fun r => ∃ (cnt lev' : Int32) (us' : UT) (od' ac' : Nat → Int32), r = (cnt, hp b W cap flo top eva lim rul rc (nI n) (nI N) dn lev' dry lo rf us' od' ra ac') ∧ ((∀ d, d < N → ac' (d * 10 + 1) = inf d) ∧ u_col us us') ∧ ((cnt = (t_S cap flo top eva rul n inf (u_clr n us) N).2.2 ∧ us' = (t_S cap flo top eva rul n inf (u_clr n us) N).2.1) ∨ (en < cnt ∧ en < (t_S cap flo top eva rul n inf (u_clr n us) N).2.2)))
    N ?k0 ?ks ?ke (by omega)
  · obtain ⟨r, e, cnt, lev', us', od', ac', er, e1, e2⟩ := key
    exact ⟨cnt, lev', us', od', ac', by rw [e, er]; rfl, e1, e2⟩
  case k0 => exact ⟨od, ac, rfl, ha, u_clr_col n us⟩
  case ks =>
    rintro i s hi2 ⟨od', ac', rfl, p1, p2⟩
    have hle : ¬ nI N ≤ nI i := nI_ge hi2 (by omega)
    have sok := t_S_ok (rul := rul) hn hc hclr hi i (by omega)
    by_cases c : en < (t_S cap flo top eva rul n inf (u_clr n us) i).2.2
    · right
      refine ⟨((t_S cap flo top eva rul n inf (u_clr n us) i).2.2, hp b W cap flo top eva lim rul rc (nI n) (nI N) dn (t_S cap flo top eva rul n inf (u_clr n us) i).1 dry lo rf (t_S cap flo top eva rul n inf (u_clr n us) i).2.1 od' ra ac'), ?_, _, _, _, od', ac', rfl, ⟨p1, p2⟩, Or.inr ⟨c, ?_⟩⟩
      · simp only [xf3, hg_rn, Option.bind_some, if_neg hle, if_pos c]
      · have := t_S_mono (cap := cap) (flo := flo) (top := top) (eva := eva) (rul := rul) (n := n) (inf := inf) (us0 := u_clr n us) (show i ≤ N by omega) (by omega)
        rw [ti_lt] at c ⊢
        omega
    · left
      have hsh := s_short (rul := rul) hn sok.2 (s_cf_lev hc sok.1) (hi i hi2) od'
      refine ⟨((t_S cap flo top eva rul n inf (u_clr n us) (i + 1)).2.2, nI (i + 1), hp b W cap flo top eva lim rul rc (nI n) (nI N) dn (t_S cap flo top eva rul n inf (u_clr n us) (i + 1)).1 dry lo rf (t_S cap flo top eva rul n inf (u_clr n us) (i + 1)).2.1 (u_hod (s_avl cap flo eva (t_S cap flo top eva rul n inf (u_clr n us) i).1 (ac' (i * 10 + 1))) rul n od' (t_S cap flo top eva rul n inf (u_clr n us) i).2.1) ra (s_acc cap flo top eva rul (t_S cap flo top eva rul n inf (u_clr n us) i).1 n i od' (t_S cap flo top eva rul n inf (u_clr n us) i).2.1 ac')), ?_, _, _, rfl, ?_, ?_⟩
      · simp only [xf3, hg_rn, Option.bind_some, if_neg hle, if_neg c, hi_st, p_X2_serve hn (show 6 < fu by omega) (show i < 100 by omega), obind1_some, p_X2_isShort (show i < 100 by omega), s_acc_7, p1 i hi2, hsh, olet, obind1_ite, xb01_if2, xnI_s, s_lev5_od _ _ _ _ _ _ _ hn od', s_hand_od _ _ _ _ _ _ hn od']
        rfl
      · intro e he
        rw [s_acc_1 _ _ _ _ _ _ _ _ _ _ _ (fun w hw => by omega)]
        exact p1 e he
      · intro j
        have h1 := p2 j
        have h2 := u_col_hand (s_avl cap flo eva (t_S cap flo top eva rul n inf (u_clr n us) i).1 (inf i)) rul n od0 (t_S cap flo top eva rul n inf (u_clr n us) i).2.1 j
        exact ⟨h1.1.trans h2.1, h1.2.trans h2.2⟩
  case ke =>
    rintro s ⟨od', ac', rfl, p1, p2⟩
    refine ⟨((t_S cap flo top eva rul n inf (u_clr n us) N).2.2, hp b W cap flo top eva lim rul rc (nI n) (nI N) dn (t_S cap flo top eva rul n inf (u_clr n us) N).1 dry lo rf (t_S cap flo top eva rul n inf (u_clr n us) N).2.1 od' ra ac'), ?_, _, _, _, od', ac', rfl, ⟨p1, p2⟩, Or.inl ⟨rfl, rfl⟩⟩
    simp only [xf3, hg_rn, Option.bind_some, Int32.le_refl, if_true]
/-- the class's first half of all days -/
theorem p_X2_collects {k : Nat} (hk : k ≤ 6) (hN : N ≤ 100) (hf : 101 < fu) {body : Int32 × XH → Option ((Int32 × XH) ⊕ XH)}
    (hs : ∀ (i : Nat) (h : XH), xgI h b 2 10 = some (nI N) → xis h b 2 = some () → i < N → body (nI i, h) = obind1 (f_X2_collect fu h b (nI i)) fun h2 => some (Sum.inl (nI (i + 1), h2)))
    (he : ∀ (h : XH), xgI h b 2 10 = some (nI N) → body (nI N, h) = some (Sum.inr h)) :
    ∃ ac' : Nat → Int32, xloop body fu (0, hp b W cap flo top eva lim rul (nI k) uc (nI N) dn lev 0 lo rf us od ra ac) = some (hp b W cap flo top eva lim rul (nI k) uc (nI N) dn lev (t_C k lim ra rf N).1 lo (t_C k lim ra rf N).2 us od ra ac') ∧ ∀ d, d < N → ac' (d * 10 + 1) = t_inf k lim ra rf d := by
  have key := xloop_P (body := body) (s0 := (0, hp b W cap flo top eva lim rul (nI k) uc (nI N) dn lev 0 lo rf us od ra ac)) (fu := fu)
    (fun i s => ∃ ac' : Nat → Int32, s = (nI i, hp b W cap flo top eva lim rul (nI k) uc (nI N) dn lev (t_C k lim ra rf i).1 lo (t_C k lim ra rf i).2 us od ra ac') ∧ ∀ d, d < i → ac' (d * 10 + 1) = t_inf k lim ra rf d)
    (fun r => ∃ ac' : Nat → Int32, r = hp b W cap flo top eva lim rul (nI k) uc (nI N) dn lev (t_C k lim ra rf N).1 lo (t_C k lim ra rf N).2 us od ra ac' ∧ ∀ d, d < N → ac' (d * 10 + 1) = t_inf k lim ra rf d)
    N ⟨ac, rfl, fun d h => absurd h (Nat.not_lt_zero _)⟩ ?ks ?ke (by omega)
  · obtain ⟨r, e, ac', er, e1⟩ := key
    exact ⟨ac', by rw [e, er], e1⟩
  case ks =>
    rintro i s hi ⟨ac', rfl, p1⟩
    left
    refine ⟨(nI (i + 1), hp b W cap flo top eva lim rul (nI k) uc (nI N) dn lev (t_C k lim ra rf (i + 1)).1 lo (t_C k lim ra rf (i + 1)).2 us od ra (c_acc k lim (t_C k lim ra rf i).1 (ra i) i (t_C k lim ra rf i).2 ac')), ?_, _, rfl, ?_⟩
    · rw [hs i _ hg_rn hi_st hi, p_X2_collect hk (show 6 < fu by omega) (show i < 100 by omega), obind1_some]
      rfl
    · intro d hd
      unfold c_acc
      by_cases c : d = i
      · subst c
        rw [xup_ne _ _ (show d * 10 + 1 ≠ d * 10 + 9 by omega), xup_ne _ _ (show d * 10 + 1 ≠ d * 10 + 3 by omega), xup_ne _ _ (show d * 10 + 1 ≠ d * 10 + 2 by omega), xup_self]
        rfl
      · rw [xup_ne _ _ (show d * 10 + 1 ≠ i * 10 + 9 by omega), xup_ne _ _ (show d * 10 + 1 ≠ i * 10 + 3 by omega), xup_ne _ _ (show d * 10 + 1 ≠ i * 10 + 2 by omega), xup_ne _ _ (show d * 10 + 1 ≠ i * 10 + 1 by omega)]
        exact p1 d (by omega)
  case ke =>
    rintro s ⟨ac', rfl, p1⟩
    exact ⟨_, he _ hg_rn, ac', rfl, p1⟩
end PSB

