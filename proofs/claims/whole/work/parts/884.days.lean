/-! All days from the start: the numbers, and the model's way through them. -/
def t_C (k : Nat) (lim : Int32) (ra : Nat → Int32) (rf0 : UT) (d : Nat) : Int32 × UT := it (fun d x => (c_dry x.1 (ra d), (c_day k lim x.1 (ra d) x.2).2.2.2)) (0, rf0) d
def t_inf (k : Nat) (lim : Int32) (ra : Nat → Int32) (rf0 : UT) (d : Nat) : Int32 := (c_day k lim (t_C k lim ra rf0 d).1 (ra d) (t_C k lim ra rf0 d).2).1
def t_S (cap flo top eva rul : Int32) (n : Nat) (inf : Nat → Int32) (us0 : UT) (d : Nat) : Int32 × UT × Int32 :=
  it (fun d (x : Int32 × UT × Int32) => (s_lev5 cap flo top eva rul x.1 (inf d) n od0 x.2.1, (s_hand cap flo eva rul x.1 (inf d) n od0 x.2.1).2, x.2.2 + xb01 (s_avl cap flo eva x.1 (inf d) < u_dem n x.2.1))) (0, us0, 0) d
def s_cf0 (cap flo top eva : Int32) : Prop := (100 ≤ cap.toInt ∧ cap.toInt ≤ 60000) ∧ (0 ≤ flo.toInt ∧ flo.toInt ≤ cap.toInt) ∧ (0 ≤ top.toInt ∧ top.toInt ≤ cap.toInt) ∧ (0 ≤ eva.toInt ∧ eva.toInt ≤ 100)
theorem s_cf_lev {cap flo top eva lev : Int32} (h : s_cf0 cap flo top eva) (hl : 0 ≤ lev.toInt ∧ lev.toInt ≤ cap.toInt) : s_cfg cap flo top eva lev := ⟨h.1, h.2.1, h.2.2.1, h.2.2.2, hl.1, hl.2⟩
theorem xb01_ti (c : Prop) [Decidable c] : 0 ≤ (xb01 c).toInt ∧ (xb01 c).toInt ≤ 1 := by
  unfold xb01
  by_cases h : c
  · rw [if_pos h]; decide
  · rw [if_neg h]; decide
theorem t_C_ok {k : Nat} {lim : Int32} {ra : Nat → Int32} {rf0 : UT} {N : Nat} (hk : k ≤ 6) (ho : r_ok k rf0) (hr : ∀ d, d < N → 0 ≤ (ra d).toInt ∧ (ra d).toInt ≤ 200) (d : Nat) (hd : d ≤ N) : r_ok k (t_C k lim ra rf0 d).2 :=
  it_inv (fun _ (x : Int32 × UT) => r_ok k x.2) _ d ho (fun i x hi hx => (R5_day (sp := fun _ => 0) hk (fun _ _ _ _ => rfl) hx lim x.1 (hr i (by omega))).2.1.2)
theorem t_inf_rng {k : Nat} {lim : Int32} {ra : Nat → Int32} {rf0 : UT} {N : Nat} (hk : k ≤ 6) (ho : r_ok k rf0) (hr : ∀ d, d < N → 0 ≤ (ra d).toInt ∧ (ra d).toInt ≤ 200) (d : Nat) (hd : d < N) : 0 ≤ (t_inf k lim ra rf0 d).toInt ∧ (t_inf k lim ra rf0 d).toInt ≤ 1000000 := by
  have h1 := t_C_ok (lim := lim) hk ho hr d (by omega)
  have h2 := R5_day (sp := fun _ => 0) hk (fun _ _ _ _ => rfl) h1 lim (t_C k lim ra rf0 d).1 (hr d hd)
  unfold t_inf
  rw [h2.1.1]
  have h3 := m_rfs_rng (sp := fun _ => 0) hk (r_ok_drn h1 lim (t_C k lim ra rf0 d).1 (ra d)) (hr d hd) k (Nat.le_refl k)
  have e : m_rfs k (ra d) (0, 0, 0, (c_drn k lim (t_C k lim ra rf0 d).1 (ra d) (t_C k lim ra rf0 d).2).2, fun _ => 0) = m_day k lim (t_C k lim ra rf0 d).1 (ra d) (t_C k lim ra rf0 d).2 (fun _ => 0) := rfl
  rw [e] at h3
  omega
theorem t_S_ok {cap flo top eva rul : Int32} {n : Nat} {inf : Nat → Int32} {us0 : UT} {N : Nat} (hn : n ≤ 5) (hc : s_cf0 cap flo top eva) (ho : u_ok n us0) (hi : ∀ d, d < N → 0 ≤ (inf d).toInt ∧ (inf d).toInt ≤ 1000000) (d : Nat) (hd : d ≤ N) :
    (0 ≤ (t_S cap flo top eva rul n inf us0 d).1.toInt ∧ (t_S cap flo top eva rul n inf us0 d).1.toInt ≤ cap.toInt) ∧ u_ok n (t_S cap flo top eva rul n inf us0 d).2.1 := by
  refine it_inv (fun _ (x : Int32 × UT × Int32) => (0 ≤ x.1.toInt ∧ x.1.toInt ≤ cap.toInt) ∧ u_ok n x.2.1) _ d ⟨⟨by rw [ti_0]; omega, by rw [ti_0]; have := hc.1; omega⟩, ho⟩ ?_
  rintro i ⟨l, v, c⟩ hid ⟨h1, h2⟩
  exact ⟨(s_rng (rul := rul) hn h2 (s_cf_lev hc h1) (hi i (by omega)) od0).2.2.2, u_ok_col (u_col_hand _ _ _ _ _) h2⟩
theorem t_S_cnt {cap flo top eva rul : Int32} {n : Nat} {inf : Nat → Int32} {us0 : UT} (d : Nat) (hd : d ≤ 1000000) : (0 ≤ (t_S cap flo top eva rul n inf us0 d).2.2.toInt ∧ (t_S cap flo top eva rul n inf us0 d).2.2.toInt ≤ d) := by
  refine it_inv (fun i (x : Int32 × UT × Int32) => 0 ≤ x.2.2.toInt ∧ x.2.2.toInt ≤ i) _ d ⟨show 0 ≤ (0 : Int32).toInt by decide, show (0 : Int32).toInt ≤ ((0 : Nat) : Int) by decide⟩ ?_
  rintro i ⟨l, v, c⟩ hid ⟨h1, h2⟩
  simp only at h1 h2 ⊢
  have hb := xb01_ti (s_avl cap flo eva l (inf i) < u_dem n v)
  rw [ti_add (by omega) (by omega)]
  omega
theorem t_S_mono {cap flo top eva rul : Int32} {n : Nat} {inf : Nat → Int32} {us0 : UT} {d e : Nat} (h : d ≤ e) (he : e ≤ 1000000) : (t_S cap flo top eva rul n inf us0 d).2.2.toInt ≤ (t_S cap flo top eva rul n inf us0 e).2.2.toInt := by
  induction e with
  | zero => rw [show d = 0 by omega]; exact Int.le_refl _
  | succ e ih =>
    by_cases c : d = e + 1
    · subst c; exact Int.le_refl _
    · have h1 := ih (by omega) (by omega)
      have h2 := t_S_cnt (cap := cap) (flo := flo) (top := top) (eva := eva) (rul := rul) (n := n) (inf := inf) (us0 := us0) e (by omega)
      have e1 : (t_S cap flo top eva rul n inf us0 (e + 1)).2.2 = (t_S cap flo top eva rul n inf us0 e).2.2 + xb01 (s_avl cap flo eva (t_S cap flo top eva rul n inf us0 e).1 (inf e) < u_dem n (t_S cap flo top eva rul n inf us0 e).2.1) := rfl
      have hb := xb01_ti (s_avl cap flo eva (t_S cap flo top eva rul n inf us0 e).1 (inf e) < u_dem n (t_S cap flo top eva rul n inf us0 e).2.1)
      rw [e1, ti_add (by omega) (by omega)]
      omega
def mg_rf (k : Nat) (rf : UT) : UT := it (fun i r => xup r i (xup (r i) 4 0)) rf k
theorem g_rf_R5 {k : Nat} {rf rg : UT} (h : R5 k rf rg) : R5 k (g_rf k rf) (mg_rf k rg) ∧ ∀ i, i < k → g_rf k rf i 5 = 0 := by
  have key := it_two (fun i (x y : UT) => R5 k x y ∧ ∀ j, j < i → x j 5 = 0) (fun i r => xup r i (xup (xup (r i) 4 0) 5 0)) (fun i r => xup r i (xup (r i) 4 0)) k (a := rf) (b := rg) ⟨h, fun j hj => absurd hj (Nat.not_lt_zero _)⟩ ?_
  · exact key
  · rintro i x y hi ⟨h1, h2⟩
    refine ⟨?_, ?_⟩
    · intro j hj l hl
      by_cases c : j = i
      · subst c
        rw [xup_self, xup_self, xup_ne _ _ (show l ≠ 5 by omega)]
        by_cases c2 : l = 4
        · subst c2; rw [xup_self, xup_self]
        · rw [xup_ne _ _ c2, xup_ne _ _ c2]; exact h1 j hj l hl
      · rw [xup_ne _ _ c, xup_ne _ _ c]; exact h1 j hj l hl
    · intro j hj
      by_cases c : j = i
      · subst c; rw [xup_self, xup_self]
      · rw [xup_ne _ _ c]; exact h2 j (by omega)
theorem g_rf_ok {k : Nat} {rf : UT} (h : r_ok k rf) : r_ok k (g_rf k rf) := by
  refine it_inv (fun _ (x : UT) => r_ok k x) _ k h ?_
  intro i x hi hx j hj
  have h0 := hx j hj
  by_cases c : j = i
  · subst c
    rw [xup_self, xup_ne _ _ (show (0 : Nat) ≠ 5 by decide), xup_ne _ _ (show (1 : Nat) ≠ 5 by decide), xup_ne _ _ (show (2 : Nat) ≠ 5 by decide), xup_ne _ _ (show (3 : Nat) ≠ 5 by decide), xup_ne _ _ (show (4 : Nat) ≠ 5 by decide), xup_self,
      xup_ne _ _ (show (0 : Nat) ≠ 4 by decide), xup_ne _ _ (show (1 : Nat) ≠ 4 by decide), xup_ne _ _ (show (2 : Nat) ≠ 4 by decide), xup_ne _ _ (show (3 : Nat) ≠ 4 by decide), ti_0]
    omega
  · rw [xup_ne _ _ c]; exact h0
theorem u_clr_col (n : Nat) (us : UT) : u_col us (u_clr n us) := by
  refine it_inv (fun _ (x : UT) => u_col us x) _ n (fun _ => ⟨rfl, rfl⟩) ?_
  intro i x _ hx k
  by_cases c : k = i
  · subst c
    rw [xup_self, xup_ne _ _ (show (0 : Nat) ≠ 3 by decide), xup_ne _ _ (show (1 : Nat) ≠ 3 by decide), xup_ne _ _ (show (0 : Nat) ≠ 2 by decide), xup_ne _ _ (show (1 : Nat) ≠ 2 by decide)]
    exact hx _
  · rw [xup_ne _ _ c]; exact hx k
theorem xb01_if (c : Prop) [Decidable c] : (if xb01 c = 0 then (0 : Int32) else 1) = xb01 c := by
  simp only [xb01_0]
  unfold xb01
  by_cases h : c
  · rw [if_pos h, if_neg (fun hh => hh h)]
  · rw [if_neg h, if_pos h]
section PSA
variable {b : Nat} {W : XH} {cap flo top eva lim rul rc uc rn dn lev dry ap : Int32} {rf us : Nat → Nat → Int32} {ra ac sv as : Nat → Int32} {sm th : Int32} {sd : Int64} {td : Int32} {sp : Nat → Int64} {lf : Int32} {tx : Nat → Int32} {tl pl nb : Int32}
variable {fu n k N : Nat}
theorem p_X6_goesBack (hk : k ≤ 6) (hn : n ≤ 5) (hf : 6 < fu) : f_X6_goesBack fu (hm b W cap flo top eva lim rul (nI k) (nI n) rn dn lev dry ap rf us ra ac sv as sm th sd td sp lf tx tl pl nb) b = some (hm b W cap flo top eva lim rul (nI k) (nI n) rn 0 0 0 0 (mg_rf k rf) (u_clr n us) ra ac sv as sm th sd td sp lf tx tl pl nb) := by
  unfold f_X6_goesBack
  simp only [gm_r1, Option.bind_some, tm_dn, tm_lev, tm_dry, tm_ap]
  rw [xloop_E (fun i r => (nI i, hm b W cap flo top eva lim rul (nI k) (nI n) rn 0 0 0 0 r us ra ac sv as sm th sd td sp lf tx tl pl nb)) (fun i r => xup r i (xup (r i) 4 0)) (fun r => hm b W cap flo top eva lim rul (nI k) (nI n) rn 0 0 0 0 r us ra ac sv as sm th sd td sp lf tx tl pl nb) k rf ?h0 ?hs ?he ?hf]
  · rw [obind1_some]
    rw [xloop_E (fun i u => (nI i, hm b W cap flo top eva lim rul (nI k) (nI n) rn 0 0 0 0 (mg_rf k rf) u ra ac sv as sm th sd td sp lf tx tl pl nb)) (fun i u => xup u i (xup (xup (u i) 2 0) 3 0)) (fun u => hm b W cap flo top eva lim rul (nI k) (nI n) rn 0 0 0 0 (mg_rf k rf) u ra ac sv as sm th sd td sp lf tx tl pl nb) n us ?g0 ?gs ?ge ?gf]
    · rfl
    case g0 => rfl
    case gf => omega
    case gs =>
      intro i u hi
      have h5 : i < 5 := by omega
      have h3 : (nI i).toNatClampNeg = i := xnI_nat (by omega)
      have hle : ¬ nI n ≤ nI i := nI_ge hi (by omega)
      have hx := xin_nI h5 (show 5 < 2147483648 by decide)
      simp only [xf2, gm_r1, gm_uc, Option.bind_some, if_neg hle, mu_2, mu_3, obind1_some, tm_us h5 (show 2 < 4 by decide), tm_us h5 (show 3 < 4 by decide), xup_self, xup_xup, olet, xnI_s]
    case ge =>
      intro u
      simp only [xf2, gm_r1, gm_uc, Option.bind_some, Int32.le_refl, if_true]
  case h0 => rfl
  case hf => omega
  case hs =>
    intro i u hi
    have h6 : i < 6 := by omega
    have h3 : (nI i).toNatClampNeg = i := xnI_nat (by omega)
    have hle : ¬ nI k ≤ nI i := nI_ge hi (by omega)
    have hx := xin_nI h6 (show 6 < 2147483648 by decide)
    simp only [xf2, gm_r1, gm_rc, Option.bind_some, if_neg hle, mr_4, obind1_some, tm_rf h6 (show 4 < 5 by decide), olet, xnI_s]
  case he =>
    intro u
    simp only [xf2, gm_r1, gm_rc, Option.bind_some, Int32.le_refl, if_true]
/-- all days in the model -/
theorem p_X6_shortDays (hk : k ≤ 6) (hn : n ≤ 5) (hN : N ≤ 100) (hf : 600010 < fu) {rfc : UT} (hR : R5 k rfc rf) (hr : r_ok k rfc) (ho : u_ok n us) (hc : s_cf0 cap flo top eva) (hra : ∀ d, d < N → 0 ≤ (ra d).toInt ∧ (ra d).toInt ≤ 200) :
    ∃ (dn' lev' dry' : Int32) (rf' : UT) (ac' : Nat → Int32) (td' lf' : Int32) (sp' : Nat → Int64), f_X6_shortDays fu (hm b W cap flo top eva lim rul (nI k) (nI n) (nI N) dn lev dry ap rf us ra ac sv as sm th sd td sp lf tx tl pl nb) b =
      some ((t_S cap flo top eva rul n (t_inf k lim ra (g_rf k rfc)) (u_clr n us) N).2.2, hm b W cap flo top eva lim rul (nI k) (nI n) (nI N) dn' lev' dry' 0 rf' (t_S cap flo top eva rul n (t_inf k lim ra (g_rf k rfc)) (u_clr n us) N).2.1 ra ac' sv as sm th sd td' sp' lf' tx tl pl nb) ∧
      (∀ i, i < k → (sp' i).toInt = ((t_C k lim ra (g_rf k rfc) N).2 i 5).toInt) ∧ ∀ j, 1000 ≤ j → ac' j = ac j := by
  obtain ⟨g1, g2⟩ := g_rf_R5 hR
  have g3 := g_rf_ok hr
  have hclr : u_ok n (u_clr n us) := u_ok_col (u_clr_col n us) ho
  have hinf := t_inf_rng (lim := lim) hk g3 hra
  unfold f_X6_shortDays
  simp only [gm_is, Option.bind_some, p_X6_goesBack hk hn (show 6 < fu by omega), obind1_some]
  rw [xloop_E (fun i q => (nI i, hm b W cap flo top eva lim rul (nI k) (nI n) (nI N) 0 0 0 0 (mg_rf k rf) (u_clr n us) ra ac sv as sm th sd td q lf tx tl pl nb)) (fun i q => xup q i 0) (fun q => hm b W cap flo top eva lim rul (nI k) (nI n) (nI N) 0 0 0 0 (mg_rf k rf) (u_clr n us) ra ac sv as sm th sd td q lf tx tl pl nb) 6 sp ?h0 ?hs ?he ?hf]
  · rw [obind1_some]
    have hq : ∀ j, j < 6 → it (fun i q => xup q i 0) sp 6 j = 0 := by
      refine it_inv (fun i (q : Nat → Int64) => ∀ j, j < i → q j = 0) _ 6 (fun j h => absurd h (Nat.not_lt_zero _)) ?_
      intro i q _ hq j hj
      by_cases c : j = i
      · subst c; rw [xup_self]
      · rw [xup_ne _ _ c]; exact hq j (by omega)
    generalize it (fun i q => xup q i 0) sp 6 = q0 at *
    have key := xloop_P (body := xf2 fun (v5 : Int32) (h5 : XH) =>
        (xgR h5 b 6 0).bind fun v7 => (xald h5 v7 0 9).bind fun v8 => (xgR h5 b 6 0).bind fun v9 => (xald h5 v9 0 8).bind fun v10 =>
        if v10 ≤ v8 then some (Sum.inr (v5, h5)) else (xis h5 b 6).bind fun v11 => obind2 (f_X6_does fu h5 b) fun v12 h7 => obind1 (if v12 = 0 then some 0 else some 1) fun v13 => olet (v5 + v13) fun v14 => some (Sum.inl (v14, h7)))
      (s0 := (0, hm b W cap flo top eva lim rul (nI k) (nI n) (nI N) 0 0 0 0 (mg_rf k rf) (u_clr n us) ra ac sv as sm th sd td q0 lf tx tl pl nb)) (fu := fu)
      (fun i s => ∃ (rg : UT) (q : Nat → Int64) (l t : Int32) (a : Nat → Int32), s = ((t_S cap flo top eva rul n (t_inf k lim ra (g_rf k rfc)) (u_clr n us) i).2.2, hm b W cap flo top eva lim rul (nI k) (nI n) (nI N) (nI i) (t_S cap flo top eva rul n (t_inf k lim ra (g_rf k rfc)) (u_clr n us) i).1 (t_C k lim ra (g_rf k rfc) i).1 0 rg (t_S cap flo top eva rul n (t_inf k lim ra (g_rf k rfc)) (u_clr n us) i).2.1 ra a sv as sm th sd t q l tx tl pl nb) ∧
        R5 k (t_C k lim ra (g_rf k rfc) i).2 rg ∧ (∀ j, j < k → (q j).toInt = ((t_C k lim ra (g_rf k rfc) i).2 j 5).toInt ∧ 0 ≤ ((t_C k lim ra (g_rf k rfc) i).2 j 5).toInt ∧ ((t_C k lim ra (g_rf k rfc) i).2 j 5).toInt ≤ 100000 * i) ∧ ∀ j, 1000 ≤ j → a j = ac j)
      (fun r => ∃ (dn' lev' dry' : Int32) (rf' : UT) (ac' : Nat → Int32) (td' lf' : Int32) (sp' : Nat → Int64), r = ((t_S cap flo top eva rul n (t_inf k lim ra (g_rf k rfc)) (u_clr n us) N).2.2, hm b W cap flo top eva lim rul (nI k) (nI n) (nI N) dn' lev' dry' 0 rf' (t_S cap flo top eva rul n (t_inf k lim ra (g_rf k rfc)) (u_clr n us) N).2.1 ra ac' sv as sm th sd td' sp' lf' tx tl pl nb) ∧
        (∀ i, i < k → (sp' i).toInt = ((t_C k lim ra (g_rf k rfc) N).2 i 5).toInt) ∧ ∀ j, 1000 ≤ j → ac' j = ac j) N ?k0 ?ks ?ke (by omega)
    · obtain ⟨r, e, dn', lev', dry', rf', ac', td', lf', sp', er, e1, e2⟩ := key
      exact ⟨dn', lev', dry', rf', ac', td', lf', sp', by rw [e, er]; rfl, e1, e2⟩
    case k0 =>
      refine ⟨mg_rf k rf, q0, lf, td, ac, rfl, g1, ?_, fun _ _ => rfl⟩
      intro j hj
      have e5 : (t_C k lim ra (g_rf k rfc) 0).2 j 5 = 0 := g2 j hj
      rw [hq j (by omega), e5, ti_0]
      exact ⟨rfl, Int.le_refl _, by omega⟩
    case ks =>
      rintro i s hi ⟨rg, q, l, t, a, rfl, p1, p2, p3⟩
      left
      have hle : ¬ nI N ≤ nI i := nI_ge hi (by omega)
      have cok := t_C_ok (lim := lim) hk g3 hra i (by omega)
      have sok := t_S_ok (rul := rul) hn hc hclr hinf i (by omega)
      obtain ⟨d1, d2, d3⟩ := R5_day (sp := q) hk p1 cok lim (t_C k lim ra (g_rf k rfc) i).1 (hra i hi)
      obtain ⟨v, ev, -⟩ := p_X6_does (b := b) (W := W) (cap := cap) (flo := flo) (top := top) (eva := eva) (lim := lim) (rul := rul) (rn := nI N) (lev := (t_S cap flo top eva rul n (t_inf k lim ra (g_rf k rfc)) (u_clr n us) i).1) (dry := (t_C k lim ra (g_rf k rfc) i).1) (ap := 0) (rf := rg) (us := (t_S cap flo top eva rul n (t_inf k lim ra (g_rf k rfc)) (u_clr n us) i).2.1) (ra := ra) (ac := a) (sv := sv) (as := as) (sm := sm) (th := th) (sd := sd) (td := t) (sp := q) (lf := l) (tx := tx) (tl := tl) (pl := pl) (nb := nb) (fu := fu) (n := n) (k := k) (d := i) hk hn hf (by omega) (R5_ok p1 cok) sok.2 (s_cf_lev hc sok.1) (hra i hi) od0
      rw [← d1.1] at ev
      obtain ⟨L, hL⟩ : ∃ L, L = s_avl cap flo eva (t_S cap flo top eva rul n (t_inf k lim ra (g_rf k rfc)) (u_clr n us) i).1 (c_day k lim (t_C k lim ra (g_rf k rfc) i).1 (ra i) (t_C k lim ra (g_rf k rfc) i).2).1 - (s_hand cap flo eva rul (t_S cap flo top eva rul n (t_inf k lim ra (g_rf k rfc)) (u_clr n us) i).1 (c_day k lim (t_C k lim ra (g_rf k rfc) i).1 (ra i) (t_C k lim ra (g_rf k rfc) i).2).1 n od0 (t_S cap flo top eva rul n (t_inf k lim ra (g_rf k rfc)) (u_clr n us) i).2.1).1 := ⟨_, rfl⟩
      rw [← hL] at ev
      refine ⟨((t_S cap flo top eva rul n (t_inf k lim ra (g_rf k rfc)) (u_clr n us) (i + 1)).2.2, hm b W cap flo top eva lim rul (nI k) (nI n) (nI N) (nI (i + 1)) (t_S cap flo top eva rul n (t_inf k lim ra (g_rf k rfc)) (u_clr n us) (i + 1)).1 (t_C k lim ra (g_rf k rfc) (i + 1)).1 0 (m_day k lim (t_C k lim ra (g_rf k rfc) i).1 (ra i) rg q).2.2.2.1 (t_S cap flo top eva rul n (t_inf k lim ra (g_rf k rfc)) (u_clr n us) (i + 1)).2.1 ra (aday a i v) sv as sm th sd (nI i) (m_day k lim (t_C k lim ra (g_rf k rfc) i).1 (ra i) rg q).2.2.2.2 L tx tl pl nb), ?_, (m_day k lim (t_C k lim ra (g_rf k rfc) i).1 (ra i) rg q).2.2.2.1, (m_day k lim (t_C k lim ra (g_rf k rfc) i).1 (ra i) rg q).2.2.2.2, L, nI i, aday a i v, rfl, d2.1, ?_, ?_⟩
      · simp only [xf2, gm_r1, gm_dn, gm_rn, Option.bind_some, if_neg hle, gm_is, ev, obind2_some, obind1_ite, xb01_if, olet]
        rfl
      · intro j hj
        obtain ⟨z1, z2, z3⟩ := p2 j hj
        have := d3 j (100000 * i) hj z2 z3 (by omega) z1
        refine ⟨this.1, this.2.1, ?_⟩
        have h9 := this.2.2
        show ((c_day k lim (t_C k lim ra (g_rf k rfc) i).1 (ra i) (t_C k lim ra (g_rf k rfc) i).2).2.2.2 j 5).toInt ≤ 100000 * ((i + 1 : Nat) : Int)
        omega
      · intro j hj
        rw [aday_out _ _ _ (by omega)]; exact p3 j hj
    case ke =>
      rintro s ⟨rg, q, l, t, a, rfl, p1, p2, p3⟩
      refine ⟨((t_S cap flo top eva rul n (t_inf k lim ra (g_rf k rfc)) (u_clr n us) N).2.2, hm b W cap flo top eva lim rul (nI k) (nI n) (nI N) (nI N) (t_S cap flo top eva rul n (t_inf k lim ra (g_rf k rfc)) (u_clr n us) N).1 (t_C k lim ra (g_rf k rfc) N).1 0 rg (t_S cap flo top eva rul n (t_inf k lim ra (g_rf k rfc)) (u_clr n us) N).2.1 ra a sv as sm th sd t q l tx tl pl nb), ?_, _, _, _, rg, a, t, l, q, rfl, fun j hj => (p2 j hj).1, p3⟩
      simp only [xf2, gm_r1, gm_dn, gm_rn, Option.bind_some, Int32.le_refl, if_true]
  case h0 => rfl
  case hf => omega
  case hs =>
    intro i q hi
    have hle : ¬ (6 : Int32) ≤ nI i := nI_ge (b := 6) hi (by decide)
    have h3 : (nI i).toNatClampNeg = i := xnI_nat (by omega)
    simp only [xf2, if_neg hle, gm_r4, Option.bind_some, tm_sp (xin_nI hi (show 6 < 2147483648 by decide)), h3, olet, xnI_s]
  case he =>
    intro q
    simp only [xf2, show (6 : Int32) ≤ nI 6 from Int32.le_refl _, if_true]
end PSA
