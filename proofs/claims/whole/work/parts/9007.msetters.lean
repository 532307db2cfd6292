/-! The model's setters. -/
theorem ch1 (c : Prop) [Decidable c] : (if xb01 c = (0 : Int32) then some (0 : Int32) else some 1) = some (xb01 c) := by
  by_cases e : c
  · rw [if_neg (by rw [xb01_0]; exact fun f => f e)]; unfold xb01; rw [if_pos e]
  · rw [if_pos (by rw [xb01_0]; exact e)]; unfold xb01; rw [if_neg e]
theorem chs (c d : Prop) [Decidable c] [Decidable d] : (if xb01 c = (0 : Int32) then some (0 : Int32) else some (xb01 d)) = some (xb01 (c ∧ d)) := by
  by_cases e : c
  · rw [if_neg (by rw [xb01_0]; exact fun f => f e)]
    exact congrArg some (xb01_c ⟨fun f => ⟨e, f⟩, fun f => f.2⟩)
  · rw [if_pos (by rw [xb01_0]; exact e)]; unfold xb01; rw [if_neg (fun f => e f.1)]
theorem chle (a b : Int32) : (if a ≤ b then some (0 : Int32) else some 1) = some (xb01 (¬ a ≤ b)) := by
  unfold xb01
  by_cases e : a ≤ b
  · rw [if_pos e, if_neg (fun f => f e)]
  · rw [if_neg e, if_pos e]
theorem chlt (a b : Int32) : (if a < b then some (0 : Int32) else some 1) = some (xb01 (¬ a < b)) := by
  unfold xb01
  by_cases e : a < b
  · rw [if_pos e, if_neg (fun f => f e)]
  · rw [if_neg e, if_pos e]
abbrev inR (p l u : Int32) : Prop := l.toInt ≤ p.toInt ∧ p.toInt ≤ u.toInt
section PW7
variable {b : Nat} {W : XH} {cap flo top eva lim rul rc uc rn dn lev dry ap : Int32} {rf us : Nat → Nat → Int32} {ra ac sv as : Nat → Int32} {sm th : Int32} {sd : Int64} {td : Int32} {sp : Nat → Int64} {lf : Int32} {tx : Nat → Int32} {tl pl nb : Int32}
variable {fu k n N D s L : Nat}
theorem mg_save (hs : s ≤ 4) (hf : 3489 < fu) : f_X6_save fu (hm b W cap flo top eva lim rul rc uc rn dn lev dry ap rf us ra ac sv as (nI s) th sd td sp lf tx tl pl nb) b = some (hm b W cap flo top eva lim rul rc uc rn dn lev dry ap rf us ra ac (m_sav s (m_al cap flo top eva lim rul rc uc rn dn lev dry ap rf us ra ac) sv) as (nI (min s 3 + 1)) th sd td sp lf tx tl pl nb) := by
  rw [hm_hr, p_X6_save hs hf, ← hm_hr]
theorem mg_addRoof (hs : s ≤ 4) (hf : 3489 < fu) (hk : k ≤ 6) (p q r t : Int32) : f_X6_addRoof fu (hm b W cap flo top eva lim rul (nI k) uc rn dn lev dry ap rf us ra ac sv as (nI s) th sd td sp lf tx tl pl nb) b p q r t =
    if (inR p 1 500 ∧ inR q 1 100 ∧ inR r 0 999 ∧ inR t 1 50000) ∧ ¬ (6 : Int32) ≤ nI k then some (nI k, hm b W cap flo top eva lim rul (nI (k + 1)) uc rn dn lev dry ap (xup rf k (xup (xup (xup (xup (xup (rf k) 0 p) 1 q) 2 r) 3 t) 4 0)) us ra ac (m_sav s (m_al cap flo top eva lim rul (nI k) uc rn dn lev dry ap rf us ra ac) sv) as (nI (min s 3 + 1)) 0 sd td sp lf tx tl pl nb)
    else some (0, hm b W cap flo top eva lim rul (nI k) uc rn dn lev dry ap rf us ra ac sv as (nI s) (if inR p 1 500 ∧ inR q 1 100 ∧ inR r 0 999 ∧ inR t 1 50000 then if ¬ (6 : Int32) ≤ nI k then 0 else 2 else 1) sd td sp lf tx tl pl nb) := by
  have e1 : f_X6_in (Int32.toInt64 p) (1 : Int64) (500 : Int64) = some (xb01 (inR p 1 500)) := p_X6_in32 _ 1 500
  have e2 : f_X6_in (Int32.toInt64 q) (1 : Int64) (100 : Int64) = some (xb01 (inR q 1 100)) := p_X6_in32 _ 1 100
  have e3 : f_X6_in (Int32.toInt64 r) (0 : Int64) (999 : Int64) = some (xb01 (inR r 0 999)) := p_X6_in32 _ 0 999
  have e4 : f_X6_in (Int32.toInt64 t) (1 : Int64) (50000 : Int64) = some (xb01 (inR t 1 50000)) := p_X6_in32 _ 1 50000
  simp only [f_X6_addRoof, e1, e2, e3, e4, obind1_some, oletk, ch1, chs, gm_r1, gm_rc, gm_is, Option.bind_some, chle, p_X6_goes, obind2_some]
  simp only [xb01_0]
  by_cases c1 : (inR p 1 500 ∧ inR q 1 100 ∧ inR r 0 999 ∧ inR t 1 50000) ∧ ¬ (6 : Int32) ≤ nI k
  · have hk6 : k < 6 := by
      have e6 : (6 : Int32) = nI 6 := rfl
      have := c1.2
      rw [e6, xnI_le_iff (by omega) (by omega)] at this
      omega
    rw [if_neg (fun f => f c1), if_pos c1, if_pos c1.1, if_pos c1.2]
    simp only [mg_save hs hf, obind1_some, gm_r1, gm_rc, Option.bind_some, mr_0, mr_1, mr_2, mr_3, mr_4, tm_rf hk6 (show 0 < 5 by decide), tm_rf hk6 (show 1 < 5 by decide), tm_rf hk6 (show 2 < 5 by decide), tm_rf hk6 (show 3 < 5 by decide), tm_rf hk6 (show 4 < 5 by decide), xup_xup, xup_self, xnI_s, tm_rc]
  · rw [if_pos c1, if_neg c1]
theorem mg_addUser (hs : s ≤ 4) (hf : 3489 < fu) (hn : n ≤ 5) (p q : Int32) : f_X6_addUser fu (hm b W cap flo top eva lim rul rc (nI n) rn dn lev dry ap rf us ra ac sv as (nI s) th sd td sp lf tx tl pl nb) b p q =
    if (inR p 0 9999 ∧ inR q 1 9) ∧ ¬ (5 : Int32) ≤ nI n then some (nI n, hm b W cap flo top eva lim rul rc (nI (n + 1)) rn dn lev dry ap rf (xup us n (xup (xup (xup (xup (us n) 0 p) 1 q) 2 0) 3 0)) ra ac (m_sav s (m_al cap flo top eva lim rul rc (nI n) rn dn lev dry ap rf us ra ac) sv) as (nI (min s 3 + 1)) 0 sd td sp lf tx tl pl nb)
    else some (0, hm b W cap flo top eva lim rul rc (nI n) rn dn lev dry ap rf us ra ac sv as (nI s) (if inR p 0 9999 ∧ inR q 1 9 then if ¬ (5 : Int32) ≤ nI n then 0 else 2 else 1) sd td sp lf tx tl pl nb) := by
  have e1 : f_X6_in (Int32.toInt64 p) (0 : Int64) (9999 : Int64) = some (xb01 (inR p 0 9999)) := p_X6_in32 _ 0 9999
  have e2 : f_X6_in (Int32.toInt64 q) (1 : Int64) (9 : Int64) = some (xb01 (inR q 1 9)) := p_X6_in32 _ 1 9
  simp only [f_X6_addUser, e1, e2, obind1_some, oletk, ch1, chs, gm_r1, gm_uc, gm_is, Option.bind_some, chle, p_X6_goes, obind2_some]
  simp only [xb01_0]
  by_cases c1 : (inR p 0 9999 ∧ inR q 1 9) ∧ ¬ (5 : Int32) ≤ nI n
  · have hk6 : n < 5 := by
      have e6 : (5 : Int32) = nI 5 := rfl
      have := c1.2
      rw [e6, xnI_le_iff (by omega) (by omega)] at this
      omega
    rw [if_neg (fun f => f c1), if_pos c1, if_pos c1.1, if_pos c1.2]
    simp only [mg_save hs hf, obind1_some, gm_r1, gm_uc, Option.bind_some, mu_0, mu_1, mu_2, mu_3, tm_us hk6 (show 0 < 4 by decide), tm_us hk6 (show 1 < 4 by decide), tm_us hk6 (show 2 < 4 by decide), tm_us hk6 (show 3 < 4 by decide), xup_xup, xup_self, xnI_s, tm_uc]
  · rw [if_pos c1, if_neg c1]
theorem mg_setDemand (hs : s ≤ 4) (hf : 3489 < fu) (hn : n ≤ 5) {i : Nat} (hi : i < n) {q : Int32} (c2 : inR q 0 9999) : f_X6_setDemand fu (hm b W cap flo top eva lim rul rc (nI n) rn dn lev dry ap rf us ra ac sv as (nI s) th sd td sp lf tx tl pl nb) b (nI i) q =
    some (us i 0, hm b W cap flo top eva lim rul rc (nI n) rn dn lev dry ap rf (xup us i (xup (us i) 0 q)) ra ac (m_sav s (m_al cap flo top eva lim rul rc (nI n) rn dn lev dry ap rf us ra ac) sv) as (nI (min s 3 + 1)) 0 sd td sp lf tx tl pl nb) := by
  have e2 : f_X6_in (Int32.toInt64 q) (0 : Int64) (9999 : Int64) = some (xb01 (inR q 0 9999)) := p_X6_in32 _ 0 9999
  have h1 : 0 ≤ (nI i).toInt ∧ (nI i).toInt < n := by rw [xnI_toInt (by omega)]; omega
  have e3 : f_X6_userAt (nI i) (0 : Int32) = some (nI (43 + 4 * i + 0)) := mu_0
  simp only [f_X6_setDemand, p_X6_isUser (show n < 1000000 by omega), e2, obind1_some, gm_is, Option.bind_some, p_X6_goes, obind2_some, xb01_0, if_neg (fun f => f ⟨h1, c2⟩ : ¬ ¬ ((0 ≤ (nI i).toInt ∧ (nI i).toInt < n) ∧ inR q 0 9999)), if_pos h1, if_pos c2, mg_save hs hf, ous_0 (show i < 5 by omega), gm_r1, e3, tm_us (show i < 5 by omega) (show 0 < 4 by decide)]
theorem mg_setDemand0 {x q : Int32} (hn : n ≤ 5) (c : ¬ ((0 ≤ x.toInt ∧ x.toInt < n) ∧ inR q 0 9999)) : f_X6_setDemand fu (hm b W cap flo top eva lim rul rc (nI n) rn dn lev dry ap rf us ra ac sv as sm th sd td sp lf tx tl pl nb) b x q = some (0, hm b W cap flo top eva lim rul rc (nI n) rn dn lev dry ap rf us ra ac sv as sm (if 0 ≤ x.toInt ∧ x.toInt < n then if inR q 0 9999 then 0 else 2 else 1) sd td sp lf tx tl pl nb) := by
  have e2 : f_X6_in (Int32.toInt64 q) (0 : Int64) (9999 : Int64) = some (xb01 (inR q 0 9999)) := p_X6_in32 _ 0 9999
  simp only [f_X6_setDemand, p_X6_isUser (show n < 1000000 by omega), e2, obind1_some, gm_is, Option.bind_some, p_X6_goes, obind2_some, xb01_0, if_pos c]
theorem mg_setReservoir (hs : s ≤ 4) (hf : 3489 < fu) (p q r : Int32) : f_X6_setReservoir fu (hm b W cap flo top eva lim rul rc uc rn dn lev dry ap rf us ra ac sv as (nI s) th sd td sp lf tx tl pl nb) b p q r =
    if inR p 100 60000 ∧ inR q 0 p ∧ inR r 0 p then some (cap, hm b W p q r eva lim rul rc uc rn dn (if lev ≤ p then lev else p) dry (if lev ≤ p then ap else ap + (lev - p)) rf us ra ac (m_sav s (m_al cap flo top eva lim rul rc uc rn dn lev dry ap rf us ra ac) sv) as (nI (min s 3 + 1)) 0 sd td sp lf tx tl pl nb)
    else some (0, hm b W cap flo top eva lim rul rc uc rn dn lev dry ap rf us ra ac sv as (nI s) 1 sd td sp lf tx tl pl nb) := by
  have e1 : f_X6_in (Int32.toInt64 p) (100 : Int64) (60000 : Int64) = some (xb01 (inR p 100 60000)) := p_X6_in32 _ 100 60000
  have e2 : f_X6_in (Int32.toInt64 q) (0 : Int64) (Int32.toInt64 p) = some (xb01 (inR q 0 p)) := p_X6_in32 _ 0 p
  have e3 : f_X6_in (Int32.toInt64 r) (0 : Int64) (Int32.toInt64 p) = some (xb01 (inR r 0 p)) := p_X6_in32 _ 0 p
  simp only [f_X6_setReservoir, e1, e2, e3, obind1_some, oletk, ch1, chs, gm_is, Option.bind_some, gm_goes1, obind2_some]
  simp only [xb01_0]
  by_cases c1 : inR p 100 60000 ∧ inR q 0 p ∧ inR r 0 p
  · rw [if_neg (fun f => f c1), if_pos c1, if_pos c1]
    simp only [mg_save hs hf, obind1_some, gm_r1, gm_cap, tm_cap, tm_flo, tm_top, gm_lev, Option.bind_some]
    by_cases c2 : lev ≤ p
    · simp only [if_pos c2, obind1_some]
    · simp only [if_neg c2, gm_r1, gm_ap, gm_lev, tm_ap, tm_lev, Option.bind_some, obind1_some]
  · rw [if_pos c1, if_neg c1, if_neg c1]
theorem mg_setWays (hs : s ≤ 4) (hf : 3489 < fu) (p q r : Int32) : f_X6_setWays fu (hm b W cap flo top eva lim rul rc uc rn dn lev dry ap rf us ra ac sv as (nI s) th sd td sp lf tx tl pl nb) b p q r =
    if inR p 0 100 ∧ inR q 1 20 ∧ inR r 0 3 then some (rul, hm b W cap flo top p q r rc uc rn dn lev dry ap rf us ra ac (m_sav s (m_al cap flo top eva lim rul rc uc rn dn lev dry ap rf us ra ac) sv) as (nI (min s 3 + 1)) 0 sd td sp lf tx tl pl nb)
    else some (0, hm b W cap flo top eva lim rul rc uc rn dn lev dry ap rf us ra ac sv as (nI s) 1 sd td sp lf tx tl pl nb) := by
  have e1 : f_X6_in (Int32.toInt64 p) (0 : Int64) (100 : Int64) = some (xb01 (inR p 0 100)) := p_X6_in32 _ 0 100
  have e2 : f_X6_in (Int32.toInt64 q) (1 : Int64) (20 : Int64) = some (xb01 (inR q 1 20)) := p_X6_in32 _ 1 20
  have e3 : f_X6_in (Int32.toInt64 r) (0 : Int64) (3 : Int64) = some (xb01 (inR r 0 3)) := p_X6_in32 _ 0 3
  simp only [f_X6_setWays, e1, e2, e3, obind1_some, oletk, ch1, chs, gm_is, Option.bind_some, gm_goes1, obind2_some]
  simp only [xb01_0]
  by_cases c1 : inR p 0 100 ∧ inR q 1 20 ∧ inR r 0 3
  · rw [if_neg (fun f => f c1), if_pos c1, if_pos c1]
    simp only [mg_save hs hf, obind1_some, gm_r1, gm_rul, tm_eva, tm_lim, tm_rul, Option.bind_some]
  · rw [if_pos c1, if_neg c1, if_neg c1]
theorem mg_addRain (hs : s ≤ 4) (hf : 3489 < fu) {d : Nat} (hN : N + d ≤ 100) (hd : 1 ≤ d) {p : Int32} (c1 : inR p 0 200) : f_X6_addRain fu (hm b W cap flo top eva lim rul rc uc (nI N) dn lev dry ap rf us ra ac sv as (nI s) th sd td sp lf tx tl pl nb) b p (nI d) =
    some (nI (N + d), hm b W cap flo top eva lim rul rc uc (nI (N + d)) dn lev dry ap rf us (fill p N d ra) ac (m_sav s (m_al cap flo top eva lim rul rc uc (nI N) dn lev dry ap rf us ra ac) sv) as (nI (min s 3 + 1)) 0 sd td sp lf tx tl pl nb) := by
  have e1 : f_X6_in (Int32.toInt64 p) (0 : Int64) (200 : Int64) = some (xb01 (inR p 0 200)) := p_X6_in32 _ 0 200
  have e2 : f_X6_in (Int32.toInt64 (nI d)) (1 : Int64) (100 : Int64) = some (xb01 (inR (nI d) 1 100)) := p_X6_in32 _ 1 100
  have c2 : inR (nI d) 1 100 := by
    have z1 : (1 : Int32).toInt = 1 := rfl
    have z2 : (100 : Int32).toInt = 100 := rfl
    unfold inR
    rw [xnI_toInt (by omega), z1, z2]; omega
  have c3 : ¬ (100 : Int32) < nI (N + d) := by
    have e6 : (100 : Int32) = nI 100 := rfl
    rw [e6, xnI_lt_iff (by omega) (by omega)]; omega
  simp only [f_X6_addRain, e1, e2, obind1_some, oletk, ch1, chs, gm_r1, gm_rn, gm_is, Option.bind_some, xnI_add, chlt, p_X6_goes, obind2_some]
  simp only [xb01_0]
  rw [if_neg (fun f => f ⟨⟨c1, c2⟩, ⟨c1, c2⟩, c3⟩), if_pos ⟨c1, c2⟩, if_pos ⟨⟨c1, c2⟩, c3⟩]
  simp only [mg_save hs hf, obind1_some, gm_is, Option.bind_some, p_X6_rains hN (show 101 < fu by omega), gm_r1, gm_rn]
theorem mg_addRain0 {p q : Int32} (c : ¬ ((inR p 0 200 ∧ inR q 1 100) ∧ ¬ (100 : Int32) < nI N + q)) : f_X6_addRain fu (hm b W cap flo top eva lim rul rc uc (nI N) dn lev dry ap rf us ra ac sv as sm th sd td sp lf tx tl pl nb) b p q = some (0, hm b W cap flo top eva lim rul rc uc (nI N) dn lev dry ap rf us ra ac sv as sm (if inR p 0 200 ∧ inR q 1 100 then 2 else 1) sd td sp lf tx tl pl nb) := by
  have e1 : f_X6_in (Int32.toInt64 p) (0 : Int64) (200 : Int64) = some (xb01 (inR p 0 200)) := p_X6_in32 _ 0 200
  have e2 : f_X6_in (Int32.toInt64 q) (1 : Int64) (100 : Int64) = some (xb01 (inR q 1 100)) := p_X6_in32 _ 1 100
  simp only [f_X6_addRain, e1, e2, obind1_some, oletk, ch1, chs, gm_r1, gm_rn, gm_is, Option.bind_some, chlt, p_X6_goes, obind2_some]
  simp only [xb01_0]
  by_cases g : inR p 0 200 ∧ inR q 1 100
  · rw [if_pos (fun f => c f.2), if_pos g, if_neg (fun f => c f), if_pos g]
  · rw [if_pos (fun f => g f.1), if_neg g, if_neg g]
theorem mg_restart (hs : s ≤ 4) (hf : 3489 < fu) (hk : k ≤ 6) (hn : n ≤ 5) : f_X6_restart fu (hm b W cap flo top eva lim rul (nI k) (nI n) rn dn lev dry ap rf us ra ac sv as (nI s) th sd td sp lf tx tl pl nb) b =
    some (dn, hm b W cap flo top eva lim rul (nI k) (nI n) rn 0 0 0 0 (mg_rf k rf) (u_clr n us) ra ac (m_sav s (m_al cap flo top eva lim rul (nI k) (nI n) rn dn lev dry ap rf us ra ac) sv) as (nI (min s 3 + 1)) 0 sd td sp lf tx tl pl nb) := by
  simp only [f_X6_restart, sm_th, Option.bind_some, gm_is, mg_save hs hf, obind1_some, gm_r1, gm_dn, p_X6_goesBack hk hn (show 6 < fu by omega)]
theorem mg_append (hL : L ≤ 120) (p : Int32) : f_X6_append (hm b W cap flo top eva lim rul rc uc rn dn lev dry ap rf us ra ac sv as sm th sd td sp lf tx (nI L) pl nb) b p =
    if inR p 0 127 ∧ ¬ (120 : Int32) ≤ nI L then some (nI (L + 1), hm b W cap flo top eva lim rul rc uc rn dn lev dry ap rf us ra ac sv as sm 0 sd td sp lf (xup tx L p) (nI (L + 1)) pl nb) else some (0, hm b W cap flo top eva lim rul rc uc rn dn lev dry ap rf us ra ac sv as sm (if inR p 0 127 then 2 else 1) sd td sp lf tx (nI L) pl nb) := by
  have e1 : f_X6_in (Int32.toInt64 p) (0 : Int64) (127 : Int64) = some (xb01 (inR p 0 127)) := p_X6_in32 _ 0 127
  simp only [f_X6_append, e1, obind1_some, gm_tl, gm_is, Option.bind_some, chle, p_X6_goes, obind2_some]
  simp only [xb01_0]
  by_cases c1 : inR p 0 127 ∧ ¬ (120 : Int32) ≤ nI L
  · have hL1 : L < 120 := by
      have e6 : (120 : Int32) = nI 120 := rfl
      have := c1.2
      rw [e6, xnI_le_iff (by omega) (by omega)] at this
      omega
    have hx : xin (nI L) 120 = true := xin_nI hL1 (by decide)
    have h3 : (nI L).toNatClampNeg = L := xnI_nat (by omega)
    rw [if_neg (fun f => f c1), if_pos c1, if_pos c1.1, if_pos c1.2]
    simp only [gm_r5, gm_tl, tm_tx hx, h3, Option.bind_some, xnI_s, sm_tl]
  · rw [if_pos c1, if_neg c1]
    by_cases g : inR p 0 127
    · rw [if_pos g, if_neg (fun f => c1 ⟨g, f⟩), if_pos g]
    · rw [if_neg g, if_neg g]
theorem mg_clear : f_X6_clearText (hm b W cap flo top eva lim rul rc uc rn dn lev dry ap rf us ra ac sv as sm th sd td sp lf tx tl pl nb) b = some (tl, hm b W cap flo top eva lim rul rc uc rn dn lev dry ap rf us ra ac sv as sm 0 sd td sp lf tx 0 pl nb) := by
  simp only [f_X6_clearText, sm_th, gm_tl, sm_tl, Option.bind_some]
end PW7
