/-! The first half of a day, and all days. -/
def c_dry (dry rain : Int32) : Int32 := if rain ≤ 0 then dry + 1 else 0
def c_drn (k : Nat) (lim dry rain : Int32) (rf : UT) : Int32 × UT := if rain ≤ 0 then (if dry + 1 < lim then (0, rf) else it (fun i x => (x.1 + x.2 i 4, xup x.2 i (xup (x.2 i) 4 0))) (0, rf) k) else (0, rf)
def r_cat (rf : UT) (i : Nat) (rain : Int32) : Int32 := rf i 0 * rain * rf i 1 / 100
def r_tak (rf : UT) (i : Nat) (rain : Int32) : Int32 := xmin (r_cat rf i rain) (rf i 2 - rf i 4)
def r_spl (rf : UT) (i : Nat) (rain : Int32) : Int32 := xmax (r_cat rf i rain - r_tak rf i rain - rf i 3) 0
def r_new (rf : UT) (i : Nat) (rain : Int32) : UT := xup rf i (xup (xup (rf i) 4 (rf i 4 + r_tak rf i rain)) 5 (rf i 5 + r_spl rf i rain))
def c_rfs (k : Nat) (rain : Int32) (x : Int32 × Int32 × Int32 × UT) : Int32 × Int32 × Int32 × UT := it (fun i x => (x.1 + (r_cat x.2.2.2 i rain - r_tak x.2.2.2 i rain - r_spl x.2.2.2 i rain), x.2.1 + r_tak x.2.2.2 i rain, x.2.2.1 + r_spl x.2.2.2 i rain, r_new x.2.2.2 i rain)) x k
/-- the roofs' part of a day: inflow, diverted, spilled, roofs -/
def c_day (k : Nat) (lim dry rain : Int32) (rf : UT) : Int32 × Int32 × Int32 × UT := c_rfs k rain (0, 0, 0, (c_drn k lim dry rain rf).2)
def c_acc (k : Nat) (lim dry rain : Int32) (d : Nat) (rf : UT) (ac : Nat → Int32) : Nat → Int32 :=
  xup (xup (xup (xup ac (d * 10 + 1) (c_day k lim dry rain rf).1) (d * 10 + 2) (c_day k lim dry rain rf).2.1) (d * 10 + 3) (c_day k lim dry rain rf).2.2.1) (d * 10 + 9) (c_drn k lim dry rain rf).1
def g_rf (k : Nat) (rf : UT) : UT := it (fun i r => xup r i (xup (xup (r i) 4 0) 5 0)) rf k
def xb01 (c : Prop) [Decidable c] : Int32 := if c then 1 else 0
section PS3
variable {b : Nat} {W : XH} {cap flo top eva lim rul rc uc rn dn lev dry : Int32} {lo : Int64} {rf us : Nat → Nat → Int32} {od ra ac : Nat → Int32}
variable {fu n k : Nat}
theorem p_X2_drainWhenDry (hk : k ≤ 6) (hf : 6 < fu) (r : Int32) : f_X2_drainWhenDry fu (hp b W cap flo top eva lim rul (nI k) uc rn dn lev dry lo rf us od ra ac) b r = some ((c_drn k lim dry r rf).1, hp b W cap flo top eva lim rul (nI k) uc rn dn lev (c_dry dry r) lo (c_drn k lim dry r rf).2 us od ra ac) := by
  unfold f_X2_drainWhenDry c_drn c_dry
  by_cases h0 : r ≤ 0
  · rw [if_pos h0, if_pos h0, if_pos h0]
    simp only [hg_dry, hs_dry, Option.bind_some, hg_lim]
    by_cases h1 : dry + 1 < lim
    · rw [if_pos h1, if_pos h1]; rfl
    · rw [if_neg h1, if_neg h1]
      rw [xloop_E (fun i (x : Int32 × UT) => (x.1, nI i, hp b W cap flo top eva lim rul (nI k) uc rn dn lev (dry + 1) lo x.2 us od ra ac)) (fun i x => (x.1 + x.2 i 4, xup x.2 i (xup (x.2 i) 4 0))) (fun x => (x.1, hp b W cap flo top eva lim rul (nI k) uc rn dn lev (dry + 1) lo x.2 us od ra ac)) k (0, rf) ?h0 ?hs ?he ?hf]
      · rfl
      case h0 => rfl
      case hf => omega
      case hs =>
        intro i u hi
        have h6 : i < 6 := by omega
        have h3 : (nI i).toNatClampNeg = i := xnI_nat (by omega)
        have hle : ¬ nI k ≤ nI i := nI_ge hi (by omega)
        have hx := xin_nI h6 (show 6 < 2147483648 by decide)
        simp only [xf3, hg_rc, Option.bind_some, if_neg hle, hg_roofs, hq_roof hx, h3, hi_roof h6, p_X1_drain h6, obind2_some, olet, xnI_s]
      case he =>
        intro u
        simp only [xf3, hg_rc, Option.bind_some, Int32.le_refl, if_true]
  · rw [if_neg h0, if_neg h0, if_neg h0]
    simp only [hs_dry, Option.bind_some]
theorem p_X2_collect (hk : k ≤ 6) (hf : 6 < fu) {d : Nat} (hd : d < 100) : f_X2_collect fu (hp b W cap flo top eva lim rul (nI k) uc rn dn lev dry lo rf us od ra ac) b (nI d) = some (hp b W cap flo top eva lim rul (nI k) uc rn dn lev (c_dry dry (ra d)) lo (c_day k lim dry (ra d) rf).2.2.2 us od ra (c_acc k lim dry (ra d) d rf ac)) := by
  have hd3 : (nI d).toNatClampNeg = d := xnI_nat (by omega)
  unfold f_X2_collect
  simp only [hg_rains, Option.bind_some, hl_ra (xin_nI hd (show 100 < 2147483648 by decide)), hd3, hi_st, p_X2_drainWhenDry hk hf, obind2_some]
  rw [xloop_E (fun i (x : Int32 × Int32 × Int32 × UT) => (x.1, x.2.1, x.2.2.1, nI i, hp b W cap flo top eva lim rul (nI k) uc rn dn lev (c_dry dry (ra d)) lo x.2.2.2 us od ra ac)) (fun i x => (x.1 + (r_cat x.2.2.2 i (ra d) - r_tak x.2.2.2 i (ra d) - r_spl x.2.2.2 i (ra d)), x.2.1 + r_tak x.2.2.2 i (ra d), x.2.2.1 + r_spl x.2.2.2 i (ra d), r_new x.2.2.2 i (ra d))) (fun x => (x.1, x.2.1, x.2.2.1, hp b W cap flo top eva lim rul (nI k) uc rn dn lev (c_dry dry (ra d)) lo x.2.2.2 us od ra ac)) k (0, 0, 0, (c_drn k lim dry (ra d) rf).2) ?h0 ?hs ?he ?hf]
  · simp only [obind4_some, hi_st, Option.bind_some, p_X2_put xacc1 (show d * 10 + 1 < 1000 by omega) (nI d) 1 _ rfl, p_X2_put xacc2 (show d * 10 + 2 < 1000 by omega) (nI d) 2 _ rfl, p_X2_put xacc3 (show d * 10 + 3 < 1000 by omega) (nI d) 3 _ rfl, p_X2_put xacc9 (show d * 10 + 9 < 1000 by omega) (nI d) 9 _ rfl, obind1_some]
    rfl
  case h0 => rfl
  case hf => omega
  case hs =>
    intro i u hi
    have h6 : i < 6 := by omega
    have h3 : (nI i).toNatClampNeg = i := xnI_nat (by omega)
    have hle : ¬ nI k ≤ nI i := nI_ge hi (by omega)
    have hx := xin_nI h6 (show 6 < 2147483648 by decide)
    simp only [xf5, hg_rc, Option.bind_some, if_neg hle, hg_roofs, hq_roof hx, h3, hi_roof h6, p_X1_caught h6, p_X1_divert h6, p_X1_spill h6, obind1_some, obind2_some, olet, xnI_s, xup_self, xup_xup, xup_ne _ _ (show (3 : Nat) ≠ 4 by decide), xup_ne _ _ (show (5 : Nat) ≠ 4 by decide)]
    rfl
  case he =>
    intro u
    simp only [xf5, hg_rc, Option.bind_some, Int32.le_refl, if_true]
theorem p_X2_isShort {d : Nat} (hd : d < 100) : f_X2_isShort (hp b W cap flo top eva lim rul rc uc rn dn lev dry lo rf us od ra ac) b (nI d) = some (if ac (d * 10 + 7) ≤ 0 then 0 else 1) := by
  unfold f_X2_isShort
  simp only [hi_st, Option.bind_some, p_X2_account (d := d) xacc7 (show d * 10 + 7 < 1000 by omega) (nI d) 7 rfl, obind1_some]
  by_cases h : ac (d * 10 + 7) ≤ 0
  · simp only [if_pos h, obind1_some]; rfl
  · simp only [if_neg h, obind1_some]; rfl
theorem p_X2_goBack (hk : k ≤ 6) (hn : n ≤ 5) (hf : 6 < fu) : f_X2_goBack fu (hp b W cap flo top eva lim rul (nI k) (nI n) rn dn lev dry lo rf us od ra ac) b = some (hp b W cap flo top eva lim rul (nI k) (nI n) rn 0 0 0 0 (g_rf k rf) (u_clr n us) od ra ac) := by
  unfold f_X2_goBack
  simp only [hs_dn, hs_lev, hs_dry, hs_lo, Option.bind_some]
  rw [xloop_E (fun i r => (nI i, hp b W cap flo top eva lim rul (nI k) (nI n) rn 0 0 0 0 r us od ra ac)) (fun i r => xup r i (xup (xup (r i) 4 0) 5 0)) (fun r => hp b W cap flo top eva lim rul (nI k) (nI n) rn 0 0 0 0 r us od ra ac) k rf ?h0 ?hs ?he ?hf]
  · simp only [obind1_some, hg_users, hi_us, Option.bind_some, p_X4_clearAmounts hn (show 5 < fu by omega)]
    rfl
  case h0 => rfl
  case hf => omega
  case hs =>
    intro i u hi
    have h6 : i < 6 := by omega
    have h3 : (nI i).toNatClampNeg = i := xnI_nat (by omega)
    have hle : ¬ nI k ≤ nI i := nI_ge hi (by omega)
    have hx := xin_nI h6 (show 6 < 2147483648 by decide)
    simp only [xf2, hg_rc, Option.bind_some, if_neg hle, hg_roofs, hq_roof hx, h3, hi_roof h6, p_X1_clearAmounts h6, obind1_some, olet, xnI_s]
  case he =>
    intro u
    simp only [xf2, hg_rc, Option.bind_some, Int32.le_refl, if_true]
theorem p_X2_putRain {j : Nat} (hj : j < 100) (r : Int32) : f_X2_putRain (hp b W cap flo top eva lim rul rc uc (nI j) dn lev dry lo rf us od ra ac) b r = some (hp b W cap flo top eva lim rul rc uc (nI (j + 1)) dn lev dry lo rf us od (xup ra j r) ac) := by
  have h3 : (nI j).toNatClampNeg = j := xnI_nat (by omega)
  simp only [f_X2_putRain, hg_rains, hg_rn, Option.bind_some, ht_ra (xin_nI hj (show 100 < 2147483648 by decide)), h3, hs_rn, xnI_s]
end PS3

