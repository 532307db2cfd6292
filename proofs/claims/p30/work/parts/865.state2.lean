/-! A State's own methods. -/
def u_share (rul A D : Int32) (n : Nat) (od : Nat → Int32) (u : UT) : UT :=
  if rul = 0 then (u_ones n (u_prop A D n (A, u))).2 else if rul = 1 then (u_ord (fun i => i) n (A, u)).2 else if rul = 2 then (u_wts n (A, u)).2
  else (u_ord (fun i => (u_srt (fun i => u i 0) n od i).toNatClampNeg) n (A, u)).2
def u_hand (A rul : Int32) (n : Nat) (od : Nat → Int32) (u : UT) : Int32 × UT :=
  u_got n (if A < u_dem n (u_clr2 n u) then u_share rul A (u_dem n (u_clr2 n u)) n od (u_clr2 n u) else (u_ord (fun i => i) n (u_dem n (u_clr2 n u), u_clr2 n u)).2)
def u_sod (rul : Int32) (n : Nat) (od : Nat → Int32) (u : UT) : Nat → Int32 := if rul = 0 then od else if rul = 1 then u_od1 n od else if rul = 2 then od else u_srt (fun i => u i 0) n od
def u_hod (A rul : Int32) (n : Nat) (od : Nat → Int32) (u : UT) : Nat → Int32 := if A < u_dem n (u_clr2 n u) then u_sod rul n od (u_clr2 n u) else u_od1 n od
/-- an account's place -/
theorem xacc {d j : Nat} : nI d * (10 : Int32) + nI j = nI (d * 10 + j) := by rw [show (10 : Int32) = nI 10 from rfl, xnI_mul, xnI_add]
theorem xacc0 {d : Nat} : nI d * (10 : Int32) + (0 : Int32) = nI (d * 10 + 0) := xacc (j := 0)
theorem xacc1 {d : Nat} : nI d * (10 : Int32) + (1 : Int32) = nI (d * 10 + 1) := xacc (j := 1)
theorem xacc2 {d : Nat} : nI d * (10 : Int32) + (2 : Int32) = nI (d * 10 + 2) := xacc (j := 2)
theorem xacc3 {d : Nat} : nI d * (10 : Int32) + (3 : Int32) = nI (d * 10 + 3) := xacc (j := 3)
theorem xacc4 {d : Nat} : nI d * (10 : Int32) + (4 : Int32) = nI (d * 10 + 4) := xacc (j := 4)
theorem xacc5 {d : Nat} : nI d * (10 : Int32) + (5 : Int32) = nI (d * 10 + 5) := xacc (j := 5)
theorem xacc6 {d : Nat} : nI d * (10 : Int32) + (6 : Int32) = nI (d * 10 + 6) := xacc (j := 6)
theorem xacc7 {d : Nat} : nI d * (10 : Int32) + (7 : Int32) = nI (d * 10 + 7) := xacc (j := 7)
theorem xacc8 {d : Nat} : nI d * (10 : Int32) + (8 : Int32) = nI (d * 10 + 8) := xacc (j := 8)
theorem xacc9 {d : Nat} : nI d * (10 : Int32) + (9 : Int32) = nI (d * 10 + 9) := xacc (j := 9)
/-- serve: over, evap, got, mains, level, rows -/
def s_lev2 (cap lev inf : Int32) : Int32 := (lev + inf) - xmax (lev + inf - cap) 0
def s_over (cap lev inf : Int32) : Int32 := xmax (lev + inf - cap) 0
def s_evap (cap eva lev inf : Int32) : Int32 := s_lev2 cap lev inf * eva / 1000
def s_lev3 (cap eva lev inf : Int32) : Int32 := s_lev2 cap lev inf - s_evap cap eva lev inf
def s_avl (cap flo eva lev inf : Int32) : Int32 := xmax (s_lev3 cap eva lev inf - flo) 0
def s_hand (cap flo eva rul lev inf : Int32) (n : Nat) (od : Nat → Int32) (u : UT) : Int32 × UT := u_hand (s_avl cap flo eva lev inf) rul n od u
def s_lev4 (cap flo eva rul lev inf : Int32) (n : Nat) (od : Nat → Int32) (u : UT) : Int32 := s_lev3 cap eva lev inf - (s_hand cap flo eva rul lev inf n od u).1
def s_mains (cap flo top eva rul lev inf : Int32) (n : Nat) (od : Nat → Int32) (u : UT) : Int32 := xmax (top - s_lev4 cap flo eva rul lev inf n od u) 0
def s_lev5 (cap flo top eva rul lev inf : Int32) (n : Nat) (od : Nat → Int32) (u : UT) : Int32 := s_lev4 cap flo eva rul lev inf n od u + s_mains cap flo top eva rul lev inf n od u
def s_lack (cap flo eva rul lev inf : Int32) (n : Nat) (od : Nat → Int32) (u : UT) : Int32 := u_dem n (s_hand cap flo eva rul lev inf n od u).2 - (s_hand cap flo eva rul lev inf n od u).1
def s_acc (cap flo top eva rul lev : Int32) (n d : Nat) (od : Nat → Int32) (u : UT) (ac : Nat → Int32) : Nat → Int32 :=
  let inf := ac (d * 10 + 1)
  xup (xup (xup (xup (xup (xup ac (d * 10 + 4) (s_over cap lev inf)) (d * 10 + 5) (s_evap cap eva lev inf)) (d * 10 + 6) (s_hand cap flo eva rul lev inf n od u).1) (d * 10 + 7) (s_lack cap flo eva rul lev inf n od u)) (d * 10 + 8) (s_mains cap flo top eva rul lev inf n od u)) (d * 10 + 0) (s_lev5 cap flo top eva rul lev inf n od u)
theorem xmax_nn (x : Int32) : 0 ≤ xmax x 0 := by
  unfold xmax
  split
  · exact Int32.le_refl _
  · next h => exact Int32.not_lt.mp h
section PS2
variable {b : Nat} {W : XH} {cap flo top eva lim rul rc uc rn dn lev dry : Int32} {lo : Int64} {rf us : Nat → Nat → Int32} {od ra ac : Nat → Int32}
variable {fu n k : Nat}
theorem p_X4_share (hn : n ≤ 5) (hf : 6 < fu) (A D : Int32) (hD : 0 < D) : f_X4_share fu (hp b W cap flo top eva lim rul rc (nI n) rn dn lev dry lo rf us od ra ac) (b + 8) A D rul = some (hp b W cap flo top eva lim rul rc (nI n) rn dn lev dry lo rf (u_share rul A D n od us) (u_sod rul n od us) ra ac) := by
  have hf5 : 5 < fu := by omega
  unfold f_X4_share u_share u_sod
  by_cases h0 : rul = 0
  · rw [if_pos h0, if_pos h0, if_pos h0]
    simp only [hi_us, Option.bind_some, p_X4_shareByDemand hn hf5 A D hD, obind1_some]
  · rw [if_neg h0, if_neg h0, if_neg h0]
    by_cases h1 : rul = 1
    · rw [if_pos h1, if_pos h1, if_pos h1]
      simp only [hi_us, Option.bind_some]
      rw [p_inOrder hn hf5, obind1_some]
    · rw [if_neg h1, if_neg h1, if_neg h1]
      by_cases h2 : rul = 2
      · rw [if_pos h2, if_pos h2, if_pos h2]
        simp only [hi_us, Option.bind_some, p_X4_shareInRounds hn hf A, obind1_some]
      · rw [if_neg h2, if_neg h2, if_neg h2]
        simp only [hi_us, Option.bind_some]
        rw [p_bySmall hn hf5, obind1_some]
theorem p_X4_handOut (hn : n ≤ 5) (hf : 6 < fu) (A : Int32) (hA : 0 ≤ A) : f_X4_handOut fu (hp b W cap flo top eva lim rul rc (nI n) rn dn lev dry lo rf us od ra ac) (b + 8) A rul = some ((u_hand A rul n od us).1, hp b W cap flo top eva lim rul rc (nI n) rn dn lev dry lo rf (u_hand A rul n od us).2 (u_hod A rul n od us) ra ac) := by
  have hf5 : 5 < fu := by omega
  have ho : (if A < u_dem n (u_clr2 n us) then (some () : Option Unit).bind fun _ => obind1 (f_X4_share fu (hp b W cap flo top eva lim rul rc (nI n) rn dn lev dry lo rf (u_clr2 n us) od ra ac) (b + 8) A (u_dem n (u_clr2 n us)) rul) fun h5 => some h5 else (some () : Option Unit).bind fun _ => obind1 (f_X4_orderByNumber fu (hp b W cap flo top eva lim rul rc (nI n) rn dn lev dry lo rf (u_clr2 n us) od ra ac) (b + 8)) fun h6 => (xis h6 (b + 8) 4).bind fun _ => obind1 (f_X4_serveOrder fu h6 (b + 8) (u_dem n (u_clr2 n us))) fun h7 => some h7) =
      some (hp b W cap flo top eva lim rul rc (nI n) rn dn lev dry lo rf (if A < u_dem n (u_clr2 n us) then u_share rul A (u_dem n (u_clr2 n us)) n od (u_clr2 n us) else (u_ord (fun i => i) n (u_dem n (u_clr2 n us), u_clr2 n us)).2) (u_hod A rul n od us) ra ac) := by
    unfold u_hod
    by_cases hq : A < u_dem n (u_clr2 n us)
    · rw [if_pos hq, if_pos hq, if_pos hq]
      simp only [Option.bind_some, p_X4_share hn hf A (u_dem n (u_clr2 n us)) (Int32.lt_of_le_of_lt hA hq), obind1_some]
    · rw [if_neg hq, if_neg hq, if_neg hq]
      rw [Option.bind_some, p_inOrder hn hf5]
  unfold f_X4_handOut
  rw [xloop_E (fun i u => (nI i, hp b W cap flo top eva lim rul rc (nI n) rn dn lev dry lo rf u od ra ac)) (fun i u => xup u i (xup (u i) 2 0)) (fun u => hp b W cap flo top eva lim rul rc (nI n) rn dn lev dry lo rf u od ra ac) n us ?h0 ?hs ?he ?hf]
  · show obind1 (some (hp b W cap flo top eva lim rul rc (nI n) rn dn lev dry lo rf (u_clr2 n us) od ra ac)) _ = _
    rw [obind1_some, hi_us, Option.bind_some, p_X4_demandInAll hn hf5, obind1_some]
    rw [ho, obind1_some]
    rw [xloop_E (fun i (x : Int32 × UT) => (x.1, nI i, hp b W cap flo top eva lim rul rc (nI n) rn dn lev dry lo rf x.2 (u_hod A rul n od us) ra ac)) (fun i x => (x.1 + x.2 i 2, xup x.2 i (xup (x.2 i) 3 (x.2 i 3 + x.2 i 2)))) (fun x => (x.1, hp b W cap flo top eva lim rul rc (nI n) rn dn lev dry lo rf x.2 (u_hod A rul n od us) ra ac)) n (0, (if A < u_dem n (u_clr2 n us) then u_share rul A (u_dem n (u_clr2 n us)) n od (u_clr2 n us) else (u_ord (fun i => i) n (u_dem n (u_clr2 n us), u_clr2 n us)).2)) ?g0 ?gs ?ge ?gf]
    · rfl
    case g0 => rfl
    case gf => omega
    case gs =>
      intro i u hi
      have h5 : i < 5 := by omega
      have h3 : (nI i).toNatClampNeg = i := xnI_nat (by omega)
      have hle : ¬ nI n ≤ nI i := nI_ge hi (by omega)
      have hx := xin_nI h5 (show 5 < 2147483648 by decide)
      simp only [xf3, hg_uc, Option.bind_some, if_neg hle, hg_rows, hq_user hx, h3, hg_usr h5 (show 3 < 4 by decide), hg_usr h5 (show 2 < 4 by decide), hs_usr h5 (show 3 < 4 by decide), xup_self, xup_ne _ _ (show (2 : Nat) ≠ 3 by decide), olet, xnI_s]
    case ge =>
      intro u
      simp only [xf3, hg_uc, Option.bind_some, Int32.le_refl, if_true]
  case h0 => rfl
  case hf => omega
  case hs =>
    intro i u hi
    have h5 : i < 5 := by omega
    have h3 : (nI i).toNatClampNeg = i := xnI_nat (by omega)
    have hle : ¬ nI n ≤ nI i := nI_ge hi (by omega)
    have hx := xin_nI h5 (show 5 < 2147483648 by decide)
    simp only [xf2, hg_uc, Option.bind_some, if_neg hle, hg_rows, hq_user hx, h3, hs_usr h5 (show 2 < 4 by decide), olet, xnI_s]
  case he =>
    intro u
    simp only [xf2, hg_uc, Option.bind_some, Int32.le_refl, if_true]
theorem p_X2_account {d : Nat} {x : Int32} {m : Nat} (hx : x = nI m) (hm : m < 1000) (p q : Int32) (hpq : p * 10 + q = x) : f_X2_account (hp b W cap flo top eva lim rul rc uc rn dn lev dry lo rf us od ra ac) b p q = some (ac m) := by
  subst hx
  have h3 : (nI m).toNatClampNeg = m := xnI_nat (by omega)
  simp only [f_X2_account, hg_accounts, Option.bind_some, hpq, hl_ac (xin_nI hm (show 1000 < 2147483648 by decide)), h3]
theorem p_X2_put {x : Int32} {m : Nat} (hx : x = nI m) (hm : m < 1000) (p q v : Int32) (hpq : p * 10 + q = x) : f_X2_put (hp b W cap flo top eva lim rul rc uc rn dn lev dry lo rf us od ra ac) b p q v = some (hp b W cap flo top eva lim rul rc uc rn dn lev dry lo rf us od ra (xup ac m v)) := by
  subst hx
  have h3 : (nI m).toNatClampNeg = m := xnI_nat (by omega)
  simp only [f_X2_put, hg_accounts, Option.bind_some, hpq, ht_ac (xin_nI hm (show 1000 < 2147483648 by decide)), h3]
theorem p_X2_drop : f_X2_dropAboveCapacity (hp b W cap flo top eva lim rul rc uc rn dn lev dry lo rf us od ra ac) b = some (xmax (lev - cap) 0, hp b W cap flo top eva lim rul rc uc rn dn (lev - xmax (lev - cap) 0) dry lo rf us od ra ac) := by
  simp only [f_X2_dropAboveCapacity, hg_lev, hg_cap, Option.bind_some, olet, hs_lev]
theorem p_X2_serve (hn : n ≤ 5) (hf : 6 < fu) {d : Nat} (hd : d < 100) : f_X2_serve fu (hp b W cap flo top eva lim rul rc (nI n) rn dn lev dry lo rf us od ra ac) b (nI d) = some (hp b W cap flo top eva lim rul rc (nI n) rn dn (s_lev5 cap flo top eva rul lev (ac (d * 10 + 1)) n od us) dry lo rf (s_hand cap flo eva rul lev (ac (d * 10 + 1)) n od us).2 (u_hod (s_avl cap flo eva lev (ac (d * 10 + 1))) rul n od us) ra (s_acc cap flo top eva rul lev n d od us ac)) := by
  unfold f_X2_serve
  simp only [hg_lev, Option.bind_some, hi_st, p_X2_account (d := d) xacc1 (show d * 10 + 1 < 1000 by omega) (nI d) 1 rfl, obind1_some, hs_lev, p_X2_drop, obind2_some, p_X2_put xacc4 (show d * 10 + 4 < 1000 by omega) (nI d) 4 _ rfl, hg_eva, olet, hg_users, hg_flo, hg_rul, hi_us]
  have e1 : xmax (s_lev3 cap eva lev (ac (d * 10 + 1)) - flo) 0 = s_avl cap flo eva lev (ac (d * 10 + 1)) := rfl
  show obind2 (f_X4_handOut fu (hp b W cap flo top eva lim rul rc (nI n) rn dn (s_lev3 cap eva lev (ac (d * 10 + 1))) dry lo rf us od ra (xup ac (d * 10 + 4) (s_over cap lev (ac (d * 10 + 1))))) (b + 8) (s_avl cap flo eva lev (ac (d * 10 + 1))) rul) _ = _
  rw [p_X4_handOut hn hf (s_avl cap flo eva lev (ac (d * 10 + 1))) (xmax_nn _)]
  simp only [obind2_some, hg_lev, Option.bind_some, hs_lev, hg_top, hi_st, p_X2_put xacc5 (show d * 10 + 5 < 1000 by omega) (nI d) 5 _ rfl, obind1_some, p_X2_put xacc6 (show d * 10 + 6 < 1000 by omega) (nI d) 6 _ rfl, hg_users, hi_us, p_X4_demandInAll hn (show 5 < fu by omega), p_X2_put xacc7 (show d * 10 + 7 < 1000 by omega) (nI d) 7 _ rfl, p_X2_put xacc8 (show d * 10 + 8 < 1000 by omega) (nI d) 8 _ rfl, p_X2_put xacc0 (show d * 10 + 0 < 1000 by omega) (nI d) 0 _ rfl]
  rfl
end PS2

