/-! The model reads an item. -/
section PSK
variable {b : Nat} {W : XH} {cap flo top eva lim rul rc uc rn dn lev dry ap : Int32} {rf us : Nat → Nat → Int32} {ra ac sv as : Nat → Int32} {sm th : Int32} {sd : Int64} {td : Int32} {sp : Nat → Int64} {lf : Int32} {tx : Nat → Int32} {tl pl nb : Int32}
variable {fu L p R : Nat}
theorem p_X6_rains {d : Nat} (hR : R + d ≤ 100) (hf : 101 < fu) (v : Int32) : f_X6_rains fu (hm b W cap flo top eva lim rul rc uc (nI R) dn lev dry ap rf us ra ac sv as sm th sd td sp lf tx tl pl nb) b v (nI d) = some (hm b W cap flo top eva lim rul rc uc (nI (R + d)) dn lev dry ap rf us (fill v R d ra) ac sv as sm th sd td sp lf tx tl pl nb) := by
  unfold f_X6_rains
  rw [xloop_E (fun i f => (nI i, hm b W cap flo top eva lim rul rc uc (nI (R + i)) dn lev dry ap rf us f ac sv as sm th sd td sp lf tx tl pl nb)) (fun i f => xup f (R + i) v) (fun f => hm b W cap flo top eva lim rul rc uc (nI (R + d)) dn lev dry ap rf us f ac sv as sm th sd td sp lf tx tl pl nb) d ra ?h0 ?hs ?he ?hf]
  · rfl
  case h0 => rfl
  case hf => omega
  case hs =>
    intro i f hi
    have hle : ¬ nI d ≤ nI i := nI_ge hi (by omega)
    simp only [xf2, if_neg hle, gm_r1, gm_rn, Option.bind_some, ix_ra, tm_ra (show R + i < 100 by omega), tm_rn, xnI_s, olet]
    rfl
  case he =>
    intro f
    simp only [xf2, Int32.le_refl, if_true]
/-- what follows the number of days -/
theorem p_X6_itemEnd (hL : L ≤ 120) {q : Nat} (hq : q ≤ L) (hR : R ≤ 100) (hf : 101 < fu) {v : Int32} {d : Nat} (hd : d ≤ 100) {K : Option (Int32 × XH)}
    (hK : K = ((xgI (hm b W cap flo top eva lim rul rc uc (nI R) dn lev dry ap rf us ra ac sv as sm th sd td sp lf tx (nI L) (nI q) nb) b 6 11).bind fun v11 => (xgI (hm b W cap flo top eva lim rul rc uc (nI R) dn lev dry ap rf us ra ac sv as sm th sd td sp lf tx (nI L) (nI q) nb) b 6 10).bind fun v12 => obind1 (oletk (some (0 : Int32)) fun k3 => if v12 ≤ v11 then k3 else (xgR (hm b W cap flo top eva lim rul rc uc (nI R) dn lev dry ap rf us ra ac sv as sm th sd td sp lf tx (nI L) (nI q) nb) b 6 9).bind fun v14 => (xgI (hm b W cap flo top eva lim rul rc uc (nI R) dn lev dry ap rf us ra ac sv as sm th sd td sp lf tx (nI L) (nI q) nb) b 6 11).bind fun v15 => (xald (hm b W cap flo top eva lim rul rc uc (nI R) dn lev dry ap rf us ra ac sv as sm th sd td sp lf tx (nI L) (nI q) nb) v14 0 v15).bind fun v16 =>
        if v16 = 59 then (xgR (hm b W cap flo top eva lim rul rc uc (nI R) dn lev dry ap rf us ra ac sv as sm th sd td sp lf tx (nI L) (nI q) nb) b 6 0).bind fun v17 => (xald (hm b W cap flo top eva lim rul rc uc (nI R) dn lev dry ap rf us ra ac sv as sm th sd td sp lf tx (nI L) (nI q) nb) v17 0 8).bind fun v18 => if 100 < v18 + nI d then k3 else some 1 else k3) fun v13 =>
      obind1 (if v13 = 0 then some (hm b W cap flo top eva lim rul rc uc (nI R) dn lev dry ap rf us ra ac sv as sm th sd td sp lf tx (nI L) (nI q) nb) else (xgI (hm b W cap flo top eva lim rul rc uc (nI R) dn lev dry ap rf us ra ac sv as sm th sd td sp lf tx (nI L) (nI q) nb) b 6 11).bind fun v19 => (xpV (hm b W cap flo top eva lim rul rc uc (nI R) dn lev dry ap rf us ra ac sv as sm th sd td sp lf tx (nI L) (nI q) nb) b 6 11 (.int (v19 + 1))).bind fun h6 => (xis h6 b 6).bind fun v20 => obind1 (f_X6_rains fu h6 b v (nI d)) fun h7 => some h7) fun h5 => (xbool v13).bind fun v21 => some (v21, h5))) :
    K = if nx L tx q 59 = true ∧ R + d ≤ 100 then some (1, hm b W cap flo top eva lim rul rc uc (nI (R + d)) dn lev dry ap rf us (fill v R d ra) ac sv as sm th sd td sp lf tx (nI L) (nI (q + 1)) nb) else some (0, hm b W cap flo top eva lim rul rc uc (nI R) dn lev dry ap rf us ra ac sv as sm th sd td sp lf tx (nI L) (nI q) nb) := by
  rw [hK]
  have h3 : (nI q).toNatClampNeg = q := xnI_nat (by omega)
  have xb0 : xbool (0 : Int32) = some 0 := rfl
  have xb1 : xbool (1 : Int32) = some 1 := rfl
  simp only [gm_pl, gm_tl, Option.bind_some, oletk]
  by_cases h : q < L
  · have hx := xin_nI (show q < 120 by omega) (show 120 < 2147483648 by decide)
    rw [if_neg (nI_ge h (by omega))]
    simp only [gm_r5, gm_pl, Option.bind_some, gm_tx hx, h3]
    by_cases e : tx q = 59
    · have hn := nx_iff.mpr ⟨h, e⟩
      rw [if_pos e]
      simp only [gm_r1, gm_rn, Option.bind_some, xnI_add]
      by_cases z : R + d ≤ 100
      · rw [if_neg (by rw [show (100 : Int32) = nI 100 from rfl, xnI_lt_iff (by decide) (by omega)]; omega), if_pos ⟨hn, z⟩, obind1_some, if_neg (by decide)]
        simp only [sm_pl, gm_is, Option.bind_some, xnI_s, p_X6_rains z hf, obind1_some, xb1]
      · rw [if_pos (by rw [show (100 : Int32) = nI 100 from rfl, xnI_lt_iff (by decide) (by omega)]; omega), if_neg (fun hh => z hh.2), obind1_some, if_pos rfl, obind1_some, xb0]
        rfl
    · rw [if_neg e, if_neg (fun hh => e (nx_iff.mp hh.1).2), obind1_some, if_pos rfl, obind1_some, xb0]
      rfl
  · rw [if_pos (by rw [xnI_le_iff (by omega) (by omega)]; omega), if_neg (fun hh => h (nx_iff.mp hh.1).1), obind1_some, if_pos rfl, obind1_some, xb0]
    rfl
end PSK
