/-! Sums, and the raised demands. -/
def w_sc (n : Nat) (pc : Int32) (us' us : UT) : UT := it (fun i u => xup u i (xup (u i) 0 (us' i 0 * pc / 100))) us n
def lsum (ac : Nat → Int32) (w : Nat) (x : Int64) (D : Nat) : Int64 := it (fun d x => x + Int32.toInt64 (ac (d * 10 + w))) x D
section PSO
variable {b : Nat} {W : XH} {cap flo top eva lim rul rc uc rn dn lev dry : Int32} {lo : Int64} {rf us : Nat → Nat → Int32} {od ra ac : Nat → Int32}
variable {b' : Nat} {cap' flo' top' eva' lim' rul' rc' uc' rn' dn' lev' dry' : Int32} {lo' : Int64} {rf' us' : Nat → Nat → Int32} {od' ra' ac' : Nat → Int32}
variable {fu n : Nat}
theorem p_X4_scaleDemands (hS : St b' W cap' flo' top' eva' lim' rul' rc' uc' rn' dn' lev' dry' lo' rf' us' od' ra' ac') (hd : b + 18 ≤ b' ∨ b' + 18 ≤ b) (hn : n ≤ 5) (hf : 6 < fu) (pc : Int32) : f_X4_scaleDemands fu (hp b W cap flo top eva lim rul rc (nI n) rn dn lev dry lo rf us od ra ac) (b + 8) (b' + 8) pc = some (hp b W cap flo top eva lim rul rc (nI n) rn dn lev dry lo rf (w_sc n pc us' us) od ra ac) := by
  unfold f_X4_scaleDemands
  rw [xloop_E (fun i u => (nI i, hp b W cap flo top eva lim rul rc (nI n) rn dn lev dry lo rf u od ra ac)) (fun i u => xup u i (xup (u i) 0 (us' i 0 * pc / 100))) (fun u => hp b W cap flo top eva lim rul rc (nI n) rn dn lev dry lo rf u od ra ac) n us ?h0 ?hs ?he ?hf]
  · rfl
  case h0 => rfl
  case hf => omega
  case hs =>
    intro i u hi
    have h5 : i < 5 := by omega
    have h3 : (nI i).toNatClampNeg = i := xnI_nat (by omega)
    have hle : ¬ nI n ≤ nI i := nI_ge hi (by omega)
    have hx := xin_nI h5 (show 5 < 2147483648 by decide)
    simp only [xf2, hg_uc, Option.bind_some, if_neg hle, hg_rows, hq_user hx, sr_rows hS hd, sr_quser hS hd hx, h3, sr_us hS hd h5 (show 0 < 4 by decide), hs_usr h5 (show 0 < 4 by decide), olet, xnI_s]
  case he =>
    intro u
    simp only [xf2, hg_uc, Option.bind_some, Int32.le_refl, if_true]
end PSO
section PSP
variable {b : Nat} {W : XH} {cap flo top eva lim rul rc uc rn dn lev dry ap : Int32} {rf us : Nat → Nat → Int32} {ra ac sv as : Nat → Int32} {sm th : Int32} {sd : Int64} {td : Int32} {sp : Nat → Int64} {lf : Int32} {tx : Nat → Int32} {tl pl nb : Int32}
variable {fu D w : Nat}
end PSP

