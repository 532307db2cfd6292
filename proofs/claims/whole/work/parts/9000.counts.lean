/-! Days counted. -/
def b_sh (ac : Nat → Int32) (d : Nat) : Int32 := if ac (d * 10 + 7) ≤ 0 then 0 else 1
def b_long (ac : Nat → Int32) (D : Nat) : Int32 × Int32 := it (fun d (x : Int32 × Int32) => (xmax x.1 (if b_sh ac d = 0 then 0 else x.2 + 1), if b_sh ac d = 0 then 0 else x.2 + 1)) (0, 0) D
def b_most (us : UT) (N : Int32) (n : Nat) : Int32 := it (fun i x => xmax x (us i 0 * N - us i 3)) 0 n
theorem xmax_le (x y : Int32) : (if y ≤ x then x else y) = xmax x y := by
  unfold xmax
  by_cases c : x < y
  · rw [if_pos c, if_neg (Int32.not_le.mpr c)]
  · rw [if_neg c, if_pos (Int32.not_lt.mp c)]
section PSQ
variable {b : Nat} {W : XH} {cap flo top eva lim rul rc uc rn dn lev dry ap : Int32} {rf us : Nat → Nat → Int32} {ra ac sv as : Nat → Int32} {sm th : Int32} {sd : Int64} {td : Int32} {sp : Nat → Int64} {lf : Int32} {tx : Nat → Int32} {tl pl nb : Int32}
variable {fu D n d : Nat}
theorem p_X6_wasShort (hd : d < 100) : f_X6_wasShort (hm b W cap flo top eva lim rul rc uc rn dn lev dry ap rf us ra ac sv as sm th sd td sp lf tx tl pl nb) b (nI d) = some (b_sh ac d) := by
  simp only [f_X6_wasShort, gm_r1, Option.bind_some, ix_ac d (show (7 : Int32) = nI 7 from rfl), gm_ac (show d * 10 + 7 < 1000 by omega), obind1_ite]
  unfold b_sh
  by_cases c : ac (d * 10 + 7) ≤ 0
  · rw [if_pos c]; rfl
  · rw [if_neg c]; rfl
theorem p_X6_longestShortage (hD : D ≤ 100) (hf : 101 < fu) : f_X6_longestShortage fu (hm b W cap flo top eva lim rul rc uc rn (nI D) lev dry ap rf us ra ac sv as sm th sd td sp lf tx tl pl nb) b = some ((b_long ac D).1, hm b W cap flo top eva lim rul rc uc rn (nI D) lev dry ap rf us ra ac sv as sm 0 sd td sp lf tx tl pl nb) := by
  unfold f_X6_longestShortage
  simp only [sm_th, Option.bind_some]
  rw [xloop_E (fun i (x : Int32 × Int32) => (x.1, x.2, nI i)) (fun d (x : Int32 × Int32) => (xmax x.1 (if b_sh ac d = 0 then 0 else x.2 + 1), if b_sh ac d = 0 then 0 else x.2 + 1)) (fun x => x.1) D (0, 0) ?h0 ?hs ?he ?hf]
  · rfl
  case h0 => rfl
  case hf => omega
  case hs =>
    intro i x hi
    have hle : ¬ nI D ≤ nI i := nI_ge hi (by omega)
    simp only [xf3, gm_r1, gm_dn, Option.bind_some, if_neg hle, gm_is, p_X6_wasShort (show i < 100 by omega), obind1_some, obind1_ite, xmax_le, olet, xnI_s]
  case he =>
    intro x
    simp only [xf3, gm_r1, gm_dn, Option.bind_some, Int32.le_refl, if_true]
theorem p_X6_mostLack (hn : n ≤ 5) (hf : 101 < fu) : f_X6_mostLack fu (hm b W cap flo top eva lim rul rc (nI n) rn dn lev dry ap rf us ra ac sv as sm th sd td sp lf tx tl pl nb) b = some (b_most us rn n) := by
  unfold f_X6_mostLack
  rw [xloop_E (fun i (x : Int32) => (x, nI i)) (fun i x => xmax x (us i 0 * rn - us i 3)) (fun x => x) n 0 ?h0 ?hs ?he ?hf]
  · rfl
  case h0 => rfl
  case hf => omega
  case hs =>
    intro i x hi
    have h5 : i < 5 := by omega
    have h3 : (nI i).toNatClampNeg = i := xnI_nat (by omega)
    have hle : ¬ nI n ≤ nI i := nI_ge hi (by omega)
    have hx := xin_nI h5 (show 5 < 2147483648 by decide)
    simp only [xf2, gm_r1, gm_uc, gm_rn, Option.bind_some, if_neg hle, gm_is, ous_0 h5, ous_3 h5, obind1_some, obind1_ite, xmax_le, olet, xnI_s]
  case he =>
    intro x
    simp only [xf2, gm_r1, gm_uc, Option.bind_some, Int32.le_refl, if_true]
end PSQ
