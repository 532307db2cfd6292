/-! The model swaps its two rows. -/
section PSM
variable {b : Nat} {W : XH} {cap flo top eva lim rul rc uc rn dn lev dry ap : Int32} {rf us : Nat → Nat → Int32} {ra ac sv as : Nat → Int32} {sm th : Int32} {sd : Int64} {td : Int32} {sp : Nat → Int64} {lf : Int32} {tx : Nat → Int32} {tl pl nb : Int32}
variable {a : Nat → Int32}
variable {fu : Nat}
theorem p_X6_swap (hf : 1163 < fu) : xloop (xf2 fun (v8 : Int32) (h8 : XH) =>
    if (1163 : Int32) ≤ v8 then some (.inr h8) else (xgR h8 b 6 0).bind fun v9 => (xald h8 v9 0 v8).bind fun v10 => (xgR h8 b 6 0).bind fun v11 => (xgR h8 b 6 2).bind fun v12 => (xald h8 v12 0 v8).bind fun v13 => (xast h8 v11 0 v8 v13).bind fun h10 => (xgR h10 b 6 2).bind fun v14 => (xast h10 v14 0 v8 v10).bind fun h11 => olet (v8 + (1 : Int32)) fun v15 => some (.inl (v15, h11))) fu ((0 : Int32), hr b W a sv as sm th sd td sp lf tx tl pl nb) =
    some (hr b W (cpn 1163 as a) sv (cpn 1163 a as) sm th sd td sp lf tx tl pl nb) := by
  rw [xloop_E (fun i (z : (Nat → Int32) × (Nat → Int32)) => (nI i, hr b W z.1 sv z.2 sm th sd td sp lf tx tl pl nb)) (fun i z => (xup z.1 i (z.2 i), xup z.2 i (z.1 i))) (fun z => hr b W z.1 sv z.2 sm th sd td sp lf tx tl pl nb) 1163 (a, as) ?h0 ?hs ?he ?hf]
  · have e : ∀ n, it (fun i (z : (Nat → Int32) × (Nat → Int32)) => (xup z.1 i (z.2 i), xup z.2 i (z.1 i))) (a, as) n = (cpn n as a, cpn n a as) := by
      intro n
      induction n with
      | zero => refine Prod.ext ?_ ?_ <;> funext k <;> simp [it, cpn]
      | succ n ih =>
        have e1 : cpn n a as n = as n := by unfold cpn; rw [if_neg (by omega)]
        have e2 : cpn n as a n = a n := by unfold cpn; rw [if_neg (by omega)]
        rw [it_s, ih]
        simp only [e1, e2, cpn_s]
    rw [e]
  case h0 => rfl
  case hf => omega
  case hs =>
    intro i z hi
    have hle : ¬ (1163 : Int32) ≤ nI i := nI_ge (b := 1163) hi (by decide)
    have h3 : (nI i).toNatClampNeg = i := xnI_nat (by omega)
    have hx := xin_nI hi (show 1163 < 2147483648 by decide)
    simp only [xf2, if_neg hle, hr_r1, hr_r3, Option.bind_some, hr_al hx, hr_as hx, hr_ua hx, hr_uas hx, h3, olet, xnI_s]
  case he =>
    intro z
    simp only [xf2, show (1163 : Int32) ≤ nI 1163 from Int32.le_refl _, if_true]
end PSM
