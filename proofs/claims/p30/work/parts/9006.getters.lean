/-! The getters, both sides. -/
section PW6
variable {B s L c k n N D : Nat} {h : XH} {cap flo top eva lim rul lev dry : Int32} {lo : Int64} {rf us : UT} {od ra ac : Nat → Int32} {ap : Int32} {rfm usm : UT} {ram acm sv as : Nat → Int32} {th : Int32} {sd : Int64} {td : Int32} {sp : Nat → Int64} {lf : Int32} {tx : Nat → Int32} {pl nb : Int32}
variable {fu : Nat}
theorem lsum_eq {w : Nat} {x : Int64} (e : ∀ j, j < D * 10 → ac j = acm j) (hw : w < 10) : lsum ac w x D = lsum acm w x D := by
  unfold lsum
  have := it_two (fun (i : Nat) (p q : Int64) => p = q) (fun d x => x + Int32.toInt64 (ac (d * 10 + w))) (fun d x => x + Int32.toInt64 (acm (d * 10 + w))) D (a := x) (b := x) rfl (fun i p q hi hpq => by
    show p + _ = q + _
    rw [hpq, e (i * 10 + w) (by omega)])
  exact this
theorem w_sum (hS : St (B + 1) h cap flo top eva lim rul (nI k) (nI n) (nI N) (nI D) lev dry lo rf us od ra ac) (hR : Rt B h s) (hD : D ≤ 100) (hf : 101 < fu) {w : Nat} (hw : 1 ≤ w ∧ w < 10) : f_X5_sum fu h B (nI w) = some (.inl (lsum ac w (if nI w = (4 : Int32) then lo else 0) D)) := by
  have c2 : (1 : Int32).toInt ≤ (nI w).toInt ∧ (nI w).toInt ≤ (9 : Int32).toInt := by
    have z1 : (1 : Int32).toInt = 1 := rfl
    have z9 : (9 : Int32).toInt = 9 := rfl
    rw [xnI_toInt (by omega), z1, z9]; omega
  unfold f_X5_sum
  rw [cr_y c2, oexc_inl]
  simp only [rt_0 hR, st_lo hS, Option.bind_some, obind1_ite]
  rw [xloop_E (fun i (x : Int64) => (x, nI i)) (fun d x => x + Int32.toInt64 (ac (d * 10 + w))) (fun x => x) D (if nI w = (4 : Int32) then lo else 0) ?h0 ?hs ?he ?hf]
  · rfl
  case h0 => rfl
  case hf => omega
  case hs =>
    intro i x hi
    have hle : ¬ nI D ≤ nI i := nI_ge hi (by omega)
    simp only [xf2, st_dn hS, Option.bind_some, if_neg hle, st_is hS, st_acc hS (show i < 100 by omega) hw.2, obind1_some, olet, xnI_s]
  case he =>
    intro x
    simp only [xf2, st_dn hS, Option.bind_some, Int32.le_refl, if_true]
theorem i64_of {x : Int64} {y : Int32} (h : y.toInt = x.toInt) : Int32.toInt64 y = x := by
  apply Int64.toInt_inj.mp
  rw [Int32.toInt_toInt64, h]
theorem w_sums (hS : St (B + 1) h cap flo top eva lim rul (nI k) (nI n) (nI N) (nI D) lev dry lo rf us od ra ac) (hR : Rt B h s) (hC : CT c k n N D cap flo top eva lev lo ap rf us rfm usm ra ac ram acm) (hf : 101 < fu) {w : Nat} (hw : 1 ≤ w ∧ w < 10) : f_X5_sum fu h B (nI w) = some (.inl (lsum acm w (if nI w = (4 : Int32) then Int32.toInt64 ap else 0) D)) := by
  rw [w_sum hS hR (Nat.le_trans hC.1.2.2.2 hC.1.2.2.1) hf hw, i64_of hC.2.1.1, lsum_eq hC.2.2.1.2.2.2 hw.2]
end PW6

