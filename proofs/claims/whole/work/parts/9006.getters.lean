/-! The getters, both sides. -/
section PW6
variable {B s L c k n N D : Nat} {h : XH} {cap flo top eva lim rul lev dry : Int32} {lo : Int64} {rf us : UT} {od ra ac : Nat → Int32} {ap : Int32} {rfm usm : UT} {ram acm sv as : Nat → Int32} {th : Int32} {sd : Int64} {td : Int32} {sp : Nat → Int64} {lf : Int32} {tx : Nat → Int32} {pl nb : Int32}
variable {fu : Nat}
theorem K_setting (hS : St (B + 1) h cap flo top eva lim rul (nI k) (nI n) (nI N) (nI D) lev dry lo rf us od ra ac) (hO : Ot B h s sv c L tx) (hM : Mp (B + 113) h cap flo top eva lim rul (nI k) (nI n) (nI N) (nI D) lev dry ap rfm usm ram acm sv as (nI s) th sd td sp lf tx (nI L) pl nb) (hC : CT c k n N D cap flo top eva lev lo ap rf us rfm usm ra ac ram acm) (hs : s ≤ 4) (hL : L ≤ 120) (hX : Oc B h) (x : Int32) : KW Int32.toInt64 B c (f_L_setting h B x (B + 119)) (fun g => f_X6_setting g (B + 113) x) := by
  by_cases c1 : (0 : Int32).toInt ≤ x.toInt ∧ x.toInt ≤ (11 : Int32).toInt
  · obtain ⟨w, hw, rfl⟩ := ix_to (n := 11) rfl c1
    have e : f_X5_setting h B (nI w) = some (.inl (zz cap flo top eva lim rul (nI k) (nI n) (nI N) (nI D) lev dry w)) := by
      simp only [f_X5_setting, cr_y c1, oexc_inl, rt_0 hO.1, Option.bind_some, st_is hS, st_set hS hw, obind1_some, olift_some]
    have eL : f_L_setting h B (nI w) (B + 119) = (xastL h (B + 119) 0 (Int32.toInt64 (zz cap flo top eva lim rul (nI k) (nI n) (nI N) (nI D) lev dry w))).bind fun h2 => some (0, h2) := by
      simp only [f_L_setting, rt_is hO.1, Option.bind_some, e, xcatch_inl]
    rw [eL]
    exact K_get hS hO hM hC hs hL hX (fun g hg => by
      show f_X6_setting g (B + 113) (nI w) = _
      conv => lhs; rw [Mp_eq hg]
      exact mg_set hw)
  · have e : f_X5_setting h B x = some (.inr 0) := by
      simp only [f_X5_setting, cr_n c1, oexc_inr]
    have eL : f_L_setting h B x (B + 119) = some (1, h) := by
      simp only [f_L_setting, rt_is hO.1, Option.bind_some, e, xcatch_inr]
      rfl
    rw [eL]
    exact K_thr (by decide) hS hO hM hC hs hL hX (fun g hg => by
      show f_X6_setting g (B + 113) x = _
      conv => lhs; rw [Mp_eq hg]
      exact mg_set1 c1)
theorem K_roof (hS : St (B + 1) h cap flo top eva lim rul (nI k) (nI n) (nI N) (nI D) lev dry lo rf us od ra ac) (hO : Ot B h s sv c L tx) (hM : Mp (B + 113) h cap flo top eva lim rul (nI k) (nI n) (nI N) (nI D) lev dry ap rfm usm ram acm sv as (nI s) th sd td sp lf tx (nI L) pl nb) (hC : CT c k n N D cap flo top eva lev lo ap rf us rfm usm ra ac ram acm) (hs : s ≤ 4) (hL : L ≤ 120) (hX : Oc B h) (x y : Int32) : KW Int32.toInt64 B c (f_L_roof h B x y (B + 119)) (fun g => f_X6_roof g (B + 113) x y) := by
  have hk : k ≤ 6 := hC.1.1
  have hR := hC.2.2.1.1
  by_cases c1 : 0 ≤ x.toInt ∧ x.toInt < k
  · by_cases c2 : (0 : Int32).toInt ≤ y.toInt ∧ y.toInt ≤ (4 : Int32).toInt
    · have e1 : f_X5_checkIndex x (nI k) = some (.inl ()) := ci_y (by omega) c1
      have e2 := cr_y c2
      obtain ⟨i, hi, rfl⟩ := ix_of c1
      obtain ⟨w, hw, rfl⟩ := ix_to (n := 4) rfl c2
      have e : f_X5_roof h B (nI i) (nI w) = some (.inl (rf i w)) := by
        simp only [f_X5_roof, rt_0 hO.1, Option.bind_some, st_rc hS, e1, e2, oexc_inl, st_roofs hS, st_qroof hS (show i < 6 by omega), st_ir hS (show i < 6 by omega), st_rv hS (show i < 6 by omega) hw, obind1_some, olift_some]
      have eL : f_L_roof h B (nI i) (nI w) (B + 119) = (xastL h (B + 119) 0 (Int32.toInt64 (rfm i w))).bind fun h2 => some (0, h2) := by
        simp only [f_L_roof, rt_is hO.1, Option.bind_some, e, xcatch_inl, hR i hi w hw]
      rw [eL]
      exact K_get hS hO hM hC hs hL hX (fun g hg => by
        show f_X6_roof g (B + 113) (nI i) (nI w) = _
        conv => lhs; rw [Mp_eq hg]
        exact mg_roof hi hk hw)
    · have e : f_X5_roof h B x y = some (.inr 0) := by
        simp only [f_X5_roof, rt_0 hO.1, Option.bind_some, st_rc hS, ci_y (show k < 1000000 by omega) c1, cr_n c2, oexc_inl, oexc_inr]
      have eL : f_L_roof h B x y (B + 119) = some (2, h) := by
        simp only [f_L_roof, rt_is hO.1, Option.bind_some, e, xcatch_inr]
        rfl
      rw [eL]
      exact K_thr (by decide) hS hO hM hC hs hL hX (fun g hg => by
        show f_X6_roof g (B + 113) x y = _
        conv => lhs; rw [Mp_eq hg]
        exact mg_roof2 hk c1 c2)
  · have e : f_X5_roof h B x y = some (.inr 2) := by
      simp only [f_X5_roof, rt_0 hO.1, Option.bind_some, st_rc hS, ci_n (show k < 1000000 by omega) c1, oexc_inr]
    have eL : f_L_roof h B x y (B + 119) = some (1, h) := by
      simp only [f_L_roof, rt_is hO.1, Option.bind_some, e, xcatch_inr]
      rfl
    rw [eL]
    exact K_thr (by decide) hS hO hM hC hs hL hX (fun g hg => by
      show f_X6_roof g (B + 113) x y = _
      conv => lhs; rw [Mp_eq hg]
      exact mg_roof1 hk c1)
theorem K_user (hS : St (B + 1) h cap flo top eva lim rul (nI k) (nI n) (nI N) (nI D) lev dry lo rf us od ra ac) (hO : Ot B h s sv c L tx) (hM : Mp (B + 113) h cap flo top eva lim rul (nI k) (nI n) (nI N) (nI D) lev dry ap rfm usm ram acm sv as (nI s) th sd td sp lf tx (nI L) pl nb) (hC : CT c k n N D cap flo top eva lev lo ap rf us rfm usm ra ac ram acm) (hs : s ≤ 4) (hL : L ≤ 120) (hX : Oc B h) (x y : Int32) : KW Int32.toInt64 B c (f_L_user h B x y (B + 119)) (fun g => f_X6_user g (B + 113) x y) := by
  have hn : n ≤ 5 := hC.1.2.1
  have hR := hC.2.2.1.2.1
  by_cases c1 : 0 ≤ x.toInt ∧ x.toInt < n
  · by_cases c2 : (0 : Int32).toInt ≤ y.toInt ∧ y.toInt ≤ (3 : Int32).toInt
    · have e1 : f_X5_checkIndex x (nI n) = some (.inl ()) := ci_y (by omega) c1
      have e2 := cr_y c2
      obtain ⟨i, hi, rfl⟩ := ix_of c1
      obtain ⟨w, hw, rfl⟩ := ix_to (n := 3) rfl c2
      have e : f_X5_user h B (nI i) (nI w) = some (.inl (us i w)) := by
        simp only [f_X5_user, rt_0 hO.1, Option.bind_some, st_users hS, st_uc hS, e1, e2, oexc_inl, st_rows hS, st_quser hS (show i < 5 by omega), st_iw hS (show i < 5 by omega), st_uv hS (show i < 5 by omega) hw, obind1_some, olift_some]
      have eL : f_L_user h B (nI i) (nI w) (B + 119) = (xastL h (B + 119) 0 (Int32.toInt64 (usm i w))).bind fun h2 => some (0, h2) := by
        simp only [f_L_user, rt_is hO.1, Option.bind_some, e, xcatch_inl, hR i hi w hw]
      rw [eL]
      exact K_get hS hO hM hC hs hL hX (fun g hg => by
        show f_X6_user g (B + 113) (nI i) (nI w) = _
        conv => lhs; rw [Mp_eq hg]
        exact mg_user hi hn hw)
    · have e : f_X5_user h B x y = some (.inr 0) := by
        simp only [f_X5_user, rt_0 hO.1, Option.bind_some, st_users hS, st_uc hS, ci_y (show n < 1000000 by omega) c1, cr_n c2, oexc_inl, oexc_inr]
      have eL : f_L_user h B x y (B + 119) = some (2, h) := by
        simp only [f_L_user, rt_is hO.1, Option.bind_some, e, xcatch_inr]
        rfl
      rw [eL]
      exact K_thr (by decide) hS hO hM hC hs hL hX (fun g hg => by
        show f_X6_user g (B + 113) x y = _
        conv => lhs; rw [Mp_eq hg]
        exact mg_user2 hn c1 c2)
  · have e : f_X5_user h B x y = some (.inr 2) := by
      simp only [f_X5_user, rt_0 hO.1, Option.bind_some, st_users hS, st_uc hS, ci_n (show n < 1000000 by omega) c1, oexc_inr]
    have eL : f_L_user h B x y (B + 119) = some (1, h) := by
      simp only [f_L_user, rt_is hO.1, Option.bind_some, e, xcatch_inr]
      rfl
    rw [eL]
    exact K_thr (by decide) hS hO hM hC hs hL hX (fun g hg => by
      show f_X6_user g (B + 113) x y = _
      conv => lhs; rw [Mp_eq hg]
      exact mg_user1 hn c1)
theorem K_rain (hS : St (B + 1) h cap flo top eva lim rul (nI k) (nI n) (nI N) (nI D) lev dry lo rf us od ra ac) (hO : Ot B h s sv c L tx) (hM : Mp (B + 113) h cap flo top eva lim rul (nI k) (nI n) (nI N) (nI D) lev dry ap rfm usm ram acm sv as (nI s) th sd td sp lf tx (nI L) pl nb) (hC : CT c k n N D cap flo top eva lev lo ap rf us rfm usm ra ac ram acm) (hs : s ≤ 4) (hL : L ≤ 120) (hX : Oc B h) (x : Int32) : KW Int32.toInt64 B c (f_L_rain h B x (B + 119)) (fun g => f_X6_rain g (B + 113) x) := by
  have hN : N ≤ 100 := hC.1.2.2.1
  have hR := hC.2.2.1.2.2.1
  by_cases c1 : 0 ≤ x.toInt ∧ x.toInt < N
  · have e1 : f_X5_checkIndex x (nI N) = some (.inl ()) := ci_y (by omega) c1
    obtain ⟨i, hi, rfl⟩ := ix_of c1
    have e : f_X5_rain h B (nI i) = some (.inl (ra i)) := by
      simp only [f_X5_rain, rt_0 hO.1, Option.bind_some, st_rn hS, e1, oexc_inl, st_rains hS, st_ra hS (show i < 100 by omega), olift_some]
    have eL : f_L_rain h B (nI i) (B + 119) = (xastL h (B + 119) 0 (Int32.toInt64 (ram i))).bind fun h2 => some (0, h2) := by
      simp only [f_L_rain, rt_is hO.1, Option.bind_some, e, xcatch_inl, hR i hi]
    rw [eL]
    exact K_get hS hO hM hC hs hL hX (fun g hg => by
      show f_X6_rain g (B + 113) (nI i) = _
      conv => lhs; rw [Mp_eq hg]
      exact mg_rain hi hN)
  · have e : f_X5_rain h B x = some (.inr 2) := by
      simp only [f_X5_rain, rt_0 hO.1, Option.bind_some, st_rn hS, ci_n (show N < 1000000 by omega) c1, oexc_inr]
    have eL : f_L_rain h B x (B + 119) = some (1, h) := by
      simp only [f_L_rain, rt_is hO.1, Option.bind_some, e, xcatch_inr]
      rfl
    rw [eL]
    exact K_thr (by decide) hS hO hM hC hs hL hX (fun g hg => by
      show f_X6_rain g (B + 113) x = _
      conv => lhs; rw [Mp_eq hg]
      exact mg_rain1 hN c1)
theorem K_day (hS : St (B + 1) h cap flo top eva lim rul (nI k) (nI n) (nI N) (nI D) lev dry lo rf us od ra ac) (hO : Ot B h s sv c L tx) (hM : Mp (B + 113) h cap flo top eva lim rul (nI k) (nI n) (nI N) (nI D) lev dry ap rfm usm ram acm sv as (nI s) th sd td sp lf tx (nI L) pl nb) (hC : CT c k n N D cap flo top eva lev lo ap rf us rfm usm ra ac ram acm) (hs : s ≤ 4) (hL : L ≤ 120) (hX : Oc B h) (x y : Int32) : KW Int32.toInt64 B c (f_L_day h B x y (B + 119)) (fun g => f_X6_day g (B + 113) x y) := by
  have hD : D ≤ 100 := Nat.le_trans hC.1.2.2.2 hC.1.2.2.1
  have hR := hC.2.2.1.2.2.2
  by_cases c1 : 0 ≤ x.toInt ∧ x.toInt < D
  · by_cases c2 : (0 : Int32).toInt ≤ y.toInt ∧ y.toInt ≤ (9 : Int32).toInt
    · have e1 : f_X5_checkIndex x (nI D) = some (.inl ()) := ci_y (by omega) c1
      have e2 := cr_y c2
      obtain ⟨i, hi, rfl⟩ := ix_of c1
      obtain ⟨w, hw, rfl⟩ := ix_to (n := 9) rfl c2
      have e : f_X5_day h B (nI i) (nI w) = some (.inl (ac (i * 10 + w))) := by
        simp only [f_X5_day, rt_0 hO.1, Option.bind_some, st_dn hS, e1, e2, oexc_inl, st_is hS, st_acc hS (show i < 100 by omega) hw, obind1_some, olift_some]
      have eL : f_L_day h B (nI i) (nI w) (B + 119) = (xastL h (B + 119) 0 (Int32.toInt64 (acm (i * 10 + w)))).bind fun h2 => some (0, h2) := by
        simp only [f_L_day, rt_is hO.1, Option.bind_some, e, xcatch_inl, hR (i * 10 + w) (by omega)]
      rw [eL]
      exact K_get hS hO hM hC hs hL hX (fun g hg => by
        show f_X6_day g (B + 113) (nI i) (nI w) = _
        conv => lhs; rw [Mp_eq hg]
        exact mg_day hi hD hw)
    · have e : f_X5_day h B x y = some (.inr 0) := by
        simp only [f_X5_day, rt_0 hO.1, Option.bind_some, st_dn hS, ci_y (show D < 1000000 by omega) c1, cr_n c2, oexc_inl, oexc_inr]
      have eL : f_L_day h B x y (B + 119) = some (2, h) := by
        simp only [f_L_day, rt_is hO.1, Option.bind_some, e, xcatch_inr]
        rfl
      rw [eL]
      exact K_thr (by decide) hS hO hM hC hs hL hX (fun g hg => by
        show f_X6_day g (B + 113) x y = _
        conv => lhs; rw [Mp_eq hg]
        exact mg_day2 hD c1 c2)
  · have e : f_X5_day h B x y = some (.inr 2) := by
      simp only [f_X5_day, rt_0 hO.1, Option.bind_some, st_dn hS, ci_n (show D < 1000000 by omega) c1, oexc_inr]
    have eL : f_L_day h B x y (B + 119) = some (1, h) := by
      simp only [f_L_day, rt_is hO.1, Option.bind_some, e, xcatch_inr]
      rfl
    rw [eL]
    exact K_thr (by decide) hS hO hM hC hs hL hX (fun g hg => by
      show f_X6_day g (B + 113) x y = _
      conv => lhs; rw [Mp_eq hg]
      exact mg_day1 hD c1)
theorem lsum_eq {w : Nat} {x : Int64} (e : ∀ j, j < D * 10 → ac j = acm j) (hw : w < 10) : lsum ac w x D = lsum acm w x D := by
  unfold lsum
  have := it_two (fun (i : Nat) (p q : Int64) => p = q) (fun d x => x + Int32.toInt64 (ac (d * 10 + w))) (fun d x => x + Int32.toInt64 (acm (d * 10 + w))) D (a := x) (b := x) rfl (fun i p q hi hpq => by
    show p + _ = q + _
    rw [hpq, e (i * 10 + w) (by omega)])
  exact this
theorem w_sum (hS : St (B + 1) h cap flo top eva lim rul (nI k) (nI n) (nI N) (nI D) lev dry lo rf us od ra ac) (hR : Rt B h s) (hD : D ≤ 100) (hf : 101 < fu) {w : Nat} (hw : 1 ≤ w ∧ w < 10) : f_X5_sum fu h B (nI w) = some (.inl (lsum ac w (if nI w = (4 : Int32) then lo else 0) D)) := by
  have c2 : (1 : Int32).toInt ≤ (nI w).toInt ∧ (nI w).toInt ≤ (9 : Int32).toInt := by
    have z1 : (1 : Int32).toInt = 1 := rfl
    have z9 : (9 : Int32).toInt = 9 := rfl
    rw [xnI_toInt (by omega), z1, z9]; omega
  unfold f_X5_sum
  rw [cr_y c2, oexc_inl]
  simp only [rt_0 hR, st_lo hS, Option.bind_some, obind1_ite]
  rw [xloop_E (fun i (x : Int64) => (x, nI i)) (fun d x => x + Int32.toInt64 (ac (d * 10 + w))) (fun x => x) D (if nI w = (4 : Int32) then lo else 0) ?h0 ?hs ?he ?hf]
  · rfl
  case h0 => rfl
  case hf => omega
  case hs =>
    intro i x hi
    have hle : ¬ nI D ≤ nI i := nI_ge hi (by omega)
    simp only [xf2, st_dn hS, Option.bind_some, if_neg hle, st_is hS, st_acc hS (show i < 100 by omega) hw.2, obind1_some, olet, xnI_s]
  case he =>
    intro x
    simp only [xf2, st_dn hS, Option.bind_some, Int32.le_refl, if_true]
theorem i64_of {x : Int64} {y : Int32} (h : y.toInt = x.toInt) : Int32.toInt64 y = x := by
  apply Int64.toInt_inj.mp
  rw [Int32.toInt_toInt64, h]
theorem w_sums (hS : St (B + 1) h cap flo top eva lim rul (nI k) (nI n) (nI N) (nI D) lev dry lo rf us od ra ac) (hR : Rt B h s) (hC : CT c k n N D cap flo top eva lev lo ap rf us rfm usm ra ac ram acm) (hf : 101 < fu) {w : Nat} (hw : 1 ≤ w ∧ w < 10) : f_X5_sum fu h B (nI w) = some (.inl (lsum acm w (if nI w = (4 : Int32) then Int32.toInt64 ap else 0) D)) := by
  rw [w_sum hS hR (Nat.le_trans hC.1.2.2.2 hC.1.2.2.1) hf hw, i64_of hC.2.1.1, lsum_eq hC.2.2.1.2.2.2 hw.2]
theorem K_sum (hS : St (B + 1) h cap flo top eva lim rul (nI k) (nI n) (nI N) (nI D) lev dry lo rf us od ra ac) (hO : Ot B h s sv c L tx) (hM : Mp (B + 113) h cap flo top eva lim rul (nI k) (nI n) (nI N) (nI D) lev dry ap rfm usm ram acm sv as (nI s) th sd td sp lf tx (nI L) pl nb) (hC : CT c k n N D cap flo top eva lev lo ap rf us rfm usm ra ac ram acm) (hs : s ≤ 4) (hL : L ≤ 120) (hX : Oc B h) (hf : 101 < fu) (x : Int32) : KW (fun v : Int64 => v) B c (f_L_sum fu h B x (B + 119)) (fun g => f_X6_sum fu g (B + 113) x) := by
  by_cases c1 : (1 : Int32).toInt ≤ x.toInt ∧ x.toInt ≤ (9 : Int32).toInt
  · have c0 : (0 : Int32).toInt ≤ x.toInt ∧ x.toInt ≤ (9 : Int32).toInt := by
      have z1 : (1 : Int32).toInt = 1 := rfl
      have z0 : (0 : Int32).toInt = 0 := rfl
      omega
    obtain ⟨w, hw, rfl⟩ := ix_to (n := 9) rfl c0
    have hw1 : 1 ≤ w ∧ w < 10 := by
      have z1 : (1 : Int32).toInt = 1 := rfl
      rw [xnI_toInt (by omega), z1] at c1
      omega
    have e := w_sums hS hO.1 hC hf hw1
    have eL : f_L_sum fu h B (nI w) (B + 119) = (xastL h (B + 119) 0 (lsum acm w (if nI w = (4 : Int32) then Int32.toInt64 ap else 0) D)).bind fun h2 => some (0, h2) := by
      simp only [f_L_sum, rt_is hO.1, Option.bind_some, e, xcatch_inl]
    rw [eL]
    exact K_get (cv := fun v : Int64 => v) hS hO hM hC hs hL hX (fun g hg => by
      show f_X6_sum fu g (B + 113) (nI w) = _
      conv => lhs; rw [Mp_eq hg]
      exact mg_sum (Nat.le_trans hC.1.2.2.2 hC.1.2.2.1) hf hw1)
  · have e : f_X5_sum fu h B x = some (.inr 0) := by
      simp only [f_X5_sum, cr_n c1, oexc_inr]
    have eL : f_L_sum fu h B x (B + 119) = some (1, h) := by
      simp only [f_L_sum, rt_is hO.1, Option.bind_some, e, xcatch_inr]
      rfl
    rw [eL]
    exact K_thr (by decide) hS hO hM hC hs hL hX (fun g hg => by
      show f_X6_sum fu g (B + 113) x = _
      conv => lhs; rw [Mp_eq hg]
      exact mg_sum1 c1)
end PW6
