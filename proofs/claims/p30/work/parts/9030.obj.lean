/-! An object of the class by itself: what its reads answer. -/
abbrev CO (c k n N D : Nat) (cap flo top eva lev : Int32) (lo : Int64) (ap : Int32) (rf us : UT) (ra ac : Nat → Int32) : Prop := CT c k n N D cap flo top eva lev lo ap rf us rf us ra ac ra ac
theorem xinl_inl {α : Type} {x : α} : xinl (some (.inl x : α ⊕ Nat)) = some x := rfl
section PW30
variable {B s L c k n N D : Nat} {h : XH} {cap flo top eva lim rul lev dry : Int32} {lo : Int64} {rf us : UT} {od ra ac : Nat → Int32} {ap : Int32} {sv tx : Nat → Int32} {fu : Nat}
theorem c_setting (hS : St (B + 1) h cap flo top eva lim rul (nI k) (nI n) (nI N) (nI D) lev dry lo rf us od ra ac) (hO : Ot B h s sv c L tx) (hC : CO c k n N D cap flo top eva lev lo ap rf us ra ac) (hs : s ≤ 4) {w : Nat} (hw : w < 12) : f_X5_setting h B (nI w) = some (.inl (zz cap flo top eva lim rul (nI k) (nI n) (nI N) (nI D) lev dry w)) := by
  have c1 : (0 : Int32).toInt ≤ (nI w).toInt ∧ (nI w).toInt ≤ (11 : Int32).toInt := by
    have z1 : (11 : Int32).toInt = 11 := rfl
    rw [xnI_toInt (by omega), z1, ti_0]; omega
  simp only [f_X5_setting, cr_y c1, oexc_inl, rt_0 hO.1, Option.bind_some, st_is hS, st_set hS hw, obind1_some, olift_some]
theorem c_roof (hS : St (B + 1) h cap flo top eva lim rul (nI k) (nI n) (nI N) (nI D) lev dry lo rf us od ra ac) (hO : Ot B h s sv c L tx) (hC : CO c k n N D cap flo top eva lev lo ap rf us ra ac) (hs : s ≤ 4) {i w : Nat} (hi : i < k) (hw : w < 5) : f_X5_roof h B (nI i) (nI w) = some (.inl (rf i w)) := by
  have hk : k ≤ 6 := hC.1.1
  have c2 : (0 : Int32).toInt ≤ (nI w).toInt ∧ (nI w).toInt ≤ (4 : Int32).toInt := by
    have z1 : (4 : Int32).toInt = 4 := rfl
    rw [xnI_toInt (by omega), z1, ti_0]; omega
  have e1 : f_X5_checkIndex (nI i) (nI k) = some (.inl ()) := ci_y (by omega) (by rw [xnI_toInt (by omega)]; omega)
  simp only [f_X5_roof, rt_0 hO.1, Option.bind_some, st_rc hS, e1, cr_y c2, oexc_inl, st_roofs hS, st_qroof hS (show i < 6 by omega), st_ir hS (show i < 6 by omega), st_rv hS (show i < 6 by omega) hw, obind1_some, olift_some]
theorem c_user (hS : St (B + 1) h cap flo top eva lim rul (nI k) (nI n) (nI N) (nI D) lev dry lo rf us od ra ac) (hO : Ot B h s sv c L tx) (hC : CO c k n N D cap flo top eva lev lo ap rf us ra ac) (hs : s ≤ 4) {i w : Nat} (hi : i < n) (hw : w < 4) : f_X5_user h B (nI i) (nI w) = some (.inl (us i w)) := by
  have hn : n ≤ 5 := hC.1.2.1
  have c2 : (0 : Int32).toInt ≤ (nI w).toInt ∧ (nI w).toInt ≤ (3 : Int32).toInt := by
    have z1 : (3 : Int32).toInt = 3 := rfl
    rw [xnI_toInt (by omega), z1, ti_0]; omega
  have e1 : f_X5_checkIndex (nI i) (nI n) = some (.inl ()) := ci_y (by omega) (by rw [xnI_toInt (by omega)]; omega)
  simp only [f_X5_user, rt_0 hO.1, Option.bind_some, st_users hS, st_uc hS, e1, cr_y c2, oexc_inl, st_rows hS, st_quser hS (show i < 5 by omega), st_iw hS (show i < 5 by omega), st_uv hS (show i < 5 by omega) hw, obind1_some, olift_some]
theorem c_rain (hS : St (B + 1) h cap flo top eva lim rul (nI k) (nI n) (nI N) (nI D) lev dry lo rf us od ra ac) (hO : Ot B h s sv c L tx) (hC : CO c k n N D cap flo top eva lev lo ap rf us ra ac) (hs : s ≤ 4) {i : Nat} (hi : i < N) : f_X5_rain h B (nI i) = some (.inl (ra i)) := by
  have hN : N ≤ 100 := hC.1.2.2.1
  have e1 : f_X5_checkIndex (nI i) (nI N) = some (.inl ()) := ci_y (by omega) (by rw [xnI_toInt (by omega)]; omega)
  simp only [f_X5_rain, rt_0 hO.1, Option.bind_some, st_rn hS, e1, oexc_inl, st_rains hS, st_ra hS (show i < 100 by omega), olift_some]
theorem c_day_ (hS : St (B + 1) h cap flo top eva lim rul (nI k) (nI n) (nI N) (nI D) lev dry lo rf us od ra ac) (hO : Ot B h s sv c L tx) (hC : CO c k n N D cap flo top eva lev lo ap rf us ra ac) (hs : s ≤ 4) {i w : Nat} (hi : i < D) (hw : w < 10) : f_X5_day h B (nI i) (nI w) = some (.inl (ac (i * 10 + w))) := by
  have hD : D ≤ 100 := Nat.le_trans hC.1.2.2.2 hC.1.2.2.1
  have c2 : (0 : Int32).toInt ≤ (nI w).toInt ∧ (nI w).toInt ≤ (9 : Int32).toInt := by
    have z1 : (9 : Int32).toInt = 9 := rfl
    rw [xnI_toInt (by omega), z1, ti_0]; omega
  have e1 : f_X5_checkIndex (nI i) (nI D) = some (.inl ()) := ci_y (by omega) (by rw [xnI_toInt (by omega)]; omega)
  simp only [f_X5_day, rt_0 hO.1, Option.bind_some, st_dn hS, e1, cr_y c2, oexc_inl, st_is hS, st_acc hS (show i < 100 by omega) hw, obind1_some, olift_some]
theorem c_sum (hS : St (B + 1) h cap flo top eva lim rul (nI k) (nI n) (nI N) (nI D) lev dry lo rf us od ra ac) (hO : Ot B h s sv c L tx) (hC : CO c k n N D cap flo top eva lev lo ap rf us ra ac) (hs : s ≤ 4) (hf : 101 < fu) {w : Nat} (hw : 1 ≤ w ∧ w < 10) : f_X5_sum fu h B (nI w) = some (.inl (lsum ac w (if nI w = (4 : Int32) then lo else 0) D)) :=
  w_sum hS hO.1 (Nat.le_trans hC.1.2.2.2 hC.1.2.2.1) hf hw
theorem c_long (hS : St (B + 1) h cap flo top eva lim rul (nI k) (nI n) (nI N) (nI D) lev dry lo rf us od ra ac) (hO : Ot B h s sv c L tx) (hC : CO c k n N D cap flo top eva lev lo ap rf us ra ac) (hs : s ≤ 4) (hf : 101 < fu) : f_X5_longestShortage fu h B = some (b_long ac D).1 := by
  have hD : D ≤ 100 := Nat.le_trans hC.1.2.2.2 hC.1.2.2.1
  unfold f_X5_longestShortage
  rw [xloop_E (fun i (x : Int32 × Int32) => (x.1, x.2, nI i)) (fun d x => (xmax x.1 (if b_sh ac d = 0 then 0 else x.2 + 1), if b_sh ac d = 0 then 0 else x.2 + 1)) (fun x => x.1) D (0, 0) ?h0 ?hs ?he ?hf]
  · rfl
  case h0 => rfl
  case hf => omega
  case hs =>
    intro i x hi
    have hle : ¬ nI D ≤ nI i := nI_ge hi (by omega)
    simp only [xf3, rt_0 hO.1, st_dn hS, Option.bind_some, if_neg hle, st_is hS, st_short' hS (show i < 100 by omega), obind1_some, obind1_ite, olet, xnI_s]
  case he =>
    intro x
    simp only [xf3, rt_0 hO.1, st_dn hS, Option.bind_some, Int32.le_refl, if_true]
/-- the share of good days -/
def q_rel (ac : Nat → Int32) (D : Nat) : Option UInt64 := if nI D = (0 : Int32) then some xd1 else xdiv (FP.i2d (r_cnt ac D)) (FP.i2d (nI D))
theorem q_rel_ok {ac : Nat → Int32} {D : Nat} (hD : D ≤ 100) : ∃ v, q_rel ac D = some v := by
  unfold q_rel
  by_cases c0 : nI D = (0 : Int32)
  · rw [if_pos c0]; exact ⟨_, rfl⟩
  · rw [if_neg c0]
    obtain ⟨m, h1, h2⟩ := r_cnt_n ac D
    rw [h2]
    have hD0 : 0 < D := by
      rcases Nat.eq_zero_or_pos D with e | e
      · subst e; exact absurd rfl c0
      · exact e
    exact Option.isSome_iff_exists.mp (xdiv_ok D (by omega) m (by omega) hD0 h1)
theorem c_rel (hS : St (B + 1) h cap flo top eva lim rul (nI k) (nI n) (nI N) (nI D) lev dry lo rf us od ra ac) (hO : Ot B h s sv c L tx) (hC : CO c k n N D cap flo top eva lev lo ap rf us ra ac) (hs : s ≤ 4) (hf : 101 < fu) : f_X5_reliability fu h B = q_rel ac D := by
  have hD : D ≤ 100 := Nat.le_trans hC.1.2.2.2 hC.1.2.2.1
  obtain ⟨v, hv⟩ := q_rel_ok (ac := ac) hD
  rw [hv]
  unfold q_rel at hv
  unfold f_X5_reliability
  rw [rt_0 hO.1, Option.bind_some, st_dn hS, Option.bind_some]
  by_cases c0 : nI D = (0 : Int32)
  · rw [if_pos c0] at hv ⊢; exact hv
  · rw [if_neg c0] at hv ⊢
    rw [xloop_E (fun i (x : Int32) => (x, nI i)) (fun d x => if b_sh ac d = 0 then x + 1 else x) (fun x => x) D 0 ?h0 ?hs ?he ?hf]
    · have e2 : it (fun d x => if b_sh ac d = 0 then x + 1 else x) 0 D = r_cnt ac D := rfl
      rw [obind1_some, e2, hv]; rfl
    case h0 => rfl
    case hf => omega
    case hs =>
      intro i x hi
      have hle : ¬ nI D ≤ nI i := nI_ge hi (by omega)
      simp only [xf2, if_neg hle, st_is hS, Option.bind_some, st_short' hS (show i < 100 by omega), obind1_some, obind1_ite, olet, xnI_s]
    case he =>
      intro x
      simp only [xf2, Int32.le_refl, if_true]
theorem c_digest (hS : St (B + 1) h cap flo top eva lim rul (nI k) (nI n) (nI N) (nI D) lev dry lo rf us od ra ac) (hO : Ot B h s sv c L tx) (hC : CO c k n N D cap flo top eva lev lo ap rf us ra ac) (hs : s ≤ 4) (hf : 1163 < fu) : f_X5_digest fu h B = some (dg_c (zz cap flo top eva lim rul (nI k) (nI n) (nI N) (nI D) lev dry) rf us ra ac (fun w => lsum ac w (if nI w = (4 : Int32) then Int32.toInt64 ap else 0) D) k n N D s ((99293 : Int64) + Int32.toInt64 (nI L))) :=
  w_digest hS hO hC hs hf
end PW30
