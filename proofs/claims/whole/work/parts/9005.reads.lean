/-! Reads of the class at rest, and what it checks first. -/
theorem oexc_inl {α β : Type} {x : α} {f : α → Option (β ⊕ Nat)} : oexc (some (.inl x)) f = f x := rfl
theorem oexc_inr {α β : Type} {m : Nat} {f : α → Option (β ⊕ Nat)} : oexc (some (.inr m)) f = some (.inr m) := rfl
theorem olift_some {α : Type} {x : α} : olift (some x) = some (.inl x) := rfl
theorem xcatch_inl {α β : Type} {x : α} {f : α → Option β} {g : Nat → Option β} : xcatch (some (.inl x)) f g = f x := rfl
theorem xcatch_inr {α β : Type} {m : Nat} {f : α → Option β} {g : Nat → Option β} : xcatch (some (.inr m)) f g = g m := rfl
theorem cr_y {p l u : Int32} (h1 : l.toInt ≤ p.toInt ∧ p.toInt ≤ u.toInt) : f_X5_checkRange p l u = some (.inl ()) := by
  simp only [f_X5_checkRange, oletk]
  rw [if_neg (by rw [ti_lt]; omega), if_pos (by rw [ti_le]; omega)]
  rfl
theorem cr_n {p l u : Int32} (h1 : ¬ (l.toInt ≤ p.toInt ∧ p.toInt ≤ u.toInt)) : f_X5_checkRange p l u = some (.inr 0) := by
  simp only [f_X5_checkRange, oletk]
  by_cases c : p < l
  · rw [if_pos c]
  · rw [if_neg c, if_neg (fun e => h1 (by rw [ti_lt] at c; rw [ti_le] at e; omega))]
theorem ci_y {p : Int32} {n : Nat} (hn : n < 1000000) (h1 : 0 ≤ p.toInt ∧ p.toInt < n) : f_X5_checkIndex p (nI n) = some (.inl ()) := by
  simp only [f_X5_checkIndex, oletk]
  rw [if_neg (by rw [ti_lt, ti_0]; omega), if_pos (by rw [ti_lt, xnI_toInt (by omega)]; omega)]
  rfl
theorem ci_n {p : Int32} {n : Nat} (hn : n < 1000000) (h1 : ¬ (0 ≤ p.toInt ∧ p.toInt < n)) : f_X5_checkIndex p (nI n) = some (.inr 2) := by
  simp only [f_X5_checkIndex, oletk]
  by_cases c : p < 0
  · rw [if_pos c]
  · rw [if_neg c, if_neg (fun e => h1 (by rw [ti_lt, ti_0] at c; rw [ti_lt, xnI_toInt (by omega)] at e; omega))]
theorem ix_of {p : Int32} {n : Nat} (h1 : 0 ≤ p.toInt ∧ p.toInt < n) : ∃ i, i < n ∧ p = nI i := by
  have h0 : (0 : Int32) ≤ p := by rw [ti_le, ti_0]; exact h1.1
  refine ⟨p.toNatClampNeg, ?_, xnI_of h0⟩
  have : p.toNatClampNeg = p.toInt.toNat := rfl
  omega
theorem ix_to {p u : Int32} {n : Nat} (hu : u.toInt = n) (h1 : (0 : Int32).toInt ≤ p.toInt ∧ p.toInt ≤ u.toInt) : ∃ i, i < n + 1 ∧ p = nI i := ix_of ⟨by rw [ti_0] at h1; exact h1.1, by omega⟩
section PW4
variable {b : Nat} {W : XH} {cap flo top eva lim rul rc uc rn dn lev dry : Int32} {lo : Int64} {rf us : Nat → Nat → Int32} {od ra ac : Nat → Int32}
variable {h : XH}
theorem st_is (hS : St b h cap flo top eva lim rul rc uc rn dn lev dry lo rf us od ra ac) : xis h b 2 = some () := by rw [St_eq hS]; exact hi_st
theorem st_rc (hS : St b h cap flo top eva lim rul rc uc rn dn lev dry lo rf us od ra ac) : xgI h b 2 7 = some rc := by rw [St_eq hS]; exact hg_rc
theorem st_rn (hS : St b h cap flo top eva lim rul rc uc rn dn lev dry lo rf us od ra ac) : xgI h b 2 10 = some rn := by rw [St_eq hS]; exact hg_rn
theorem st_dn (hS : St b h cap flo top eva lim rul rc uc rn dn lev dry lo rf us od ra ac) : xgI h b 2 11 = some dn := by rw [St_eq hS]; exact hg_dn
theorem st_flo (hS : St b h cap flo top eva lim rul rc uc rn dn lev dry lo rf us od ra ac) : xgI h b 2 1 = some flo := by rw [St_eq hS]; exact hg_flo
theorem st_top (hS : St b h cap flo top eva lim rul rc uc rn dn lev dry lo rf us od ra ac) : xgI h b 2 2 = some top := by rw [St_eq hS]; exact hg_top
theorem st_uc (hS : St b h cap flo top eva lim rul rc uc rn dn lev dry lo rf us od ra ac) : xgI h (b + 8) 4 1 = some uc := by rw [St_eq hS]; exact hg_uc
theorem st_lo (hS : St b h cap flo top eva lim rul rc uc rn dn lev dry lo rf us od ra ac) : xgL h b 2 14 = some lo := by rw [St_eq hS]; exact hg_lo
theorem st_roofs (hS : St b h cap flo top eva lim rul rc uc rn dn lev dry lo rf us od ra ac) : xgR h b 2 6 = some (b + 1) := by rw [St_eq hS]; exact hg_roofs
theorem st_users (hS : St b h cap flo top eva lim rul rc uc rn dn lev dry lo rf us od ra ac) : xgR h b 2 8 = some (b + 8) := by rw [St_eq hS]; exact hg_users
theorem st_rains (hS : St b h cap flo top eva lim rul rc uc rn dn lev dry lo rf us od ra ac) : xgR h b 2 9 = some (b + 16) := by rw [St_eq hS]; exact hg_rains
theorem st_rows (hS : St b h cap flo top eva lim rul rc uc rn dn lev dry lo rf us od ra ac) : xgR h (b + 8) 4 0 = some (b + 9) := by rw [St_eq hS]; exact hg_rows
theorem st_iu (hS : St b h cap flo top eva lim rul rc uc rn dn lev dry lo rf us od ra ac) : xis h (b + 8) 4 = some () := by rw [St_eq hS]; exact hi_us
theorem st_qroof (hS : St b h cap flo top eva lim rul rc uc rn dn lev dry lo rf us od ra ac) {i : Nat} (hi : i < 6) : xaldR h (b + 1) 3 (nI i) = some (b + 2 + i) := by
  have e : xaldR (hp b h cap flo top eva lim rul rc uc rn dn lev dry lo rf us od ra ac) (b + 1) 3 (nI i) = some (b + 2 + (nI i).toNatClampNeg) := hq_roof (xin_nI hi (by decide))
  rw [xnI_nat (by omega), ← St_eq hS] at e
  exact e
theorem st_quser (hS : St b h cap flo top eva lim rul rc uc rn dn lev dry lo rf us od ra ac) {i : Nat} (hi : i < 5) : xaldR h (b + 9) 5 (nI i) = some (b + 10 + i) := by
  have e : xaldR (hp b h cap flo top eva lim rul rc uc rn dn lev dry lo rf us od ra ac) (b + 9) 5 (nI i) = some (b + 10 + (nI i).toNatClampNeg) := hq_user (xin_nI hi (by decide))
  rw [xnI_nat (by omega), ← St_eq hS] at e
  exact e
theorem st_ir (hS : St b h cap flo top eva lim rul rc uc rn dn lev dry lo rf us od ra ac) {i : Nat} (hi : i < 6) : xis h (b + 2 + i) 1 = some () := by rw [St_eq hS]; exact hi_roof hi
theorem st_iw (hS : St b h cap flo top eva lim rul rc uc rn dn lev dry lo rf us od ra ac) {i : Nat} (hi : i < 5) : xis h (b + 10 + i) 3 = some () := by rw [St_eq hS]; exact hi_user hi
theorem st_rv (hS : St b h cap flo top eva lim rul rc uc rn dn lev dry lo rf us od ra ac) {i w : Nat} (hi : i < 6) (hw : w < 5) : f_X1_value h (b + 2 + i) (nI w) = some (rf i w) := by rw [St_eq hS]; exact p_X1_value hi hw
theorem st_uv (hS : St b h cap flo top eva lim rul rc uc rn dn lev dry lo rf us od ra ac) {i w : Nat} (hi : i < 5) (hw : w < 4) : f_X3_value h (b + 10 + i) (nI w) = some (us i w) := by rw [St_eq hS]; exact p_X3_value hi hw
theorem st_ra (hS : St b h cap flo top eva lim rul rc uc rn dn lev dry lo rf us od ra ac) {i : Nat} (hi : i < 100) : xald h (b + 16) 0 (nI i) = some (ra i) := by
  have e : xald (hp b h cap flo top eva lim rul rc uc rn dn lev dry lo rf us od ra ac) (b + 16) 0 (nI i) = some (ra (nI i).toNatClampNeg) := hl_ra (xin_nI hi (by decide))
  rw [xnI_nat (by omega), ← St_eq hS] at e
  exact e
theorem st_acc (hS : St b h cap flo top eva lim rul rc uc rn dn lev dry lo rf us od ra ac) {d w : Nat} (hd : d < 100) (hw : w < 10) : f_X2_account h b (nI d) (nI w) = some (ac (d * 10 + w)) := by
  rw [St_eq hS]
  exact p_X2_account (d := d) rfl (by omega) _ _ xacc
theorem st_short (hS : St b h cap flo top eva lim rul rc uc rn dn lev dry lo rf us od ra ac) {d : Nat} (hd : d < 100) : f_X2_isShort h b (nI d) = some (if ac (d * 10 + 7) ≤ 0 then 0 else 1) := by
  rw [St_eq hS]; exact p_X2_isShort hd
theorem st_set (hS : St b h cap flo top eva lim rul rc uc rn dn lev dry lo rf us od ra ac) {w : Nat} (hw : w < 12) : f_X2_settingValue h b (nI w) = some (zz cap flo top eva lim rul rc uc rn dn lev dry w) := by
  rw [St_eq hS, hs_zz]; exact p_X2_settingValue hw
end PW4
section PW5
variable {b : Nat} {W : XH} {cap flo top eva lim rul rc uc rn dn lev dry ap : Int32} {rf us : Nat → Nat → Int32} {ra ac sv as : Nat → Int32} {sm th : Int32} {sd : Int64} {td : Int32} {sp : Nat → Int64} {lf : Int32} {tx : Nat → Int32} {tl pl nb : Int32}
variable {fu k n N D : Nat}
theorem orf_n {r j : Nat} (hr : r < 6) (hj : j < 5) : f_X6_ofRoof (hm b W cap flo top eva lim rul rc uc rn dn lev dry ap rf us ra ac sv as sm th sd td sp lf tx tl pl nb) b (nI r) (nI j) = some (rf r j) := by
  have h5 : j = 0 ∨ j = 1 ∨ j = 2 ∨ j = 3 ∨ j = 4 := by omega
  rcases h5 with rfl | rfl | rfl | rfl | rfl
  · exact orf_0 hr
  · exact orf_1 hr
  · exact orf_2 hr
  · exact orf_3 hr
  · exact orf_4 hr
theorem ous_n {r j : Nat} (hr : r < 5) (hj : j < 4) : f_X6_ofUser (hm b W cap flo top eva lim rul rc uc rn dn lev dry ap rf us ra ac sv as sm th sd td sp lf tx tl pl nb) b (nI r) (nI j) = some (us r j) := by
  rcases xlt4 hj with rfl | rfl | rfl | rfl
  · exact ous_0 hr
  · exact ous_1 hr
  · exact ous_2 hr
  · exact ous_3 hr
theorem mg_roof {i w : Nat} (hi : i < k) (hk : k ≤ 6) (hw : w < 5) : f_X6_roof (hm b W cap flo top eva lim rul (nI k) uc rn dn lev dry ap rf us ra ac sv as sm th sd td sp lf tx tl pl nb) b (nI i) (nI w) = some (rf i w, hm b W cap flo top eva lim rul (nI k) uc rn dn lev dry ap rf us ra ac sv as sm 0 sd td sp lf tx tl pl nb) := by
  have e : f_X6_in (Int32.toInt64 (nI w)) (0 : Int64) (4 : Int64) = some (xb01 (0 ≤ (nI w).toInt ∧ (nI w).toInt ≤ 4)) := p_X6_in32 _ 0 4
  have h1 : 0 ≤ (nI i).toInt ∧ (nI i).toInt < k := by rw [xnI_toInt (by omega)]; omega
  have h2 : 0 ≤ (nI w).toInt ∧ (nI w).toInt ≤ 4 := by rw [xnI_toInt (by omega)]; omega
  simp only [f_X6_roof, gm_is, p_X6_isRoof (show k < 1000000 by omega), e, obind1_some, p_X6_goes, obind2_some, xb01_0, Option.bind_some, h1, h2, and_self, not_true, if_false, if_true, orf_n (show i < 6 by omega) hw]
theorem mg_roof1 {x y : Int32} (hk : k ≤ 6) (h1 : ¬ (0 ≤ x.toInt ∧ x.toInt < k)) : f_X6_roof (hm b W cap flo top eva lim rul (nI k) uc rn dn lev dry ap rf us ra ac sv as sm th sd td sp lf tx tl pl nb) b x y = some (0, hm b W cap flo top eva lim rul (nI k) uc rn dn lev dry ap rf us ra ac sv as sm 1 sd td sp lf tx tl pl nb) := by
  have e : f_X6_in (Int32.toInt64 y) (0 : Int64) (4 : Int64) = some (xb01 (0 ≤ y.toInt ∧ y.toInt ≤ 4)) := p_X6_in32 _ 0 4
  simp only [f_X6_roof, gm_is, p_X6_isRoof (show k < 1000000 by omega), e, obind1_some, p_X6_goes, obind2_some, xb01_0, Option.bind_some, h1, false_and, not_false_iff, if_false, if_true]
theorem mg_roof2 {x y : Int32} (hk : k ≤ 6) (h1 : 0 ≤ x.toInt ∧ x.toInt < k) (h2 : ¬ (0 ≤ y.toInt ∧ y.toInt ≤ 4)) : f_X6_roof (hm b W cap flo top eva lim rul (nI k) uc rn dn lev dry ap rf us ra ac sv as sm th sd td sp lf tx tl pl nb) b x y = some (0, hm b W cap flo top eva lim rul (nI k) uc rn dn lev dry ap rf us ra ac sv as sm 2 sd td sp lf tx tl pl nb) := by
  have e : f_X6_in (Int32.toInt64 y) (0 : Int64) (4 : Int64) = some (xb01 (0 ≤ y.toInt ∧ y.toInt ≤ 4)) := p_X6_in32 _ 0 4
  simp only [f_X6_roof, gm_is, p_X6_isRoof (show k < 1000000 by omega), e, obind1_some, p_X6_goes, obind2_some, xb01_0, Option.bind_some, h1, h2, and_false, and_self, not_false_iff, if_false, if_true]
theorem mg_user {i w : Nat} (hi : i < n) (hn : n ≤ 5) (hw : w < 4) : f_X6_user (hm b W cap flo top eva lim rul rc (nI n) rn dn lev dry ap rf us ra ac sv as sm th sd td sp lf tx tl pl nb) b (nI i) (nI w) = some (us i w, hm b W cap flo top eva lim rul rc (nI n) rn dn lev dry ap rf us ra ac sv as sm 0 sd td sp lf tx tl pl nb) := by
  have e : f_X6_in (Int32.toInt64 (nI w)) (0 : Int64) (3 : Int64) = some (xb01 (0 ≤ (nI w).toInt ∧ (nI w).toInt ≤ 3)) := p_X6_in32 _ 0 3
  have h1 : 0 ≤ (nI i).toInt ∧ (nI i).toInt < n := by rw [xnI_toInt (by omega)]; omega
  have h2 : 0 ≤ (nI w).toInt ∧ (nI w).toInt ≤ 3 := by rw [xnI_toInt (by omega)]; omega
  simp only [f_X6_user, gm_is, p_X6_isUser (show n < 1000000 by omega), e, obind1_some, p_X6_goes, obind2_some, xb01_0, Option.bind_some, h1, h2, and_self, not_true, if_false, if_true, ous_n (show i < 5 by omega) hw]
theorem mg_user1 {x y : Int32} (hn : n ≤ 5) (h1 : ¬ (0 ≤ x.toInt ∧ x.toInt < n)) : f_X6_user (hm b W cap flo top eva lim rul rc (nI n) rn dn lev dry ap rf us ra ac sv as sm th sd td sp lf tx tl pl nb) b x y = some (0, hm b W cap flo top eva lim rul rc (nI n) rn dn lev dry ap rf us ra ac sv as sm 1 sd td sp lf tx tl pl nb) := by
  have e : f_X6_in (Int32.toInt64 y) (0 : Int64) (3 : Int64) = some (xb01 (0 ≤ y.toInt ∧ y.toInt ≤ 3)) := p_X6_in32 _ 0 3
  simp only [f_X6_user, gm_is, p_X6_isUser (show n < 1000000 by omega), e, obind1_some, p_X6_goes, obind2_some, xb01_0, Option.bind_some, h1, false_and, not_false_iff, if_false, if_true]
theorem mg_user2 {x y : Int32} (hn : n ≤ 5) (h1 : 0 ≤ x.toInt ∧ x.toInt < n) (h2 : ¬ (0 ≤ y.toInt ∧ y.toInt ≤ 3)) : f_X6_user (hm b W cap flo top eva lim rul rc (nI n) rn dn lev dry ap rf us ra ac sv as sm th sd td sp lf tx tl pl nb) b x y = some (0, hm b W cap flo top eva lim rul rc (nI n) rn dn lev dry ap rf us ra ac sv as sm 2 sd td sp lf tx tl pl nb) := by
  have e : f_X6_in (Int32.toInt64 y) (0 : Int64) (3 : Int64) = some (xb01 (0 ≤ y.toInt ∧ y.toInt ≤ 3)) := p_X6_in32 _ 0 3
  simp only [f_X6_user, gm_is, p_X6_isUser (show n < 1000000 by omega), e, obind1_some, p_X6_goes, obind2_some, xb01_0, Option.bind_some, h1, h2, and_false, and_self, not_false_iff, if_false, if_true]
theorem gm_goes1 (c : Prop) [Decidable c] : f_X6_goes (hm b W cap flo top eva lim rul rc uc rn dn lev dry ap rf us ra ac sv as sm th sd td sp lf tx tl pl nb) b (xb01 c) 1 = some (xb01 c, hm b W cap flo top eva lim rul rc uc rn dn lev dry ap rf us ra ac sv as sm (if c then 0 else 1) sd td sp lf tx tl pl nb) := by
  have e := p_X6_goes (b := b) (W := W) (cap := cap) (flo := flo) (top := top) (eva := eva) (lim := lim) (rul := rul) (rc := rc) (uc := uc) (rn := rn) (dn := dn) (lev := lev) (dry := dry) (ap := ap) (rf := rf) (us := us) (ra := ra) (ac := ac) (sv := sv) (as := as) (sm := sm) (th := th) (sd := sd) (td := td) (sp := sp) (lf := lf) (tx := tx) (tl := tl) (pl := pl) (nb := nb) c True
  rw [xb01_t, xb01_c (show c ∧ True ↔ c from ⟨fun h => h.1, fun h => ⟨h, trivial⟩⟩)] at e
  rw [e]
  by_cases g : c
  · rw [if_pos g, if_pos g, if_pos trivial]
  · rw [if_neg g, if_neg g]
theorem mg_rain {i : Nat} (hi : i < N) (hN : N ≤ 100) : f_X6_rain (hm b W cap flo top eva lim rul rc uc (nI N) dn lev dry ap rf us ra ac sv as sm th sd td sp lf tx tl pl nb) b (nI i) = some (ra i, hm b W cap flo top eva lim rul rc uc (nI N) dn lev dry ap rf us ra ac sv as sm 0 sd td sp lf tx tl pl nb) := by
  have h1 : 0 ≤ (nI i).toInt ∧ (nI i).toInt < N := by rw [xnI_toInt (by omega)]; omega
  simp only [f_X6_rain, gm_r1, gm_rn, gm_is, p_X6_inTo _ (show N < 1000000 by omega), obind1_some, gm_goes1, obind2_some, xb01_0, Option.bind_some, h1, not_true, if_false, if_true, ix_ra, gm_ra (show i < 100 by omega), and_self]
theorem mg_rain1 {x : Int32} (hN : N ≤ 100) (h1 : ¬ (0 ≤ x.toInt ∧ x.toInt < N)) : f_X6_rain (hm b W cap flo top eva lim rul rc uc (nI N) dn lev dry ap rf us ra ac sv as sm th sd td sp lf tx tl pl nb) b x = some (0, hm b W cap flo top eva lim rul rc uc (nI N) dn lev dry ap rf us ra ac sv as sm 1 sd td sp lf tx tl pl nb) := by
  simp only [f_X6_rain, gm_r1, gm_rn, gm_is, p_X6_inTo _ (show N < 1000000 by omega), obind1_some, gm_goes1, obind2_some, xb01_0, Option.bind_some, h1, not_false_iff, if_false, if_true]
theorem mg_day {i w : Nat} (hi : i < D) (hD : D ≤ 100) (hw : w < 10) : f_X6_day (hm b W cap flo top eva lim rul rc uc rn (nI D) lev dry ap rf us ra ac sv as sm th sd td sp lf tx tl pl nb) b (nI i) (nI w) = some (ac (i * 10 + w), hm b W cap flo top eva lim rul rc uc rn (nI D) lev dry ap rf us ra ac sv as sm 0 sd td sp lf tx tl pl nb) := by
  have e : f_X6_in (Int32.toInt64 (nI w)) (0 : Int64) (9 : Int64) = some (xb01 (0 ≤ (nI w).toInt ∧ (nI w).toInt ≤ 9)) := p_X6_in32 _ 0 9
  have h1 : 0 ≤ (nI i).toInt ∧ (nI i).toInt < D := by rw [xnI_toInt (by omega)]; omega
  have h2 : 0 ≤ (nI w).toInt ∧ (nI w).toInt ≤ 9 := by rw [xnI_toInt (by omega)]; omega
  simp only [f_X6_day, gm_r1, gm_dn, gm_is, p_X6_inTo _ (show D < 1000000 by omega), e, obind1_some, p_X6_goes, obind2_some, xb01_0, Option.bind_some, h1, h2, and_self, not_true, if_false, if_true, ix_ac i (show nI w = nI w from rfl), gm_ac (show i * 10 + w < 1000 by omega)]
theorem mg_day1 {x y : Int32} (hD : D ≤ 100) (h1 : ¬ (0 ≤ x.toInt ∧ x.toInt < D)) : f_X6_day (hm b W cap flo top eva lim rul rc uc rn (nI D) lev dry ap rf us ra ac sv as sm th sd td sp lf tx tl pl nb) b x y = some (0, hm b W cap flo top eva lim rul rc uc rn (nI D) lev dry ap rf us ra ac sv as sm 1 sd td sp lf tx tl pl nb) := by
  have e : f_X6_in (Int32.toInt64 y) (0 : Int64) (9 : Int64) = some (xb01 (0 ≤ y.toInt ∧ y.toInt ≤ 9)) := p_X6_in32 _ 0 9
  simp only [f_X6_day, gm_r1, gm_dn, gm_is, p_X6_inTo _ (show D < 1000000 by omega), e, obind1_some, p_X6_goes, obind2_some, xb01_0, Option.bind_some, h1, false_and, not_false_iff, if_false, if_true]
theorem mg_day2 {x y : Int32} (hD : D ≤ 100) (h1 : 0 ≤ x.toInt ∧ x.toInt < D) (h2 : ¬ (0 ≤ y.toInt ∧ y.toInt ≤ 9)) : f_X6_day (hm b W cap flo top eva lim rul rc uc rn (nI D) lev dry ap rf us ra ac sv as sm th sd td sp lf tx tl pl nb) b x y = some (0, hm b W cap flo top eva lim rul rc uc rn (nI D) lev dry ap rf us ra ac sv as sm 2 sd td sp lf tx tl pl nb) := by
  have e : f_X6_in (Int32.toInt64 y) (0 : Int64) (9 : Int64) = some (xb01 (0 ≤ y.toInt ∧ y.toInt ≤ 9)) := p_X6_in32 _ 0 9
  simp only [f_X6_day, gm_r1, gm_dn, gm_is, p_X6_inTo _ (show D < 1000000 by omega), e, obind1_some, p_X6_goes, obind2_some, xb01_0, Option.bind_some, h1, h2, and_false, and_self, not_false_iff, if_false, if_true]
theorem mg_sum {w : Nat} (hD : D ≤ 100) (hf : 101 < fu) (hw : 1 ≤ w ∧ w < 10) : f_X6_sum fu (hm b W cap flo top eva lim rul rc uc rn (nI D) lev dry ap rf us ra ac sv as sm th sd td sp lf tx tl pl nb) b (nI w) = some (lsum ac w (if nI w = (4 : Int32) then Int32.toInt64 ap else 0) D, hm b W cap flo top eva lim rul rc uc rn (nI D) lev dry ap rf us ra ac sv as sm 0 sd td sp lf tx tl pl nb) := by
  have e : f_X6_in (Int32.toInt64 (nI w)) (1 : Int64) (9 : Int64) = some (xb01 (1 ≤ (nI w).toInt ∧ (nI w).toInt ≤ 9)) := p_X6_in32 _ 1 9
  have h2 : 1 ≤ (nI w).toInt ∧ (nI w).toInt ≤ 9 := by rw [xnI_toInt (by omega)]; omega
  simp only [f_X6_sum, gm_is, e, obind1_some, gm_goes1, obind2_some, xb01_0, Option.bind_some, h2, and_self, not_true, if_false, if_true, p_X6_sumOf hD hf hw.2]
theorem mg_sum1 {y : Int32} (h2 : ¬ (1 ≤ y.toInt ∧ y.toInt ≤ 9)) : f_X6_sum fu (hm b W cap flo top eva lim rul rc uc rn dn lev dry ap rf us ra ac sv as sm th sd td sp lf tx tl pl nb) b y = some (0, hm b W cap flo top eva lim rul rc uc rn dn lev dry ap rf us ra ac sv as sm 1 sd td sp lf tx tl pl nb) := by
  have e : f_X6_in (Int32.toInt64 y) (1 : Int64) (9 : Int64) = some (xb01 (1 ≤ y.toInt ∧ y.toInt ≤ 9)) := p_X6_in32 _ 1 9
  simp only [f_X6_sum, gm_is, e, obind1_some, gm_goes1, obind2_some, xb01_0, Option.bind_some, h2, not_false_iff, if_false, if_true]
theorem mg_set {w : Nat} (hw : w < 12) : f_X6_setting (hm b W cap flo top eva lim rul rc uc rn dn lev dry ap rf us ra ac sv as sm th sd td sp lf tx tl pl nb) b (nI w) = some (zz cap flo top eva lim rul rc uc rn dn lev dry w, hm b W cap flo top eva lim rul rc uc rn dn lev dry ap rf us ra ac sv as sm 0 sd td sp lf tx tl pl nb) := by
  rw [hm_hr, p_X6_setting]
  have h2 : 0 ≤ (nI w).toInt ∧ (nI w).toInt ≤ 11 := by rw [xnI_toInt (by omega)]; omega
  rw [if_pos h2, if_pos h2, xnI_nat (by omega), ← hm_hr]
  have h12 : w = 0 ∨ w = 1 ∨ w = 2 ∨ w = 3 ∨ w = 4 ∨ w = 5 ∨ w = 6 ∨ w = 7 ∨ w = 8 ∨ w = 9 ∨ w = 10 ∨ w = 11 := by omega
  rcases h12 with rfl | rfl | rfl | rfl | rfl | rfl | rfl | rfl | rfl | rfl | rfl | rfl <;> rfl
theorem mg_set1 {y : Int32} (h2 : ¬ (0 ≤ y.toInt ∧ y.toInt ≤ 11)) : f_X6_setting (hm b W cap flo top eva lim rul rc uc rn dn lev dry ap rf us ra ac sv as sm th sd td sp lf tx tl pl nb) b y = some (0, hm b W cap flo top eva lim rul rc uc rn dn lev dry ap rf us ra ac sv as sm 1 sd td sp lf tx tl pl nb) := by
  rw [hm_hr, p_X6_setting, if_neg h2, if_neg h2, ← hm_hr]
end PW5
