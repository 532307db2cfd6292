/-! A day of the class, whole; and of two plans. -/
theorem ex10 (a0 a1 a2 a3 a4 a5 a6 a7 a8 a9 : Int32) : ∃ v : Nat → Int32, v 0 = a0 ∧ v 1 = a1 ∧ v 2 = a2 ∧ v 3 = a3 ∧ v 4 = a4 ∧ v 5 = a5 ∧ v 6 = a6 ∧ v 7 = a7 ∧ v 8 = a8 ∧ v 9 = a9 :=
  ⟨fun w => if w = 0 then a0 else if w = 1 then a1 else if w = 2 then a2 else if w = 3 then a3 else if w = 4 then a4 else if w = 5 then a5 else if w = 6 then a6 else if w = 7 then a7 else if w = 8 then a8 else a9, rfl, rfl, rfl, rfl, rfl, rfl, rfl, rfl, rfl, rfl⟩
/-- a day's account -/
def v_day (cap flo top eva lim rul : Int32) (k n : Nat) (rain lev dry : Int32) (rf us : UT) (od : Nat → Int32) (w : Nat) : Int32 :=
  if w = 0 then s_lev5 cap flo top eva rul lev (c_day k lim dry rain rf).1 n od us else if w = 1 then (c_day k lim dry rain rf).1 else if w = 2 then (c_day k lim dry rain rf).2.1 else if w = 3 then (c_day k lim dry rain rf).2.2.1
  else if w = 4 then s_over cap lev (c_day k lim dry rain rf).1 else if w = 5 then s_evap cap eva lev (c_day k lim dry rain rf).1 else if w = 6 then (s_hand cap flo eva rul lev (c_day k lim dry rain rf).1 n od us).1
  else if w = 7 then s_lack cap flo eva rul lev (c_day k lim dry rain rf).1 n od us else if w = 8 then s_mains cap flo top eva rul lev (c_day k lim dry rain rf).1 n od us else (c_drn k lim dry rain rf).1
section PW34
variable {cap flo top eva lim rul lev dry cnt : Int32} {k n D : Nat} {rf us : UT} {od ra ac : Nat → Int32}
theorem c_acc_1 {rain : Int32} : c_acc k lim dry rain D rf ac (D * 10 + 1) = (c_day k lim dry rain rf).1 := by
  simp [c_acc, xupd]
theorem cday_lev : (cday cap flo top eva lim rul k n ra D (cnt, lev, dry, rf, us, od, ac)).2.1 = s_lev5 cap flo top eva rul lev (c_day k lim dry (ra D) rf).1 n od us := by
  simp only [cday, c_acc_1]
theorem cday_dry : (cday cap flo top eva lim rul k n ra D (cnt, lev, dry, rf, us, od, ac)).2.2.1 = c_dry dry (ra D) := rfl
theorem cday_rf : (cday cap flo top eva lim rul k n ra D (cnt, lev, dry, rf, us, od, ac)).2.2.2.1 = (c_day k lim dry (ra D) rf).2.2.2 := rfl
theorem cday_us : (cday cap flo top eva lim rul k n ra D (cnt, lev, dry, rf, us, od, ac)).2.2.2.2.1 = (s_hand cap flo eva rul lev (c_day k lim dry (ra D) rf).1 n od us).2 := by
  simp only [cday, c_acc_1]
theorem cday_cnt : (cday cap flo top eva lim rul k n ra D (cnt, lev, dry, rf, us, od, ac)).1 = if s_lack cap flo eva rul lev (c_day k lim dry (ra D) rf).1 n od us ≤ 0 then cnt else cnt + 1 := by
  simp only [cday, c_acc_1]
  by_cases c : s_lack cap flo eva rul lev (c_day k lim dry (ra D) rf).1 n od us ≤ 0
  · rw [if_pos c, if_pos c, if_pos rfl]
  · rw [if_neg c, if_neg c, if_neg (by decide)]
theorem cday_ac (j : Nat) : (cday cap flo top eva lim rul k n ra D (cnt, lev, dry, rf, us, od, ac)).2.2.2.2.2.2 j = aday ac D (v_day cap flo top eva lim rul k n (ra D) lev dry rf us od) j := by
  simp only [cday]
  by_cases cj : D * 10 ≤ j ∧ j < D * 10 + 10
  · obtain ⟨w, hw, rfl⟩ : ∃ w, w < 10 ∧ j = D * 10 + w := ⟨j - D * 10, by omega, by omega⟩
    rw [aday_at _ _ _ hw]
    have h10 : w = 0 ∨ w = 1 ∨ w = 2 ∨ w = 3 ∨ w = 4 ∨ w = 5 ∨ w = 6 ∨ w = 7 ∨ w = 8 ∨ w = 9 := by omega
    unfold s_acc
    simp only [c_acc_1]
    rcases h10 with rfl | rfl | rfl | rfl | rfl | rfl | rfl | rfl | rfl | rfl
    · exact xup_self _ _ _
    · repeat rw [xupd, if_neg (by decide)]
      exact c_acc_1
    · repeat rw [xupd, if_neg (by decide)]
      unfold c_acc
      repeat rw [xupd, if_neg (by decide)]
      rw [xupd, if_pos rfl]
      rfl
    · repeat rw [xupd, if_neg (by decide)]
      unfold c_acc
      repeat rw [xupd, if_neg (by decide)]
      rw [xupd, if_pos rfl]
      rfl
    · repeat rw [xupd, if_neg (by decide)]
      rw [xupd, if_pos rfl]
      rfl
    · repeat rw [xupd, if_neg (by decide)]
      rw [xupd, if_pos rfl]
      rfl
    · repeat rw [xupd, if_neg (by decide)]
      rw [xupd, if_pos rfl]
      rfl
    · repeat rw [xupd, if_neg (by decide)]
      rw [xupd, if_pos rfl]
      rfl
    · repeat rw [xupd, if_neg (by decide)]
      rw [xupd, if_pos rfl]
      rfl
    · repeat rw [xupd, if_neg (by decide)]
      unfold c_acc
      rw [xupd, if_pos rfl]
      rfl
  · rw [aday_out _ _ _ cj, s_acc_1 _ _ _ _ _ _ _ _ _ _ _ (fun w hw => by omega)]
    unfold c_acc
    rw [xup_ne _ _ (by omega), xup_ne _ _ (by omega), xup_ne _ _ (by omega), xup_ne _ _ (by omega)]
end PW34
theorem cdays_0 (cap flo top eva lim rul : Int32) (k n : Nat) (ra : Nat → Int32) (D : Nat) (x : CS) : cdays cap flo top eva lim rul k n ra D x 0 = x := rfl
section PW35
variable {B s L c k n N D : Nat} {h : XH} {cap flo top eva lim rul lev dry : Int32} {lo : Int64} {rf us : UT} {od ra ac : Nat → Int32} {ap : Int32} {sv tx : Nat → Int32} {fu : Nat}
/-- the object's numbers stay in order over a day -/
theorem CO_day (hC : CO c k n N D cap flo top eva lev lo ap rf us ra ac) (hD : D < N) (cnt : Int32) : CO c k n N (D + 1) cap flo top eva (cday cap flo top eva lim rul k n ra D (cnt, lev, dry, rf, us, od, ac)).2.1 lo ap (cday cap flo top eva lim rul k n ra D (cnt, lev, dry, rf, us, od, ac)).2.2.2.1 (cday cap flo top eva lim rul k n ra D (cnt, lev, dry, rf, us, od, ac)).2.2.2.2.1 ra (cday cap flo top eva lim rul k n ra D (cnt, lev, dry, rf, us, od, ac)).2.2.2.2.2.2 := by
  obtain ⟨v, hv⟩ := ex10 (s_lev5 cap flo top eva rul lev (m_day k lim dry (ra D) rf (fun _ => 0)).1 n od us) (m_day k lim dry (ra D) rf (fun _ => 0)).1 (m_day k lim dry (ra D) rf (fun _ => 0)).2.1 (m_day k lim dry (ra D) rf (fun _ => 0)).2.2.1 (s_over cap lev (m_day k lim dry (ra D) rf (fun _ => 0)).1)
    (s_evap cap eva lev (m_day k lim dry (ra D) rf (fun _ => 0)).1) (s_hand cap flo eva rul lev (m_day k lim dry (ra D) rf (fun _ => 0)).1 n od us).1 (u_dem n us - (s_hand cap flo eva rul lev (m_day k lim dry (ra D) rf (fun _ => 0)).1 n od us).1) (s_mains cap flo top eva rul lev (m_day k lim dry (ra D) rf (fun _ => 0)).1 n od us) (c_drn k lim dry (ra D) rf).1
  exact CO_of (CT_day (lim := lim) (rul := rul) (dry := dry) (od := od) (sp := fun _ => 0) hC hD hv cnt).1
theorem CO_days (hC : CO c k n N D cap flo top eva lev lo ap rf us ra ac) (cnt : Int32) : ∀ d, D + d ≤ N → CO c k n N (D + d) cap flo top eva (cdays cap flo top eva lim rul k n ra D (cnt, lev, dry, rf, us, od, ac) d).2.1 lo ap (cdays cap flo top eva lim rul k n ra D (cnt, lev, dry, rf, us, od, ac) d).2.2.2.1 (cdays cap flo top eva lim rul k n ra D (cnt, lev, dry, rf, us, od, ac) d).2.2.2.2.1 ra (cdays cap flo top eva lim rul k n ra D (cnt, lev, dry, rf, us, od, ac) d).2.2.2.2.2.2 := by
  intro d
  induction d with
  | zero => intro _; rw [cdays_0, Nat.add_zero]; exact hC
  | succ d ih =>
    intro hd
    have h1 := ih (by omega)
    exact CO_day h1 (by omega) _
end PW35
theorem cdays_s (cap flo top eva lim rul : Int32) (k n : Nat) (ra : Nat → Int32) (D : Nat) (x : CS) (d : Nat) : cdays cap flo top eva lim rul k n ra D x (d + 1) = cday cap flo top eva lim rul k n ra (D + d) (cdays cap flo top eva lim rul k n ra D x d) := rfl
theorem cdays_app (cap flo top eva lim rul : Int32) (k n : Nat) (ra : Nat → Int32) (D : Nat) (x : CS) (m : Nat) : ∀ r, cdays cap flo top eva lim rul k n ra D x (m + r) = cdays cap flo top eva lim rul k n ra (D + m) (cdays cap flo top eva lim rul k n ra D x m) r
  | 0 => by rw [Nat.add_zero, cdays_0]
  | r + 1 => by
    rw [← Nat.add_assoc, cdays_s, cdays_s, cdays_app cap flo top eva lim rul k n ra D x m r, Nat.add_assoc]
/-- the count of short days may begin anywhere -/
theorem cdays_cnt (cap flo top eva lim rul : Int32) (k n : Nat) (ra : Nat → Int32) (D : Nat) (c0 : Int32) (y : Int32 × Int32 × UT × UT × (Nat → Int32) × (Nat → Int32)) : ∀ d, (cdays cap flo top eva lim rul k n ra D (c0, y) d).1 = c0 + (cdays cap flo top eva lim rul k n ra D (0, y) d).1 ∧ (cdays cap flo top eva lim rul k n ra D (c0, y) d).2 = (cdays cap flo top eva lim rul k n ra D (0, y) d).2 := by
  intro d
  induction d with
  | zero => rw [cdays_0, cdays_0]; exact ⟨(Int32.add_zero c0).symm, rfl⟩
  | succ d ih =>
    rw [cdays_s, cdays_s]
    generalize cdays cap flo top eva lim rul k n ra D (c0, y) d = X at ih ⊢
    generalize cdays cap flo top eva lim rul k n ra D (0, y) d = Y at ih ⊢
    obtain ⟨a, b1, b2, b3, b4, b5, b6⟩ := X
    obtain ⟨a', b1', b2', b3', b4', b5', b6'⟩ := Y
    obtain ⟨h1, h2⟩ := ih
    have e1 : a = c0 + a' := h1
    have e2 : (b1, b2, b3, b4, b5, b6) = (b1', b2', b3', b4', b5', b6') := h2
    clear h1 h2
    cases e2
    subst e1
    refine ⟨?_, rfl⟩
    rw [cday_cnt, cday_cnt]
    split
    · rfl
    · exact Int32.add_assoc _ _ _
/-- two plans side by side -/
def TD (n k m E : Nat) (x y : CS) : Prop := x.1 = y.1 ∧ x.2.1 = y.2.1 ∧ x.2.2.1 = y.2.2.1 ∧ Tw k m x.2.2.2.1 y.2.2.2.1 ∧ U4 n x.2.2.2.2.1 y.2.2.2.2.1 ∧ ∀ j, j < E * 10 → x.2.2.2.2.2.2 j = y.2.2.2.2.2.2 j
section PW36
variable {cap flo top eva rul lev inf : Int32} {n : Nat} {od od' : Nat → Int32} {u v : UT}
theorem S_hand (hn : n ≤ 5) (h : U4 n u v) : P2 n (s_hand cap flo eva rul lev inf n od u) (s_hand cap flo eva rul lev inf n od' v) := by
  rw [s_hand_od _ _ _ _ _ _ hn od u, s_hand_od _ _ _ _ _ _ hn od' v]; exact L_hand hn h
theorem S_mains (hn : n ≤ 5) (h : U4 n u v) : s_mains cap flo top eva rul lev inf n od u = s_mains cap flo top eva rul lev inf n od' v := by
  rw [s_mains_od _ _ _ _ _ _ _ hn od u, s_mains_od _ _ _ _ _ _ _ hn od' v]; exact L_mains hn h
theorem S_lev5 (hn : n ≤ 5) (h : U4 n u v) : s_lev5 cap flo top eva rul lev inf n od u = s_lev5 cap flo top eva rul lev inf n od' v := by
  rw [s_lev5_od _ _ _ _ _ _ _ hn od u, s_lev5_od _ _ _ _ _ _ _ hn od' v]; exact L_lev5 hn h
theorem S_lack (hn : n ≤ 5) (h : U4 n u v) : s_lack cap flo eva rul lev inf n od u = s_lack cap flo eva rul lev inf n od' v := by
  rw [s_lack_od _ _ _ _ _ _ hn od u, s_lack_od _ _ _ _ _ _ hn od' v]; exact L_lack hn h
end PW36
theorem TD_day {cap flo top eva lim rul : Int32} {k m n E : Nat} {ra ra' : Nat → Int32} {x y : CS} (hn : n ≤ 5) (ok1 : r_ok k x.2.2.2.1) (ok2 : r_ok m y.2.2.2.1) (e : ra E = ra' E) (hr : 0 ≤ (ra E).toInt ∧ (ra E).toInt ≤ 200) (h : TD n k m E x y) :
    TD n k m (E + 1) (cday cap flo top eva lim rul k n ra E x) (cday cap flo top eva lim rul m n ra' E y) := by
  obtain ⟨cnt, lev, dry, rf, us, od, ac⟩ := x
  obtain ⟨cnt', lev', dry', rf', us', od', ac'⟩ := y
  obtain ⟨h1, h2, h3, h4, h5, h6⟩ := h
  simp only at h1 h2 h3 h4 h5 h6 ok1 ok2
  subst h1 h2 h3
  obtain ⟨g0, g1, g2, g3, g4, g5, g6⟩ := Tw_day h4 ok1 ok2 hr lim dry
  refine ⟨?_, ?_, ?_, ?_, ?_, fun j hj => ?_⟩
  · rw [cday_cnt, cday_cnt, ← e, ← g1, S_lack hn h5]
  · rw [cday_lev, cday_lev, ← e, ← g1]; exact S_lev5 hn h5
  · rw [cday_dry, cday_dry, e]
  · rw [cday_rf, cday_rf, ← e]; exact g4
  · rw [cday_us, cday_us, ← e, ← g1]; exact (S_hand hn h5).2
  · rw [cday_ac, cday_ac]
    by_cases cj : E * 10 ≤ j ∧ j < E * 10 + 10
    · obtain ⟨w, hw, rfl⟩ : ∃ w, w < 10 ∧ j = E * 10 + w := ⟨j - E * 10, by omega, by omega⟩
      rw [aday_at _ _ _ hw, aday_at _ _ _ hw]
      unfold v_day
      rw [← e, ← g0, ← g1, ← g2, ← g3, S_lev5 (od' := od') hn h5, (S_hand (od' := od') hn h5).1, S_lack (od' := od') hn h5, S_mains (od' := od') hn h5]
    · rw [aday_out _ _ _ cj, aday_out _ _ _ cj]; exact h6 j (by omega)
section PW37
variable {B s L c k n N D : Nat} {h : XH} {cap flo top eva lim rul lev dry : Int32} {lo : Int64} {rf us : UT} {od ra ac : Nat → Int32} {ap : Int32} {sv tx : Nat → Int32} {fu : Nat}
variable {c2 m : Nat} {lo2 : Int64} {ap2 : Int32} {rf2 us2 : UT} {od2 ra2 ac2 : Nat → Int32}
theorem TD_days (hC : CO c k n N D cap flo top eva lev lo ap rf us ra ac) (hC2 : CO c2 m n N D cap flo top eva lev lo2 ap2 rf2 us2 ra2 ac2) (hT : Tw k m rf rf2) (hU : U4 n us us2) (hR : ∀ d, d < N → ra d = ra2 d) (hA : ∀ j, j < D * 10 → ac j = ac2 j) (cnt : Int32) :
    ∀ d, D + d ≤ N → TD n k m (D + d) (cdays cap flo top eva lim rul k n ra D (cnt, lev, dry, rf, us, od, ac) d) (cdays cap flo top eva lim rul m n ra2 D (cnt, lev, dry, rf2, us2, od2, ac2) d) := by
  intro d
  induction d with
  | zero => intro _; rw [cdays_0, cdays_0, Nat.add_zero]; exact ⟨rfl, rfl, rfl, hT, hU, hA⟩
  | succ d ih =>
    intro hd
    have g1 := CO_days (lim := lim) (rul := rul) (dry := dry) (od := od) hC cnt d (by omega)
    have g2 := CO_days (lim := lim) (rul := rul) (dry := dry) (od := od2) hC2 cnt d (by omega)
    rw [cdays_s, cdays_s]
    exact TD_day hC.1.2.1 g1.2.2.2.2.2.1 g2.2.2.2.2.2.1 (hR (D + d) (by omega)) (hC.2.2.2.2.2.2.2 (D + d) (by omega)) (ih (by omega))
end PW37
