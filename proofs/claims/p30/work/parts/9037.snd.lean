/-! What must hold of the first plan's object, day by day. -/
def Snd (k n D : Nat) (lev : Int32) (lo : Int64) (rf us : UT) (ra ac : Nat → Int32) : Prop :=
  (∀ j, j < D * 10 → -2000000 ≤ (ac j).toInt ∧ (ac j).toInt ≤ 2000000) ∧
  (zs ac 1 D + zs ac 8 D = zs ac 4 D + lo.toInt + zs ac 5 D + zs ac 6 D + lev.toInt) ∧
  (zs ac 2 D = zs ac 9 D + zsum (fun i => (rf i 4).toInt) k) ∧
  (zsum (fun i => (us i 3).toInt) n = zs ac 6 D) ∧
  (∀ i, i < n → (0 ≤ (us i 3).toInt ∧ (us i 3).toInt ≤ 10000 * (D : Int)) ∧ (us i 2).toInt ≤ (us i 0).toInt) ∧
  ∀ d, d < D → (0 < (ra d).toInt ∨ (ac (d * 10 + 1) = 0 ∧ ac (d * 10 + 2) = 0)) ∧ (ra d = 0 ∨ ac (d * 10 + 9) = 0)
section PW38
variable {cap flo top eva lim rul lev dry rain : Int32} {k n : Nat} {rf us : UT} {od : Nat → Int32}
theorem vd_0 : v_day cap flo top eva lim rul k n rain lev dry rf us od 0 = s_lev5 cap flo top eva rul lev (c_day k lim dry rain rf).1 n od us := rfl
theorem vd_1 : v_day cap flo top eva lim rul k n rain lev dry rf us od 1 = (c_day k lim dry rain rf).1 := rfl
theorem vd_2 : v_day cap flo top eva lim rul k n rain lev dry rf us od 2 = (c_day k lim dry rain rf).2.1 := rfl
theorem vd_3 : v_day cap flo top eva lim rul k n rain lev dry rf us od 3 = (c_day k lim dry rain rf).2.2.1 := rfl
theorem vd_4 : v_day cap flo top eva lim rul k n rain lev dry rf us od 4 = s_over cap lev (c_day k lim dry rain rf).1 := rfl
theorem vd_5 : v_day cap flo top eva lim rul k n rain lev dry rf us od 5 = s_evap cap eva lev (c_day k lim dry rain rf).1 := rfl
theorem vd_6 : v_day cap flo top eva lim rul k n rain lev dry rf us od 6 = (s_hand cap flo eva rul lev (c_day k lim dry rain rf).1 n od us).1 := rfl
theorem vd_7 : v_day cap flo top eva lim rul k n rain lev dry rf us od 7 = s_lack cap flo eva rul lev (c_day k lim dry rain rf).1 n od us := rfl
theorem vd_8 : v_day cap flo top eva lim rul k n rain lev dry rf us od 8 = s_mains cap flo top eva rul lev (c_day k lim dry rain rf).1 n od us := rfl
theorem vd_9 : v_day cap flo top eva lim rul k n rain lev dry rf us od 9 = (c_drn k lim dry rain rf).1 := rfl
end PW38
theorem zsum_add (f g : Nat → Int) (n : Nat) : zsum (fun i => f i + g i) n = zsum f n + zsum g n := by
  induction n with
  | zero => rfl
  | succ n ih => rw [zsum_s, zsum_s, zsum_s, ih]; omega
section PW39
variable {B s L c k n N D : Nat} {h : XH} {cap flo top eva lim rul lev dry : Int32} {lo : Int64} {rf us : UT} {od ra ac : Nat → Int32} {ap : Int32} {sv tx : Nat → Int32} {fu : Nat}
theorem Snd_day (hC : CO c k n N D cap flo top eva lev lo ap rf us ra ac) (hD : D < N) (h : Snd k n D lev lo rf us ra ac) (cnt : Int32) :
    Snd k n (D + 1) (cday cap flo top eva lim rul k n ra D (cnt, lev, dry, rf, us, od, ac)).2.1 lo (cday cap flo top eva lim rul k n ra D (cnt, lev, dry, rf, us, od, ac)).2.2.2.1 (cday cap flo top eva lim rul k n ra D (cnt, lev, dry, rf, us, od, ac)).2.2.2.2.1 ra (cday cap flo top eva lim rul k n ra D (cnt, lev, dry, rf, us, od, ac)).2.2.2.2.2.2 := by
  obtain ⟨q1, q2, q3, q4, q5, q6⟩ := h
  obtain ⟨⟨hk, hn, hN, hDN⟩, hlo, -, hcf, hlev, hro, huo, hrn⟩ := hC
  have hr := hrn D hD
  have huo' := okd_ok huo
  obtain ⟨d1, d2, d3⟩ := drn_sum hk hro lim dry (ra D)
  obtain ⟨f1, f2, f3, f4, f5⟩ := rfs_sum hk (r_ok_drn hro lim dry (ra D)) hr
  have ecd : c_rfs k (ra D) (0, 0, 0, (c_drn k lim dry (ra D) rf).2) = c_day k lim dry (ra D) rf := rfl
  rw [ecd] at f1 f2 f3 f4 f5
  have hcfg := s_cf_lev hcf hlev
  have hinf : 0 ≤ (c_day k lim dry (ra D) rf).1.toInt ∧ (c_day k lim dry (ra D) rf).1.toInt ≤ 1000000 := by omega
  obtain ⟨g1, g2, g3, g4, g5, g6, g7, g8⟩ := s_bal (rul := rul) hn huo' hcfg hinf od
  obtain ⟨e1, e2⟩ := hand_each hn huo' g8.1 (by omega) rul od
  have ehh : u_hand (s_avl cap flo eva lev (c_day k lim dry (ra D) rf).1) rul n od us = s_hand cap flo eva rul lev (c_day k lim dry (ra D) rf).1 n od us := rfl
  rw [ehh] at e1 e2
  have hac := cday_ac (cap := cap) (flo := flo) (top := top) (eva := eva) (lim := lim) (rul := rul) (lev := lev) (dry := dry) (cnt := cnt) (k := k) (n := n) (D := D) (rf := rf) (us := us) (od := od) (ra := ra) (ac := ac)
  rw [cday_lev, cday_rf, cday_us]
  generalize (cday cap flo top eva lim rul k n ra D (cnt, lev, dry, rf, us, od, ac)).2.2.2.2.2.2 = ac' at hac ⊢
  have z1 := zs_day hac (show 1 < 10 by decide)
  have z2 := zs_day hac (show 2 < 10 by decide)
  have z4 := zs_day hac (show 4 < 10 by decide)
  have z5 := zs_day hac (show 5 < 10 by decide)
  have z6 := zs_day hac (show 6 < 10 by decide)
  have z8 := zs_day hac (show 8 < 10 by decide)
  have z9 := zs_day hac (show 9 < 10 by decide)
  rw [vd_1] at z1
  rw [vd_2] at z2
  rw [vd_4] at z4
  rw [vd_5] at z5
  rw [vd_6] at z6
  rw [vd_8] at z8
  rw [vd_9] at z9
  have hu3 : ∀ i, i < n → ((s_hand cap flo eva rul lev (c_day k lim dry (ra D) rf).1 n od us).2 i 3).toInt = (us i 3).toInt + ((s_hand cap flo eva rul lev (c_day k lim dry (ra D) rf).1 n od us).2 i 2).toInt := fun i hi => by
    have a := e1 i hi
    have b := q5 i hi
    have o := huo i hi
    rw [a.2.1, ti_add (by omega) (by omega)]
  refine ⟨fun j hj => ?_, ?_, ?_, ?_, fun i hi => ?_, fun d hd => ?_⟩
  · rw [hac]
    by_cases cj : D * 10 ≤ j ∧ j < D * 10 + 10
    · obtain ⟨w, hw, rfl⟩ : ∃ w, w < 10 ∧ j = D * 10 + w := ⟨j - D * 10, by omega, by omega⟩
      rw [aday_at _ _ _ hw]
      have h10 : w = 0 ∨ w = 1 ∨ w = 2 ∨ w = 3 ∨ w = 4 ∨ w = 5 ∨ w = 6 ∨ w = 7 ∨ w = 8 ∨ w = 9 := by omega
      rcases h10 with rfl | rfl | rfl | rfl | rfl | rfl | rfl | rfl | rfl | rfl
      · rw [vd_0]; omega
      · rw [vd_1]; omega
      · rw [vd_2]; omega
      · rw [vd_3]; omega
      · rw [vd_4]; omega
      · rw [vd_5]; omega
      · rw [vd_6]; omega
      · rw [vd_7]; omega
      · rw [vd_8]; omega
      · rw [vd_9]; omega
    · rw [aday_out _ _ _ cj]; exact q1 j (by omega)
  · rw [z1, z4, z5, z6, z8]; omega
  · rw [z2, z9]; omega
  · rw [z6, zsum_eq _ (fun i => (us i 3).toInt + ((s_hand cap flo eva rul lev (c_day k lim dry (ra D) rf).1 n od us).2 i 2).toInt) n hu3, zsum_add, q4, ← e2]
  · have a := e1 i hi
    have b := q5 i hi
    have o := huo i hi
    rw [hu3 i hi, a.1]
    omega
  · rw [hac, hac, hac]
    by_cases cd : d = D
    · subst cd
      rw [aday_at _ _ _ (show 1 < 10 by decide), aday_at _ _ _ (show 2 < 10 by decide), aday_at _ _ _ (show 9 < 10 by decide), vd_1, vd_2, vd_9]
      by_cases c0 : (ra d).toInt = 0
      · exact ⟨Or.inr (f5 c0), Or.inl (ti_ext c0)⟩
      · exact ⟨Or.inl (by omega), Or.inr (d3 (by omega))⟩
    · rw [aday_out _ _ _ (by omega), aday_out _ _ _ (by omega), aday_out _ _ _ (by omega)]
      exact q6 d (by omega)
theorem Snd_days (hC : CO c k n N D cap flo top eva lev lo ap rf us ra ac) (h : Snd k n D lev lo rf us ra ac) (cnt : Int32) : ∀ d, D + d ≤ N → Snd k n (D + d) (cdays cap flo top eva lim rul k n ra D (cnt, lev, dry, rf, us, od, ac) d).2.1 lo (cdays cap flo top eva lim rul k n ra D (cnt, lev, dry, rf, us, od, ac) d).2.2.2.1 (cdays cap flo top eva lim rul k n ra D (cnt, lev, dry, rf, us, od, ac) d).2.2.2.2.1 ra (cdays cap flo top eva lim rul k n ra D (cnt, lev, dry, rf, us, od, ac) d).2.2.2.2.2.2 := by
  intro d
  induction d with
  | zero => intro _; rw [cdays_0, Nat.add_zero]; exact h
  | succ d ih =>
    intro hd
    have h1 := ih (by omega)
    have g1 := CO_days (lim := lim) (rul := rul) (dry := dry) (od := od) hC cnt d (by omega)
    rw [cdays_s]
    exact Snd_day g1 (by omega) h1 _
/-- a new capacity -/
theorem Snd_res (hC : CO c k n N D cap flo top eva lev lo ap rf us ra ac) (hc : c < 1000) (h : Snd k n D lev lo rf us ra ac) {p : Int32} (g : inR p 100 60000) : Snd k n D (lev - xmax (lev - p) 0) (lo + Int32.toInt64 (xmax (lev - p) 0)) rf us ra ac := by
  obtain ⟨q1, q2, q3⟩ := h
  obtain ⟨-, ⟨b1, b2, b3⟩, -, hcf, hlev, -⟩ := hC
  have l1 := hcf.1
  have z0 : (0 : Int32).toInt = 0 := rfl
  have g11 : 100 ≤ p.toInt := g.1
  have g12 : p.toInt ≤ 60000 := g.2
  have es : (lev - p).toInt = lev.toInt - p.toInt := ti_sub (by omega) (by omega)
  have em : (xmax (lev - p) 0).toInt = max (lev.toInt - p.toInt) 0 := by rw [ti_max, es, z0]
  have el : (lev - xmax (lev - p) 0).toInt = lev.toInt - max (lev.toInt - p.toInt) 0 := by rw [ti_sub (by rw [em]; omega) (by rw [em]; omega), em]
  have eo : (lo + Int32.toInt64 (xmax (lev - p) 0)).toInt = lo.toInt + max (lev.toInt - p.toInt) 0 := by
    rw [Int64.toInt_add, Int32.toInt_toInt64, em, Int.bmod_eq_of_le (by omega) (by omega)]
  refine ⟨q1, ?_, q3⟩
  rw [el, eo]; omega
end PW39
theorem zs_0 (ac : Nat → Int32) (w : Nat) : zs ac w 0 = 0 := rfl
theorem zsum_0' {f : Nat → Int} {n : Nat} (h : ∀ i, i < n → f i = 0) : zsum f n = 0 := by
  rw [zsum_eq f (fun _ => 0 * (0 : Int)) n (fun i hi => by rw [h i hi]; rfl), zsum_mul]; omega
/-- no day is done -/
theorem Snd_start {k n : Nat} {rf us : UT} (hr : ∀ i, i < k → rf i 4 = 0) (hu : ∀ i, i < n → us i 3 = 0 ∧ us i 2 = 0 ∧ 0 ≤ (us i 0).toInt) (ra ac : Nat → Int32) : Snd k n 0 0 0 rf us ra ac := by
  have z0 : (0 : Int32).toInt = 0 := rfl
  have z1 : (0 : Int64).toInt = 0 := rfl
  refine ⟨fun j hj => absurd hj (by omega), ?_, ?_, ?_, fun i hi => ?_, fun d hd => absurd hd (by omega)⟩
  · simp only [zs_0, z0, z1]; omega
  · rw [zs_0, zs_0, zsum_0' (fun i hi => by rw [hr i hi]; rfl)]; omega
  · rw [zs_0, zsum_0' (fun i hi => by rw [(hu i hi).1]; rfl)]
  · have := hu i hi
    rw [this.1, this.2.1, z0]; omega
/-- rains behind the days that are done -/
theorem Snd_ra {k n D : Nat} {lev : Int32} {lo : Int64} {rf us : UT} {ra ra' ac : Nat → Int32} (h : Snd k n D lev lo rf us ra ac) (e : ∀ d, d < D → ra' d = ra d) : Snd k n D lev lo rf us ra' ac := by
  obtain ⟨q1, q2, q3, q4, q5, q6⟩ := h
  exact ⟨q1, q2, q3, q4, q5, fun d hd => by rw [e d hd]; exact q6 d hd⟩
/-- sums, as numbers -/
theorem lsum_ti {ac : Nat → Int32} {w : Nat} (hw : w < 10) {x : Int64} (hx : 0 ≤ x.toInt ∧ x.toInt ≤ 100000000) : ∀ {D : Nat}, D ≤ 100 → (∀ j, j < D * 10 → -2000000 ≤ (ac j).toInt ∧ (ac j).toInt ≤ 2000000) → (lsum ac w x D).toInt = x.toInt + zs ac w D ∧ -2000000 * (D : Int) ≤ zs ac w D ∧ zs ac w D ≤ 2000000 * (D : Int) := by
  intro D
  induction D with
  | zero => intro _ _; rw [zs_0]; exact ⟨(Int.add_zero _).symm, by omega, by omega⟩
  | succ D ih =>
    intro hD h
    obtain ⟨i1, i2, i3⟩ := ih (by omega) (fun j hj => h j (by omega))
    have g := h (D * 10 + w) (by omega)
    have ez : zs ac w (D + 1) = zs ac w D + (ac (D * 10 + w)).toInt := rfl
    have el : lsum ac w x (D + 1) = lsum ac w x D + Int32.toInt64 (ac (D * 10 + w)) := rfl
    refine ⟨?_, by omega, by omega⟩
    rw [el, ez, Int64.toInt_add, Int32.toInt_toInt64, i1, Int.bmod_eq_of_le (by omega) (by omega)]; omega
