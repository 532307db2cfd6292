/-! The model's sharing is the class's. -/
theorem clr2_row (n : Nat) (us : UT) (i j : Nat) : u_clr2 n us i j = if i < n ∧ j = 2 then 0 else us i j := by
  have e : u_clr2 n us = u_map (fun _ r => xup r 2 0) n us := it_map (fun _ r => xup r 2 0) n us
  rw [e]
  unfold u_map
  by_cases c : i < n
  · rw [if_pos c]
    show xup (us i) 2 0 j = _
    by_cases c2 : j = 2
    · subst c2; rw [xup_self, if_pos ⟨c, rfl⟩]
    · rw [xup_ne _ _ c2, if_neg (fun h => c2 h.2)]
  · rw [if_neg c, if_neg (fun h => c h.1)]
theorem clr2_z (n : Nat) (us : UT) : u_z n (u_clr2 n us) := fun i hi => by rw [clr2_row, if_pos ⟨hi, rfl⟩]
theorem clr2_ok {n : Nat} {us : UT} (h : u_ok n us) : u_ok n (u_clr2 n us) := by
  intro i hi
  rw [clr2_row, clr2_row, if_neg (by omega), if_neg (by omega)]
  exact h i hi
theorem isum_eq (f g : Nat → Int32) (n : Nat) (h : ∀ i, i < n → f i = g i) : isum f n = isum g n := by
  induction n with
  | zero => rfl
  | succ n ih => simp only [isum]; rw [ih (fun i hi => h i (by omega)), h n (by omega)]
theorem clr2_dem (n : Nat) (us : UT) : u_dem n (u_clr2 n us) = u_dem n us := isum_eq _ _ _ (fun i _ => by show u_clr2 n us i 0 = us i 0; rw [clr2_row, if_neg (by omega)])
theorem isum_0 {f : Nat → Int32} {n : Nat} (h : ∀ i, i < n → f i = 0) : isum f n = 0 := by
  induction n with
  | zero => rfl
  | succ n ih => simp only [isum]; rw [ih (fun i hi => h i (by omega)), h n (by omega)]; rfl
def u_ever (n : Nat) (us : UT) : UT := it (fun i u => xup u i (xup (u i) 3 (u i 3 + u i 2))) us n
theorem u_got_eq (n : Nat) (us : UT) : u_got n us = (isum (fun i => us i 2) n, u_ever n us) := by
  have h := it_two (fun i (x : Int32 × UT) (y : UT) => x.1 = isum (fun i => us i 2) i ∧ x.2 = y ∧ ∀ j, y j 2 = us j 2) (fun i x => (x.1 + x.2 i 2, xup x.2 i (xup (x.2 i) 3 (x.2 i 3 + x.2 i 2)))) (fun i u => xup u i (xup (u i) 3 (u i 3 + u i 2))) n (a := (0, us)) (b := us) ⟨rfl, rfl, fun _ => rfl⟩ ?_
  · exact Prod.ext h.1 h.2.1
  · rintro i ⟨g, v⟩ y hi ⟨h1, h2, h3⟩
    simp only at h1 h2
    subst h1 h2
    refine ⟨?_, rfl, ?_⟩
    · show isum _ i + v i 2 = isum _ i + us i 2
      rw [h3]
    · intro j
      by_cases c : j = i
      · subst c; rw [xup_self, xup_ne _ _ (by decide)]; exact h3 _
      · rw [xup_ne _ _ c]; exact h3 j
theorem its_sum (mu : UT → Nat → Int32) (n : Nat) (x : Int32 × UT) (m : Nat) : (it (fun _ y => m_pass mu n y) x m).1 + isum (fun j => (it (fun _ y => m_pass mu n y) x m).2 j 2) n = x.1 + isum (fun j => x.2 j 2) n := by
  induction m with
  | zero => rfl
  | succ m ih => rw [it_s, m_sum, ih]
theorem ss_sum {s : Nat → Nat} {n : Nat} (hs : ∀ j, j < n → s j < n) (x : Int32 × UT) : (m_ss s n x).1 + isum (fun j => (m_ss s n x).2 j 2) n = x.1 + isum (fun j => x.2 j 2) n := by
  refine it_inv (fun _ (y : Int32 × UT) => y.1 + isum (fun j => y.2 j 2) n = x.1 + isum (fun j => x.2 j 2) n) _ n rfl ?_
  intro i y hi h
  simp only [m_giv]
  rw [isum_up, if_pos (hs i hi), xup_self, ← h]
  grind
section PS6
variable {b : Nat} {W : XH} {cap flo top eva lim rul rc uc rn dn lev dry ap : Int32} {rf us : Nat → Nat → Int32} {ra ac sv as : Nat → Int32} {sm th : Int32} {sd : Int64} {td : Int32} {sp : Nat → Int64} {lf : Int32} {tx : Nat → Int32} {tl pl nb : Int32}
variable {fu n : Nat}
theorem p_X6_mid (hn : n ≤ 5) (hf : 600010 < fu) (ho : u_ok n us) (hz : u_z n us) {A : Int32} (hA0 : 0 ≤ A.toInt) (hA1 : A.toInt ≤ 100000) (od : Nat → Int32) :
    ∃ l, (if (if A < u_dem n us then rul else 1) = (0 : Int32) then (xis (hm b W cap flo top eva lim rul rc (nI n) rn dn lev dry ap rf us ra ac sv as sm th sd td sp A tx tl pl nb) b 6).bind fun _ => obind1 (f_X6_inProportion fu (hm b W cap flo top eva lim rul rc (nI n) rn dn lev dry ap rf us ra ac sv as sm th sd td sp A tx tl pl nb) b A (u_dem n us)) fun h6 => some h6
      else if (if A < u_dem n us then rul else 1) = (1 : Int32) then (xis (hm b W cap flo top eva lim rul rc (nI n) rn dn lev dry ap rf us ra ac sv as sm th sd td sp A tx tl pl nb) b 6).bind fun _ => obind1 (f_X6_byOrder fu (hm b W cap flo top eva lim rul rc (nI n) rn dn lev dry ap rf us ra ac sv as sm th sd td sp A tx tl pl nb) b) fun h7 => some h7
      else if (if A < u_dem n us then rul else 1) = (2 : Int32) then (xis (hm b W cap flo top eva lim rul rc (nI n) rn dn lev dry ap rf us ra ac sv as sm th sd td sp A tx tl pl nb) b 6).bind fun _ => obind1 (f_X6_byWeights fu (hm b W cap flo top eva lim rul rc (nI n) rn dn lev dry ap rf us ra ac sv as sm th sd td sp A tx tl pl nb) b) fun h8 => some h8
      else (xis (hm b W cap flo top eva lim rul rc (nI n) rn dn lev dry ap rf us ra ac sv as sm th sd td sp A tx tl pl nb) b 6).bind fun _ => obind1 (f_X6_smallestFirst fu (hm b W cap flo top eva lim rul rc (nI n) rn dn lev dry ap rf us ra ac sv as sm th sd td sp A tx tl pl nb) b) fun h9 => some h9) =
      some (hm b W cap flo top eva lim rul rc (nI n) rn dn lev dry ap rf (if A < u_dem n us then u_share rul A (u_dem n us) n od us else (u_ord (fun i => i) n (u_dem n us, us)).2) ra ac sv as sm th sd td sp l tx tl pl nb) ∧
      l + isum (fun j => (if A < u_dem n us then u_share rul A (u_dem n us) n od us else (u_ord (fun i => i) n (u_dem n us, us)).2) j 2) n = A := by
  have hf5 : 5 < fu := by omega
  have hs0 : isum (fun j => us j 2) n = 0 := isum_0 hz
  by_cases hq : A < u_dem n us
  · simp only [if_pos hq]
    have hqi := hq
    rw [ti_lt] at hqi
    by_cases r0 : rul = 0
    · simp only [if_pos r0]
      have hnz : xnzL (Int32.toInt64 (u_dem n us)) = some () := by
        refine if_neg (fun z => ?_)
        have h1 : (Int32.toInt64 (u_dem n us)).toInt = 0 := by rw [z]; rfl
        rw [Int32.toInt_toInt64] at h1
        omega
      obtain ⟨m, m1, m2, m3, m4⟩ := m_prop2 hn ho hz hA0 hqi
      have hp := p_X6_inProportion (b := b) (W := W) (cap := cap) (flo := flo) (top := top) (eva := eva) (lim := lim) (rul := rul) (rc := rc) (rn := rn) (dn := dn) (lev := lev) (dry := dry) (ap := ap) (rf := rf) (us := us) (ra := ra) (ac := ac) (sv := sv) (as := as) (sm := sm) (th := th) (sd := sd) (td := td) (sp := sp) (lf := A) (tx := tx) (tl := tl) (pl := pl) (nb := nb) (fu := fu) hn hf5 A (u_dem n us) hnz m (by omega) m2 (by rw [m3]; exact Int32.le_refl _)
      refine ⟨(it (fun _ y => m_pass (fun _ _ => 1) n y) (m_pass (m_prt A (u_dem n us)) n (A, us)) m).1, ?_, ?_⟩
      · rw [gm_is, Option.bind_some, hp, obind1_some, m4]
        simp only [u_share, if_pos r0]
      · have hsum := its_sum (fun _ _ => 1) n (m_pass (m_prt A (u_dem n us)) n (A, us)) m
        rw [m_sum, hs0, m4] at hsum
        simp only [u_share, if_pos r0]
        rw [hsum]; exact i32_add0 A
    · simp only [if_neg r0]
      by_cases r1 : rul = 1
      · simp only [if_pos r1]
        refine ⟨(m_pass (fun us i => us i 0) n (A, us)).1, ?_, ?_⟩
        · rw [gm_is, Option.bind_some, p_X6_byOrder hn hf5, obind1_some, m_order hz]
          simp only [u_share, if_neg r0, if_pos r1]
        · have hsum := m_sum (fun us i => us i 0) n (A, us)
          rw [hs0, m_order hz] at hsum
          simp only [u_share, if_neg r0, if_pos r1]
          rw [m_order hz, hsum]; exact i32_add0 A
      · simp only [if_neg r1]
        by_cases r2 : rul = 2
        · simp only [if_pos r2]
          obtain ⟨m, m1, m2, m3, m4⟩ := w_all hn ho hz hA0 hA1 hqi
          have hp := p_X6_byWeights (b := b) (W := W) (cap := cap) (flo := flo) (top := top) (eva := eva) (lim := lim) (rul := rul) (rc := rc) (rn := rn) (dn := dn) (lev := lev) (dry := dry) (ap := ap) (rf := rf) (us := us) (ra := ra) (ac := ac) (sv := sv) (as := as) (sm := sm) (th := th) (sd := sd) (td := td) (sp := sp) (lf := A) (tx := tx) (tl := tl) (pl := pl) (nb := nb) (fu := fu) hn hf5 m (by omega) m2 (by have := m3; unfold w_M at this; rw [this]; exact Int32.le_refl _)
          refine ⟨(it (fun _ y => m_pass (fun us i => 10 * us i 1) n y) (A, us) m).1, ?_, ?_⟩
          · have m5 : (it (fun _ y => m_pass (fun us i => 10 * us i 1) n y) (A, us) m).2 = (u_wts n (A, us)).2 := m4
            rw [gm_is, Option.bind_some, hp, obind1_some, m5]
            simp only [u_share, if_neg r0, if_neg r1, if_pos r2]
          · have m5 : (it (fun _ y => m_pass (fun us i => 10 * us i 1) n y) (A, us) m).2 = (u_wts n (A, us)).2 := m4
            have hsum := its_sum (fun us i => 10 * us i 1) n (A, us) m
            rw [hs0, m5] at hsum
            simp only [u_share, if_neg r0, if_neg r1, if_pos r2]
            rw [hsum]; exact i32_add0 A
        · simp only [if_neg r2]
          have hs := u_srt_ord (fun i => us i 0) n hn od
          refine ⟨(m_ss (fun j => (u_srt (fun i => us i 0) n od j).toNatClampNeg) n (A, us)).1, ?_, ?_⟩
          · rw [gm_is, Option.bind_some, p_X6_smallestFirst hn hf5 hs, obind1_some, m_small hs hz]
            simp only [u_share, if_neg r0, if_neg r1, if_neg r2]
          · have hsum := ss_sum (s := fun j => (u_srt (fun i => us i 0) n od j).toNatClampNeg) (n := n) hs.1 (A, us)
            rw [hs0, m_small hs hz] at hsum
            simp only [u_share, if_neg r0, if_neg r1, if_neg r2]
            rw [m_small hs hz, hsum]; exact i32_add0 A
  · simp only [if_neg hq]
    have hfl := m_fill hn ho hz (Int32.not_lt.mp hq)
    simp only [show ¬ ((1 : Int32) = 0) by decide, if_false, if_true]
    refine ⟨(m_pass (fun us i => us i 0) n (A, us)).1, ?_, ?_⟩
    · rw [gm_is, Option.bind_some, p_X6_byOrder hn hf5, obind1_some, hfl.1]
    · have hsum := m_sum (fun us i => us i 0) n (A, us)
      rw [hs0, hfl.1] at hsum
      rw [hsum]; exact i32_add0 A
theorem p_X6_shares (hn : n ≤ 5) (hf : 600010 < fu) (ho : u_ok n us) {A : Int32} (hA0 : 0 ≤ A.toInt) (hA1 : A.toInt ≤ 100000) (od : Nat → Int32) {d : Nat} (hd : d < 100) :
    f_X6_shares fu (hm b W cap flo top eva lim rul rc (nI n) rn dn lev dry ap rf us ra ac sv as sm th sd (nI d) sp lf tx tl pl nb) b A = some (xb01 (A < u_dem n us), hm b W cap flo top eva lim rul rc (nI n) rn dn lev dry ap rf (u_hand A rul n od us).2 ra (xup (xup ac (d * 10 + 6) (ac (d * 10 + 6) + (u_hand A rul n od us).1)) (d * 10 + 7) (ac (d * 10 + 7) + (u_dem n us - (u_hand A rul n od us).1))) sv as sm th sd (nI d) sp (A - (u_hand A rul n od us).1) tx tl pl nb) := by
  have hf5 : 5 < fu := by omega
  have hv9 : (if u_dem n us ≤ A then (0 : Int32) else 1) = xb01 (A < u_dem n us) := by
    unfold xb01
    by_cases c : A < u_dem n us
    · rw [if_pos c, if_neg (Int32.not_le.mpr c)]
    · rw [if_neg c, if_pos (Int32.not_lt.mp c)]
  unfold f_X6_shares
  simp only [gm_is, Option.bind_some, p_X6_demands hn hf5, obind1_some, sm_lf]
  rw [xloop_E (fun i u => (nI i, hm b W cap flo top eva lim rul rc (nI n) rn dn lev dry ap rf u ra ac sv as sm th sd (nI d) sp A tx tl pl nb)) (fun i u => xup u i (xup (u i) 2 0)) (fun u => hm b W cap flo top eva lim rul rc (nI n) rn dn lev dry ap rf u ra ac sv as sm th sd (nI d) sp A tx tl pl nb) n us ?h0 ?hs ?he ?hf]
  · show obind1 (some (hm b W cap flo top eva lim rul rc (nI n) rn dn lev dry ap rf (u_clr2 n us) ra ac sv as sm th sd (nI d) sp A tx tl pl nb)) _ = _
    rw [obind1_some, obind1_ite, hv9]
    simp only [gm_r1, gm_rul, Option.bind_some]
    rw [obind1_ite]
    have hv10 : (if xb01 (A < u_dem n us) = 0 then (1 : Int32) else rul) = if A < u_dem n us then rul else 1 := by
      simp only [xb01_0]
      by_cases c : A < u_dem n us
      · rw [if_neg (fun h => h c), if_pos c]
      · rw [if_pos c, if_neg c]
    rw [hv10]
    obtain ⟨l, hm1, hm2⟩ := p_X6_mid (b := b) (W := W) (cap := cap) (flo := flo) (top := top) (eva := eva) (lim := lim) (rul := rul) (rc := rc) (rn := rn) (dn := dn) (lev := lev) (dry := dry) (ap := ap) (rf := rf) (us := (u_clr2 n us)) (ra := ra) (ac := ac) (sv := sv) (as := as) (sm := sm) (th := th) (sd := sd) (td := nI d) (sp := sp) (tx := tx) (tl := tl) (pl := pl) (nb := nb) (fu := fu) hn hf (clr2_ok ho) (clr2_z n us) hA0 hA1 od
    rw [clr2_dem] at hm1 hm2
    rw [hm1, obind1_some]
    have eh : (if A < u_dem n us then u_share rul A (u_dem n us) n od (u_clr2 n us) else (u_ord (fun i => i) n (u_dem n us, u_clr2 n us)).2) = (if A < u_dem n (u_clr2 n us) then u_share rul A (u_dem n (u_clr2 n us)) n od (u_clr2 n us) else (u_ord (fun i => i) n (u_dem n (u_clr2 n us), u_clr2 n us)).2) := by rw [clr2_dem]
    rw [eh] at hm2 ⊢
    have hh : u_hand A rul n od us = u_got n (if A < u_dem n (u_clr2 n us) then u_share rul A (u_dem n (u_clr2 n us)) n od (u_clr2 n us) else (u_ord (fun i => i) n (u_dem n (u_clr2 n us), u_clr2 n us)).2) := rfl
    rw [hh, u_got_eq]
    generalize (if A < u_dem n (u_clr2 n us) then u_share rul A (u_dem n (u_clr2 n us)) n od (u_clr2 n us) else (u_ord (fun i => i) n (u_dem n (u_clr2 n us), u_clr2 n us)).2) = v at *
    rw [xloop_E (fun i u => (nI i, hm b W cap flo top eva lim rul rc (nI n) rn dn lev dry ap rf u ra ac sv as sm th sd (nI d) sp l tx tl pl nb)) (fun i u => xup u i (xup (u i) 3 (u i 3 + u i 2))) (fun u => hm b W cap flo top eva lim rul rc (nI n) rn dn lev dry ap rf u ra ac sv as sm th sd (nI d) sp l tx tl pl nb) n v ?g0 ?gs ?ge ?gf]
    · show obind1 (some (hm b W cap flo top eva lim rul rc (nI n) rn dn lev dry ap rf (u_ever n v) ra ac sv as sm th sd (nI d) sp l tx tl pl nb)) _ = _
      have e1 : A - l = isum (fun i => v i 2) n := by rw [← hm2]; grind
      have e2 : A - isum (fun i => v i 2) n = l := by rw [← hm2]; grind
      simp only [obind1_some, gm_lf, gm_is, Option.bind_some, p_X6_tells (w := 6) (x := 6) rfl (show d * 10 + 6 < 1000 by omega), p_X6_tells (w := 7) (x := 7) rfl (show d * 10 + 7 < 1000 by omega), xbool_01, e1, e2]
      rw [xup_ne _ _ (show d * 10 + 7 ≠ d * 10 + 6 by omega)]
    case g0 => rfl
    case gf => omega
    case gs =>
      intro i u hi
      have h5 : i < 5 := by omega
      have h3 : (nI i).toNatClampNeg = i := xnI_nat (by omega)
      have hle : ¬ nI n ≤ nI i := nI_ge hi (by omega)
      have hx := xin_nI h5 (show 5 < 2147483648 by decide)
      simp only [xf2, gm_r1, gm_uc, Option.bind_some, if_neg hle, mu_3, gm_is, ous_2 h5, gm_us h5 (show 3 < 4 by decide), obind1_some, tm_us h5 (show 3 < 4 by decide), olet, xnI_s]
    case ge =>
      intro u
      simp only [xf2, gm_r1, gm_uc, Option.bind_some, Int32.le_refl, if_true]
  case h0 => rfl
  case hf => omega
  case hs =>
    intro i u hi
    have h5 : i < 5 := by omega
    have h3 : (nI i).toNatClampNeg = i := xnI_nat (by omega)
    have hle : ¬ nI n ≤ nI i := nI_ge hi (by omega)
    have hx := xin_nI h5 (show 5 < 2147483648 by decide)
    simp only [xf2, gm_r1, gm_uc, Option.bind_some, if_neg hle, mu_2, obind1_some, tm_us h5 (show 2 < 4 by decide), olet, xnI_s]
  case he =>
    intro u
    simp only [xf2, gm_r1, gm_uc, Option.bind_some, Int32.le_refl, if_true]
end PS6
