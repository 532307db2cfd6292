/-! run, both sides. -/
section PX8
variable {B s L c k n N D : Nat} {h : XH} {cap flo top eva lim rul lev dry : Int32} {lo : Int64} {rf us : UT} {od ra ac : Nat → Int32} {ap : Int32} {rfm usm : UT} {ram acm sv as : Nat → Int32} {th : Int32} {sd : Int64} {td : Int32} {sp : Nat → Int64} {lf : Int32} {tx : Nat → Int32} {pl nb : Int32}
variable {s' L' k' n' N' D' : Nat} {cap' flo' top' eva' lim' rul' lev' dry' : Int32} {lo' : Int64} {rf' us' : UT} {od' ra' ac' : Nat → Int32} {ap' : Int32} {rfm' usm' : UT} {ram' acm' sv' as' : Nat → Int32} {th' : Int32} {sd' : Int64} {td' : Int32} {sp' : Nat → Int64} {lf' : Int32} {tx' : Nat → Int32} {pl' nb' : Int32}
end PX8
theorem xupd {α : Type} (f : Nat → α) (d a w : Nat) (x : α) : xup f (d * 10 + a) x (d * 10 + w) = if w = a then x else f (d * 10 + w) := by
  unfold xup
  by_cases e : w = a
  · rw [if_pos (by omega), if_pos e]
  · rw [if_neg (by omega), if_neg e]
abbrev CS : Type := Int32 × Int32 × Int32 × UT × UT × (Nat → Int32) × (Nat → Int32)
/-- a day of the class: count, level, dry days, roofs, users, order, accounts -/
def cday (cap flo top eva lim rul : Int32) (k n : Nat) (ra : Nat → Int32) (d : Nat) (x : CS) : CS :=
  (if (if s_lack cap flo eva rul x.2.1 (c_acc k lim x.2.2.1 (ra d) d x.2.2.2.1 x.2.2.2.2.2.2 (d * 10 + 1)) n x.2.2.2.2.2.1 x.2.2.2.2.1 ≤ 0 then (0 : Int32) else 1) = 0 then x.1 else x.1 + 1,
   s_lev5 cap flo top eva rul x.2.1 (c_acc k lim x.2.2.1 (ra d) d x.2.2.2.1 x.2.2.2.2.2.2 (d * 10 + 1)) n x.2.2.2.2.2.1 x.2.2.2.2.1, c_dry x.2.2.1 (ra d), (c_day k lim x.2.2.1 (ra d) x.2.2.2.1).2.2.2,
   (s_hand cap flo eva rul x.2.1 (c_acc k lim x.2.2.1 (ra d) d x.2.2.2.1 x.2.2.2.2.2.2 (d * 10 + 1)) n x.2.2.2.2.2.1 x.2.2.2.2.1).2,
   u_hod (s_avl cap flo eva x.2.1 (c_acc k lim x.2.2.1 (ra d) d x.2.2.2.1 x.2.2.2.2.2.2 (d * 10 + 1))) rul n x.2.2.2.2.2.1 x.2.2.2.2.1,
   s_acc cap flo top eva rul x.2.1 n d x.2.2.2.2.2.1 x.2.2.2.2.1 (c_acc k lim x.2.2.1 (ra d) d x.2.2.2.1 x.2.2.2.2.2.2))
section PX9
variable {B s L c k n N D : Nat} {h : XH} {cap flo top eva lim rul lev dry : Int32} {lo : Int64} {rf us : UT} {od ra ac : Nat → Int32} {ap : Int32} {rfm usm : UT} {ram acm sv as : Nat → Int32} {th : Int32} {sd : Int64} {td : Int32} {sp : Nat → Int64} {lf : Int32} {tx : Nat → Int32} {pl nb : Int32}
variable {fu : Nat}
theorem CT_day (hC : CT c k n N D cap flo top eva lev lo ap rf us rfm usm ra ac ram acm) (hD : D < N) {od : Nat → Int32} {sp : Nat → Int64} {v : Nat → Int32}
    (hv : (v 0 = s_lev5 cap flo top eva rul lev (m_day k lim dry (ram D) rfm sp).1 n od usm ∧ v 1 = (m_day k lim dry (ram D) rfm sp).1 ∧ v 2 = (m_day k lim dry (ram D) rfm sp).2.1 ∧ v 3 = (m_day k lim dry (ram D) rfm sp).2.2.1 ∧ v 4 = s_over cap lev (m_day k lim dry (ram D) rfm sp).1 ∧
      v 5 = s_evap cap eva lev (m_day k lim dry (ram D) rfm sp).1 ∧ v 6 = (s_hand cap flo eva rul lev (m_day k lim dry (ram D) rfm sp).1 n od usm).1 ∧ v 7 = u_dem n usm - (s_hand cap flo eva rul lev (m_day k lim dry (ram D) rfm sp).1 n od usm).1 ∧ v 8 = s_mains cap flo top eva rul lev (m_day k lim dry (ram D) rfm sp).1 n od usm ∧ v 9 = (c_drn k lim dry (ram D) rfm).1)) (cnt : Int32) :
    CT c k n N (D + 1) cap flo top eva (cday cap flo top eva lim rul k n ra D (cnt, lev, dry, rf, us, od, ac)).2.1 lo ap (cday cap flo top eva lim rul k n ra D (cnt, lev, dry, rf, us, od, ac)).2.2.2.1 (cday cap flo top eva lim rul k n ra D (cnt, lev, dry, rf, us, od, ac)).2.2.2.2.1
      (m_day k lim dry (ram D) rfm sp).2.2.2.1 (s_hand cap flo eva rul lev (m_day k lim dry (ram D) rfm sp).1 n od usm).2 ra (cday cap flo top eva lim rul k n ra D (cnt, lev, dry, rf, us, od, ac)).2.2.2.2.2.2 ram (aday acm D v) ∧
    (cday cap flo top eva lim rul k n ra D (cnt, lev, dry, rf, us, od, ac)).2.1 = s_lev5 cap flo top eva rul lev (m_day k lim dry (ram D) rfm sp).1 n od usm ∧
    (cday cap flo top eva lim rul k n ra D (cnt, lev, dry, rf, us, od, ac)).2.2.1 = c_dry dry (ram D) ∧
    (cday cap flo top eva lim rul k n ra D (cnt, lev, dry, rf, us, od, ac)).1 = cnt + xb01 (s_avl cap flo eva lev (m_day k lim dry (ram D) rfm sp).1 < u_dem n usm) := by
  obtain ⟨⟨hk, hn, hN, hDN⟩, hlo, ⟨r1, r2, r3, r4⟩, hcf, hlev, hro, huo, hrn⟩ := hC
  have huo' := okd_ok huo
  have era : ra D = ram D := r3 D hD
  have hr0 : 0 ≤ (ram D).toInt ∧ (ram D).toInt ≤ 200 := by rw [← era]; exact hrn D hD
  obtain ⟨⟨d1, d2, d3⟩, ⟨d4, d5⟩, -⟩ := R5_day (sp := sp) hk r1 hro lim dry hr0
  have d6 := (R5_drn r1 lim dry (ram D)).1
  have ei : c_acc k lim dry (ra D) D rf ac (D * 10 + 1) = (m_day k lim dry (ram D) rfm sp).1 := by
    rw [era, ← d1]
    simp [c_acc, xupd]
  have hinf : 0 ≤ (m_day k lim dry (ram D) rfm sp).1.toInt ∧ (m_day k lim dry (ram D) rfm sp).1.toInt ≤ 1000000 := by
    have := m_rfs_rng (sp := sp) hk (r_ok_drn (R5_ok r1 hro) lim dry (ram D)) hr0 k (Nat.le_refl _)
    have h6 : (100000 : Int) * k ≤ 600000 := by omega
    exact ⟨this.2.1, by have := this.2.2; unfold m_day; omega⟩
  obtain ⟨v0, v1, v2, v3, v4, v5, v6, v7, v8, v9⟩ := hv
  have el := L_lev5 (cap := cap) (flo := flo) (top := top) (eva := eva) (rul := rul) (lev := lev) (inf := (m_day k lim dry (ram D) rfm sp).1) (od := od) hn r2
  have eh := L_hand (cap := cap) (flo := flo) (eva := eva) (rul := rul) (lev := lev) (inf := (m_day k lim dry (ram D) rfm sp).1) (od := od) hn r2
  have em := L_mains (cap := cap) (flo := flo) (top := top) (eva := eva) (rul := rul) (lev := lev) (inf := (m_day k lim dry (ram D) rfm sp).1) (od := od) hn r2
  have ek := L_lack (cap := cap) (flo := flo) (eva := eva) (rul := rul) (lev := lev) (inf := (m_day k lim dry (ram D) rfm sp).1) (od := od) hn r2
  have hcfg := s_cf_lev hcf hlev
  have hrg := s_rng (rul := rul) hn huo' hcfg hinf od
  have hcol : u_col us (s_hand cap flo eva rul lev (m_day k lim dry (ram D) rfm sp).1 n od us).2 := u_col_hand _ _ _ _ _
  have hcolm : u_col usm (s_hand cap flo eva rul lev (m_day k lim dry (ram D) rfm sp).1 n od usm).2 := u_col_hand _ _ _ _ _
  have hsh := s_short (rul := rul) hn huo' hcfg hinf od
  refine ⟨⟨⟨hk, hn, hN, hD⟩, hlo, ⟨?_, ?_, r3, fun j hj => ?_⟩, hcf, ?_, ?_, ?_, hrn⟩, ?_, ?_, ?_⟩
  · simp only [cday, era]; exact d4
  · simp only [cday, ei]; exact eh.2
  · simp only [cday]
    by_cases cj : j < D * 10
    · rw [aday_out _ _ _ (by omega), s_acc_1 _ _ _ _ _ _ _ _ _ _ _ (fun w hw => by omega), ← r4 j cj]
      unfold c_acc
      rw [xup_ne _ _ (by omega), xup_ne _ _ (by omega), xup_ne _ _ (by omega), xup_ne _ _ (by omega)]
    · obtain ⟨w, hw, rfl⟩ : ∃ w, w < 10 ∧ j = D * 10 + w := ⟨j - D * 10, by omega, by omega⟩
      rw [aday_at _ _ _ hw]
      have h10 : w = 0 ∨ w = 1 ∨ w = 2 ∨ w = 3 ∨ w = 4 ∨ w = 5 ∨ w = 6 ∨ w = 7 ∨ w = 8 ∨ w = 9 := by omega
      have e7 : s_lack cap flo eva rul lev (m_day k lim dry (ram D) rfm sp).1 n od usm = u_dem n usm - (s_hand cap flo eva rul lev (m_day k lim dry (ram D) rfm sp).1 n od usm).1 := by
        unfold s_lack; rw [u_dem_col hcolm]
      unfold s_acc
      simp only [ei]
      rcases h10 with rfl | rfl | rfl | rfl | rfl | rfl | rfl | rfl | rfl | rfl
      · rw [v0, ← el]; exact xup_self _ _ _
      · rw [v1]
        repeat rw [xupd, if_neg (by decide)]
        exact ei
      · rw [v2, ← d2, ← era]
        repeat rw [xupd, if_neg (by decide)]
        unfold c_acc
        repeat rw [xupd, if_neg (by decide)]
        rw [xupd, if_pos rfl]
      · rw [v3, ← d3, ← era]
        repeat rw [xupd, if_neg (by decide)]
        unfold c_acc
        repeat rw [xupd, if_neg (by decide)]
        rw [xupd, if_pos rfl]
      · rw [v4]
        repeat rw [xupd, if_neg (by decide)]
        rw [xupd, if_pos rfl]
      · rw [v5]
        repeat rw [xupd, if_neg (by decide)]
        rw [xupd, if_pos rfl]
      · rw [v6, ← eh.1]
        repeat rw [xupd, if_neg (by decide)]
        rw [xupd, if_pos rfl]
      · rw [v7, ← e7, ← ek]
        repeat rw [xupd, if_neg (by decide)]
        rw [xupd, if_pos rfl]
      · rw [v8, ← em]
        repeat rw [xupd, if_neg (by decide)]
        rw [xupd, if_pos rfl]
      · rw [v9, ← d6, ← era]
        repeat rw [xupd, if_neg (by decide)]
        unfold c_acc
        rw [xupd, if_pos rfl]
  · simp only [cday, ei]; exact hrg.2.2.2
  · simp only [cday, era]; exact d5
  · simp only [cday, ei]; exact okd_col hcol huo
  · simp only [cday, ei]; exact el
  · simp only [cday, era]
  · simp only [cday, ei]
    rw [hsh, U4_dem r2]
    exact xb01_if2 _ _
end PX9

