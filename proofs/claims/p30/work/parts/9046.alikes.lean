/-! The law's comparisons. -/
theorem rel_of {v : UInt64} (h : (decide (xcmpl v v = 0) && !decide (0 < xcmpg v xd1)) = true) : xcmpl v v = 0 ∧ ¬ 0 < xcmpg v xd1 := by
  simp only [Bool.and_eq_true, Bool.not_eq_true', decide_eq_true_eq, decide_eq_false_iff_not] at h
  exact h
theorem rel_fact {ac : Nat → Int32} {D : Nat} (hD : D ≤ 100) {v : UInt64} (h : q_rel ac D = some v) : xcmpl v v = 0 ∧ ¬ 0 < xcmpg v xd1 := by
  unfold q_rel at h
  by_cases c0 : nI D = (0 : Int32)
  · rw [if_pos c0] at h
    cases h
    exact rel_of rel_dec0
  · rw [if_neg c0] at h
    obtain ⟨m, h1, h2⟩ := r_cnt_n ac D
    rw [h2] at h
    have hD0 : 0 < D := by
      rcases Nat.eq_zero_or_pos D with e | e
      · subst e; exact absurd rfl c0
      · exact e
    have key := rel_dec D (by omega) m (by omega) hD0 h1
    rw [h] at key
    exact rel_of key
theorem q_rel_eq {ac ad : Nat → Int32} {D : Nat} (e : ∀ j, j < D * 10 → ac j = ad j) : q_rel ac D = q_rel ad D := by
  have e1 : r_cnt ac D = r_cnt ad D := it_cg (fun i x hi => by simp only [b_sh_eq e hi]) 0
  unfold q_rel
  rw [e1]
theorem b_long_eq {ac ad : Nat → Int32} {D : Nat} (e : ∀ j, j < D * 10 → ac j = ad j) : b_long ac D = b_long ad D := it_cg (fun i x hi => by simp only [b_sh_eq e hi]) (0, 0)
theorem lsum_eq2 {ac ad : Nat → Int32} {D w : Nat} {x : Int64} (e : ∀ j, j < D * 10 → ac j = ad j) (hw : w < 10) : lsum ac w x D = lsum ad w x D :=
  it_cg (fun d y hd => by rw [e (d * 10 + w) (by omega)]) x
theorem zz_but6 {a0 a1 a2 a3 a4 a5 x y a7 a8 a9 a10 a11 : Int32} {i : Nat} (hi : i < 12) (h6 : i ≠ 6) : zz a0 a1 a2 a3 a4 a5 x a7 a8 a9 a10 a11 i = zz a0 a1 a2 a3 a4 a5 y a7 a8 a9 a10 a11 i := by
  have h : i = 0 ∨ i = 1 ∨ i = 2 ∨ i = 3 ∨ i = 4 ∨ i = 5 ∨ i = 7 ∨ i = 8 ∨ i = 9 ∨ i = 10 ∨ i = 11 := by omega
  rcases h with rfl | rfl | rfl | rfl | rfl | rfl | rfl | rfl | rfl | rfl | rfl <;> rfl
theorem xf2_at {α β ω : Type} (f : α → β → ω) (a : α) (b : β) : xf2 f (a, b) = f a b := rfl
theorem xf3_at {α β γ ω : Type} (f : α → β → γ → ω) (a : α) (b : β) (c : γ) : xf3 f (a, b, c) = f a b c := rfl
theorem alike_ok {B c k n N D fu : Nat} {h : XH} (hf : 600010 < fu) (H : Two B h c k n N D) : f_L_areAlike fu h B (B + 113) = some 1 := by
  obtain ⟨i1, i2⟩ := Two_is H
  obtain ⟨⟨-, -, -, g7⟩, -⟩ := Two_set H
  obtain ⟨s, s2, cap, flo, top, eva, lim, rul, lev, dry, lo, ap, m, rf, rg, us, vs, od, oe, ra, rb, ac, ad, sv, sw, tx, ty, ⟨hS, hO, hC, hs⟩, ⟨hS2, hO2, hC2, ht⟩, hT, hU, hR, hA, hQ⟩ := H
  have hn := hC.1.2.1
  have hD : D ≤ 100 := Nat.le_trans hC.1.2.2.2 hC.1.2.2.1
  have key : ∃ z, f_L_areAlike fu h B (B + 113) = some z ∧ z = 1 := by
    unfold f_L_areAlike
    refine ex_loop1 (fun i s => s = ((1 : Int32), nI i)) (fun a => a = 1) 12 rfl ?_ ?_ (by omega) ?_
    · rintro i s hi rfl
      left
      have e12 : (12 : Int32) = nI 12 := rfl
      have hle : ¬ (12 : Int32) ≤ nI i := by rw [e12, xnI_le_iff (by omega) (by omega)]; omega
      refine ⟨((1 : Int32), nI (i + 1)), ?_, rfl⟩
      rw [xf2_at, if_neg hle, ob1 (a := 1) ?x, olet_eq, xnI_s]
      case x =>
        rw [oletk_eq, if_neg i32_10, oletk_eq]
        by_cases c6 : i = 6
        · rw [c6, if_pos (show nI 6 = (6 : Int32) from rfl)]
        · rw [if_neg (show ¬ nI i = (6 : Int32) from fun f => c6 (xnI_inj (a := i) (b := 6) (by omega) (by omega) f)), obd i1, obx1 (c_setting hS hO hC hs hi), obd i2, obx1 (c_setting hS2 hO2 hC2 ht hi), if_pos (zz_but6 hi c6)]
    · rintro s rfl
      refine ⟨1, ?_, rfl⟩
      rw [xf2_at, if_pos (show (12 : Int32) ≤ nI 12 by decide)]
    · rintro a rfl
      refine ex_loop1 (fun i s => s = ((1 : Int32), nI (i + 1))) (fun a => a = 1) 9 rfl ?_ ?_ (by omega) ?_
      · rintro i s hi rfl
        left
        have e12 : (10 : Int32) = nI 10 := rfl
        have hle : ¬ (10 : Int32) ≤ nI (i + 1) := by rw [e12, xnI_le_iff (by omega) (by omega)]; omega
        refine ⟨((1 : Int32), nI (i + 1 + 1)), ?_, rfl⟩
        rw [xf2_at, if_neg hle, ob1 (a := 1) ?y, olet_eq, xnI_s]
        case y =>
          rw [oletk_eq, if_neg i32_10, obd i1, obx1 (c_sum hS hO hC hs (show 101 < fu by omega) (w := i + 1) (by omega)), obd i2, obx1 (c_sum hS2 hO2 hC2 ht (show 101 < fu by omega) (w := i + 1) (by omega)), if_pos (lsum_eq2 hA (by omega))]
      · rintro s rfl
        refine ⟨1, ?_, rfl⟩
        rw [xf2_at, if_pos (show (10 : Int32) ≤ nI (9 + 1) by decide)]
      · rintro a rfl
        refine ex_loop1 (fun i s => s = ((1 : Int32), nI i)) (fun a => a = 1) n rfl ?_ ?_ (by omega) ?_
        · rintro i s hi rfl
          left
          have hle : ¬ nI n ≤ nI i := nI_ge hi (by omega)
          refine ⟨((1 : Int32), nI (i + 1)), ?_, rfl⟩
          have u2 : f_X5_user h B (nI i) (2 : Int32) = some (.inl (us i 2)) := c_user hS hO hC hs hi (w := 2) (by omega)
          have u3 : f_X5_user h B (nI i) (3 : Int32) = some (.inl (us i 3)) := c_user hS hO hC hs hi (w := 3) (by omega)
          have v2 : f_X5_user h (B + 113) (nI i) (2 : Int32) = some (.inl (vs i 2)) := c_user hS2 hO2 hC2 ht hi (w := 2) (by omega)
          have v3 : f_X5_user h (B + 113) (nI i) (3 : Int32) = some (.inl (vs i 3)) := c_user hS2 hO2 hC2 ht hi (w := 3) (by omega)
          rw [xf2_at, obd i1, obx1 g7, if_neg hle, ob1 (a := 1) ?z, olet_eq, xnI_s]
          case z =>
            rw [oletk_eq, if_neg i32_10, obd i1, obx1 u2, obd i2, obx1 v2, if_pos (hU i hi 2 (by decide)), obd i1, obx1 u3, obd i2, obx1 v3, if_pos (hU i hi 3 (by decide))]
        · rintro s rfl
          refine ⟨1, ?_, rfl⟩
          rw [xf2_at, obd i1, obx1 g7, if_pos (Int32.le_refl _)]
        · rintro a rfl
          obtain ⟨v, hv⟩ := q_rel_ok (ac := ac) hD
          have r1 := (c_rel hS hO hC hs (show 101 < fu by omega)).trans hv
          have r2 := (c_rel hS2 hO2 hC2 ht (show 101 < fu by omega)).trans ((q_rel_eq hA).symm.trans hv)
          have l1 := c_long hS hO hC hs (show 101 < fu by omega)
          have l2 := c_long hS2 hO2 hC2 ht (show 101 < fu by omega)
          refine ⟨1, ?_, rfl⟩
          rw [ob1 (a := 1) ?w, xbool_1, Option.bind_some]
          case w =>
            rw [oletk_eq, if_neg i32_10, obd i1, ob1 r1, obd i2, ob1 r2, if_pos (rel_fact hD hv).1, obd i1, ob1 l1, obd i2, ob1 l2, if_pos (by rw [b_long_eq hA])]
  obtain ⟨z, e, rfl⟩ := key
  exact e
