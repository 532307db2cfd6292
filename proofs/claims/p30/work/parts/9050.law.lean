/-! The law, whole. -/
theorem obxL {α ω : Type} {G : Option ((Int64 × α) ⊕ Nat)} {F : Int64 → α → Option ω} {a : Int64} {b : α} (e : G = some (.inl (a, b))) : obind2 (xinl G) F = F a b := by rw [e]; rfl
theorem obL {α ω : Type} {G : Option (Int64 × α)} {F : Int64 → α → Option ω} {a : Int64} {b : α} (e : G = some (a, b)) : obind2 G F = F a b := by rw [e]; rfl
theorem law_fn {B fu L : Nat} {h : XH} (xs : Nat → Int32) (hL : L ≤ 260) (hf : 600010 < fu) (H : Two B h 0 0 0 0 0) : f_L_law fu L xs B (B + 113) h = some () := by
  have key : ∃ z, f_L_law fu L xs B (B + 113) h = some z ∧ True := by
    obtain ⟨⟨p1, p2⟩, eP, rfl, c1, k, n, hc1, hk5, HP⟩ := plans_ok xs hL hf H
    obtain ⟨v11, e11⟩ := cell_ok hL xs (q := 40) (j := 40) rfl (by omega)
    obtain ⟨a, ha, e12⟩ := up_ok v11 (q := 20000) (m := 20000) rfl (by omega) (by omega)
    obtain ⟨v14, e14⟩ := cell_ok hL xs (q := 41) (j := 41) rfl (by omega)
    obtain ⟨d, hd, e15⟩ := up_ok v14 (q := 101) (m := 101) rfl (by omega) (by omega)
    unfold f_L_law
    rw [ob2 eP]
    refine ex_loop2 (fun i s => ∃ h1 c2 N D, s = ((1 : Int32), nI i, h1) ∧ c2 ≤ c1 + 2 * i ∧ Two B h1 c2 k n N D) (fun x y => x = 1 ∧ ∃ c2 N D, Two B y c2 k n N D) 20 ⟨p2, c1, 0, 0, rfl, by omega, HP⟩ ?_ ?_ (by omega) ?_
    · rintro i s hi ⟨h1, c2, N, D, rfl, hc2, H1⟩
      left
      have e20 : (20 : Int32) = nI 20 := rfl
      have hle : ¬ (20 : Int32) ≤ nI i := by rw [e20, xnI_le_iff (by omega) (by omega)]; omega
      have e14i : (14 : Int32) + nI i = nI (14 + i) := by
        have e2 : (14 : Int32) = nI 14 := rfl
        rw [e2, xnI_add]
      obtain ⟨v5, e5⟩ := cell_ok hL xs (q := 14 + nI i) (j := 14 + i) e14i (by omega)
      obtain ⟨⟨s1, s2⟩, eS, rfl, c3, N', D', hc3, H2⟩ := step_ok (fu := fu) hf (by omega) H1 v5
      have eA := alike_ok (fu := fu) hf H2
      have eB := sound_ok (fu := fu) hf (by omega) H2
      refine ⟨((1 : Int32), nI (i + 1), s2), ?_, s2, c3, N', D', rfl, by omega, H2⟩
      rw [xf3_at, if_neg hle, if_neg i32_10, ob1 e5, ob2 eS, ob1 (a := 1) ?x1, olet_eq, xnI_s]
      case x1 =>
        rw [oletk_eq, if_neg i32_10, ob1 eA, if_neg i32_10, ob1 eB, if_neg i32_10]
    · rintro s ⟨h1, c2, N, D, rfl, hc2, H1⟩
      refine ⟨1, h1, ?_, rfl, c2, N, D, H1⟩
      rw [xf3_at, if_pos (show (20 : Int32) ≤ nI 20 by decide)]
    · rintro x y ⟨rfl, c2, N, D, H1⟩
      rw [ob1 e11, ob1 e12, olet_eq, pl_100a, ob1 e14, ob1 e15]
      obtain ⟨i1, -⟩ := Two_is H1
      obtain ⟨w1, a1, a2, t1, t2, t3, H2⟩ := Two_sdw (fu := fu) H1 hf (p := nI (100 + a)) (inR_n (l := 100) (u := 60000) rfl rfl (by omega) (by omega))
      obtain ⟨i2, -⟩ := Two_is H2
      obtain ⟨w2, b1, b2, t4, t5, t6, H3⟩ := Two_cap (fu := fu) H2 hf (p := nI d) (inR_n (l := 0) (u := 100) rfl rfl (by omega) (by omega))
      obtain ⟨i3, -⟩ := Two_is H3
      obtain ⟨w3, d1, d2, t7, t8, t9, H4⟩ := Two_best (fu := fu) H3 hf
      obtain ⟨i4, -⟩ := Two_is H4
      obtain ⟨w4, f1, f2, u1, u2, u3, H5⟩ := Two_sust (fu := fu) H4 hf
      rw [ob2 (a := 1) (b := f2) ?x2]
      case x2 =>
        rw [oletk_eq, if_neg i32_10, obd i1, obx2 t1, obd t2, obx2 t3, if_pos rfl, obd i2, obx2 t4, obd t5, obx2 t6, if_pos rfl, obd i3, ob2 t7, obd t8, ob2 t9, if_pos rfl, obd i4, ob2 u1, obd u2, ob2 u3, if_pos rfl]
      refine ex_loop2 (fun i s => ∃ h1, s = ((1 : Int32), nI i, h1) ∧ Two B h1 c2 k n N D) (fun x y => x = 1 ∧ Two B y c2 k n N D) k ⟨f2, rfl, H5⟩ ?_ ?_ (by omega) ?_
      · rintro i s hi ⟨h1, rfl, H6⟩
        left
        have hle : ¬ nI k ≤ nI i := nI_ge hi (by omega)
        obtain ⟨j1, -⟩ := Two_is H6
        obtain ⟨⟨-, -, g6, -⟩, -⟩ := Two_set H6
        by_cases c0 : i = 0
        · subst c0
          obtain ⟨v, v1, v2, q1, q2, q3, r1, r2, r3, r4, r5, ev, H7⟩ := Two_gut0 (fu := fu) H6 hf hi
          refine ⟨((1 : Int32), nI (0 + 1), q3), ?_, q3, rfl, H7⟩
          have r3' : f_X5_gutterLoss fu q1 (B + 113) (0 : Int32) = some (.inl (v1, q2)) := r3
          have r5' : f_X5_gutterLoss fu q2 (B + 113) (1 : Int32) = some (.inl (v2, q3)) := r5
          rw [xf3_at, obd j1, obx1 g6, if_neg hle, if_neg i32_10, obd j1, obxL r1, obL (a := v1 + v2) (b := q3) ?x3, if_pos ev, obind1_some, olet_eq, xnI_s]
          case x3 =>
            rw [if_pos (show nI 0 = (0 : Int32) from rfl), obd r2, obxL r3', obd r4, obxL r5']
        · obtain ⟨e, rfl⟩ : ∃ e, i = e + 1 := ⟨i - 1, by omega⟩
          obtain ⟨v, q1, q2, r1, r2, r3, H7⟩ := Two_gut (fu := fu) H6 hf (i := e) hi
          refine ⟨((1 : Int32), nI (e + 1 + 1), q2), ?_, q2, rfl, H7⟩
          rw [xf3_at, obd j1, obx1 g6, if_neg hle, if_neg i32_10, obd j1, obxL r1, obL (a := v) (b := q2) ?x4, if_pos rfl, obind1_some, olet_eq, xnI_s]
          case x4 =>
            rw [if_neg (nI_pos0 (by omega) (by omega)), obd r2, xnI_s, obxL r3]
      · rintro s ⟨h1, rfl, H6⟩
        obtain ⟨j1, -⟩ := Two_is H6
        obtain ⟨⟨-, -, g6, -⟩, -⟩ := Two_set H6
        refine ⟨1, h1, ?_, rfl, H6⟩
        rw [xf3_at, obd j1, obx1 g6, if_pos (Int32.le_refl _)]
      · rintro x y ⟨rfl, H6⟩
        obtain ⟨j1, -⟩ := Two_is H6
        obtain ⟨v, v', t, m1, m2, o1, o2, o3, o4, o5, o6, o7, o8, ht, o9, o10, o11⟩ := Two_end (fu := fu) H6 hf
        have hneg : ¬ nI t < (0 : Int32) := by rw [← xnI_z, xnI_lt_iff (by omega) (by omega)]; omega
        rw [obd j1, ob1 o1, ob2 (a := 1) (b := m2) ?x5]
        case x5 =>
          rw [oletk_eq, if_neg i32_10, obd j1, ob2 o2, obd o4, obx1 o5, if_pos rfl, obd o3, obx1 o6, if_pos rfl, obd o3, obx1 o7, if_pos rfl, obd o3, obx2 o8, if_neg hneg]
        rw [ob1 (a := 1) ?x6]
        case x6 =>
          rw [oletk_eq, if_neg i32_10, obd o9, ob1 o10, oletk_eq]
          rcases o11 with e | e
          · rw [if_pos e]
          · by_cases ce : v' = v
            · rw [if_pos ce]
            · rw [if_neg ce, obd o9, ob1 o10, if_pos e]
        rw [show xeqI (1 : Int32) 1 = some () from if_pos rfl, Option.bind_some]
        exact ⟨(), rfl, trivial⟩
  obtain ⟨z, e, -⟩ := key
  exact e
