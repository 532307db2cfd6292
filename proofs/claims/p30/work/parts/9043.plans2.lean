/-! The law's plans, laid. -/
theorem ob2 {α β ω : Type} {G : Option (α × β)} {F : α → β → Option ω} {a : α} {b : β} (e : G = some (a, b)) : obind2 G F = F a b := by rw [e]; rfl
theorem oletk_eq {α β : Type} (x : α) (f : α → Option β) : oletk x f = f x := rfl
theorem plans_ok {B c fu L : Nat} {h : XH} (xs : Nat → Int32) (hL : L ≤ 260) (hf : 600010 < fu) (H : Two B h c 0 0 0 0) :
    ∃ z : Int32 × XH, f_L_plans fu L xs h B (B + 113) = some z ∧ z.1 = 1 ∧ ∃ c' k n, c' ≤ c + 20 ∧ k ≤ 5 ∧ Two B z.2 c' k n 0 0 := by
  obtain ⟨v1, e1⟩ := cell_ok hL xs (q := 0) (j := 0) rfl (by omega)
  obtain ⟨K, hK, e2⟩ := up_ok v1 (q := 6) (m := 6) rfl (by omega) (by omega)
  obtain ⟨v28, e28⟩ := cell_ok hL xs (q := 7) (j := 7) rfl (by omega)
  obtain ⟨M, hM, e29⟩ := up_ok v28 (q := 6) (m := 6) rfl (by omega) (by omega)
  unfold f_L_plans
  rw [e1, obind1_some, e2, obind1_some]
  refine ex_loop2 (fun i s => ∃ h1 c1, s = ((1 : Int32), nI i, h1) ∧ c1 ≤ c + 2 * i ∧ Two B h1 c1 i 0 0 0) (fun a b => a = 1 ∧ ∃ c1, c1 ≤ c + 10 ∧ Two B b c1 K 0 0 0) K ⟨h, c, rfl, by omega, H⟩ ?_ ?_ (by omega) ?_
  · rintro i s hi ⟨h1, c1, rfl, hc1, H1⟩
    left
    have hle : ¬ nI K ≤ nI i := nI_ge hi (by omega)
    obtain ⟨v6, e6⟩ := cell_ok hL xs (q := 1 + nI i) (j := 1 + i) (pl_one i) (by omega)
    obtain ⟨a, ha, e7⟩ := up_ok v6 (q := 240) (m := 240) rfl (by omega) (by omega)
    obtain ⟨b, hb, e10⟩ := up_ok (v6 >>> ((8 : Int32) &&& (31 : Int32))) (q := 100) (m := 100) rfl (by omega) (by omega)
    obtain ⟨r, hr, e11⟩ := up_ok (v6 >>> ((4 : Int32) &&& (31 : Int32))) (q := 300) (m := 300) rfl (by omega) (by omega)
    obtain ⟨t, ht, e13⟩ := up_ok (v6 >>> ((12 : Int32) &&& (31 : Int32))) (q := 3000) (m := 3000) rfl (by omega) (by omega)
    have f1 := nI_half (1 + a) (by omega)
    have f2 := nI_half r (by omega)
    have f3 := nI_half (1 + t) (by omega)
    obtain ⟨i1, i2⟩ := Two_is H1
    obtain ⟨gs, gs'⟩ := pl_gs ha hr ht
    by_cases c0 : i = 0
    · subst c0
      obtain ⟨w1, w2, w3, k1, k2, k3, k4, k5, H2⟩ := Two_roof0 (fu := fu) H1 (by omega) (pl_dbl (1 + a)) (pl_dbl r) (pl_dbl (1 + t)) ⟨gs.1, pl_100, gs.2.1, gs.2.2⟩ ⟨gs'.1, pl_100, gs'.2.1, gs'.2.2⟩
      have z0 : nI 0 = (0 : Int32) := rfl
      have z1 : nI 1 = (1 : Int32) := rfl
      refine ⟨((1 : Int32), nI (0 + 1), w3), ?_, w3, c1 + 2, rfl, by omega, H2⟩
      show xf3 _ _ = _
      rw [show ∀ (f : Int32 → Int32 → XH → Option ((Int32 × Int32 × XH) ⊕ (Int32 × XH))), xf3 f ((1 : Int32), nI 0, h1) = f 1 (nI 0) h1 from fun _ => rfl]
      rw [if_neg hle, e6, obind1_some, e7, obind1_some, olet_eq, pl_even0, pl_even, if_pos z0, obind1_some, e11, obind1_some, olet_eq, pl_even0, e13, obind1_some, olet_eq, pl_even0, pl_even]
      rw [ob2 (a := 1) (b := w1) ?x1]
      case x1 =>
        rw [oletk_eq, if_neg i32_10, i1, Option.bind_some, k1, xinl_inl, obind2_some, if_pos rfl]
      rw [if_pos z0, ob2 (a := 1) (b := w2) ?x2]
      case x2 =>
        rw [ob2 (a := 1) (b := w2) ?x3, ]
        case x3 =>
          rw [oletk_eq, if_neg i32_10, k2, Option.bind_some, f1, f2, f3, k3, xinl_inl, obind2_some, if_pos z0]
      rw [ob2 (a := 1) (b := w3) ?x4]
      case x4 =>
        rw [oletk_eq, if_neg i32_10, oletk_eq, if_pos z0, k4, Option.bind_some, f1, f2, f3, k5, xinl_inl, obind2_some, if_pos z1]
      rw [olet_eq, xnI_s]
    · have hi0 : ¬ nI i = (0 : Int32) := nI_pos0 (by omega) (by omega)
      obtain ⟨w1, w2, k1, k2, k3, H2⟩ := Two_roof (fu := fu) H1 (by omega) (by omega) (by omega) (p := nI (2 * (1 + a))) (q := nI (1 + b)) (r := nI (2 * r)) (t := nI (2 * (1 + t))) ⟨gs.1, inR_n (l := 1) (u := 100) rfl rfl (by omega) (by omega), gs.2.1, gs.2.2⟩
      refine ⟨((1 : Int32), nI (i + 1), w2), ?_, w2, c1 + 1, rfl, by omega, H2⟩
      show xf3 _ _ = _
      rw [show ∀ (f : Int32 → Int32 → XH → Option ((Int32 × Int32 × XH) ⊕ (Int32 × XH))), xf3 f ((1 : Int32), nI i, h1) = f 1 (nI i) h1 from fun _ => rfl]
      rw [if_neg hle, e6, obind1_some, e7, obind1_some, olet_eq, pl_even0, pl_even, if_neg hi0, e10, obind1_some, pl_one, obind1_some, e11, obind1_some, olet_eq, pl_even0, e13, obind1_some, olet_eq, pl_even0, pl_even]
      rw [ob2 (a := 1) (b := w1) ?y1]
      case y1 =>
        rw [oletk_eq, if_neg i32_10, i1, Option.bind_some, k1, xinl_inl, obind2_some, if_pos rfl]
      rw [if_neg hi0, ob2 (a := 1) (b := w1) ?y2]
      case y2 => rfl
      rw [ob2 (a := 1) (b := w2) ?y4]
      case y4 =>
        rw [oletk_eq, if_neg i32_10, oletk_eq, if_neg hi0, k2, Option.bind_some, k3, xinl_inl, obind2_some, xnI_s, if_pos rfl]
      rw [olet_eq, xnI_s]
  · rintro s ⟨h1, c1, rfl, hc1, H1⟩
    refine ⟨1, h1, ?_, rfl, c1, by omega, H1⟩
    simp only [xf3, Int32.le_refl, if_true]
  · rintro a b ⟨rfl, c1, hc1, H1⟩
    rw [e28, obind1_some, e29, obind1_some]
    refine ex_loop2 (fun i s => ∃ h1 c2, s = ((1 : Int32), nI i, h1) ∧ c2 ≤ c1 + 2 * i ∧ Two B h1 c2 K i 0 0) (fun a b => a = 1 ∧ ∃ c2, c2 ≤ c + 20 ∧ Two B b c2 K M 0 0) M ⟨b, c1, rfl, by omega, H1⟩ ?_ ?_ (by omega) ?_
    · rintro i s hi ⟨h1, c2, rfl, hc2, H2⟩
      left
      have hle : ¬ nI M ≤ nI i := nI_ge hi (by omega)
      have e8 : (8 : Int32) + nI i = nI (8 + i) := by
        have e2 : (8 : Int32) = nI 8 := rfl
        rw [e2, xnI_add]
      obtain ⟨v33, e33⟩ := cell_ok hL xs (q := 8 + nI i) (j := 8 + i) e8 (by omega)
      obtain ⟨a, ha, e35⟩ := up_ok v33 (q := 1500) (m := 1500) rfl (by omega) (by omega)
      obtain ⟨w, hw, e36⟩ := up_ok (v33 >>> ((12 : Int32) &&& (31 : Int32))) (q := 9) (m := 9) rfl (by omega) (by omega)
      obtain ⟨i1, i2⟩ := Two_is H2
      obtain ⟨w1, w2, k1, k2, k3, H3⟩ := Two_user (fu := fu) H2 (by omega) (by omega) (p := nI a) (q := nI (1 + w)) ⟨inR_n (l := 0) (u := 9999) rfl rfl (by omega) (by omega), inR_n (l := 1) (u := 9) rfl rfl (by omega) (by omega)⟩
      refine ⟨((1 : Int32), nI (i + 1), w2), ?_, w2, c2 + 1, rfl, by omega, H3⟩
      show xf3 _ _ = _
      rw [show ∀ (f : Int32 → Int32 → XH → Option ((Int32 × Int32 × XH) ⊕ (Int32 × XH))), xf3 f ((1 : Int32), nI i, h1) = f 1 (nI i) h1 from fun _ => rfl]
      rw [if_neg hle, e33, obind1_some, ob2 (a := 1) (b := w2) ?z1]
      case z1 =>
        rw [oletk_eq, if_neg i32_10, e35, obind1_some, e36, obind1_some, i1, Option.bind_some, pl_one, k1, xinl_inl, obind2_some, if_pos rfl, obind1_some, obind1_some, k2, Option.bind_some, pl_one, k3, xinl_inl, obind2_some, if_pos rfl]
      rw [olet_eq, xnI_s]
    · rintro s ⟨h1, c2, rfl, hc2, H2⟩
      refine ⟨1, h1, ?_, rfl, c2, by omega, H2⟩
      simp only [xf3, Int32.le_refl, if_true]
    · rintro a b ⟨rfl, c2, hc2, H2⟩
      have eb : xbool (1 : Int32) = some 1 := by decide
      rw [eb, Option.bind_some]
      exact ⟨_, rfl, rfl, c2, K, M, hc2, by omega, H2⟩
