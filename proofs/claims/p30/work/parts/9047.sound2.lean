/-! The law's balance. -/
def s64 (f : Nat → Int32) (n : Nat) : Int64 := it (fun i x => x + Int32.toInt64 (f i)) 0 n
theorem s64_ti {f : Nat → Int32} : ∀ {n : Nat}, n ≤ 1000 → (∀ i, i < n → 0 ≤ (f i).toInt ∧ (f i).toInt ≤ 10000000) → (s64 f n).toInt = zsum (fun i => (f i).toInt) n ∧ 0 ≤ zsum (fun i => (f i).toInt) n ∧ zsum (fun i => (f i).toInt) n ≤ 10000000 * (n : Int) := by
  intro n
  induction n with
  | zero => intro _ _; exact ⟨rfl, Int.le_refl 0, by show (0 : Int) ≤ 10000000 * ((0 : Nat) : Int); omega⟩
  | succ n ih =>
    intro hn h
    obtain ⟨i1, i2, i3⟩ := ih (by omega) (fun i hi => h i (by omega))
    have g := h n (by omega)
    have e : s64 f (n + 1) = s64 f n + Int32.toInt64 (f n) := rfl
    rw [zsum_s]
    refine ⟨?_, by omega, by omega⟩
    rw [e, Int64.toInt_add, Int32.toInt_toInt64, i1, Int.bmod_eq_of_le (by omega) (by omega)]
def sct (ac : Nat → Int32) (D : Nat) : Int32 := it (fun d x => x + if ac (d * 10 + 7) ≤ 0 then (0 : Int32) else 1) 0 D
theorem xmax_nI (a b : Nat) (ha : a < 1000000) (hb : b < 1000000) : xmax (nI a) (nI b) = nI (max a b) := by
  apply ti_ext
  rw [ti_max, xnI_toInt (by omega), xnI_toInt (by omega), xnI_toInt (by omega)]; omega
theorem long_le (ac : Nat → Int32) : ∀ D, D ≤ 100 → ∃ a b s : Nat, (b_long ac D).1 = nI a ∧ (b_long ac D).2 = nI b ∧ sct ac D = nI s ∧ a ≤ s ∧ b ≤ s ∧ s ≤ D
  | 0, _ => ⟨0, 0, 0, rfl, rfl, rfl, Nat.le_refl _, Nat.le_refl _, Nat.le_refl _⟩
  | D + 1, h => by
    obtain ⟨a, b, s, e1, e2, e3, h1, h2, h3⟩ := long_le ac D (by omega)
    have f1 : (b_long ac (D + 1)).1 = xmax (b_long ac D).1 (if b_sh ac D = 0 then 0 else (b_long ac D).2 + 1) := rfl
    have f2 : (b_long ac (D + 1)).2 = if b_sh ac D = 0 then 0 else (b_long ac D).2 + 1 := rfl
    have f3 : sct ac (D + 1) = sct ac D + if ac (D * 10 + 7) ≤ 0 then (0 : Int32) else 1 := rfl
    by_cases c : ac (D * 10 + 7) ≤ 0
    · have hb : b_sh ac D = 0 := if_pos c
      refine ⟨a, 0, s, ?_, ?_, ?_, h1, by omega, by omega⟩
      · have := xmax_nI a 0 (by omega) (by omega)
        rw [f1, hb, if_pos rfl, e1, ← xnI_z, this]
        exact congrArg nI (by omega)
      · rw [f2, hb, if_pos rfl]; rfl
      · rw [f3, if_pos c, e3, Int32.add_zero]
    · have hb : b_sh ac D = 1 := if_neg c
      refine ⟨max a (b + 1), b + 1, s + 1, ?_, ?_, ?_, by omega, by omega, by omega⟩
      · rw [f1, hb, if_neg i32_10, e1, e2, xnI_s, xmax_nI a (b + 1) (by omega) (by omega)]
      · rw [f2, hb, if_neg i32_10, e2, xnI_s]
      · rw [f3, if_neg c, e3, xnI_s]
section PW60
variable {B s L c k n N D : Nat} {h : XH} {cap flo top eva lim rul lev dry : Int32} {lo : Int64} {rf us : UT} {od ra ac : Nat → Int32} {ap : Int32} {sv tx : Nat → Int32} {fu : Nat}
theorem c_sum_n (hS : St (B + 1) h cap flo top eva lim rul (nI k) (nI n) (nI N) (nI D) lev dry lo rf us od ra ac) (hO : Ot B h s sv c L tx) (hC : CO c k n N D cap flo top eva lev lo ap rf us ra ac) (hs : s ≤ 4) (hf : 101 < fu) {w : Nat} (hw : 1 ≤ w ∧ w < 10) (h4 : w ≠ 4) {q : Int32} (e : q = nI w) : f_X5_sum fu h B q = some (.inl (lsum ac w 0 D)) := by
  have := c_sum hS hO hC hs hf hw
  rw [if_neg (show ¬ nI w = (4 : Int32) from fun f => h4 (xnI_inj (a := w) (b := 4) (by omega) (by omega) f))] at this
  rw [e]; exact this
theorem c_sum_4 (hS : St (B + 1) h cap flo top eva lim rul (nI k) (nI n) (nI N) (nI D) lev dry lo rf us od ra ac) (hO : Ot B h s sv c L tx) (hC : CO c k n N D cap flo top eva lev lo ap rf us ra ac) (hs : s ≤ 4) (hf : 101 < fu) {q : Int32} (e : q = nI 4) : f_X5_sum fu h B q = some (.inl (lsum ac 4 lo D)) := by
  have := c_sum hS hO hC hs hf (w := 4) (by omega)
  rw [if_pos (show nI 4 = (4 : Int32) from rfl)] at this
  rw [e]; exact this
end PW60
theorem ex_loop2' {S α β γ : Type} {body : S → Option (S ⊕ (α × β))} {s0 : S} {fu : Nat} {F : α → β → Option γ} {G : γ → Prop} (σ : Nat → S) (a : α) (b : β) (n : Nat) (h0 : s0 = σ 0)
    (hs : ∀ i, i < n → body (σ i) = some (.inl (σ (i + 1)))) (he : body (σ n) = some (.inr (a, b))) (hf : n < fu) (hF : ∃ z, F a b = some z ∧ G z) : ∃ z, obind2 (xloop body fu s0) F = some z ∧ G z :=
  ex_loop2 (fun i s => s = σ i) (fun x y => x = a ∧ y = b) n h0 (fun i s hi e => Or.inl ⟨_, by rw [e]; exact hs i hi, rfl⟩) (fun s e => ⟨a, b, by rw [e]; exact he, rfl, rfl⟩) hf (fun x y h => by rw [h.1, h.2]; exact hF)
theorem ex_loop1' {S α γ : Type} {body : S → Option (S ⊕ α)} {s0 : S} {fu : Nat} {F : α → Option γ} {G : γ → Prop} (σ : Nat → S) (a : α) (n : Nat) (h0 : s0 = σ 0)
    (hs : ∀ i, i < n → body (σ i) = some (.inl (σ (i + 1)))) (he : body (σ n) = some (.inr a)) (hf : n < fu) (hF : ∃ z, F a = some z ∧ G z) : ∃ z, obind1 (xloop body fu s0) F = some z ∧ G z :=
  ex_loop1 (fun i s => s = σ i) (fun x => x = a) n h0 (fun i s hi e => Or.inl ⟨_, by rw [e]; exact hs i hi, rfl⟩) (fun s e => ⟨a, by rw [e]; exact he, rfl⟩) hf (fun x h => by rw [h]; exact hF)
theorem sound_ok {B c k n N D fu : Nat} {h : XH} (hf : 600010 < fu) (hc : c < 1000) (H : Two B h c k n N D) : f_L_isSound fu h B = some 1 := by
  obtain ⟨i1, -⟩ := Two_is H
  obtain ⟨⟨-, g9, g6, g7⟩, -⟩ := Two_set H
  obtain ⟨s, s2, cap, flo, top, eva, lim, rul, lev, dry, lo, ap, m, rf, rg, us, vs, od, oe, ra, rb, ac, ad, sv, sw, tx, ty, ⟨hS, hO, hC, hs⟩, ⟨hS2, hO2, hC2, ht⟩, hT, hU, hR, hA, hQ⟩ := H
  have hk := hC.1.1
  have hn := hC.1.2.1
  have hDN := hC.1.2.2.2
  have hD : D ≤ 100 := Nat.le_trans hC.1.2.2.2 hC.1.2.2.1
  have hf1 : 101 < fu := by omega
  obtain ⟨q1, q2, q3, q4, q5, q6⟩ := hQ
  have hlo := hC.2.1.2
  have hcap := hC.2.2.2.1.1
  have hlev := hC.2.2.2.2.1
  have hro := hC.2.2.2.2.2.1
  have g10 : f_X5_setting h B (10 : Int32) = some (.inl lev) := c_setting hS hO hC hs (w := 10) (by omega)
  have g0 : f_X5_setting h B (0 : Int32) = some (.inl cap) := c_setting hS hO hC hs (w := 0) (by omega)
  have S1 := c_sum_n hS hO hC hs hf1 (w := 1) (by omega) (by omega) (q := 1) rfl
  have S2 := c_sum_n hS hO hC hs hf1 (w := 2) (by omega) (by omega) (q := 2) rfl
  have S5 := c_sum_n hS hO hC hs hf1 (w := 5) (by omega) (by omega) (q := 5) rfl
  have S6 := c_sum_n hS hO hC hs hf1 (w := 6) (by omega) (by omega) (q := 6) rfl
  have S8 := c_sum_n hS hO hC hs hf1 (w := 8) (by omega) (by omega) (q := 8) rfl
  have S9 := c_sum_n hS hO hC hs hf1 (w := 9) (by omega) (by omega) (q := 9) rfl
  have S4 := c_sum_4 hS hO hC hs hf1 (q := 4) rfl
  have z0 : (0 : Int64).toInt = 0 := rfl
  have L1 := lsum_ti (w := 1) (by omega) (x := 0) (by rw [z0]; omega) hD q1
  have L2 := lsum_ti (w := 2) (by omega) (x := 0) (by rw [z0]; omega) hD q1
  have L5 := lsum_ti (w := 5) (by omega) (x := 0) (by rw [z0]; omega) hD q1
  have L6 := lsum_ti (w := 6) (by omega) (x := 0) (by rw [z0]; omega) hD q1
  have L8 := lsum_ti (w := 8) (by omega) (x := 0) (by rw [z0]; omega) hD q1
  have L9 := lsum_ti (w := 9) (by omega) (x := 0) (by rw [z0]; omega) hD q1
  have L4 := lsum_ti (w := 4) (by omega) (x := lo) (by omega) hD q1
  rw [z0] at L1 L2 L5 L6 L8 L9
  have hw4 := s64_ti (f := fun i => rf i 4) (n := k) (by omega) (fun i hi => by have := hro i hi; omega)
  have hg3 := s64_ti (f := fun i => us i 3) (n := n) (by omega) (fun i hi => by have := q5 i hi; omega)
  have b1 : lsum ac 1 0 D + lsum ac 8 0 D = lsum ac 4 lo D + lsum ac 5 0 D + lsum ac 6 0 D + Int32.toInt64 lev := by
    apply Int64.toInt_inj.mp
    rw [Int64.toInt_add, Int64.toInt_add, Int64.toInt_add, Int64.toInt_add, Int32.toInt_toInt64, L1.1, L8.1, L4.1, L5.1, L6.1]
    rw [Int.bmod_eq_of_le (n := 0 + zs ac 1 D + (0 + zs ac 8 D)) (by omega) (by omega), Int.bmod_eq_of_le (n := lo.toInt + zs ac 4 D + (0 + zs ac 5 D)) (by omega) (by omega), Int.bmod_eq_of_le (n := lo.toInt + zs ac 4 D + (0 + zs ac 5 D) + (0 + zs ac 6 D)) (by omega) (by omega), Int.bmod_eq_of_le (by omega) (by omega)]
    omega
  have b2 : lsum ac 2 0 D = lsum ac 9 0 D + s64 (fun i => rf i 4) k := by
    apply Int64.toInt_inj.mp
    rw [Int64.toInt_add, L2.1, L9.1, hw4.1, Int.bmod_eq_of_le (by omega) (by omega)]
    omega
  have b3 : s64 (fun i => us i 3) n = lsum ac 6 0 D := by
    apply Int64.toInt_inj.mp
    rw [L6.1, hg3.1]
    omega
  have b4 : ¬ cap < lev := by rw [ti_lt]; omega
  obtain ⟨la, lb, ls, l1, -, l3, l4, -, l6⟩ := long_le ac D hD
  have lg := c_long hS hO hC hs hf1
  obtain ⟨v, hv⟩ := q_rel_ok (ac := ac) hD
  have r1 := (c_rel hS hO hC hs hf1).trans hv
  have b5 : ¬ sct ac D < (b_long ac D).1 := by rw [l1, l3, xnI_lt_iff (by omega) (by omega)]; omega
  have key : ∃ z, f_L_isSound fu h B = some z ∧ z = 1 := by
    unfold f_L_isSound
    refine ex_loop1' (fun i => (s64 (fun i => rf i 4) i, nI i)) (s64 (fun i => rf i 4) k) k rfl (fun i hi => ?_) ?_ (by omega) ?_
    · have hle : ¬ nI k ≤ nI i := nI_ge hi (by omega)
      have u4 : f_X5_roof h B (nI i) (4 : Int32) = some (.inl (rf i 4)) := c_roof hS hO hC hs hi (w := 4) (by omega)
      rw [xf2_at, obd i1, obx1 g6, if_neg hle, obd i1, obx1 u4, olet_eq, olet_eq, xnI_s]
      rfl
    · rw [xf2_at, obd i1, obx1 g6, if_pos (Int32.le_refl _)]
    · rw [obd i1, obx1 S1, obd i1, obx1 S8, obd i1, obx1 S4, obd i1, obx1 S5, obd i1, obx1 S6, obd i1, obx1 g10]
      rw [ob1 (a := 1) ?x1]
      case x1 =>
        rw [oletk_eq, if_pos b1, obd i1, obx1 S2, obd i1, obx1 S9, if_pos b2, obd i1, obx1 g10, obd i1, obx1 g0, if_neg b4]
      refine ex_loop2' (fun i => ((1 : Int32), s64 (fun i => us i 3) i, nI i)) 1 (s64 (fun i => us i 3) n) n rfl (fun i hi => ?_) ?_ (by omega) ?_
      · have hle : ¬ nI n ≤ nI i := nI_ge hi (by omega)
        have u3 : f_X5_user h B (nI i) (3 : Int32) = some (.inl (us i 3)) := c_user hS hO hC hs hi (w := 3) (by omega)
        have u2 : f_X5_user h B (nI i) (2 : Int32) = some (.inl (us i 2)) := c_user hS hO hC hs hi (w := 2) (by omega)
        have u0 : f_X5_user h B (nI i) (0 : Int32) = some (.inl (us i 0)) := c_user hS hO hC hs hi (w := 0) (by omega)
        have hlt : ¬ us i 0 < us i 2 := by rw [ti_lt]; have := (q5 i hi).2; omega
        rw [xf3_at, obd i1, obx1 g7, if_neg hle, obd i1, obx1 u3, olet_eq, ob1 (a := 1) ?x2, olet_eq, xnI_s]
        case x2 =>
          rw [oletk_eq, if_neg i32_10, obd i1, obx1 u2, obd i1, obx1 u0, if_neg hlt]
        rfl
      · rw [xf3_at, obd i1, obx1 g7, if_pos (Int32.le_refl _)]
      · refine ex_loop2' (fun i => ((1 : Int32), sct ac i, nI i)) 1 (sct ac D) D rfl (fun i hi => ?_) ?_ (by omega) ?_
        · have hle : ¬ nI D ≤ nI i := nI_ge hi (by omega)
          have d7 : f_X5_day h B (nI i) (7 : Int32) = some (.inl (ac (i * 10 + 7))) := c_day_ hS hO hC hs hi (w := 7) (by omega)
          have d1 : f_X5_day h B (nI i) (1 : Int32) = some (.inl (ac (i * 10 + 1))) := c_day_ hS hO hC hs hi (w := 1) (by omega)
          have d2 : f_X5_day h B (nI i) (2 : Int32) = some (.inl (ac (i * 10 + 2))) := c_day_ hS hO hC hs hi (w := 2) (by omega)
          have d9 : f_X5_day h B (nI i) (9 : Int32) = some (.inl (ac (i * 10 + 9))) := c_day_ hS hO hC hs hi (w := 9) (by omega)
          have rn := c_rain hS hO hC hs (i := i) (by omega)
          obtain ⟨p1, p2⟩ := q6 i hi
          rw [xf3_at, obd i1, obx1 g9, if_neg hle, obd i1, obx1 d7, ob1 (a := if ac (i * 10 + 7) ≤ 0 then (0 : Int32) else 1) ?x3, olet_eq, ob1 (a := 1) ?x4, olet_eq, xnI_s]
          case x3 =>
            by_cases c7 : ac (i * 10 + 7) ≤ 0
            · rw [if_pos c7, if_pos c7]
            · rw [if_neg c7, if_neg c7]
          case x4 =>
            have tail : ((xis h B 5).bind fun _ => obind1 (xinl (f_X5_rain h B (nI i))) fun v66 => oletk (some (1 : Int32)) fun k12 => if v66 = (0 : Int32) then k12 else (xis h B 5).bind fun _ => obind1 (xinl (f_X5_day h B (nI i) (9 : Int32))) fun v68 => if v68 = (0 : Int32) then k12 else some (0 : Int32)) = some (1 : Int32) := by
              rw [obd i1, obx1 rn, oletk_eq]
              by_cases c0 : ra i = 0
              · rw [if_pos c0]
              · rw [if_neg c0, obd i1, obx1 d9, if_pos (by rcases p2 with f | f; exact absurd f c0; exact f)]
            rw [oletk_eq, if_neg i32_10, obd i1, obx1 rn, oletk_eq]
            by_cases c0 : (0 : Int32) < ra i
            · rw [if_pos c0]; exact tail
            · have p3 : ac (i * 10 + 1) = 0 ∧ ac (i * 10 + 2) = 0 := by
                rcases p1 with f | f
                · exact absurd (by rw [ti_lt, ti_0]; exact f) c0
                · exact f
              rw [if_neg c0, obd i1, obx1 d1, if_pos p3.1, obd i1, obx1 d2, if_pos p3.2]; exact tail
          rfl
        · rw [xf3_at, obd i1, obx1 g9, if_pos (Int32.le_refl _)]
        · refine ⟨1, ?_, rfl⟩
          rw [ob1 (a := 1) ?x5, xbool_1, Option.bind_some]
          case x5 =>
            rw [oletk_eq, if_neg i32_10, obd i1, obx1 S6, if_pos b3, obd i1, ob1 lg, if_neg b5, obd i1, ob1 r1, if_neg (rel_fact hD hv).2]
  obtain ⟨z, e, rfl⟩ := key
  exact e
