/-! The class reads all items. -/
def itms (L : Nat) (by_ : Nat → Int32) (most : Nat) : Nat → Nat → Nat → (Nat → Int32) → Nat ⊕ (Nat × (Nat → Int32))
  | 0, _, c, fo => .inr (c, fo)
  | f + 1, p, c, fo => if p < L then (match itm L by_ most p c with
    | .inl q => .inl q
    | .inr (e, v, d) => itms L by_ most f e (c + d) (fill v c d fo)) else .inr (c, fo)
theorem rd_lo (L : Nat) (by_ : Nat → Int32) (p m : Nat) : p ≤ (rd L by_ p m).1 := by
  induction m with
  | zero => exact Nat.le_refl _
  | succ m ih =>
    by_cases c : dg L by_ (rd L by_ p m).1 = true
    · rw [rd_step c]; simp only; omega
    · rw [rd_stop L by_ p m c 1]; exact ih
theorem item_inr {L : Nat} {by_ : Nat → Int32} {p e : Nat} {v d : Int32} (h : item L by_ p = .inr (e, v, d)) : p < e ∧ (0 ≤ v.toInt ∧ v.toInt ≤ 200) ∧ (1 ≤ d.toInt ∧ d.toInt ≤ 99) := by
  unfold item at h
  cases e1 : rn_ L by_ p 3 0 200 with
  | inl q => rw [e1] at h; cases h
  | inr x =>
    obtain ⟨q, w⟩ := x
    obtain ⟨f1, f2, f3, f4⟩ := rn_inr e1
    rw [e1] at h
    simp only at h f3 f4
    have hq : p < q := by have : q = (rd L by_ p 3).1 := congrArg Prod.fst f1; omega
    rw [ti_le] at f3 f4
    have z0 : (0 : Int32).toInt = 0 := rfl
    have z200 : (200 : Int32).toInt = 200 := rfl
    by_cases n1 : nx L by_ q 120 = true
    · rw [if_pos n1] at h
      cases e2 : rn_ L by_ (q + 1) 2 1 99 with
      | inl q2 => rw [e2] at h; cases h
      | inr y =>
        obtain ⟨q3, d3⟩ := y
        obtain ⟨g1, g2, g3, g4⟩ := rn_inr e2
        rw [e2] at h
        simp only at h g3 g4
        cases h
        have hq3 : e = (rd L by_ (q + 1) 2).1 := congrArg Prod.fst g1
        rw [ti_le] at g3 g4
        have z1 : (1 : Int32).toInt = 1 := rfl
        have z99 : (99 : Int32).toInt = 99 := rfl
        exact ⟨by omega, by omega, by omega⟩
    · rw [if_neg n1] at h
      cases h
      exact ⟨hq, by omega, by decide⟩
theorem itm_inr {L : Nat} {by_ : Nat → Int32} {most p c e d : Nat} {v : Int32} (h : itm L by_ most p c = .inr (e, v, d)) : (p + 2 ≤ e ∧ e ≤ L ∧ c + d ≤ most) ∧ (0 ≤ v.toInt ∧ v.toInt ≤ 200) ∧ 1 ≤ d := by
  unfold itm at h
  cases e1 : item L by_ p with
  | inl q => rw [e1] at h; cases h
  | inr x =>
    obtain ⟨q, w, d3⟩ := x
    have hi := item_inr e1
    rw [e1] at h
    simp only at h
    by_cases z : nx L by_ q 59 = true ∧ c + d3.toNatClampNeg ≤ most
    · rw [if_pos z] at h
      cases h
      have h4 : d3.toNatClampNeg = d3.toInt.toNat := rfl
      have h5 := (nx_iff.mp z.1).1
      exact ⟨⟨by omega, by omega, z.2⟩, hi.2.1, by omega⟩
    · rw [if_neg z] at h; cases h
theorem itm_inl {L : Nat} {by_ : Nat → Int32} {most p c q : Nat} (hp : p ≤ L) (h : itm L by_ most p c = .inl q) : q ≤ L := by
  unfold itm at h
  have key : ∀ e v d, item L by_ p = .inr (e, v, d) → e ≤ L := by
    intro e v d he
    unfold item at he
    cases e1 : rn_ L by_ p 3 0 200 with
    | inl q => rw [e1] at he; cases he
    | inr x =>
      obtain ⟨q, w⟩ := x
      obtain ⟨f1, f2, f3, f4⟩ := rn_inr e1
      rw [e1] at he
      simp only at he
      have hr := rd_rng L by_ p hp 3
      have hq : q = (rd L by_ p 3).1 := congrArg Prod.fst f1
      by_cases n1 : nx L by_ q 120 = true
      · rw [if_pos n1] at he
        have hq1 : q + 1 ≤ L := (nx_iff.mp n1).1
        cases e2 : rn_ L by_ (q + 1) 2 1 99 with
        | inl q2 => rw [e2] at he; cases he
        | inr y =>
          obtain ⟨q3, d3⟩ := y
          obtain ⟨g1, g2, g3, g4⟩ := rn_inr e2
          rw [e2] at he
          simp only at he
          cases he
          have hr2 := rd_rng L by_ (q + 1) hq1 2
          have : e = (rd L by_ (q + 1) 2).1 := congrArg Prod.fst g1
          omega
      · rw [if_neg n1] at he
        cases he
        omega
  cases e1 : item L by_ p with
  | inl q0 =>
    rw [e1] at h
    cases h
    unfold item at e1
    cases e2 : rn_ L by_ p 3 0 200 with
    | inl q1 => rw [e2] at e1; cases e1; exact rn_inl hp e2
    | inr x =>
      obtain ⟨q1, w⟩ := x
      obtain ⟨f1, f2, f3, f4⟩ := rn_inr e2
      rw [e2] at e1
      simp only at e1
      by_cases n1 : nx L by_ q1 120 = true
      · rw [if_pos n1] at e1
        have hq1 : q1 + 1 ≤ L := (nx_iff.mp n1).1
        cases e3 : rn_ L by_ (q1 + 1) 2 1 99 with
        | inl q2 => rw [e3] at e1; cases e1; exact rn_inl hq1 e3
        | inr y => rw [e3] at e1; obtain ⟨q3, d3⟩ := y; cases e1
      · rw [if_neg n1] at e1; cases e1
  | inr x =>
    obtain ⟨e, v, d⟩ := x
    have he := key e v d e1
    rw [e1] at h
    simp only at h
    by_cases z : nx L by_ e 59 = true ∧ c + d.toNatClampNeg ≤ most
    · rw [if_pos z] at h; cases h
    · rw [if_neg z] at h; cases h; exact he
section PSI
variable {b : Nat} {W : XH} {tl fc pa nu : Int32} {by_ fo : Nat → Int32}
variable {fu L N : Nat}
theorem p_X0_readItems (hL : L ≤ 120) (hN : N ≤ 100) (hf : 121 < fu) : ∃ (c' : Int32) (pa' nu' : Int32) (fo' : Nat → Int32) (code : Int32),
    f_X0_readItems fu (ht b W (nI L) fc pa nu by_ fo) b (nI N) = some (code, ht b W (nI L) c' pa' nu' by_ fo') ∧
    (match itms L by_ (100 - N) 120 0 0 fo with
      | .inl q => code = nI q
      | .inr (c, f) => code = -1 ∧ c' = nI c ∧ fo' = f ∧ c ≤ 100) := by
  have hmost : (100 : Int32) - nI N = nI (100 - N) := by
    have e : (100 : Int32) = nI (N + (100 - N)) := by rw [show N + (100 - N) = 100 by omega]; rfl
    rw [e, xnI_subp]
  unfold f_X0_readItems
  simp only [ts_pa, ts_fc, Option.bind_some, hmost]
  have key := xloop_P (body := xf3 fun (v1 : Int32) (v2 : Int32) (h3 : XH) => if (120 : Int32) ≤ v2 then some (Sum.inr (v1, h3)) else (xgI h3 b 0 4).bind fun v4 => (xgI h3 b 0 1).bind fun v5 => if v5 ≤ v4 then some (Sum.inr (v1, h3)) else
      if v1 = (-1 : Int32) then (xis h3 b 0).bind fun v6 => obind2 (f_X0_readItem fu h3 b (nI (100 - N))) fun v7 h5 => olet (v2 + (1 : Int32)) fun v8 => some (Sum.inl (v7, v8, h5)) else some (Sum.inr (v1, h3)))
    (s0 := (-1, 0, ht b W (nI L) 0 0 nu by_ fo)) (fu := fu)
    (fun i s => ∃ (c' pa' nu' : Int32) (fo' : Nat → Int32) (code : Int32), s = (code, nI i, ht b W (nI L) c' pa' nu' by_ fo') ∧
      ((∃ p c, code = -1 ∧ pa' = nI p ∧ c' = nI c ∧ i ≤ p ∧ p ≤ L ∧ c ≤ 100 - N ∧ itms L by_ (100 - N) (120 - i) p c fo' = itms L by_ (100 - N) 120 0 0 fo) ∨ ∃ q, code = nI q ∧ q ≤ 120 ∧ itms L by_ (100 - N) 120 0 0 fo = .inl q))
    (fun r => ∃ (c' pa' nu' : Int32) (fo' : Nat → Int32) (code : Int32), r = (code, ht b W (nI L) c' pa' nu' by_ fo') ∧ (match itms L by_ (100 - N) 120 0 0 fo with
      | .inl q => code = nI q
      | .inr (c, f) => code = -1 ∧ c' = nI c ∧ fo' = f ∧ c ≤ 100))
    120 ⟨0, 0, nu, fo, -1, rfl, Or.inl ⟨0, 0, rfl, rfl, rfl, Nat.le_refl _, Nat.zero_le _, Nat.zero_le _, rfl⟩⟩ ?ks ?ke (by omega)
  · obtain ⟨r, e, c', pa', nu', fo', code, er, e1⟩ := key
    exact ⟨c', pa', nu', fo', code, by rw [e, er]; rfl, e1⟩
  case ks =>
    rintro i s hi ⟨c', pa', nu', fo', code, rfl, hcase⟩
    have hle : ¬ (120 : Int32) ≤ nI i := nI_ge (b := 120) hi (by decide)
    rcases hcase with ⟨p, c, rfl, rfl, rfl, hip, hpL, hc, eq⟩ | ⟨q, rfl, hq, eq⟩
    · by_cases hpl : p < L
      · left
        obtain ⟨pa2, nu2, e2⟩ := p_X0_readItem (b := b) (W := W) (nu := nu') (by_ := by_) (fo := fo') (fu := fu) (L := L) (p := p) (c := c) (most := 100 - N) hL hpL (by omega) (by omega) (by omega)
        have ef : 120 - i = (120 - (i + 1)) + 1 := by omega
        rw [ef] at eq
        unfold itms at eq
        rw [if_pos hpl] at eq
        have hbody : ∀ (cd : Int32) (h5 : XH), f_X0_readItem fu (ht b W (nI L) (nI c) (nI p) nu' by_ fo') b (nI (100 - N)) = some (cd, h5) → (xf3 fun (v1 : Int32) (v2 : Int32) (h3 : XH) => if (120 : Int32) ≤ v2 then some (Sum.inr (v1, h3)) else (xgI h3 b 0 4).bind fun v4 => (xgI h3 b 0 1).bind fun v5 => if v5 ≤ v4 then some (Sum.inr (v1, h3)) else
            if v1 = (-1 : Int32) then (xis h3 b 0).bind fun v6 => obind2 (f_X0_readItem fu h3 b (nI (100 - N))) fun v7 h5 => olet (v2 + (1 : Int32)) fun v8 => some (Sum.inl (v7, v8, h5)) else some (Sum.inr (v1, h3))) (-1, nI i, ht b W (nI L) (nI c) (nI p) nu' by_ fo') = some (Sum.inl (cd, nI (i + 1), h5)) := by
          intro cd h5 e
          simp only [xf3, if_neg hle, tg_pa, tg_tl, Option.bind_some, if_neg (nI_ge hpl (show L < 2147483648 by omega)), if_true, tg_is, e, obind2_some, olet, xnI_s]
        cases e3 : itm L by_ (100 - N) p c with
        | inl q =>
          rw [e3] at e2 eq
          simp only at e2 eq
          have hq : q ≤ 120 := Nat.le_trans (itm_inl hpL e3) hL
          exact ⟨_, hbody _ _ e2, _, _, _, _, _, rfl, Or.inr ⟨q, rfl, hq, eq.symm⟩⟩
        | inr x =>
          obtain ⟨e, v, d⟩ := x
          rw [e3] at e2 eq
          simp only at e2 eq
          have hin := itm_inr e3
          exact ⟨_, hbody _ _ e2, _, _, _, _, _, rfl, Or.inl ⟨e, c + d, rfl, rfl, rfl, by omega, by omega, by omega, eq⟩⟩
      · right
        have hz : ∀ f, itms L by_ (100 - N) f p c fo' = .inr (c, fo') := by
          intro f
          cases f with
          | zero => rfl
          | succ f => unfold itms; rw [if_neg hpl]
        refine ⟨(-1, ht b W (nI L) (nI c) (nI p) nu' by_ fo'), ?_, nI c, nI p, nu', fo', -1, rfl, ?_⟩
        · simp only [xf3, if_neg hle, tg_pa, tg_tl, Option.bind_some]
          rw [if_pos (by rw [xnI_le_iff (by omega) (by omega)]; omega)]
        · rw [← eq, hz]
          exact ⟨rfl, rfl, rfl, by omega⟩
    · right
      refine ⟨(nI q, ht b W (nI L) c' pa' nu' by_ fo'), ?_, c', pa', nu', fo', nI q, rfl, by rw [eq]⟩
      simp only [xf3, if_neg hle, tg_pa, tg_tl, Option.bind_some, if_neg (xnI_neg1 (show q < 2147483648 by omega))]
      by_cases z : nI L ≤ pa'
      · rw [if_pos z]
      · rw [if_neg z]
  case ke =>
    rintro s ⟨c', pa', nu', fo', code, rfl, hcase⟩
    refine ⟨(code, ht b W (nI L) c' pa' nu' by_ fo'), ?_, c', pa', nu', fo', code, rfl, ?_⟩
    · simp only [xf3, show (120 : Int32) ≤ nI 120 from Int32.le_refl _, if_true]
    · rcases hcase with ⟨p, c, rfl, rfl, rfl, hip, hpL, hc, eq⟩ | ⟨q, rfl, hq, eq⟩
      · rw [← eq]
        exact ⟨rfl, rfl, rfl, by omega⟩
      · rw [eq]
end PSI
