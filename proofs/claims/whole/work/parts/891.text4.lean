/-! The class reads an item, whole. -/
def itm (L : Nat) (by_ : Nat → Int32) (most p c : Nat) : Nat ⊕ (Nat × Int32 × Nat) := match item L by_ p with
  | .inl q => .inl q
  | .inr (e, v, d) => if nx L by_ e 59 = true ∧ c + d.toNatClampNeg ≤ most then .inr (e + 1, v, d.toNatClampNeg) else .inl e
theorem rn_inl {L : Nat} {by_ : Nat → Int32} {p m : Nat} {lo hi : Int32} {q : Nat} (hp : p ≤ L) (h : rn_ L by_ p m lo hi = .inl q) : q ≤ L := by
  have hr := rd_rng L by_ p hp m
  unfold rn_ at h
  split at h
  · cases h; omega
  · split at h
    · cases h; omega
    · split at h
      · cases h; omega
      · split at h
        · cases h
        · cases h; omega
theorem xnI_neg1 {q : Nat} (h : q < 2147483648) : ¬ nI q = (-1 : Int32) := by
  intro e
  have h1 := xnI_toInt h
  rw [e] at h1
  have : (-1 : Int32).toInt = -1 := by decide
  omega
theorem xnI_nn {x : Int32} {lo hi : Int32} (h1 : lo ≤ x) (h2 : x ≤ hi) (h0 : 0 ≤ lo.toInt) {k : Nat} (hk : hi.toInt = k) : x = nI x.toNatClampNeg ∧ x.toNatClampNeg ≤ k := by
  rw [ti_le] at h1 h2
  have h3 : x = nI x.toNatClampNeg := xnI_of (by rw [ti_le, ti_0]; omega)
  refine ⟨h3, ?_⟩
  have h4 : x.toNatClampNeg = x.toInt.toNat := rfl
  omega
section PSH
variable {b : Nat} {W : XH} {tl fc pa nu : Int32} {by_ fo : Nat → Int32}
variable {fu L p c most : Nat}
theorem p_X0_readItem (hL : L ≤ 120) (hp : p ≤ L) (hm : most ≤ 100) (hc : c ≤ 100) (hf : 101 < fu) :
    ∃ pa' nu', f_X0_readItem fu (ht b W (nI L) (nI c) (nI p) nu by_ fo) b (nI most) = some (match itm L by_ most p c with
      | .inl q => (nI q, ht b W (nI L) (nI c) pa' nu' by_ fo)
      | .inr (e, v, d) => (-1, ht b W (nI L) (nI (c + d)) (nI e) nu' by_ (fill v c d fo))) := by
  have r1 := p_X0_readNumber (b := b) (W := W) (fc := nI c) (nu := nu) (by_ := by_) (fo := fo) (fu := fu) (L := L) (p := p) (m := 3) hL hp (by decide) (by omega) 0 200
  have hr1 := rd_rng L by_ p hp 3
  unfold f_X0_readItem
  rw [tg_is, Option.bind_some, show (3 : Int32) = nI 3 from rfl, r1, obind2_some]
  unfold itm item
  cases e1 : rn_ L by_ p 3 0 200 with
  | inl q =>
    have hq := rn_inl hp e1
    exact ⟨nI (rd L by_ p 3).1, (rd L by_ p 3).2, if_neg (xnI_neg1 (by omega))⟩
  | inr x =>
    obtain ⟨q, v⟩ := x
    obtain ⟨f1, f2, f3, f4⟩ := rn_inr e1
    rw [← f1]
    have hq : q ≤ L := by have : q = (rd L by_ p 3).1 := congrArg Prod.fst f1; omega
    simp only [rcode, if_true, tg_nu, tg_is, Option.bind_some, p_X0_isNext hL hq, obind1_some, xb01_0]
    by_cases n1 : nx L by_ q 120 = true
    · have hq1 : q + 1 ≤ L := (nx_iff.mp n1).1
      have hr2 := rd_rng L by_ (q + 1) hq1 2
      have r2 := p_X0_readNumber (b := b) (W := W) (fc := nI c) (nu := v) (by_ := by_) (fo := fo) (fu := fu) (L := L) (p := q + 1) (m := 2) hL hq1 (by decide) (by omega) 1 99
      simp only [if_neg (fun h : ¬ nx L by_ q 120 = true => h n1), if_pos n1, tg_pa, ts_pa, tg_is, Option.bind_some, xnI_s, show (2 : Int32) = nI 2 from rfl, r2, obind2_some, oletk]
      cases e2 : rn_ L by_ (q + 1) 2 1 99 with
      | inl q2 =>
        have hq2 := rn_inl hq1 e2
        exact ⟨nI (rd L by_ (q + 1) 2).1, (rd L by_ (q + 1) 2).2, if_neg (xnI_neg1 (by omega))⟩
      | inr y =>
        obtain ⟨q3, d⟩ := y
        obtain ⟨g1, g2, g3, g4⟩ := rn_inr e2
        have hq3 : q3 ≤ L := by have : q3 = (rd L by_ (q + 1) 2).1 := congrArg Prod.fst g1; omega
        have dd := xnI_nn g3 g4 (by decide) (k := 99) rfl
        have d1 : d = nI d.toNatClampNeg := dd.1
        have d2 : d.toNatClampNeg ≤ 99 := dd.2
        rw [← g1]
        simp only [rcode, if_true, tg_nu, Option.bind_some]
        have hend := p_X0_itemEnd (b := b) (W := W) (nu := d) (by_ := by_) (fo := fo) (fu := fu) (L := L) (c := c) (most := most) hL hq3 hm hc hf (v := v) (d := d.toNatClampNeg) (by omega) rfl
        rw [← d1] at hend
        simp only [tg_pa, ts_pa, tg_is, Option.bind_some, xnI_s, oletk] at hend
        refine ⟨nI q3, d, ?_⟩
        refine Eq.trans hend ?_
        by_cases z : nx L by_ q3 59 = true ∧ c + d.toNatClampNeg ≤ most
        · rw [if_pos z, if_pos z]
        · rw [if_neg z, if_neg z]
    · simp only [if_pos n1, if_neg n1, oletk]
      have hend := p_X0_itemEnd (b := b) (W := W) (nu := v) (by_ := by_) (fo := fo) (fu := fu) (L := L) (c := c) (most := most) hL hq hm hc hf (v := v) (d := 1) (by omega) rfl
      have e3 : (1 : Int32).toNatClampNeg = 1 := rfl
      refine ⟨nI q, v, ?_⟩
      refine Eq.trans hend ?_
      rw [e3]
      by_cases z : nx L by_ q 59 = true ∧ c + 1 ≤ most
      · rw [if_pos z, if_pos z]
      · rw [if_neg z, if_neg z]
end PSH
