/-! The rules. -/
def u_ones (n : Nat) (x : Int32 × UT) : Int32 × UT := it (fun i x => if x.1 ≤ 0 then x else (x.1 - u_giv x.2 i 1, u_put x.2 i 1)) x n
def u_pass (n : Nat) (x : Int32 × UT) : Int32 × UT := u_rnd n (x.1 - (u_rnds (u_full n x.2 x.1) n x.2).1, (u_rnds (u_full n x.2 x.1) n x.2).2)
def u_wts (n : Nat) (x : Int32 × UT) : Int32 × UT := it (fun _ x => if x.1 ≤ 0 then x else u_pass n x) x (n + 1)
/-- where the new one goes in, and the row moved up -/
def u_ins (d : Nat → Int32) (di : Int32) : Nat → (Nat → Int32) → Nat × (Nat → Int32)
  | 0, o => (0, o)
  | p + 1, o => if d (o p).toNatClampNeg ≤ di then (p + 1, o) else u_ins d di p (xup o (p + 1) (o p))
def u_srt (d : Nat → Int32) (n : Nat) (o : Nat → Int32) : Nat → Int32 := it (fun i o => xup (u_ins d (d i) i o).2 (u_ins d (d i) i o).1 (nI i)) o n
theorem u_ins_le (d : Nat → Int32) (di : Int32) : ∀ (p : Nat) (o : Nat → Int32), (u_ins d di p o).1 ≤ p := by
  intro p
  induction p with
  | zero => intro o; exact Nat.le_refl _
  | succ p ih =>
    intro o
    unfold u_ins
    split
    · exact Nat.le_refl _
    · exact Nat.le_trans (ih _) (by omega)
def u_rng (k : Nat) (o : Nat → Int32) : Prop := ∀ j, j < k → ∃ m, m < 5 ∧ o j = nI m
theorem u_rng_ins (d : Nat → Int32) (di : Int32) : ∀ (p : Nat) (k : Nat) (o : Nat → Int32), p < k → u_rng p o → (∀ j, p < j → j < k → ∃ m, m < 5 ∧ o j = nI m) → ∀ j, j < k → j ≠ (u_ins d di p o).1 → ∃ m, m < 5 ∧ (u_ins d di p o).2 j = nI m := by
  intro p
  induction p with
  | zero =>
    intro k o _ _ h2 j hj hne
    exact h2 j (by unfold u_ins at hne; simp at hne; omega) hj
  | succ p ih =>
    intro k o hpk h1 h2 j hj hne
    unfold u_ins at hne ⊢
    split
    · next hq =>
      rw [if_pos hq] at hne
      simp only at hne ⊢
      by_cases hjp : j < p + 1
      · exact h1 j hjp
      · exact h2 j (by omega) hj
    · next hq =>
      rw [if_neg hq] at hne
      refine ih k _ (by omega) (fun j hj => ?_) (fun j h3 h4 => ?_) j hj hne
      · rw [xup_ne _ _ (by omega)]; exact h1 j (by omega)
      · by_cases hjp : j = p + 1
        · subst hjp; rw [xup_self]; exact h1 p (by omega)
        · rw [xup_ne _ _ hjp]; exact h2 j (by omega) h4
section PSH
variable {b : Nat} {W : XH} {cap flo top eva lim rul rc uc rn dn lev dry : Int32} {lo : Int64} {rf us : Nat → Nat → Int32} {od ra ac : Nat → Int32}
variable {fu n : Nat}
theorem p_X4_shareByDemand (hn : n ≤ 5) (hf : 5 < fu) (A D : Int32) (hD : 0 < D) : f_X4_shareByDemand fu (hp b W cap flo top eva lim rul rc (nI n) rn dn lev dry lo rf us od ra ac) (b + 8) A D = some (hp b W cap flo top eva lim rul rc (nI n) rn dn lev dry lo rf (u_ones n (u_prop A D n (A, us))).2 od ra ac) := by
  have hz : xnzL (Int32.toInt64 D) = some () := by
    refine if_neg (fun z => ?_)
    have h1 : (Int32.toInt64 D).toInt = 0 := by rw [z]; rfl
    rw [Int32.toInt_toInt64] at h1
    have h2 := Int32.lt_iff_toInt_lt.mp hD
    rw [h1] at h2
    exact absurd h2 (by decide)
  unfold f_X4_shareByDemand
  rw [if_pos hD]
  rw [xloop_E (fun i (x : Int32 × UT) => (x.1, nI i, hp b W cap flo top eva lim rul rc (nI n) rn dn lev dry lo rf x.2 od ra ac)) (fun i x => (x.1 - u_giv x.2 i (u_prt A D x.2 i), u_put x.2 i (u_prt A D x.2 i))) (fun x => (x.1, hp b W cap flo top eva lim rul rc (nI n) rn dn lev dry lo rf x.2 od ra ac)) n (A, us) ?h0 ?hs ?he ?hf]
  · rw [obind2_some]
    rw [xloop_S (fun i (x : Int32 × UT) => (x.1, nI i, hp b W cap flo top eva lim rul rc (nI n) rn dn lev dry lo rf x.2 od ra ac)) (fun x => x.1 ≤ 0) (fun i x => (x.1 - u_giv x.2 i 1, u_put x.2 i 1)) (fun x => hp b W cap flo top eva lim rul rc (nI n) rn dn lev dry lo rf x.2 od ra ac) n (u_prop A D n (A, us)) ?g0 ?gb ?gs ?ge ?gf]
    · rfl
    case g0 => rfl
    case gf => omega
    case gb =>
      intro i u hi hst
      have h5 : i < 5 := by omega
      have h3 : (nI i).toNatClampNeg = i := xnI_nat (by omega)
      have hle : ¬ nI n ≤ nI i := nI_ge hi (by omega)
      have hx := xin_nI h5 (show 5 < 2147483648 by decide)
      simp only [xf3, hg_uc, Option.bind_some, if_neg hle, if_pos hst]
    case gs =>
      intro i u hi hst
      have h5 : i < 5 := by omega
      have h3 : (nI i).toNatClampNeg = i := xnI_nat (by omega)
      have hle : ¬ nI n ≤ nI i := nI_ge hi (by omega)
      have hx := xin_nI h5 (show 5 < 2147483648 by decide)
      simp only [xf3, hg_uc, Option.bind_some, if_neg hle, if_neg hst, hg_rows, hq_user hx, h3, hi_user h5, p_X3_give h5, obind2_some, olet, xnI_s]
      rfl
    case ge =>
      intro u
      simp only [xf3, hg_uc, Option.bind_some, Int32.le_refl, if_true]
  case h0 => rfl
  case hf => omega
  case hs =>
    intro i u hi
    have h5 : i < 5 := by omega
    have h3 : (nI i).toNatClampNeg = i := xnI_nat (by omega)
    have hle : ¬ nI n ≤ nI i := nI_ge hi (by omega)
    have hx := xin_nI h5 (show 5 < 2147483648 by decide)
    simp only [xf3, hg_uc, Option.bind_some, if_neg hle, hg_rows, hq_user hx, h3, hg_usr h5 (show 0 < 4 by decide), hz, hi_user h5, p_X3_give h5, obind2_some, olet, xnI_s]
    rfl
  case he =>
    intro u
    simp only [xf3, hg_uc, Option.bind_some, Int32.le_refl, if_true]
theorem p_rnd (hn : n ≤ 5) (hf : 5 < fu) (x : Int32) : xloop (xf3 fun (v9 : Int32) (v10 : Int32) (h4 : XH) =>
          (xgI h4 (b + 8) 4 1).bind fun v12 =>
          if v12 ≤ v10 then
            some (.inr (v9, h4))
          else
            (xgR h4 (b + 8) 4 0).bind fun v13 =>
            (xaldR h4 v13 5 v10).bind fun v14 =>
            (xgR h4 (b + 8) 4 0).bind fun v15 =>
            (xaldR h4 v15 5 v10).bind fun v16 =>
            (xis h4 v16 3).bind fun v17 =>
            obind1 (f_X3_portion h4 v16) fun v18 =>
            (xis h4 v14 3).bind fun v19 =>
            obind2 (f_X3_give h4 v14 (xmin v9 v18)) fun v20 h6 =>
            olet ((v9 - v20)) fun v21 =>
            olet (v10 + (1 : Int32)) fun v22 =>
            some (.inl (v21, v22, h6))
        ) fu (x, (0 : Int32), hp b W cap flo top eva lim rul rc (nI n) rn dn lev dry lo rf us od ra ac) = some ((u_rnd n (x, us)).1, hp b W cap flo top eva lim rul rc (nI n) rn dn lev dry lo rf (u_rnd n (x, us)).2 od ra ac) := by
  rw [xloop_E (fun i (x : Int32 × UT) => (x.1, nI i, hp b W cap flo top eva lim rul rc (nI n) rn dn lev dry lo rf x.2 od ra ac)) (fun i x => (x.1 - u_giv x.2 i (xmin x.1 (10 * x.2 i 1)), u_put x.2 i (xmin x.1 (10 * x.2 i 1)))) (fun x => (x.1, hp b W cap flo top eva lim rul rc (nI n) rn dn lev dry lo rf x.2 od ra ac)) n (x, us) ?h0 ?hs ?he ?hf]
  · rfl
  case h0 => rfl
  case hf => omega
  case hs =>
    intro i u hi
    have h5 : i < 5 := by omega
    have h3 : (nI i).toNatClampNeg = i := xnI_nat (by omega)
    have hle : ¬ nI n ≤ nI i := nI_ge hi (by omega)
    have hx := xin_nI h5 (show 5 < 2147483648 by decide)
    simp only [xf3, hg_uc, Option.bind_some, if_neg hle, hg_rows, hq_user hx, h3, hi_user h5, p_X3_portion h5, p_X3_give h5, obind1_some, obind2_some, olet, xnI_s]
    rfl
  case he =>
    intro u
    simp only [xf3, hg_uc, Option.bind_some, Int32.le_refl, if_true]
theorem p_rns (hn : n ≤ 5) (hf : 5 < fu) (x q : Int32) : xloop (xf3 fun (v6 : Int32) (v7 : Int32) (h3 : XH) =>
          (xgI h3 (b + 8) 4 1).bind fun v9 =>
          if v9 ≤ v7 then
            some (.inr (v6, h3))
          else
            (xgR h3 (b + 8) 4 0).bind fun v10 =>
            (xaldR h3 v10 5 v7).bind fun v11 =>
            (xgR h3 (b + 8) 4 0).bind fun v12 =>
            (xaldR h3 v12 5 v7).bind fun v13 =>
            (xis h3 v13 3).bind fun v14 =>
            obind1 (f_X3_portion h3 v13) fun v15 =>
            (xis h3 v11 3).bind fun v16 =>
            obind2 (f_X3_give h3 v11 (q * v15)) fun v17 h5 =>
            olet ((v6 - v17)) fun v18 =>
            olet (v7 + (1 : Int32)) fun v19 =>
            some (.inl (v18, v19, h5))
        ) fu (x, (0 : Int32), hp b W cap flo top eva lim rul rc (nI n) rn dn lev dry lo rf us od ra ac) = some (x - (u_rnds q n us).1, hp b W cap flo top eva lim rul rc (nI n) rn dn lev dry lo rf (u_rnds q n us).2 od ra ac) := by
  rw [xloop_E (fun i (x : Int32 × UT) => (x.1, nI i, hp b W cap flo top eva lim rul rc (nI n) rn dn lev dry lo rf x.2 od ra ac)) (fun i x => (x.1 - u_giv x.2 i (q * (10 * x.2 i 1)), u_put x.2 i (q * (10 * x.2 i 1)))) (fun x => (x.1, hp b W cap flo top eva lim rul rc (nI n) rn dn lev dry lo rf x.2 od ra ac)) n (x, us) ?h0 ?hs ?he ?hf]
  · rw [u_rnds_dn]
  case h0 => rfl
  case hf => omega
  case hs =>
    intro i u hi
    have h5 : i < 5 := by omega
    have h3 : (nI i).toNatClampNeg = i := xnI_nat (by omega)
    have hle : ¬ nI n ≤ nI i := nI_ge hi (by omega)
    have hx := xin_nI h5 (show 5 < 2147483648 by decide)
    simp only [xf3, hg_uc, Option.bind_some, if_neg hle, hg_rows, hq_user hx, h3, hi_user h5, p_X3_portion h5, p_X3_give h5, obind1_some, obind2_some, olet, xnI_s]
    rfl
  case he =>
    intro u
    simp only [xf3, hg_uc, Option.bind_some, Int32.le_refl, if_true]
theorem p_X4_shareInRounds (hn : n ≤ 5) (hf : 6 < fu) (A : Int32) : f_X4_shareInRounds fu (hp b W cap flo top eva lim rul rc (nI n) rn dn lev dry lo rf us od ra ac) (b + 8) A = some (hp b W cap flo top eva lim rul rc (nI n) rn dn lev dry lo rf (u_wts n (A, us)).2 od ra ac) := by
  unfold f_X4_shareInRounds
  rw [xloop_S (fun i (x : Int32 × UT) => (x.1, nI i, hp b W cap flo top eva lim rul rc (nI n) rn dn lev dry lo rf x.2 od ra ac)) (fun x => x.1 ≤ 0) (fun _ x => u_pass n x) (fun x => hp b W cap flo top eva lim rul rc (nI n) rn dn lev dry lo rf x.2 od ra ac) (n + 1) (A, us) ?g0 ?gb ?gs ?ge ?gf]
  · rfl
  case g0 => rfl
  case gf => omega
  case gb =>
    intro i u hi hst
    have hle : ¬ nI n < nI i := nI_nlt (by omega) (by omega)
    simp only [xf3, hg_uc, Option.bind_some, if_neg hle, if_pos hst]
  case gs =>
    intro i u hi hst
    have hle : ¬ nI n < nI i := nI_nlt (by omega) (by omega)
    simp only [xf3, hg_uc, Option.bind_some, if_neg hle, if_neg hst, hi_us, p_X4_fullRounds hn (show 5 < fu by omega), obind1_some]
    rw [p_rns hn (show 5 < fu by omega), obind2_some, p_rnd hn (show 5 < fu by omega)]
    simp only [obind2_some, olet, xnI_s]
    rfl
  case ge =>
    intro u
    simp only [xf3, hg_uc, Option.bind_some, if_pos (nI_lt (show n < n + 1 by omega) (show n + 1 < 2 ^ 31 by omega))]
theorem p_ins (hn : n ≤ 5) (i : Nat) (hi : i < n) : ∀ (p : Nat) (o : Nat → Int32) (fu : Nat), p < fu → p ≤ i → u_rng p o → (∀ j, p < j → j < i + 1 → ∃ m, m < 5 ∧ o j = nI m) → xloop (xf2 fun (v3 : Int32) (h3 : XH) =>
        if v3 ≤ (0 : Int32) then
          some (.inr (v3, h3))
        else
          (xgR h3 (b + 8) 4 0).bind fun v5 =>
          (xgR h3 (b + 8) 4 2).bind fun v6 =>
          (xald h3 v6 0 (v3 - (1 : Int32))).bind fun v7 =>
          (xaldR h3 v5 5 v7).bind fun v8 =>
          (xgI h3 v8 3 0).bind fun v9 =>
          (xgR h3 (b + 8) 4 0).bind fun v10 =>
          (xaldR h3 v10 5 (nI i)).bind fun v11 =>
          (xgI h3 v11 3 0).bind fun v12 =>
          if v9 ≤ v12 then
            some (.inr (v3, h3))
          else
            (xgR h3 (b + 8) 4 2).bind fun v13 =>
            (xgR h3 (b + 8) 4 2).bind fun v14 =>
            (xald h3 v14 0 (v3 - (1 : Int32))).bind fun v15 =>
            (xast h3 v13 0 v3 v15).bind fun h5 =>
            olet (v3 + (-1 : Int32)) fun v16 =>
            some (.inl (v16, h5))
      ) fu (nI p, hp b W cap flo top eva lim rul rc (nI n) rn dn lev dry lo rf us o ra ac) = some (nI (u_ins (fun i => us i 0) (us i 0) p o).1, hp b W cap flo top eva lim rul rc (nI n) rn dn lev dry lo rf us (u_ins (fun i => us i 0) (us i 0) p o).2 ra ac) := by
  intro p
  induction p with
  | zero =>
    intro o fu hf _ _ _
    obtain ⟨f, rfl⟩ : ∃ f, fu = f + 1 := ⟨fu - 1, by omega⟩
    unfold xloop
    simp only [xf2, xnI_z, Int32.le_refl, if_true]
    rfl
  | succ p ih =>
    intro o fu hf hpi h1 h2
    obtain ⟨f, rfl⟩ : ∃ f, fu = f + 1 := ⟨fu - 1, by omega⟩
    obtain ⟨m, hm, em⟩ := h1 p (by omega)
    have h5 : i < 5 := by omega
    have hz : ¬ nI (p + 1) ≤ (0 : Int32) := by rw [← xnI_z]; exact nI_ge (by omega) (by omega)
    have hs : nI (p + 1) - (1 : Int32) = nI p := by rw [← xnI_s]; exact Int32.add_sub_cancel _ _
    have hs2 : nI (p + 1) + (-1 : Int32) = nI p := by rw [← xnI_s, Int32.add_assoc, show (1 : Int32) + (-1) = 0 from by decide, Int32.add_zero]
    have hx := xin_nI (show p < 5 by omega) (show 5 < 2147483648 by decide)
    have hx1 := xin_nI (show p + 1 < 5 by omega) (show 5 < 2147483648 by decide)
    have h3 : (nI p).toNatClampNeg = p := xnI_nat (by omega)
    have h31 : (nI (p + 1)).toNatClampNeg = p + 1 := xnI_nat (by omega)
    have h3m : (nI m).toNatClampNeg = m := xnI_nat (by omega)
    have h3i : (nI i).toNatClampNeg = i := xnI_nat (by omega)
    unfold xloop u_ins
    simp only [xf2, if_neg hz, hg_rows, hg_order, Option.bind_some, hs, hl_od hx, h3, em, hq_user (xin_nI hm (show 5 < 2147483648 by decide)), h3m, hg_usr hm (show 0 < 4 by decide), hq_user (xin_nI h5 (show 5 < 2147483648 by decide)), h3i, hg_usr h5 (show 0 < 4 by decide)]
    by_cases hq : us m 0 ≤ us i 0
    · simp only [if_pos hq]
    · simp only [if_neg hq, ht_od hx1, Option.bind_some, h31, olet, hs2]
      exact ih (xup o (p + 1) (nI m)) f (by omega) (by omega) (fun j hj => by rw [xup_ne _ _ (by omega)]; exact h1 j (by omega)) (fun j g1 g2 => by
        by_cases hjp : j = p + 1
        · subst hjp; rw [xup_self]; exact ⟨m, hm, rfl⟩
        · rw [xup_ne _ _ hjp]; exact h2 j (by omega) g2)
theorem u_rng_srt (d : Nat → Int32) (o : Nat → Int32) : ∀ k, k ≤ 5 → u_rng k (u_srt d k o) := by
  intro k hk
  refine it_inv (fun k (o : Nat → Int32) => u_rng k o) _ k (fun j hj => absurd hj (Nat.not_lt_zero _)) (fun i o hi h j hj => ?_)
  by_cases hj2 : j = (u_ins d (d i) i o).1
  · rw [hj2, xup_self]; exact ⟨i, by omega, rfl⟩
  · rw [xup_ne _ _ hj2]; exact u_rng_ins d (d i) i (i + 1) o (by omega) h (fun j g1 g2 => by omega) j hj hj2
theorem p_X4_orderByDemand (hn : n ≤ 5) (hf : 5 < fu) : f_X4_orderByDemand fu (hp b W cap flo top eva lim rul rc (nI n) rn dn lev dry lo rf us od ra ac) (b + 8) = some (hp b W cap flo top eva lim rul rc (nI n) rn dn lev dry lo rf us (u_srt (fun i => us i 0) n od) ra ac) := by
  unfold f_X4_orderByDemand
  rw [xloop_I (fun k (o : Nat → Int32) => u_rng k o) (fun i o => (nI i, hp b W cap flo top eva lim rul rc (nI n) rn dn lev dry lo rf us o ra ac)) (fun i o => xup (u_ins (fun i => us i 0) (us i 0) i o).2 (u_ins (fun i => us i 0) (us i 0) i o).1 (nI i)) (fun o => hp b W cap flo top eva lim rul rc (nI n) rn dn lev dry lo rf us o ra ac) n od ?h0 ?hi ?hs ?he ?hf]
  · rfl
  case h0 => rfl
  case hi => exact fun j hj => absurd hj (Nat.not_lt_zero _)
  case hf => omega
  case hs =>
    intro i o hi hr
    have h5 : i < 5 := by omega
    have h3 : (nI i).toNatClampNeg = i := xnI_nat (by omega)
    have hle : ¬ nI n ≤ nI i := nI_ge hi (by omega)
    have hx := xin_nI h5 (show 5 < 2147483648 by decide)
    have hle1 := u_ins_le (fun i => us i 0) (us i 0) i o
    refine ⟨?_, ?_⟩
    · simp only [xf2, hg_uc, Option.bind_some, if_neg hle]
      rw [p_ins hn i hi i o fu (by omega) (Nat.le_refl _) hr (fun j g1 g2 => by omega)]
      simp only [obind2_some, hg_order, Option.bind_some, ht_od (xin_nI (show (u_ins (fun i => us i 0) (us i 0) i o).1 < 5 by omega) (show 5 < 2147483648 by decide)), xnI_nat (show (u_ins (fun i => us i 0) (us i 0) i o).1 < 2147483648 by omega), olet, xnI_s]
    · intro j hj
      by_cases hj2 : j = (u_ins (fun i => us i 0) (us i 0) i o).1
      · rw [hj2, xup_self]; exact ⟨i, by omega, rfl⟩
      · rw [xup_ne _ _ hj2]; exact u_rng_ins (fun i => us i 0) (us i 0) i (i + 1) o (by omega) hr (fun j g1 g2 => by omega) j hj hj2
  case he =>
    intro u _
    simp only [xf2, hg_uc, Option.bind_some, Int32.le_refl, if_true]
/-- the smallest first: the order laid, then served -/
theorem p_bySmall (hn : n ≤ 5) (hf : 5 < fu) (A : Int32) : (obind1 (f_X4_orderByDemand fu (hp b W cap flo top eva lim rul rc (nI n) rn dn lev dry lo rf us od ra ac) (b + 8)) fun h6 => (xis h6 (b + 8) 4).bind fun _ => obind1 (f_X4_serveOrder fu h6 (b + 8) A) fun h7 => some h7) = some (hp b W cap flo top eva lim rul rc (nI n) rn dn lev dry lo rf (u_ord (fun i => (u_srt (fun i => us i 0) n od i).toNatClampNeg) n (A, us)).2 (u_srt (fun i => us i 0) n od) ra ac) := by
  have hr := u_rng_srt (fun i => us i 0) od n hn
  rw [p_X4_orderByDemand hn hf, obind1_some, hi_us, Option.bind_some, p_X4_serveOrder hn hf (fun i => (u_srt (fun i => us i 0) n od i).toNatClampNeg) (fun i hi => by
      obtain ⟨m, hm, em⟩ := hr i hi
      have e3 : (nI m).toNatClampNeg = m := xnI_nat (by omega)
      rw [em, e3]
      exact ⟨hm, rfl⟩), obind1_some]
end PSH

