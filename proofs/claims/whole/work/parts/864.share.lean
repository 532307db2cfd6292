/-! The rules. -/
def u_ones (n : Nat) (x : Int32 × UT) : Int32 × UT := it (fun i x => if x.1 ≤ 0 then x else (x.1 - u_giv x.2 i 1, u_put x.2 i 1)) x n
def u_pass (n : Nat) (x : Int32 × UT) : Int32 × UT := u_rnd n (x.1 - (u_rnds (u_full n x.2 x.1) n x.2).1, (u_rnds (u_full n x.2 x.1) n x.2).2)
def u_wts (n : Nat) (x : Int32 × UT) : Int32 × UT := it (fun _ x => if x.1 ≤ 0 then x else u_pass n x) x (n + 1)
/-- where the new one goes in, and the row moved up -/
def u_ins (d : Nat → Int32) (di : Int32) : Nat → (Nat → Int32) → Nat × (Nat → Int32)
  | 0, o => (0, o)
  | p + 1, o => if d (o p).toNatClampNeg ≤ di then (p + 1, o) else u_ins d di p (xup o (p + 1) (o p))
def u_srt (d : Nat → Int32) (n : Nat) (o : Nat → Int32) : Nat → Int32 := it (fun i o => xup (u_ins d (d i) i o).2 (u_ins d (d i) i o).1 (nI i)) o n
theorem u_ins_le (d : Nat → Int32) (di : Int32) : ∀ (p : Nat) (o : Nat → Int32), (u_ins d di p o).1 ≤ p := by
  intro p
  induction p with
  | zero => intro o; exact Nat.le_refl _
  | succ p ih =>
    intro o
    unfold u_ins
    split
    · exact Nat.le_refl _
    · exact Nat.le_trans (ih _) (by omega)
def u_rng (k : Nat) (o : Nat → Int32) : Prop := ∀ j, j < k → ∃ m, m < 5 ∧ o j = nI m
theorem u_rng_ins (d : Nat → Int32) (di : Int32) : ∀ (p : Nat) (k : Nat) (o : Nat → Int32), p < k → u_rng p o → (∀ j, p < j → j < k → ∃ m, m < 5 ∧ o j = nI m) → ∀ j, j < k → j ≠ (u_ins d di p o).1 → ∃ m, m < 5 ∧ (u_ins d di p o).2 j = nI m := by
  intro p
  induction p with
  | zero =>
    intro k o _ _ h2 j hj hne
    exact h2 j (by unfold u_ins at hne; simp at hne; omega) hj
  | succ p ih =>
    intro k o hpk h1 h2 j hj hne
    unfold u_ins at hne ⊢
    split
    · next hq =>
      rw [if_pos hq] at hne
      simp only at hne ⊢
      by_cases hjp : j < p + 1
      · exact h1 j hjp
      · exact h2 j (by omega) hj
    · next hq =>
      rw [if_neg hq] at hne
      refine ih k _ (by omega) (fun j hj => ?_) (fun j h3 h4 => ?_) j hj hne
      · rw [xup_ne _ _ (by omega)]; exact h1 j (by omega)
      · by_cases hjp : j = p + 1
        · subst hjp; rw [xup_self]; exact h1 p (by omega)
        · rw [xup_ne _ _ hjp]; exact h2 j (by omega) h4
section PSH
variable {b : Nat} {W : XH} {cap flo top eva lim rul rc uc rn dn lev dry : Int32} {lo : Int64} {rf us : Nat → Nat → Int32} {od ra ac : Nat → Int32}
variable {fu n : Nat}
theorem p_X4_shareByDemand (hn : n ≤ 5) (hf : 5 < fu) (A D : Int32) (hD : 0 < D) : f_X4_shareByDemand fu (hp b W cap flo top eva lim rul rc (nI n) rn dn lev dry lo rf us od ra ac) (b + 8) A D = some (hp b W cap flo top eva lim rul rc (nI n) rn dn lev dry lo rf (u_ones n (u_prop A D n (A, us))).2 od ra ac) := by
  have hz : xnzL (Int32.toInt64 D) = some () := by
    refine if_neg (fun z => ?_)
    have h1 : (Int32.toInt64 D).toInt = 0 := by rw [z]; rfl
    rw [Int32.toInt_toInt64] at h1
    have h2 := Int32.lt_iff_toInt_lt.mp hD
    rw [h1] at h2
    exact absurd h2 (by decide)
  unfold f_X4_shareByDemand
  rw [if_pos hD]
  rw [xloop_E (fun i (x : Int32 × UT) => (x.1, nI i, hp b W cap flo top eva lim rul rc (nI n) rn dn lev dry lo rf x.2 od ra ac)) (fun i x => (x.1 - u_giv x.2 i (u_prt A D x.2 i), u_put x.2 i (u_prt A D x.2 i))) (fun x => (x.1, hp b W cap flo top eva lim rul rc (nI n) rn dn lev dry lo rf x.2 od ra ac)) n (A, us) ?h0 ?hs ?he ?hf]
  · rw [obind2_some]
    rw [xloop_S (fun i (x : Int32 × UT) => (x.1, nI i, hp b W cap flo top eva lim rul rc (nI n) rn dn lev dry lo rf x.2 od ra ac)) (fun x => x.1 ≤ 0) (fun i x => (x.1 - u_giv x.2 i 1, u_put x.2 i 1)) (fun x => hp b W cap flo top eva lim rul rc (nI n) rn dn lev dry lo rf x.2 od ra ac) n (u_prop A D n (A, us)) ?g0 ?gb ?gs ?ge ?gf]
    · rfl
    case g0 => rfl
    case gf => omega
    case gb =>
      intro i u hi hst
      have h5 : i < 5 := by omega
      have h3 : (nI i).toNatClampNeg = i := xnI_nat (by omega)
      have hle : ¬ nI n ≤ nI i := nI_ge hi (by omega)
      have hx := xin_nI h5 (show 5 < 2147483648 by decide)
      simp only [xf3, hg_uc, Option.bind_some, if_neg hle, if_pos hst]
    case gs =>
      intro i u hi hst
      have h5 : i < 5 := by omega
      have h3 : (nI i).toNatClampNeg = i := xnI_nat (by omega)
      have hle : ¬ nI n ≤ nI i := nI_ge hi (by omega)
      have hx := xin_nI h5 (show 5 < 2147483648 by decide)
      simp only [xf3, hg_uc, Option.bind_some, if_neg hle, if_neg hst, hg_rows, hq_user hx, h3, hi_user h5, p_X3_give h5, obind2_some, olet, xnI_s]
      rfl
    case ge =>
      intro u
      simp only [xf3, hg_uc, Option.bind_some, Int32.le_refl, if_true]
  case h0 => rfl
  case hf => omega
  case hs =>
    intro i u hi
    have h5 : i < 5 := by omega
    have h3 : (nI i).toNatClampNeg = i := xnI_nat (by omega)
    have hle : ¬ nI n ≤ nI i := nI_ge hi (by omega)
    have hx := xin_nI h5 (show 5 < 2147483648 by decide)
    simp only [xf3, hg_uc, Option.bind_some, if_neg hle, hg_rows, hq_user hx, h3, hg_usr h5 (show 0 < 4 by decide), hz, hi_user h5, p_X3_give h5, obind2_some, olet, xnI_s]
    rfl
  case he =>
    intro u
    simp only [xf3, hg_uc, Option.bind_some, Int32.le_refl, if_true]
theorem p_rnd (hn : n ≤ 5) (hf : 5 < fu) (x : Int32) : xloop (xf3 fun (v9 : Int32) (v10 : Int32) (h4 : XH) =>
          (xgI h4 (b + 8) 4 1).bind fun v12 =>
          if v12 ≤ v10 then
            some (.inr (v9, h4))
          else
            (xgR h4 (b + 8) 4 0).bind fun v13 =>
            (xaldR h4 v13 5 v10).bind fun v14 =>
            (xgR h4 (b + 8) 4 0).bind fun v15 =>
            (xaldR h4 v15 5 v10).bind fun v16 =>
            (xis h4 v16 3).bind fun v17 =>
            obind1 (f_X3_portion h4 v16) fun v18 =>
            (xis h4 v14 3).bind fun v19 =>
            obind2 (f_X3_give h4 v14 (xmin v9 v18)) fun v20 h6 =>
            olet ((v9 - v20)) fun v21 =>
            olet (v10 + (1 : Int32)) fun v22 =>
            some (.inl (v21, v22, h6))
        ) fu (x, (0 : Int32), hp b W cap flo top eva lim rul rc (nI n) rn dn lev dry lo rf us od ra ac) = some ((u_rnd n (x, us)).1, hp b W cap flo top eva lim rul rc (nI n) rn dn lev dry lo rf (u_rnd n (x, us)).2 od ra ac) := by
  rw [xloop_E (fun i (x : Int32 × UT) => (x.1, nI i, hp b W cap flo top eva lim rul rc (nI n) rn dn lev dry lo rf x.2 od ra ac)) (fun i x => (x.1 - u_giv x.2 i (xmin x.1 (10 * x.2 i 1)), u_put x.2 i (xmin x.1 (10 * x.2 i 1)))) (fun x => (x.1, hp b W cap flo top eva lim rul rc (nI n) rn dn lev dry lo rf x.2 od ra ac)) n (x, us) ?h0 ?hs ?he ?hf]
  · rfl
  case h0 => rfl
  case hf => omega
  case hs =>
    intro i u hi
    have h5 : i < 5 := by omega
    have h3 : (nI i).toNatClampNeg = i := xnI_nat (by omega)
    have hle : ¬ nI n ≤ nI i := nI_ge hi (by omega)
    have hx := xin_nI h5 (show 5 < 2147483648 by decide)
    simp only [xf3, hg_uc, Option.bind_some, if_neg hle, hg_rows, hq_user hx, h3, hi_user h5, p_X3_portion h5, p_X3_give h5, obind1_some, obind2_some, olet, xnI_s]
    rfl
  case he =>
    intro u
    simp only [xf3, hg_uc, Option.bind_some, Int32.le_refl, if_true]
theorem p_X4_shareInRounds (hn : n ≤ 5) (hf : 6 < fu) (A : Int32) : f_X4_shareInRounds fu (hp b W cap flo top eva lim rul rc (nI n) rn dn lev dry lo rf us od ra ac) (b + 8) A = some (hp b W cap flo top eva lim rul rc (nI n) rn dn lev dry lo rf (u_wts n (A, us)).2 od ra ac) := by
  unfold f_X4_shareInRounds
  rw [xloop_S (fun i (x : Int32 × UT) => (x.1, nI i, hp b W cap flo top eva lim rul rc (nI n) rn dn lev dry lo rf x.2 od ra ac)) (fun x => x.1 ≤ 0) (fun _ x => u_pass n x) (fun x => hp b W cap flo top eva lim rul rc (nI n) rn dn lev dry lo rf x.2 od ra ac) (n + 1) (A, us) ?g0 ?gb ?gs ?ge ?gf]
  · rfl
  case g0 => rfl
  case gf => omega
  case gb =>
    intro i u hi hst
    have hle : ¬ nI n < nI i := nI_nlt (by omega) (by omega)
    simp only [xf3, hg_uc, Option.bind_some, if_neg hle, if_pos hst]
  case gs =>
    intro i u hi hst
    have hle : ¬ nI n < nI i := nI_nlt (by omega) (by omega)
    simp only [xf3, hg_uc, Option.bind_some, if_neg hle, if_neg hst, hi_us, p_X4_fullRounds hn (show 5 < fu by omega), p_X4_giveRounds hn (show 5 < fu by omega), obind1_some, obind2_some, olet, p_rnd hn (show 5 < fu by omega), xnI_s]
    rfl
  case ge =>
    intro u
    simp only [xf3, hg_uc, Option.bind_some, if_pos (nI_lt (show n < n + 1 by omega) (show n + 1 < 2 ^ 31 by omega))]
end PSH
