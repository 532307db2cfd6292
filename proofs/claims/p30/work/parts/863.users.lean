/-! The users of a State: what their methods do, as functions of the rows. -/
abbrev UT : Type := Nat → Nat → Int32
def u_clr (n : Nat) (u : UT) : UT := it (fun i u => xup u i (xup (xup (u i) 2 0) 3 0)) u n
def u_clr2 (n : Nat) (u : UT) : UT := it (fun i u => xup u i (xup (u i) 2 0)) u n
def u_dem (n : Nat) (u : UT) : Int32 := isum (fun i => u i 0) n
/-- what user i gets of x, the rows behind it -/
def u_giv (u : UT) (i : Nat) (x : Int32) : Int32 := xmin x (u i 0 - u i 2)
def u_put (u : UT) (i : Nat) (x : Int32) : UT := xup u i (xup (u i) 2 (u i 2 + u_giv u i x))
/-- one after the other, by an order -/
def u_ord (o : Nat → Nat) (n : Nat) (x : Int32 × UT) : Int32 × UT := it (fun i x => (x.1 - u_giv x.2 (o i) x.1, u_put x.2 (o i) x.1)) x n
/-- parts of A by the demands, D their sum -/
def u_prt (A D : Int32) (u : UT) (i : Nat) : Int32 := Int64.toInt32 (Int32.toInt64 (u i 0) * Int32.toInt64 A / Int32.toInt64 D)
def u_prop (A D : Int32) (n : Nat) (x : Int32 × UT) : Int32 × UT := it (fun i x => (x.1 - u_giv x.2 i (u_prt A D x.2 i), u_put x.2 i (u_prt A D x.2 i))) x n
def u_por (n : Nat) (u : UT) : Int32 := it (fun i a => if u i 0 - u i 2 ≤ 0 then a else a + 10 * u i 1) 0 n
def u_full (n : Nat) (u : UT) (left : Int32) : Int32 := if u_por n u ≤ 0 then 0 else left / u_por n u
def u_rnds (k : Int32) (n : Nat) (u : UT) : Int32 × UT := it (fun i x => (x.1 + u_giv x.2 i (k * (10 * x.2 i 1)), u_put x.2 i (k * (10 * x.2 i 1)))) (0, u) n
def u_rnd (n : Nat) (x : Int32 × UT) : Int32 × UT := it (fun i x => (x.1 - u_giv x.2 i (xmin x.1 (10 * x.2 i 1)), u_put x.2 i (xmin x.1 (10 * x.2 i 1)))) x n
def u_got (n : Nat) (u : UT) : Int32 × UT := it (fun i x => (x.1 + x.2 i 2, xup x.2 i (xup (x.2 i) 3 (x.2 i 3 + x.2 i 2)))) (0, u) n
/-- the order after a share by order -/
def u_od1 (n : Nat) (od : Nat → Int32) : Nat → Int32 := it (fun i o => xup o i (nI i)) od n
section PU
variable {b : Nat} {W : XH} {cap flo top eva lim rul rc uc rn dn lev dry : Int32} {lo : Int64} {rf us : Nat → Nat → Int32} {od ra ac : Nat → Int32}
variable {fu n : Nat}
theorem p_X4_clearAmounts (hn : n ≤ 5) (hf : 5 < fu) : f_X4_clearAmounts fu (hp b W cap flo top eva lim rul rc (nI n) rn dn lev dry lo rf us od ra ac) (b + 8) = some (hp b W cap flo top eva lim rul rc (nI n) rn dn lev dry lo rf (u_clr n us) od ra ac) := by
  unfold f_X4_clearAmounts
  rw [xloop_E (fun i u => (nI i, hp b W cap flo top eva lim rul rc (nI n) rn dn lev dry lo rf u od ra ac)) (fun i u => xup u i (xup (xup (u i) 2 0) 3 0)) (fun u => hp b W cap flo top eva lim rul rc (nI n) rn dn lev dry lo rf u od ra ac) n us ?h0 ?hs ?he ?hf]
  · rfl
  case h0 => rfl
  case hf => omega
  case hs =>
    intro i u hi
    have h5 : i < 5 := by omega
    have h3 : (nI i).toNatClampNeg = i := xnI_nat (by omega)
    have hle : ¬ nI n ≤ nI i := nI_ge hi (by omega)
    have hx := xin_nI h5 (show 5 < 2147483648 by decide)
    simp only [xf2, hg_uc, Option.bind_some, if_neg hle, hg_rows, hq_user hx, h3, hi_user h5, p_X3_clearAmounts h5, obind1_some, olet, xnI_s]
  case he =>
    intro u
    simp only [xf2, hg_uc, Option.bind_some, Int32.le_refl, if_true]
theorem p_X4_demandInAll (hn : n ≤ 5) (hf : 5 < fu) : f_X4_demandInAll fu (hp b W cap flo top eva lim rul rc (nI n) rn dn lev dry lo rf us od ra ac) (b + 8) = some (u_dem n us) := by
  unfold f_X4_demandInAll
  rw [xloop_E (fun i a => (a, nI i)) (fun i a => a + us i 0) (fun a => a) n 0 ?h0 ?hs ?he ?hf]
  · rw [isum_it]; rfl
  case h0 => rfl
  case hf => omega
  case hs =>
    intro i u hi
    have h5 : i < 5 := by omega
    have h3 : (nI i).toNatClampNeg = i := xnI_nat (by omega)
    have hle : ¬ nI n ≤ nI i := nI_ge hi (by omega)
    have hx := xin_nI h5 (show 5 < 2147483648 by decide)
    simp only [xf2, hg_uc, Option.bind_some, if_neg hle, hg_rows, hq_user hx, h3, hg_usr h5 (show 0 < 4 by decide), olet, xnI_s]
  case he =>
    intro u
    simp only [xf2, hg_uc, Option.bind_some, Int32.le_refl, if_true]
theorem p_X4_greatestLack (hn : n ≤ 5) (hf : 5 < fu) (d : Int32) : f_X4_greatestLack fu (hp b W cap flo top eva lim rul rc (nI n) rn dn lev dry lo rf us od ra ac) (b + 8) d = some (it (fun i a => xmax a (us i 0 * d - us i 3)) 0 n) := by
  unfold f_X4_greatestLack
  rw [xloop_E (fun i a => (a, nI i)) (fun i a => xmax a (us i 0 * d - us i 3)) (fun a => a) n 0 ?h0 ?hs ?he ?hf]
  · rfl
  case h0 => rfl
  case hf => omega
  case hs =>
    intro i u hi
    have h5 : i < 5 := by omega
    have h3 : (nI i).toNatClampNeg = i := xnI_nat (by omega)
    have hle : ¬ nI n ≤ nI i := nI_ge hi (by omega)
    have hx := xin_nI h5 (show 5 < 2147483648 by decide)
    simp only [xf2, hg_uc, Option.bind_some, if_neg hle, hg_rows, hq_user hx, h3, hg_usr h5 (show 0 < 4 by decide), hg_usr h5 (show 3 < 4 by decide), olet, xnI_s]
  case he =>
    intro u
    simp only [xf2, hg_uc, Option.bind_some, Int32.le_refl, if_true]
theorem p_X4_serveOrder (hn : n ≤ 5) (hf : 5 < fu) (o : Nat → Nat) (ho : ∀ i, i < n → o i < 5 ∧ od i = nI (o i)) (x : Int32) : f_X4_serveOrder fu (hp b W cap flo top eva lim rul rc (nI n) rn dn lev dry lo rf us od ra ac) (b + 8) x = some (hp b W cap flo top eva lim rul rc (nI n) rn dn lev dry lo rf (u_ord o n (x, us)).2 od ra ac) := by
  unfold f_X4_serveOrder
  rw [xloop_E (fun i (x : Int32 × UT) => (x.1, nI i, hp b W cap flo top eva lim rul rc (nI n) rn dn lev dry lo rf x.2 od ra ac)) (fun i x => (x.1 - u_giv x.2 (o i) x.1, u_put x.2 (o i) x.1)) (fun x => hp b W cap flo top eva lim rul rc (nI n) rn dn lev dry lo rf x.2 od ra ac) n (x, us) ?h0 ?hs ?he ?hf]
  · rfl
  case h0 => rfl
  case hf => omega
  case hs =>
    intro i u hi
    have h5 : i < 5 := by omega
    have h3 : (nI i).toNatClampNeg = i := xnI_nat (by omega)
    have hle : ¬ nI n ≤ nI i := nI_ge hi (by omega)
    have hx := xin_nI h5 (show 5 < 2147483648 by decide)
    obtain ⟨o1, o2⟩ := ho i hi
    have o3 : (nI (o i)).toNatClampNeg = o i := xnI_nat (by omega)
    simp only [xf3, hg_uc, Option.bind_some, if_neg hle, hg_rows, hg_order, hl_od hx, h3, o2, hq_user (xin_nI o1 (show 5 < 2147483648 by decide)), o3, hi_user o1, p_X3_give o1, obind2_some, olet, xnI_s]
    rfl
  case he =>
    intro u
    simp only [xf3, hg_uc, Option.bind_some, Int32.le_refl, if_true]
theorem p_X4_orderByNumber (hn : n ≤ 5) (hf : 5 < fu) : f_X4_orderByNumber fu (hp b W cap flo top eva lim rul rc (nI n) rn dn lev dry lo rf us od ra ac) (b + 8) = some (hp b W cap flo top eva lim rul rc (nI n) rn dn lev dry lo rf us (u_od1 n od) ra ac) := by
  unfold f_X4_orderByNumber
  rw [xloop_E (fun i o => (nI i, hp b W cap flo top eva lim rul rc (nI n) rn dn lev dry lo rf us o ra ac)) (fun i o => xup o i (nI i)) (fun o => hp b W cap flo top eva lim rul rc (nI n) rn dn lev dry lo rf us o ra ac) n od ?h0 ?hs ?he ?hf]
  · rfl
  case h0 => rfl
  case hf => omega
  case hs =>
    intro i u hi
    have h5 : i < 5 := by omega
    have h3 : (nI i).toNatClampNeg = i := xnI_nat (by omega)
    have hle : ¬ nI n ≤ nI i := nI_ge hi (by omega)
    have hx := xin_nI h5 (show 5 < 2147483648 by decide)
    simp only [xf2, hg_uc, Option.bind_some, if_neg hle, hg_order, ht_od hx, h3, olet, xnI_s]
  case he =>
    intro u
    simp only [xf2, hg_uc, Option.bind_some, Int32.le_refl, if_true]
theorem u_od1_at : ∀ i, i < n → u_od1 n od i = nI i := by
  refine it_inv (fun k (o : Nat → Int32) => ∀ i, i < k → o i = nI i) _ n (fun i hi => absurd hi (Nat.not_lt_zero _)) (fun k o _ h i hi => ?_)
  by_cases hik : i = k
  · subst hik; exact xup_self _ _ _
  · rw [xup_ne _ _ hik]; exact h i (by omega)
/-- by number: the order laid, then served -/
theorem p_inOrder (hn : n ≤ 5) (hf : 5 < fu) (x : Int32) : (obind1 (f_X4_orderByNumber fu (hp b W cap flo top eva lim rul rc (nI n) rn dn lev dry lo rf us od ra ac) (b + 8)) fun h3 => (xis h3 (b + 8) 4).bind fun _ => obind1 (f_X4_serveOrder fu h3 (b + 8) x) fun h4 => some h4) = some (hp b W cap flo top eva lim rul rc (nI n) rn dn lev dry lo rf (u_ord (fun i => i) n (x, us)).2 (u_od1 n od) ra ac) := by
  rw [p_X4_orderByNumber hn hf, obind1_some, hi_us, Option.bind_some, p_X4_serveOrder hn hf (fun i => i) (fun i hi => ⟨by omega, u_od1_at i hi⟩), obind1_some]
theorem p_X4_fullRounds (hn : n ≤ 5) (hf : 5 < fu) (x : Int32) : f_X4_fullRounds fu (hp b W cap flo top eva lim rul rc (nI n) rn dn lev dry lo rf us od ra ac) (b + 8) x = some (u_full n us x) := by
  unfold f_X4_fullRounds
  rw [xloop_E (fun i a => (a, nI i)) (fun i a => if us i 0 - us i 2 ≤ 0 then a else a + 10 * us i 1) (fun a => a) n 0 ?h0 ?hs ?he ?hf]
  · simp only [obind1_some]
    show obind1 (if u_por n us ≤ 0 then _ else _) _ = _
    unfold u_full
    by_cases hq : u_por n us ≤ 0
    · rw [if_pos hq, if_pos hq]; rfl
    · have hz : ¬ u_por n us = 0 := fun z => hq (by rw [z]; exact Int32.le_refl _)
      rw [if_neg hq, if_neg hq]
      show obind1 ((xnz (u_por n us)).bind fun _ => some (x / u_por n us)) _ = _
      rw [show xnz (u_por n us) = some () from if_neg hz]
      rfl
  case h0 => rfl
  case hf => omega
  case hs =>
    intro i u hi
    have h5 : i < 5 := by omega
    have h3 : (nI i).toNatClampNeg = i := xnI_nat (by omega)
    have hle : ¬ nI n ≤ nI i := nI_ge hi (by omega)
    have hx := xin_nI h5 (show 5 < 2147483648 by decide)
    simp only [xf2, hg_uc, Option.bind_some, if_neg hle, hg_rows, hq_user hx, h3, hi_user h5, p_X3_lack h5, p_X3_portion h5, obind1_some, olet, xnI_s]
    split <;> rfl
  case he =>
    intro u
    simp only [xf2, hg_uc, Option.bind_some, Int32.le_refl, if_true]
theorem isub_add (a b c : Int32) : a - b - c = a - (b + c) := by
  rw [Int32.sub_eq_add_neg a (b + c), Int32.neg_add, Int32.sub_eq_add_neg (-b) c, ← Int32.add_assoc, ← Int32.sub_eq_add_neg, ← Int32.sub_eq_add_neg]
/-- the rounds at once, what is left counted down -/
theorem u_rnds_dn (k : Int32) (n : Nat) (u : UT) (x : Int32) : it (fun i (x : Int32 × UT) => (x.1 - u_giv x.2 i (k * (10 * x.2 i 1)), u_put x.2 i (k * (10 * x.2 i 1)))) (x, u) n = (x - (u_rnds k n u).1, (u_rnds k n u).2) := by
  induction n with
  | zero =>
    show (x, u) = (x - 0, u)
    rw [Int32.sub_zero]
  | succ n ih =>
    rw [it_s, ih]
    exact Prod.ext (isub_add _ _ _) rfl
end PU

