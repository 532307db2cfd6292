/-! The class reads an item, and all items. -/
def nx (L : Nat) (by_ : Nat → Int32) (q : Nat) (ch : Int32) : Bool := decide (q < L) && decide (by_ q = ch)
theorem nx_iff {L : Nat} {by_ : Nat → Int32} {q : Nat} {ch : Int32} : nx L by_ q ch = true ↔ q < L ∧ by_ q = ch := by simp [nx]
def item (L : Nat) (by_ : Nat → Int32) (p : Nat) : Nat ⊕ (Nat × Int32 × Int32) := match rn_ L by_ p 3 0 200 with
  | .inl q => .inl q
  | .inr (q, v) => if nx L by_ q 120 then (match rn_ L by_ (q + 1) 2 1 99 with
    | .inl q2 => .inl q2
    | .inr (q3, d) => .inr (q3, v, d)) else .inr (q, v, 1)
theorem rn_inr {L : Nat} {by_ : Nat → Int32} {p m : Nat} {lo hi : Int32} {x : Nat × Int32} (h : rn_ L by_ p m lo hi = .inr x) : x = rd L by_ p m ∧ p < (rd L by_ p m).1 ∧ lo ≤ x.2 ∧ x.2 ≤ hi := by
  unfold rn_ at h
  split at h
  · cases h
  · split at h
    · cases h
    · next hne =>
      split at h
      · cases h
      · next hlo =>
        split at h
        · next hhi =>
          cases h
          have hge : p ≤ (rd L by_ p m).1 := by
            induction m with
            | zero => exact Nat.le_refl _
            | succ m ih =>
              by_cases c : dg L by_ (rd L by_ p m).1 = true
              · rw [rd_step c]
                simp only
                have : ∀ m, p ≤ (rd L by_ p m).1 := by
                  intro m
                  induction m with
                  | zero => exact Nat.le_refl _
                  | succ m ih2 =>
                    by_cases c2 : dg L by_ (rd L by_ p m).1 = true
                    · rw [rd_step c2]; simp only; omega
                    · rw [rd_stop L by_ p m c2 1]; exact ih2
                have := this m
                omega
              · have : ∀ m, p ≤ (rd L by_ p m).1 := by
                  intro m
                  induction m with
                  | zero => exact Nat.le_refl _
                  | succ m ih2 =>
                    by_cases c2 : dg L by_ (rd L by_ p m).1 = true
                    · rw [rd_step c2]; simp only; omega
                    · rw [rd_stop L by_ p m c2 1]; exact ih2
                exact this _
          exact ⟨rfl, by omega, Int32.not_lt.mp hlo, hhi⟩
        · cases h
section PSG
variable {b : Nat} {W : XH} {tl fc pa nu : Int32} {by_ fo : Nat → Int32}
variable {fu L p c most : Nat}
theorem p_X0_isNext (hL : L ≤ 120) (hp : p ≤ L) (ch : Int32) : f_X0_isNext (ht b W (nI L) fc (nI p) nu by_ fo) b ch = some (xb01 (nx L by_ p ch = true)) := by
  unfold f_X0_isNext
  simp only [tg_pa, tg_tl, Option.bind_some, oletk]
  have h3 : (nI p).toNatClampNeg = p := xnI_nat (by omega)
  by_cases h : p < L
  · have hx := xin_nI (show p < 120 by omega) (show 120 < 2147483648 by decide)
    rw [if_neg (nI_ge h (by omega))]
    simp only [tg_r1, tg_pa, Option.bind_some, tg_by_ hx, h3]
    by_cases e : by_ p = ch
    · rw [if_pos e, obind1_some]
      unfold xb01
      rw [if_pos (nx_iff.mpr ⟨h, e⟩)]; rfl
    · rw [if_neg e, obind1_some]
      unfold xb01
      rw [if_neg (fun z => e (nx_iff.mp z).2)]; rfl
  · rw [if_pos (by rw [xnI_le_iff (by omega) (by omega)]; omega), obind1_some]
    unfold xb01
    rw [if_neg (fun z => h (nx_iff.mp z).1)]; rfl
def fill (v : Int32) (c n : Nat) (fo : Nat → Int32) : Nat → Int32 := it (fun i fo => xup fo (c + i) v) fo n
theorem fill_at (v : Int32) (c n : Nat) (fo : Nat → Int32) (j : Nat) : fill v c n fo j = if c ≤ j ∧ j < c + n then v else fo j := by
  unfold fill
  induction n with
  | zero => rw [it_0, if_neg (by omega)]
  | succ n ih =>
    rw [it_s]
    by_cases h : j = c + n
    · subst h; rw [xup_self, if_pos (by omega)]
    · rw [xup_ne _ _ h, ih]
      by_cases h2 : c ≤ j ∧ j < c + n
      · rw [if_pos h2, if_pos (by omega)]
      · rw [if_neg h2, if_neg (by omega)]
/-- what follows the number of days -/
theorem p_X0_itemEnd (hL : L ≤ 120) {q : Nat} (hq : q ≤ L) (hm : most ≤ 100) (hc : c ≤ 100) (hf : 101 < fu) {v : Int32} {d : Nat} (hd : d ≤ 100) {K : Option (Int32 × XH)}
    (hK : K = ((xis (ht b W (nI L) (nI c) (nI q) nu by_ fo) b 0).bind fun _ => obind1 (f_X0_isNext (ht b W (nI L) (nI c) (nI q) nu by_ fo) b 59) fun v12 => oletk ((xgI (ht b W (nI L) (nI c) (nI q) nu by_ fo) b 0 4).bind fun v20 => some (v20, ht b W (nI L) (nI c) (nI q) nu by_ fo)) fun k2 => if v12 = 0 then k2 else
      (xgI (ht b W (nI L) (nI c) (nI q) nu by_ fo) b 0 3).bind fun v13 => if v13 + nI d ≤ nI most then (xgI (ht b W (nI L) (nI c) (nI q) nu by_ fo) b 0 4).bind fun v14 => (xpV (ht b W (nI L) (nI c) (nI q) nu by_ fo) b 0 4 (.int (v14 + 1))).bind fun h5 => obind1 (xloop (xf2 fun (v15 : Int32) (h6 : XH) =>
            if nI d ≤ v15 then some (.inr h6) else (xgR h6 b 0 2).bind fun v16 => (xgI h6 b 0 3).bind fun v17 => (xast h6 v16 0 v17 v).bind fun h8 => (xgI h8 b 0 3).bind fun v18 => (xpV h8 b 0 3 (.int (v18 + (1 : Int32)))).bind fun h9 => olet (v15 + (1 : Int32)) fun v19 => some (.inl (v19, h9))) fu ((0 : Int32), h5)) fun h7 => some ((-1 : Int32), h7) else k2)) :
    K = if nx L by_ q 59 = true ∧ c + d ≤ most then some (-1, ht b W (nI L) (nI (c + d)) (nI (q + 1)) nu by_ (fill v c d fo)) else some (nI q, ht b W (nI L) (nI c) (nI q) nu by_ fo) := by
  rw [hK, tg_is, Option.bind_some, p_X0_isNext hL hq, obind1_some]
  simp only [oletk, tg_pa, Option.bind_some, xb01_0, tg_fc, xnI_add, xnI_le_iff (show c + d < 2147483648 by omega) (show most < 2147483648 by omega)]
  by_cases e1 : nx L by_ q 59 = true
  · rw [if_neg (fun h => h e1)]
    by_cases e2 : c + d ≤ most
    · rw [if_pos e2, if_pos ⟨e1, e2⟩, ts_pa, Option.bind_some, xnI_s]
      rw [xloop_E (fun i f => (nI i, ht b W (nI L) (nI (c + i)) (nI (q + 1)) nu by_ f)) (fun i f => xup f (c + i) v) (fun f => ht b W (nI L) (nI (c + d)) (nI (q + 1)) nu by_ f) d fo ?h0 ?hs ?he ?hf]
      · rfl
      case h0 => rfl
      case hf => omega
      case hs =>
        intro i f hi
        have hle : ¬ nI d ≤ nI i := nI_ge hi (by omega)
        have hx := xin_nI (show c + i < 100 by omega) (show 100 < 2147483648 by decide)
        have h3 : (nI (c + i)).toNatClampNeg = c + i := xnI_nat (by omega)
        simp only [xf2, if_neg hle, tg_r2, tg_fc, Option.bind_some, tt_fo hx, h3, ts_fc, xnI_s, olet]
        rfl
      case he =>
        intro f
        simp only [xf2, Int32.le_refl, if_true]
    · rw [if_neg e2, if_neg (fun h => e2 h.2)]
  · rw [if_pos e1, if_neg (fun h => e1 h.1)]
end PSG
