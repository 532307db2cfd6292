/-! One State read while another is written; copying. -/
def St (b : Nat) (h : XH) (cap flo top eva lim rul rc uc rn dn lev dry : Int32) (lo : Int64) (rf us : Nat → Nat → Int32) (od ra ac : Nat → Int32) : Prop := ∀ q, b ≤ q → q < b + 18 → h q = (hp b (fun _ => none) cap flo top eva lim rul rc uc rn dn lev dry lo rf us od ra ac) q
theorem hp_in {b : Nat} {W : XH} {cap flo top eva lim rul rc uc rn dn lev dry : Int32} {lo : Int64} {rf us : Nat → Nat → Int32} {od ra ac : Nat → Int32} (W' : XH) {q : Nat} (h1 : b ≤ q) (h2 : q < b + 18) : (hp b W cap flo top eva lim rul rc uc rn dn lev dry lo rf us od ra ac) q = (hp b W' cap flo top eva lim rul rc uc rn dn lev dry lo rf us od ra ac) q := by
  unfold hp
  by_cases c0 : q = b
  · rw [if_pos c0, if_pos c0]
  · rw [if_neg c0, if_neg c0]
    by_cases c1 : q = b + 1
    · rw [if_pos c1, if_pos c1]
    · rw [if_neg c1, if_neg c1]
      by_cases c2 : b + 2 ≤ q ∧ q < b + 8
      · rw [if_pos c2, if_pos c2]
      · rw [if_neg c2, if_neg c2]
        by_cases c3 : q = b + 8
        · rw [if_pos c3, if_pos c3]
        · rw [if_neg c3, if_neg c3]
          by_cases c4 : q = b + 9
          · rw [if_pos c4, if_pos c4]
          · rw [if_neg c4, if_neg c4]
            by_cases c5 : b + 10 ≤ q ∧ q < b + 15
            · rw [if_pos c5, if_pos c5]
            · rw [if_neg c5, if_neg c5]
              by_cases c6 : q = b + 15
              · rw [if_pos c6, if_pos c6]
              · rw [if_neg c6, if_neg c6]
                by_cases c7 : q = b + 16
                · rw [if_pos c7, if_pos c7]
                · rw [if_neg c7, if_neg c7, if_pos (by omega), if_pos (by omega)]
theorem St_hp {b : Nat} {W : XH} {cap flo top eva lim rul rc uc rn dn lev dry : Int32} {lo : Int64} {rf us : Nat → Nat → Int32} {od ra ac : Nat → Int32} : St b (hp b W cap flo top eva lim rul rc uc rn dn lev dry lo rf us od ra ac) cap flo top eva lim rul rc uc rn dn lev dry lo rf us od ra ac := fun q h1 h2 => hp_in _ h1 h2
theorem St_eq {b : Nat} {W : XH} {cap flo top eva lim rul rc uc rn dn lev dry : Int32} {lo : Int64} {rf us : Nat → Nat → Int32} {od ra ac : Nat → Int32} (h : St b W cap flo top eva lim rul rc uc rn dn lev dry lo rf us od ra ac) : W = hp b W cap flo top eva lim rul rc uc rn dn lev dry lo rf us od ra ac := by
  funext q
  by_cases c : b ≤ q ∧ q < b + 18
  · rw [h q c.1 c.2]; exact (hp_in W c.1 c.2)
  · rw [hp_out c]
theorem St_fr {b : Nat} {W : XH} {cap flo top eva lim rul rc uc rn dn lev dry : Int32} {lo : Int64} {rf us : Nat → Nat → Int32} {od ra ac : Nat → Int32} {h' : XH} (h : St b W cap flo top eva lim rul rc uc rn dn lev dry lo rf us od ra ac) (hf : ∀ q, b ≤ q → q < b + 18 → h' q = W q) : St b h' cap flo top eva lim rul rc uc rn dn lev dry lo rf us od ra ac := fun q h1 h2 => by rw [hf q h1 h2]; exact h q h1 h2
theorem xg_c {h h' : XH} {a : Nat} (e : h a = h' a) (ci k : Nat) : xg h a ci k = xg h' a ci k := by simp only [xg, e]
theorem xgI_c {h h' : XH} {a : Nat} (e : h a = h' a) (ci k : Nat) : xgI h a ci k = xgI h' a ci k := by simp only [xgI, xg_c e]
theorem xgR_c {h h' : XH} {a : Nat} (e : h a = h' a) (ci k : Nat) : xgR h a ci k = xgR h' a ci k := by simp only [xgR, xg_c e]
theorem xgL_c {h h' : XH} {a : Nat} (e : h a = h' a) (ci k : Nat) : xgL h a ci k = xgL h' a ci k := by simp only [xgL, xg_c e]
theorem xis_c {h h' : XH} {a : Nat} (e : h a = h' a) (ci : Nat) : xis h a ci = xis h' a ci := by simp only [xis, e]
theorem xald_c {h h' : XH} {a : Nat} (e : h a = h' a) (t : Nat) (i : Int32) : xald h a t i = xald h' a t i := by simp only [xald, e]
theorem xaldR_c {h h' : XH} {a : Nat} (e : h a = h' a) (t : Nat) (i : Int32) : xaldR h a t i = xaldR h' a t i := by simp only [xaldR, e]
def c6 (r s : Nat → Int32) : Nat → Int32 := xup (xup (xup (xup (xup (xup (xup (xup r 0 (s 0)) 1 (s 1)) 2 (s 2)) 3 (s 3)) 4 0) 5 0) 4 (s 4)) 5 (s 5)
def c4 (r s : Nat → Int32) : Nat → Int32 := xup (xup (xup (xup (xup (xup r 0 (s 0)) 1 (s 1)) 2 0) 3 0) 2 (s 2)) 3 (s 3)
theorem c6_at (r s : Nat → Int32) {j : Nat} (hj : j < 6) : c6 r s j = s j := by
  rcases xlt6 hj with rfl | rfl | rfl | rfl | rfl | rfl <;> simp [c6, xup]
theorem c4_at (r s : Nat → Int32) {j : Nat} (hj : j < 4) : c4 r s j = s j := by
  rcases xlt4 hj with rfl | rfl | rfl | rfl <;> simp [c4, xup]
def cp_rf (k : Nat) (rf' rf : UT) : UT := it (fun i r => xup r i (c6 (r i) (rf' i))) rf k
def cp_us (n : Nat) (us' us : UT) : UT := it (fun i r => xup r i (c4 (r i) (us' i))) us n
theorem cp_rf_at {k i j : Nat} {rf' rf : UT} (hi : i < k) (hj : j < 6) : cp_rf k rf' rf i j = rf' i j := by
  have e : cp_rf k rf' rf = u_map (fun i r => c6 r (rf' i)) k rf := it_map (fun i r => c6 r (rf' i)) k rf
  rw [e]
  simp only [u_map, if_pos hi]
  exact c6_at _ _ hj
theorem cp_us_at {n i j : Nat} {us' us : UT} (hi : i < n) (hj : j < 4) : cp_us n us' us i j = us' i j := by
  have e : cp_us n us' us = u_map (fun i r => c4 r (us' i)) n us := it_map (fun i r => c4 r (us' i)) n us
  rw [e]
  simp only [u_map, if_pos hi]
  exact c4_at _ _ hj
section PSC
variable {b : Nat} {W : XH} {cap flo top eva lim rul rc uc rn dn lev dry : Int32} {lo : Int64} {rf us : Nat → Nat → Int32} {od ra ac : Nat → Int32}
variable {b' : Nat} {cap' flo' top' eva' lim' rul' rc' uc' rn' dn' lev' dry' : Int32} {lo' : Int64} {rf' us' : Nat → Nat → Int32} {od' ra' ac' : Nat → Int32}
variable {fu n k N D : Nat}
theorem sr_eq (hS : St b' W cap' flo' top' eva' lim' rul' rc' uc' rn' dn' lev' dry' lo' rf' us' od' ra' ac') (hd : b + 18 ≤ b' ∨ b' + 18 ≤ b) {q : Nat} (h1 : b' ≤ q) (h2 : q < b' + 18) : (hp b W cap flo top eva lim rul rc uc rn dn lev dry lo rf us od ra ac) q = hp b' (fun _ => none) cap' flo' top' eva' lim' rul' rc' uc' rn' dn' lev' dry' lo' rf' us' od' ra' ac' q := by
  rw [hp_out (by omega)]
  exact hS q h1 h2
theorem sr_cap (hS : St b' W cap' flo' top' eva' lim' rul' rc' uc' rn' dn' lev' dry' lo' rf' us' od' ra' ac') (hd : b + 18 ≤ b' ∨ b' + 18 ≤ b) : xgI (hp b W cap flo top eva lim rul rc uc rn dn lev dry lo rf us od ra ac) b' 2 0 = some cap' := (xgI_c (sr_eq hS hd (Nat.le_refl _) (by omega)) 2 0).trans hg_cap
theorem sr_flo (hS : St b' W cap' flo' top' eva' lim' rul' rc' uc' rn' dn' lev' dry' lo' rf' us' od' ra' ac') (hd : b + 18 ≤ b' ∨ b' + 18 ≤ b) : xgI (hp b W cap flo top eva lim rul rc uc rn dn lev dry lo rf us od ra ac) b' 2 1 = some flo' := (xgI_c (sr_eq hS hd (Nat.le_refl _) (by omega)) 2 1).trans hg_flo
theorem sr_top (hS : St b' W cap' flo' top' eva' lim' rul' rc' uc' rn' dn' lev' dry' lo' rf' us' od' ra' ac') (hd : b + 18 ≤ b' ∨ b' + 18 ≤ b) : xgI (hp b W cap flo top eva lim rul rc uc rn dn lev dry lo rf us od ra ac) b' 2 2 = some top' := (xgI_c (sr_eq hS hd (Nat.le_refl _) (by omega)) 2 2).trans hg_top
theorem sr_eva (hS : St b' W cap' flo' top' eva' lim' rul' rc' uc' rn' dn' lev' dry' lo' rf' us' od' ra' ac') (hd : b + 18 ≤ b' ∨ b' + 18 ≤ b) : xgI (hp b W cap flo top eva lim rul rc uc rn dn lev dry lo rf us od ra ac) b' 2 3 = some eva' := (xgI_c (sr_eq hS hd (Nat.le_refl _) (by omega)) 2 3).trans hg_eva
theorem sr_lim (hS : St b' W cap' flo' top' eva' lim' rul' rc' uc' rn' dn' lev' dry' lo' rf' us' od' ra' ac') (hd : b + 18 ≤ b' ∨ b' + 18 ≤ b) : xgI (hp b W cap flo top eva lim rul rc uc rn dn lev dry lo rf us od ra ac) b' 2 4 = some lim' := (xgI_c (sr_eq hS hd (Nat.le_refl _) (by omega)) 2 4).trans hg_lim
theorem sr_rul (hS : St b' W cap' flo' top' eva' lim' rul' rc' uc' rn' dn' lev' dry' lo' rf' us' od' ra' ac') (hd : b + 18 ≤ b' ∨ b' + 18 ≤ b) : xgI (hp b W cap flo top eva lim rul rc uc rn dn lev dry lo rf us od ra ac) b' 2 5 = some rul' := (xgI_c (sr_eq hS hd (Nat.le_refl _) (by omega)) 2 5).trans hg_rul
theorem sr_rc (hS : St b' W cap' flo' top' eva' lim' rul' rc' uc' rn' dn' lev' dry' lo' rf' us' od' ra' ac') (hd : b + 18 ≤ b' ∨ b' + 18 ≤ b) : xgI (hp b W cap flo top eva lim rul rc uc rn dn lev dry lo rf us od ra ac) b' 2 7 = some rc' := (xgI_c (sr_eq hS hd (Nat.le_refl _) (by omega)) 2 7).trans hg_rc
theorem sr_rn (hS : St b' W cap' flo' top' eva' lim' rul' rc' uc' rn' dn' lev' dry' lo' rf' us' od' ra' ac') (hd : b + 18 ≤ b' ∨ b' + 18 ≤ b) : xgI (hp b W cap flo top eva lim rul rc uc rn dn lev dry lo rf us od ra ac) b' 2 10 = some rn' := (xgI_c (sr_eq hS hd (Nat.le_refl _) (by omega)) 2 10).trans hg_rn
theorem sr_dn (hS : St b' W cap' flo' top' eva' lim' rul' rc' uc' rn' dn' lev' dry' lo' rf' us' od' ra' ac') (hd : b + 18 ≤ b' ∨ b' + 18 ≤ b) : xgI (hp b W cap flo top eva lim rul rc uc rn dn lev dry lo rf us od ra ac) b' 2 11 = some dn' := (xgI_c (sr_eq hS hd (Nat.le_refl _) (by omega)) 2 11).trans hg_dn
theorem sr_lev (hS : St b' W cap' flo' top' eva' lim' rul' rc' uc' rn' dn' lev' dry' lo' rf' us' od' ra' ac') (hd : b + 18 ≤ b' ∨ b' + 18 ≤ b) : xgI (hp b W cap flo top eva lim rul rc uc rn dn lev dry lo rf us od ra ac) b' 2 12 = some lev' := (xgI_c (sr_eq hS hd (Nat.le_refl _) (by omega)) 2 12).trans hg_lev
theorem sr_dry (hS : St b' W cap' flo' top' eva' lim' rul' rc' uc' rn' dn' lev' dry' lo' rf' us' od' ra' ac') (hd : b + 18 ≤ b' ∨ b' + 18 ≤ b) : xgI (hp b W cap flo top eva lim rul rc uc rn dn lev dry lo rf us od ra ac) b' 2 13 = some dry' := (xgI_c (sr_eq hS hd (Nat.le_refl _) (by omega)) 2 13).trans hg_dry
theorem sr_lo (hS : St b' W cap' flo' top' eva' lim' rul' rc' uc' rn' dn' lev' dry' lo' rf' us' od' ra' ac') (hd : b + 18 ≤ b' ∨ b' + 18 ≤ b) : xgL (hp b W cap flo top eva lim rul rc uc rn dn lev dry lo rf us od ra ac) b' 2 14 = some lo' := (xgL_c (sr_eq hS hd (Nat.le_refl _) (by omega)) 2 14).trans hg_lo
theorem sr_roofs (hS : St b' W cap' flo' top' eva' lim' rul' rc' uc' rn' dn' lev' dry' lo' rf' us' od' ra' ac') (hd : b + 18 ≤ b' ∨ b' + 18 ≤ b) : xgR (hp b W cap flo top eva lim rul rc uc rn dn lev dry lo rf us od ra ac) b' 2 6 = some (b' + 1) := (xgR_c (sr_eq hS hd (Nat.le_refl _) (by omega)) 2 6).trans hg_roofs
theorem sr_users (hS : St b' W cap' flo' top' eva' lim' rul' rc' uc' rn' dn' lev' dry' lo' rf' us' od' ra' ac') (hd : b + 18 ≤ b' ∨ b' + 18 ≤ b) : xgR (hp b W cap flo top eva lim rul rc uc rn dn lev dry lo rf us od ra ac) b' 2 8 = some (b' + 8) := (xgR_c (sr_eq hS hd (Nat.le_refl _) (by omega)) 2 8).trans hg_users
theorem sr_rains (hS : St b' W cap' flo' top' eva' lim' rul' rc' uc' rn' dn' lev' dry' lo' rf' us' od' ra' ac') (hd : b + 18 ≤ b' ∨ b' + 18 ≤ b) : xgR (hp b W cap flo top eva lim rul rc uc rn dn lev dry lo rf us od ra ac) b' 2 9 = some (b' + 16) := (xgR_c (sr_eq hS hd (Nat.le_refl _) (by omega)) 2 9).trans hg_rains
theorem sr_accounts (hS : St b' W cap' flo' top' eva' lim' rul' rc' uc' rn' dn' lev' dry' lo' rf' us' od' ra' ac') (hd : b + 18 ≤ b' ∨ b' + 18 ≤ b) : xgR (hp b W cap flo top eva lim rul rc uc rn dn lev dry lo rf us od ra ac) b' 2 15 = some (b' + 17) := (xgR_c (sr_eq hS hd (Nat.le_refl _) (by omega)) 2 15).trans hg_accounts
theorem sr_uc (hS : St b' W cap' flo' top' eva' lim' rul' rc' uc' rn' dn' lev' dry' lo' rf' us' od' ra' ac') (hd : b + 18 ≤ b' ∨ b' + 18 ≤ b) : xgI (hp b W cap flo top eva lim rul rc uc rn dn lev dry lo rf us od ra ac) (b' + 8) 4 1 = some uc' := (xgI_c (sr_eq hS hd (by omega) (by omega)) 4 1).trans hg_uc
theorem sr_rows (hS : St b' W cap' flo' top' eva' lim' rul' rc' uc' rn' dn' lev' dry' lo' rf' us' od' ra' ac') (hd : b + 18 ≤ b' ∨ b' + 18 ≤ b) : xgR (hp b W cap flo top eva lim rul rc uc rn dn lev dry lo rf us od ra ac) (b' + 8) 4 0 = some (b' + 9) := (xgR_c (sr_eq hS hd (by omega) (by omega)) 4 0).trans hg_rows
theorem sr_qroof (hS : St b' W cap' flo' top' eva' lim' rul' rc' uc' rn' dn' lev' dry' lo' rf' us' od' ra' ac') (hd : b + 18 ≤ b' ∨ b' + 18 ≤ b) {i : Int32} (hi : xin i 6 = true) : xaldR (hp b W cap flo top eva lim rul rc uc rn dn lev dry lo rf us od ra ac) (b' + 1) 3 i = some (b' + 2 + i.toNatClampNeg) := (xaldR_c (sr_eq hS hd (by omega) (by omega)) 3 i).trans (hq_roof hi)
theorem sr_quser (hS : St b' W cap' flo' top' eva' lim' rul' rc' uc' rn' dn' lev' dry' lo' rf' us' od' ra' ac') (hd : b + 18 ≤ b' ∨ b' + 18 ≤ b) {i : Int32} (hi : xin i 5 = true) : xaldR (hp b W cap flo top eva lim rul rc uc rn dn lev dry lo rf us od ra ac) (b' + 9) 5 i = some (b' + 10 + i.toNatClampNeg) := (xaldR_c (sr_eq hS hd (by omega) (by omega)) 5 i).trans (hq_user hi)
theorem sr_rf (hS : St b' W cap' flo' top' eva' lim' rul' rc' uc' rn' dn' lev' dry' lo' rf' us' od' ra' ac') (hd : b + 18 ≤ b' ∨ b' + 18 ≤ b) {i j : Nat} (hi : i < 6) (hj : j < 6) : xgI (hp b W cap flo top eva lim rul rc uc rn dn lev dry lo rf us od ra ac) (b' + 2 + i) 1 j = some (rf' i j) := (xgI_c (sr_eq hS hd (by omega) (by omega)) 1 j).trans (hg_rf hi hj)
theorem sr_us (hS : St b' W cap' flo' top' eva' lim' rul' rc' uc' rn' dn' lev' dry' lo' rf' us' od' ra' ac') (hd : b + 18 ≤ b' ∨ b' + 18 ≤ b) {i j : Nat} (hi : i < 5) (hj : j < 4) : xgI (hp b W cap flo top eva lim rul rc uc rn dn lev dry lo rf us od ra ac) (b' + 10 + i) 3 j = some (us' i j) := (xgI_c (sr_eq hS hd (by omega) (by omega)) 3 j).trans (hg_usr hi hj)
theorem sr_copy_ra (hS : St b' W cap' flo' top' eva' lim' rul' rc' uc' rn' dn' lev' dry' lo' rf' us' od' ra' ac') (hd : b + 18 ≤ b' ∨ b' + 18 ≤ b) {m : Nat} (hm : m ≤ 100) : xcopy (hp b W cap flo top eva lim rul rc uc rn dn lev dry lo rf us od ra ac) (b' + 16) (0 : Int32) (b + 16) (0 : Int32) (nI m) = some (hp b W cap flo top eva lim rul rc uc rn dn lev dry lo rf us od (xcpy ra' ra 0 0 m) ac) := by
  have e1 : (hp b W cap flo top eva lim rul rc uc rn dn lev dry lo rf us od ra ac) (b' + 16) = some (.inl (0, 100, .inl ra')) := by rw [sr_eq hS hd (by omega) (by omega), hp_16]
  have hm3 : (nI m).toNatClampNeg = m := xnI_nat (by omega)
  have hm0 : ¬ nI m < 0 := by rw [ti_lt, xnI_toInt (by omega), ti_0]; omega
  have z0 : (0 : Int32).toNatClampNeg = 0 := rfl
  unfold xcopy
  rw [e1, hp_16]
  simp only [hm3, z0]
  rw [if_pos ⟨trivial, trivial, by decide, by decide, hm0, by omega, by omega⟩]
  refine congrArg some ?_
  funext q
  by_cases hq : q = b + 16
  · subst hq; rw [hp_16, xup_self]
  · rw [xup_ne _ _ hq]; simp only [hp, if_neg hq]
theorem sr_copy_ac (hS : St b' W cap' flo' top' eva' lim' rul' rc' uc' rn' dn' lev' dry' lo' rf' us' od' ra' ac') (hd : b + 18 ≤ b' ∨ b' + 18 ≤ b) {m : Nat} (hm : m ≤ 1000) : xcopy (hp b W cap flo top eva lim rul rc uc rn dn lev dry lo rf us od ra ac) (b' + 17) (0 : Int32) (b + 17) (0 : Int32) (nI m) = some (hp b W cap flo top eva lim rul rc uc rn dn lev dry lo rf us od ra (xcpy ac' ac 0 0 m)) := by
  have e1 : (hp b W cap flo top eva lim rul rc uc rn dn lev dry lo rf us od ra ac) (b' + 17) = some (.inl (0, 1000, .inl ac')) := by rw [sr_eq hS hd (by omega) (by omega), hp_17]
  have hm3 : (nI m).toNatClampNeg = m := xnI_nat (by omega)
  have hm0 : ¬ nI m < 0 := by rw [ti_lt, xnI_toInt (by omega), ti_0]; omega
  have z0 : (0 : Int32).toNatClampNeg = 0 := rfl
  unfold xcopy
  rw [e1, hp_17]
  simp only [hm3, z0]
  rw [if_pos ⟨trivial, trivial, by decide, by decide, hm0, by omega, by omega⟩]
  refine congrArg some ?_
  funext q
  by_cases hq : q = b + 17
  · subst hq; rw [hp_17, xup_self]
  · rw [xup_ne _ _ hq]; simp only [hp, if_neg hq]
theorem p_X1_copyFrom (hS : St b' W cap' flo' top' eva' lim' rul' rc' uc' rn' dn' lev' dry' lo' rf' us' od' ra' ac') (hd : b + 18 ≤ b' ∨ b' + 18 ≤ b) {i : Nat} (hi : i < 6) : f_X1_copyFrom (hp b W cap flo top eva lim rul rc uc rn dn lev dry lo rf us od ra ac) (b + 2 + i) (b' + 2 + i) = some (hp b W cap flo top eva lim rul rc uc rn dn lev dry lo (xup rf i (c6 (rf i) (rf' i))) us od ra ac) := by
  simp only [f_X1_copyFrom, sr_rf hS hd hi (show 0 < 6 by decide), sr_rf hS hd hi (show 1 < 6 by decide), sr_rf hS hd hi (show 2 < 6 by decide), sr_rf hS hd hi (show 3 < 6 by decide), sr_rf hS hd hi (show 4 < 6 by decide), sr_rf hS hd hi (show 5 < 6 by decide), Option.bind_some, hi_roof hi, p_X1_set hi, obind1_some, hs_rf hi (show 4 < 6 by decide), hs_rf hi (show 5 < 6 by decide), xup_self, xup_xup]
  rfl
theorem p_X3_copyFrom (hS : St b' W cap' flo' top' eva' lim' rul' rc' uc' rn' dn' lev' dry' lo' rf' us' od' ra' ac') (hd : b + 18 ≤ b' ∨ b' + 18 ≤ b) {i : Nat} (hi : i < 5) : f_X3_copyFrom (hp b W cap flo top eva lim rul rc uc rn dn lev dry lo rf us od ra ac) (b + 10 + i) (b' + 10 + i) = some (hp b W cap flo top eva lim rul rc uc rn dn lev dry lo rf (xup us i (c4 (us i) (us' i))) od ra ac) := by
  simp only [f_X3_copyFrom, sr_us hS hd hi (show 0 < 4 by decide), sr_us hS hd hi (show 1 < 4 by decide), sr_us hS hd hi (show 2 < 4 by decide), sr_us hS hd hi (show 3 < 4 by decide), Option.bind_some, hi_user hi, p_X3_set hi, obind1_some, hs_usr hi (show 2 < 4 by decide), hs_usr hi (show 3 < 4 by decide), xup_self, xup_xup]
  rfl
theorem p_X4_copyFrom (hS : St b' W cap' flo' top' eva' lim' rul' rc' uc' rn' dn' lev' dry' lo' rf' us' od' ra' ac') (hd : b + 18 ≤ b' ∨ b' + 18 ≤ b) (hn : n ≤ 5) (hf : 6 < fu) (hu : uc' = nI n) : f_X4_copyFrom fu (hp b W cap flo top eva lim rul rc uc rn dn lev dry lo rf us od ra ac) (b + 8) (b' + 8) = some (hp b W cap flo top eva lim rul rc (nI n) rn dn lev dry lo rf (cp_us n us' us) od ra ac) := by
  subst hu
  unfold f_X4_copyFrom
  simp only [sr_uc hS hd, Option.bind_some, hs_uc]
  rw [xloop_E (fun i u => (nI i, hp b W cap flo top eva lim rul rc (nI n) rn dn lev dry lo rf u od ra ac)) (fun i r => xup r i (c4 (r i) (us' i))) (fun u => hp b W cap flo top eva lim rul rc (nI n) rn dn lev dry lo rf u od ra ac) n us ?h0 ?hs ?he ?hf]
  · rfl
  case h0 => rfl
  case hf => omega
  case hs =>
    intro i u hi
    have h5 : i < 5 := by omega
    have h3 : (nI i).toNatClampNeg = i := xnI_nat (by omega)
    have hle : ¬ nI n ≤ nI i := nI_ge hi (by omega)
    have hx := xin_nI h5 (show 5 < 2147483648 by decide)
    simp only [xf2, hg_uc, Option.bind_some, if_neg hle, hg_rows, hq_user hx, sr_rows hS hd, sr_quser hS hd hx, h3, hi_user h5, p_X3_copyFrom hS hd h5, obind1_some, olet, xnI_s]
  case he =>
    intro u
    simp only [xf2, hg_uc, Option.bind_some, Int32.le_refl, if_true]
theorem p_X2_copyFrom (hS : St b' W cap' flo' top' eva' lim' rul' rc' uc' rn' dn' lev' dry' lo' rf' us' od' ra' ac') (hd : b + 18 ≤ b' ∨ b' + 18 ≤ b) (hk : k ≤ 6) (hn : n ≤ 5) (hN : N ≤ 100) (hD : D ≤ 100) (hf : 7 < fu) (ek : rc' = nI k) (en : uc' = nI n) (eN : rn' = nI N) (eD : dn' = nI D) :
    f_X2_copyFrom fu (hp b W cap flo top eva lim rul rc uc rn dn lev dry lo rf us od ra ac) b b' = some (hp b W cap' flo' top' eva' lim' rul' (nI k) (nI n) (nI N) (nI D) lev' dry' lo' (cp_rf k rf' rf) (cp_us n us' us) od (xcpy ra' ra 0 0 N) (xcpy ac' ac 0 0 (D * 10))) := by
  have hS2 := hS
  subst ek en eN eD
  have hm10 : nI D * (10 : Int32) = nI (D * 10) := by show nI D * nI 10 = _; rw [xnI_mul]
  unfold f_X2_copyFrom
  simp only [sr_cap hS hd, sr_flo hS hd, sr_top hS hd, sr_eva hS hd, sr_lim hS hd, sr_rul hS hd, sr_rc hS hd, Option.bind_some, hs_cap, hs_flo, hs_top, hs_eva, hs_lim, hs_rul, hs_rc]
  rw [xloop_E (fun i r => (nI i, hp b W cap' flo' top' eva' lim' rul' (nI k) uc rn dn lev dry lo r us od ra ac)) (fun i r => xup r i (c6 (r i) (rf' i))) (fun r => hp b W cap' flo' top' eva' lim' rul' (nI k) uc rn dn lev dry lo r us od ra ac) k rf ?h0 ?hs ?he ?hf]
  · rw [obind1_some]
    simp only [hg_users, sr_users hS hd, Option.bind_some, hi_us, p_X4_copyFrom hS hd hn (show 6 < fu by omega) rfl, obind1_some, sr_rn hS hd, hs_rn, sr_rains hS hd, hg_rains, hg_rn, sr_copy_ra hS hd hN, sr_dn hS hd, hs_dn, sr_accounts hS hd, hg_accounts, hg_dn, hm10, sr_copy_ac hS hd (show D * 10 ≤ 1000 by omega), sr_lev hS hd, hs_lev, sr_dry hS hd, hs_dry, sr_lo hS hd, hs_lo]
    rfl
  case h0 => rfl
  case hf => omega
  case hs =>
    intro i u hi
    have h6 : i < 6 := by omega
    have h3 : (nI i).toNatClampNeg = i := xnI_nat (by omega)
    have hle : ¬ nI k ≤ nI i := nI_ge hi (by omega)
    have hx := xin_nI h6 (show 6 < 2147483648 by decide)
    simp only [xf2, hg_rc, Option.bind_some, if_neg hle, hg_roofs, hq_roof hx, sr_roofs hS hd, sr_qroof hS hd hx, h3, hi_roof h6, p_X1_copyFrom hS hd h6, obind1_some, olet, xnI_s]
  case he =>
    intro u
    simp only [xf2, hg_rc, Option.bind_some, Int32.le_refl, if_true]
end PSC

