/-! A State of the class in the heap, eighteen cells from b on; what lies elsewhere: W. -/
def xrefs (a n : Nat) : Nat → Option Nat := fun i => if i < n then some (a + i) else none
def hp (b : Nat) (W : XH) (cap flo top eva lim rul rc uc rn dn lev dry : Int32) (lo : Int64) (rf us : Nat → Nat → Int32) (od ra ac : Nat → Int32) : XH := fun q =>
  if q = b then some (.inr (2, [.int cap, .int flo, .int top, .int eva, .int lim, .int rul, .ref (b + 1), .int rc, .ref (b + 8), .ref (b + 16), .int rn, .int dn, .int lev, .int dry, .long lo, .ref (b + 17)]))
  else if q = b + 1 then some (.inl (3, 6, .inr (.inr (.inr (.inr (xrefs (b + 2) 6))))))
  else if b + 2 ≤ q ∧ q < b + 8 then some (.inr (1, [.int (rf (q - (b + 2)) 0), .int (rf (q - (b + 2)) 1), .int (rf (q - (b + 2)) 2), .int (rf (q - (b + 2)) 3), .int (rf (q - (b + 2)) 4), .int (rf (q - (b + 2)) 5)]))
  else if q = b + 8 then some (.inr (4, [.ref (b + 9), .int uc, .ref (b + 15)]))
  else if q = b + 9 then some (.inl (5, 5, .inr (.inr (.inr (.inr (xrefs (b + 10) 5))))))
  else if b + 10 ≤ q ∧ q < b + 15 then some (.inr (3, [.int (us (q - (b + 10)) 0), .int (us (q - (b + 10)) 1), .int (us (q - (b + 10)) 2), .int (us (q - (b + 10)) 3)]))
  else if q = b + 15 then some (.inl (0, 5, .inl od))
  else if q = b + 16 then some (.inl (0, 100, .inl ra))
  else if q = b + 17 then some (.inl (0, 1000, .inl ac))
  else W q
theorem xup_self {α : Type} (f : Nat → α) (k : Nat) (x : α) : xup f k x k = x := by simp [xup]
theorem xup_ne {α : Type} (f : Nat → α) {k j : Nat} (x : α) (h : j ≠ k) : xup f k x j = f j := by simp [xup, h]
theorem xup_xup {α : Type} (f : Nat → α) (k : Nat) (x y : α) : xup (xup f k x) k y = xup f k y := by funext j; by_cases h : j = k <;> simp [xup, h]
theorem hp_0 {b : Nat} {W : XH} {cap flo top eva lim rul rc uc rn dn lev dry : Int32} {lo : Int64} {rf us : Nat → Nat → Int32} {od ra ac : Nat → Int32} : (hp b W cap flo top eva lim rul rc uc rn dn lev dry lo rf us od ra ac) b = some (.inr (2, [.int cap, .int flo, .int top, .int eva, .int lim, .int rul, .ref (b + 1), .int rc, .ref (b + 8), .ref (b + 16), .int rn, .int dn, .int lev, .int dry, .long lo, .ref (b + 17)])) := by simp [hp]
theorem hp_1 {b : Nat} {W : XH} {cap flo top eva lim rul rc uc rn dn lev dry : Int32} {lo : Int64} {rf us : Nat → Nat → Int32} {od ra ac : Nat → Int32} : (hp b W cap flo top eva lim rul rc uc rn dn lev dry lo rf us od ra ac) (b + 1) = some (.inl (3, 6, .inr (.inr (.inr (.inr (xrefs (b + 2) 6)))))) := by simp [hp]
theorem hp_roof {b : Nat} {W : XH} {cap flo top eva lim rul rc uc rn dn lev dry : Int32} {lo : Int64} {rf us : Nat → Nat → Int32} {od ra ac : Nat → Int32} {i : Nat} (hi : i < 6) : (hp b W cap flo top eva lim rul rc uc rn dn lev dry lo rf us od ra ac) (b + 2 + i) = some (.inr (1, [.int (rf i 0), .int (rf i 1), .int (rf i 2), .int (rf i 3), .int (rf i 4), .int (rf i 5)])) := by
  unfold hp
  rw [if_neg (by omega), if_neg (by omega), if_pos (by omega), Nat.add_sub_cancel_left]
theorem hp_8 {b : Nat} {W : XH} {cap flo top eva lim rul rc uc rn dn lev dry : Int32} {lo : Int64} {rf us : Nat → Nat → Int32} {od ra ac : Nat → Int32} : (hp b W cap flo top eva lim rul rc uc rn dn lev dry lo rf us od ra ac) (b + 8) = some (.inr (4, [.ref (b + 9), .int uc, .ref (b + 15)])) := by
  unfold hp
  rw [if_neg (by omega), if_neg (by omega), if_neg (by omega), if_pos rfl]
theorem hp_9 {b : Nat} {W : XH} {cap flo top eva lim rul rc uc rn dn lev dry : Int32} {lo : Int64} {rf us : Nat → Nat → Int32} {od ra ac : Nat → Int32} : (hp b W cap flo top eva lim rul rc uc rn dn lev dry lo rf us od ra ac) (b + 9) = some (.inl (5, 5, .inr (.inr (.inr (.inr (xrefs (b + 10) 5)))))) := by
  unfold hp
  rw [if_neg (by omega), if_neg (by omega), if_neg (by omega), if_neg (by omega), if_pos rfl]
theorem hp_user {b : Nat} {W : XH} {cap flo top eva lim rul rc uc rn dn lev dry : Int32} {lo : Int64} {rf us : Nat → Nat → Int32} {od ra ac : Nat → Int32} {i : Nat} (hi : i < 5) : (hp b W cap flo top eva lim rul rc uc rn dn lev dry lo rf us od ra ac) (b + 10 + i) = some (.inr (3, [.int (us i 0), .int (us i 1), .int (us i 2), .int (us i 3)])) := by
  unfold hp
  rw [if_neg (by omega), if_neg (by omega), if_neg (by omega), if_neg (by omega), if_neg (by omega), if_pos (by omega), Nat.add_sub_cancel_left]
theorem hp_15 {b : Nat} {W : XH} {cap flo top eva lim rul rc uc rn dn lev dry : Int32} {lo : Int64} {rf us : Nat → Nat → Int32} {od ra ac : Nat → Int32} : (hp b W cap flo top eva lim rul rc uc rn dn lev dry lo rf us od ra ac) (b + 15) = some (.inl (0, 5, .inl od)) := by
  unfold hp
  rw [if_neg (by omega), if_neg (by omega), if_neg (by omega), if_neg (by omega), if_neg (by omega), if_neg (by omega), if_pos rfl]
theorem hp_16 {b : Nat} {W : XH} {cap flo top eva lim rul rc uc rn dn lev dry : Int32} {lo : Int64} {rf us : Nat → Nat → Int32} {od ra ac : Nat → Int32} : (hp b W cap flo top eva lim rul rc uc rn dn lev dry lo rf us od ra ac) (b + 16) = some (.inl (0, 100, .inl ra)) := by
  unfold hp
  rw [if_neg (by omega), if_neg (by omega), if_neg (by omega), if_neg (by omega), if_neg (by omega), if_neg (by omega), if_neg (by omega), if_pos rfl]
theorem hp_17 {b : Nat} {W : XH} {cap flo top eva lim rul rc uc rn dn lev dry : Int32} {lo : Int64} {rf us : Nat → Nat → Int32} {od ra ac : Nat → Int32} : (hp b W cap flo top eva lim rul rc uc rn dn lev dry lo rf us od ra ac) (b + 17) = some (.inl (0, 1000, .inl ac)) := by
  unfold hp
  rw [if_neg (by omega), if_neg (by omega), if_neg (by omega), if_neg (by omega), if_neg (by omega), if_neg (by omega), if_neg (by omega), if_neg (by omega), if_pos rfl]
theorem hp_out {b : Nat} {W : XH} {cap flo top eva lim rul rc uc rn dn lev dry : Int32} {lo : Int64} {rf us : Nat → Nat → Int32} {od ra ac : Nat → Int32} {q : Nat} (h : ¬ (b ≤ q ∧ q < b + 18)) : (hp b W cap flo top eva lim rul rc uc rn dn lev dry lo rf us od ra ac) q = W q := by
  unfold hp
  rw [if_neg (by omega), if_neg (by omega), if_neg (by omega), if_neg (by omega), if_neg (by omega), if_neg (by omega), if_neg (by omega), if_neg (by omega), if_neg (by omega)]
theorem hg_cap {b : Nat} {W : XH} {cap flo top eva lim rul rc uc rn dn lev dry : Int32} {lo : Int64} {rf us : Nat → Nat → Int32} {od ra ac : Nat → Int32} : xgI (hp b W cap flo top eva lim rul rc uc rn dn lev dry lo rf us od ra ac) b 2 0 = some cap := by simp [xgI, xg, hp_0]
theorem hs_cap {b : Nat} {W : XH} {cap flo top eva lim rul rc uc rn dn lev dry : Int32} {lo : Int64} {rf us : Nat → Nat → Int32} {od ra ac : Nat → Int32} (v : Int32) : xpV (hp b W cap flo top eva lim rul rc uc rn dn lev dry lo rf us od ra ac) b 2 0 (.int v) = some (hp b W v flo top eva lim rul rc uc rn dn lev dry lo rf us od ra ac) := by
  simp only [xpV, hp_0]
  refine congrArg some ?_
  funext q
  by_cases hq : q = b
  · subst hq; rw [hp_0]; simp [xup]
  · rw [xup_ne _ _ hq]; simp only [hp, if_neg hq]
theorem hg_flo {b : Nat} {W : XH} {cap flo top eva lim rul rc uc rn dn lev dry : Int32} {lo : Int64} {rf us : Nat → Nat → Int32} {od ra ac : Nat → Int32} : xgI (hp b W cap flo top eva lim rul rc uc rn dn lev dry lo rf us od ra ac) b 2 1 = some flo := by simp [xgI, xg, hp_0]
theorem hs_flo {b : Nat} {W : XH} {cap flo top eva lim rul rc uc rn dn lev dry : Int32} {lo : Int64} {rf us : Nat → Nat → Int32} {od ra ac : Nat → Int32} (v : Int32) : xpV (hp b W cap flo top eva lim rul rc uc rn dn lev dry lo rf us od ra ac) b 2 1 (.int v) = some (hp b W cap v top eva lim rul rc uc rn dn lev dry lo rf us od ra ac) := by
  simp only [xpV, hp_0]
  refine congrArg some ?_
  funext q
  by_cases hq : q = b
  · subst hq; rw [hp_0]; simp [xup]
  · rw [xup_ne _ _ hq]; simp only [hp, if_neg hq]
theorem hg_top {b : Nat} {W : XH} {cap flo top eva lim rul rc uc rn dn lev dry : Int32} {lo : Int64} {rf us : Nat → Nat → Int32} {od ra ac : Nat → Int32} : xgI (hp b W cap flo top eva lim rul rc uc rn dn lev dry lo rf us od ra ac) b 2 2 = some top := by simp [xgI, xg, hp_0]
theorem hs_top {b : Nat} {W : XH} {cap flo top eva lim rul rc uc rn dn lev dry : Int32} {lo : Int64} {rf us : Nat → Nat → Int32} {od ra ac : Nat → Int32} (v : Int32) : xpV (hp b W cap flo top eva lim rul rc uc rn dn lev dry lo rf us od ra ac) b 2 2 (.int v) = some (hp b W cap flo v eva lim rul rc uc rn dn lev dry lo rf us od ra ac) := by
  simp only [xpV, hp_0]
  refine congrArg some ?_
  funext q
  by_cases hq : q = b
  · subst hq; rw [hp_0]; simp [xup]
  · rw [xup_ne _ _ hq]; simp only [hp, if_neg hq]
theorem hg_eva {b : Nat} {W : XH} {cap flo top eva lim rul rc uc rn dn lev dry : Int32} {lo : Int64} {rf us : Nat → Nat → Int32} {od ra ac : Nat → Int32} : xgI (hp b W cap flo top eva lim rul rc uc rn dn lev dry lo rf us od ra ac) b 2 3 = some eva := by simp [xgI, xg, hp_0]
theorem hs_eva {b : Nat} {W : XH} {cap flo top eva lim rul rc uc rn dn lev dry : Int32} {lo : Int64} {rf us : Nat → Nat → Int32} {od ra ac : Nat → Int32} (v : Int32) : xpV (hp b W cap flo top eva lim rul rc uc rn dn lev dry lo rf us od ra ac) b 2 3 (.int v) = some (hp b W cap flo top v lim rul rc uc rn dn lev dry lo rf us od ra ac) := by
  simp only [xpV, hp_0]
  refine congrArg some ?_
  funext q
  by_cases hq : q = b
  · subst hq; rw [hp_0]; simp [xup]
  · rw [xup_ne _ _ hq]; simp only [hp, if_neg hq]
theorem hg_lim {b : Nat} {W : XH} {cap flo top eva lim rul rc uc rn dn lev dry : Int32} {lo : Int64} {rf us : Nat → Nat → Int32} {od ra ac : Nat → Int32} : xgI (hp b W cap flo top eva lim rul rc uc rn dn lev dry lo rf us od ra ac) b 2 4 = some lim := by simp [xgI, xg, hp_0]
theorem hs_lim {b : Nat} {W : XH} {cap flo top eva lim rul rc uc rn dn lev dry : Int32} {lo : Int64} {rf us : Nat → Nat → Int32} {od ra ac : Nat → Int32} (v : Int32) : xpV (hp b W cap flo top eva lim rul rc uc rn dn lev dry lo rf us od ra ac) b 2 4 (.int v) = some (hp b W cap flo top eva v rul rc uc rn dn lev dry lo rf us od ra ac) := by
  simp only [xpV, hp_0]
  refine congrArg some ?_
  funext q
  by_cases hq : q = b
  · subst hq; rw [hp_0]; simp [xup]
  · rw [xup_ne _ _ hq]; simp only [hp, if_neg hq]
theorem hg_rul {b : Nat} {W : XH} {cap flo top eva lim rul rc uc rn dn lev dry : Int32} {lo : Int64} {rf us : Nat → Nat → Int32} {od ra ac : Nat → Int32} : xgI (hp b W cap flo top eva lim rul rc uc rn dn lev dry lo rf us od ra ac) b 2 5 = some rul := by simp [xgI, xg, hp_0]
theorem hs_rul {b : Nat} {W : XH} {cap flo top eva lim rul rc uc rn dn lev dry : Int32} {lo : Int64} {rf us : Nat → Nat → Int32} {od ra ac : Nat → Int32} (v : Int32) : xpV (hp b W cap flo top eva lim rul rc uc rn dn lev dry lo rf us od ra ac) b 2 5 (.int v) = some (hp b W cap flo top eva lim v rc uc rn dn lev dry lo rf us od ra ac) := by
  simp only [xpV, hp_0]
  refine congrArg some ?_
  funext q
  by_cases hq : q = b
  · subst hq; rw [hp_0]; simp [xup]
  · rw [xup_ne _ _ hq]; simp only [hp, if_neg hq]
theorem hg_rc {b : Nat} {W : XH} {cap flo top eva lim rul rc uc rn dn lev dry : Int32} {lo : Int64} {rf us : Nat → Nat → Int32} {od ra ac : Nat → Int32} : xgI (hp b W cap flo top eva lim rul rc uc rn dn lev dry lo rf us od ra ac) b 2 7 = some rc := by simp [xgI, xg, hp_0]
theorem hs_rc {b : Nat} {W : XH} {cap flo top eva lim rul rc uc rn dn lev dry : Int32} {lo : Int64} {rf us : Nat → Nat → Int32} {od ra ac : Nat → Int32} (v : Int32) : xpV (hp b W cap flo top eva lim rul rc uc rn dn lev dry lo rf us od ra ac) b 2 7 (.int v) = some (hp b W cap flo top eva lim rul v uc rn dn lev dry lo rf us od ra ac) := by
  simp only [xpV, hp_0]
  refine congrArg some ?_
  funext q
  by_cases hq : q = b
  · subst hq; rw [hp_0]; simp [xup]
  · rw [xup_ne _ _ hq]; simp only [hp, if_neg hq]
theorem hg_rn {b : Nat} {W : XH} {cap flo top eva lim rul rc uc rn dn lev dry : Int32} {lo : Int64} {rf us : Nat → Nat → Int32} {od ra ac : Nat → Int32} : xgI (hp b W cap flo top eva lim rul rc uc rn dn lev dry lo rf us od ra ac) b 2 10 = some rn := by simp [xgI, xg, hp_0]
theorem hs_rn {b : Nat} {W : XH} {cap flo top eva lim rul rc uc rn dn lev dry : Int32} {lo : Int64} {rf us : Nat → Nat → Int32} {od ra ac : Nat → Int32} (v : Int32) : xpV (hp b W cap flo top eva lim rul rc uc rn dn lev dry lo rf us od ra ac) b 2 10 (.int v) = some (hp b W cap flo top eva lim rul rc uc v dn lev dry lo rf us od ra ac) := by
  simp only [xpV, hp_0]
  refine congrArg some ?_
  funext q
  by_cases hq : q = b
  · subst hq; rw [hp_0]; simp [xup]
  · rw [xup_ne _ _ hq]; simp only [hp, if_neg hq]
theorem hg_dn {b : Nat} {W : XH} {cap flo top eva lim rul rc uc rn dn lev dry : Int32} {lo : Int64} {rf us : Nat → Nat → Int32} {od ra ac : Nat → Int32} : xgI (hp b W cap flo top eva lim rul rc uc rn dn lev dry lo rf us od ra ac) b 2 11 = some dn := by simp [xgI, xg, hp_0]
theorem hs_dn {b : Nat} {W : XH} {cap flo top eva lim rul rc uc rn dn lev dry : Int32} {lo : Int64} {rf us : Nat → Nat → Int32} {od ra ac : Nat → Int32} (v : Int32) : xpV (hp b W cap flo top eva lim rul rc uc rn dn lev dry lo rf us od ra ac) b 2 11 (.int v) = some (hp b W cap flo top eva lim rul rc uc rn v lev dry lo rf us od ra ac) := by
  simp only [xpV, hp_0]
  refine congrArg some ?_
  funext q
  by_cases hq : q = b
  · subst hq; rw [hp_0]; simp [xup]
  · rw [xup_ne _ _ hq]; simp only [hp, if_neg hq]
theorem hg_lev {b : Nat} {W : XH} {cap flo top eva lim rul rc uc rn dn lev dry : Int32} {lo : Int64} {rf us : Nat → Nat → Int32} {od ra ac : Nat → Int32} : xgI (hp b W cap flo top eva lim rul rc uc rn dn lev dry lo rf us od ra ac) b 2 12 = some lev := by simp [xgI, xg, hp_0]
theorem hs_lev {b : Nat} {W : XH} {cap flo top eva lim rul rc uc rn dn lev dry : Int32} {lo : Int64} {rf us : Nat → Nat → Int32} {od ra ac : Nat → Int32} (v : Int32) : xpV (hp b W cap flo top eva lim rul rc uc rn dn lev dry lo rf us od ra ac) b 2 12 (.int v) = some (hp b W cap flo top eva lim rul rc uc rn dn v dry lo rf us od ra ac) := by
  simp only [xpV, hp_0]
  refine congrArg some ?_
  funext q
  by_cases hq : q = b
  · subst hq; rw [hp_0]; simp [xup]
  · rw [xup_ne _ _ hq]; simp only [hp, if_neg hq]
theorem hg_dry {b : Nat} {W : XH} {cap flo top eva lim rul rc uc rn dn lev dry : Int32} {lo : Int64} {rf us : Nat → Nat → Int32} {od ra ac : Nat → Int32} : xgI (hp b W cap flo top eva lim rul rc uc rn dn lev dry lo rf us od ra ac) b 2 13 = some dry := by simp [xgI, xg, hp_0]
theorem hs_dry {b : Nat} {W : XH} {cap flo top eva lim rul rc uc rn dn lev dry : Int32} {lo : Int64} {rf us : Nat → Nat → Int32} {od ra ac : Nat → Int32} (v : Int32) : xpV (hp b W cap flo top eva lim rul rc uc rn dn lev dry lo rf us od ra ac) b 2 13 (.int v) = some (hp b W cap flo top eva lim rul rc uc rn dn lev v lo rf us od ra ac) := by
  simp only [xpV, hp_0]
  refine congrArg some ?_
  funext q
  by_cases hq : q = b
  · subst hq; rw [hp_0]; simp [xup]
  · rw [xup_ne _ _ hq]; simp only [hp, if_neg hq]
theorem hg_lo {b : Nat} {W : XH} {cap flo top eva lim rul rc uc rn dn lev dry : Int32} {lo : Int64} {rf us : Nat → Nat → Int32} {od ra ac : Nat → Int32} : xgL (hp b W cap flo top eva lim rul rc uc rn dn lev dry lo rf us od ra ac) b 2 14 = some lo := by simp [xgL, xg, hp_0]
theorem hs_lo {b : Nat} {W : XH} {cap flo top eva lim rul rc uc rn dn lev dry : Int32} {lo : Int64} {rf us : Nat → Nat → Int32} {od ra ac : Nat → Int32} (v : Int64) : xpV (hp b W cap flo top eva lim rul rc uc rn dn lev dry lo rf us od ra ac) b 2 14 (.long v) = some (hp b W cap flo top eva lim rul rc uc rn dn lev dry v rf us od ra ac) := by
  simp only [xpV, hp_0]
  refine congrArg some ?_
  funext q
  by_cases hq : q = b
  · subst hq; rw [hp_0]; simp [xup]
  · rw [xup_ne _ _ hq]; simp only [hp, if_neg hq]
theorem hg_roofs {b : Nat} {W : XH} {cap flo top eva lim rul rc uc rn dn lev dry : Int32} {lo : Int64} {rf us : Nat → Nat → Int32} {od ra ac : Nat → Int32} : xgR (hp b W cap flo top eva lim rul rc uc rn dn lev dry lo rf us od ra ac) b 2 6 = some (b + 1) := by simp [xgR, xg, hp_0]
theorem hg_users {b : Nat} {W : XH} {cap flo top eva lim rul rc uc rn dn lev dry : Int32} {lo : Int64} {rf us : Nat → Nat → Int32} {od ra ac : Nat → Int32} : xgR (hp b W cap flo top eva lim rul rc uc rn dn lev dry lo rf us od ra ac) b 2 8 = some (b + 8) := by simp [xgR, xg, hp_0]
theorem hg_rains {b : Nat} {W : XH} {cap flo top eva lim rul rc uc rn dn lev dry : Int32} {lo : Int64} {rf us : Nat → Nat → Int32} {od ra ac : Nat → Int32} : xgR (hp b W cap flo top eva lim rul rc uc rn dn lev dry lo rf us od ra ac) b 2 9 = some (b + 16) := by simp [xgR, xg, hp_0]
theorem hg_accounts {b : Nat} {W : XH} {cap flo top eva lim rul rc uc rn dn lev dry : Int32} {lo : Int64} {rf us : Nat → Nat → Int32} {od ra ac : Nat → Int32} : xgR (hp b W cap flo top eva lim rul rc uc rn dn lev dry lo rf us od ra ac) b 2 15 = some (b + 17) := by simp [xgR, xg, hp_0]
theorem hi_st {b : Nat} {W : XH} {cap flo top eva lim rul rc uc rn dn lev dry : Int32} {lo : Int64} {rf us : Nat → Nat → Int32} {od ra ac : Nat → Int32} : xis (hp b W cap flo top eva lim rul rc uc rn dn lev dry lo rf us od ra ac) b 2 = some () := by simp [xis, hp_0]
theorem hi_us {b : Nat} {W : XH} {cap flo top eva lim rul rc uc rn dn lev dry : Int32} {lo : Int64} {rf us : Nat → Nat → Int32} {od ra ac : Nat → Int32} : xis (hp b W cap flo top eva lim rul rc uc rn dn lev dry lo rf us od ra ac) (b + 8) 4 = some () := by simp [xis, hp_8]
theorem hg_rows {b : Nat} {W : XH} {cap flo top eva lim rul rc uc rn dn lev dry : Int32} {lo : Int64} {rf us : Nat → Nat → Int32} {od ra ac : Nat → Int32} : xgR (hp b W cap flo top eva lim rul rc uc rn dn lev dry lo rf us od ra ac) (b + 8) 4 0 = some (b + 9) := by simp [xgR, xg, hp_8]
theorem hg_uc {b : Nat} {W : XH} {cap flo top eva lim rul rc uc rn dn lev dry : Int32} {lo : Int64} {rf us : Nat → Nat → Int32} {od ra ac : Nat → Int32} : xgI (hp b W cap flo top eva lim rul rc uc rn dn lev dry lo rf us od ra ac) (b + 8) 4 1 = some uc := by simp [xgI, xg, hp_8]
theorem hg_order {b : Nat} {W : XH} {cap flo top eva lim rul rc uc rn dn lev dry : Int32} {lo : Int64} {rf us : Nat → Nat → Int32} {od ra ac : Nat → Int32} : xgR (hp b W cap flo top eva lim rul rc uc rn dn lev dry lo rf us od ra ac) (b + 8) 4 2 = some (b + 15) := by simp [xgR, xg, hp_8]
theorem hs_uc {b : Nat} {W : XH} {cap flo top eva lim rul rc uc rn dn lev dry : Int32} {lo : Int64} {rf us : Nat → Nat → Int32} {od ra ac : Nat → Int32} (v : Int32) : xpV (hp b W cap flo top eva lim rul rc uc rn dn lev dry lo rf us od ra ac) (b + 8) 4 1 (.int v) = some (hp b W cap flo top eva lim rul rc v rn dn lev dry lo rf us od ra ac) := by
  simp only [xpV, hp_8]
  refine congrArg some ?_
  funext q
  by_cases hq : q = b + 8
  · subst hq; rw [hp_8]; simp [xup]
  · rw [xup_ne _ _ hq]; simp only [hp, if_neg hq]
theorem hi_roof {b : Nat} {W : XH} {cap flo top eva lim rul rc uc rn dn lev dry : Int32} {lo : Int64} {rf us : Nat → Nat → Int32} {od ra ac : Nat → Int32} {i : Nat} (hi : i < 6) : xis (hp b W cap flo top eva lim rul rc uc rn dn lev dry lo rf us od ra ac) (b + 2 + i) 1 = some () := by simp [xis, hp_roof hi]
theorem hi_user {b : Nat} {W : XH} {cap flo top eva lim rul rc uc rn dn lev dry : Int32} {lo : Int64} {rf us : Nat → Nat → Int32} {od ra ac : Nat → Int32} {i : Nat} (hi : i < 5) : xis (hp b W cap flo top eva lim rul rc uc rn dn lev dry lo rf us od ra ac) (b + 10 + i) 3 = some () := by simp [xis, hp_user hi]
theorem xlt6 {j : Nat} (h : j < 6) : j = 0 ∨ j = 1 ∨ j = 2 ∨ j = 3 ∨ j = 4 ∨ j = 5 := by omega
theorem xlt4 {j : Nat} (h : j < 4) : j = 0 ∨ j = 1 ∨ j = 2 ∨ j = 3 := by omega
theorem hg_rf {b : Nat} {W : XH} {cap flo top eva lim rul rc uc rn dn lev dry : Int32} {lo : Int64} {rf us : Nat → Nat → Int32} {od ra ac : Nat → Int32} {i j : Nat} (hi : i < 6) (hj : j < 6) : xgI (hp b W cap flo top eva lim rul rc uc rn dn lev dry lo rf us od ra ac) (b + 2 + i) 1 j = some (rf i j) := by
  rcases xlt6 hj with rfl | rfl | rfl | rfl | rfl | rfl <;> simp [xgI, xg, hp_roof hi]
theorem hg_usr {b : Nat} {W : XH} {cap flo top eva lim rul rc uc rn dn lev dry : Int32} {lo : Int64} {rf us : Nat → Nat → Int32} {od ra ac : Nat → Int32} {i j : Nat} (hi : i < 5) (hj : j < 4) : xgI (hp b W cap flo top eva lim rul rc uc rn dn lev dry lo rf us od ra ac) (b + 10 + i) 3 j = some (us i j) := by
  rcases xlt4 hj with rfl | rfl | rfl | rfl <;> simp [xgI, xg, hp_user hi]
theorem hs_rf {b : Nat} {W : XH} {cap flo top eva lim rul rc uc rn dn lev dry : Int32} {lo : Int64} {rf us : Nat → Nat → Int32} {od ra ac : Nat → Int32} {i j : Nat} (hi : i < 6) (hj : j < 6) (v : Int32) : xpV (hp b W cap flo top eva lim rul rc uc rn dn lev dry lo rf us od ra ac) (b + 2 + i) 1 j (.int v) = some (hp b W cap flo top eva lim rul rc uc rn dn lev dry lo (xup rf i (xup (rf i) j v)) us od ra ac) := by
  simp only [xpV, hp_roof hi]
  rw [if_pos ⟨trivial, by simpa using hj⟩]
  refine congrArg some ?_
  funext q
  by_cases hq : q = b + 2 + i
  · subst hq
    rw [xup_self, hp_roof hi]
    rcases xlt6 hj with rfl | rfl | rfl | rfl | rfl | rfl <;> simp [xup]
  · rw [xup_ne _ _ hq]
    by_cases h1 : b + 2 ≤ q ∧ q < b + 8
    · obtain ⟨k, rfl⟩ : ∃ k, q = b + 2 + k := ⟨q - (b + 2), by omega⟩
      have hk : k < 6 := by omega
      have hki : k ≠ i := by omega
      rw [hp_roof hk, hp_roof hk, xup_ne _ _ hki]
    · simp only [hp, if_neg h1]
theorem hs_usr {b : Nat} {W : XH} {cap flo top eva lim rul rc uc rn dn lev dry : Int32} {lo : Int64} {rf us : Nat → Nat → Int32} {od ra ac : Nat → Int32} {i j : Nat} (hi : i < 5) (hj : j < 4) (v : Int32) : xpV (hp b W cap flo top eva lim rul rc uc rn dn lev dry lo rf us od ra ac) (b + 10 + i) 3 j (.int v) = some (hp b W cap flo top eva lim rul rc uc rn dn lev dry lo rf (xup us i (xup (us i) j v)) od ra ac) := by
  simp only [xpV, hp_user hi]
  rw [if_pos ⟨trivial, by simpa using hj⟩]
  refine congrArg some ?_
  funext q
  by_cases hq : q = b + 10 + i
  · subst hq
    rw [xup_self, hp_user hi]
    rcases xlt4 hj with rfl | rfl | rfl | rfl <;> simp [xup]
  · rw [xup_ne _ _ hq]
    by_cases h1 : b + 10 ≤ q ∧ q < b + 15
    · obtain ⟨k, rfl⟩ : ∃ k, q = b + 10 + k := ⟨q - (b + 10), by omega⟩
      have hk : k < 5 := by omega
      have hki : k ≠ i := by omega
      rw [hp_user hk, hp_user hk, xup_ne _ _ hki]
    · simp only [hp, if_neg h1]
theorem xin_lt {i : Int32} {n : Nat} (h : xin i n = true) : i.toNatClampNeg < n := by
  simp only [xin, Bool.and_eq_true, decide_eq_true_eq] at h
  exact h.2
theorem hq_roof {b : Nat} {W : XH} {cap flo top eva lim rul rc uc rn dn lev dry : Int32} {lo : Int64} {rf us : Nat → Nat → Int32} {od ra ac : Nat → Int32} {i : Int32} (hi : xin i 6 = true) : xaldR (hp b W cap flo top eva lim rul rc uc rn dn lev dry lo rf us od ra ac) (b + 1) 3 i = some (b + 2 + i.toNatClampNeg) := by
  simp [xaldR, hp_1, hi, xrefs, xin_lt hi]
theorem hq_user {b : Nat} {W : XH} {cap flo top eva lim rul rc uc rn dn lev dry : Int32} {lo : Int64} {rf us : Nat → Nat → Int32} {od ra ac : Nat → Int32} {i : Int32} (hi : xin i 5 = true) : xaldR (hp b W cap flo top eva lim rul rc uc rn dn lev dry lo rf us od ra ac) (b + 9) 5 i = some (b + 10 + i.toNatClampNeg) := by
  simp [xaldR, hp_9, hi, xrefs, xin_lt hi]
theorem hl_od {b : Nat} {W : XH} {cap flo top eva lim rul rc uc rn dn lev dry : Int32} {lo : Int64} {rf us : Nat → Nat → Int32} {od ra ac : Nat → Int32} {i : Int32} (hi : xin i 5 = true) : xald (hp b W cap flo top eva lim rul rc uc rn dn lev dry lo rf us od ra ac) (b + 15) 0 i = some (od i.toNatClampNeg) := by simp [xald, hp_15, hi]
theorem ht_od {b : Nat} {W : XH} {cap flo top eva lim rul rc uc rn dn lev dry : Int32} {lo : Int64} {rf us : Nat → Nat → Int32} {od ra ac : Nat → Int32} {i : Int32} (hi : xin i 5 = true) (v : Int32) : xast (hp b W cap flo top eva lim rul rc uc rn dn lev dry lo rf us od ra ac) (b + 15) 0 i v = some (hp b W cap flo top eva lim rul rc uc rn dn lev dry lo rf us (xup od i.toNatClampNeg v) ra ac) := by
  simp only [xast, hp_15]
  rw [if_pos ⟨trivial, hi⟩]
  refine congrArg some ?_
  funext q
  by_cases hq : q = b + 15
  · subst hq; rw [hp_15, xup_self]
  · rw [xup_ne _ _ hq]; simp only [hp, if_neg hq]
theorem hl_ra {b : Nat} {W : XH} {cap flo top eva lim rul rc uc rn dn lev dry : Int32} {lo : Int64} {rf us : Nat → Nat → Int32} {od ra ac : Nat → Int32} {i : Int32} (hi : xin i 100 = true) : xald (hp b W cap flo top eva lim rul rc uc rn dn lev dry lo rf us od ra ac) (b + 16) 0 i = some (ra i.toNatClampNeg) := by simp [xald, hp_16, hi]
theorem ht_ra {b : Nat} {W : XH} {cap flo top eva lim rul rc uc rn dn lev dry : Int32} {lo : Int64} {rf us : Nat → Nat → Int32} {od ra ac : Nat → Int32} {i : Int32} (hi : xin i 100 = true) (v : Int32) : xast (hp b W cap flo top eva lim rul rc uc rn dn lev dry lo rf us od ra ac) (b + 16) 0 i v = some (hp b W cap flo top eva lim rul rc uc rn dn lev dry lo rf us od (xup ra i.toNatClampNeg v) ac) := by
  simp only [xast, hp_16]
  rw [if_pos ⟨trivial, hi⟩]
  refine congrArg some ?_
  funext q
  by_cases hq : q = b + 16
  · subst hq; rw [hp_16, xup_self]
  · rw [xup_ne _ _ hq]; simp only [hp, if_neg hq]
theorem hl_ac {b : Nat} {W : XH} {cap flo top eva lim rul rc uc rn dn lev dry : Int32} {lo : Int64} {rf us : Nat → Nat → Int32} {od ra ac : Nat → Int32} {i : Int32} (hi : xin i 1000 = true) : xald (hp b W cap flo top eva lim rul rc uc rn dn lev dry lo rf us od ra ac) (b + 17) 0 i = some (ac i.toNatClampNeg) := by simp [xald, hp_17, hi]
theorem ht_ac {b : Nat} {W : XH} {cap flo top eva lim rul rc uc rn dn lev dry : Int32} {lo : Int64} {rf us : Nat → Nat → Int32} {od ra ac : Nat → Int32} {i : Int32} (hi : xin i 1000 = true) (v : Int32) : xast (hp b W cap flo top eva lim rul rc uc rn dn lev dry lo rf us od ra ac) (b + 17) 0 i v = some (hp b W cap flo top eva lim rul rc uc rn dn lev dry lo rf us od ra (xup ac i.toNatClampNeg v)) := by
  simp only [xast, hp_17]
  rw [if_pos ⟨trivial, hi⟩]
  refine congrArg some ?_
  funext q
  by_cases hq : q = b + 17
  · subst hq; rw [hp_17, xup_self]
  · rw [xup_ne _ _ hq]; simp only [hp, if_neg hq]

