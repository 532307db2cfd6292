/-! All days from the start: the numbers, and the model's way through them. -/
def t_C (k : Nat) (lim : Int32) (ra : Nat → Int32) (rf0 : UT) (d : Nat) : Int32 × UT := it (fun d x => (c_dry x.1 (ra d), (c_day k lim x.1 (ra d) x.2).2.2.2)) (0, rf0) d
def t_inf (k : Nat) (lim : Int32) (ra : Nat → Int32) (rf0 : UT) (d : Nat) : Int32 := (c_day k lim (t_C k lim ra rf0 d).1 (ra d) (t_C k lim ra rf0 d).2).1
def t_S (cap flo top eva rul : Int32) (n : Nat) (inf : Nat → Int32) (us0 : UT) (d : Nat) : Int32 × UT × Int32 :=
  it (fun d (x : Int32 × UT × Int32) => (s_lev5 cap flo top eva rul x.1 (inf d) n od0 x.2.1, (s_hand cap flo eva rul x.1 (inf d) n od0 x.2.1).2, x.2.2 + xb01 (s_avl cap flo eva x.1 (inf d) < u_dem n x.2.1))) (0, us0, 0) d
def s_cf0 (cap flo top eva : Int32) : Prop := (100 ≤ cap.toInt ∧ cap.toInt ≤ 60000) ∧ (0 ≤ flo.toInt ∧ flo.toInt ≤ cap.toInt) ∧ (0 ≤ top.toInt ∧ top.toInt ≤ cap.toInt) ∧ (0 ≤ eva.toInt ∧ eva.toInt ≤ 100)
theorem s_cf_lev {cap flo top eva lev : Int32} (h : s_cf0 cap flo top eva) (hl : 0 ≤ lev.toInt ∧ lev.toInt ≤ cap.toInt) : s_cfg cap flo top eva lev := ⟨h.1, h.2.1, h.2.2.1, h.2.2.2, hl.1, hl.2⟩
theorem xb01_ti (c : Prop) [Decidable c] : 0 ≤ (xb01 c).toInt ∧ (xb01 c).toInt ≤ 1 := by
  unfold xb01
  by_cases h : c
  · rw [if_pos h]; decide
  · rw [if_neg h]; decide
theorem t_C_ok {k : Nat} {lim : Int32} {ra : Nat → Int32} {rf0 : UT} {N : Nat} (hk : k ≤ 6) (ho : r_ok k rf0) (hr : ∀ d, d < N → 0 ≤ (ra d).toInt ∧ (ra d).toInt ≤ 200) (d : Nat) (hd : d ≤ N) : r_ok k (t_C k lim ra rf0 d).2 :=
  it_inv (fun _ (x : Int32 × UT) => r_ok k x.2) _ d ho (fun i x hi hx => (R5_day (sp := fun _ => 0) hk (fun _ _ _ _ => rfl) hx lim x.1 (hr i (by omega))).2.1.2)
theorem t_inf_rng {k : Nat} {lim : Int32} {ra : Nat → Int32} {rf0 : UT} {N : Nat} (hk : k ≤ 6) (ho : r_ok k rf0) (hr : ∀ d, d < N → 0 ≤ (ra d).toInt ∧ (ra d).toInt ≤ 200) (d : Nat) (hd : d < N) : 0 ≤ (t_inf k lim ra rf0 d).toInt ∧ (t_inf k lim ra rf0 d).toInt ≤ 1000000 := by
  have h1 := t_C_ok (lim := lim) hk ho hr d (by omega)
  have h2 := R5_day (sp := fun _ => 0) hk (fun _ _ _ _ => rfl) h1 lim (t_C k lim ra rf0 d).1 (hr d hd)
  unfold t_inf
  rw [h2.1.1]
  have h3 := m_rfs_rng (sp := fun _ => 0) hk (r_ok_drn h1 lim (t_C k lim ra rf0 d).1 (ra d)) (hr d hd) k (Nat.le_refl k)
  have e : m_rfs k (ra d) (0, 0, 0, (c_drn k lim (t_C k lim ra rf0 d).1 (ra d) (t_C k lim ra rf0 d).2).2, fun _ => 0) = m_day k lim (t_C k lim ra rf0 d).1 (ra d) (t_C k lim ra rf0 d).2 (fun _ => 0) := rfl
  rw [e] at h3
  omega
theorem t_S_ok {cap flo top eva rul : Int32} {n : Nat} {inf : Nat → Int32} {us0 : UT} {N : Nat} (hn : n ≤ 5) (hc : s_cf0 cap flo top eva) (ho : u_ok n us0) (hi : ∀ d, d < N → 0 ≤ (inf d).toInt ∧ (inf d).toInt ≤ 1000000) (d : Nat) (hd : d ≤ N) :
    (0 ≤ (t_S cap flo top eva rul n inf us0 d).1.toInt ∧ (t_S cap flo top eva rul n inf us0 d).1.toInt ≤ cap.toInt) ∧ u_ok n (t_S cap flo top eva rul n inf us0 d).2.1 := by
  refine it_inv (fun _ (x : Int32 × UT × Int32) => (0 ≤ x.1.toInt ∧ x.1.toInt ≤ cap.toInt) ∧ u_ok n x.2.1) _ d ⟨⟨by rw [ti_0]; omega, by rw [ti_0]; have := hc.1; omega⟩, ho⟩ ?_
  rintro i ⟨l, v, c⟩ hid ⟨h1, h2⟩
  exact ⟨(s_rng (rul := rul) hn h2 (s_cf_lev hc h1) (hi i (by omega)) od0).2.2.2, u_ok_col (u_col_hand _ _ _ _ _) h2⟩
theorem t_S_cnt {cap flo top eva rul : Int32} {n : Nat} {inf : Nat → Int32} {us0 : UT} (d : Nat) (hd : d ≤ 1000000) : (0 ≤ (t_S cap flo top eva rul n inf us0 d).2.2.toInt ∧ (t_S cap flo top eva rul n inf us0 d).2.2.toInt ≤ d) := by
  refine it_inv (fun i (x : Int32 × UT × Int32) => 0 ≤ x.2.2.toInt ∧ x.2.2.toInt ≤ i) _ d ⟨show 0 ≤ (0 : Int32).toInt by decide, show (0 : Int32).toInt ≤ ((0 : Nat) : Int) by decide⟩ ?_
  rintro i ⟨l, v, c⟩ hid ⟨h1, h2⟩
  simp only at h1 h2 ⊢
  have hb := xb01_ti (s_avl cap flo eva l (inf i) < u_dem n v)
  rw [ti_add (by omega) (by omega)]
  omega
theorem t_S_mono {cap flo top eva rul : Int32} {n : Nat} {inf : Nat → Int32} {us0 : UT} {d e : Nat} (h : d ≤ e) (he : e ≤ 1000000) : (t_S cap flo top eva rul n inf us0 d).2.2.toInt ≤ (t_S cap flo top eva rul n inf us0 e).2.2.toInt := by
  induction e with
  | zero => rw [show d = 0 by omega]; exact Int.le_refl _
  | succ e ih =>
    by_cases c : d = e + 1
    · subst c; exact Int.le_refl _
    · have h1 := ih (by omega) (by omega)
      have h2 := t_S_cnt (cap := cap) (flo := flo) (top := top) (eva := eva) (rul := rul) (n := n) (inf := inf) (us0 := us0) e (by omega)
      have e1 : (t_S cap flo top eva rul n inf us0 (e + 1)).2.2 = (t_S cap flo top eva rul n inf us0 e).2.2 + xb01 (s_avl cap flo eva (t_S cap flo top eva rul n inf us0 e).1 (inf e) < u_dem n (t_S cap flo top eva rul n inf us0 e).2.1) := rfl
      have hb := xb01_ti (s_avl cap flo eva (t_S cap flo top eva rul n inf us0 e).1 (inf e) < u_dem n (t_S cap flo top eva rul n inf us0 e).2.1)
      rw [e1, ti_add (by omega) (by omega)]
      omega
def mg_rf (k : Nat) (rf : UT) : UT := it (fun i r => xup r i (xup (r i) 4 0)) rf k
theorem g_rf_R5 {k : Nat} {rf rg : UT} (h : R5 k rf rg) : R5 k (g_rf k rf) (mg_rf k rg) ∧ ∀ i, i < k → g_rf k rf i 5 = 0 := by
  have key := it_two (fun i (x y : UT) => R5 k x y ∧ ∀ j, j < i → x j 5 = 0) (fun i r => xup r i (xup (xup (r i) 4 0) 5 0)) (fun i r => xup r i (xup (r i) 4 0)) k (a := rf) (b := rg) ⟨h, fun j hj => absurd hj (Nat.not_lt_zero _)⟩ ?_
  · exact key
  · rintro i x y hi ⟨h1, h2⟩
    refine ⟨?_, ?_⟩
    · intro j hj l hl
      by_cases c : j = i
      · subst c
        rw [xup_self, xup_self, xup_ne _ _ (show l ≠ 5 by omega)]
        by_cases c2 : l = 4
        · subst c2; rw [xup_self, xup_self]
        · rw [xup_ne _ _ c2, xup_ne _ _ c2]; exact h1 j hj l hl
      · rw [xup_ne _ _ c, xup_ne _ _ c]; exact h1 j hj l hl
    · intro j hj
      by_cases c : j = i
      · subst c; rw [xup_self, xup_self]
      · rw [xup_ne _ _ c]; exact h2 j (by omega)
theorem g_rf_ok {k : Nat} {rf : UT} (h : r_ok k rf) : r_ok k (g_rf k rf) := by
  refine it_inv (fun _ (x : UT) => r_ok k x) _ k h ?_
  intro i x hi hx j hj
  have h0 := hx j hj
  by_cases c : j = i
  · subst c
    rw [xup_self, xup_ne _ _ (show (0 : Nat) ≠ 5 by decide), xup_ne _ _ (show (1 : Nat) ≠ 5 by decide), xup_ne _ _ (show (2 : Nat) ≠ 5 by decide), xup_ne _ _ (show (3 : Nat) ≠ 5 by decide), xup_ne _ _ (show (4 : Nat) ≠ 5 by decide), xup_self,
      xup_ne _ _ (show (0 : Nat) ≠ 4 by decide), xup_ne _ _ (show (1 : Nat) ≠ 4 by decide), xup_ne _ _ (show (2 : Nat) ≠ 4 by decide), xup_ne _ _ (show (3 : Nat) ≠ 4 by decide), ti_0]
    omega
  · rw [xup_ne _ _ c]; exact h0
theorem u_clr_col (n : Nat) (us : UT) : u_col us (u_clr n us) := by
  refine it_inv (fun _ (x : UT) => u_col us x) _ n (fun _ => ⟨rfl, rfl⟩) ?_
  intro i x _ hx k
  by_cases c : k = i
  · subst c
    rw [xup_self, xup_ne _ _ (show (0 : Nat) ≠ 3 by decide), xup_ne _ _ (show (1 : Nat) ≠ 3 by decide), xup_ne _ _ (show (0 : Nat) ≠ 2 by decide), xup_ne _ _ (show (1 : Nat) ≠ 2 by decide)]
    exact hx _
  · rw [xup_ne _ _ c]; exact hx k
theorem xb01_if (c : Prop) [Decidable c] : (if xb01 c = 0 then (0 : Int32) else 1) = xb01 c := by
  simp only [xb01_0]
  unfold xb01
  by_cases h : c
  · rw [if_pos h, if_neg (fun hh => hh h)]
  · rw [if_neg h, if_pos h]
section PSA
variable {b : Nat} {W : XH} {cap flo top eva lim rul rc uc rn dn lev dry ap : Int32} {rf us : Nat → Nat → Int32} {ra ac sv as : Nat → Int32} {sm th : Int32} {sd : Int64} {td : Int32} {sp : Nat → Int64} {lf : Int32} {tx : Nat → Int32} {tl pl nb : Int32}
variable {fu n k N : Nat}
end PSA

