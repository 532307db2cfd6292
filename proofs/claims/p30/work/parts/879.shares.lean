/-! The model's sharing is the class's. -/
theorem clr2_row (n : Nat) (us : UT) (i j : Nat) : u_clr2 n us i j = if i < n ∧ j = 2 then 0 else us i j := by
  have e : u_clr2 n us = u_map (fun _ r => xup r 2 0) n us := it_map (fun _ r => xup r 2 0) n us
  rw [e]
  unfold u_map
  by_cases c : i < n
  · rw [if_pos c]
    show xup (us i) 2 0 j = _
    by_cases c2 : j = 2
    · subst c2; rw [xup_self, if_pos ⟨c, rfl⟩]
    · rw [xup_ne _ _ c2, if_neg (fun h => c2 h.2)]
  · rw [if_neg c, if_neg (fun h => c h.1)]
theorem clr2_z (n : Nat) (us : UT) : u_z n (u_clr2 n us) := fun i hi => by rw [clr2_row, if_pos ⟨hi, rfl⟩]
theorem clr2_ok {n : Nat} {us : UT} (h : u_ok n us) : u_ok n (u_clr2 n us) := by
  intro i hi
  rw [clr2_row, clr2_row, if_neg (by omega), if_neg (by omega)]
  exact h i hi
theorem isum_eq (f g : Nat → Int32) (n : Nat) (h : ∀ i, i < n → f i = g i) : isum f n = isum g n := by
  induction n with
  | zero => rfl
  | succ n ih => simp only [isum]; rw [ih (fun i hi => h i (by omega)), h n (by omega)]
theorem clr2_dem (n : Nat) (us : UT) : u_dem n (u_clr2 n us) = u_dem n us := isum_eq _ _ _ (fun i _ => by show u_clr2 n us i 0 = us i 0; rw [clr2_row, if_neg (by omega)])
theorem isum_0 {f : Nat → Int32} {n : Nat} (h : ∀ i, i < n → f i = 0) : isum f n = 0 := by
  induction n with
  | zero => rfl
  | succ n ih => simp only [isum]; rw [ih (fun i hi => h i (by omega)), h n (by omega)]; rfl
def u_ever (n : Nat) (us : UT) : UT := it (fun i u => xup u i (xup (u i) 3 (u i 3 + u i 2))) us n
theorem u_got_eq (n : Nat) (us : UT) : u_got n us = (isum (fun i => us i 2) n, u_ever n us) := by
  have h := it_two (fun i (x : Int32 × UT) (y : UT) => x.1 = isum (fun i => us i 2) i ∧ x.2 = y ∧ ∀ j, y j 2 = us j 2) (fun i x => (x.1 + x.2 i 2, xup x.2 i (xup (x.2 i) 3 (x.2 i 3 + x.2 i 2)))) (fun i u => xup u i (xup (u i) 3 (u i 3 + u i 2))) n (a := (0, us)) (b := us) ⟨rfl, rfl, fun _ => rfl⟩ ?_
  · exact Prod.ext h.1 h.2.1
  · rintro i ⟨g, v⟩ y hi ⟨h1, h2, h3⟩
    simp only at h1 h2
    subst h1 h2
    refine ⟨?_, rfl, ?_⟩
    · show isum _ i + v i 2 = isum _ i + us i 2
      rw [h3]
    · intro j
      by_cases c : j = i
      · subst c; rw [xup_self, xup_ne _ _ (by decide)]; exact h3 _
      · rw [xup_ne _ _ c]; exact h3 j
theorem its_sum (mu : UT → Nat → Int32) (n : Nat) (x : Int32 × UT) (m : Nat) : (it (fun _ y => m_pass mu n y) x m).1 + isum (fun j => (it (fun _ y => m_pass mu n y) x m).2 j 2) n = x.1 + isum (fun j => x.2 j 2) n := by
  induction m with
  | zero => rfl
  | succ m ih => rw [it_s, m_sum, ih]
theorem ss_sum {s : Nat → Nat} {n : Nat} (hs : ∀ j, j < n → s j < n) (x : Int32 × UT) : (m_ss s n x).1 + isum (fun j => (m_ss s n x).2 j 2) n = x.1 + isum (fun j => x.2 j 2) n := by
  refine it_inv (fun _ (y : Int32 × UT) => y.1 + isum (fun j => y.2 j 2) n = x.1 + isum (fun j => x.2 j 2) n) _ n rfl ?_
  intro i y hi h
  simp only [m_giv]
  rw [isum_up, if_pos (hs i hi), xup_self, ← h]
  grind
section PS6
variable {b : Nat} {W : XH} {cap flo top eva lim rul rc uc rn dn lev dry ap : Int32} {rf us : Nat → Nat → Int32} {ra ac sv as : Nat → Int32} {sm th : Int32} {sd : Int64} {td : Int32} {sp : Nat → Int64} {lf : Int32} {tx : Nat → Int32} {tl pl nb : Int32}
variable {fu n : Nat}
end PS6

