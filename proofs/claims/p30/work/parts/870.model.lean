/-! The model's object in the heap, six cells from b on. -/
def m_al (cap flo top eva lim rul rc uc rn dn lev dry ap : Int32) (rf us : Nat → Nat → Int32) (ra ac : Nat → Int32) : Nat → Int32 := fun k =>
  if k = 0 then cap else if k = 1 then flo else if k = 2 then top else if k = 3 then eva else if k = 4 then lim else if k = 5 then rul else if k = 6 then rc else if k = 7 then uc else if k = 8 then rn else if k = 9 then dn else if k = 10 then lev else if k = 11 then dry else if k = 12 then ap else
  if k < 43 then rf ((k - 13) / 5) ((k - 13) % 5) else if k < 63 then us ((k - 43) / 4) ((k - 43) % 4) else if k < 163 then ra (k - 63) else ac (k - 163)
theorem al_cap {cap flo top eva lim rul rc uc rn dn lev dry ap : Int32} {rf us : Nat → Nat → Int32} {ra ac : Nat → Int32} : (m_al cap flo top eva lim rul rc uc rn dn lev dry ap rf us ra ac) 0 = cap := rfl
theorem au_cap {cap flo top eva lim rul rc uc rn dn lev dry ap : Int32} {rf us : Nat → Nat → Int32} {ra ac : Nat → Int32} (v : Int32) : xup (m_al cap flo top eva lim rul rc uc rn dn lev dry ap rf us ra ac) 0 v = m_al v flo top eva lim rul rc uc rn dn lev dry ap rf us ra ac := by
  funext k
  by_cases h : k = 0
  · subst h; rw [xup_self]; rfl
  · rw [xup_ne _ _ h]; simp only [m_al, if_neg h]
theorem al_flo {cap flo top eva lim rul rc uc rn dn lev dry ap : Int32} {rf us : Nat → Nat → Int32} {ra ac : Nat → Int32} : (m_al cap flo top eva lim rul rc uc rn dn lev dry ap rf us ra ac) 1 = flo := rfl
theorem au_flo {cap flo top eva lim rul rc uc rn dn lev dry ap : Int32} {rf us : Nat → Nat → Int32} {ra ac : Nat → Int32} (v : Int32) : xup (m_al cap flo top eva lim rul rc uc rn dn lev dry ap rf us ra ac) 1 v = m_al cap v top eva lim rul rc uc rn dn lev dry ap rf us ra ac := by
  funext k
  by_cases h : k = 1
  · subst h; rw [xup_self]; rfl
  · rw [xup_ne _ _ h]; simp only [m_al, if_neg h]
theorem al_top {cap flo top eva lim rul rc uc rn dn lev dry ap : Int32} {rf us : Nat → Nat → Int32} {ra ac : Nat → Int32} : (m_al cap flo top eva lim rul rc uc rn dn lev dry ap rf us ra ac) 2 = top := rfl
theorem au_top {cap flo top eva lim rul rc uc rn dn lev dry ap : Int32} {rf us : Nat → Nat → Int32} {ra ac : Nat → Int32} (v : Int32) : xup (m_al cap flo top eva lim rul rc uc rn dn lev dry ap rf us ra ac) 2 v = m_al cap flo v eva lim rul rc uc rn dn lev dry ap rf us ra ac := by
  funext k
  by_cases h : k = 2
  · subst h; rw [xup_self]; rfl
  · rw [xup_ne _ _ h]; simp only [m_al, if_neg h]
theorem al_eva {cap flo top eva lim rul rc uc rn dn lev dry ap : Int32} {rf us : Nat → Nat → Int32} {ra ac : Nat → Int32} : (m_al cap flo top eva lim rul rc uc rn dn lev dry ap rf us ra ac) 3 = eva := rfl
theorem au_eva {cap flo top eva lim rul rc uc rn dn lev dry ap : Int32} {rf us : Nat → Nat → Int32} {ra ac : Nat → Int32} (v : Int32) : xup (m_al cap flo top eva lim rul rc uc rn dn lev dry ap rf us ra ac) 3 v = m_al cap flo top v lim rul rc uc rn dn lev dry ap rf us ra ac := by
  funext k
  by_cases h : k = 3
  · subst h; rw [xup_self]; rfl
  · rw [xup_ne _ _ h]; simp only [m_al, if_neg h]
theorem al_lim {cap flo top eva lim rul rc uc rn dn lev dry ap : Int32} {rf us : Nat → Nat → Int32} {ra ac : Nat → Int32} : (m_al cap flo top eva lim rul rc uc rn dn lev dry ap rf us ra ac) 4 = lim := rfl
theorem au_lim {cap flo top eva lim rul rc uc rn dn lev dry ap : Int32} {rf us : Nat → Nat → Int32} {ra ac : Nat → Int32} (v : Int32) : xup (m_al cap flo top eva lim rul rc uc rn dn lev dry ap rf us ra ac) 4 v = m_al cap flo top eva v rul rc uc rn dn lev dry ap rf us ra ac := by
  funext k
  by_cases h : k = 4
  · subst h; rw [xup_self]; rfl
  · rw [xup_ne _ _ h]; simp only [m_al, if_neg h]
theorem al_rul {cap flo top eva lim rul rc uc rn dn lev dry ap : Int32} {rf us : Nat → Nat → Int32} {ra ac : Nat → Int32} : (m_al cap flo top eva lim rul rc uc rn dn lev dry ap rf us ra ac) 5 = rul := rfl
theorem au_rul {cap flo top eva lim rul rc uc rn dn lev dry ap : Int32} {rf us : Nat → Nat → Int32} {ra ac : Nat → Int32} (v : Int32) : xup (m_al cap flo top eva lim rul rc uc rn dn lev dry ap rf us ra ac) 5 v = m_al cap flo top eva lim v rc uc rn dn lev dry ap rf us ra ac := by
  funext k
  by_cases h : k = 5
  · subst h; rw [xup_self]; rfl
  · rw [xup_ne _ _ h]; simp only [m_al, if_neg h]
theorem al_rc {cap flo top eva lim rul rc uc rn dn lev dry ap : Int32} {rf us : Nat → Nat → Int32} {ra ac : Nat → Int32} : (m_al cap flo top eva lim rul rc uc rn dn lev dry ap rf us ra ac) 6 = rc := rfl
theorem au_rc {cap flo top eva lim rul rc uc rn dn lev dry ap : Int32} {rf us : Nat → Nat → Int32} {ra ac : Nat → Int32} (v : Int32) : xup (m_al cap flo top eva lim rul rc uc rn dn lev dry ap rf us ra ac) 6 v = m_al cap flo top eva lim rul v uc rn dn lev dry ap rf us ra ac := by
  funext k
  by_cases h : k = 6
  · subst h; rw [xup_self]; rfl
  · rw [xup_ne _ _ h]; simp only [m_al, if_neg h]
theorem al_uc {cap flo top eva lim rul rc uc rn dn lev dry ap : Int32} {rf us : Nat → Nat → Int32} {ra ac : Nat → Int32} : (m_al cap flo top eva lim rul rc uc rn dn lev dry ap rf us ra ac) 7 = uc := rfl
theorem au_uc {cap flo top eva lim rul rc uc rn dn lev dry ap : Int32} {rf us : Nat → Nat → Int32} {ra ac : Nat → Int32} (v : Int32) : xup (m_al cap flo top eva lim rul rc uc rn dn lev dry ap rf us ra ac) 7 v = m_al cap flo top eva lim rul rc v rn dn lev dry ap rf us ra ac := by
  funext k
  by_cases h : k = 7
  · subst h; rw [xup_self]; rfl
  · rw [xup_ne _ _ h]; simp only [m_al, if_neg h]
theorem al_rn {cap flo top eva lim rul rc uc rn dn lev dry ap : Int32} {rf us : Nat → Nat → Int32} {ra ac : Nat → Int32} : (m_al cap flo top eva lim rul rc uc rn dn lev dry ap rf us ra ac) 8 = rn := rfl
theorem au_rn {cap flo top eva lim rul rc uc rn dn lev dry ap : Int32} {rf us : Nat → Nat → Int32} {ra ac : Nat → Int32} (v : Int32) : xup (m_al cap flo top eva lim rul rc uc rn dn lev dry ap rf us ra ac) 8 v = m_al cap flo top eva lim rul rc uc v dn lev dry ap rf us ra ac := by
  funext k
  by_cases h : k = 8
  · subst h; rw [xup_self]; rfl
  · rw [xup_ne _ _ h]; simp only [m_al, if_neg h]
theorem al_dn {cap flo top eva lim rul rc uc rn dn lev dry ap : Int32} {rf us : Nat → Nat → Int32} {ra ac : Nat → Int32} : (m_al cap flo top eva lim rul rc uc rn dn lev dry ap rf us ra ac) 9 = dn := rfl
theorem au_dn {cap flo top eva lim rul rc uc rn dn lev dry ap : Int32} {rf us : Nat → Nat → Int32} {ra ac : Nat → Int32} (v : Int32) : xup (m_al cap flo top eva lim rul rc uc rn dn lev dry ap rf us ra ac) 9 v = m_al cap flo top eva lim rul rc uc rn v lev dry ap rf us ra ac := by
  funext k
  by_cases h : k = 9
  · subst h; rw [xup_self]; rfl
  · rw [xup_ne _ _ h]; simp only [m_al, if_neg h]
theorem al_lev {cap flo top eva lim rul rc uc rn dn lev dry ap : Int32} {rf us : Nat → Nat → Int32} {ra ac : Nat → Int32} : (m_al cap flo top eva lim rul rc uc rn dn lev dry ap rf us ra ac) 10 = lev := rfl
theorem au_lev {cap flo top eva lim rul rc uc rn dn lev dry ap : Int32} {rf us : Nat → Nat → Int32} {ra ac : Nat → Int32} (v : Int32) : xup (m_al cap flo top eva lim rul rc uc rn dn lev dry ap rf us ra ac) 10 v = m_al cap flo top eva lim rul rc uc rn dn v dry ap rf us ra ac := by
  funext k
  by_cases h : k = 10
  · subst h; rw [xup_self]; rfl
  · rw [xup_ne _ _ h]; simp only [m_al, if_neg h]
theorem al_dry {cap flo top eva lim rul rc uc rn dn lev dry ap : Int32} {rf us : Nat → Nat → Int32} {ra ac : Nat → Int32} : (m_al cap flo top eva lim rul rc uc rn dn lev dry ap rf us ra ac) 11 = dry := rfl
theorem au_dry {cap flo top eva lim rul rc uc rn dn lev dry ap : Int32} {rf us : Nat → Nat → Int32} {ra ac : Nat → Int32} (v : Int32) : xup (m_al cap flo top eva lim rul rc uc rn dn lev dry ap rf us ra ac) 11 v = m_al cap flo top eva lim rul rc uc rn dn lev v ap rf us ra ac := by
  funext k
  by_cases h : k = 11
  · subst h; rw [xup_self]; rfl
  · rw [xup_ne _ _ h]; simp only [m_al, if_neg h]
theorem al_ap {cap flo top eva lim rul rc uc rn dn lev dry ap : Int32} {rf us : Nat → Nat → Int32} {ra ac : Nat → Int32} : (m_al cap flo top eva lim rul rc uc rn dn lev dry ap rf us ra ac) 12 = ap := rfl
theorem au_ap {cap flo top eva lim rul rc uc rn dn lev dry ap : Int32} {rf us : Nat → Nat → Int32} {ra ac : Nat → Int32} (v : Int32) : xup (m_al cap flo top eva lim rul rc uc rn dn lev dry ap rf us ra ac) 12 v = m_al cap flo top eva lim rul rc uc rn dn lev dry v rf us ra ac := by
  funext k
  by_cases h : k = 12
  · subst h; rw [xup_self]; rfl
  · rw [xup_ne _ _ h]; simp only [m_al, if_neg h]
theorem al_rf {cap flo top eva lim rul rc uc rn dn lev dry ap : Int32} {rf us : Nat → Nat → Int32} {ra ac : Nat → Int32} {i j : Nat} (hi : i < 6) (hj : j < 5) : (m_al cap flo top eva lim rul rc uc rn dn lev dry ap rf us ra ac) (13 + 5 * i + j) = rf i j := by
  unfold m_al
  rw [if_neg (by omega), if_neg (by omega), if_neg (by omega), if_neg (by omega), if_neg (by omega), if_neg (by omega), if_neg (by omega), if_neg (by omega), if_neg (by omega), if_neg (by omega), if_neg (by omega), if_neg (by omega), if_neg (by omega), if_pos (by omega), show (13 + 5 * i + j - 13) / 5 = i by omega, show (13 + 5 * i + j - 13) % 5 = j by omega]
theorem al_us {cap flo top eva lim rul rc uc rn dn lev dry ap : Int32} {rf us : Nat → Nat → Int32} {ra ac : Nat → Int32} {i j : Nat} (hi : i < 5) (hj : j < 4) : (m_al cap flo top eva lim rul rc uc rn dn lev dry ap rf us ra ac) (43 + 4 * i + j) = us i j := by
  unfold m_al
  rw [if_neg (by omega), if_neg (by omega), if_neg (by omega), if_neg (by omega), if_neg (by omega), if_neg (by omega), if_neg (by omega), if_neg (by omega), if_neg (by omega), if_neg (by omega), if_neg (by omega), if_neg (by omega), if_neg (by omega), if_neg (by omega), if_pos (by omega), show (43 + 4 * i + j - 43) / 4 = i by omega, show (43 + 4 * i + j - 43) % 4 = j by omega]
theorem al_ra {cap flo top eva lim rul rc uc rn dn lev dry ap : Int32} {rf us : Nat → Nat → Int32} {ra ac : Nat → Int32} {d : Nat} (hd : d < 100) : (m_al cap flo top eva lim rul rc uc rn dn lev dry ap rf us ra ac) (63 + d) = ra d := by
  unfold m_al
  rw [if_neg (by omega), if_neg (by omega), if_neg (by omega), if_neg (by omega), if_neg (by omega), if_neg (by omega), if_neg (by omega), if_neg (by omega), if_neg (by omega), if_neg (by omega), if_neg (by omega), if_neg (by omega), if_neg (by omega), if_neg (by omega), if_neg (by omega), if_pos (by omega), Nat.add_sub_cancel_left]
theorem al_ac {cap flo top eva lim rul rc uc rn dn lev dry ap : Int32} {rf us : Nat → Nat → Int32} {ra ac : Nat → Int32} (j : Nat) : (m_al cap flo top eva lim rul rc uc rn dn lev dry ap rf us ra ac) (163 + j) = ac j := by
  unfold m_al
  rw [if_neg (by omega), if_neg (by omega), if_neg (by omega), if_neg (by omega), if_neg (by omega), if_neg (by omega), if_neg (by omega), if_neg (by omega), if_neg (by omega), if_neg (by omega), if_neg (by omega), if_neg (by omega), if_neg (by omega), if_neg (by omega), if_neg (by omega), if_neg (by omega), Nat.add_sub_cancel_left]
theorem al_k {cap flo top eva lim rul rc uc rn dn lev dry ap : Int32} {rf us : Nat → Nat → Int32} {ra ac : Nat → Int32} {k : Nat} (h : 13 ≤ k) : (m_al cap flo top eva lim rul rc uc rn dn lev dry ap rf us ra ac) k = if k < 43 then rf ((k - 13) / 5) ((k - 13) % 5) else if k < 63 then us ((k - 43) / 4) ((k - 43) % 4) else if k < 163 then ra (k - 63) else ac (k - 163) := by
  unfold m_al
  rw [if_neg (by omega), if_neg (by omega), if_neg (by omega), if_neg (by omega), if_neg (by omega), if_neg (by omega), if_neg (by omega), if_neg (by omega), if_neg (by omega), if_neg (by omega), if_neg (by omega), if_neg (by omega), if_neg (by omega)]
theorem al_lt {cap flo top eva lim rul rc uc rn dn lev dry ap : Int32} {rf us : Nat → Nat → Int32} {ra ac : Nat → Int32} (rf' us' : Nat → Nat → Int32) (ra' ac' : Nat → Int32) {k : Nat} (h : k < 13) : (m_al cap flo top eva lim rul rc uc rn dn lev dry ap rf us ra ac) k = (m_al cap flo top eva lim rul rc uc rn dn lev dry ap rf' us' ra' ac') k := by
  rcases (show k = 0 ∨ k = 1 ∨ k = 2 ∨ k = 3 ∨ k = 4 ∨ k = 5 ∨ k = 6 ∨ k = 7 ∨ k = 8 ∨ k = 9 ∨ k = 10 ∨ k = 11 ∨ k = 12 by omega) with rfl | rfl | rfl | rfl | rfl | rfl | rfl | rfl | rfl | rfl | rfl | rfl | rfl <;> rfl
theorem au_rf {cap flo top eva lim rul rc uc rn dn lev dry ap : Int32} {rf us : Nat → Nat → Int32} {ra ac : Nat → Int32} {i j : Nat} (hi : i < 6) (hj : j < 5) (v : Int32) : xup (m_al cap flo top eva lim rul rc uc rn dn lev dry ap rf us ra ac) (13 + 5 * i + j) v = m_al cap flo top eva lim rul rc uc rn dn lev dry ap (xup rf i (xup (rf i) j v)) us ra ac := by
  funext k
  by_cases h : k = 13 + 5 * i + j
  · subst h; rw [xup_self, al_rf hi hj, xup_self, xup_self]
  · rw [xup_ne _ _ h]
    by_cases h1 : k < 13
    · exact al_lt _ _ _ _ h1
    · rw [al_k (by omega), al_k (by omega)]
      by_cases h2 : k < 43
      · rw [if_pos h2, if_pos h2]
        by_cases h3 : (k - 13) / 5 = i
        · rw [h3, xup_self, xup_ne _ _ (by omega)]
        · rw [xup_ne _ _ h3]
      · rw [if_neg h2, if_neg h2]
theorem au_us {cap flo top eva lim rul rc uc rn dn lev dry ap : Int32} {rf us : Nat → Nat → Int32} {ra ac : Nat → Int32} {i j : Nat} (hi : i < 5) (hj : j < 4) (v : Int32) : xup (m_al cap flo top eva lim rul rc uc rn dn lev dry ap rf us ra ac) (43 + 4 * i + j) v = m_al cap flo top eva lim rul rc uc rn dn lev dry ap rf (xup us i (xup (us i) j v)) ra ac := by
  funext k
  by_cases h : k = 43 + 4 * i + j
  · subst h; rw [xup_self, al_us hi hj, xup_self, xup_self]
  · rw [xup_ne _ _ h]
    by_cases h1 : k < 13
    · exact al_lt _ _ _ _ h1
    · rw [al_k (by omega), al_k (by omega)]
      by_cases h2 : k < 43
      · rw [if_pos h2, if_pos h2]
      · rw [if_neg h2, if_neg h2]
        by_cases h4 : k < 63
        · rw [if_pos h4, if_pos h4]
          by_cases h3 : (k - 43) / 4 = i
          · rw [h3, xup_self, xup_ne _ _ (by omega)]
          · rw [xup_ne _ _ h3]
        · rw [if_neg h4, if_neg h4]
theorem au_ra {cap flo top eva lim rul rc uc rn dn lev dry ap : Int32} {rf us : Nat → Nat → Int32} {ra ac : Nat → Int32} {d : Nat} (hd : d < 100) (v : Int32) : xup (m_al cap flo top eva lim rul rc uc rn dn lev dry ap rf us ra ac) (63 + d) v = m_al cap flo top eva lim rul rc uc rn dn lev dry ap rf us (xup ra d v) ac := by
  funext k
  by_cases h : k = 63 + d
  · subst h; rw [xup_self, al_ra hd, xup_self]
  · rw [xup_ne _ _ h]
    by_cases h1 : k < 13
    · exact al_lt _ _ _ _ h1
    · rw [al_k (by omega), al_k (by omega)]
      by_cases h2 : k < 43
      · rw [if_pos h2, if_pos h2]
      · rw [if_neg h2, if_neg h2]
        by_cases h4 : k < 63
        · rw [if_pos h4, if_pos h4]
        · rw [if_neg h4, if_neg h4]
          by_cases h5 : k < 163
          · rw [if_pos h5, if_pos h5, xup_ne _ _ (by omega)]
          · rw [if_neg h5, if_neg h5]
theorem au_ac {cap flo top eva lim rul rc uc rn dn lev dry ap : Int32} {rf us : Nat → Nat → Int32} {ra ac : Nat → Int32} (j : Nat) (v : Int32) : xup (m_al cap flo top eva lim rul rc uc rn dn lev dry ap rf us ra ac) (163 + j) v = m_al cap flo top eva lim rul rc uc rn dn lev dry ap rf us ra (xup ac j v) := by
  funext k
  by_cases h : k = 163 + j
  · subst h; rw [xup_self, al_ac, xup_self]
  · rw [xup_ne _ _ h]
    by_cases h1 : k < 13
    · exact al_lt _ _ _ _ h1
    · rw [al_k (by omega), al_k (by omega)]
      by_cases h2 : k < 43
      · rw [if_pos h2, if_pos h2]
      · rw [if_neg h2, if_neg h2]
        by_cases h4 : k < 63
        · rw [if_pos h4, if_pos h4]
        · rw [if_neg h4, if_neg h4]
          by_cases h5 : k < 163
          · rw [if_pos h5, if_pos h5]
          · rw [if_neg h5, if_neg h5, xup_ne _ _ (by omega)]

