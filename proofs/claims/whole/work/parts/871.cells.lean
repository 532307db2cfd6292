/-! The model's own methods: single cells. -/
theorem gm_al {b : Nat} {W : XH} {cap flo top eva lim rul rc uc rn dn lev dry ap : Int32} {rf us : Nat → Nat → Int32} {ra ac sv as : Nat → Int32} {sm th : Int32} {sd : Int64} {td : Int32} {sp : Nat → Int64} {lf : Int32} {tx : Nat → Int32} {tl pl nb : Int32} {i : Int32} (hi : xin i 1163 = true) : xald (hm b W cap flo top eva lim rul rc uc rn dn lev dry ap rf us ra ac sv as sm th sd td sp lf tx tl pl nb) (b + 1) 0 i = some ((m_al cap flo top eva lim rul rc uc rn dn lev dry ap rf us ra ac) i.toNatClampNeg) := by simp [xald, hm_1, hi]
theorem tm_al {b : Nat} {W : XH} {cap flo top eva lim rul rc uc rn dn lev dry ap : Int32} {rf us : Nat → Nat → Int32} {ra ac sv as : Nat → Int32} {sm th : Int32} {sd : Int64} {td : Int32} {sp : Nat → Int64} {lf : Int32} {tx : Nat → Int32} {tl pl nb : Int32} {cap' flo' top' eva' lim' rul' rc' uc' rn' dn' lev' dry' ap' : Int32} {rf' us' : Nat → Nat → Int32} {ra' ac' : Nat → Int32} {i v : Int32} (hi : xin i 1163 = true) (h : xup (m_al cap flo top eva lim rul rc uc rn dn lev dry ap rf us ra ac) i.toNatClampNeg v = m_al cap' flo' top' eva' lim' rul' rc' uc' rn' dn' lev' dry' ap' rf' us' ra' ac') : xast (hm b W cap flo top eva lim rul rc uc rn dn lev dry ap rf us ra ac sv as sm th sd td sp lf tx tl pl nb) (b + 1) 0 i v = some (hm b W cap' flo' top' eva' lim' rul' rc' uc' rn' dn' lev' dry' ap' rf' us' ra' ac' sv as sm th sd td sp lf tx tl pl nb) := by
  simp only [xast, hm_1]
  rw [if_pos ⟨trivial, hi⟩, h]
  refine congrArg some ?_
  funext q
  by_cases hq : q = b + 1
  · subst hq; rw [hm_1, xup_self]
  · rw [xup_ne _ _ hq]; simp only [hm, if_neg hq]
theorem gm_cap {b : Nat} {W : XH} {cap flo top eva lim rul rc uc rn dn lev dry ap : Int32} {rf us : Nat → Nat → Int32} {ra ac sv as : Nat → Int32} {sm th : Int32} {sd : Int64} {td : Int32} {sp : Nat → Int64} {lf : Int32} {tx : Nat → Int32} {tl pl nb : Int32} : xald (hm b W cap flo top eva lim rul rc uc rn dn lev dry ap rf us ra ac sv as sm th sd td sp lf tx tl pl nb) (b + 1) 0 (0 : Int32) = some cap := gm_al (by decide)
theorem tm_cap {b : Nat} {W : XH} {cap flo top eva lim rul rc uc rn dn lev dry ap : Int32} {rf us : Nat → Nat → Int32} {ra ac sv as : Nat → Int32} {sm th : Int32} {sd : Int64} {td : Int32} {sp : Nat → Int64} {lf : Int32} {tx : Nat → Int32} {tl pl nb : Int32} (v : Int32) : xast (hm b W cap flo top eva lim rul rc uc rn dn lev dry ap rf us ra ac sv as sm th sd td sp lf tx tl pl nb) (b + 1) 0 (0 : Int32) v = some (hm b W v flo top eva lim rul rc uc rn dn lev dry ap rf us ra ac sv as sm th sd td sp lf tx tl pl nb) := tm_al (by decide) (au_cap v)
theorem gm_flo {b : Nat} {W : XH} {cap flo top eva lim rul rc uc rn dn lev dry ap : Int32} {rf us : Nat → Nat → Int32} {ra ac sv as : Nat → Int32} {sm th : Int32} {sd : Int64} {td : Int32} {sp : Nat → Int64} {lf : Int32} {tx : Nat → Int32} {tl pl nb : Int32} : xald (hm b W cap flo top eva lim rul rc uc rn dn lev dry ap rf us ra ac sv as sm th sd td sp lf tx tl pl nb) (b + 1) 0 (1 : Int32) = some flo := gm_al (by decide)
theorem tm_flo {b : Nat} {W : XH} {cap flo top eva lim rul rc uc rn dn lev dry ap : Int32} {rf us : Nat → Nat → Int32} {ra ac sv as : Nat → Int32} {sm th : Int32} {sd : Int64} {td : Int32} {sp : Nat → Int64} {lf : Int32} {tx : Nat → Int32} {tl pl nb : Int32} (v : Int32) : xast (hm b W cap flo top eva lim rul rc uc rn dn lev dry ap rf us ra ac sv as sm th sd td sp lf tx tl pl nb) (b + 1) 0 (1 : Int32) v = some (hm b W cap v top eva lim rul rc uc rn dn lev dry ap rf us ra ac sv as sm th sd td sp lf tx tl pl nb) := tm_al (by decide) (au_flo v)
theorem gm_top {b : Nat} {W : XH} {cap flo top eva lim rul rc uc rn dn lev dry ap : Int32} {rf us : Nat → Nat → Int32} {ra ac sv as : Nat → Int32} {sm th : Int32} {sd : Int64} {td : Int32} {sp : Nat → Int64} {lf : Int32} {tx : Nat → Int32} {tl pl nb : Int32} : xald (hm b W cap flo top eva lim rul rc uc rn dn lev dry ap rf us ra ac sv as sm th sd td sp lf tx tl pl nb) (b + 1) 0 (2 : Int32) = some top := gm_al (by decide)
theorem tm_top {b : Nat} {W : XH} {cap flo top eva lim rul rc uc rn dn lev dry ap : Int32} {rf us : Nat → Nat → Int32} {ra ac sv as : Nat → Int32} {sm th : Int32} {sd : Int64} {td : Int32} {sp : Nat → Int64} {lf : Int32} {tx : Nat → Int32} {tl pl nb : Int32} (v : Int32) : xast (hm b W cap flo top eva lim rul rc uc rn dn lev dry ap rf us ra ac sv as sm th sd td sp lf tx tl pl nb) (b + 1) 0 (2 : Int32) v = some (hm b W cap flo v eva lim rul rc uc rn dn lev dry ap rf us ra ac sv as sm th sd td sp lf tx tl pl nb) := tm_al (by decide) (au_top v)
theorem gm_eva {b : Nat} {W : XH} {cap flo top eva lim rul rc uc rn dn lev dry ap : Int32} {rf us : Nat → Nat → Int32} {ra ac sv as : Nat → Int32} {sm th : Int32} {sd : Int64} {td : Int32} {sp : Nat → Int64} {lf : Int32} {tx : Nat → Int32} {tl pl nb : Int32} : xald (hm b W cap flo top eva lim rul rc uc rn dn lev dry ap rf us ra ac sv as sm th sd td sp lf tx tl pl nb) (b + 1) 0 (3 : Int32) = some eva := gm_al (by decide)
theorem tm_eva {b : Nat} {W : XH} {cap flo top eva lim rul rc uc rn dn lev dry ap : Int32} {rf us : Nat → Nat → Int32} {ra ac sv as : Nat → Int32} {sm th : Int32} {sd : Int64} {td : Int32} {sp : Nat → Int64} {lf : Int32} {tx : Nat → Int32} {tl pl nb : Int32} (v : Int32) : xast (hm b W cap flo top eva lim rul rc uc rn dn lev dry ap rf us ra ac sv as sm th sd td sp lf tx tl pl nb) (b + 1) 0 (3 : Int32) v = some (hm b W cap flo top v lim rul rc uc rn dn lev dry ap rf us ra ac sv as sm th sd td sp lf tx tl pl nb) := tm_al (by decide) (au_eva v)
theorem gm_lim {b : Nat} {W : XH} {cap flo top eva lim rul rc uc rn dn lev dry ap : Int32} {rf us : Nat → Nat → Int32} {ra ac sv as : Nat → Int32} {sm th : Int32} {sd : Int64} {td : Int32} {sp : Nat → Int64} {lf : Int32} {tx : Nat → Int32} {tl pl nb : Int32} : xald (hm b W cap flo top eva lim rul rc uc rn dn lev dry ap rf us ra ac sv as sm th sd td sp lf tx tl pl nb) (b + 1) 0 (4 : Int32) = some lim := gm_al (by decide)
theorem tm_lim {b : Nat} {W : XH} {cap flo top eva lim rul rc uc rn dn lev dry ap : Int32} {rf us : Nat → Nat → Int32} {ra ac sv as : Nat → Int32} {sm th : Int32} {sd : Int64} {td : Int32} {sp : Nat → Int64} {lf : Int32} {tx : Nat → Int32} {tl pl nb : Int32} (v : Int32) : xast (hm b W cap flo top eva lim rul rc uc rn dn lev dry ap rf us ra ac sv as sm th sd td sp lf tx tl pl nb) (b + 1) 0 (4 : Int32) v = some (hm b W cap flo top eva v rul rc uc rn dn lev dry ap rf us ra ac sv as sm th sd td sp lf tx tl pl nb) := tm_al (by decide) (au_lim v)
theorem gm_rul {b : Nat} {W : XH} {cap flo top eva lim rul rc uc rn dn lev dry ap : Int32} {rf us : Nat → Nat → Int32} {ra ac sv as : Nat → Int32} {sm th : Int32} {sd : Int64} {td : Int32} {sp : Nat → Int64} {lf : Int32} {tx : Nat → Int32} {tl pl nb : Int32} : xald (hm b W cap flo top eva lim rul rc uc rn dn lev dry ap rf us ra ac sv as sm th sd td sp lf tx tl pl nb) (b + 1) 0 (5 : Int32) = some rul := gm_al (by decide)
theorem tm_rul {b : Nat} {W : XH} {cap flo top eva lim rul rc uc rn dn lev dry ap : Int32} {rf us : Nat → Nat → Int32} {ra ac sv as : Nat → Int32} {sm th : Int32} {sd : Int64} {td : Int32} {sp : Nat → Int64} {lf : Int32} {tx : Nat → Int32} {tl pl nb : Int32} (v : Int32) : xast (hm b W cap flo top eva lim rul rc uc rn dn lev dry ap rf us ra ac sv as sm th sd td sp lf tx tl pl nb) (b + 1) 0 (5 : Int32) v = some (hm b W cap flo top eva lim v rc uc rn dn lev dry ap rf us ra ac sv as sm th sd td sp lf tx tl pl nb) := tm_al (by decide) (au_rul v)
theorem gm_rc {b : Nat} {W : XH} {cap flo top eva lim rul rc uc rn dn lev dry ap : Int32} {rf us : Nat → Nat → Int32} {ra ac sv as : Nat → Int32} {sm th : Int32} {sd : Int64} {td : Int32} {sp : Nat → Int64} {lf : Int32} {tx : Nat → Int32} {tl pl nb : Int32} : xald (hm b W cap flo top eva lim rul rc uc rn dn lev dry ap rf us ra ac sv as sm th sd td sp lf tx tl pl nb) (b + 1) 0 (6 : Int32) = some rc := gm_al (by decide)
theorem tm_rc {b : Nat} {W : XH} {cap flo top eva lim rul rc uc rn dn lev dry ap : Int32} {rf us : Nat → Nat → Int32} {ra ac sv as : Nat → Int32} {sm th : Int32} {sd : Int64} {td : Int32} {sp : Nat → Int64} {lf : Int32} {tx : Nat → Int32} {tl pl nb : Int32} (v : Int32) : xast (hm b W cap flo top eva lim rul rc uc rn dn lev dry ap rf us ra ac sv as sm th sd td sp lf tx tl pl nb) (b + 1) 0 (6 : Int32) v = some (hm b W cap flo top eva lim rul v uc rn dn lev dry ap rf us ra ac sv as sm th sd td sp lf tx tl pl nb) := tm_al (by decide) (au_rc v)
theorem gm_uc {b : Nat} {W : XH} {cap flo top eva lim rul rc uc rn dn lev dry ap : Int32} {rf us : Nat → Nat → Int32} {ra ac sv as : Nat → Int32} {sm th : Int32} {sd : Int64} {td : Int32} {sp : Nat → Int64} {lf : Int32} {tx : Nat → Int32} {tl pl nb : Int32} : xald (hm b W cap flo top eva lim rul rc uc rn dn lev dry ap rf us ra ac sv as sm th sd td sp lf tx tl pl nb) (b + 1) 0 (7 : Int32) = some uc := gm_al (by decide)
theorem tm_uc {b : Nat} {W : XH} {cap flo top eva lim rul rc uc rn dn lev dry ap : Int32} {rf us : Nat → Nat → Int32} {ra ac sv as : Nat → Int32} {sm th : Int32} {sd : Int64} {td : Int32} {sp : Nat → Int64} {lf : Int32} {tx : Nat → Int32} {tl pl nb : Int32} (v : Int32) : xast (hm b W cap flo top eva lim rul rc uc rn dn lev dry ap rf us ra ac sv as sm th sd td sp lf tx tl pl nb) (b + 1) 0 (7 : Int32) v = some (hm b W cap flo top eva lim rul rc v rn dn lev dry ap rf us ra ac sv as sm th sd td sp lf tx tl pl nb) := tm_al (by decide) (au_uc v)
theorem gm_rn {b : Nat} {W : XH} {cap flo top eva lim rul rc uc rn dn lev dry ap : Int32} {rf us : Nat → Nat → Int32} {ra ac sv as : Nat → Int32} {sm th : Int32} {sd : Int64} {td : Int32} {sp : Nat → Int64} {lf : Int32} {tx : Nat → Int32} {tl pl nb : Int32} : xald (hm b W cap flo top eva lim rul rc uc rn dn lev dry ap rf us ra ac sv as sm th sd td sp lf tx tl pl nb) (b + 1) 0 (8 : Int32) = some rn := gm_al (by decide)
theorem tm_rn {b : Nat} {W : XH} {cap flo top eva lim rul rc uc rn dn lev dry ap : Int32} {rf us : Nat → Nat → Int32} {ra ac sv as : Nat → Int32} {sm th : Int32} {sd : Int64} {td : Int32} {sp : Nat → Int64} {lf : Int32} {tx : Nat → Int32} {tl pl nb : Int32} (v : Int32) : xast (hm b W cap flo top eva lim rul rc uc rn dn lev dry ap rf us ra ac sv as sm th sd td sp lf tx tl pl nb) (b + 1) 0 (8 : Int32) v = some (hm b W cap flo top eva lim rul rc uc v dn lev dry ap rf us ra ac sv as sm th sd td sp lf tx tl pl nb) := tm_al (by decide) (au_rn v)
theorem gm_dn {b : Nat} {W : XH} {cap flo top eva lim rul rc uc rn dn lev dry ap : Int32} {rf us : Nat → Nat → Int32} {ra ac sv as : Nat → Int32} {sm th : Int32} {sd : Int64} {td : Int32} {sp : Nat → Int64} {lf : Int32} {tx : Nat → Int32} {tl pl nb : Int32} : xald (hm b W cap flo top eva lim rul rc uc rn dn lev dry ap rf us ra ac sv as sm th sd td sp lf tx tl pl nb) (b + 1) 0 (9 : Int32) = some dn := gm_al (by decide)
theorem tm_dn {b : Nat} {W : XH} {cap flo top eva lim rul rc uc rn dn lev dry ap : Int32} {rf us : Nat → Nat → Int32} {ra ac sv as : Nat → Int32} {sm th : Int32} {sd : Int64} {td : Int32} {sp : Nat → Int64} {lf : Int32} {tx : Nat → Int32} {tl pl nb : Int32} (v : Int32) : xast (hm b W cap flo top eva lim rul rc uc rn dn lev dry ap rf us ra ac sv as sm th sd td sp lf tx tl pl nb) (b + 1) 0 (9 : Int32) v = some (hm b W cap flo top eva lim rul rc uc rn v lev dry ap rf us ra ac sv as sm th sd td sp lf tx tl pl nb) := tm_al (by decide) (au_dn v)
theorem gm_lev {b : Nat} {W : XH} {cap flo top eva lim rul rc uc rn dn lev dry ap : Int32} {rf us : Nat → Nat → Int32} {ra ac sv as : Nat → Int32} {sm th : Int32} {sd : Int64} {td : Int32} {sp : Nat → Int64} {lf : Int32} {tx : Nat → Int32} {tl pl nb : Int32} : xald (hm b W cap flo top eva lim rul rc uc rn dn lev dry ap rf us ra ac sv as sm th sd td sp lf tx tl pl nb) (b + 1) 0 (10 : Int32) = some lev := gm_al (by decide)
theorem tm_lev {b : Nat} {W : XH} {cap flo top eva lim rul rc uc rn dn lev dry ap : Int32} {rf us : Nat → Nat → Int32} {ra ac sv as : Nat → Int32} {sm th : Int32} {sd : Int64} {td : Int32} {sp : Nat → Int64} {lf : Int32} {tx : Nat → Int32} {tl pl nb : Int32} (v : Int32) : xast (hm b W cap flo top eva lim rul rc uc rn dn lev dry ap rf us ra ac sv as sm th sd td sp lf tx tl pl nb) (b + 1) 0 (10 : Int32) v = some (hm b W cap flo top eva lim rul rc uc rn dn v dry ap rf us ra ac sv as sm th sd td sp lf tx tl pl nb) := tm_al (by decide) (au_lev v)
theorem gm_dry {b : Nat} {W : XH} {cap flo top eva lim rul rc uc rn dn lev dry ap : Int32} {rf us : Nat → Nat → Int32} {ra ac sv as : Nat → Int32} {sm th : Int32} {sd : Int64} {td : Int32} {sp : Nat → Int64} {lf : Int32} {tx : Nat → Int32} {tl pl nb : Int32} : xald (hm b W cap flo top eva lim rul rc uc rn dn lev dry ap rf us ra ac sv as sm th sd td sp lf tx tl pl nb) (b + 1) 0 (11 : Int32) = some dry := gm_al (by decide)
theorem tm_dry {b : Nat} {W : XH} {cap flo top eva lim rul rc uc rn dn lev dry ap : Int32} {rf us : Nat → Nat → Int32} {ra ac sv as : Nat → Int32} {sm th : Int32} {sd : Int64} {td : Int32} {sp : Nat → Int64} {lf : Int32} {tx : Nat → Int32} {tl pl nb : Int32} (v : Int32) : xast (hm b W cap flo top eva lim rul rc uc rn dn lev dry ap rf us ra ac sv as sm th sd td sp lf tx tl pl nb) (b + 1) 0 (11 : Int32) v = some (hm b W cap flo top eva lim rul rc uc rn dn lev v ap rf us ra ac sv as sm th sd td sp lf tx tl pl nb) := tm_al (by decide) (au_dry v)
theorem gm_ap {b : Nat} {W : XH} {cap flo top eva lim rul rc uc rn dn lev dry ap : Int32} {rf us : Nat → Nat → Int32} {ra ac sv as : Nat → Int32} {sm th : Int32} {sd : Int64} {td : Int32} {sp : Nat → Int64} {lf : Int32} {tx : Nat → Int32} {tl pl nb : Int32} : xald (hm b W cap flo top eva lim rul rc uc rn dn lev dry ap rf us ra ac sv as sm th sd td sp lf tx tl pl nb) (b + 1) 0 (12 : Int32) = some ap := gm_al (by decide)
theorem tm_ap {b : Nat} {W : XH} {cap flo top eva lim rul rc uc rn dn lev dry ap : Int32} {rf us : Nat → Nat → Int32} {ra ac sv as : Nat → Int32} {sm th : Int32} {sd : Int64} {td : Int32} {sp : Nat → Int64} {lf : Int32} {tx : Nat → Int32} {tl pl nb : Int32} (v : Int32) : xast (hm b W cap flo top eva lim rul rc uc rn dn lev dry ap rf us ra ac sv as sm th sd td sp lf tx tl pl nb) (b + 1) 0 (12 : Int32) v = some (hm b W cap flo top eva lim rul rc uc rn dn lev dry v rf us ra ac sv as sm th sd td sp lf tx tl pl nb) := tm_al (by decide) (au_ap v)
theorem gm_rf {b : Nat} {W : XH} {cap flo top eva lim rul rc uc rn dn lev dry ap : Int32} {rf us : Nat → Nat → Int32} {ra ac sv as : Nat → Int32} {sm th : Int32} {sd : Int64} {td : Int32} {sp : Nat → Int64} {lf : Int32} {tx : Nat → Int32} {tl pl nb : Int32} {i j : Nat} (hi : i < 6) (hj : j < 5) : xald (hm b W cap flo top eva lim rul rc uc rn dn lev dry ap rf us ra ac sv as sm th sd td sp lf tx tl pl nb) (b + 1) 0 (nI (13 + 5 * i + j)) = some (rf i j) := by
  rw [gm_al (xin_nI (by omega) (by decide)), xnI_nat (by omega), al_rf hi hj]
theorem tm_rf {b : Nat} {W : XH} {cap flo top eva lim rul rc uc rn dn lev dry ap : Int32} {rf us : Nat → Nat → Int32} {ra ac sv as : Nat → Int32} {sm th : Int32} {sd : Int64} {td : Int32} {sp : Nat → Int64} {lf : Int32} {tx : Nat → Int32} {tl pl nb : Int32} {i j : Nat} (hi : i < 6) (hj : j < 5) (v : Int32) : xast (hm b W cap flo top eva lim rul rc uc rn dn lev dry ap rf us ra ac sv as sm th sd td sp lf tx tl pl nb) (b + 1) 0 (nI (13 + 5 * i + j)) v = some (hm b W cap flo top eva lim rul rc uc rn dn lev dry ap (xup rf i (xup (rf i) j v)) us ra ac sv as sm th sd td sp lf tx tl pl nb) := tm_al (xin_nI (by omega) (by decide)) (by rw [xnI_nat (by omega)]; exact au_rf hi hj v)
theorem gm_us {b : Nat} {W : XH} {cap flo top eva lim rul rc uc rn dn lev dry ap : Int32} {rf us : Nat → Nat → Int32} {ra ac sv as : Nat → Int32} {sm th : Int32} {sd : Int64} {td : Int32} {sp : Nat → Int64} {lf : Int32} {tx : Nat → Int32} {tl pl nb : Int32} {i j : Nat} (hi : i < 5) (hj : j < 4) : xald (hm b W cap flo top eva lim rul rc uc rn dn lev dry ap rf us ra ac sv as sm th sd td sp lf tx tl pl nb) (b + 1) 0 (nI (43 + 4 * i + j)) = some (us i j) := by
  rw [gm_al (xin_nI (by omega) (by decide)), xnI_nat (by omega), al_us hi hj]
theorem tm_us {b : Nat} {W : XH} {cap flo top eva lim rul rc uc rn dn lev dry ap : Int32} {rf us : Nat → Nat → Int32} {ra ac sv as : Nat → Int32} {sm th : Int32} {sd : Int64} {td : Int32} {sp : Nat → Int64} {lf : Int32} {tx : Nat → Int32} {tl pl nb : Int32} {i j : Nat} (hi : i < 5) (hj : j < 4) (v : Int32) : xast (hm b W cap flo top eva lim rul rc uc rn dn lev dry ap rf us ra ac sv as sm th sd td sp lf tx tl pl nb) (b + 1) 0 (nI (43 + 4 * i + j)) v = some (hm b W cap flo top eva lim rul rc uc rn dn lev dry ap rf (xup us i (xup (us i) j v)) ra ac sv as sm th sd td sp lf tx tl pl nb) := tm_al (xin_nI (by omega) (by decide)) (by rw [xnI_nat (by omega)]; exact au_us hi hj v)
theorem gm_ra {b : Nat} {W : XH} {cap flo top eva lim rul rc uc rn dn lev dry ap : Int32} {rf us : Nat → Nat → Int32} {ra ac sv as : Nat → Int32} {sm th : Int32} {sd : Int64} {td : Int32} {sp : Nat → Int64} {lf : Int32} {tx : Nat → Int32} {tl pl nb : Int32} {d : Nat} (hd : d < 100) : xald (hm b W cap flo top eva lim rul rc uc rn dn lev dry ap rf us ra ac sv as sm th sd td sp lf tx tl pl nb) (b + 1) 0 (nI (63 + d)) = some (ra d) := by
  rw [gm_al (xin_nI (by omega) (by decide)), xnI_nat (by omega), al_ra hd]
theorem tm_ra {b : Nat} {W : XH} {cap flo top eva lim rul rc uc rn dn lev dry ap : Int32} {rf us : Nat → Nat → Int32} {ra ac sv as : Nat → Int32} {sm th : Int32} {sd : Int64} {td : Int32} {sp : Nat → Int64} {lf : Int32} {tx : Nat → Int32} {tl pl nb : Int32} {d : Nat} (hd : d < 100) (v : Int32) : xast (hm b W cap flo top eva lim rul rc uc rn dn lev dry ap rf us ra ac sv as sm th sd td sp lf tx tl pl nb) (b + 1) 0 (nI (63 + d)) v = some (hm b W cap flo top eva lim rul rc uc rn dn lev dry ap rf us (xup ra d v) ac sv as sm th sd td sp lf tx tl pl nb) := tm_al (xin_nI (by omega) (by decide)) (by rw [xnI_nat (by omega)]; exact au_ra hd v)
theorem gm_ac {b : Nat} {W : XH} {cap flo top eva lim rul rc uc rn dn lev dry ap : Int32} {rf us : Nat → Nat → Int32} {ra ac sv as : Nat → Int32} {sm th : Int32} {sd : Int64} {td : Int32} {sp : Nat → Int64} {lf : Int32} {tx : Nat → Int32} {tl pl nb : Int32} {j : Nat} (hj : j < 1000) : xald (hm b W cap flo top eva lim rul rc uc rn dn lev dry ap rf us ra ac sv as sm th sd td sp lf tx tl pl nb) (b + 1) 0 (nI (163 + j)) = some (ac j) := by
  rw [gm_al (xin_nI (by omega) (by decide)), xnI_nat (by omega), al_ac j]
theorem tm_ac {b : Nat} {W : XH} {cap flo top eva lim rul rc uc rn dn lev dry ap : Int32} {rf us : Nat → Nat → Int32} {ra ac sv as : Nat → Int32} {sm th : Int32} {sd : Int64} {td : Int32} {sp : Nat → Int64} {lf : Int32} {tx : Nat → Int32} {tl pl nb : Int32} {j : Nat} (hj : j < 1000) (v : Int32) : xast (hm b W cap flo top eva lim rul rc uc rn dn lev dry ap rf us ra ac sv as sm th sd td sp lf tx tl pl nb) (b + 1) 0 (nI (163 + j)) v = some (hm b W cap flo top eva lim rul rc uc rn dn lev dry ap rf us ra (xup ac j v) sv as sm th sd td sp lf tx tl pl nb) := tm_al (xin_nI (by omega) (by decide)) (by rw [xnI_nat (by omega)]; exact au_ac j v)
theorem gm_sv {b : Nat} {W : XH} {cap flo top eva lim rul rc uc rn dn lev dry ap : Int32} {rf us : Nat → Nat → Int32} {ra ac sv as : Nat → Int32} {sm th : Int32} {sd : Int64} {td : Int32} {sp : Nat → Int64} {lf : Int32} {tx : Nat → Int32} {tl pl nb : Int32} {i : Int32} (hi : xin i 4652 = true) : xald (hm b W cap flo top eva lim rul rc uc rn dn lev dry ap rf us ra ac sv as sm th sd td sp lf tx tl pl nb) (b + 2) 0 i = some (sv i.toNatClampNeg) := by simp [xald, hm_2, hi]
theorem tm_sv {b : Nat} {W : XH} {cap flo top eva lim rul rc uc rn dn lev dry ap : Int32} {rf us : Nat → Nat → Int32} {ra ac sv as : Nat → Int32} {sm th : Int32} {sd : Int64} {td : Int32} {sp : Nat → Int64} {lf : Int32} {tx : Nat → Int32} {tl pl nb : Int32} {i : Int32} (hi : xin i 4652 = true) (v : Int32) : xast (hm b W cap flo top eva lim rul rc uc rn dn lev dry ap rf us ra ac sv as sm th sd td sp lf tx tl pl nb) (b + 2) 0 i v = some (hm b W cap flo top eva lim rul rc uc rn dn lev dry ap rf us ra ac (xup sv i.toNatClampNeg v) as sm th sd td sp lf tx tl pl nb) := by
  simp only [xast, hm_2]
  rw [if_pos ⟨trivial, hi⟩]
  refine congrArg some ?_
  funext q
  by_cases hq : q = b + 2
  · subst hq; rw [hm_2, xup_self]
  · rw [xup_ne _ _ hq]; simp only [hm, if_neg hq]
theorem gm_as {b : Nat} {W : XH} {cap flo top eva lim rul rc uc rn dn lev dry ap : Int32} {rf us : Nat → Nat → Int32} {ra ac sv as : Nat → Int32} {sm th : Int32} {sd : Int64} {td : Int32} {sp : Nat → Int64} {lf : Int32} {tx : Nat → Int32} {tl pl nb : Int32} {i : Int32} (hi : xin i 1163 = true) : xald (hm b W cap flo top eva lim rul rc uc rn dn lev dry ap rf us ra ac sv as sm th sd td sp lf tx tl pl nb) (b + 3) 0 i = some (as i.toNatClampNeg) := by simp [xald, hm_3, hi]
theorem tm_as {b : Nat} {W : XH} {cap flo top eva lim rul rc uc rn dn lev dry ap : Int32} {rf us : Nat → Nat → Int32} {ra ac sv as : Nat → Int32} {sm th : Int32} {sd : Int64} {td : Int32} {sp : Nat → Int64} {lf : Int32} {tx : Nat → Int32} {tl pl nb : Int32} {i : Int32} (hi : xin i 1163 = true) (v : Int32) : xast (hm b W cap flo top eva lim rul rc uc rn dn lev dry ap rf us ra ac sv as sm th sd td sp lf tx tl pl nb) (b + 3) 0 i v = some (hm b W cap flo top eva lim rul rc uc rn dn lev dry ap rf us ra ac sv (xup as i.toNatClampNeg v) sm th sd td sp lf tx tl pl nb) := by
  simp only [xast, hm_3]
  rw [if_pos ⟨trivial, hi⟩]
  refine congrArg some ?_
  funext q
  by_cases hq : q = b + 3
  · subst hq; rw [hm_3, xup_self]
  · rw [xup_ne _ _ hq]; simp only [hm, if_neg hq]
theorem gm_tx {b : Nat} {W : XH} {cap flo top eva lim rul rc uc rn dn lev dry ap : Int32} {rf us : Nat → Nat → Int32} {ra ac sv as : Nat → Int32} {sm th : Int32} {sd : Int64} {td : Int32} {sp : Nat → Int64} {lf : Int32} {tx : Nat → Int32} {tl pl nb : Int32} {i : Int32} (hi : xin i 120 = true) : xald (hm b W cap flo top eva lim rul rc uc rn dn lev dry ap rf us ra ac sv as sm th sd td sp lf tx tl pl nb) (b + 5) 0 i = some (tx i.toNatClampNeg) := by simp [xald, hm_5, hi]
theorem tm_tx {b : Nat} {W : XH} {cap flo top eva lim rul rc uc rn dn lev dry ap : Int32} {rf us : Nat → Nat → Int32} {ra ac sv as : Nat → Int32} {sm th : Int32} {sd : Int64} {td : Int32} {sp : Nat → Int64} {lf : Int32} {tx : Nat → Int32} {tl pl nb : Int32} {i : Int32} (hi : xin i 120 = true) (v : Int32) : xast (hm b W cap flo top eva lim rul rc uc rn dn lev dry ap rf us ra ac sv as sm th sd td sp lf tx tl pl nb) (b + 5) 0 i v = some (hm b W cap flo top eva lim rul rc uc rn dn lev dry ap rf us ra ac sv as sm th sd td sp lf (xup tx i.toNatClampNeg v) tl pl nb) := by
  simp only [xast, hm_5]
  rw [if_pos ⟨trivial, hi⟩]
  refine congrArg some ?_
  funext q
  by_cases hq : q = b + 5
  · subst hq; rw [hm_5, xup_self]
  · rw [xup_ne _ _ hq]; simp only [hm, if_neg hq]
theorem gm_sp {b : Nat} {W : XH} {cap flo top eva lim rul rc uc rn dn lev dry ap : Int32} {rf us : Nat → Nat → Int32} {ra ac sv as : Nat → Int32} {sm th : Int32} {sd : Int64} {td : Int32} {sp : Nat → Int64} {lf : Int32} {tx : Nat → Int32} {tl pl nb : Int32} {i : Int32} (hi : xin i 6 = true) : xaldL (hm b W cap flo top eva lim rul rc uc rn dn lev dry ap rf us ra ac sv as sm th sd td sp lf tx tl pl nb) (b + 4) i = some (sp i.toNatClampNeg) := by simp [xaldL, hm_4, hi]
theorem tm_sp {b : Nat} {W : XH} {cap flo top eva lim rul rc uc rn dn lev dry ap : Int32} {rf us : Nat → Nat → Int32} {ra ac sv as : Nat → Int32} {sm th : Int32} {sd : Int64} {td : Int32} {sp : Nat → Int64} {lf : Int32} {tx : Nat → Int32} {tl pl nb : Int32} {i : Int32} (hi : xin i 6 = true) (v : Int64) : xastL (hm b W cap flo top eva lim rul rc uc rn dn lev dry ap rf us ra ac sv as sm th sd td sp lf tx tl pl nb) (b + 4) i v = some (hm b W cap flo top eva lim rul rc uc rn dn lev dry ap rf us ra ac sv as sm th sd td (xup sp i.toNatClampNeg v) lf tx tl pl nb) := by
  simp only [xastL, hm_4]
  rw [if_pos ⟨trivial, hi⟩]
  refine congrArg some ?_
  funext q
  by_cases hq : q = b + 4
  · subst hq; rw [hm_4, xup_self]
  · rw [xup_ne _ _ hq]; simp only [hm, if_neg hq]
theorem mr_0 {r : Nat} : f_X6_roofAt (nI r) (0 : Int32) = some (nI (13 + 5 * r + 0)) := by
  show some (nI 13 + nI 5 * nI r + nI 0) = _
  rw [xnI_mul, xnI_add, xnI_add]
theorem orf_0 {b : Nat} {W : XH} {cap flo top eva lim rul rc uc rn dn lev dry ap : Int32} {rf us : Nat → Nat → Int32} {ra ac sv as : Nat → Int32} {sm th : Int32} {sd : Int64} {td : Int32} {sp : Nat → Int64} {lf : Int32} {tx : Nat → Int32} {tl pl nb : Int32} {r : Nat} (hr : r < 6) : f_X6_ofRoof (hm b W cap flo top eva lim rul rc uc rn dn lev dry ap rf us ra ac sv as sm th sd td sp lf tx tl pl nb) b (nI r) (0 : Int32) = some (rf r 0) := by
  simp only [f_X6_ofRoof, gm_r1, Option.bind_some, mr_0, obind1_some, gm_rf hr (show 0 < 5 by decide)]
theorem mr_1 {r : Nat} : f_X6_roofAt (nI r) (1 : Int32) = some (nI (13 + 5 * r + 1)) := by
  show some (nI 13 + nI 5 * nI r + nI 1) = _
  rw [xnI_mul, xnI_add, xnI_add]
theorem orf_1 {b : Nat} {W : XH} {cap flo top eva lim rul rc uc rn dn lev dry ap : Int32} {rf us : Nat → Nat → Int32} {ra ac sv as : Nat → Int32} {sm th : Int32} {sd : Int64} {td : Int32} {sp : Nat → Int64} {lf : Int32} {tx : Nat → Int32} {tl pl nb : Int32} {r : Nat} (hr : r < 6) : f_X6_ofRoof (hm b W cap flo top eva lim rul rc uc rn dn lev dry ap rf us ra ac sv as sm th sd td sp lf tx tl pl nb) b (nI r) (1 : Int32) = some (rf r 1) := by
  simp only [f_X6_ofRoof, gm_r1, Option.bind_some, mr_1, obind1_some, gm_rf hr (show 1 < 5 by decide)]
theorem mr_2 {r : Nat} : f_X6_roofAt (nI r) (2 : Int32) = some (nI (13 + 5 * r + 2)) := by
  show some (nI 13 + nI 5 * nI r + nI 2) = _
  rw [xnI_mul, xnI_add, xnI_add]
theorem orf_2 {b : Nat} {W : XH} {cap flo top eva lim rul rc uc rn dn lev dry ap : Int32} {rf us : Nat → Nat → Int32} {ra ac sv as : Nat → Int32} {sm th : Int32} {sd : Int64} {td : Int32} {sp : Nat → Int64} {lf : Int32} {tx : Nat → Int32} {tl pl nb : Int32} {r : Nat} (hr : r < 6) : f_X6_ofRoof (hm b W cap flo top eva lim rul rc uc rn dn lev dry ap rf us ra ac sv as sm th sd td sp lf tx tl pl nb) b (nI r) (2 : Int32) = some (rf r 2) := by
  simp only [f_X6_ofRoof, gm_r1, Option.bind_some, mr_2, obind1_some, gm_rf hr (show 2 < 5 by decide)]
theorem mr_3 {r : Nat} : f_X6_roofAt (nI r) (3 : Int32) = some (nI (13 + 5 * r + 3)) := by
  show some (nI 13 + nI 5 * nI r + nI 3) = _
  rw [xnI_mul, xnI_add, xnI_add]
theorem orf_3 {b : Nat} {W : XH} {cap flo top eva lim rul rc uc rn dn lev dry ap : Int32} {rf us : Nat → Nat → Int32} {ra ac sv as : Nat → Int32} {sm th : Int32} {sd : Int64} {td : Int32} {sp : Nat → Int64} {lf : Int32} {tx : Nat → Int32} {tl pl nb : Int32} {r : Nat} (hr : r < 6) : f_X6_ofRoof (hm b W cap flo top eva lim rul rc uc rn dn lev dry ap rf us ra ac sv as sm th sd td sp lf tx tl pl nb) b (nI r) (3 : Int32) = some (rf r 3) := by
  simp only [f_X6_ofRoof, gm_r1, Option.bind_some, mr_3, obind1_some, gm_rf hr (show 3 < 5 by decide)]
theorem mr_4 {r : Nat} : f_X6_roofAt (nI r) (4 : Int32) = some (nI (13 + 5 * r + 4)) := by
  show some (nI 13 + nI 5 * nI r + nI 4) = _
  rw [xnI_mul, xnI_add, xnI_add]
theorem orf_4 {b : Nat} {W : XH} {cap flo top eva lim rul rc uc rn dn lev dry ap : Int32} {rf us : Nat → Nat → Int32} {ra ac sv as : Nat → Int32} {sm th : Int32} {sd : Int64} {td : Int32} {sp : Nat → Int64} {lf : Int32} {tx : Nat → Int32} {tl pl nb : Int32} {r : Nat} (hr : r < 6) : f_X6_ofRoof (hm b W cap flo top eva lim rul rc uc rn dn lev dry ap rf us ra ac sv as sm th sd td sp lf tx tl pl nb) b (nI r) (4 : Int32) = some (rf r 4) := by
  simp only [f_X6_ofRoof, gm_r1, Option.bind_some, mr_4, obind1_some, gm_rf hr (show 4 < 5 by decide)]
theorem mu_0 {r : Nat} : f_X6_userAt (nI r) (0 : Int32) = some (nI (43 + 4 * r + 0)) := by
  show some (nI 43 + nI 4 * nI r + nI 0) = _
  rw [xnI_mul, xnI_add, xnI_add]
theorem ous_0 {b : Nat} {W : XH} {cap flo top eva lim rul rc uc rn dn lev dry ap : Int32} {rf us : Nat → Nat → Int32} {ra ac sv as : Nat → Int32} {sm th : Int32} {sd : Int64} {td : Int32} {sp : Nat → Int64} {lf : Int32} {tx : Nat → Int32} {tl pl nb : Int32} {r : Nat} (hr : r < 5) : f_X6_ofUser (hm b W cap flo top eva lim rul rc uc rn dn lev dry ap rf us ra ac sv as sm th sd td sp lf tx tl pl nb) b (nI r) (0 : Int32) = some (us r 0) := by
  simp only [f_X6_ofUser, gm_r1, Option.bind_some, mu_0, obind1_some, gm_us hr (show 0 < 4 by decide)]
theorem mu_1 {r : Nat} : f_X6_userAt (nI r) (1 : Int32) = some (nI (43 + 4 * r + 1)) := by
  show some (nI 43 + nI 4 * nI r + nI 1) = _
  rw [xnI_mul, xnI_add, xnI_add]
theorem ous_1 {b : Nat} {W : XH} {cap flo top eva lim rul rc uc rn dn lev dry ap : Int32} {rf us : Nat → Nat → Int32} {ra ac sv as : Nat → Int32} {sm th : Int32} {sd : Int64} {td : Int32} {sp : Nat → Int64} {lf : Int32} {tx : Nat → Int32} {tl pl nb : Int32} {r : Nat} (hr : r < 5) : f_X6_ofUser (hm b W cap flo top eva lim rul rc uc rn dn lev dry ap rf us ra ac sv as sm th sd td sp lf tx tl pl nb) b (nI r) (1 : Int32) = some (us r 1) := by
  simp only [f_X6_ofUser, gm_r1, Option.bind_some, mu_1, obind1_some, gm_us hr (show 1 < 4 by decide)]
theorem mu_2 {r : Nat} : f_X6_userAt (nI r) (2 : Int32) = some (nI (43 + 4 * r + 2)) := by
  show some (nI 43 + nI 4 * nI r + nI 2) = _
  rw [xnI_mul, xnI_add, xnI_add]
theorem ous_2 {b : Nat} {W : XH} {cap flo top eva lim rul rc uc rn dn lev dry ap : Int32} {rf us : Nat → Nat → Int32} {ra ac sv as : Nat → Int32} {sm th : Int32} {sd : Int64} {td : Int32} {sp : Nat → Int64} {lf : Int32} {tx : Nat → Int32} {tl pl nb : Int32} {r : Nat} (hr : r < 5) : f_X6_ofUser (hm b W cap flo top eva lim rul rc uc rn dn lev dry ap rf us ra ac sv as sm th sd td sp lf tx tl pl nb) b (nI r) (2 : Int32) = some (us r 2) := by
  simp only [f_X6_ofUser, gm_r1, Option.bind_some, mu_2, obind1_some, gm_us hr (show 2 < 4 by decide)]
theorem mu_3 {r : Nat} : f_X6_userAt (nI r) (3 : Int32) = some (nI (43 + 4 * r + 3)) := by
  show some (nI 43 + nI 4 * nI r + nI 3) = _
  rw [xnI_mul, xnI_add, xnI_add]
theorem ous_3 {b : Nat} {W : XH} {cap flo top eva lim rul rc uc rn dn lev dry ap : Int32} {rf us : Nat → Nat → Int32} {ra ac sv as : Nat → Int32} {sm th : Int32} {sd : Int64} {td : Int32} {sp : Nat → Int64} {lf : Int32} {tx : Nat → Int32} {tl pl nb : Int32} {r : Nat} (hr : r < 5) : f_X6_ofUser (hm b W cap flo top eva lim rul rc uc rn dn lev dry ap rf us ra ac sv as sm th sd td sp lf tx tl pl nb) b (nI r) (3 : Int32) = some (us r 3) := by
  simp only [f_X6_ofUser, gm_r1, Option.bind_some, mu_3, obind1_some, gm_us hr (show 3 < 4 by decide)]
theorem ix_ra (d : Nat) : (63 : Int32) + nI d = nI (63 + d) := by show nI 63 + nI d = _; rw [xnI_add]
theorem ix_ac {x : Int32} {w : Nat} (d : Nat) (hx : x = nI w) : (163 : Int32) + (10 : Int32) * nI d + x = nI (163 + (d * 10 + w)) := by
  subst hx
  show nI 163 + nI 10 * nI d + nI w = _
  rw [xnI_mul, xnI_add, xnI_add, show 163 + 10 * d + w = 163 + (d * 10 + w) by omega]
section PS7
variable {b : Nat} {W : XH} {cap flo top eva lim rul rc uc rn dn lev dry ap : Int32} {rf us : Nat → Nat → Int32} {ra ac sv as : Nat → Int32} {sm th : Int32} {sd : Int64} {td : Int32} {sp : Nat → Int64} {lf : Int32} {tx : Nat → Int32} {tl pl nb : Int32}
theorem p_X6_tells {d w : Nat} {x : Int32} (hx : x = nI w) (h : d * 10 + w < 1000) (v : Int32) : f_X6_tells (hm b W cap flo top eva lim rul rc uc rn dn lev dry ap rf us ra ac sv as sm th sd (nI d) sp lf tx tl pl nb) b x v = some (hm b W cap flo top eva lim rul rc uc rn dn lev dry ap rf us ra (xup ac (d * 10 + w) (ac (d * 10 + w) + v)) sv as sm th sd (nI d) sp lf tx tl pl nb) := by
  simp only [f_X6_tells, gm_r1, gm_td, Option.bind_some, ix_ac d hx, gm_ac h, tm_ac h]
end PS7
theorem obind1_ite {α ω : Type} {c : Prop} [Decidable c] {a a' : α} {f : α → Option ω} : obind1 (if c then some a else some a') f = f (if c then a else a') := by
  by_cases h : c
  · rw [if_pos h, if_pos h]; rfl
  · rw [if_neg h, if_neg h]; rfl
theorem xbool_01 (c : Prop) [Decidable c] : xbool (xb01 c) = some (xb01 c) := by
  unfold xb01
  by_cases h : c
  · rw [if_pos h]; rfl
  · rw [if_neg h]; rfl
theorem xb01_0 (c : Prop) [Decidable c] : (xb01 c = 0) = ¬ c := by
  unfold xb01
  by_cases h : c
  · rw [if_pos h]; simp [h]
  · rw [if_neg h]; simp [h]
theorem p_X6_in (p l u : Int64) : f_X6_in p l u = some (xb01 (l ≤ p ∧ p ≤ u)) := by
  simp only [f_X6_in, oletk]
  by_cases h1 : p < l
  · rw [if_pos h1, obind1_some, show xb01 (l ≤ p ∧ p ≤ u) = 0 by rw [xb01_0]; intro h; exact absurd h.1 (Int64.not_le.mpr h1)]
    rfl
  · rw [if_neg h1]
    by_cases h2 : u < p
    · rw [if_pos h2, obind1_some, show xb01 (l ≤ p ∧ p ≤ u) = 0 by rw [xb01_0]; intro h; exact absurd h.2 (Int64.not_le.mpr h2)]
      rfl
    · rw [if_neg h2, obind1_some, show xb01 (l ≤ p ∧ p ≤ u) = 1 by unfold xb01; rw [if_pos ⟨Int64.not_lt.mp h1, Int64.not_lt.mp h2⟩]]
      rfl
theorem p_X6_goes {b : Nat} {W : XH} {cap flo top eva lim rul rc uc rn dn lev dry ap : Int32} {rf us : Nat → Nat → Int32} {ra ac sv as : Nat → Int32} {sm th : Int32} {sd : Int64} {td : Int32} {sp : Nat → Int64} {lf : Int32} {tx : Nat → Int32} {tl pl nb : Int32} (c d : Prop) [Decidable c] [Decidable d] : f_X6_goes (hm b W cap flo top eva lim rul rc uc rn dn lev dry ap rf us ra ac sv as sm th sd td sp lf tx tl pl nb) b (xb01 c) (xb01 d) = some (xb01 (c ∧ d), hm b W cap flo top eva lim rul rc uc rn dn lev dry ap rf us ra ac sv as sm (if c then if d then 0 else 2 else 1) sd td sp lf tx tl pl nb) := by
  unfold f_X6_goes
  simp only [xb01_0]
  by_cases hc : c
  · by_cases hd : d
    · simp only [hc, hd, not_true, if_false, obind1_some, sm_th, gm_th, Option.bind_some, if_true, and_self]; rfl
    · simp only [hc, hd, not_true, not_false_iff, if_false, obind1_some, sm_th, gm_th, Option.bind_some, if_true, and_false]; rfl
  · simp only [hc, not_false_iff, if_false, obind1_some, sm_th, gm_th, Option.bind_some, if_true, false_and]; rfl
