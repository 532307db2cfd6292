/-! The model's row of numbers as a whole: copying it. -/
theorem al_dec (a : Nat → Int32) : m_al (a 0) (a 1) (a 2) (a 3) (a 4) (a 5) (a 6) (a 7) (a 8) (a 9) (a 10) (a 11) (a 12) (fun i j => a (13 + 5 * i + j)) (fun i j => a (43 + 4 * i + j)) (fun d => a (63 + d)) (fun j => a (163 + j)) = a := by
  funext k
  by_cases h : k < 13
  · rcases (show k = 0 ∨ k = 1 ∨ k = 2 ∨ k = 3 ∨ k = 4 ∨ k = 5 ∨ k = 6 ∨ k = 7 ∨ k = 8 ∨ k = 9 ∨ k = 10 ∨ k = 11 ∨ k = 12 by omega) with rfl | rfl | rfl | rfl | rfl | rfl | rfl | rfl | rfl | rfl | rfl | rfl | rfl <;> rfl
  · rw [al_k (by omega)]
    by_cases h2 : k < 43
    · rw [if_pos h2]; refine congrArg a ?_; omega
    · rw [if_neg h2]
      by_cases h3 : k < 63
      · rw [if_pos h3]; refine congrArg a ?_; omega
      · rw [if_neg h3]
        by_cases h4 : k < 163
        · rw [if_pos h4]; refine congrArg a ?_; omega
        · rw [if_neg h4]; refine congrArg a ?_; omega
def hr (b : Nat) (W : XH) (a : Nat → Int32) (sv as : Nat → Int32) (sm th : Int32) (sd : Int64) (td : Int32) (sp : Nat → Int64) (lf : Int32) (tx : Nat → Int32) (tl pl nb : Int32) : XH := hm b W (a 0) (a 1) (a 2) (a 3) (a 4) (a 5) (a 6) (a 7) (a 8) (a 9) (a 10) (a 11) (a 12) (fun i j => a (13 + 5 * i + j)) (fun i j => a (43 + 4 * i + j)) (fun d => a (63 + d)) (fun j => a (163 + j)) sv as sm th sd td sp lf tx tl pl nb
theorem hm_eq {b : Nat} {W : XH} {cap flo top eva lim rul rc uc rn dn lev dry ap : Int32} {rf us : Nat → Nat → Int32} {ra ac sv as : Nat → Int32} {sm th : Int32} {sd : Int64} {td : Int32} {sp : Nat → Int64} {lf : Int32} {tx : Nat → Int32} {tl pl nb : Int32} {cap' flo' top' eva' lim' rul' rc' uc' rn' dn' lev' dry' ap' : Int32} {rf' us' : Nat → Nat → Int32} {ra' ac' : Nat → Int32} (h : m_al cap flo top eva lim rul rc uc rn dn lev dry ap rf us ra ac = m_al cap' flo' top' eva' lim' rul' rc' uc' rn' dn' lev' dry' ap' rf' us' ra' ac') :
    hm b W cap flo top eva lim rul rc uc rn dn lev dry ap rf us ra ac sv as sm th sd td sp lf tx tl pl nb = hm b W cap' flo' top' eva' lim' rul' rc' uc' rn' dn' lev' dry' ap' rf' us' ra' ac' sv as sm th sd td sp lf tx tl pl nb := by
  unfold hm
  rw [h]
theorem hm_hr {b : Nat} {W : XH} {cap flo top eva lim rul rc uc rn dn lev dry ap : Int32} {rf us : Nat → Nat → Int32} {ra ac sv as : Nat → Int32} {sm th : Int32} {sd : Int64} {td : Int32} {sp : Nat → Int64} {lf : Int32} {tx : Nat → Int32} {tl pl nb : Int32} : hm b W cap flo top eva lim rul rc uc rn dn lev dry ap rf us ra ac sv as sm th sd td sp lf tx tl pl nb = hr b W (m_al cap flo top eva lim rul rc uc rn dn lev dry ap rf us ra ac) sv as sm th sd td sp lf tx tl pl nb := hm_eq (al_dec _).symm
def cpn (n : Nat) (f g : Nat → Int32) : Nat → Int32 := fun k => if k < n then f k else g k
theorem cpn_s (n : Nat) (f g : Nat → Int32) : xup (cpn n f g) n (f n) = cpn (n + 1) f g := by
  funext k
  by_cases c : k = n
  · subst c; rw [xup_self]; simp [cpn]
  · rw [xup_ne _ _ c]
    unfold cpn
    by_cases h : k < n
    · rw [if_pos h, if_pos (by omega)]
    · rw [if_neg h, if_neg (by omega)]
section PSD
variable {b : Nat} {W : XH} {cap flo top eva lim rul rc uc rn dn lev dry ap : Int32} {rf us : Nat → Nat → Int32} {ra ac sv as : Nat → Int32} {sm th : Int32} {sd : Int64} {td : Int32} {sp : Nat → Int64} {lf : Int32} {tx : Nat → Int32} {tl pl nb : Int32}
variable {a : Nat → Int32}
variable {fu : Nat}
theorem hr_al {i : Int32} (hi : xin i 1163 = true) : xald (hr b W a sv as sm th sd td sp lf tx tl pl nb) (b + 1) 0 i = some (a i.toNatClampNeg) := by
  unfold hr
  rw [gm_al hi, al_dec]
theorem hr_ua {i v : Int32} (hi : xin i 1163 = true) : xast (hr b W a sv as sm th sd td sp lf tx tl pl nb) (b + 1) 0 i v = some (hr b W (xup a i.toNatClampNeg v) sv as sm th sd td sp lf tx tl pl nb) := by
  unfold hr
  exact tm_al hi (by rw [al_dec, al_dec])
theorem hr_r1 : xgR (hr b W a sv as sm th sd td sp lf tx tl pl nb) b 6 0 = some (b + 1) := gm_r1
theorem hr_r2 : xgR (hr b W a sv as sm th sd td sp lf tx tl pl nb) b 6 1 = some (b + 2) := gm_r2
theorem hr_r3 : xgR (hr b W a sv as sm th sd td sp lf tx tl pl nb) b 6 2 = some (b + 3) := gm_r3
theorem hr_r4 : xgR (hr b W a sv as sm th sd td sp lf tx tl pl nb) b 6 7 = some (b + 4) := gm_r4
theorem hr_r5 : xgR (hr b W a sv as sm th sd td sp lf tx tl pl nb) b 6 9 = some (b + 5) := gm_r5
theorem hr_is : xis (hr b W a sv as sm th sd td sp lf tx tl pl nb) b 6 = some () := gm_is
theorem hr_sm : xgI (hr b W a sv as sm th sd td sp lf tx tl pl nb) b 6 3 = some sm := gm_sm
theorem hr_ssm (v : Int32) : xpV (hr b W a sv as sm th sd td sp lf tx tl pl nb) b 6 3 (.int v) = some (hr b W a sv as v th sd td sp lf tx tl pl nb) := sm_sm v
theorem hr_th : xgI (hr b W a sv as sm th sd td sp lf tx tl pl nb) b 6 4 = some th := gm_th
theorem hr_sth (v : Int32) : xpV (hr b W a sv as sm th sd td sp lf tx tl pl nb) b 6 4 (.int v) = some (hr b W a sv as sm v sd td sp lf tx tl pl nb) := sm_th v
theorem hr_tl : xgI (hr b W a sv as sm th sd td sp lf tx tl pl nb) b 6 10 = some tl := gm_tl
theorem hr_stl (v : Int32) : xpV (hr b W a sv as sm th sd td sp lf tx tl pl nb) b 6 10 (.int v) = some (hr b W a sv as sm th sd td sp lf tx v pl nb) := sm_tl v
theorem hr_pl : xgI (hr b W a sv as sm th sd td sp lf tx tl pl nb) b 6 11 = some pl := gm_pl
theorem hr_spl (v : Int32) : xpV (hr b W a sv as sm th sd td sp lf tx tl pl nb) b 6 11 (.int v) = some (hr b W a sv as sm th sd td sp lf tx tl v nb) := sm_pl v
theorem hr_nb : xgI (hr b W a sv as sm th sd td sp lf tx tl pl nb) b 6 12 = some nb := gm_nb
theorem hr_snb (v : Int32) : xpV (hr b W a sv as sm th sd td sp lf tx tl pl nb) b 6 12 (.int v) = some (hr b W a sv as sm th sd td sp lf tx tl pl v) := sm_nb v
theorem hr_sv {i : Int32} (hi : xin i 4652 = true) : xald (hr b W a sv as sm th sd td sp lf tx tl pl nb) (b + 2) 0 i = some (sv i.toNatClampNeg) := gm_sv hi
theorem hr_usv {i : Int32} (hi : xin i 4652 = true) (v : Int32) : xast (hr b W a sv as sm th sd td sp lf tx tl pl nb) (b + 2) 0 i v = some (hr b W a (xup sv i.toNatClampNeg v) as sm th sd td sp lf tx tl pl nb) := tm_sv hi v
theorem hr_as {i : Int32} (hi : xin i 1163 = true) : xald (hr b W a sv as sm th sd td sp lf tx tl pl nb) (b + 3) 0 i = some (as i.toNatClampNeg) := gm_as hi
theorem hr_uas {i : Int32} (hi : xin i 1163 = true) (v : Int32) : xast (hr b W a sv as sm th sd td sp lf tx tl pl nb) (b + 3) 0 i v = some (hr b W a sv (xup as i.toNatClampNeg v) sm th sd td sp lf tx tl pl nb) := tm_as hi v
theorem hr_tx {i : Int32} (hi : xin i 120 = true) : xald (hr b W a sv as sm th sd td sp lf tx tl pl nb) (b + 5) 0 i = some (tx i.toNatClampNeg) := gm_tx hi
theorem hr_utx {i : Int32} (hi : xin i 120 = true) (v : Int32) : xast (hr b W a sv as sm th sd td sp lf tx tl pl nb) (b + 5) 0 i v = some (hr b W a sv as sm th sd td sp lf (xup tx i.toNatClampNeg v) tl pl nb) := tm_tx hi v
theorem p_X6_lays (hf : 1163 < fu) : f_X6_lays fu (hr b W a sv as sm th sd td sp lf tx tl pl nb) b = some (hr b W a sv (cpn 1163 a as) sm th sd td sp lf tx tl pl nb) := by
  unfold f_X6_lays
  rw [xloop_E (fun i z => (nI i, hr b W a sv z sm th sd td sp lf tx tl pl nb)) (fun i z => xup z i (a i)) (fun z => hr b W a sv z sm th sd td sp lf tx tl pl nb) 1163 as ?h0 ?hs ?he ?hf]
  · have e : ∀ n, it (fun i z => xup z i (a i)) as n = cpn n a as := by
      intro n
      induction n with
      | zero => funext k; simp [it, cpn]
      | succ n ih => rw [it_s, ih, cpn_s]
    rw [e]; rfl
  case h0 => rfl
  case hf => omega
  case hs =>
    intro i z hi
    have hle : ¬ (1163 : Int32) ≤ nI i := nI_ge (b := 1163) hi (by decide)
    have h3 : (nI i).toNatClampNeg = i := xnI_nat (by omega)
    have hx := xin_nI hi (show 1163 < 2147483648 by decide)
    simp only [xf2, if_neg hle, hr_r1, hr_r3, Option.bind_some, hr_al hx, hr_uas hx, h3, olet, xnI_s]
  case he =>
    intro z
    simp only [xf2, show (1163 : Int32) ≤ nI 1163 from Int32.le_refl _, if_true]
theorem p_X6_takesBack (hf : 1163 < fu) : f_X6_takesBack fu (hr b W a sv as sm th sd td sp lf tx tl pl nb) b = some (hr b W (cpn 1163 as a) sv as sm th sd td sp lf tx tl pl nb) := by
  unfold f_X6_takesBack
  rw [xloop_E (fun i z => (nI i, hr b W z sv as sm th sd td sp lf tx tl pl nb)) (fun i z => xup z i (as i)) (fun z => hr b W z sv as sm th sd td sp lf tx tl pl nb) 1163 a ?h0 ?hs ?he ?hf]
  · have e : ∀ n, it (fun i z => xup z i (as i)) a n = cpn n as a := by
      intro n
      induction n with
      | zero => funext k; simp [it, cpn]
      | succ n ih => rw [it_s, ih, cpn_s]
    rw [e]; rfl
  case h0 => rfl
  case hf => omega
  case hs =>
    intro i z hi
    have hle : ¬ (1163 : Int32) ≤ nI i := nI_ge (b := 1163) hi (by decide)
    have h3 : (nI i).toNatClampNeg = i := xnI_nat (by omega)
    have hx := xin_nI hi (show 1163 < 2147483648 by decide)
    simp only [xf2, if_neg hle, hr_r1, hr_r3, Option.bind_some, hr_as hx, hr_ua hx, h3, olet, xnI_s]
  case he =>
    intro z
    simp only [xf2, show (1163 : Int32) ≤ nI 1163 from Int32.le_refl _, if_true]
end PSD
/-- what is saved: the row after it, from 1163 s on -/
def m_put (s : Nat) (a sv : Nat → Int32) (n : Nat) : Nat → Int32 := fun k => if 1163 * s ≤ k ∧ k < 1163 * s + n then a (k - 1163 * s) else sv k
def m_shf (sv : Nat → Int32) (n : Nat) : Nat → Int32 := fun k => if k < n then sv (k + 1163) else sv k
def m_sav (s : Nat) (a sv : Nat → Int32) : Nat → Int32 := if s = 4 then m_put 3 a (m_shf sv 3489) 1163 else m_put s a sv 1163
theorem m_put_s (s : Nat) (a sv : Nat → Int32) (n : Nat) : xup (m_put s a sv n) (1163 * s + n) (a n) = m_put s a sv (n + 1) := by
  funext k
  by_cases c : k = 1163 * s + n
  · subst c; rw [xup_self]; unfold m_put; rw [if_pos (by omega), Nat.add_sub_cancel_left]
  · rw [xup_ne _ _ c]
    unfold m_put
    by_cases h : 1163 * s ≤ k ∧ k < 1163 * s + n
    · rw [if_pos h, if_pos (by omega)]
    · rw [if_neg h, if_neg (by omega)]
theorem m_shf_s (sv : Nat → Int32) (n : Nat) : xup (m_shf sv n) n (m_shf sv n (n + 1163)) = m_shf sv (n + 1) := by
  have e : m_shf sv n (n + 1163) = sv (n + 1163) := by unfold m_shf; rw [if_neg (by omega)]
  rw [e]
  funext k
  by_cases c : k = n
  · subst c; rw [xup_self]; unfold m_shf; rw [if_pos (by omega)]
  · rw [xup_ne _ _ c]
    unfold m_shf
    by_cases h : k < n
    · rw [if_pos h, if_pos (by omega)]
    · rw [if_neg h, if_neg (by omega)]
section PSE
variable {b : Nat} {W : XH} {cap flo top eva lim rul rc uc rn dn lev dry ap : Int32} {rf us : Nat → Nat → Int32} {ra ac sv as : Nat → Int32} {sm th : Int32} {sd : Int64} {td : Int32} {sp : Nat → Int64} {lf : Int32} {tx : Nat → Int32} {tl pl nb : Int32}
variable {a : Nat → Int32}
variable {fu : Nat}
theorem ix_sv (s i : Nat) : (1163 : Int32) * nI s + nI i = nI (1163 * s + i) := by show nI 1163 * nI s + nI i = _; rw [xnI_mul, xnI_add]
theorem p_X6_put {s : Nat} (hs : s < 4) (hf : 1163 < fu) : (obind1 (xloop (xf2 fun (v8 : Int32) (h6 : XH) =>
    if (1163 : Int32) ≤ v8 then some (.inr h6) else (xgR h6 b 6 1).bind fun v9 => (xgI h6 b 6 3).bind fun v10 => (xgR h6 b 6 0).bind fun v11 => (xald h6 v11 0 v8).bind fun v12 => (xast h6 v9 0 (((1163 : Int32) * v10) + v8) v12).bind fun h8 => olet (v8 + (1 : Int32)) fun v13 => some (.inl (v13, h8))) fu ((0 : Int32), hr b W a sv as (nI s) th sd td sp lf tx tl pl nb)) fun h7 =>
    (xgI h7 b 6 3).bind fun v14 => (xpV h7 b 6 3 (.int (v14 + (1 : Int32)))).bind fun h9 => some (h9)) = some (hr b W a (m_put s a sv 1163) as (nI (s + 1)) th sd td sp lf tx tl pl nb) := by
  rw [xloop_E (fun i z => (nI i, hr b W a z as (nI s) th sd td sp lf tx tl pl nb)) (fun i z => xup z (1163 * s + i) (a i)) (fun z => hr b W a z as (nI s) th sd td sp lf tx tl pl nb) 1163 sv ?h0 ?hs ?he ?hf]
  · have e : ∀ n, it (fun i z => xup z (1163 * s + i) (a i)) sv n = m_put s a sv n := by
      intro n
      induction n with
      | zero => funext k; unfold m_put; rw [if_neg (by omega)]; rfl
      | succ n ih => rw [it_s, ih, m_put_s]
    rw [e, obind1_some]
    simp only [hr_sm, Option.bind_some, hr_ssm, xnI_s]
  case h0 => rfl
  case hf => omega
  case hs =>
    intro i z hi
    have hle : ¬ (1163 : Int32) ≤ nI i := nI_ge (b := 1163) hi (by decide)
    have h3 : (nI i).toNatClampNeg = i := xnI_nat (by omega)
    have hx := xin_nI hi (show 1163 < 2147483648 by decide)
    have hx2 := xin_nI (show 1163 * s + i < 4652 by omega) (show 4652 < 2147483648 by decide)
    have h32 : (nI (1163 * s + i)).toNatClampNeg = 1163 * s + i := xnI_nat (by omega)
    simp only [xf2, if_neg hle, hr_r1, hr_r2, Option.bind_some, hr_al hx, hr_sm, ix_sv, hr_usv hx2, h3, h32, olet, xnI_s]
  case he =>
    intro z
    simp only [xf2, show (1163 : Int32) ≤ nI 1163 from Int32.le_refl _, if_true]
theorem p_X6_save {s : Nat} (hs : s ≤ 4) (hf : 3489 < fu) : f_X6_save fu (hr b W a sv as (nI s) th sd td sp lf tx tl pl nb) b = some (hr b W a (m_sav s a sv) as (nI (min s 3 + 1)) th sd td sp lf tx tl pl nb) := by
  unfold f_X6_save
  simp only [hr_sm, Option.bind_some]
  by_cases c : s = 4
  · subst c
    rw [if_pos xnl4]
    rw [xloop_E (fun i z => (nI i, hr b W a z as (nI 4) th sd td sp lf tx tl pl nb)) (fun i z => xup z i (z (i + 1163))) (fun z => hr b W a z as (nI 4) th sd td sp lf tx tl pl nb) 3489 sv ?h0 ?hs ?he ?hf]
    · have e : ∀ n, it (fun i z => xup z i (z (i + 1163))) sv n = m_shf sv n := by
        intro n
        induction n with
        | zero => funext k; unfold m_shf; rw [if_neg (by omega)]; rfl
        | succ n ih => rw [it_s, ih, m_shf_s]
      rw [e, obind1_some]
      simp only [hr_sm, Option.bind_some, hr_ssm]
      rw [obind1_some]
      exact p_X6_put (s := 3) (by decide) (by omega)
    case h0 => rfl
    case hf => omega
    case hs =>
      intro i z hi
      have hle : ¬ (3489 : Int32) ≤ nI i := nI_ge (b := 3489) hi (by decide)
      have h3 : (nI i).toNatClampNeg = i := xnI_nat (by omega)
      have hx := xin_nI (show i < 4652 by omega) (show 4652 < 2147483648 by decide)
      have hx2 := xin_nI (show i + 1163 < 4652 by omega) (show 4652 < 2147483648 by decide)
      have h32 : (nI (i + 1163)).toNatClampNeg = i + 1163 := xnI_nat (by omega)
      have e2 : nI i + (1163 : Int32) = nI (i + 1163) := by show nI i + nI 1163 = _; rw [xnI_add]
      simp only [xf2, if_neg hle, hr_r2, Option.bind_some, e2, hr_sv hx2, hr_usv hx, h3, h32, olet, xnI_s]
    case he =>
      intro z
      simp only [xf2, show (3489 : Int32) ≤ nI 3489 from Int32.le_refl _, if_true]
  · have hne : ¬ nI s = (4 : Int32) := fun h => c (xnI_inj (by omega) (by decide) (h.trans xnl4.symm))
    rw [if_neg hne, obind1_some]
    have e : m_sav s a sv = m_put s a sv 1163 := if_neg c
    rw [e, show min s 3 = s by omega]
    exact p_X6_put (by omega) (by omega)
theorem p_X6_undoloop {s : Nat} (hs : s < 4) (hf : 1163 < fu) {body : Int32 × XH → Option ((Int32 × XH) ⊕ XH)}
    (hb : ∀ h v, body (v, h) = if (1163 : Int32) ≤ v then some (.inr h) else (xgR h b 6 0).bind fun v7 => (xgR h b 6 1).bind fun v8 => (xgI h b 6 3).bind fun v9 => (xald h v8 0 (((1163 : Int32) * v9) + v)).bind fun v10 => (xast h v7 0 v v10).bind fun h5 => olet (v + (1 : Int32)) fun v11 => some (.inl (v11, h5))) :
    xloop body fu ((0 : Int32), hr b W a sv as (nI s) th sd td sp lf tx tl pl nb) = some (hr b W (cpn 1163 (fun k => sv (1163 * s + k)) a) sv as (nI s) th sd td sp lf tx tl pl nb) := by
  rw [xloop_E (fun i z => (nI i, hr b W z sv as (nI s) th sd td sp lf tx tl pl nb)) (fun i z => xup z i (sv (1163 * s + i))) (fun z => hr b W z sv as (nI s) th sd td sp lf tx tl pl nb) 1163 a ?h0 ?hs ?he ?hf]
  · have e : ∀ n, it (fun i z => xup z i (sv (1163 * s + i))) a n = cpn n (fun k => sv (1163 * s + k)) a := by
      intro n
      induction n with
      | zero => funext k; simp [it, cpn]
      | succ n ih => rw [it_s, ih]; exact cpn_s n (fun k => sv (1163 * s + k)) a
    rw [e]
  case h0 => rfl
  case hf => omega
  case hs =>
    intro i z hi
    have hle : ¬ (1163 : Int32) ≤ nI i := nI_ge (b := 1163) hi (by decide)
    have h3 : (nI i).toNatClampNeg = i := xnI_nat (by omega)
    have hx := xin_nI hi (show 1163 < 2147483648 by decide)
    have hx2 := xin_nI (show 1163 * s + i < 4652 by omega) (show 4652 < 2147483648 by decide)
    have h32 : (nI (1163 * s + i)).toNatClampNeg = 1163 * s + i := xnI_nat (by omega)
    simp only [hb, if_neg hle, hr_r1, hr_r2, Option.bind_some, hr_sm, ix_sv, hr_sv hx2, hr_ua hx, h3, h32, olet, xnI_s]
  case he =>
    intro z
    simp only [hb, show (1163 : Int32) ≤ nI 1163 from Int32.le_refl _, if_true]
end PSE
