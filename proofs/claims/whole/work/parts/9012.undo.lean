/-! undo, both sides. -/
section PX40
variable {a0 a1 a2 a3 a4 a5 a6 a7 a8 a9 a10 a11 : Int32}
theorem zz_0 : zz a0 a1 a2 a3 a4 a5 a6 a7 a8 a9 a10 a11 0 = a0 := rfl
theorem zz_1 : zz a0 a1 a2 a3 a4 a5 a6 a7 a8 a9 a10 a11 1 = a1 := rfl
theorem zz_2 : zz a0 a1 a2 a3 a4 a5 a6 a7 a8 a9 a10 a11 2 = a2 := rfl
theorem zz_3 : zz a0 a1 a2 a3 a4 a5 a6 a7 a8 a9 a10 a11 3 = a3 := rfl
theorem zz_4 : zz a0 a1 a2 a3 a4 a5 a6 a7 a8 a9 a10 a11 4 = a4 := rfl
theorem zz_5 : zz a0 a1 a2 a3 a4 a5 a6 a7 a8 a9 a10 a11 5 = a5 := rfl
theorem zz_6 : zz a0 a1 a2 a3 a4 a5 a6 a7 a8 a9 a10 a11 6 = a6 := rfl
theorem zz_7 : zz a0 a1 a2 a3 a4 a5 a6 a7 a8 a9 a10 a11 7 = a7 := rfl
theorem zz_8 : zz a0 a1 a2 a3 a4 a5 a6 a7 a8 a9 a10 a11 8 = a8 := rfl
theorem zz_9 : zz a0 a1 a2 a3 a4 a5 a6 a7 a8 a9 a10 a11 9 = a9 := rfl
theorem zz_10 : zz a0 a1 a2 a3 a4 a5 a6 a7 a8 a9 a10 a11 10 = a10 := rfl
theorem zz_11 : zz a0 a1 a2 a3 a4 a5 a6 a7 a8 a9 a10 a11 11 = a11 := rfl
end PX40
section PX4
variable {B s L c k n N D : Nat} {h : XH} {cap flo top eva lim rul lev dry : Int32} {lo : Int64} {rf us : UT} {od ra ac : Nat → Int32} {ap : Int32} {rfm usm : UT} {ram acm sv as : Nat → Int32} {th : Int32} {sd : Int64} {td : Int32} {sp : Nat → Int64} {lf : Int32} {tx : Nat → Int32} {pl nb : Int32}
variable {fu : Nat}
theorem Sv_of (hS : St (B + 1) h cap flo top eva lim rul (nI k) (nI n) (nI N) (nI D) lev dry lo rf us od ra ac) : Sv (B + 1) h (zz cap flo top eva lim rul (nI k) (nI n) (nI N) (nI D) lev dry, lo, rf, us, od, ra, ac) := by
  unfold Sv
  simp only [zz_0, zz_1, zz_2, zz_3, zz_4, zz_5, zz_6, zz_7, zz_8, zz_9, zz_10, zz_11]
  exact hS
theorem mg_undo0 {W : XH} {b : Nat} {ra ac : Nat → Int32} {rf us : UT} {rc uc rn dn tl : Int32} : f_X6_undo fu (hm b W cap flo top eva lim rul rc uc rn dn lev dry ap rf us ra ac sv as (nI 0) th sd td sp lf tx tl pl nb) b = some (0, hm b W cap flo top eva lim rul rc uc rn dn lev dry ap rf us ra ac sv as (nI 0) 1 sd td sp lf tx tl pl nb) := by
  have z : xb01 False = 0 := rfl
  have c0 : nI 0 ≤ (0 : Int32) := by decide
  have g0 : f_X6_goes (hm b W cap flo top eva lim rul rc uc rn dn lev dry ap rf us ra ac sv as (nI 0) th sd td sp lf tx tl pl nb) b (0 : Int32) (1 : Int32) = some (0, hm b W cap flo top eva lim rul rc uc rn dn lev dry ap rf us ra ac sv as (nI 0) 1 sd td sp lf tx tl pl nb) := p_X6_goes False True
  simp only [f_X6_undo, gm_sm, Option.bind_some, if_pos c0, obind1_some, gm_is, g0, obind2_some, if_true]
theorem mg_undo {W : XH} {b t : Nat} (ht : t < 4) (hf : 1163 < fu) {a : Nat → Int32} {tl : Int32} : f_X6_undo fu (hr b W a sv as (nI (t + 1)) th sd td sp lf tx tl pl nb) b = some (nI t, hr b W (cpn 1163 (fun k => sv (1163 * t + k)) a) sv as (nI t) 0 sd td sp lf tx tl pl nb) := by
  have c0 : ¬ nI (t + 1) ≤ (0 : Int32) := by rw [ti_le, xnI_toInt (by omega), ti_0]; omega
  have g0 : f_X6_goes (hr b W a sv as (nI (t + 1)) th sd td sp lf tx tl pl nb) b (1 : Int32) (1 : Int32) = some (1, hr b W a sv as (nI (t + 1)) 0 sd td sp lf tx tl pl nb) := hr_goes True True
  have c1 : ¬ (1 : Int32) = 0 := by decide
  simp only [f_X6_undo, hr_sm, Option.bind_some, if_neg c0, obind1_some, hr_is, g0, obind2_some, if_neg c1, xnI_s1, hr_ssm]
  rw [p_X6_undoloop (body := xf2 fun (v6 : Int32) (h3 : XH) =>
      if (1163 : Int32) ≤ v6 then some (.inr h3) else (xgR h3 b 6 0).bind fun v7 => (xgR h3 b 6 1).bind fun v8 => (xgI h3 b 6 3).bind fun v9 => (xald h3 v8 0 (((1163 : Int32) * v9) + v6)).bind fun v10 => (xast h3 v7 0 v6 v10).bind fun h5 => olet (v6 + (1 : Int32)) fun v11 => some (.inl (v11, h5))) ht hf (fun h v => rfl)]
  simp only [obind1_some, hr_sm, Option.bind_some]
theorem K_undo (hS : St (B + 1) h cap flo top eva lim rul (nI k) (nI n) (nI N) (nI D) lev dry lo rf us od ra ac) (hO : Ot B h s sv c L tx) (hM : Mp (B + 113) h cap flo top eva lim rul (nI k) (nI n) (nI N) (nI D) lev dry ap rfm usm ram acm sv as (nI s) th sd td sp lf tx (nI L) pl nb) (hC : CT c k n N D cap flo top eva lev lo ap rf us rfm usm ra ac ram acm) (hs : s ≤ 4) (hL : L ≤ 120) (hX : Oc B h) (hf : 1163 < fu) : KW Int32.toInt64 B c (f_L_undo fu h B (B + 119)) (fun g => f_X6_undo fu g (B + 113)) := by
  obtain ⟨hR, hT, ⟨f, sg, svd, hXx, hRS⟩, hTt⟩ := hO
  by_cases h0 : s = 0
  · subst h0
    have c0 : ¬ (1 : Int32) ≤ nI 0 := by decide
    have e : f_X5_undo fu h B = some (.inr 1) := by
      simp only [f_X5_undo, rt_3 hR, Option.bind_some, if_neg c0]
    have eL : f_L_undo fu h B (B + 119) = some (1, h) := by
      simp only [f_L_undo, rt_is hR, Option.bind_some, e, xcatch_inr]
      rfl
    rw [eL]
    exact K_thr (by decide) hS ⟨hR, hT, ⟨f, sg, svd, hXx, hRS⟩, hTt⟩ hM hC hs hL hX (fun w hw => by
      show f_X6_undo fu w (B + 113) = _
      conv => lhs; rw [Mp_eq hw]
      exact mg_undo0)
  · obtain ⟨t, rfl⟩ : ∃ t, s = t + 1 := ⟨s - 1, by omega⟩
    have ht : t < 4 := by omega
    have c0 : (1 : Int32) ≤ nI (t + 1) := by
      have z1 : (1 : Int32) = nI 1 := rfl
      rw [z1, xnI_le_iff (by omega) (by omega)]; omega
    obtain ⟨k2, n2, N2, D2, ⟨v6, v7, v8, v9⟩, hz, C2⟩ := hRS t (by omega)
    have hb0 := C2.1
    obtain ⟨hk, hn, hN, hD⟩ := hb0
    have hg := (hXx.2.1 t ht).1
    -- the heap with the count lowered
    obtain ⟨w, hw⟩ : ∃ w, w = xup h B (some (.inr (5, [.ref (B + 1), .ref (B + 19), .ref (B + 37), .int (nI t), .ref (B + 110)]))) := ⟨_, rfl⟩
    have Fw : ∀ q, q ≠ B → w q = h q := fun q hq => by rw [hw]; exact xup_ne _ _ hq
    have Rw : Rt B w t := by rw [hw]; exact rt_up
    have Sw : St (B + 1) w cap flo top eva lim rul (nI k) (nI n) (nI N) (nI D) lev dry lo rf us od ra ac := St_fr hS (fun q h1 h2 => Fw q (by omega))
    have Xw : Sx B w f sg svd := ⟨(Fw _ (by omega)).trans hXx.1, hXx.2.1, hXx.2.2.1, fun i hi => Sv_fr (hXx.2.2.2 i hi) (fun q h1 h2 => Fw q (by omega))⟩
    have Qw := Xw.2.2.2 _ hg
    unfold Sv at Qw
    rw [v6, v7, v8, v9] at Qw
    obtain ⟨h7, rf2, us2, od2, ra2, ac2, e7, s7, f7, r1, r2, r3, r4⟩ := w_copy (Sv_of Sw) Qw (by omega) hk hn hN (by omega) (show 7 < fu by omega)
    have R7 : Rt B h7 t := Rt_fr (f7 B (by omega)) Rw
    have e : f_X5_undo fu h B = some (.inl (nI t, h7)) := by
      simp only [f_X5_undo, rt_3 hR, Option.bind_some, if_pos c0, xnI_s1, rt_w hR, ← hw, rt_0 Rw, rt_2 Rw, rt_3 Rw, sx_q Xw ht, st_is Sw, e7, obind1_some, rt_3 R7, olift_some]
    have eL : f_L_undo fu h B (B + 119) = (xastL h7 (B + 119) 0 (Int32.toInt64 (nI t))).bind fun h2 => some (0, h2) := by
      simp only [f_L_undo, rt_is hR, Option.bind_some, e, xcatch_inl]
    rw [eL]
    have O7 : Ot B h7 t sv c L tx := ⟨R7, Tr_fr hT (fun q g1 g2 => (f7 q (by omega)).trans (Fw q (by omega))), ⟨f, sg, svd, ⟨(f7 _ (by omega)).trans Xw.1, Xw.2.1, Xw.2.2.1, fun i hi => Sv_fr (Xw.2.2.2 i hi) (fun q g1 g2 => f7 q (by omega))⟩, fun j hj => hRS j (by omega)⟩, Tt_fr hTt (fun q g1 g2 => (f7 q (by omega)).trans (Fw q (by omega)))⟩
    obtain ⟨a', ha'⟩ : ∃ a', a' = cpn 1163 (fun k => sv (1163 * t + k)) (m_al cap flo top eva lim rul (nI k) (nI n) (nI N) (nI D) lev dry ap rfm usm ram acm) := ⟨_, rfl⟩
    have ea : ∀ j, j < 1163 → a' j = sv (1163 * t + j) := fun j hj => by
      rw [ha']; unfold cpn; rw [if_pos hj]
    have ez : ∀ i, i < 12 → a' i = (svd (sg t)).1 i := fun i hi => (ea i (by omega)).trans (hz i hi)
    have C3 : CT (c + 1) k2 n2 N2 D2 ((svd (sg t)).1 0) ((svd (sg t)).1 1) ((svd (sg t)).1 2) ((svd (sg t)).1 3) ((svd (sg t)).1 10) (svd (sg t)).2.1 (a' 12) rf2 us2 (fun i j => a' (13 + 5 * i + j)) (fun i j => a' (43 + 4 * i + j)) ra2 ac2 (fun d => a' (63 + d)) (fun j => a' (163 + j)) := by
      rw [ea 12 (by omega)]
      exact CT_c (CT_cg C2 (fun i hi j hj => r1 i hi j (by omega)) (fun i hi j hj => (ea _ (by omega)).symm) r2 (fun i hi j hj => (ea _ (by omega)).symm) r3 (fun d hd => (ea _ (by omega)).symm) r4 (fun j hj => (ea _ (by omega)).symm))
    refine K_ret (as' := as) (sd' := sd) (td' := td) (sp' := sp) (lf' := lf) (pl' := pl) (nb' := nb) hM hX s7 O7 (fun q hq => (f7 q (by omega)).trans (Fw q (by omega))) C3 (by omega) hL (fun g hg' => ?_)
    show f_X6_undo fu g (B + 113) = _
    conv => lhs; rw [Mp_eq hg', hm_hr]
    rw [mg_undo ht hf, ← ha']
    unfold hr
    rw [ez 0 (by decide), ez 1 (by decide), ez 2 (by decide), ez 3 (by decide), ez 4 (by decide), ez 5 (by decide), ez 6 (by decide), ez 7 (by decide), ez 8 (by decide), ez 9 (by decide), ez 10 (by decide), ez 11 (by decide), v6, v7, v8, v9]
end PX4
