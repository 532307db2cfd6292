/-! The class tries. -/
section PZ0
variable {b : Nat} {W : XH} {cap flo top eva lim rul rc uc rn dn lev dry : Int32} {lo : Int64} {rf us : Nat → Nat → Int32} {od ra ac : Nat → Int32}
variable {fu n N : Nat}
/-- the class's first half of all days, the heap under a condition -/
theorem p_X2_collectsZ {k : Nat} (hk : k ≤ 6) (hN : N ≤ 100) (hf : 101 < fu) (Z : XH → Prop) (hz : ∀ (dry : Int32) (rf : UT) (ac : Nat → Int32), Z (hp b W cap flo top eva lim rul (nI k) uc (nI N) dn lev dry lo rf us od ra ac)) {body : Int32 × XH → Option ((Int32 × XH) ⊕ XH)}
    (hs : ∀ (i : Nat) (h : XH), Z h → xgI h b 2 10 = some (nI N) → xis h b 2 = some () → i < N → body (nI i, h) = obind1 (f_X2_collect fu h b (nI i)) fun h2 => some (Sum.inl (nI (i + 1), h2)))
    (he : ∀ (h : XH), Z h → xgI h b 2 10 = some (nI N) → body (nI N, h) = some (Sum.inr h)) :
    ∃ ac' : Nat → Int32, xloop body fu (0, hp b W cap flo top eva lim rul (nI k) uc (nI N) dn lev 0 lo rf us od ra ac) = some (hp b W cap flo top eva lim rul (nI k) uc (nI N) dn lev (t_C k lim ra rf N).1 lo (t_C k lim ra rf N).2 us od ra ac') ∧ ∀ d, d < N → ac' (d * 10 + 1) = t_inf k lim ra rf d := by
  have key := xloop_P (body := body) (s0 := (0, hp b W cap flo top eva lim rul (nI k) uc (nI N) dn lev 0 lo rf us od ra ac)) (fu := fu)
    (fun i s => ∃ ac' : Nat → Int32, s = (nI i, hp b W cap flo top eva lim rul (nI k) uc (nI N) dn lev (t_C k lim ra rf i).1 lo (t_C k lim ra rf i).2 us od ra ac') ∧ ∀ d, d < i → ac' (d * 10 + 1) = t_inf k lim ra rf d)
    (fun r => ∃ ac' : Nat → Int32, r = hp b W cap flo top eva lim rul (nI k) uc (nI N) dn lev (t_C k lim ra rf N).1 lo (t_C k lim ra rf N).2 us od ra ac' ∧ ∀ d, d < N → ac' (d * 10 + 1) = t_inf k lim ra rf d)
    N ⟨ac, rfl, fun d h => absurd h (Nat.not_lt_zero _)⟩ ?ks ?ke (by omega)
  · obtain ⟨r, e, ac', er, e1⟩ := key
    exact ⟨ac', by rw [e, er], e1⟩
  case ks =>
    rintro i s hi ⟨ac', rfl, p1⟩
    left
    refine ⟨(nI (i + 1), hp b W cap flo top eva lim rul (nI k) uc (nI N) dn lev (t_C k lim ra rf (i + 1)).1 lo (t_C k lim ra rf (i + 1)).2 us od ra (c_acc k lim (t_C k lim ra rf i).1 (ra i) i (t_C k lim ra rf i).2 ac')), ?_, _, rfl, ?_⟩
    · rw [hs i _ (hz _ _ _) hg_rn hi_st hi, p_X2_collect hk (show 6 < fu by omega) (show i < 100 by omega), obind1_some]
      rfl
    · intro d hd
      unfold c_acc
      by_cases c : d = i
      · subst c
        rw [xup_ne _ _ (show d * 10 + 1 ≠ d * 10 + 9 by omega), xup_ne _ _ (show d * 10 + 1 ≠ d * 10 + 3 by omega), xup_ne _ _ (show d * 10 + 1 ≠ d * 10 + 2 by omega), xup_self]
        rfl
      · rw [xup_ne _ _ (show d * 10 + 1 ≠ i * 10 + 9 by omega), xup_ne _ _ (show d * 10 + 1 ≠ i * 10 + 3 by omega), xup_ne _ _ (show d * 10 + 1 ≠ i * 10 + 2 by omega), xup_ne _ _ (show d * 10 + 1 ≠ i * 10 + 1 by omega)]
        exact p1 d (by omega)
  case ke =>
    rintro s ⟨ac', rfl, p1⟩
    exact ⟨_, he _ (hz _ _ _) hg_rn, ac', rfl, p1⟩
end PZ0
section PZ1
variable {B s L c k n N D : Nat} {h : XH} {cap flo top eva lim rul lev dry : Int32} {lo : Int64} {rf us : UT} {od ra ac : Nat → Int32} {ap : Int32} {rfm usm : UT} {ram acm sv as : Nat → Int32} {th : Int32} {sd : Int64} {td : Int32} {sp : Nat → Int64} {lf : Int32} {tx : Nat → Int32} {pl nb : Int32}
variable {fu : Nat}
/-- the copy on which is tried, behind prepareTrial -/
theorem w_prep (hO : Ot B h s sv c L tx) (hS : St (B + 1) h cap flo top eva lim rul (nI k) (nI n) (nI N) (nI D) lev dry lo rf us od ra ac) (hC : CT c k n N D cap flo top eva lev lo ap rf us rfm usm ra ac ram acm) (hf : 101 < fu) :
    ∃ (h1 : XH) (rf2 us2 : UT) (od2 ra2 ac2 : Nat → Int32), f_X5_prepareTrial fu h B = some h1 ∧
      St (B+19) h1 cap flo top eva lim rul (nI k) (nI n) (nI N) 0 0 (t_C k lim ram (g_rf k rf2) N).1 0 (t_C k lim ram (g_rf k rf2) N).2 (u_clr n us2) od2 ra2 ac2 ∧ (∀ q, ¬ (B + 19 ≤ q ∧ q < B + 37) → h1 q = h q) ∧
      R5 k rf rf2 ∧ U4 n us us2 ∧ ∀ d, d < N → ac2 (d * 10 + 1) = t_inf k lim ram (g_rf k rf2) d := by
  obtain ⟨⟨hk, hn, hN, hD⟩, -, ⟨-, -, r3, -⟩, -⟩ := hC
  have R0 := hO.1
  obtain ⟨tr, hT⟩ := hO.2.1
  obtain ⟨h7, rf2, us2, od2, ra2, ac2, e7, s7, f7, g1, g2, g3, g4⟩ := w_copy hT hS (by omega) hk hn hN (by omega) (show 7 < fu by omega)
  have R7 : Rt B h7 s := Rt_fr (f7 B (by omega)) R0
  have era : ∀ i, i < N → ra2 i = ram i := fun i hi => (g3 i hi).symm.trans (r3 i hi)
  have et : ∀ d, d ≤ N → t_C k lim ra2 (g_rf k rf2) d = t_C k lim ram (g_rf k rf2) d := fun d hd => it_tC (fun i hi => era i (by omega))
  obtain ⟨ac3, e3, a3⟩ := p_X2_collectsZ (b := B + 19) (W := h7) (cap := cap) (flo := flo) (top := top) (eva := eva) (lim := lim) (rul := rul) (uc := nI n) (dn := 0) (lev := 0) (lo := 0) (rf := g_rf k rf2) (us := u_clr n us2) (od := od2) (ra := ra2) (ac := ac2) (fu := fu) hk hN hf (fun h => Rt B h s) (fun _ _ _ => Rt_hp R7 (by omega))
    (body := xf2 fun (v6 : Int32) (h3 : XH) => (xgR h3 B 5 1).bind fun v7 => (xgI h3 v7 2 10).bind fun v8 => if v8 ≤ v6 then some (.inr h3) else (xgR h3 B 5 1).bind fun v9 => (xis h3 v9 2).bind fun v10 => obind1 (f_X2_collect fu h3 v9 v6) fun h5 => olet (v6 + (1 : Int32)) fun v11 => some (.inl (v11, h5)))
    (fun i h hZ q1 q2 hi => by
      have hle : ¬ nI N ≤ nI i := nI_ge hi (by omega)
      simp only [xf2, rt_1 hZ, Option.bind_some, q1, if_neg hle, q2, olet, xnI_s])
    (fun h hZ q1 => by
      simp only [xf2, rt_1 hZ, Option.bind_some, q1, Int32.le_refl, if_true])
  rw [et N (Nat.le_refl _)] at e3
  have eg := p_X2_goBack (b := B + 19) (W := h7) (cap := cap) (flo := flo) (top := top) (eva := eva) (lim := lim) (rul := rul) (rn := nI N) (dn := nI D) (lev := lev) (dry := dry) (lo := lo) (rf := rf2) (us := us2) (od := od2) (ra := ra2) (ac := ac2) (fu := fu) hk hn (by omega)
  rw [← St_eq s7] at eg
  refine ⟨hp (B + 19) h7 cap flo top eva lim rul (nI k) (nI n) (nI N) 0 0 (t_C k lim ram (g_rf k rf2) N).1 0 (t_C k lim ram (g_rf k rf2) N).2 (u_clr n us2) od2 ra2 ac3, rf2, us2, od2, ra2, ac3, ?_, St_hp, ?_, fun i hi j hj => g1 i hi j (by omega), g2, ?_⟩
  · simp only [f_X5_prepareTrial, rt_1 R0, rt_0 R0, Option.bind_some, Sv_is hT, e7, obind1_some, rt_1 R7, st_is s7]
    rw [eg, obind1_some, e3]
    rfl
  · intro q hq
    rw [hp_out (by omega)]; exact f7 q (by omega)
  · intro d hd
    rw [a3 d hd]
    exact it_tinf era hd
/-- users that differ in nothing that trying looks at -/
theorem U4_clr_of {u v : UT} (h : ∀ i, i < n → u i 0 = v i 0 ∧ u i 1 = v i 1) : U4 n (u_clr n u) (u_clr n v) := by
  intro i hi j hj
  rw [u_clr_at hi, u_clr_at hi]
  rcases xlt4 hj with rfl | rfl | rfl | rfl
  · exact (h i hi).1
  · exact (h i hi).2
  · rfl
  · rfl
theorem w_try {b : Nat} {rc dn : Int32} (hS : St b h cap flo top eva lim rul rc (nI n) (nI N) dn lev dry lo rf us od ra ac) (hn : n ≤ 5) (hN : N ≤ 100) (hf : 101 < fu) (ho : u_ok n us) (hc : s_cf0 cap flo top eva) {inf : Nat → Int32} (hi : ∀ d, d < N → 0 ≤ (inf d).toInt ∧ (inf d).toInt ≤ 1000000) (ha : ∀ d, d < N → ac (d * 10 + 1) = inf d) {v : UT} (hv : ∀ i, i < n → us i 0 = v i 0 ∧ us i 1 = v i 1) (en : Int32) :
    ∃ (cnt lev' : Int32) (us' : UT) (od' ac' : Nat → Int32) (h1 : XH), f_X2_serveAll fu h b en = some (cnt, h1) ∧ St b h1 cap flo top eva lim rul rc (nI n) (nI N) dn lev' dry lo rf us' od' ra ac' ∧ (∀ q, ¬ (b ≤ q ∧ q < b + 18) → h1 q = h q) ∧
      (∀ d, d < N → ac' (d * 10 + 1) = inf d) ∧ (∀ i, i < n → us' i 0 = v i 0 ∧ us' i 1 = v i 1) ∧
      ((cnt = (t_S cap flo top eva rul n inf (u_clr n v) N).2.2 ∧ U4 n us' (t_S cap flo top eva rul n inf (u_clr n v) N).2.1) ∨ (en < cnt ∧ en < (t_S cap flo top eva rul n inf (u_clr n v) N).2.2)) := by
  obtain ⟨cnt, lev', us', od', ac', e, ⟨a1, a2⟩, a3⟩ := p_X2_serveAll (b := b) (W := h) (cap := cap) (flo := flo) (top := top) (eva := eva) (lim := lim) (rul := rul) (rc := rc) (dn := dn) (lev := lev) (dry := dry) (lo := lo) (rf := rf) (us := us) (od := od) (ra := ra) (ac := ac) hn hN hf ho hc hi ha en
  rw [← St_eq hS] at e
  have eq := it_tS (cap := cap) (flo := flo) (top := top) (eva := eva) (rul := rul) (inf := inf) (inf' := inf) (d := N) hn (U4_clr_of hv) (fun _ _ => rfl)
  refine ⟨cnt, lev', us', od', ac', _, e, St_hp, fun q hq => hp_out hq, a1, fun i hi => ?_, ?_⟩
  · rw [← (a2 i).1, ← (a2 i).2]; exact hv i hi
  · rcases a3 with ⟨c1, c2⟩ | ⟨c1, c2⟩
    · left
      rw [c1, c2]
      exact ⟨eq.2.2, eq.2.1⟩
    · right
      rw [← eq.2.2]
      exact ⟨c1, c2⟩
end PZ1

