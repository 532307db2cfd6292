/-! parse, both sides. -/
section PY2
variable {b : Nat} {W : XH} {cap flo top eva lim rul rc uc rn dn lev dry ap : Int32} {rf us : Nat → Nat → Int32} {ra ac sv as : Nat → Int32} {sm th : Int32} {sd : Int64} {td : Int32} {sp : Nat → Int64} {lf : Int32} {tx : Nat → Int32} {tl pl nb : Int32}
variable {fu : Nat}
/-- taken back, the row is as it was laid aside -/
theorem row_back {cap' flo' top' eva' lim' rul' rc' uc' rn' dn' lev' dry' ap' : Int32} {rf' us' : UT} {ra' ac' : Nat → Int32} (e : ∀ j, 1000 ≤ j → ac' j = ac j) (z : Nat → Int32) :
    cpn 1163 (cpn 1163 (m_al cap flo top eva lim rul rc uc rn dn lev dry ap rf us ra ac) z) (m_al cap' flo' top' eva' lim' rul' rc' uc' rn' dn' lev' dry' ap' rf' us' ra' ac') = m_al cap flo top eva lim rul rc uc rn dn lev dry ap rf us ra ac := by
  funext j
  unfold cpn
  by_cases c : j < 1163
  · rw [if_pos c, if_pos c]
  · rw [if_neg c, al_k (by omega), al_k (by omega), if_neg (by omega), if_neg (by omega), if_neg (by omega), if_neg (by omega), if_neg (by omega), if_neg (by omega)]
    exact e _ (by omega)
theorem mg_lays (hf : 1163 < fu) : f_X6_lays fu (hm b W cap flo top eva lim rul rc uc rn dn lev dry ap rf us ra ac sv as sm th sd td sp lf tx tl pl nb) b = some (hm b W cap flo top eva lim rul rc uc rn dn lev dry ap rf us ra ac sv (cpn 1163 (m_al cap flo top eva lim rul rc uc rn dn lev dry ap rf us ra ac) as) sm th sd td sp lf tx tl pl nb) := by
  rw [hm_hr, p_X6_lays hf, ← hm_hr]
/-- .. by the method -/
theorem mg_tb (hf : 1163 < fu) {cap' flo' top' eva' lim' rul' rc' uc' rn' dn' lev' dry' ap' : Int32} {rf' us' : UT} {ra' ac' : Nat → Int32} (e : ∀ j, 1000 ≤ j → ac' j = ac j) (z : Nat → Int32) :
    f_X6_takesBack fu (hm b W cap' flo' top' eva' lim' rul' rc' uc' rn' dn' lev' dry' ap' rf' us' ra' ac' sv (cpn 1163 (m_al cap flo top eva lim rul rc uc rn dn lev dry ap rf us ra ac) z) sm th sd td sp lf tx tl pl nb) b = some (hm b W cap flo top eva lim rul rc uc rn dn lev dry ap rf us ra ac sv (cpn 1163 (m_al cap flo top eva lim rul rc uc rn dn lev dry ap rf us ra ac) z) sm th sd td sp lf tx tl pl nb) := by
  rw [hm_hr, p_X6_takesBack hf, row_back e, ← hm_hr]
end PY2
/-- a round of the model's reading -/
def pbody (fu b : Nat) : XH → Option (XH ⊕ (XH ⊕ (Int32 × XH))) := xf1 fun (h4 : XH) => (xgI h4 b 6 11).bind fun v2 => (xgI h4 b 6 10).bind fun v3 => if v3 ≤ v2 then some (.inr (.inl h4)) else (xis h4 b 6).bind fun v4 => obind2 (f_X6_readsItem fu h4 b) fun v5 h6 =>
            if v5 = (0 : Int32) then (xis h6 b 6).bind fun v6 => obind1 (f_X6_takesBack fu h6 b) fun h7 => (xgI h7 b 6 11).bind fun v7 => some (.inr (.inr (((-10 : Int32) - v7), h7))) else some (.inl h6)
section PY3
variable {B s L c k n N D : Nat} {h : XH} {cap flo top eva lim rul lev dry : Int32} {lo : Int64} {rf us : UT} {od ra ac : Nat → Int32} {ap : Int32} {rfm usm : UT} {ram acm sv as : Nat → Int32} {th : Int32} {sd : Int64} {td : Int32} {sp : Nat → Int64} {lf : Int32} {tx : Nat → Int32} {pl nb : Int32}
variable {fu : Nat}
theorem mg_parseloop {b : Nat} {W : XH} {rc uc dn : Int32} (hL : L ≤ 120) (hf : 1163 < fu) {z : Nat → Int32} (hz : as = cpn 1163 (m_al cap flo top eva lim rul rc uc (nI N) dn lev dry ap rfm usm ram acm) z) :
    ∀ (f p cc : Nat) (fo ra : Nat → Int32) (nb : Int32) (m : Nat), p ≤ L → L ≤ p + f → N + cc ≤ 100 → f < m → (∀ j, j < cc → ra (N + j) = fo j) → (∀ j, j < N → ra j = ram j) → (∀ j, j < cc → 0 ≤ (fo j).toInt ∧ (fo j).toInt ≤ 200) →
    (match itms L tx (100 - N) f p cc fo with
      | .inl q => ∃ nb', xloop (pbody fu b) m (hm b W cap flo top eva lim rul rc uc (nI (N + cc)) dn lev dry ap rfm usm ra acm sv as (nI s) th sd td sp lf tx (nI L) (nI p) nb) =
          some (.inr ((-10 : Int32) - nI q, hm b W cap flo top eva lim rul rc uc (nI N) dn lev dry ap rfm usm ram acm sv as (nI s) th sd td sp lf tx (nI L) (nI q) nb'))
      | .inr (c2, f2) => ∃ ra' pl' nb', xloop (pbody fu b) m (hm b W cap flo top eva lim rul rc uc (nI (N + cc)) dn lev dry ap rfm usm ra acm sv as (nI s) th sd td sp lf tx (nI L) (nI p) nb) =
          some (.inl (hm b W cap flo top eva lim rul rc uc (nI (N + c2)) dn lev dry ap rfm usm ra' acm sv as (nI s) th sd td sp lf tx (nI L) pl' nb')) ∧ N + c2 ≤ 100 ∧ (∀ j, j < c2 → ra' (N + j) = f2 j) ∧ (∀ j, j < N → ra' j = ram j) ∧ ∀ j, j < c2 → 0 ≤ (f2 j).toInt ∧ (f2 j).toInt ≤ 200) := by
  intro f
  induction f with
  | zero =>
    intro p cc fo ra nb m hp hLp hN hm1 h1 h2 h3
    obtain ⟨m', rfl⟩ : ∃ m', m = m' + 1 := ⟨m - 1, by omega⟩
    have ep : p = L := by omega
    subst ep
    refine ⟨ra, nI p, nb, ?_, hN, h1, h2, h3⟩
    simp only [xloop, pbody, xf1, gm_pl, gm_tl, Option.bind_some, Int32.le_refl, if_true]
  | succ f ih =>
    intro p cc fo ra nb m hp hLp hN hm1 h1 h2 h3
    obtain ⟨m', rfl⟩ : ∃ m', m = m' + 1 := ⟨m - 1, by omega⟩
    by_cases hpL : p < L
    · have hle : ¬ nI L ≤ nI p := nI_ge hpL (by omega)
      obtain ⟨nb', e⟩ := p_X6_readsItem (fu := fu) (L := L) (p := p) (R := N + cc) (b := b) (W := W) (cap := cap) (flo := flo) (top := top) (eva := eva) (lim := lim) (rul := rul) (rc := rc) (uc := uc) (dn := dn) (lev := lev) (dry := dry) (ap := ap) (rf := rfm) (us := usm) (ra := ra) (ac := acm) (sv := sv) (as := as) (sm := nI s) (th := th) (sd := sd) (td := td) (sp := sp) (lf := lf) (tx := tx) (nb := nb) hL hp hN (by omega)
      have es := itm_shift L tx (show N ≤ 100 by omega) p cc
      unfold itms
      rw [if_pos hpL, es]
      cases hi : itm L tx 100 p (N + cc) with
      | inl q =>
        rw [hi] at e
        refine ⟨nb', ?_⟩
        simp only [xloop, pbody, xf1, gm_pl, gm_tl, Option.bind_some, if_neg hle, gm_is, e, obind2_some, if_true]
        rw [hz, mg_tb hf (fun _ _ => rfl) z]
        simp only [obind1_some, gm_pl, Option.bind_some]
      | inr x =>
        obtain ⟨e1, v, d⟩ := x
        rw [hi] at e
        have hii := itm_inr hi
        have c1 : ¬ (1 : Int32) = 0 := by decide
        have key := ih e1 (cc + d) (fill v cc d fo) (fill v (N + cc) d ra) nb' m' (by omega) (by omega) (by omega) (by omega) (fill_off v N cc d fo ra h1) (fun j hj => by rw [fill_lo _ _ _ _ (by omega)]; exact h2 j hj) (fun j hj => by
          rw [fill_at]
          by_cases cj : cc ≤ j ∧ j < cc + d
          · rw [if_pos cj]; exact hii.2.1
          · rw [if_neg cj]; exact h3 j (by omega))
        simp only
        have st : xloop (pbody fu b) (m' + 1) (hm b W cap flo top eva lim rul rc uc (nI (N + cc)) dn lev dry ap rfm usm ra acm sv as (nI s) th sd td sp lf tx (nI L) (nI p) nb) =
          xloop (pbody fu b) m' (hm b W cap flo top eva lim rul rc uc (nI (N + (cc + d))) dn lev dry ap rfm usm (fill v (N + cc) d ra) acm sv as (nI s) th sd td sp lf tx (nI L) (nI e1) nb') := by
          rw [xloop]
          simp only [pbody, xf1, gm_pl, gm_tl, Option.bind_some, if_neg hle, gm_is, e, obind2_some, if_neg c1, Nat.add_assoc]
        rw [st]
        exact key
    · have ep : p = L := by omega
      subst ep
      unfold itms
      rw [if_neg hpL]
      refine ⟨ra, nI p, nb, ?_, hN, h1, h2, h3⟩
      simp only [xloop, pbody, xf1, gm_pl, gm_tl, Option.bind_some, Int32.le_refl, if_true]
theorem mg_parse1 {W : XH} {q : Nat} (hC : CT c k n N D cap flo top eva lev lo ap rf us rfm usm ra ac ram acm) (hL : L ≤ 120) (hf : 3489 < fu) {fo : Nat → Int32} (h : itms L tx (100 - N) 120 0 0 fo = .inl q) :
    ∃ as' pl' nb', f_X6_parse fu (hm (B + 113) W cap flo top eva lim rul (nI k) (nI n) (nI N) (nI D) lev dry ap rfm usm ram acm sv as (nI s) th sd td sp lf tx (nI L) pl nb) (B + 113) = some ((-10 : Int32) - nI q, hm (B + 113) W cap flo top eva lim rul (nI k) (nI n) (nI N) (nI D) lev dry ap rfm usm ram acm sv as' (nI s) 0 sd td sp lf tx (nI L) pl' nb') := by
  have hN := hC.1.2.2.1
  have key := mg_parseloop (b := B + 113) (W := W) (N := N) (L := L) (s := s) (as := cpn 1163 (m_al cap flo top eva lim rul (nI k) (nI n) (nI N) (nI D) lev dry ap rfm usm ram acm) as) (th := 0) (sv := sv) (sd := sd) (td := td) (sp := sp) (lf := lf) (tx := tx) (fu := fu) hL (by omega) rfl 120 0 0 fo ram nb fu (Nat.zero_le _) (by omega) (by omega) (by omega) (fun j hj => by omega) (fun _ _ => rfl) (fun j hj => by omega)
  rw [h] at key
  obtain ⟨nb', e⟩ := key
  refine ⟨cpn 1163 (m_al cap flo top eva lim rul (nI k) (nI n) (nI N) (nI D) lev dry ap rfm usm ram acm) as, nI q, nb', ?_⟩
  simp only [f_X6_parse, sm_th, Option.bind_some, gm_is, mg_lays (show 1163 < fu by omega), obind1_some, sm_pl]
  rw [show N + 0 = N from rfl, xnI_z] at e
  unfold pbody at e
  rw [e]
  rfl
theorem mg_parse2 {W : XH} {c2 : Nat} {f2 : Nat → Int32} (hC : CT c k n N D cap flo top eva lev lo ap rf us rfm usm ra ac ram acm) (hs : s ≤ 4) (hL : L ≤ 120) (hf : 3489 < fu) {fo : Nat → Int32} (h : itms L tx (100 - N) 120 0 0 fo = .inr (c2, f2)) :
    ∃ ra' as' pl' nb', f_X6_parse fu (hm (B + 113) W cap flo top eva lim rul (nI k) (nI n) (nI N) (nI D) lev dry ap rfm usm ram acm sv as (nI s) th sd td sp lf tx (nI L) pl nb) (B + 113) = some (nI (N + c2), hm (B + 113) W cap flo top eva lim rul (nI k) (nI n) (nI (N + c2)) (nI D) lev dry ap rfm usm ra' acm (m_sav s (m_al cap flo top eva lim rul (nI k) (nI n) (nI N) (nI D) lev dry ap rfm usm ram acm) sv) as' (nI (min s 3 + 1)) 0 sd td sp lf tx (nI L) pl' nb') ∧
      N + c2 ≤ 100 ∧ (∀ j, j < c2 → ra' (N + j) = f2 j) ∧ (∀ j, j < N → ra' j = ram j) ∧ ∀ j, j < c2 → 0 ≤ (f2 j).toInt ∧ (f2 j).toInt ≤ 200 := by
  have hN := hC.1.2.2.1
  have key := mg_parseloop (b := B + 113) (W := W) (N := N) (L := L) (s := s) (as := cpn 1163 (m_al cap flo top eva lim rul (nI k) (nI n) (nI N) (nI D) lev dry ap rfm usm ram acm) as) (th := 0) (sv := sv) (sd := sd) (td := td) (sp := sp) (lf := lf) (tx := tx) (fu := fu) hL (by omega) rfl 120 0 0 fo ram nb fu (Nat.zero_le _) (by omega) (by omega) (by omega) (fun j hj => by omega) (fun _ _ => rfl) (fun j hj => by omega)
  rw [h] at key
  obtain ⟨ra', pl', nb', e, h1, h2, h3, h4⟩ := key
  refine ⟨ra', cpn 1163 (m_al cap flo top eva lim rul (nI k) (nI n) (nI (N + c2)) (nI D) lev dry ap rfm usm ra' acm) (cpn 1163 (m_al cap flo top eva lim rul (nI k) (nI n) (nI N) (nI D) lev dry ap rfm usm ram acm) as), pl', nb', ?_, h1, h2, h3, h4⟩
  simp only [f_X6_parse, sm_th, Option.bind_some, gm_is, mg_lays (show 1163 < fu by omega), obind1_some, sm_pl]
  rw [show N + 0 = N from rfl, xnI_z] at e
  unfold pbody at e
  rw [e]
  simp only [oret1]
  rw [hm_hr, p_X6_swap (by omega), row_back (fun _ _ => rfl), ← hm_hr]
  simp only [obind1_some, gm_is, Option.bind_some, mg_save hs hf]
  rw [mg_tb (show 1163 < fu by omega) (fun _ _ => rfl)]
  simp only [obind1_some, gm_r1, gm_rn, Option.bind_some]
end PY3
section PY4
variable {B s L c k n N D : Nat} {h : XH} {cap flo top eva lim rul lev dry : Int32} {lo : Int64} {rf us : UT} {od ra ac : Nat → Int32} {ap : Int32} {rfm usm : UT} {ram acm sv as : Nat → Int32} {th : Int32} {sd : Int64} {td : Int32} {sp : Nat → Int64} {lf : Int32} {tx : Nat → Int32} {pl nb : Int32}
variable {fu : Nat}
theorem K_parse (hS : St (B + 1) h cap flo top eva lim rul (nI k) (nI n) (nI N) (nI D) lev dry lo rf us od ra ac) (hO : Ot B h s sv c L tx) (hM : Mp (B + 113) h cap flo top eva lim rul (nI k) (nI n) (nI N) (nI D) lev dry ap rfm usm ram acm sv as (nI s) th sd td sp lf tx (nI L) pl nb) (hC : CT c k n N D cap flo top eva lev lo ap rf us rfm usm ra ac ram acm) (hs : s ≤ 4) (hL : L ≤ 120) (hX : Oc B h) (hf : 3489 < fu) : KV B c (f_X5_parse fu h B) (fun g => f_X6_parse fu g (B + 113)) := by
  have hN := hC.1.2.2.1
  obtain ⟨fc, pa, nu, fo, eT⟩ := Tt_eq hO.2.2.2
  obtain ⟨c', pa', nu', fo', code, eR, hR⟩ := p_X0_readItems (fu := fu) (b := B + 110) (W := h) (fc := fc) (pa := pa) (nu := nu) (by_ := tx) (fo := fo) (L := L) (N := N) hL hN (by omega)
  rw [← eT] at eR
  have R1 : Rt B (ht (B + 110) h (nI L) c' pa' nu' tx fo') s := Rt_ht hO.1 (by omega)
  have S1 : St (B + 1) (ht (B + 110) h (nI L) c' pa' nu' tx fo') cap flo top eva lim rul (nI k) (nI n) (nI N) (nI D) lev dry lo rf us od ra ac := St_fr hS (fun q h1 h2 => ht_out (by omega))
  have O1 : Ot B (ht (B + 110) h (nI L) c' pa' nu' tx fo') s sv c L tx := Ot_ht hO
  have ti : xis h (B + 110) 0 = some () := by rw [eT]; exact tg_is
  cases hi : itms L tx (100 - N) 120 0 0 fo with
  | inl q =>
    rw [hi] at hR
    have hq : q < 2147483648 := by
      have := hC.1.2.2.1
      have hh : ∀ f p cc (g : Nat → Int32), p ≤ L → itms L tx (100 - N) f p cc g = .inl q → q ≤ L := by
        intro f
        induction f with
        | zero => intro p cc g _ hh; unfold itms at hh; exact absurd hh (by simp)
        | succ f ih =>
          intro p cc g hp hh
          unfold itms at hh
          by_cases cp : p < L
          · rw [if_pos cp] at hh
            cases hj : itm L tx (100 - N) p cc with
            | inl q2 =>
              rw [hj] at hh
              simp only [Sum.inl.injEq] at hh
              subst hh
              exact itm_inl hp hj
            | inr x =>
              obtain ⟨e1, v, d⟩ := x
              rw [hj] at hh
              exact ih _ _ _ (itm_inr hj).1.2.1 hh
          · rw [if_neg cp] at hh; exact absurd hh (by simp)
      have := hh 120 0 0 fo (Nat.zero_le _) hi
      omega
    simp only at hR
    subst hR
    have e : f_X5_parse fu h B = some ((-10 : Int32) - nI q, ht (B + 110) h (nI L) c' pa' nu' tx fo') := by
      simp only [f_X5_parse, rt_4 hO.1, rt_0 hO.1, Option.bind_some, st_rn hS, ti, eR, obind2_some, if_neg (xnI_neg1 hq)]
    rw [e]
    exact KV_retE hM hX S1 O1 (fun q hq => ht_out (by omega)) hs hL (fun w hw => by
      obtain ⟨as', pl', nb', e9⟩ := mg_parse1 (B := B) (lim := lim) (rul := rul) (dry := dry) (s := s) (L := L) (sv := sv) (as := as) (th := th) (sd := sd) (td := td) (sp := sp) (lf := lf) (tx := tx) (pl := pl) (nb := nb) (W := w) hC hL hf hi
      rw [← Mp_eq hw] at e9
      exact ⟨ap, rfm, usm, ram, acm, as', sd, td, sp, lf, pl', nb', e9, CT_c hC⟩)
  | inr x =>
    obtain ⟨c2, f2⟩ := x
    rw [hi] at hR
    obtain ⟨e1, e2, e3, -⟩ := hR
    subst e1 e2 e3
    obtain ⟨h2, e0, S2, O2, F2⟩ := w_saveT O1 S1 hC hs (show 7 < fu by omega)
    have R2 := O2.1
    have hi2 := hi
    obtain ⟨ra9, as9, pl9, nb9, -, g1, g2, g3, g4⟩ := mg_parse2 (B := B) (lim := lim) (rul := rul) (dry := dry) (s := s) (L := L) (sv := sv) (as := as) (th := th) (sd := sd) (td := td) (sp := sp) (lf := lf) (tx := tx) (pl := pl) (nb := nb) (W := h) hC hs hL hf hi
    have T2 : ∀ {W : XH} {x : Nat → Int32} {r : Int32}, W = h2 → ∀ q, B + 110 ≤ q → q < B + 113 → (hp (B + 1) W cap flo top eva lim rul (nI k) (nI n) r (nI D) lev dry lo rf us od x ac) q = ht (B + 110) h (nI L) (nI c2) pa' nu' tx fo' q := fun hW q q1 q2 => by rw [hp_out (by omega), hW]; exact F2 q (by omega)
    have G : ∀ {x : Nat → Int32} {r : Int32}, xgI (hp (B + 1) h2 cap flo top eva lim rul (nI k) (nI n) r (nI D) lev dry lo rf us od x ac) (B + 110) 0 3 = some (nI c2) ∧ xgR (hp (B + 1) h2 cap flo top eva lim rul (nI k) (nI n) r (nI D) lev dry lo rf us od x ac) (B + 110) 0 2 = some (B + 110 + 2) ∧ ∀ i, i < 100 → xald (hp (B + 1) h2 cap flo top eva lim rul (nI k) (nI n) r (nI D) lev dry lo rf us od x ac) (B + 110 + 2) 0 (nI i) = some (fo' i) := fun {x r} => by
      refine ⟨(xgI_c (T2 rfl _ (by omega) (by omega)) 0 3).trans tg_fc, (xgR_c (T2 rfl _ (by omega) (by omega)) 0 2).trans tg_r2, fun i hi => ?_⟩
      refine (xald_c (T2 rfl _ (by omega) (by omega)) 0 _).trans ?_
      have hx : xin (nI i) 100 = true := xin_nI hi (by decide)
      rw [tg_fo hx, xnI_nat (by omega)]
    obtain ⟨w, hw⟩ : ∃ w, w = h2 := ⟨_, rfl⟩
    have e : f_X5_parse fu h B = some (nI (N + c2), hp (B + 1) w cap flo top eva lim rul (nI k) (nI n) (nI (N + c2)) (nI D) lev dry lo rf us od (it (fun i r => xup r (N + i) (fo' i)) ra c2) ac) := by
      simp only [f_X5_parse, rt_4 hO.1, rt_0 hO.1, Option.bind_some, st_rn hS, ti, eR, obind2_some, if_true, rt_is R1, e0, obind1_some]
      rw [St_eq S2, xloop_E (fun i (r : Nat → Int32) => (nI i, hp (B + 1) h2 cap flo top eva lim rul (nI k) (nI n) (nI (N + i)) (nI D) lev dry lo rf us od r ac)) (fun i r => xup r (N + i) (fo' i)) (fun r => hp (B + 1) h2 cap flo top eva lim rul (nI k) (nI n) (nI (N + c2)) (nI D) lev dry lo rf us od r ac) c2 ra ?h0 ?hs ?he ?hf]
      · simp only [obind1_some, rt_0 (Rt_hp R2 (show B < B + 1 by omega)), Option.bind_some, hg_rn, hw]
      case h0 => rfl
      case hf => omega
      case hs =>
        intro i r hi
        have hle2 : ¬ nI c2 ≤ nI i := nI_ge hi (by omega)
        simp only [xf2, rt_4 (Rt_hp R2 (show B < B + 1 by omega)), Option.bind_some, G.1, if_neg hle2, rt_0 (Rt_hp R2 (show B < B + 1 by omega)), G.2.1, G.2.2 i (show i < 100 by omega), hi_st, p_X2_putRain (show N + i < 100 by omega), obind1_some, olet, xnI_s, Nat.add_assoc]
      case he =>
        intro r
        simp only [xf2, rt_4 (Rt_hp R2 (show B < B + 1 by omega)), Option.bind_some, G.1, Int32.le_refl, if_true]
    rw [e]
    subst hw
    have era : ∀ m, m ≤ c2 → (∀ j, j < m → (it (fun i r => xup r (N + i) (fo' i)) ra m) (N + j) = fo' j) ∧ ∀ j, j < N → (it (fun i r => xup r (N + i) (fo' i)) ra m) j = ra j := by
      intro m
      induction m with
      | zero => intro _; exact ⟨fun j hj => by omega, fun j hj => rfl⟩
      | succ m ih =>
        intro hm1
        obtain ⟨i1, i2⟩ := ih (by omega)
        refine ⟨fun j hj => ?_, fun j hj => ?_⟩
        · rw [it_s]
          by_cases cj : j = m
          · subst cj; rw [xup_self]
          · rw [xup_ne _ _ (by omega)]; exact i1 j (by omega)
        · rw [it_s, xup_ne _ _ (by omega)]; exact i2 j hj
    obtain ⟨a1, a2⟩ := era c2 (Nat.le_refl _)
    refine KV_retE hM hX St_hp (Ot_fr O2 (fun q _ _ hq => hp_out (by omega))) (fun q hq => ?_) (by omega) hL (fun w hw => ?_)
    · rw [hp_out (by omega), F2 q (by omega), ht_out (by omega)]
    · obtain ⟨ra', as', pl', nb', e9, k1, k2, k3, k4⟩ := mg_parse2 (B := B) (lim := lim) (rul := rul) (dry := dry) (s := s) (L := L) (sv := sv) (as := as) (th := th) (sd := sd) (td := td) (sp := sp) (lf := lf) (tx := tx) (pl := pl) (nb := nb) (W := w) hC hs hL hf hi2
      rw [← Mp_eq hw] at e9
      refine ⟨ap, rfm, usm, ra', acm, as', sd, td, sp, lf, pl', nb', e9, ?_⟩
      obtain ⟨⟨b1, b2, b3, b4⟩, ⟨l1, l2, l3⟩, ⟨r1, r2, r3, r4⟩, h4, h5, h6, h7, h8⟩ := hC
      refine ⟨⟨b1, b2, k1, by omega⟩, ⟨l1, l2, by omega⟩, ⟨r1, r2, fun d hd => ?_, r4⟩, h4, h5, h6, h7, fun d hd => ?_⟩
      · by_cases cd : d < N
        · rw [a2 d cd, k3 d cd]; exact r3 d cd
        · obtain ⟨j, rfl⟩ : ∃ j, d = N + j := ⟨d - N, by omega⟩
          rw [a1 j (by omega), k2 j (by omega)]
      · by_cases cd : d < N
        · rw [a2 d cd]; exact h8 d cd
        · obtain ⟨j, rfl⟩ : ∃ j, d = N + j := ⟨d - N, by omega⟩
          rw [a1 j (by omega)]; exact k4 j (by omega)
end PY4
