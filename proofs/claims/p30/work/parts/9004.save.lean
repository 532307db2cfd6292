/-! The class saves. -/
section PW3
variable {B s L c k n N D : Nat} {h : XH} {cap flo top eva lim rul lev dry : Int32} {lo : Int64} {rf us : UT} {od ra ac : Nat → Int32} {ap : Int32} {rfm usm : UT} {ram acm sv as : Nat → Int32} {th : Int32} {sd : Int64} {td : Int32} {sp : Nat → Int64} {lf : Int32} {tx : Nat → Int32} {pl nb : Int32}
variable {s' L' k' n' N' D' : Nat} {cap' flo' top' eva' lim' rul' lev' dry' : Int32} {lo' : Int64} {rf' us' : UT} {od' ra' ac' : Nat → Int32} {ap' : Int32} {rfm' usm' : UT} {ram' acm' sv' as' : Nat → Int32} {th' : Int32} {sd' : Int64} {td' : Int32} {sp' : Nat → Int64} {lf' : Int32} {tx' : Nat → Int32} {pl' nb' : Int32}
variable {fu : Nat}
theorem CT_cg (hC : CT c k n N D cap flo top eva lev lo ap rf us rfm usm ra ac ram acm) (e1 : R5 k rf rf') (m1 : R5 k rfm rfm') (e2 : U4 n us us') (m2 : U4 n usm usm') (e3 : ∀ d, d < N → ra d = ra' d) (m3 : ∀ d, d < N → ram d = ram' d) (e4 : ∀ j, j < D * 10 → ac j = ac' j) (m4 : ∀ j, j < D * 10 → acm j = acm' j) :
    CT c k n N D cap flo top eva lev lo ap rf' us' rfm' usm' ra' ac' ram' acm' := by
  obtain ⟨h1, h2, ⟨r1, r2, r3, r4⟩, h4, h5, h6, h7, h8⟩ := hC
  refine ⟨h1, h2, ⟨fun i hi j hj => by rw [← e1 i hi j hj, ← m1 i hi j hj]; exact r1 i hi j hj, fun i hi j hj => by rw [← e2 i hi j hj, ← m2 i hi j hj]; exact r2 i hi j hj, fun d hd => by rw [← e3 d hd, ← m3 d hd]; exact r3 d hd, fun j hj => by rw [← e4 j hj, ← m4 j hj]; exact r4 j hj⟩, h4, h5, R5_ok e1 h6, fun i hi => ?_, fun d hd => by rw [← e3 d hd]; exact h8 d hd⟩
  rw [← e2 i hi 0 (by decide), ← e2 i hi 1 (by decide)]
  exact h7 i hi
theorem RS_row {s : SV} {a a' : Nat → Int32} (h : RS s a c) (e : ∀ j, j < 1163 → a j = a' j) : RS s a' c := by
  obtain ⟨k, n, N, D, h1, h2, h3⟩ := h
  have hb := h3.1
  refine ⟨k, n, N, D, h1, fun i hi => by rw [← e i (by omega)]; exact h2 i hi, ?_⟩
  rw [← e 12 (by omega)]
  exact CT_cg h3 (fun _ _ _ _ => rfl) (fun i hi j hj => e _ (by omega)) (fun _ _ _ _ => rfl) (fun i hi j hj => e _ (by omega)) (fun _ _ => rfl) (fun d hd => e _ (by omega)) (fun _ _ => rfl) (fun j hj => e _ (by omega))
theorem RS_mk (hC : CT c k n N D cap flo top eva lev lo ap rf us rfm usm ra ac ram acm) : RS (zz cap flo top eva lim rul (nI k) (nI n) (nI N) (nI D) lev dry, lo, rf, us, od, ra, ac) (m_al cap flo top eva lim rul (nI k) (nI n) (nI N) (nI D) lev dry ap rfm usm ram acm) c := by
  have hb := hC.1
  refine ⟨k, n, N, D, ⟨rfl, rfl, rfl, rfl⟩, fun i hi => ?_, ?_⟩
  · have h12 : i = 0 ∨ i = 1 ∨ i = 2 ∨ i = 3 ∨ i = 4 ∨ i = 5 ∨ i = 6 ∨ i = 7 ∨ i = 8 ∨ i = 9 ∨ i = 10 ∨ i = 11 := by omega
    rcases h12 with rfl | rfl | rfl | rfl | rfl | rfl | rfl | rfl | rfl | rfl | rfl | rfl <;> rfl
  · exact CT_cg hC (fun _ _ _ _ => rfl) (fun i hi j hj => (al_rf (by omega) hj).symm) (fun _ _ _ _ => rfl) (fun i hi j hj => (al_us (by omega) hj).symm) (fun _ _ => rfl) (fun d hd => (al_ra (by omega)).symm) (fun _ _ => rfl) (fun j hj => (al_ac j).symm)
theorem Sv_is {b : Nat} {s : SV} (hS : Sv b h s) : xis h b 2 = some () := by rw [St_eq hS]; exact hi_st
theorem xcpy_lt {f g : Nat → Int32} {m j : Nat} (h : j < m) : xcpy f g 0 0 m j = f j := by
  unfold xcpy
  rw [if_pos ⟨Nat.zero_le _, by omega⟩, Nat.zero_add, Nat.sub_zero]
variable {f : Nat → Option Nat} {sg : Nat → Nat} {svd : Nat → SV}
theorem sx_q (hX : Sx B h f sg svd) {i : Nat} (hi : i < 4) : xaldR h (B + 37) 4 (nI i) = some (B + 38 + 18 * sg i) := by
  have hx : xin (nI i) 4 = true := xin_nI hi (by decide)
  have h3 : (nI i).toNatClampNeg = i := xnI_nat (by omega)
  simp [xaldR, hX.1, hx, h3, (hX.2.1 i hi).2]
/-- one State copied into another -/
theorem w_copy {t b2 : Nat} {q : SV} (hQ : Sv t h q) (hS : St b2 h cap flo top eva lim rul (nI k) (nI n) (nI N) (nI D) lev dry lo rf us od ra ac) (hd : t + 18 ≤ b2 ∨ b2 + 18 ≤ t) (hk : k ≤ 6) (hn : n ≤ 5) (hN : N ≤ 100) (hD : D ≤ 100) (hf : 7 < fu) :
    ∃ (h7 : XH) (rf2 us2 : UT) (od2 ra2 ac2 : Nat → Int32), f_X2_copyFrom fu h t b2 = some h7 ∧ St t h7 cap flo top eva lim rul (nI k) (nI n) (nI N) (nI D) lev dry lo rf2 us2 od2 ra2 ac2 ∧ (∀ q, ¬ (t ≤ q ∧ q < t + 18) → h7 q = h q) ∧
      (∀ i, i < k → ∀ j, j < 6 → rf i j = rf2 i j) ∧ U4 n us us2 ∧ (∀ d, d < N → ra d = ra2 d) ∧ ∀ j, j < D * 10 → ac j = ac2 j := by
  have e := p_X2_copyFrom (fu := fu) (b := t) (b' := b2) (W := h) (cap := q.1 0) (flo := q.1 1) (top := q.1 2) (eva := q.1 3) (lim := q.1 4) (rul := q.1 5) (rc := q.1 6) (uc := q.1 7) (rn := q.1 8) (dn := q.1 9) (lev := q.1 10) (dry := q.1 11) (lo := q.2.1) (rf := q.2.2.1) (us := q.2.2.2.1) (od := q.2.2.2.2.1) (ra := q.2.2.2.2.2.1) (ac := q.2.2.2.2.2.2) hS (by omega) hk hn hN hD hf rfl rfl rfl rfl
  rw [← St_eq hQ] at e
  exact ⟨_, _, _, _, _, _, e, St_hp, fun q hq => hp_out hq, fun i hi j hj => (cp_rf_at hi hj).symm, fun i hi j hj => (cp_us_at hi hj).symm, fun d hd => (xcpy_lt hd).symm, fun j hj => (xcpy_lt hj).symm⟩
/-- the end of saving: there is room -/
theorem w_stail (hR : Rt B h s) (hs : s < 4) (hX : Sx B h f sg svd) (hS : St (B + 1) h cap flo top eva lim rul (nI k) (nI n) (nI N) (nI D) lev dry lo rf us od ra ac) (hC : CT c k n N D cap flo top eva lev lo ap rf us rfm usm ra ac ram acm) (hf : 7 < fu) :
    ∃ (h8 : XH) (svd' : Nat → SV) (rf2 us2 : UT) (od2 ra2 ac2 : Nat → Int32), ((xgR h B 5 2).bind fun v12 => (xgI h B 5 3).bind fun v13 => (xaldR h v12 4 v13).bind fun v14 => (xgR h B 5 0).bind fun v15 => (xis h v14 2).bind fun _ => obind1 (f_X2_copyFrom fu h v14 v15) fun h7 => (xgI h7 B 5 3).bind fun v17 => (xpV h7 B 5 3 (.int (v17 + (1 : Int32)))).bind fun h8 => some h8) = some h8 ∧
      Rt B h8 (s + 1) ∧ Sx B h8 f sg svd' ∧ (∀ i, i ≠ sg s → svd' i = svd i) ∧ svd' (sg s) = (zz cap flo top eva lim rul (nI k) (nI n) (nI N) (nI D) lev dry, lo, rf2, us2, od2, ra2, ac2) ∧
      (R5 k rf rf2 ∧ U4 n us us2 ∧ (∀ d, d < N → ra d = ra2 d) ∧ ∀ j, j < D * 10 → ac j = ac2 j) ∧ ∀ q, q ≠ B → ¬ (B + 38 ≤ q ∧ q < B + 110) → h8 q = h q := by
  have ht : sg s < 4 := (hX.2.1 s hs).1
  obtain ⟨⟨hk, hn, hN, hD⟩, -⟩ := hC
  obtain ⟨h7, rf2, us2, od2, ra2, ac2, e7, s7, f7, r1, r2, r3, r4⟩ := w_copy (hX.2.2.2 _ ht) hS (by omega) hk hn hN (by omega) hf
  have R7 : Rt B h7 s := Rt_fr (f7 B (by omega)) hR
  refine ⟨_, fun i => if i = sg s then (zz cap flo top eva lim rul (nI k) (nI n) (nI N) (nI D) lev dry, lo, rf2, us2, od2, ra2, ac2) else svd i, rf2, us2, od2, ra2, ac2, ?_, rt_up (h := h7), ⟨?_, hX.2.1, hX.2.2.1, ?_⟩, fun i hi => if_neg hi, if_pos rfl, ⟨fun i hi j hj => r1 i hi j (by omega), r2, r3, r4⟩, ?_⟩
  · simp only [rt_2 hR, rt_3 hR, rt_0 hR, Option.bind_some, sx_q hX hs, Sv_is (hX.2.2.2 _ ht), e7, obind1_some, rt_3 R7, xnI_s, rt_w R7]
  · rw [xup_ne _ _ (by omega), f7 _ (by omega)]; exact hX.1
  · intro i hi
    by_cases c : i = sg s
    · subst c
      simp only [if_true]
      exact St_fr s7 (fun q g1 g2 => xup_ne _ _ (by omega))
    · simp only [if_neg c]
      exact Sv_fr (hX.2.2.2 i hi) (fun q g1 g2 => by rw [xup_ne _ _ (by omega)]; exact f7 q (by omega))
  · intro q h1 h2
    rw [xup_ne _ _ h1]; exact f7 q (by omega)
def rcell (f : Nat → Option Nat) : Option XE := some (.inl (4, 4, .inr (.inr (.inr (.inr f)))))
theorem rc_get {x : Nat → Option Nat} {i : Nat} (hi : i < 4) : xaldR (xup h (B + 37) (rcell x)) (B + 37) 4 (nI i) = x i := by
  have hx : xin (nI i) 4 = true := xin_nI hi (by decide)
  have h3 : (nI i).toNatClampNeg = i := xnI_nat (by omega)
  simp [xaldR, xup_self, rcell, hx, h3]
theorem rc_set {x : Nat → Option Nat} {i v : Nat} (hi : i < 4) : xastR (xup h (B + 37) (rcell x)) (B + 37) 4 (nI i) v = some (xup h (B + 37) (rcell (xup x i (some v)))) := by
  have hx : xin (nI i) 4 = true := xin_nI hi (by decide)
  have h3 : (nI i).toNatClampNeg = i := xnI_nat (by omega)
  simp [xastR, xup_self, rcell, hx, h3, xup_xup]
/-- the oldest goes behind the others -/
theorem w_rot (hR : Rt B h 4) (hX : Sx B h f sg svd) (hf : 4 < fu) : ∃ (h6 : XH) (f' : Nat → Option Nat), ((xgR h B 5 2).bind fun v2 => (xaldR h v2 4 (0 : Int32)).bind fun v3 => obind1 (xloop (xf2 fun (v4 : Int32) (h2 : XH) =>
        if (4 : Int32) ≤ v4 then some (.inr h2) else (xgR h2 B 5 2).bind fun v5 => (xgR h2 B 5 2).bind fun v6 => (xaldR h2 v6 4 v4).bind fun v7 => (xis h2 v7 2).bind fun _ => (xastR h2 v5 4 (v4 - (1 : Int32)) v7).bind fun h4 => olet (v4 + (1 : Int32)) fun v9 => some (.inl (v9, h4))) fu ((1 : Int32), h)) fun h3 =>
      (xgR h3 B 5 2).bind fun v10 => (xis h3 v3 2).bind fun _ => (xastR h3 v10 4 (3 : Int32) v3).bind fun h5 => (xpV h5 B 5 3 (.int (3 : Int32))).bind fun h6 => some h6) = some h6 ∧
      Rt B h6 3 ∧ Sx B h6 f' (fun j => if j < 3 then sg (j + 1) else sg 0) svd ∧ ∀ q, q ≠ B → q ≠ B + 37 → h6 q = h q := by
  have hh : h = xup h (B + 37) (rcell f) := by
    funext q
    by_cases c : q = B + 37
    · subst c; rw [xup_self]; exact hX.1
    · rw [xup_ne _ _ c]
  have R1 : ∀ x, Rt B (xup h (B + 37) (rcell x)) 4 := fun x => Rt_fr (xup_ne _ _ (by omega)) hR
  have I1 : ∀ x i, i < 4 → xis (xup h (B + 37) (rcell x)) (B + 38 + 18 * i) 2 = some () := fun x i hi => (xis_c (xup_ne _ _ (by omega)) 2).trans (Sv_is (hX.2.2.2 i hi))
  have e0 : xaldR h (B + 37) 4 (0 : Int32) = some (B + 38 + 18 * sg 0) := sx_q hX (show 0 < 4 by decide)
  have hg := hX.2.1
  have L : xloop (xf2 fun (v4 : Int32) (h2 : XH) =>
        if (4 : Int32) ≤ v4 then some (.inr h2) else (xgR h2 B 5 2).bind fun v5 => (xgR h2 B 5 2).bind fun v6 => (xaldR h2 v6 4 v4).bind fun v7 => (xis h2 v7 2).bind fun _ => (xastR h2 v5 4 (v4 - (1 : Int32)) v7).bind fun h4 => olet (v4 + (1 : Int32)) fun v9 => some (.inl (v9, h4))) fu ((1 : Int32), h) = some (xup h (B + 37) (rcell (it (fun i x => xup x i (f (i + 1))) f 3))) := by
    rw [xloop_I (fun i x => ∀ j, i ≤ j → x j = f j) (fun i x => (nI (i + 1), xup h (B + 37) (rcell x))) (fun i x => xup x i (f (i + 1))) (fun x => xup h (B + 37) (rcell x)) 3 f ?h0 ?hi ?hs ?he ?hf]
    case h0 => rw [← hh]; rfl
    case hi => exact fun _ _ => rfl
    case hf => omega
    case hs =>
      intro i x hi I
      have hle : ¬ (4 : Int32) ≤ nI (i + 1) := by
        have e4 : (4 : Int32) = nI 4 := rfl
        rw [e4, xnI_le_iff (by omega) (by omega)]; omega
      have es : nI (i + 1) - (1 : Int32) = nI i := by
        rw [← xnI_s]; grind
      have ex : x (i + 1) = some (B + 38 + 18 * sg (i + 1)) := by rw [I (i + 1) (by omega)]; exact (hg (i + 1) (by omega)).2
      refine ⟨?_, fun j hj => ?_⟩
      · have ef : f (i + 1) = some (B + 38 + 18 * sg (i + 1)) := (hg (i + 1) (by omega)).2
        simp only [xf2, if_neg hle, rt_2 (R1 x), Option.bind_some, rc_get (show i + 1 < 4 by omega), ex, I1 x _ (hg (i + 1) (by omega)).1, es, rc_set (show i < 4 by omega), olet, xnI_s, ef]
      · rw [xup_ne _ _ (by omega)]; exact I j (by omega)
    case he =>
      intro x _
      simp only [xf2]
      rw [if_pos (show (4 : Int32) ≤ nI (3 + 1) by decide)]
  have e3 : (3 : Int32) = nI 3 := rfl
  have R2 : Rt B (xup h (B + 37) (rcell (xup (it (fun i x => xup x i (f (i + 1))) f 3) 3 (some (B + 38 + 18 * sg 0))))) 4 := R1 _
  refine ⟨_, xup (it (fun i x => xup x i (f (i + 1))) f 3) 3 (some (B + 38 + 18 * sg 0)), ?_, rt_up (h := xup h (B + 37) (rcell (xup (it (fun i x => xup x i (f (i + 1))) f 3) 3 (some (B + 38 + 18 * sg 0))))), ⟨?_, ?_, ?_, ?_⟩, ?_⟩
  · rw [rt_2 hR, Option.bind_some, e0, Option.bind_some, L, obind1_some, rt_2 (R1 _), Option.bind_some, I1 _ _ (hg 0 (by omega)).1, Option.bind_some, e3, rc_set (show 3 < 4 by decide), Option.bind_some, rt_w R2, Option.bind_some]
  · rw [xup_ne _ _ (by omega), xup_self]; rfl
  · intro i hi
    have h4 : i = 0 ∨ i = 1 ∨ i = 2 ∨ i = 3 := by omega
    have g0 := hg 0 (by omega)
    have g1 := hg 1 (by omega)
    have g2 := hg 2 (by omega)
    have g3 := hg 3 (by omega)
    rcases h4 with rfl | rfl | rfl | rfl
    · exact ⟨g1.1, g1.2⟩
    · exact ⟨g2.1, g2.2⟩
    · exact ⟨g3.1, g3.2⟩
    · exact ⟨g0.1, rfl⟩
  · intro i j hi hj e
    have hI := hX.2.2.1
    simp only at e
    by_cases c1 : i < 3
    · by_cases c2 : j < 3
      · rw [if_pos c1, if_pos c2] at e; have := hI _ _ (by omega) (by omega) e; omega
      · rw [if_pos c1, if_neg c2] at e; have := hI _ _ (by omega) (by omega) e; omega
    · by_cases c2 : j < 3
      · rw [if_neg c1, if_pos c2] at e; have := hI _ _ (by omega) (by omega) e; omega
      · omega
  · intro i hi
    exact Sv_fr (hX.2.2.2 i hi) (fun q g1 g2 => by rw [xup_ne _ _ (by omega), xup_ne _ _ (by omega)])
  · intro q h1 h2
    rw [xup_ne _ _ h1, xup_ne _ _ h2]
abbrev rowm (cap flo top eva lim rul : Int32) (k n N D : Nat) (lev dry ap : Int32) (rfm usm : UT) (ram acm : Nat → Int32) : Nat → Int32 := m_al cap flo top eva lim rul (nI k) (nI n) (nI N) (nI D) lev dry ap rfm usm ram acm
theorem w_saveT (hO : Ot B h s sv c L tx) (hS : St (B + 1) h cap flo top eva lim rul (nI k) (nI n) (nI N) (nI D) lev dry lo rf us od ra ac) (hC : CT c k n N D cap flo top eva lev lo ap rf us rfm usm ra ac ram acm) (hs : s ≤ 4) (hf : 7 < fu) :
    ∃ h1, f_X5_save fu h B = some h1 ∧ St (B + 1) h1 cap flo top eva lim rul (nI k) (nI n) (nI N) (nI D) lev dry lo rf us od ra ac ∧ Ot B h1 (min s 3 + 1) (m_sav s (m_al cap flo top eva lim rul (nI k) (nI n) (nI N) (nI D) lev dry ap rfm usm ram acm) sv) c L tx ∧ ∀ q, ¬ (B ≤ q ∧ q < B + 110) → h1 q = h q := by
  obtain ⟨hR, hT, ⟨f, sg, svd, hX, hr⟩, hTt⟩ := hO
  have e4 : (4 : Int32) = nI 4 := rfl
  have hn3 : (nI s < (4 : Int32)) ↔ s < 4 := by rw [e4, xnI_lt_iff (by omega) (by omega)]
  unfold f_X5_save
  by_cases c4 : s < 4
  · obtain ⟨h8, svd', rf2, us2, od2, ra2, ac2, e8, R8, X8, v8, w8, ⟨a1, a2, a3, a4⟩, f8⟩ := w_stail hR c4 hX hS hC hf
    have hm3 : min s 3 = s := by omega
    refine ⟨h8, ?_, St_fr hS (fun q g1 g2 => f8 q (by omega) (by omega)), ⟨by rw [hm3]; exact R8, Tr_fr hT (fun q g1 g2 => f8 q (by omega) (by omega)), ⟨f, sg, svd', X8, fun j hj => ?_⟩, Tt_fr hTt (fun q g1 g2 => f8 q (by omega) (by omega))⟩, fun q hq => f8 q (by omega) (by omega)⟩
    · rw [rt_3 hR, Option.bind_some, if_pos (hn3.mpr c4), obind1_some]; exact e8
    · rw [hm3] at hj
      by_cases cj : j = s
      · subst cj
        rw [w8]
        refine RS_row (RS_mk (CT_cg hC a1 (fun _ _ _ _ => rfl) a2 (fun _ _ _ _ => rfl) a3 (fun _ _ => rfl) a4 (fun _ _ => rfl))) (fun q hq => ?_)
        unfold m_sav m_put
        rw [if_neg (by omega), if_pos ⟨by omega, by omega⟩, Nat.add_sub_cancel_left]
      · have hne : sg j ≠ sg s := fun e => cj (hX.2.2.1 _ _ (by omega) c4 e)
        rw [v8 _ hne]
        refine RS_row (hr j (by omega)) (fun q hq => ?_)
        unfold m_sav m_put
        rw [if_neg (by omega), if_neg (by omega)]
  · have hs4 : s = 4 := by omega
    subst hs4
    obtain ⟨h6, f', e6, R6, X6, f6⟩ := w_rot hR hX (show 4 < fu by omega)
    have S6 : St (B + 1) h6 cap flo top eva lim rul (nI k) (nI n) (nI N) (nI D) lev dry lo rf us od ra ac := St_fr hS (fun q g1 g2 => f6 q (by omega) (by omega))
    obtain ⟨h8, svd', rf2, us2, od2, ra2, ac2, e8, R8, X8, v8, w8, ⟨a1, a2, a3, a4⟩, f8⟩ := w_stail R6 (by omega) X6 S6 hC hf
    refine ⟨h8, ?_, St_fr S6 (fun q g1 g2 => f8 q (by omega) (by omega)), ⟨R8, Tr_fr hT (fun q g1 g2 => (f8 q (by omega) (by omega)).trans (f6 q (by omega) (by omega))), ⟨f', _, svd', X8, fun j hj => ?_⟩, Tt_fr hTt (fun q g1 g2 => (f8 q (by omega) (by omega)).trans (f6 q (by omega) (by omega)))⟩, fun q hq => (f8 q (by omega) (by omega)).trans (f6 q (by omega) (by omega))⟩
    · rw [rt_3 hR, Option.bind_some, if_neg (fun e => c4 (hn3.mp e)), e6, obind1_some]; exact e8
    · by_cases cj : j = 3
      · subst cj
        rw [w8]
        refine RS_row (RS_mk (CT_cg hC a1 (fun _ _ _ _ => rfl) a2 (fun _ _ _ _ => rfl) a3 (fun _ _ => rfl) a4 (fun _ _ => rfl))) (fun q hq => ?_)
        unfold m_sav m_put
        rw [if_pos rfl, if_pos ⟨by omega, by omega⟩, Nat.add_sub_cancel_left]
      · have hj3 : j < 3 := by omega
        rw [v8 _ (fun e => by have := X6.2.2.1 j 3 (by omega) (by omega) e; omega)]
        simp only [if_pos hj3]
        refine RS_row (hr (j + 1) (by omega)) (fun q hq => ?_)
        unfold m_sav m_put m_shf
        rw [if_pos rfl, if_neg (by omega), if_pos (by omega)]
        exact congrArg sv (by omega)
theorem w_save (hO : Ot B h s sv c L tx) (hS : St (B + 1) h cap flo top eva lim rul (nI k) (nI n) (nI N) (nI D) lev dry lo rf us od ra ac) (hC : CT c k n N D cap flo top eva lev lo ap rf us rfm usm ra ac ram acm) (hs : s ≤ 4) (hf : 7 < fu) :
    ∃ h1, f_X5_save fu h B = some h1 ∧ St (B + 1) h1 cap flo top eva lim rul (nI k) (nI n) (nI N) (nI D) lev dry lo rf us od ra ac ∧ Ot B h1 (min s 3 + 1) (m_sav s (m_al cap flo top eva lim rul (nI k) (nI n) (nI N) (nI D) lev dry ap rfm usm ram acm) sv) c L tx ∧ ∀ q, ¬ (B ≤ q ∧ q < B + 113) → h1 q = h q := by
  obtain ⟨h1, e1, S1, O1, F1⟩ := w_saveT hO hS hC hs hf
  exact ⟨h1, e1, S1, O1, fun q hq => F1 q (by omega)⟩
end PW3

