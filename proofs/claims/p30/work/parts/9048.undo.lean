/-! restart and undo: the digest. -/
theorem m_sav_at {s q : Nat} (hs : s ≤ 4) (a sv : Nat → Int32) (hq : q < 1163) : m_sav s a sv (1163 * min s 3 + q) = a q := by
  unfold m_sav m_put
  by_cases c : s = 4
  · subst c
    rw [if_pos rfl, if_pos (by omega)]
    exact congrArg a (by omega)
  · rw [if_neg c, if_pos (by omega)]
    exact congrArg a (by omega)
section PW70
variable {B s L c k n N D : Nat} {h : XH} {cap flo top eva lim rul lev dry : Int32} {lo : Int64} {rf us : UT} {od ra ac : Nat → Int32} {ap : Int32} {sv tx : Nat → Int32} {fu : Nat}
theorem c_undo {t : Nat} (hS : St (B + 1) h cap flo top eva lim rul (nI k) (nI n) (nI N) (nI D) lev dry lo rf us od ra ac) (hO : Ot B h (t + 1) sv c L tx) (ht : t < 4) (hf : 7 < fu) :
    ∃ (h7 : XH) (z : SV) (rf2 us2 : UT) (od2 ra2 ac2 : Nat → Int32) (k2 n2 N2 D2 : Nat), f_X5_undo fu h B = some (.inl (nI t, h7)) ∧ St (B + 1) h7 (z.1 0) (z.1 1) (z.1 2) (z.1 3) (z.1 4) (z.1 5) (nI k2) (nI n2) (nI N2) (nI D2) (z.1 10) (z.1 11) z.2.1 rf2 us2 od2 ra2 ac2 ∧ Ot B h7 t sv c L tx ∧
      (z.1 6 = nI k2 ∧ z.1 7 = nI n2 ∧ z.1 8 = nI N2 ∧ z.1 9 = nI D2) ∧ (∀ i, i < 12 → sv (1163 * t + i) = z.1 i) ∧
      CT c k2 n2 N2 D2 (z.1 0) (z.1 1) (z.1 2) (z.1 3) (z.1 10) z.2.1 (sv (1163 * t + 12)) rf2 us2 (fun i j => sv (1163 * t + (13 + 5 * i + j))) (fun i j => sv (1163 * t + (43 + 4 * i + j))) ra2 ac2 (fun d => sv (1163 * t + (63 + d))) (fun j => sv (1163 * t + (163 + j))) := by
  obtain ⟨hR, hT, ⟨f, sg, svd, hXx, hRS⟩, hTt⟩ := hO
  have c0 : (1 : Int32) ≤ nI (t + 1) := by
    have z1 : (1 : Int32) = nI 1 := rfl
    rw [z1, xnI_le_iff (by omega) (by omega)]; omega
  obtain ⟨k2, n2, N2, D2, ⟨v6, v7, v8, v9⟩, hz, C2⟩ := hRS t (by omega)
  have hb0 := C2.1
  obtain ⟨hk, hn, hN, hD⟩ := hb0
  have hg := (hXx.2.1 t ht).1
  obtain ⟨w, hw⟩ : ∃ w, w = xup h B (some (.inr (5, [.ref (B + 1), .ref (B + 19), .ref (B + 37), .int (nI t), .ref (B + 110)]))) := ⟨_, rfl⟩
  have Fw : ∀ q, q ≠ B → w q = h q := fun q hq => by rw [hw]; exact xup_ne _ _ hq
  have Rw : Rt B w t := by rw [hw]; exact rt_up
  have Sw : St (B + 1) w cap flo top eva lim rul (nI k) (nI n) (nI N) (nI D) lev dry lo rf us od ra ac := St_fr hS (fun q h1 h2 => Fw q (by omega))
  have Xw : Sx B w f sg svd := ⟨(Fw _ (by omega)).trans hXx.1, hXx.2.1, hXx.2.2.1, fun i hi => Sv_fr (hXx.2.2.2 i hi) (fun q g1 g2 => Fw q (by omega))⟩
  have Qw := Xw.2.2.2 _ hg
  unfold Sv at Qw
  rw [v6, v7, v8, v9] at Qw
  obtain ⟨h7, rf2, us2, od2, ra2, ac2, e7, s7, f7, r1, r2, r3, r4⟩ := w_copy (Sv_of Sw) Qw (by omega) hk hn hN (by omega) (show 7 < fu by omega)
  have R7 : Rt B h7 t := Rt_fr (f7 B (by omega)) Rw
  have e : f_X5_undo fu h B = some (.inl (nI t, h7)) := by
    simp only [f_X5_undo, rt_3 hR, Option.bind_some, if_pos c0, xnI_s1, rt_w hR, ← hw, rt_0 Rw, rt_2 Rw, rt_3 Rw, sx_q Xw ht, st_is Sw, e7, obind1_some, rt_3 R7, olift_some]
  have O7 : Ot B h7 t sv c L tx := ⟨R7, Tr_fr hT (fun q g1 g2 => (f7 q (by omega)).trans (Fw q (by omega))), ⟨f, sg, svd, ⟨(f7 _ (by omega)).trans Xw.1, Xw.2.1, Xw.2.2.1, fun i hi => Sv_fr (Xw.2.2.2 i hi) (fun q g1 g2 => f7 q (by omega))⟩, fun j hj => hRS j (by omega)⟩, Tt_fr hTt (fun q g1 g2 => (f7 q (by omega)).trans (Fw q (by omega)))⟩
  exact ⟨h7, svd (sg t), rf2, us2, od2, ra2, ac2, k2, n2, N2, D2, e, s7, O7, ⟨v6, v7, v8, v9⟩, hz, CT_cg C2 (fun i hi j hj => r1 i hi j (by omega)) (fun _ _ _ _ => rfl) r2 (fun _ _ _ _ => rfl) r3 (fun _ _ => rfl) r4 (fun _ _ => rfl)⟩
end PW70
/-- the digest looks at what lives -/
theorem dg_cg {Z Z' : Nat → Int32} {rf us rg vs : UT} {ra ac rb ad : Nat → Int32} {S S' : Nat → Int64} {k n N D : Nat} (hZ : ∀ i, i < 12 → Z i = Z' i) (h1 : ∀ i, i < k → ∀ j, j < 5 → rf i j = rg i j) (h2 : U4 n us vs) (h3 : ∀ d, d < N → ra d = rb d) (h4 : ∀ j, j < D * 10 → ac j = ad j) (h5 : ∀ w, 1 ≤ w → w < 10 → S w = S' w) (s : Nat) (x : Int64) :
    dg_c Z rf us ra ac S k n N D s x = dg_c Z' rg vs rb ad S' k n N D s x := by
  unfold dg_c
  have e1 : dsum Z x 12 = dsum Z' x 12 := dsum_cg hZ x
  have e2 : ∀ y, it (fun i x => dsum (rf i) x 5) y k = it (fun i x => dsum (rg i) x 5) y k := fun y => it_cg (fun i x hi => dsum_cg (h1 i hi) x) y
  have e3 : ∀ y, it (fun i x => dsum (us i) x 4) y n = it (fun i x => dsum (vs i) x 4) y n := fun y => it_cg (fun i x hi => dsum_cg (h2 i hi) x) y
  have e4 : ∀ y, dsum ra y N = dsum rb y N := fun y => dsum_cg h3 y
  have e5 : ∀ y, it (fun d x => dsum (fun w => ac (d * 10 + w)) x 10) y D = it (fun d x => dsum (fun w => ad (d * 10 + w)) x 10) y D := fun y => it_cg (fun d x hd => dsum_cg (fun w hw => h4 _ (by omega)) x) y
  have e6 : ∀ y, dtail S y 9 = dtail S' y 9 := fun y => it_cg (fun i x hi => by rw [h5 (i + 1) (by omega) (by omega)]) y
  rw [e1, e2, e3, e4, e5, e6]
theorem dg_last (Z : Nat → Int32) (rf us : UT) (ra ac : Nat → Int32) (S : Nat → Int64) (k n N D : Nat) {s : Nat} (hs : s ≤ 4) (x : Int64) : dg_c Z rf us ra ac S k n N D (min s 3) x = dg_c Z rf us ra ac S k n N D s x ∨ dg_c Z rf us ra ac S k n N D (min s 3) x = dg_c Z rf us ra ac S k n N D s x - 1 := by
  by_cases c : s = 4
  · right
    subst c
    unfold dg_c
    have e3 : Int32.toInt64 (nI (min 4 3)) = (3 : Int64) := by decide
    have e4 : Int32.toInt64 (nI 4) = (4 : Int64) := by decide
    rw [e3, e4]
    grind
  · left
    rw [show min s 3 = s by omega]
