/-! The world: the class's object at B, the model's at B + 113, the row for answers at B + 119. -/
def Rt (B : Nat) (h : XH) (s : Nat) : Prop := h B = some (.inr (5, [.ref (B + 1), .ref (B + 19), .ref (B + 37), .int (nI s), .ref (B + 110)]))
def Sv (b : Nat) (h : XH) (s : SV) : Prop := St b h (s.1 0) (s.1 1) (s.1 2) (s.1 3) (s.1 4) (s.1 5) (s.1 6) (s.1 7) (s.1 8) (s.1 9) (s.1 10) (s.1 11) s.2.1 s.2.2.1 s.2.2.2.1 s.2.2.2.2.1 s.2.2.2.2.2.1 s.2.2.2.2.2.2
def U4 (n : Nat) (us vs : UT) : Prop := ∀ i, i < n → ∀ j, j < 4 → us i j = vs i j
def u_okd (n : Nat) (us : UT) : Prop := ∀ i, i < n → (0 ≤ (us i 0).toInt ∧ (us i 0).toInt ≤ 9999) ∧ 1 ≤ (us i 1).toInt ∧ (us i 1).toInt ≤ 9
/-- the class's present state and the model's row say the same, and are in order -/
def CT (c k n N D : Nat) (cap flo top eva lev : Int32) (lo : Int64) (ap : Int32) (rf us rfm usm : UT) (ra ac ram acm : Nat → Int32) : Prop :=
  (k ≤ 6 ∧ n ≤ 5 ∧ N ≤ 100 ∧ D ≤ N) ∧ (ap.toInt = lo.toInt ∧ 0 ≤ lo.toInt ∧ lo.toInt ≤ 60000 * c) ∧ (R5 k rf rfm ∧ U4 n us usm ∧ (∀ d, d < N → ra d = ram d) ∧ ∀ j, j < D * 10 → ac j = acm j) ∧
  s_cf0 cap flo top eva ∧ (0 ≤ lev.toInt ∧ lev.toInt ≤ cap.toInt) ∧ r_ok k rf ∧ u_okd n us ∧ ∀ d, d < N → 0 ≤ (ra d).toInt ∧ (ra d).toInt ≤ 200
def RS (s : SV) (a : Nat → Int32) (c : Nat) : Prop := ∃ k n N D : Nat, (s.1 6 = nI k ∧ s.1 7 = nI n ∧ s.1 8 = nI N ∧ s.1 9 = nI D) ∧ (∀ i, i < 12 → a i = s.1 i) ∧
  CT c k n N D (s.1 0) (s.1 1) (s.1 2) (s.1 3) (s.1 10) s.2.1 (a 12) s.2.2.1 s.2.2.2.1 (fun i j => a (13 + 5 * i + j)) (fun i j => a (43 + 4 * i + j)) s.2.2.2.2.2.1 s.2.2.2.2.2.2 (fun d => a (63 + d)) (fun j => a (163 + j))
def Tr (B : Nat) (h : XH) : Prop := ∃ s : SV, Sv (B + 19) h s
/-- the row of the saved states, and they themselves -/
def Sx (B : Nat) (h : XH) (f : Nat → Option Nat) (sg : Nat → Nat) (svd : Nat → SV) : Prop := h (B + 37) = some (.inl (4, 4, .inr (.inr (.inr (.inr f))))) ∧ (∀ i, i < 4 → sg i < 4 ∧ f i = some (B + 38 + 18 * sg i)) ∧ (∀ i j, i < 4 → j < 4 → sg i = sg j → i = j) ∧
  ∀ i, i < 4 → Sv (B + 38 + 18 * i) h (svd i)
def Sd (B : Nat) (h : XH) (s : Nat) (sv : Nat → Int32) (c : Nat) : Prop := ∃ (f : Nat → Option Nat) (sg : Nat → Nat) (svd : Nat → SV), Sx B h f sg svd ∧ ∀ j, j < s → RS (svd (sg j)) (fun k => sv (1163 * j + k)) c
def Tt (B : Nat) (h : XH) (L : Nat) (tx : Nat → Int32) : Prop := ∃ (fc pa nu : Int32) (fo : Nat → Int32), ∀ q, B + 110 ≤ q → q < B + 113 → h q = ht (B + 110) (fun _ => none) (nI L) fc pa nu tx fo q
def Ot (B : Nat) (h : XH) (s : Nat) (sv : Nat → Int32) (c L : Nat) (tx : Nat → Int32) : Prop := Rt B h s ∧ Tr B h ∧ Sd B h s sv c ∧ Tt B h L tx
theorem Rt_fr {B : Nat} {h h' : XH} {s : Nat} (e : h' B = h B) (hR : Rt B h s) : Rt B h' s := e.trans hR
theorem Sv_fr {b : Nat} {h h' : XH} {s : SV} (hS : Sv b h s) (hf : ∀ q, b ≤ q → q < b + 18 → h' q = h q) : Sv b h' s := St_fr hS hf
theorem Tr_fr {B : Nat} {h h' : XH} (hT : Tr B h) (hf : ∀ q, B + 19 ≤ q → q < B + 37 → h' q = h q) : Tr B h' := by
  obtain ⟨s, hs⟩ := hT
  exact ⟨s, Sv_fr hs (fun q h1 h2 => hf q h1 (by omega))⟩
theorem Sd_fr {B : Nat} {h h' : XH} {s : Nat} {sv : Nat → Int32} {c : Nat} (hT : Sd B h s sv c) (hf : ∀ q, B + 37 ≤ q → q < B + 110 → h' q = h q) : Sd B h' s sv c := by
  obtain ⟨f, sg, svd, ⟨h1, h2, h3, h4⟩, h5⟩ := hT
  exact ⟨f, sg, svd, ⟨(hf _ (by omega) (by omega)).trans h1, h2, h3, fun i hi => Sv_fr (h4 i hi) (fun q g1 g2 => hf q (by omega) (by omega))⟩, h5⟩
theorem Tt_fr {B : Nat} {h h' : XH} {L : Nat} {tx : Nat → Int32} (hT : Tt B h L tx) (hf : ∀ q, B + 110 ≤ q → q < B + 113 → h' q = h q) : Tt B h' L tx := by
  obtain ⟨fc, pa, nu, fo, h1⟩ := hT
  exact ⟨fc, pa, nu, fo, fun q g1 g2 => (hf q g1 g2).trans (h1 q g1 g2)⟩
theorem Ot_fr {B : Nat} {h h' : XH} {s : Nat} {sv : Nat → Int32} {c L : Nat} {tx : Nat → Int32} (hO : Ot B h s sv c L tx) (hf : ∀ q, B ≤ q → q < B + 113 → ¬ (B + 1 ≤ q ∧ q < B + 19) → h' q = h q) : Ot B h' s sv c L tx :=
  ⟨Rt_fr (hf B (by omega) (by omega) (by omega)) hO.1, Tr_fr hO.2.1 (fun q h1 h2 => hf q (by omega) (by omega) (by omega)), Sd_fr hO.2.2.1 (fun q h1 h2 => hf q (by omega) (by omega) (by omega)), Tt_fr hO.2.2.2 (fun q h1 h2 => hf q (by omega) (by omega) (by omega))⟩
theorem ht_in {b : Nat} {W : XH} {tl fc pa nu : Int32} {by_ fo : Nat → Int32} (W' : XH) {q : Nat} (h1 : b ≤ q) (h2 : q < b + 3) : (ht b W tl fc pa nu by_ fo) q = (ht b W' tl fc pa nu by_ fo) q := by
  unfold ht
  by_cases c0 : q = b
  · rw [if_pos c0, if_pos c0]
  · rw [if_neg c0, if_neg c0]
    by_cases c1 : q = b + 1
    · rw [if_pos c1, if_pos c1]
    · rw [if_neg c1, if_neg c1, if_pos (by omega), if_pos (by omega)]
theorem Tt_eq {B : Nat} {h : XH} {L : Nat} {tx : Nat → Int32} (hT : Tt B h L tx) : ∃ (fc pa nu : Int32) (fo : Nat → Int32), h = ht (B + 110) h (nI L) fc pa nu tx fo := by
  obtain ⟨fc, pa, nu, fo, h1⟩ := hT
  refine ⟨fc, pa, nu, fo, ?_⟩
  funext q
  by_cases c : B + 110 ≤ q ∧ q < B + 113
  · rw [h1 q c.1 c.2]; exact ht_in h c.1 (by omega)
  · rw [ht_out (by omega)]
theorem Tt_ht {B : Nat} {W : XH} {L : Nat} {fc pa nu : Int32} {tx fo : Nat → Int32} : Tt B (ht (B + 110) W (nI L) fc pa nu tx fo) L tx := ⟨fc, pa, nu, fo, fun q h1 h2 => ht_in _ h1 (by omega)⟩
section PW0
variable {B s L c k n N D : Nat} {h : XH} {cap flo top eva lim rul lev dry : Int32} {lo : Int64} {rf us : UT} {od ra ac : Nat → Int32} {ap : Int32} {rfm usm : UT} {ram acm sv as : Nat → Int32} {th : Int32} {sd : Int64} {td : Int32} {sp : Nat → Int64} {lf : Int32} {tx : Nat → Int32} {pl nb : Int32}
theorem CT_c (h : CT c k n N D cap flo top eva lev lo ap rf us rfm usm ra ac ram acm) : CT (c + 1) k n N D cap flo top eva lev lo ap rf us rfm usm ra ac ram acm := ⟨h.1, ⟨h.2.1.1, h.2.1.2.1, by have := h.2.1.2.2; omega⟩, h.2.2⟩
theorem RS_c {s : SV} {a : Nat → Int32} {c : Nat} (h : RS s a c) : RS s a (c + 1) := by
  obtain ⟨k, n, N, D, h1, h2, h3⟩ := h
  exact ⟨k, n, N, D, h1, h2, CT_c h3⟩
theorem Sd_c {B : Nat} {h : XH} {s : Nat} {sv : Nat → Int32} {c : Nat} (hT : Sd B h s sv c) : Sd B h s sv (c + 1) := by
  obtain ⟨f, sg, svd, h1, h5⟩ := hT
  exact ⟨f, sg, svd, h1, fun j hj => RS_c (h5 j hj)⟩
theorem Ot_c (hO : Ot B h s sv c L tx) : Ot B h s sv (c + 1) L tx := ⟨hO.1, hO.2.1, Sd_c hO.2.2.1, hO.2.2.2⟩
end PW0
section PW1
variable {B s : Nat} {h : XH}
theorem rt_is (hR : Rt B h s) : xis h B 5 = some () := by unfold Rt at hR; simp [xis, hR]
theorem rt_0 (hR : Rt B h s) : xgR h B 5 0 = some (B + 1) := by unfold Rt at hR; simp [xgR, xg, hR]
theorem rt_1 (hR : Rt B h s) : xgR h B 5 1 = some (B + 19) := by unfold Rt at hR; simp [xgR, xg, hR]
theorem rt_2 (hR : Rt B h s) : xgR h B 5 2 = some (B + 37) := by unfold Rt at hR; simp [xgR, xg, hR]
theorem rt_3 (hR : Rt B h s) : xgI h B 5 3 = some (nI s) := by unfold Rt at hR; simp [xgI, xg, hR]
theorem rt_4 (hR : Rt B h s) : xgR h B 5 4 = some (B + 110) := by unfold Rt at hR; simp [xgR, xg, hR]
theorem rt_w (hR : Rt B h s) {t : Nat} : xpV h B 5 3 (.int (nI t)) = some (xup h B (some (.inr (5, [.ref (B + 1), .ref (B + 19), .ref (B + 37), .int (nI t), .ref (B + 110)])))) := by unfold Rt at hR; simp [xpV, hR]
theorem rt_up {t : Nat} : Rt B (xup h B (some (.inr (5, [.ref (B + 1), .ref (B + 19), .ref (B + 37), .int (nI t), .ref (B + 110)])))) t := xup_self _ _ _
end PW1
theorem Rt_hp {b : Nat} {W : XH} {cap flo top eva lim rul rc uc rn dn lev dry : Int32} {lo : Int64} {rf us : Nat → Nat → Int32} {od ra ac : Nat → Int32} {B s : Nat} (hR : Rt B W s) (hb : B < b) : Rt B (hp b W cap flo top eva lim rul rc uc rn dn lev dry lo rf us od ra ac) s := Rt_fr (hp_out (by omega)) hR
theorem Rt_ht {b : Nat} {W : XH} {tl fc pa nu : Int32} {by_ fo : Nat → Int32} {B s : Nat} (hR : Rt B W s) (hb : B < b) : Rt B (ht b W tl fc pa nu by_ fo) s := Rt_fr (ht_out (by omega)) hR

