/-! The model reads a number. -/
theorem i64_le (a b : Int32) : (Int32.toInt64 a ≤ Int32.toInt64 b) ↔ a.toInt ≤ b.toInt := by
  rw [Int64.le_iff_toInt_le, Int32.toInt_toInt64, Int32.toInt_toInt64]
theorem xb01_c {c d : Prop} [Decidable c] [Decidable d] (h : c ↔ d) : xb01 c = xb01 d := by
  unfold xb01
  by_cases hc : c
  · rw [if_pos hc, if_pos (h.mp hc)]
  · rw [if_neg hc, if_neg (fun hd => hc (h.mpr hd))]
theorem p_X6_in32 (a : Int32) (l u : Int32) : f_X6_in (Int32.toInt64 a) (Int32.toInt64 l) (Int32.toInt64 u) = some (xb01 (l.toInt ≤ a.toInt ∧ a.toInt ≤ u.toInt)) := by
  rw [p_X6_in]
  refine congrArg some (xb01_c ?_)
  rw [i64_le, i64_le]
def mcode (x : Nat ⊕ (Nat × Int32)) : Int32 × Int32 := match x with
  | .inl q => (0, nI q)
  | .inr (q, _) => (1, nI q)
section PSJ
variable {b : Nat} {W : XH} {cap flo top eva lim rul rc uc rn dn lev dry ap : Int32} {rf us : Nat → Nat → Int32} {ra ac sv as : Nat → Int32} {sm th : Int32} {sd : Int64} {td : Int32} {sp : Nat → Int64} {lf : Int32} {tx : Nat → Int32} {tl pl nb : Int32}
variable {fu L p m : Nat}
theorem p_X6_isFigure (hL : L ≤ 120) (hp : p ≤ L) : f_X6_isFigure (hm b W cap flo top eva lim rul rc uc rn dn lev dry ap rf us ra ac sv as sm th sd td sp lf tx (nI L) (nI p) nb) b = some (xb01 (dg L tx p = true)) := by
  unfold f_X6_isFigure
  simp only [gm_pl, gm_tl, Option.bind_some, oletk]
  have h3 : (nI p).toNatClampNeg = p := xnI_nat (by omega)
  by_cases h : p < L
  · have hx := xin_nI (show p < 120 by omega) (show 120 < 2147483648 by decide)
    rw [if_neg (nI_ge h (by omega))]
    simp only [gm_r5, gm_pl, Option.bind_some, gm_tx hx, h3]
    have e : f_X6_in (Int32.toInt64 (tx p)) (48 : Int64) (57 : Int64) = some (xb01 (dg L tx p = true)) := by
      have := p_X6_in32 (tx p) 48 57
      refine Eq.trans this (congrArg some (xb01_c ?_))
      rw [dg_iff]
      exact ⟨fun z => ⟨h, z.1, z.2⟩, fun z => z.2⟩
    rw [e, obind1_some]
    simp only [xb01_0]
    by_cases c : dg L tx p = true
    · rw [if_neg (fun hh => hh c), obind1_some]
      unfold xb01
      rw [if_pos c]; rfl
    · rw [if_pos c, obind1_some]
      unfold xb01
      rw [if_neg c]; rfl
  · rw [if_pos (by rw [xnI_le_iff (by omega) (by omega)]; omega), obind1_some]
    unfold xb01
    rw [if_neg (fun z => h (dg_iff.mp z).1)]; rfl
theorem p_X6_passesByte (hL : L ≤ 120) (hp : p ≤ L) (ch : Int32) : f_X6_passesByte (hm b W cap flo top eva lim rul rc uc rn dn lev dry ap rf us ra ac sv as sm th sd td sp lf tx (nI L) (nI p) nb) b ch = some (xb01 (nx L tx p ch = true), hm b W cap flo top eva lim rul rc uc rn dn lev dry ap rf us ra ac sv as sm th sd td sp lf tx (nI L) (if nx L tx p ch = true then nI (p + 1) else nI p) nb) := by
  unfold f_X6_passesByte
  simp only [gm_pl, gm_tl, Option.bind_some, oletk]
  have h3 : (nI p).toNatClampNeg = p := xnI_nat (by omega)
  have fin : ∀ (c : Prop) [Decidable c], c → xb01 c = 1 := fun c _ h => by unfold xb01; rw [if_pos h]
  have fin0 : ∀ (c : Prop) [Decidable c], ¬ c → xb01 c = 0 := fun c _ h => by unfold xb01; rw [if_neg h]
  by_cases h : p < L
  · have hx := xin_nI (show p < 120 by omega) (show 120 < 2147483648 by decide)
    rw [if_neg (nI_ge h (by omega))]
    simp only [gm_r5, gm_pl, Option.bind_some, gm_tx hx, h3]
    by_cases e : tx p = ch
    · have hn := nx_iff.mpr ⟨h, e⟩
      rw [if_pos e, obind1_some, fin _ hn, if_pos hn]
      simp only [show ¬ ((1 : Int32) = 0) by decide, if_false, obind1_some, sm_pl, Option.bind_some, xnI_s]
      rfl
    · have hn : ¬ nx L tx p ch = true := fun z => e (nx_iff.mp z).2
      rw [if_neg e, obind1_some, fin0 _ hn, if_neg hn]
      simp only [if_true, obind1_some, sm_pl, Option.bind_some, i32_add0]
      rfl
  · have hn : ¬ nx L tx p ch = true := fun z => h (nx_iff.mp z).1
    rw [if_pos (by rw [xnI_le_iff (by omega) (by omega)]; omega), obind1_some, fin0 _ hn, if_neg hn]
    simp only [gm_pl, if_true, obind1_some, sm_pl, Option.bind_some, i32_add0]
    rfl
theorem p_X6_reads (hL : L ≤ 120) (hp : p ≤ L) (hm3 : m ≤ 3) (hf : 3 < fu) (lo hi : Int32) :
    f_X6_reads fu (hm b W cap flo top eva lim rul rc uc rn dn lev dry ap rf us ra ac sv as sm th sd td sp lf tx (nI L) (nI p) nb) b (nI m) lo hi = some ((mcode (rn_ L tx p m lo hi)).1, hm b W cap flo top eva lim rul rc uc rn dn lev dry ap rf us ra ac sv as sm th sd td sp lf tx (nI L) (mcode (rn_ L tx p m lo hi)).2 (rd L tx p m).2) := by
  unfold f_X6_reads
  simp only [gm_pl, Option.bind_some, sm_nb]
  have key := xloop_P (body := xf1 fun (h2 : XH) => (xis h2 b 6).bind fun v2 => obind1 (f_X6_isFigure h2 b) fun v3 => if v3 = 0 then some (Sum.inr h2) else (xgI h2 b 6 11).bind fun v4 => if nI p + nI m ≤ v4 then some (Sum.inr h2) else
      (xgI h2 b 6 12).bind fun v5 => (xgR h2 b 6 9).bind fun v6 => (xgI h2 b 6 11).bind fun v7 => (xald h2 v6 0 v7).bind fun v8 => (xpV h2 b 6 12 (.int (10 * v5 + v8 - 48))).bind fun h4 => (xgI h4 b 6 11).bind fun v9 => (xpV h4 b 6 11 (.int (v9 + 1))).bind fun h5 => some (Sum.inl h5))
    (s0 := hm b W cap flo top eva lim rul rc uc rn dn lev dry ap rf us ra ac sv as sm th sd td sp lf tx (nI L) (nI p) 0) (fu := fu)
    (fun i s => s = hm b W cap flo top eva lim rul rc uc rn dn lev dry ap rf us ra ac sv as sm th sd td sp lf tx (nI L) (nI (rd L tx p i).1) (rd L tx p i).2 ∧ (rd L tx p i).1 = p + i)
    (fun r => r = hm b W cap flo top eva lim rul rc uc rn dn lev dry ap rf us ra ac sv as sm th sd td sp lf tx (nI L) (nI (rd L tx p m).1) (rd L tx p m).2)
    m ⟨rfl, rfl⟩ ?ks ?ke (by omega)
  · obtain ⟨r, e, rfl⟩ := key
    rw [e, obind1_some]
    have hr := rd_rng L tx p hp m
    simp only [gm_pl, gm_is, Option.bind_some, oletk, p_X6_isFigure hL hr.2.2, obind1_some, xb01_0]
    unfold rn_
    have xb0 : xbool (0 : Int32) = some 0 := rfl
    by_cases c1 : (rd L tx p m).1 = p
    · rw [if_pos (by rw [c1])]
      by_cases c : dg L tx (rd L tx p m).1 = true
      · rw [if_pos c, xb0]; rfl
      · rw [if_neg c, if_pos c1, xb0, c1]; rfl
    · rw [if_neg (fun h => c1 (xnI_inj (by omega) (by omega) h))]
      by_cases c : dg L tx (rd L tx p m).1 = true
      · rw [if_neg (fun hh => hh c), if_pos c, xb0]; rfl
      · rw [if_pos c, if_neg c, if_neg c1]
        simp only [gm_nb, Option.bind_some, p_X6_in32, obind1_some, xb01_0, sm_pl, gm_pl, xbool_01]
        by_cases c2 : (rd L tx p m).2 < lo
        · have hn : ¬ (lo.toInt ≤ (rd L tx p m).2.toInt ∧ (rd L tx p m).2.toInt ≤ hi.toInt) := by rw [ti_lt] at c2; omega
          rw [if_pos c2, if_pos hn, obind1_some]
          unfold xb01
          rw [if_neg hn]; rfl
        · rw [if_neg c2]
          by_cases c3 : (rd L tx p m).2 ≤ hi
          · have hn : (lo.toInt ≤ (rd L tx p m).2.toInt ∧ (rd L tx p m).2.toInt ≤ hi.toInt) := by rw [ti_lt] at c2; rw [ti_le] at c3; omega
            rw [if_pos c3, if_neg (fun hh => hh hn), obind1_some]
            unfold xb01
            rw [if_pos hn]; rfl
          · have hn : ¬ (lo.toInt ≤ (rd L tx p m).2.toInt ∧ (rd L tx p m).2.toInt ≤ hi.toInt) := by rw [ti_le] at c3; omega
            rw [if_neg c3, if_pos hn, obind1_some]
            unfold xb01
            rw [if_neg hn]; rfl
  case ks =>
    rintro i s hi ⟨rfl, e1⟩
    have hr := rd_rng L tx p hp i
    have e3 : (nI (rd L tx p i).1).toNatClampNeg = (rd L tx p i).1 := xnI_nat (by omega)
    by_cases c : dg L tx (rd L tx p i).1 = true
    · left
      obtain ⟨d1, d2, d3⟩ := dg_iff.mp c
      have hx := xin_nI (show (rd L tx p i).1 < 120 by omega) (show 120 < 2147483648 by decide)
      refine ⟨_, ?_, rfl, ?_⟩
      · simp only [xf1, gm_is, Option.bind_some, p_X6_isFigure hL hr.2.2, obind1_some, xb01_0, if_neg (fun hh : ¬ dg L tx (rd L tx p i).1 = true => hh c), gm_pl, xnI_add]
        rw [if_neg (nI_ge (by omega) (by omega))]
        simp only [gm_nb, gm_r5, gm_pl, Option.bind_some, gm_tx hx, e3, sm_nb, sm_pl, xnI_s, rd_step c, Int32.mul_comm 10]
      · rw [rd_step c]; simp only; omega
    · right
      have hst : rd L tx p m = rd L tx p i := by rw [show m = i + (m - i) by omega]; exact rd_stop L tx p i c _
      refine ⟨_, ?_, rfl⟩
      simp only [xf1, gm_is, Option.bind_some, p_X6_isFigure hL hr.2.2, obind1_some, xb01_0, if_pos c, hst]
  case ke =>
    rintro s ⟨rfl, e1⟩
    have hr := rd_rng L tx p hp m
    refine ⟨_, ?_, rfl⟩
    simp only [xf1, gm_is, Option.bind_some, p_X6_isFigure hL hr.2.2, obind1_some, xb01_0]
    by_cases c : dg L tx (rd L tx p m).1 = true
    · rw [if_neg (fun hh => hh c)]
      simp only [gm_pl, Option.bind_some, xnI_add, e1, Int32.le_refl, if_true]
    · rw [if_pos c]
end PSJ
