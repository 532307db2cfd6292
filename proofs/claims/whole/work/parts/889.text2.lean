/-! The class reads a number. -/
theorem rd_stop (L : Nat) (by_ : Nat → Int32) (p i : Nat) (h : ¬ dg L by_ (rd L by_ p i).1 = true) : ∀ j, rd L by_ p (i + j) = rd L by_ p i
  | 0 => rfl
  | j + 1 => by
    have ih := rd_stop L by_ p i h j
    show (if dg L by_ (rd L by_ p (i + j)).1 then _ else rd L by_ p (i + j)) = _
    rw [ih, if_neg h]
theorem rd_step {L : Nat} {by_ : Nat → Int32} {p i : Nat} (h : dg L by_ (rd L by_ p i).1 = true) : rd L by_ p (i + 1) = ((rd L by_ p i).1 + 1, (rd L by_ p i).2 * 10 + by_ (rd L by_ p i).1 - 48) := by
  show (if dg L by_ (rd L by_ p i).1 then _ else rd L by_ p i) = _
  rw [if_pos h]
theorem xnI_subp (p i : Nat) : nI (p + i) - nI p = nI i := by rw [← xnI_add]; grind
def rcode (x : Nat ⊕ (Nat × Int32)) : Int32 := match x with
  | .inl q => nI q
  | .inr _ => -1
section PSF
variable {b : Nat} {W : XH} {tl fc pa nu : Int32} {by_ fo : Nat → Int32}
variable {fu L p m : Nat}
theorem p_X0_readNumber (hL : L ≤ 120) (hp : p ≤ L) (hm3 : m ≤ 3) (hf : 3 < fu) (lo hi : Int32) :
    f_X0_readNumber fu (ht b W (nI L) fc (nI p) nu by_ fo) b (nI m) lo hi = some (rcode (rn_ L by_ p m lo hi), ht b W (nI L) fc (nI (rd L by_ p m).1) (rd L by_ p m).2 by_ fo) := by
  unfold f_X0_readNumber
  simp only [tg_pa, Option.bind_some, ts_nu]
  have key := xloop_P (body := xf1 fun (h2 : XH) => (xgI h2 b 0 4).bind fun v2 => (xgI h2 b 0 1).bind fun v3 => if v3 ≤ v2 then some (Sum.inr (Sum.inl h2)) else
      (xgR h2 b 0 0).bind fun v4 => (xgI h2 b 0 4).bind fun v5 => (xald h2 v4 1 v5).bind fun v6 => if v6 < 48 then some (Sum.inr (Sum.inl h2)) else
      (xgR h2 b 0 0).bind fun v7 => (xgI h2 b 0 4).bind fun v8 => (xald h2 v7 1 v8).bind fun v9 => if 57 < v9 then some (Sum.inr (Sum.inl h2)) else
      (xgI h2 b 0 4).bind fun v10 => if v10 - nI p < nI m then (xgI h2 b 0 5).bind fun v11 => (xgR h2 b 0 0).bind fun v12 => (xgI h2 b 0 4).bind fun v13 => (xald h2 v12 1 v13).bind fun v14 => (xpV h2 b 0 5 (.int (v11 * 10 + v14 - 48))).bind fun h4 => (xgI h4 b 0 4).bind fun v15 => (xpV h4 b 0 4 (.int (v15 + 1))).bind fun h5 => some (Sum.inl h5)
      else (xgI h2 b 0 4).bind fun v16 => some (Sum.inr (Sum.inr (v16, h2))))
    (s0 := ht b W (nI L) fc (nI p) 0 by_ fo) (fu := fu)
    (fun i s => s = ht b W (nI L) fc (nI (rd L by_ p i).1) (rd L by_ p i).2 by_ fo ∧ (rd L by_ p i).1 = p + i)
    (fun (r : XH ⊕ (Int32 × XH)) => (¬ dg L by_ (rd L by_ p m).1 = true → r = .inl (ht b W (nI L) fc (nI (rd L by_ p m).1) (rd L by_ p m).2 by_ fo)) ∧ (dg L by_ (rd L by_ p m).1 = true → r = .inr (nI (rd L by_ p m).1, ht b W (nI L) fc (nI (rd L by_ p m).1) (rd L by_ p m).2 by_ fo)))
    m ⟨rfl, rfl⟩ ?ks ?ke (by omega)
  · obtain ⟨r, e, q1, q2⟩ := key
    rw [e]
    unfold rn_
    by_cases c : dg L by_ (rd L by_ p m).1 = true
    · rw [q2 c, if_pos c]; rfl
    · rw [q1 c, if_neg c]
      have hr := rd_rng L by_ p hp m
      show (xgI (ht b W (nI L) fc (nI (rd L by_ p m).1) (rd L by_ p m).2 by_ fo) b 0 4).bind _ = _
      simp only [tg_pa, tg_nu, Option.bind_some, oletk]
      by_cases c1 : (rd L by_ p m).1 = p
      · rw [if_pos (by rw [c1]), if_pos c1]; rfl
      · rw [if_neg (fun h => c1 (xnI_inj (by omega) (by omega) h)), if_neg c1]
        by_cases c2 : (rd L by_ p m).2 < lo
        · rw [if_pos c2, if_pos c2]; rfl
        · rw [if_neg c2, if_neg c2]
          by_cases c3 : (rd L by_ p m).2 ≤ hi
          · rw [if_pos c3, if_pos c3]; rfl
          · rw [if_neg c3, if_neg c3]; rfl
  case ks =>
    rintro i s hi ⟨rfl, e1⟩
    have hr := rd_rng L by_ p hp i
    have e3 : (nI (rd L by_ p i).1).toNatClampNeg = (rd L by_ p i).1 := xnI_nat (by omega)
    by_cases c : dg L by_ (rd L by_ p i).1 = true
    · left
      obtain ⟨d1, d2, d3⟩ := dg_iff.mp c
      have hx := xin_nI (show (rd L by_ p i).1 < 120 by omega) (show 120 < 2147483648 by decide)
      refine ⟨_, ?_, rfl, ?_⟩
      · simp only [xf1, tg_pa, tg_tl, Option.bind_some, if_neg (nI_ge d1 (by omega)), tg_r1, tg_by_ hx, e3]
        rw [if_neg (by rw [ti_lt]; have : (48 : Int32).toInt = 48 := rfl; omega), if_neg (by rw [ti_lt]; have : (57 : Int32).toInt = 57 := rfl; omega)]
        rw [if_pos (by rw [e1, xnI_subp, xnI_lt_iff (by omega) (by omega)]; exact hi)]
        simp only [tg_nu, ts_nu, tg_pa, ts_pa, Option.bind_some, xnI_s, rd_step c]
      · rw [rd_step c]; simp only; omega
    · right
      have hst : rd L by_ p m = rd L by_ p i := by rw [show m = i + (m - i) by omega]; exact rd_stop L by_ p i c _
      refine ⟨.inl (ht b W (nI L) fc (nI (rd L by_ p i).1) (rd L by_ p i).2 by_ fo), ?_, ?_, ?_⟩
      · simp only [xf1, tg_pa, tg_tl, Option.bind_some]
        by_cases d1 : (rd L by_ p i).1 < L
        · have hx := xin_nI (show (rd L by_ p i).1 < 120 by omega) (show 120 < 2147483648 by decide)
          rw [if_neg (nI_ge d1 (by omega))]
          simp only [tg_r1, tg_pa, Option.bind_some, tg_by_ hx, e3]
          by_cases d2 : by_ (rd L by_ p i).1 < 48
          · rw [if_pos d2]
          · rw [if_neg d2]
            rw [if_pos ?_]
            rw [ti_lt] at d2 ⊢
            have z1 : (48 : Int32).toInt = 48 := rfl
            have z2 : (57 : Int32).toInt = 57 := rfl
            rcases Int.lt_or_le (57 : Int) (by_ (rd L by_ p i).1).toInt with h | h
            · omega
            · exact absurd (dg_iff.mpr ⟨d1, by omega, h⟩) c
        · rw [if_pos (by rw [xnI_le_iff (by omega) (by omega)]; omega)]
      · intro _; rw [hst]
      · intro h; rw [hst] at h; exact absurd h c
  case ke =>
    rintro s ⟨rfl, e1⟩
    have hr := rd_rng L by_ p hp m
    have e3 : (nI (rd L by_ p m).1).toNatClampNeg = (rd L by_ p m).1 := xnI_nat (by omega)
    by_cases c : dg L by_ (rd L by_ p m).1 = true
    · obtain ⟨d1, d2, d3⟩ := dg_iff.mp c
      have hx := xin_nI (show (rd L by_ p m).1 < 120 by omega) (show 120 < 2147483648 by decide)
      refine ⟨.inr (nI (rd L by_ p m).1, ht b W (nI L) fc (nI (rd L by_ p m).1) (rd L by_ p m).2 by_ fo), ?_, fun h => absurd c h, fun _ => rfl⟩
      simp only [xf1, tg_pa, tg_tl, Option.bind_some, if_neg (nI_ge d1 (by omega)), tg_r1, tg_by_ hx, e3]
      rw [if_neg (by rw [ti_lt]; have : (48 : Int32).toInt = 48 := rfl; omega), if_neg (by rw [ti_lt]; have : (57 : Int32).toInt = 57 := rfl; omega)]
      rw [if_neg (by rw [e1, xnI_subp, xnI_lt_iff (by omega) (by omega)]; omega)]
    · refine ⟨.inl (ht b W (nI L) fc (nI (rd L by_ p m).1) (rd L by_ p m).2 by_ fo), ?_, fun _ => rfl, fun h => absurd h c⟩
      simp only [xf1, tg_pa, tg_tl, Option.bind_some]
      by_cases d1 : (rd L by_ p m).1 < L
      · have hx := xin_nI (show (rd L by_ p m).1 < 120 by omega) (show 120 < 2147483648 by decide)
        rw [if_neg (nI_ge d1 (by omega))]
        simp only [tg_r1, tg_pa, Option.bind_some, tg_by_ hx, e3]
        by_cases d2 : by_ (rd L by_ p m).1 < 48
        · rw [if_pos d2]
        · rw [if_neg d2]
          rw [if_pos ?_]
          rw [ti_lt] at d2 ⊢
          have z1 : (48 : Int32).toInt = 48 := rfl
          have z2 : (57 : Int32).toInt = 57 := rfl
          rcases Int.lt_or_le (57 : Int) (by_ (rd L by_ p m).1).toInt with h | h
          · omega
          · exact absurd (dg_iff.mpr ⟨d1, by omega, h⟩) c
      · rw [if_pos (by rw [xnI_le_iff (by omega) (by omega)]; omega)]
end PSF
