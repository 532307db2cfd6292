/-! The model reads an item, whole. -/
section PSL
variable {b : Nat} {W : XH} {cap flo top eva lim rul rc uc rn dn lev dry ap : Int32} {rf us : Nat → Nat → Int32} {ra ac sv as : Nat → Int32} {sm th : Int32} {sd : Int64} {td : Int32} {sp : Nat → Int64} {lf : Int32} {tx : Nat → Int32} {tl pl nb : Int32}
variable {fu L p R : Nat}
theorem p_X6_readsItem (hL : L ≤ 120) (hp : p ≤ L) (hR : R ≤ 100) (hf : 101 < fu) :
    ∃ nb', f_X6_readsItem fu (hm b W cap flo top eva lim rul rc uc (nI R) dn lev dry ap rf us ra ac sv as sm th sd td sp lf tx (nI L) (nI p) nb) b = some (match itm L tx 100 p R with
      | .inl q => (0, hm b W cap flo top eva lim rul rc uc (nI R) dn lev dry ap rf us ra ac sv as sm th sd td sp lf tx (nI L) (nI q) nb')
      | .inr (e, v, d) => (1, hm b W cap flo top eva lim rul rc uc (nI (R + d)) dn lev dry ap rf us (fill v R d ra) ac sv as sm th sd td sp lf tx (nI L) (nI e) nb')) := by
  have xb0 : xbool (0 : Int32) = some 0 := rfl
  have hr1 := rd_rng L tx p hp 3
  unfold f_X6_readsItem
  simp only [gm_is, Option.bind_some, show (3 : Int32) = nI 3 from rfl, p_X6_reads hL hp (show 3 ≤ 3 by decide) (show 3 < fu by omega), obind2_some]
  unfold itm item
  cases e1 : rn_ L tx p 3 0 200 with
  | inl q =>
    refine ⟨(rd L tx p 3).2, ?_⟩
    simp only [mcode, if_true, xb0, Option.bind_some]
  | inr x =>
    obtain ⟨q, v⟩ := x
    obtain ⟨f1, f2, f3, f4⟩ := rn_inr e1
    rw [← f1]
    have hq : q ≤ L := by have : q = (rd L tx p 3).1 := congrArg Prod.fst f1; omega
    simp only [mcode, show ¬ ((1 : Int32) = 0) by decide, if_false, gm_nb, gm_is, Option.bind_some, p_X6_passesByte hL hq, obind2_some, xb01_0, oletk]
    by_cases n1 : nx L tx q 120 = true
    · have hq1 : q + 1 ≤ L := (nx_iff.mp n1).1
      have hr2 := rd_rng L tx (q + 1) hq1 2
      simp only [if_neg (fun h : ¬ nx L tx q 120 = true => h n1), if_pos n1, gm_is, Option.bind_some, show (2 : Int32) = nI 2 from rfl, p_X6_reads hL hq1 (show 2 ≤ 3 by decide) (show 3 < fu by omega), obind2_some]
      cases e2 : rn_ L tx (q + 1) 2 1 99 with
      | inl q2 =>
        refine ⟨(rd L tx (q + 1) 2).2, ?_⟩
        simp only [mcode, if_true, xb0, Option.bind_some]
      | inr y =>
        obtain ⟨q3, d⟩ := y
        obtain ⟨g1, g2, g3, g4⟩ := rn_inr e2
        have hq3 : q3 ≤ L := by have : q3 = (rd L tx (q + 1) 2).1 := congrArg Prod.fst g1; omega
        have dd := xnI_nn g3 g4 (by decide) (k := 99) rfl
        have d1 : d = nI d.toNatClampNeg := dd.1
        have d2 : d.toNatClampNeg ≤ 99 := dd.2
        rw [← g1]
        refine ⟨d, ?_⟩
        simp only [show ¬ ((1 : Int32) = 0) by decide, if_false, gm_nb, Option.bind_some]
        have hend := p_X6_itemEnd (b := b) (W := W) (cap := cap) (flo := flo) (top := top) (eva := eva) (lim := lim) (rul := rul) (rc := rc) (uc := uc) (dn := dn) (lev := lev) (dry := dry) (ap := ap) (rf := rf) (us := us) (ra := ra) (ac := ac) (sv := sv) (as := as) (sm := sm) (th := th) (sd := sd) (td := td) (sp := sp) (lf := lf) (tx := tx) (nb := d) (fu := fu) (L := L) (R := R) hL hq3 hR hf (v := v) (d := d.toNatClampNeg) (by omega) rfl
        rw [← d1] at hend
        simp only [oletk, gm_pl, gm_tl, Option.bind_some] at hend ⊢
        refine Eq.trans hend ?_
        by_cases z : nx L tx q3 59 = true ∧ R + d.toNatClampNeg ≤ 100
        · rw [if_pos z, if_pos z]
        · rw [if_neg z, if_neg z]
    · simp only [if_pos n1, if_neg n1]
      have e3 : (1 : Int32).toNatClampNeg = 1 := rfl
      refine ⟨v, ?_⟩
      have hend := p_X6_itemEnd (b := b) (W := W) (cap := cap) (flo := flo) (top := top) (eva := eva) (lim := lim) (rul := rul) (rc := rc) (uc := uc) (dn := dn) (lev := lev) (dry := dry) (ap := ap) (rf := rf) (us := us) (ra := ra) (ac := ac) (sv := sv) (as := as) (sm := sm) (th := th) (sd := sd) (td := td) (sp := sp) (lf := lf) (tx := tx) (nb := v) (fu := fu) (L := L) (R := R) hL hq hR hf (v := v) (d := 1) (by omega) rfl
      simp only [oletk, gm_pl, gm_tl, Option.bind_some] at hend ⊢
      refine Eq.trans hend ?_
      rw [e3]
      by_cases z : nx L tx q 59 = true ∧ R + 1 ≤ 100
      · rw [if_pos z, if_pos z]
      · rw [if_neg z, if_neg z]
end PSL
theorem itm_shift (L : Nat) (by_ : Nat → Int32) {N : Nat} (hN : N ≤ 100) (p c : Nat) : itm L by_ (100 - N) p c = itm L by_ 100 p (N + c) := by
  unfold itm
  cases item L by_ p with
  | inl q => rfl
  | inr x =>
    obtain ⟨e, v, d⟩ := x
    simp only
    by_cases z : nx L by_ e 59 = true ∧ c + d.toNatClampNeg ≤ 100 - N
    · rw [if_pos z, if_pos ⟨z.1, by omega⟩]
    · rw [if_neg z, if_neg (fun h => z ⟨h.1, by omega⟩)]
theorem fill_off (v : Int32) (N c n : Nat) (fo ra : Nat → Int32) (h : ∀ j, j < c → ra (N + j) = fo j) : ∀ j, j < c + n → fill v (N + c) n ra (N + j) = fill v c n fo j := by
  intro j hj
  rw [fill_at, fill_at]
  by_cases z : c ≤ j ∧ j < c + n
  · rw [if_pos z, if_pos (by omega)]
  · rw [if_neg z, if_neg (by omega)]; exact h j (by omega)
theorem fill_lo (v : Int32) (c n : Nat) (ra : Nat → Int32) {j : Nat} (h : j < c) : fill v c n ra j = ra j := by
  rw [fill_at, if_neg (by omega)]
