/-! digest, both sides. -/
def dg_c (Z : Nat → Int32) (rf us : UT) (ra ac : Nat → Int32) (S : Nat → Int64) (k n N D s : Nat) (x : Int64) : Int64 :=
  (31 : Int64) * dtail S (it (fun d x => dsum (fun w => ac (d * 10 + w)) x 10) (dsum ra (it (fun i x => dsum (us i) x 4) (it (fun i x => dsum (rf i) x 5) (dsum Z x 12) k) n) N) D) 9 + Int32.toInt64 (nI s)
theorem dsum_nest {f : Nat → Int32} {g : UT} {q k : Nat} (h : ∀ i w, i < k → w < q → f (q * i + w) = g i w) (x : Int64) : dsum f x (q * k) = it (fun i x => dsum (g i) x q) x k := by
  unfold dsum
  rw [it_nest]
  exact it_cg (fun i x hi => it_cg (fun w y hw => by rw [h i w hi hw]) x) x
theorem dsum_cg {f g : Nat → Int32} {m : Nat} (h : ∀ i, i < m → f i = g i) (x : Int64) : dsum f x m = dsum g x m := it_cg (fun i x hi => by rw [h i hi]) x
section PX2
variable {b : Nat} {W : XH} {cap flo top eva lim rul rc uc rn dn lev dry ap : Int32} {rf us : Nat → Nat → Int32} {ra ac sv as : Nat → Int32} {sm th : Int32} {sd : Int64} {td : Int32} {sp : Nat → Int64} {lf : Int32} {tx : Nat → Int32} {tl pl nb : Int32}
variable {fu k n N D s L : Nat}
end PX2
section PX3
variable {B s L c k n N D : Nat} {h : XH} {cap flo top eva lim rul lev dry : Int32} {lo : Int64} {rf us : UT} {od ra ac : Nat → Int32} {ap : Int32} {rfm usm : UT} {ram acm sv as : Nat → Int32} {th : Int32} {sd : Int64} {td : Int32} {sp : Nat → Int64} {lf : Int32} {tx : Nat → Int32} {pl nb : Int32}
variable {fu : Nat}
theorem w_digest (hS : St (B + 1) h cap flo top eva lim rul (nI k) (nI n) (nI N) (nI D) lev dry lo rf us od ra ac) (hO : Ot B h s sv c L tx) (hC : CT c k n N D cap flo top eva lev lo ap rf us rfm usm ra ac ram acm) (hs : s ≤ 4) (hf : 1163 < fu) : f_X5_digest fu h B = some (dg_c (zz cap flo top eva lim rul (nI k) (nI n) (nI N) (nI D) lev dry) rf us ra ac (fun w => lsum acm w (if nI w = (4 : Int32) then Int32.toInt64 ap else 0) D) k n N D s ((99293 : Int64) + Int32.toInt64 (nI L))) := by
  have hk : k ≤ 6 := hC.1.1
  have hn : n ≤ 5 := hC.1.2.1
  have hN : N ≤ 100 := hC.1.2.2.1
  have hD : D ≤ 100 := Nat.le_trans hC.1.2.2.2 hC.1.2.2.1
  have R0 := hO.1
  unfold f_X5_digest
  simp only [rt_4 R0, tt_tl hO.2.2.2, Option.bind_some, olet, rt_0 R0]
  rw [xloop_E (fun i (x : Int64) => (x, nI i)) (fun i x => (31 : Int64) * x + Int32.toInt64 (zz cap flo top eva lim rul (nI k) (nI n) (nI N) (nI D) lev dry i)) (fun x => x) 12 _ ?a0 ?a1 ?a2 ?a3]
  rotate_left
  case a0 => rfl
  case a3 => omega
  case a1 =>
    intro i x hi
    have e10' : (12 : Int32) = nI 12 := rfl
    have hle : ¬ (12 : Int32) ≤ nI i := by rw [e10', xnI_le_iff (by omega) (by omega)]; omega
    simp only [xf2, if_neg hle, st_is hS, Option.bind_some, st_set hS hi, obind1_some, xnI_s]
  case a2 =>
    intro x
    simp only [xf2]
    rw [if_pos (show (12 : Int32) ≤ nI 12 by decide)]
  rw [obind1_some]
  rw [xloop_E (fun i (x : Int64) => (x, nI i)) (fun i x => dsum (rf i) x 5) (fun x => x) k _ ?b0 ?b1 ?b2 ?b3]
  rotate_left
  case b0 => rfl
  case b3 => omega
  case b1 =>
    intro i x hi
    have hle : ¬ nI k ≤ nI i := nI_ge hi (by omega)
    simp only [xf2, st_rc hS, Option.bind_some, if_neg hle]
    rw [xloop_E (fun w (x : Int64) => (x, nI w)) (fun w x => (31 : Int64) * x + Int32.toInt64 (rf i w)) (fun x => x) 5 x ?i0 ?i1 ?i2 ?i3]
    · rw [obind1_some, xnI_s]; rfl
    case i0 => rfl
    case i3 => omega
    case i1 =>
      intro w y hw
      have e10' : (5 : Int32) = nI 5 := rfl
      have hle2 : ¬ (5 : Int32) ≤ nI w := by rw [e10', xnI_le_iff (by omega) (by omega)]; omega
      simp only [xf2, if_neg hle2, st_roofs hS, Option.bind_some, st_qroof hS (show i < 6 by omega), st_ir hS (show i < 6 by omega), st_rv hS (show i < 6 by omega) hw, obind1_some, xnI_s]
    case i2 =>
      intro y
      simp only [xf2]
      rw [if_pos (show (5 : Int32) ≤ nI 5 by decide)]
  case b2 =>
    intro x
    simp only [xf2, st_rc hS, Option.bind_some, Int32.le_refl, if_true]
  rw [obind1_some]
  rw [xloop_E (fun i (x : Int64) => (x, nI i)) (fun i x => dsum (us i) x 4) (fun x => x) n _ ?c0 ?c1 ?c2 ?c3]
  rotate_left
  case c0 => rfl
  case c3 => omega
  case c1 =>
    intro i x hi
    have hle : ¬ nI n ≤ nI i := nI_ge hi (by omega)
    simp only [xf2, st_users hS, st_uc hS, Option.bind_some, if_neg hle]
    rw [xloop_E (fun w (x : Int64) => (x, nI w)) (fun w x => (31 : Int64) * x + Int32.toInt64 (us i w)) (fun x => x) 4 x ?j0 ?j1 ?j2 ?j3]
    · rw [obind1_some, xnI_s]; rfl
    case j0 => rfl
    case j3 => omega
    case j1 =>
      intro w y hw
      have e10' : (4 : Int32) = nI 4 := rfl
      have hle2 : ¬ (4 : Int32) ≤ nI w := by rw [e10', xnI_le_iff (by omega) (by omega)]; omega
      simp only [xf2, if_neg hle2, st_rows hS, Option.bind_some, st_quser hS (show i < 5 by omega), st_iw hS (show i < 5 by omega), st_uv hS (show i < 5 by omega) hw, obind1_some, xnI_s]
    case j2 =>
      intro y
      simp only [xf2]
      rw [if_pos (show (4 : Int32) ≤ nI 4 by decide)]
  case c2 =>
    intro x
    simp only [xf2, st_users hS, st_uc hS, Option.bind_some, Int32.le_refl, if_true]
  rw [obind1_some]
  rw [xloop_E (fun i (x : Int64) => (x, nI i)) (fun i x => (31 : Int64) * x + Int32.toInt64 (ra i)) (fun x => x) N _ ?d0 ?d1 ?d2 ?d3]
  rotate_left
  case d0 => rfl
  case d3 => omega
  case d1 =>
    intro i x hi
    have hle : ¬ nI N ≤ nI i := nI_ge hi (by omega)
    simp only [xf2, st_rn hS, Option.bind_some, if_neg hle, st_rains hS, st_ra hS (show i < 100 by omega), xnI_s]
  case d2 =>
    intro x
    simp only [xf2, st_rn hS, Option.bind_some, Int32.le_refl, if_true]
  rw [obind1_some]
  rw [xloop_E (fun i (x : Int64) => (x, nI i)) (fun d x => dsum (fun w => ac (d * 10 + w)) x 10) (fun x => x) D _ ?f0 ?f1 ?f2 ?f3]
  rotate_left
  case f0 => rfl
  case f3 => omega
  case f1 =>
    intro i x hi
    have hle : ¬ nI D ≤ nI i := nI_ge hi (by omega)
    simp only [xf2, st_dn hS, Option.bind_some, if_neg hle]
    rw [xloop_E (fun w (x : Int64) => (x, nI w)) (fun w x => (31 : Int64) * x + Int32.toInt64 (ac (i * 10 + w))) (fun x => x) 10 x ?k0 ?k1 ?k2 ?k3]
    · rw [obind1_some, xnI_s]; rfl
    case k0 => rfl
    case k3 => omega
    case k1 =>
      intro w y hw
      have e10' : (10 : Int32) = nI 10 := rfl
      have hle2 : ¬ (10 : Int32) ≤ nI w := by rw [e10', xnI_le_iff (by omega) (by omega)]; omega
      simp only [xf2, if_neg hle2, st_is hS, Option.bind_some, st_acc hS (show i < 100 by omega) hw, obind1_some, xnI_s]
    case k2 =>
      intro y
      simp only [xf2]
      rw [if_pos (show (10 : Int32) ≤ nI 10 by decide)]
  case f2 =>
    intro x
    simp only [xf2, st_dn hS, Option.bind_some, Int32.le_refl, if_true]
  rw [obind1_some]
  rw [xloop_E (fun i (x : Int64) => (x, nI (i + 1))) (fun i x => (31 : Int64) * x + lsum acm (i + 1) (if nI (i + 1) = (4 : Int32) then Int32.toInt64 ap else 0) D) (fun x => x) 9 _ ?g0 ?g1 ?g2 ?g3]
  rotate_left
  case g0 => rfl
  case g3 => omega
  case g1 =>
    intro i x hi
    have e10' : (10 : Int32) = nI 10 := rfl
    have hle : ¬ (10 : Int32) ≤ nI (i + 1) := by rw [e10', xnI_le_iff (by omega) (by omega)]; omega
    simp only [xf2, if_neg hle, rt_is R0, Option.bind_some, w_sums hS R0 hC (show 101 < fu by omega) (show 1 ≤ i + 1 ∧ i + 1 < 10 by omega), xinl, obind1_some, xnI_s]
  case g2 =>
    intro x
    simp only [xf2]
    rw [if_pos (show (10 : Int32) ≤ nI (9 + 1) by decide)]
  rw [obind1_some, rt_3 R0, Option.bind_some]
  rfl
theorem dg_eq (hC : CT c k n N D cap flo top eva lev lo ap rf us rfm usm ra ac ram acm) (Z : Nat → Int32) (S : Nat → Int64) (x : Int64) : dg_c Z rf us ra ac S k n N D s x = dg_c Z rfm usm ram acm S k n N D s x := by
  obtain ⟨r1, r2, r3, r4⟩ := hC.2.2.1
  unfold dg_c
  rw [it_cg (F := fun i x => dsum (rf i) x 5) (G := fun i x => dsum (rfm i) x 5) (fun i x hi => dsum_cg (fun w hw => r1 i hi w hw) x), it_cg (F := fun i x => dsum (us i) x 4) (G := fun i x => dsum (usm i) x 4) (fun i x hi => dsum_cg (fun w hw => r2 i hi w hw) x), dsum_cg (f := ra) (g := ram) r3,
    it_cg (F := fun d x => dsum (fun w => ac (d * 10 + w)) x 10) (G := fun d x => dsum (fun w => acm (d * 10 + w)) x 10) (fun i x hi => dsum_cg (fun w hw => r4 (i * 10 + w) (by omega)) x)]
end PX3

