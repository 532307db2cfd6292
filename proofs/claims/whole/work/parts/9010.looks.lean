/-! longestShortage, reliability, digest, both sides. -/
def KG {α : Type} (B c : Nat) (h : XH) (F : Option α) (G : Option (α × XH)) : Prop := ∃ (v : α) (h1 : XH), F = some v ∧ xis h (B + 113) 6 = some () ∧ G = some (v, h1) ∧ World B h1 (c + 1)
theorem it_app {α : Type} (F : Nat → α → α) (x : α) (m : Nat) : ∀ n, it F x (m + n) = it (fun i => F (m + i)) (it F x m) n
  | 0 => rfl
  | n + 1 => congrArg (F (m + n)) (it_app F x m n)
theorem it_nest {α : Type} (F : Nat → α → α) (q : Nat) (x : α) : ∀ k, it F x (q * k) = it (fun i x => it (fun w => F (q * i + w)) x q) x k
  | 0 => rfl
  | k + 1 => by
    rw [Nat.mul_succ, it_app, it_nest F q x k]
    rfl
theorem it_cg {α : Type} {F G : Nat → α → α} {n : Nat} (h : ∀ i x, i < n → F i x = G i x) (x : α) : it F x n = it G x n := by
  have := it_two (fun (i : Nat) (p q : α) => p = q) F G n (a := x) (b := x) rfl (fun i p q hi hpq => by rw [hpq]; exact h i q hi)
  exact this
def r_cnt (ac : Nat → Int32) (D : Nat) : Int32 := it (fun d x => if b_sh ac d = 0 then x + 1 else x) 0 D
def dsum (f : Nat → Int32) (x : Int64) (n : Nat) : Int64 := it (fun i x => (31 : Int64) * x + Int32.toInt64 (f i)) x n
def dtail (f : Nat → Int64) (x : Int64) (n : Nat) : Int64 := it (fun i x => (31 : Int64) * x + f (i + 1)) x n
section PX1
variable {B s L c k n N D : Nat} {h : XH} {cap flo top eva lim rul lev dry : Int32} {lo : Int64} {rf us : UT} {od ra ac : Nat → Int32} {ap : Int32} {rfm usm : UT} {ram acm sv as : Nat → Int32} {th : Int32} {sd : Int64} {td : Int32} {sp : Nat → Int64} {lf : Int32} {tx : Nat → Int32} {pl nb : Int32}
variable {fu : Nat}
theorem K_look (hS : St (B + 1) h cap flo top eva lim rul (nI k) (nI n) (nI N) (nI D) lev dry lo rf us od ra ac) (hO : Ot B h s sv c L tx) (hM : Mp (B + 113) h cap flo top eva lim rul (nI k) (nI n) (nI N) (nI D) lev dry ap rfm usm ram acm sv as (nI s) th sd td sp lf tx (nI L) pl nb) (hC : CT c k n N D cap flo top eva lev lo ap rf us rfm usm ra ac ram acm) (hs : s ≤ 4) (hL : L ≤ 120) (hX : Oc B h) {α : Type} {v : α} {F : Option α} {G : XH → Option (α × XH)} (hF : F = some v) (hG : ∀ g, Mp (B + 113) g cap flo top eva lim rul (nI k) (nI n) (nI N) (nI D) lev dry ap rfm usm ram acm sv as (nI s) th sd td sp lf tx (nI L) pl nb → G g = some (v, hm (B + 113) g cap flo top eva lim rul (nI k) (nI n) (nI N) (nI D) lev dry ap rfm usm ram acm sv as (nI s) 0 sd td sp lf tx (nI L) pl nb)) : KG B c h F (G h) :=
  ⟨v, _, hF, Mp_is hM, hG h hM, W_after (th' := 0) hX hS hO (CT_c hC) hs hL⟩
theorem st_short' (hS : St (B + 1) h cap flo top eva lim rul (nI k) (nI n) (nI N) (nI D) lev dry lo rf us od ra ac) {d : Nat} (hd : d < 100) : f_X2_isShort h (B + 1) (nI d) = some (b_sh ac d) := st_short hS hd
theorem b_sh_eq (e : ∀ j, j < D * 10 → ac j = acm j) {d : Nat} (hd : d < D) : b_sh ac d = b_sh acm d := by
  unfold b_sh
  rw [e (d * 10 + 7) (by omega)]
theorem K_longest (hS : St (B + 1) h cap flo top eva lim rul (nI k) (nI n) (nI N) (nI D) lev dry lo rf us od ra ac) (hO : Ot B h s sv c L tx) (hM : Mp (B + 113) h cap flo top eva lim rul (nI k) (nI n) (nI N) (nI D) lev dry ap rfm usm ram acm sv as (nI s) th sd td sp lf tx (nI L) pl nb) (hC : CT c k n N D cap flo top eva lev lo ap rf us rfm usm ra ac ram acm) (hs : s ≤ 4) (hL : L ≤ 120) (hX : Oc B h) (hf : 101 < fu) : KG B c h (f_X5_longestShortage fu h B) (f_X6_longestShortage fu h (B + 113)) := by
  have hD : D ≤ 100 := Nat.le_trans hC.1.2.2.2 hC.1.2.2.1
  have e : f_X5_longestShortage fu h B = some (b_long acm D).1 := by
    have e1 : b_long ac D = b_long acm D := it_cg (fun i x hi => by simp only [b_sh_eq hC.2.2.1.2.2.2 hi]) (0, 0)
    rw [← e1]
    unfold f_X5_longestShortage
    rw [xloop_E (fun i (x : Int32 × Int32) => (x.1, x.2, nI i)) (fun d x => (xmax x.1 (if b_sh ac d = 0 then 0 else x.2 + 1), if b_sh ac d = 0 then 0 else x.2 + 1)) (fun x => x.1) D (0, 0) ?h0 ?hs ?he ?hf]
    · rfl
    case h0 => rfl
    case hf => omega
    case hs =>
      intro i x hi
      have hle : ¬ nI D ≤ nI i := nI_ge hi (by omega)
      simp only [xf3, rt_0 hO.1, st_dn hS, Option.bind_some, if_neg hle, st_is hS, st_short' hS (show i < 100 by omega), obind1_some, obind1_ite, olet, xnI_s]
    case he =>
      intro x
      simp only [xf3, rt_0 hO.1, st_dn hS, Option.bind_some, Int32.le_refl, if_true]
  exact K_look hS hO hM hC hs hL hX (G := fun g => f_X6_longestShortage fu g (B + 113)) e (fun g hg => by
    show f_X6_longestShortage fu g (B + 113) = _
    conv => lhs; rw [Mp_eq hg]
    exact p_X6_longestShortage hD hf)
theorem r_cnt_n (ac : Nat → Int32) : ∀ D, ∃ m, m ≤ D ∧ r_cnt ac D = nI m
  | 0 => ⟨0, Nat.le_refl _, rfl⟩
  | D + 1 => by
    obtain ⟨m, h1, h2⟩ := r_cnt_n ac D
    show ∃ m', m' ≤ D + 1 ∧ (if b_sh ac D = 0 then r_cnt ac D + 1 else r_cnt ac D) = nI m'
    by_cases e : b_sh ac D = 0
    · rw [if_pos e, h2, xnI_s]; exact ⟨m + 1, by omega, rfl⟩
    · rw [if_neg e, h2]; exact ⟨m, by omega, rfl⟩
theorem mg_rel (hD : D ≤ 100) (hf : 101 < fu) {v : UInt64} (hv : (if nI D = (0 : Int32) then some xd1 else xdiv (FP.i2d (r_cnt acm D)) (FP.i2d (nI D))) = some v) {W : XH} : f_X6_reliability fu (hm (B + 113) W cap flo top eva lim rul (nI k) (nI n) (nI N) (nI D) lev dry ap rfm usm ram acm sv as (nI s) th sd td sp lf tx (nI L) pl nb) (B + 113) = some (v, hm (B + 113) W cap flo top eva lim rul (nI k) (nI n) (nI N) (nI D) lev dry ap rfm usm ram acm sv as (nI s) 0 sd td sp lf tx (nI L) pl nb) := by
  unfold f_X6_reliability
  rw [sm_th, Option.bind_some]
  rw [xloop_E (fun i (x : Int32) => (x, nI i)) (fun d x => if b_sh acm d = 0 then x + 1 else x) (fun x => x) D 0 ?h0 ?hs ?he ?hf]
  · simp only [obind1_some, gm_r1, gm_dn, Option.bind_some]
    have e : it (fun d x => if b_sh acm d = 0 then x + 1 else x) 0 D = r_cnt acm D := rfl
    rw [e]
    by_cases c0 : nI D = (0 : Int32)
    · rw [if_pos c0] at hv ⊢
      rw [hv]; rfl
    · rw [if_neg c0] at hv ⊢
      rw [hv]; rfl
  case h0 => rfl
  case hf => omega
  case hs =>
    intro i x hi
    have hle : ¬ nI D ≤ nI i := nI_ge hi (by omega)
    simp only [xf2, gm_r1, gm_dn, gm_is, Option.bind_some, if_neg hle, p_X6_wasShort (show i < 100 by omega), obind1_some, obind1_ite, olet, xnI_s]
    by_cases e : b_sh acm i = 0
    · simp only [if_pos e]
    · simp only [if_neg e, Int32.add_zero]
  case he =>
    intro x
    simp only [xf2, gm_r1, gm_dn, Option.bind_some, Int32.le_refl, if_true]
theorem xdiv_ok : ∀ D, D < 101 → ∀ m, m < 101 → 0 < D → m ≤ D → (xdiv (FP.i2d (nI m)) (FP.i2d (nI D))).isSome = true := by decide +kernel
theorem K_rel (hS : St (B + 1) h cap flo top eva lim rul (nI k) (nI n) (nI N) (nI D) lev dry lo rf us od ra ac) (hO : Ot B h s sv c L tx) (hM : Mp (B + 113) h cap flo top eva lim rul (nI k) (nI n) (nI N) (nI D) lev dry ap rfm usm ram acm sv as (nI s) th sd td sp lf tx (nI L) pl nb) (hC : CT c k n N D cap flo top eva lev lo ap rf us rfm usm ra ac ram acm) (hs : s ≤ 4) (hL : L ≤ 120) (hX : Oc B h) (hf : 101 < fu) : KG B c h (f_X5_reliability fu h B) (f_X6_reliability fu h (B + 113)) := by
  have hD : D ≤ 100 := Nat.le_trans hC.1.2.2.2 hC.1.2.2.1
  obtain ⟨v, hv⟩ : ∃ v, (if nI D = (0 : Int32) then some xd1 else xdiv (FP.i2d (r_cnt acm D)) (FP.i2d (nI D))) = some v := by
    by_cases c0 : nI D = (0 : Int32)
    · rw [if_pos c0]; exact ⟨_, rfl⟩
    · rw [if_neg c0]
      obtain ⟨m, h1, h2⟩ := r_cnt_n acm D
      rw [h2]
      have hD0 : 0 < D := by
        rcases Nat.eq_zero_or_pos D with e | e
        · subst e; exact absurd rfl c0
        · exact e
      exact Option.isSome_iff_exists.mp (xdiv_ok D (by omega) m (by omega) hD0 h1)
  have e1 : r_cnt ac D = r_cnt acm D := it_cg (fun i x hi => by simp only [b_sh_eq hC.2.2.1.2.2.2 hi]) 0
  have e : f_X5_reliability fu h B = some v := by
    unfold f_X5_reliability
    rw [rt_0 hO.1, Option.bind_some, st_dn hS, Option.bind_some]
    by_cases c0 : nI D = (0 : Int32)
    · rw [if_pos c0] at hv ⊢; exact hv
    · rw [if_neg c0] at hv ⊢
      rw [xloop_E (fun i (x : Int32) => (x, nI i)) (fun d x => if b_sh ac d = 0 then x + 1 else x) (fun x => x) D 0 ?h0 ?hs ?he ?hf]
      · have e2 : it (fun d x => if b_sh ac d = 0 then x + 1 else x) 0 D = r_cnt ac D := rfl
        rw [obind1_some, e2, e1, hv]; rfl
      case h0 => rfl
      case hf => omega
      case hs =>
        intro i x hi
        have hle : ¬ nI D ≤ nI i := nI_ge hi (by omega)
        simp only [xf2, if_neg hle, st_is hS, Option.bind_some, st_short' hS (show i < 100 by omega), obind1_some, obind1_ite, olet, xnI_s]
      case he =>
        intro x
        simp only [xf2, Int32.le_refl, if_true]
  exact K_look hS hO hM hC hs hL hX (G := fun g => f_X6_reliability fu g (B + 113)) e (fun g hg => by
    show f_X6_reliability fu g (B + 113) = _
    conv => lhs; rw [Mp_eq hg]
    exact mg_rel hD hf hv)
end PX1
