/-! The model's sharing: what one gives to a user, and the passes over all. -/
def m_g (us : UT) (u : Nat) (much lf : Int32) : Int32 :=
  if lf ≤ (if us u 0 - us u 2 ≤ much then us u 0 - us u 2 else much) then lf else (if us u 0 - us u 2 ≤ much then us u 0 - us u 2 else much)
def m_giv (x : Int32 × UT) (u : Nat) (much : Int32) : Int32 × UT := (x.1 - m_g x.2 u much x.1, xup x.2 u (xup (x.2 u) 2 (x.2 u 2 + m_g x.2 u much x.1)))
def m_pass (mu : UT → Nat → Int32) (n : Nat) (x : Int32 × UT) : Int32 × UT := it (fun i x => m_giv x i (mu x.2 i)) x n
section PS4
variable {b : Nat} {W : XH} {cap flo top eva lim rul rc uc rn dn lev dry ap : Int32} {rf us : Nat → Nat → Int32} {ra ac sv as : Nat → Int32} {sm th : Int32} {sd : Int64} {td : Int32} {sp : Nat → Int64} {lf : Int32} {tx : Nat → Int32} {tl pl nb : Int32}
variable {fu n : Nat}
theorem p_X6_gives {u : Nat} (hu : u < 5) (much : Int32) : f_X6_gives (hm b W cap flo top eva lim rul rc uc rn dn lev dry ap rf us ra ac sv as sm th sd td sp lf tx tl pl nb) b (nI u) much = some (hm b W cap flo top eva lim rul rc uc rn dn lev dry ap rf (m_giv (lf, us) u much).2 ra ac sv as sm th sd td sp (m_giv (lf, us) u much).1 tx tl pl nb) := by
  simp only [f_X6_gives, gm_is, Option.bind_some, ous_0 hu, ous_2 hu, obind1_some, olet, obind1_ite, gm_lf, gm_r1, mu_2, gm_us hu (show 2 < 4 by decide), tm_us hu (show 2 < 4 by decide), sm_lf]
  rfl
theorem p_X6_demands (hn : n ≤ 5) (hf : 5 < fu) : f_X6_demands fu (hm b W cap flo top eva lim rul rc (nI n) rn dn lev dry ap rf us ra ac sv as sm th sd td sp lf tx tl pl nb) b = some (u_dem n us) := by
  unfold f_X6_demands
  rw [xloop_E (fun i (x : Int32) => (x, nI i)) (fun i x => x + us i 0) (fun x => x) n 0 ?h0 ?hs ?he ?hf]
  · exact congrArg some (isum_it (fun i => us i 0) n)
  case h0 => rfl
  case hf => omega
  case hs =>
    intro i u hi
    have h5 : i < 5 := by omega
    have h3 : (nI i).toNatClampNeg = i := xnI_nat (by omega)
    have hle : ¬ nI n ≤ nI i := nI_ge hi (by omega)
    have hx := xin_nI h5 (show 5 < 2147483648 by decide)
    simp only [xf2, gm_r1, gm_uc, Option.bind_some, if_neg hle, gm_is, ous_0 h5, obind1_some, olet, xnI_s]
  case he =>
    intro u
    simp only [xf2, gm_r1, gm_uc, Option.bind_some, Int32.le_refl, if_true]
/-- a pass, as the loop of a method writes it -/
theorem m_pass_E (hn : n ≤ 5) (hf : 5 < fu) (mu : UT → Nat → Int32) (x : Int32 × UT) {body : Int32 × XH → Option ((Int32 × XH) ⊕ XH)}
    (hs : ∀ i (y : Int32 × UT), i < n → i < 5 → ¬ nI n ≤ nI i → body (nI i, hm b W cap flo top eva lim rul rc (nI n) rn dn lev dry ap rf y.2 ra ac sv as sm th sd td sp y.1 tx tl pl nb) = some (.inl (nI (i + 1), hm b W cap flo top eva lim rul rc (nI n) rn dn lev dry ap rf (m_giv y i (mu y.2 i)).2 ra ac sv as sm th sd td sp (m_giv y i (mu y.2 i)).1 tx tl pl nb)))
    (he : ∀ (y : Int32 × UT), body (nI n, hm b W cap flo top eva lim rul rc (nI n) rn dn lev dry ap rf y.2 ra ac sv as sm th sd td sp y.1 tx tl pl nb) = some (.inr (hm b W cap flo top eva lim rul rc (nI n) rn dn lev dry ap rf y.2 ra ac sv as sm th sd td sp y.1 tx tl pl nb))) :
    xloop body fu ((0 : Int32), hm b W cap flo top eva lim rul rc (nI n) rn dn lev dry ap rf x.2 ra ac sv as sm th sd td sp x.1 tx tl pl nb) = some (hm b W cap flo top eva lim rul rc (nI n) rn dn lev dry ap rf (m_pass mu n x).2 ra ac sv as sm th sd td sp (m_pass mu n x).1 tx tl pl nb) := by
  rw [xloop_E (fun i (y : Int32 × UT) => (nI i, hm b W cap flo top eva lim rul rc (nI n) rn dn lev dry ap rf y.2 ra ac sv as sm th sd td sp y.1 tx tl pl nb)) (fun i y => m_giv y i (mu y.2 i)) (fun y => hm b W cap flo top eva lim rul rc (nI n) rn dn lev dry ap rf y.2 ra ac sv as sm th sd td sp y.1 tx tl pl nb) n x ?h0 ?hs ?he ?hf]
  · rfl
  case h0 => rfl
  case hf => omega
  case hs =>
    intro i u hi
    exact hs i u hi (by omega) (nI_ge hi (by omega))
  case he => exact he
/-- passes until nothing is left -/
theorem m_more (mu : UT → Nat → Int32) (x : Int32 × UT) (m : Nat) (hmf : m < fu) {body : XH → Option (XH ⊕ XH)}
    (h1 : ∀ j, j < m → 0 < (it (fun _ y => m_pass mu n y) x j).1) (h2 : (it (fun _ y => m_pass mu n y) x m).1 ≤ 0)
    (hs : ∀ (y : Int32 × UT), 0 < y.1 → body (hm b W cap flo top eva lim rul rc (nI n) rn dn lev dry ap rf y.2 ra ac sv as sm th sd td sp y.1 tx tl pl nb) = some (.inl (hm b W cap flo top eva lim rul rc (nI n) rn dn lev dry ap rf (m_pass mu n y).2 ra ac sv as sm th sd td sp (m_pass mu n y).1 tx tl pl nb)))
    (he : ∀ (y : Int32 × UT), y.1 ≤ 0 → body (hm b W cap flo top eva lim rul rc (nI n) rn dn lev dry ap rf y.2 ra ac sv as sm th sd td sp y.1 tx tl pl nb) = some (.inr (hm b W cap flo top eva lim rul rc (nI n) rn dn lev dry ap rf y.2 ra ac sv as sm th sd td sp y.1 tx tl pl nb))) :
    xloop body fu (hm b W cap flo top eva lim rul rc (nI n) rn dn lev dry ap rf x.2 ra ac sv as sm th sd td sp x.1 tx tl pl nb) = some (hm b W cap flo top eva lim rul rc (nI n) rn dn lev dry ap rf (it (fun _ y => m_pass mu n y) x m).2 ra ac sv as sm th sd td sp (it (fun _ y => m_pass mu n y) x m).1 tx tl pl nb) :=
  xloop_run (body := body) (fun i => hm b W cap flo top eva lim rul rc (nI n) rn dn lev dry ap rf (it (fun _ y => m_pass mu n y) x i).2 ra ac sv as sm th sd td sp (it (fun _ y => m_pass mu n y) x i).1 tx tl pl nb) m 0 fu (fun i _ hi => hs _ (h1 i (by omega))) (by rw [Nat.zero_add]; exact he _ h2) hmf
theorem p_X6_byOrder (hn : n ≤ 5) (hf : 5 < fu) : f_X6_byOrder fu (hm b W cap flo top eva lim rul rc (nI n) rn dn lev dry ap rf us ra ac sv as sm th sd td sp lf tx tl pl nb) b = some (hm b W cap flo top eva lim rul rc (nI n) rn dn lev dry ap rf (m_pass (fun us i => us i 0) n (lf, us)).2 ra ac sv as sm th sd td sp (m_pass (fun us i => us i 0) n (lf, us)).1 tx tl pl nb) := by
  unfold f_X6_byOrder
  rw [m_pass_E hn hf (fun us i => us i 0) (lf, us) ?hs ?he]
  · rfl
  case hs =>
    intro i y hi h5 hle
    simp only [xf2, gm_r1, gm_uc, Option.bind_some, if_neg hle, gm_is, ous_0 h5, obind1_some, p_X6_gives h5, olet, xnI_s]
  case he =>
    intro y
    simp only [xf2, gm_r1, gm_uc, Option.bind_some, Int32.le_refl, if_true]
theorem p_X6_byWeights (hn : n ≤ 5) (hf : 5 < fu) (m : Nat) (hmf : m < fu)
    (h1 : ∀ j, j < m → 0 < (it (fun _ y => m_pass (fun us i => 10 * us i 1) n y) (lf, us) j).1) (h2 : (it (fun _ y => m_pass (fun us i => 10 * us i 1) n y) (lf, us) m).1 ≤ 0) :
    f_X6_byWeights fu (hm b W cap flo top eva lim rul rc (nI n) rn dn lev dry ap rf us ra ac sv as sm th sd td sp lf tx tl pl nb) b = some (hm b W cap flo top eva lim rul rc (nI n) rn dn lev dry ap rf (it (fun _ y => m_pass (fun us i => 10 * us i 1) n y) (lf, us) m).2 ra ac sv as sm th sd td sp (it (fun _ y => m_pass (fun us i => 10 * us i 1) n y) (lf, us) m).1 tx tl pl nb) := by
  unfold f_X6_byWeights
  rw [m_more (fun us i => 10 * us i 1) (lf, us) m hmf h1 h2 ?hs ?he]
  · rfl
  case hs =>
    intro y hy
    simp only [xf1, gm_lf, Option.bind_some, if_neg (Int32.not_le.mpr hy)]
    rw [m_pass_E hn hf (fun us i => 10 * us i 1) y ?ks ?ke]
    · rfl
    case ks =>
      intro i y hi h5 hle
      simp only [xf2, gm_r1, gm_uc, Option.bind_some, if_neg hle, gm_is, ous_1 h5, obind1_some, p_X6_gives h5, olet, xnI_s]
    case ke =>
      intro y
      simp only [xf2, gm_r1, gm_uc, Option.bind_some, Int32.le_refl, if_true]
  case he =>
    intro y hy
    simp only [xf1, gm_lf, Option.bind_some, if_pos hy]
def m_prt (w d : Int32) (us : UT) (i : Nat) : Int32 := Int64.toInt32 ((Int32.toInt64 (us i 0) * Int32.toInt64 w) / Int32.toInt64 d)
theorem p_X6_inProportion (hn : n ≤ 5) (hf : 5 < fu) (w d : Int32) (hd : xnzL (Int32.toInt64 d) = some ()) (m : Nat) (hmf : m < fu)
    (h1 : ∀ j, j < m → 0 < (it (fun _ y => m_pass (fun _ _ => 1) n y) (m_pass (m_prt w d) n (lf, us)) j).1) (h2 : (it (fun _ y => m_pass (fun _ _ => 1) n y) (m_pass (m_prt w d) n (lf, us)) m).1 ≤ 0) :
    f_X6_inProportion fu (hm b W cap flo top eva lim rul rc (nI n) rn dn lev dry ap rf us ra ac sv as sm th sd td sp lf tx tl pl nb) b w d = some (hm b W cap flo top eva lim rul rc (nI n) rn dn lev dry ap rf (it (fun _ y => m_pass (fun _ _ => 1) n y) (m_pass (m_prt w d) n (lf, us)) m).2 ra ac sv as sm th sd td sp (it (fun _ y => m_pass (fun _ _ => 1) n y) (m_pass (m_prt w d) n (lf, us)) m).1 tx tl pl nb) := by
  unfold f_X6_inProportion
  rw [m_pass_E hn hf (m_prt w d) (lf, us) ?hs ?he]
  · rw [obind1_some, m_more (fun _ _ => 1) (m_pass (m_prt w d) n (lf, us)) m hmf h1 h2 ?gs ?ge]
    · rfl
    case gs =>
      intro y hy
      simp only [xf1, gm_lf, Option.bind_some, if_neg (Int32.not_le.mpr hy)]
      rw [m_pass_E hn hf (fun _ _ => 1) y ?ks ?ke]
      · rfl
      case ks =>
        intro i y hi h5 hle
        simp only [xf2, gm_r1, gm_uc, Option.bind_some, if_neg hle, gm_is, obind1_some, p_X6_gives h5, olet, xnI_s]
      case ke =>
        intro y
        simp only [xf2, gm_r1, gm_uc, Option.bind_some, Int32.le_refl, if_true]
    case ge =>
      intro y hy
      simp only [xf1, gm_lf, Option.bind_some, if_pos hy]
  case hs =>
    intro i y hi h5 hle
    simp only [xf2, gm_r1, gm_uc, Option.bind_some, if_neg hle, gm_is, ous_0 h5, obind1_some, hd, p_X6_gives h5, olet, xnI_s]
    rfl
  case he =>
    intro y
    simp only [xf2, gm_r1, gm_uc, Option.bind_some, Int32.le_refl, if_true]
end PS4
