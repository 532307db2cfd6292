/-! A call of the law, from its two sides. -/
def KW {α : Type} (cv : α → Int64) (B c : Nat) (F : Option (Int32 × XH)) (G : XH → Option (α × XH)) : Prop := ∃ (code : Int32) (h1 : XH) (w : α) (h2 : XH), F = some (code, h1) ∧ xis h1 (B + 113) 6 = some () ∧ G h1 = some (w, h2) ∧ xis h2 (B + 113) 6 = some () ∧ f_X6_thrown h2 (B + 113) = some code ∧ (code = 0 → xaldL h2 (B + 119) 0 = some (cv w)) ∧ World B h2 (c + 1)
def KV {α : Type} (B c : Nat) (F : Option (α × XH)) (G : XH → Option (α × XH)) : Prop := ∃ (v : α) (h1 h2 : XH), F = some (v, h1) ∧ xis h1 (B + 113) 6 = some () ∧ G h1 = some (v, h2) ∧ World B h2 (c + 1)
section PW2
variable {B s L c k n N D : Nat} {h : XH} {cap flo top eva lim rul lev dry : Int32} {lo : Int64} {rf us : UT} {od ra ac : Nat → Int32} {ap : Int32} {rfm usm : UT} {ram acm sv as : Nat → Int32} {th : Int32} {sd : Int64} {td : Int32} {sp : Nat → Int64} {lf : Int32} {tx : Nat → Int32} {pl nb : Int32}
variable {s' L' k' n' N' D' : Nat} {cap' flo' top' eva' lim' rul' lev' dry' : Int32} {lo' : Int64} {rf' us' : UT} {od' ra' ac' : Nat → Int32} {ap' : Int32} {rfm' usm' : UT} {ram' acm' sv' as' : Nat → Int32} {th' : Int32} {sd' : Int64} {td' : Int32} {sp' : Nat → Int64} {lf' : Int32} {tx' : Nat → Int32} {pl' nb' : Int32}
theorem Mp_is {b : Nat} {cap flo top eva lim rul rc uc rn dn lev dry ap : Int32} {rf us : Nat → Nat → Int32} {ra ac sv as : Nat → Int32} {sm th : Int32} {sd : Int64} {td : Int32} {sp : Nat → Int64} {lf : Int32} {tx : Nat → Int32} {tl pl nb : Int32} {h : XH} (hM : Mp b h cap flo top eva lim rul rc uc rn dn lev dry ap rf us ra ac sv as sm th sd td sp lf tx tl pl nb) : xis h b 6 = some () := by
  rw [Mp_eq hM]; exact gm_is
/-- the model's side, behind whatever the class did -/
theorem W_after {h1 : XH} (hX : Oc B h1) (hS' : St (B + 1) h1 cap' flo' top' eva' lim' rul' (nI k') (nI n') (nI N') (nI D') lev' dry' lo' rf' us' od' ra' ac') (hO' : Ot B h1 s' sv' c L' tx') (hC' : CT (c + 1) k' n' N' D' cap' flo' top' eva' lev' lo' ap' rf' us' rfm' usm' ra' ac' ram' acm') (hs' : s' ≤ 4) (hL' : L' ≤ 120) : World B (hm (B + 113) h1 cap' flo' top' eva' lim' rul' (nI k') (nI n') (nI N') (nI D') lev' dry' ap' rfm' usm' ram' acm' sv' as' (nI s') th' sd' td' sp' lf' tx' (nI L') pl' nb') (c + 1) := by
  obtain ⟨f, hf⟩ := hX
  refine W_mk (St_fr hS' (fun q h1 h2 => hm_out (by omega))) (Ot_fr (Ot_c hO') (fun q h1 h2 _ => hm_out (by omega))) Mp_hm hC' hs' hL' ⟨f, (hm_out (by omega)).trans hf⟩
theorem K_ret {α : Type} {cv : α → Int64} {v : α} {h1 : XH} {G : XH → Option (α × XH)} (hM : Mp (B + 113) h cap flo top eva lim rul (nI k) (nI n) (nI N) (nI D) lev dry ap rfm usm ram acm sv as (nI s) th sd td sp lf tx (nI L) pl nb) (hX : Oc B h) (hS' : St (B + 1) h1 cap' flo' top' eva' lim' rul' (nI k') (nI n') (nI N') (nI D') lev' dry' lo' rf' us' od' ra' ac') (hO' : Ot B h1 s' sv' c L' tx') (hF : ∀ q, ¬ (B ≤ q ∧ q < B + 113) → h1 q = h q) (hC' : CT (c + 1) k' n' N' D' cap' flo' top' eva' lev' lo' ap' rf' us' rfm' usm' ra' ac' ram' acm') (hs' : s' ≤ 4) (hL' : L' ≤ 120)
    (hG : ∀ g, Mp (B + 113) g cap flo top eva lim rul (nI k) (nI n) (nI N) (nI D) lev dry ap rfm usm ram acm sv as (nI s) th sd td sp lf tx (nI L) pl nb → G g = some (v, hm (B + 113) g cap' flo' top' eva' lim' rul' (nI k') (nI n') (nI N') (nI D') lev' dry' ap' rfm' usm' ram' acm' sv' as' (nI s') 0 sd' td' sp' lf' tx' (nI L') pl' nb')) : KW cv B c ((xastL h1 (B + 119) 0 (cv v)).bind fun h2 => some (0, h2)) G := by
  obtain ⟨f, hf⟩ := hX
  have e1 : h1 (B + 119) = some (.inl (2, 1, .inr (.inl f))) := (hF _ (by omega)).trans hf
  have e2 : xastL h1 (B + 119) 0 (cv v) = some (xup h1 (B + 119) (some (.inl (2, 1, .inr (.inl (xup f 0 (cv v))))))) := by
    have hx : xin (0 : Int32) 1 = true := by decide
    have h0 : (0 : Int32).toNatClampNeg = 0 := rfl
    simp [xastL, e1, hx, h0]
  have hM2 : Mp (B + 113) (xup h1 (B + 119) (some (.inl (2, 1, .inr (.inl (xup f 0 (cv v))))))) cap flo top eva lim rul (nI k) (nI n) (nI N) (nI D) lev dry ap rfm usm ram acm sv as (nI s) th sd td sp lf tx (nI L) pl nb := Mp_fr hM (fun q g1 g2 => by rw [xup_ne _ _ (by omega)]; exact hF q (by omega))
  have hW : World B (hm (B + 113) (xup h1 (B + 119) (some (.inl (2, 1, .inr (.inl (xup f 0 (cv v))))))) cap' flo' top' eva' lim' rul' (nI k') (nI n') (nI N') (nI D') lev' dry' ap' rfm' usm' ram' acm' sv' as' (nI s') 0 sd' td' sp' lf' tx' (nI L') pl' nb') (c + 1) :=
    W_after (th' := 0) ⟨_, xup_self _ _ _⟩ (St_fr hS' (fun q h1 h2 => xup_ne _ _ (by omega))) (Ot_fr hO' (fun q h1 h2 _ => xup_ne _ _ (by omega))) hC' hs' hL'
  refine ⟨0, _, v, _, by rw [e2]; rfl, Mp_is hM2, hG _ hM2, Mp_is Mp_hm, p_X6_thrown, fun _ => ?_, hW⟩
  have hx : xin (0 : Int32) 1 = true := by decide
  have h0 : (0 : Int32).toNatClampNeg = 0 := rfl
  have e3 : ∀ g : XH, g (B + 119) = some (.inl (2, 1, .inr (.inl (xup f 0 (cv v))))) → xaldL g (B + 119) 0 = some (cv v) := fun g hg => by simp [xaldL, hg, hx, h0, xup]
  exact e3 _ ((hm_out (by omega)).trans (xup_self _ _ _))
theorem K_get {α : Type} {cv : α → Int64} {v : α} {G : XH → Option (α × XH)} (hS : St (B + 1) h cap flo top eva lim rul (nI k) (nI n) (nI N) (nI D) lev dry lo rf us od ra ac) (hO : Ot B h s sv c L tx) (hM : Mp (B + 113) h cap flo top eva lim rul (nI k) (nI n) (nI N) (nI D) lev dry ap rfm usm ram acm sv as (nI s) th sd td sp lf tx (nI L) pl nb) (hC : CT c k n N D cap flo top eva lev lo ap rf us rfm usm ra ac ram acm) (hs : s ≤ 4) (hL : L ≤ 120) (hX : Oc B h)
    (hG : ∀ g, Mp (B + 113) g cap flo top eva lim rul (nI k) (nI n) (nI N) (nI D) lev dry ap rfm usm ram acm sv as (nI s) th sd td sp lf tx (nI L) pl nb → G g = some (v, hm (B + 113) g cap flo top eva lim rul (nI k) (nI n) (nI N) (nI D) lev dry ap rfm usm ram acm sv as (nI s) 0 sd td sp lf tx (nI L) pl nb)) : KW cv B c ((xastL h (B + 119) 0 (cv v)).bind fun h2 => some (0, h2)) G :=
  K_ret hM hX hS hO (fun _ _ => rfl) (CT_c hC) hs hL hG
theorem K_thr {α : Type} {cv : α → Int64} {code : Int32} (hc : code ≠ 0) {w : α} {G : XH → Option (α × XH)} (hS : St (B + 1) h cap flo top eva lim rul (nI k) (nI n) (nI N) (nI D) lev dry lo rf us od ra ac) (hO : Ot B h s sv c L tx) (hM : Mp (B + 113) h cap flo top eva lim rul (nI k) (nI n) (nI N) (nI D) lev dry ap rfm usm ram acm sv as (nI s) th sd td sp lf tx (nI L) pl nb) (hC : CT c k n N D cap flo top eva lev lo ap rf us rfm usm ra ac ram acm) (hs : s ≤ 4) (hL : L ≤ 120) (hX : Oc B h)
    (hG : ∀ g, Mp (B + 113) g cap flo top eva lim rul (nI k) (nI n) (nI N) (nI D) lev dry ap rfm usm ram acm sv as (nI s) th sd td sp lf tx (nI L) pl nb → G g = some (w, hm (B + 113) g cap flo top eva lim rul (nI k) (nI n) (nI N) (nI D) lev dry ap rfm usm ram acm sv as (nI s) code sd td sp lf tx (nI L) pl nb)) : KW cv B c (some (code, h)) G :=
  ⟨code, h, w, _, rfl, Mp_is hM, hG _ hM, Mp_is Mp_hm, p_X6_thrown, fun e => absurd e hc, W_after (th' := code) hX hS hO (CT_c hC) hs hL⟩
theorem KV_ret {α : Type} {v : α} {h1 : XH} {G : XH → Option (α × XH)} (hM : Mp (B + 113) h cap flo top eva lim rul (nI k) (nI n) (nI N) (nI D) lev dry ap rfm usm ram acm sv as (nI s) th sd td sp lf tx (nI L) pl nb) (hX : Oc B h) (hS' : St (B + 1) h1 cap' flo' top' eva' lim' rul' (nI k') (nI n') (nI N') (nI D') lev' dry' lo' rf' us' od' ra' ac') (hO' : Ot B h1 s' sv' c L' tx') (hF : ∀ q, ¬ (B ≤ q ∧ q < B + 113) → h1 q = h q) (hC' : CT (c + 1) k' n' N' D' cap' flo' top' eva' lev' lo' ap' rf' us' rfm' usm' ra' ac' ram' acm') (hs' : s' ≤ 4) (hL' : L' ≤ 120)
    (hG : ∀ g, Mp (B + 113) g cap flo top eva lim rul (nI k) (nI n) (nI N) (nI D) lev dry ap rfm usm ram acm sv as (nI s) th sd td sp lf tx (nI L) pl nb → G g = some (v, hm (B + 113) g cap' flo' top' eva' lim' rul' (nI k') (nI n') (nI N') (nI D') lev' dry' ap' rfm' usm' ram' acm' sv' as' (nI s') th' sd' td' sp' lf' tx' (nI L') pl' nb')) : KV B c (some (v, h1)) G := by
  have hM2 : Mp (B + 113) h1 cap flo top eva lim rul (nI k) (nI n) (nI N) (nI D) lev dry ap rfm usm ram acm sv as (nI s) th sd td sp lf tx (nI L) pl nb := Mp_fr hM (fun q g1 g2 => hF q (by omega))
  obtain ⟨f, hf⟩ := hX
  exact ⟨v, h1, _, rfl, Mp_is hM2, hG _ hM2, W_after ⟨f, (hF _ (by omega)).trans hf⟩ hS' hO' hC' hs' hL'⟩
theorem K_lc {α : Type} [DecidableEq Int64] {cv : α → Int64} {B c : Nat} {F : Option (Int32 × XH)} {G : XH → Option (α × XH)} (hK : KW cv B c F G) : ∃ h2, (obind2 F fun v5 h1 => (xis h1 (B + 113) 6).bind fun _ => obind2 (G h1) fun v11 h2 => (xis h2 (B + 113) 6).bind fun _ => obind1 (f_X6_thrown h2 (B + 113)) fun v13 =>
    if v13 = v5 then oletk (some h2) fun k1 => if v5 = (0 : Int32) then (xaldL h2 (B + 119) (0 : Int32)).bind fun v14 => if v14 = cv v11 then k1 else none else k1 else none) = some h2 ∧ World B h2 (c + 1) := by
  obtain ⟨code, h1, w, h2, e1, e2, e3, e4, e5, e6, e7⟩ := hK
  refine ⟨h2, ?_, e7⟩
  simp only [e1, obind2_some, e2, Option.bind_some, e3, e4, e5, obind1_some, if_true, oletk]
  by_cases hc : code = 0
  · rw [if_pos hc, e6 hc, Option.bind_some, if_pos rfl]
  · rw [if_neg hc]
theorem KV_lc {α : Type} [DecidableEq α] {B c : Nat} {F : Option (α × XH)} {G : XH → Option (α × XH)} (hK : KV B c F G) : ∃ h2, (obind2 F fun v2 h1 => (xis h1 (B + 113) 6).bind fun _ => obind2 (G h1) fun v4 h2 => if v2 = v4 then some h2 else none) = some h2 ∧ World B h2 (c + 1) := by
  obtain ⟨v, h1, h2, e1, e2, e3, e7⟩ := hK
  refine ⟨h2, ?_, e7⟩
  simp only [e1, obind2_some, e2, Option.bind_some, e3, if_true]
end PW2
