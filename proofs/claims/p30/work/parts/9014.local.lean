/-! Sharing looks at the users there are, and at no others. -/
def P2 (n : Nat) (x y : Int32 × UT) : Prop := x.1 = y.1 ∧ U4 n x.2 y.2
theorem P2_mk {n : Nat} (a : Int32) {u v : UT} (h : U4 n u v) : P2 n (a, u) (a, v) := ⟨rfl, h⟩
theorem U4_up {n : Nat} {u v : UT} (h : U4 n u v) (i : Nat) {r r' : Nat → Int32} (hr : ∀ j, j < 4 → r j = r' j) : U4 n (xup u i r) (xup v i r') := by
  intro m hm' j hj
  by_cases e : m = i
  · subst e; rw [xup_self, xup_self]; exact hr j hj
  · rw [xup_ne _ _ e, xup_ne _ _ e]; exact h m hm' j hj
theorem xup4 {r r' : Nat → Int32} (h : ∀ j, j < 4 → r j = r' j) (l : Nat) {x y : Int32} (e : x = y) : ∀ j, j < 4 → xup r l x j = xup r' l y j := by
  intro j hj
  subst e
  by_cases c : j = l
  · subst c; rw [xup_self, xup_self]
  · rw [xup_ne _ _ c, xup_ne _ _ c]; exact h j hj
theorem U4_giv {n : Nat} {u v : UT} (h : U4 n u v) {i : Nat} (hi : i < n) (x : Int32) : u_giv u i x = u_giv v i x := by
  unfold u_giv
  rw [h i hi 0 (by decide), h i hi 2 (by decide)]
theorem U4_put {n : Nat} {u v : UT} (h : U4 n u v) {i : Nat} (hi : i < n) (x : Int32) : U4 n (u_put u i x) (u_put v i x) := by
  unfold u_put
  exact U4_up h i (xup4 (h i hi) 2 (by rw [U4_giv h hi, h i hi 2 (by decide)]))
theorem U4_dem {n : Nat} {u v : UT} (h : U4 n u v) : u_dem n u = u_dem n v := isum_eq _ _ _ (fun i hi => h i hi 0 (by decide))
theorem U4_clr2 {n : Nat} {u v : UT} (h : U4 n u v) : U4 n (u_clr2 n u) (u_clr2 n v) := by
  intro i hi j hj
  rw [clr2_row, clr2_row]
  by_cases c : i < n ∧ j = 2
  · rw [if_pos c, if_pos c]
  · rw [if_neg c, if_neg c]; exact h i hi j hj
theorem P2_ord {n : Nat} {o : Nat → Nat} (ho : ∀ i, i < n → o i < n) {x y : Int32 × UT} (h : P2 n x y) : P2 n (u_ord o n x) (u_ord o n y) := by
  unfold u_ord
  refine it_two (fun _ x y => P2 n x y) _ _ n h ?_
  rintro i ⟨a, u⟩ ⟨b, v⟩ hi ⟨h1, h2⟩
  simp only at h1 h2 ⊢
  subst h1
  exact ⟨by simp only [U4_giv h2 (ho i hi)], U4_put h2 (ho i hi) _⟩
theorem P2_prop {n : Nat} (A D : Int32) {x y : Int32 × UT} (h : P2 n x y) : P2 n (u_prop A D n x) (u_prop A D n y) := by
  unfold u_prop
  refine it_two (fun _ x y => P2 n x y) _ _ n h ?_
  rintro i ⟨a, u⟩ ⟨b, v⟩ hi ⟨h1, h2⟩
  simp only at h1 h2 ⊢
  subst h1
  have e : u_prt A D u i = u_prt A D v i := by unfold u_prt; rw [h2 i hi 0 (by decide)]
  exact ⟨by simp only [U4_giv h2 hi, e], by rw [e]; exact U4_put h2 hi _⟩
theorem P2_ones {n : Nat} {x y : Int32 × UT} (h : P2 n x y) : P2 n (u_ones n x) (u_ones n y) := by
  unfold u_ones
  refine it_two (fun _ x y => P2 n x y) _ _ n h ?_
  rintro i ⟨a, u⟩ ⟨b, v⟩ hi ⟨h1, h2⟩
  simp only at h1 h2 ⊢
  subst h1
  by_cases c : a ≤ 0
  · rw [if_pos c, if_pos c]; exact ⟨rfl, h2⟩
  · rw [if_neg c, if_neg c]; exact ⟨by simp only [U4_giv h2 hi], U4_put h2 hi _⟩
theorem U4_por {n : Nat} {u v : UT} (h : U4 n u v) : u_por n u = u_por n v := by
  unfold u_por
  exact it_cg (fun i a hi => by rw [h i hi 0 (by decide), h i hi 1 (by decide), h i hi 2 (by decide)]) 0
theorem P2_rnds {n : Nat} (k : Int32) {u v : UT} (h : U4 n u v) : P2 n (u_rnds k n u) (u_rnds k n v) := by
  unfold u_rnds
  refine it_two (fun _ x y => P2 n x y) _ _ n ⟨rfl, h⟩ ?_
  rintro i ⟨a, u⟩ ⟨b, v⟩ hi ⟨h1, h2⟩
  simp only at h1 h2 ⊢
  subst h1
  rw [h2 i hi 1 (by decide)]
  exact ⟨by simp only [U4_giv h2 hi], U4_put h2 hi _⟩
theorem P2_rnd {n : Nat} {x y : Int32 × UT} (h : P2 n x y) : P2 n (u_rnd n x) (u_rnd n y) := by
  unfold u_rnd
  refine it_two (fun _ x y => P2 n x y) _ _ n h ?_
  rintro i ⟨a, u⟩ ⟨b, v⟩ hi ⟨h1, h2⟩
  simp only at h1 h2 ⊢
  subst h1
  rw [h2 i hi 1 (by decide)]
  exact ⟨by simp only [U4_giv h2 hi], U4_put h2 hi _⟩
theorem P2_pass {n : Nat} {x y : Int32 × UT} (h : P2 n x y) : P2 n (u_pass n x) (u_pass n y) := by
  unfold u_pass
  have e : u_full n x.2 x.1 = u_full n y.2 y.1 := by unfold u_full; rw [U4_por h.2, h.1]
  have k := P2_rnds (u_full n y.2 y.1) h.2
  rw [e]
  exact P2_rnd ⟨by simp only [h.1, k.1], k.2⟩
theorem P2_wts {n : Nat} {x y : Int32 × UT} (h : P2 n x y) : P2 n (u_wts n x) (u_wts n y) := by
  unfold u_wts
  refine it_two (fun _ x y => P2 n x y) _ _ (n + 1) h ?_
  intro i x y hi hxy
  rw [hxy.1]
  by_cases c : y.1 ≤ 0
  · rw [if_pos c, if_pos c]; exact hxy
  · rw [if_neg c, if_neg c]; exact P2_pass hxy
theorem P2_got {n : Nat} {u v : UT} (h : U4 n u v) : P2 n (u_got n u) (u_got n v) := by
  unfold u_got
  refine it_two (fun _ x y => P2 n x y) _ _ n ⟨rfl, h⟩ ?_
  rintro i ⟨a, u⟩ ⟨b, v⟩ hi ⟨h1, h2⟩
  simp only at h1 h2 ⊢
  subst h1
  exact ⟨by simp only [h2 i hi 2 (by decide)], U4_up h2 i (xup4 (h2 i hi) 3 (by rw [h2 i hi 2 (by decide), h2 i hi 3 (by decide)]))⟩
theorem z_ord_cg {d d' : Nat → Int32} {n : Nat} {s : Nat → Nat} (e : ∀ i, i < n → d i = d' i) (h : z_ord d n s) : z_ord d' n s := by
  refine ⟨h.1, fun a b hab hb => ?_, h.2.2⟩
  have := h.2.1 a b hab hb
  unfold z_lt at this ⊢
  rw [← e _ (h.1 a (by omega)), ← e _ (h.1 b hb)]
  exact this
theorem U4_share {n : Nat} (hn : n ≤ 5) (rul A D : Int32) (od : Nat → Int32) {u v : UT} (h : U4 n u v) : U4 n (u_share rul A D n od u) (u_share rul A D n od v) := by
  unfold u_share
  by_cases c0 : rul = 0
  · rw [if_pos c0, if_pos c0]; exact (P2_ones (P2_prop A D (P2_mk A h))).2
  · rw [if_neg c0, if_neg c0]
    by_cases c1 : rul = 1
    · rw [if_pos c1, if_pos c1]; exact (P2_ord (fun i hi => hi) (P2_mk A h)).2
    · rw [if_neg c1, if_neg c1]
      by_cases c2 : rul = 2
      · rw [if_pos c2, if_pos c2]; exact (P2_wts (P2_mk A h)).2
      · rw [if_neg c2, if_neg c2]
        have o1 := u_srt_ord (fun i => u i 0) n hn od
        have o2 := u_srt_ord (fun i => v i 0) n hn od
        have o3 := z_ord_cg (d' := fun i => v i 0) (fun i hi => h i hi 0 (by decide)) o1
        rw [u_ord_congr (z_uniq o3 o2)]
        exact (P2_ord o2.1 (P2_mk A h)).2
theorem P2_hand {n : Nat} (hn : n ≤ 5) (A rul : Int32) (od : Nat → Int32) {u v : UT} (h : U4 n u v) : P2 n (u_hand A rul n od u) (u_hand A rul n od v) := by
  unfold u_hand
  have hc := U4_clr2 h
  rw [U4_dem hc]
  by_cases c : A < u_dem n (u_clr2 n v)
  · rw [if_pos c, if_pos c]; exact P2_got (U4_share hn _ _ _ _ hc)
  · rw [if_neg c, if_neg c]; exact P2_got (P2_ord (fun i hi => hi) (P2_mk _ hc)).2
section PX7
variable {cap flo top eva rul lev inf : Int32} {n : Nat} {od : Nat → Int32} {u v : UT}
theorem L_hand (hn : n ≤ 5) (h : U4 n u v) : P2 n (s_hand cap flo eva rul lev inf n od u) (s_hand cap flo eva rul lev inf n od v) := P2_hand hn _ _ _ h
theorem L_lev4 (hn : n ≤ 5) (h : U4 n u v) : s_lev4 cap flo eva rul lev inf n od u = s_lev4 cap flo eva rul lev inf n od v := by unfold s_lev4; rw [(L_hand hn h).1]
theorem L_mains (hn : n ≤ 5) (h : U4 n u v) : s_mains cap flo top eva rul lev inf n od u = s_mains cap flo top eva rul lev inf n od v := by unfold s_mains; rw [L_lev4 hn h]
theorem L_lev5 (hn : n ≤ 5) (h : U4 n u v) : s_lev5 cap flo top eva rul lev inf n od u = s_lev5 cap flo top eva rul lev inf n od v := by unfold s_lev5; rw [L_lev4 hn h, L_mains hn h]
theorem L_lack (hn : n ≤ 5) (h : U4 n u v) : s_lack cap flo eva rul lev inf n od u = s_lack cap flo eva rul lev inf n od v := by unfold s_lack; rw [(L_hand hn h).1, U4_dem (L_hand hn h).2]
end PX7
theorem it_tS {cap flo top eva rul : Int32} {n : Nat} {inf inf' : Nat → Int32} {u v : UT} (hn : n ≤ 5) (h : U4 n u v) {d : Nat} (e : ∀ i, i < d → inf i = inf' i) :
    (t_S cap flo top eva rul n inf u d).1 = (t_S cap flo top eva rul n inf' v d).1 ∧ U4 n (t_S cap flo top eva rul n inf u d).2.1 (t_S cap flo top eva rul n inf' v d).2.1 ∧ (t_S cap flo top eva rul n inf u d).2.2 = (t_S cap flo top eva rul n inf' v d).2.2 := by
  unfold t_S
  refine it_two (fun _ (x y : Int32 × UT × Int32) => x.1 = y.1 ∧ U4 n x.2.1 y.2.1 ∧ x.2.2 = y.2.2) _ _ d ⟨rfl, h, rfl⟩ ?_
  rintro i ⟨a, u, p⟩ ⟨b, v, q⟩ hi ⟨h1, h2, h3⟩
  simp only at h1 h2 h3 ⊢
  subst h1 h3
  rw [e i hi]
  exact ⟨L_lev5 hn h2, (L_hand hn h2).2, by rw [U4_dem h2]⟩
theorem it_tC {k : Nat} {lim : Int32} {ra ra' : Nat → Int32} {rf0 : UT} {d : Nat} (e : ∀ i, i < d → ra i = ra' i) : t_C k lim ra rf0 d = t_C k lim ra' rf0 d := it_cg (fun i x hi => by rw [e i hi]) (0, rf0)
theorem it_tinf {k : Nat} {lim : Int32} {ra ra' : Nat → Int32} {rf0 : UT} {N : Nat} (e : ∀ i, i < N → ra i = ra' i) {d : Nat} (hd : d < N) : t_inf k lim ra rf0 d = t_inf k lim ra' rf0 d := by
  unfold t_inf
  rw [it_tC (fun i hi => e i (by omega)), e d hd]

