/-! The law from its entry: the tables, the two objects, the loop. -/
theorem xK_start {args : Array Value} {s : State} (hts : ∀ w ∈ lw_tbl, w.before args s = true) : ∃ G : XG, xK G s := by
  obtain ⟨c0, i0, k0⟩ := u_known (C := RX0) (T := TX0) (N := 6) (n := 6) hts inX0 (hts (.instantiable RX0 6) (by decide +kernel))
  obtain ⟨c1, i1, k1⟩ := u_known (C := RX1) (T := TX1) (N := 6) (n := 6) hts inX1 (hts (.instantiable RX1 6) (by decide +kernel))
  obtain ⟨c2, i2, k2⟩ := u_known (C := RX2) (T := TX2) (N := 16) (n := 16) hts inX2 (hts (.instantiable RX2 16) (by decide +kernel))
  obtain ⟨c3, i3, k3⟩ := u_known (C := RX3) (T := TX3) (N := 4) (n := 4) hts inX3 (hts (.instantiable RX3 4) (by decide +kernel))
  obtain ⟨c4, i4, k4⟩ := u_known (C := RX4) (T := TX4) (N := 3) (n := 3) hts inX4 (hts (.instantiable RX4 3) (by decide +kernel))
  obtain ⟨c5, i5, k5⟩ := u_known (C := RX5) (T := TX5) (N := 5) (n := 5) hts inX5 (hts (.instantiable RX5 5) (by decide +kernel))
  obtain ⟨c6, i6, k6⟩ := u_known (C := RX6) (T := TX6) (N := 13) (n := 13) hts inX6 (hts (.instantiable RX6 13) (by decide +kernel))
  obtain ⟨a0, ka0, m0, f0, g0, h0⟩ := Cond.arrayClass_spec (hts (.arrayClass .int) (by decide +kernel))
  obtain ⟨a1, ka1, m1, f1, g1, h1⟩ := Cond.arrayClass_spec (hts (.arrayClass .byte) (by decide +kernel))
  obtain ⟨a2, ka2, m2, f2, g2, h2⟩ := Cond.arrayClass_spec (hts (.arrayClass .long) (by decide +kernel))
  obtain ⟨m3, a3, ka3, p3, -, g3, h3, f3⟩ := Cond.arrayOver_spec (hts (.arrayOver (.object RX1)) (by decide +kernel))
  obtain ⟨m4, a4, ka4, p4, -, g4, h4, f4⟩ := Cond.arrayOver_spec (hts (.arrayOver (.object RX2)) (by decide +kernel))
  obtain ⟨m5, a5, ka5, p5, -, g5, h5, f5⟩ := Cond.arrayOver_spec (hts (.arrayOver (.object RX3)) (by decide +kernel))
  refine ⟨((fun k => match k with | 0 => c0 | 1 => c1 | 2 => c2 | 3 => c3 | 4 => c4 | 5 => c5 | _ => c6, fun k => match k with | 0 => i0 | 1 => i1 | 2 => i2 | 3 => i3 | 4 => i4 | 5 => i5 | _ => i6), fun k => match k with | 0 => a0 | 1 => a1 | 2 => a2 | 3 => a3 | 4 => a4 | _ => a5), fun k q hq => ?_, fun k q hq => ?_⟩
  · match k, hq with
    | 0, hq => cases hq; exact k0
    | 1, hq => cases hq; exact k1
    | 2, hq => cases hq; exact k2
    | 3, hq => cases hq; exact k3
    | 4, hq => cases hq; exact k4
    | 5, hq => cases hq; exact k5
    | 6, hq => cases hq; exact k6
    | k + 7, hq => simp [vwCl] at hq
  · match k, hq with
    | 0, hq => cases hq; exact ⟨fun n z => ⟨(fun k h => by cases h), ka0, g0, m0, h0⟩, f0⟩
    | 1, hq => cases hq; exact ⟨fun n z => ⟨(fun k h => by cases h), ka1, g1, m1, h1⟩, f1⟩
    | 2, hq => cases hq; exact ⟨fun n z => ⟨(fun k h => by cases h), ka2, g2, m2, h2⟩, f2⟩
    | 3, hq => cases hq; exact ⟨fun n z => ⟨(fun k h => by cases h), ka3, g3, m3, h3⟩, ka3, m3, g3, h3, p3, f3⟩
    | 4, hq => cases hq; exact ⟨fun n z => ⟨(fun k h => by cases h), ka4, g4, m4, h4⟩, ka4, m4, g4, h4, p4, f4⟩
    | 5, hq => cases hq; exact ⟨fun n z => ⟨(fun k h => by cases h), ka5, g5, m5, h5⟩, ka5, m5, g5, h5, p5, f5⟩
    | k + 6, hq => simp [xTy] at hq
theorem xNest_start {args : Array Value} {s : State} (hts : ∀ w ∈ lw_tbl, w.before args s = true) : xNest s :=
  ⟨va_tabs rfl rfl (hts (.methodLinkNest RX2 24 yX1_init RX5) (by decide +kernel)), va_tabs rfl rfl (hts (.methodLinkNest RX4 17 yX3_init RX5) (by decide +kernel)), hts (.arrayOver (.object RX1)) (by decide +kernel), hts (.arrayOver (.object RX2)) (by decide +kernel), hts (.arrayOver (.object RX3)) (by decide +kernel)⟩
theorem xNgs_start {args : Array Value} {s : State} (hts : ∀ w ∈ lw_tbl, w.before args s = true) : xNgs s := fun w hw => va_tabs ((show ∀ w ∈ xNg, w.onTables = true by decide +kernel) w hw) rfl (hts w ((show ∀ w ∈ xNg, w ∈ lw_tbl by decide +kernel) w hw))
theorem xZ_start {b : Nat} {s : State} (hts : ∀ w ∈ lw_tbl, w.before #[Value.ref b] s = true) (hgv : (Jvm.Cond.and given_1 narrow_1).before #[Value.ref b] s = true) : xZ s.heap.size s := by
  have hs := flat_of_before _ hgv
  exact ⟨vx_Zqof (hts (.laysStatic Bundle.tN "UNASSIGNED_STACK" Bundle.steD) (by decide +kernel)) (hts (.initialized Bundle.tN) (by decide +kernel)) (hs (.isRef (.static Bundle.tN "UNASSIGNED_STACK" Bundle.steD)) (by decide +kernel)) (fun a ha => Nat.not_le.mpr ha),
    vx_Zqof (hts (.laysStatic Bundle.tN "SUPPRESSED_SENTINEL" Bundle.listD) (by decide +kernel)) (hts (.initialized Bundle.tN) (by decide +kernel)) (hs (.isRef (.static Bundle.tN "SUPPRESSED_SENTINEL" Bundle.listD)) (by decide +kernel)) (fun a ha => Nat.not_le.mpr ha)⟩
theorem xCas_start {b : Nat} {s : State} (hgv : (Jvm.Cond.and given_1 narrow_1).before #[Value.ref b] s = true) : xCas s := by
  have hs := flat_of_before _ hgv
  exact ⟨va_Nc.of (hs (.not (.castable (xEx 0) (xEx 1))) (by decide +kernel)), va_Nc.of (hs (.not (.castable (xEx 0) (xEx 2))) (by decide +kernel)), va_Nc.of (hs (.not (.castable (xEx 1) (xEx 0))) (by decide +kernel)), va_Nc.of (hs (.not (.castable (xEx 1) (xEx 2))) (by decide +kernel)), va_Nc.of (hs (.not (.castable (xEx 2) (xEx 0))) (by decide +kernel)), va_Nc.of (hs (.not (.castable (xEx 2) (xEx 1))) (by decide +kernel))⟩
theorem xStr_one {b : Nat} {s : State} {k : Nat} {tx : String} (h1 : (Cond.stringRef RX5 k tx).before #[Value.ref b] s = true) (h2 : (Cond.exactly (.string RX5 k) "java/lang/String").before #[Value.ref b] s = true) : ∃ a, vk_R RX5 k tx a s := by
  obtain ⟨a, c, cell, kk, he, -⟩ := Cond.exactly_spec h2
  exact ⟨a, vk_R.of h1 he⟩
theorem xStr_start {b : Nat} {s : State} (hts : ∀ w ∈ lw_tbl, w.before #[Value.ref b] s = true) (hgv : (Jvm.Cond.and given_1 narrow_1).before #[Value.ref b] s = true) : xStr s := by
  have hs := flat_of_before _ hgv
  exact ⟨xStr_one (hts (.stringRef RX5 226 "out of range") (by decide +kernel)) (hs (.exactly (.string RX5 226) "java/lang/String") (by decide +kernel)), xStr_one (hts (.stringRef RX5 41 "no room for another roof") (by decide +kernel)) (hs (.exactly (.string RX5 41) "java/lang/String") (by decide +kernel)), xStr_one (hts (.stringRef RX5 68 "no room for another user") (by decide +kernel)) (hs (.exactly (.string RX5 68) "java/lang/String") (by decide +kernel)), xStr_one (hts (.stringRef RX5 231 "there is no such number") (by decide +kernel)) (hs (.exactly (.string RX5 231) "java/lang/String") (by decide +kernel)), xStr_one (hts (.stringRef RX5 234 "no room for so many days of rain") (by decide +kernel)) (hs (.exactly (.string RX5 234) "java/lang/String") (by decide +kernel)), xStr_one (hts (.stringRef RX5 146 "not so many days of rain are left") (by decide +kernel)) (hs (.exactly (.string RX5 146) "java/lang/String") (by decide +kernel)), xStr_one (hts (.stringRef RX5 192 "the text is full") (by decide +kernel)) (hs (.exactly (.string RX5 192) "java/lang/String") (by decide +kernel)), xStr_one (hts (.stringRef RX5 210 "no state is saved") (by decide +kernel)) (hs (.exactly (.string RX5 210) "java/lang/String") (by decide +kernel)), xNgs_start hts⟩
/-- a round of the law's loop -/
def lstep (fu L : Nat) (xs : Nat → Int32) (x mm o : Nat) (i : Int32) (h : XH) : Option XH :=
  (xsld L xs i).bind fun v =>
  if (v &&& (31 : Int32)) = (0 : Int32) then lc_0 fu L xs x mm o i h else
  if (v &&& (31 : Int32)) = (1 : Int32) then lc_1 fu L xs x mm o i h else
  if (v &&& (31 : Int32)) = (2 : Int32) then lc_2 fu L xs x mm o i h else
  if (v &&& (31 : Int32)) = (3 : Int32) then lc_3 fu L xs x mm o i h else
  if (v &&& (31 : Int32)) = (4 : Int32) then lc_4 fu L xs x mm o i h else
  if (v &&& (31 : Int32)) = (5 : Int32) then lc_5 fu L xs x mm o i h else
  if (v &&& (31 : Int32)) = (6 : Int32) then lc_6 fu L xs x mm o i h else
  if (v &&& (31 : Int32)) = (7 : Int32) then lc_7 fu L xs x mm o i h else
  if (v &&& (31 : Int32)) = (8 : Int32) then lc_8 fu L xs x mm o i h else
  if (v &&& (31 : Int32)) = (9 : Int32) then lc_9 fu L xs x mm o i h else
  if (v &&& (31 : Int32)) = (10 : Int32) then lc_10 fu L xs x mm o i h else
  if (v &&& (31 : Int32)) = (11 : Int32) then lc_11 fu L xs x mm o i h else
  if (v &&& (31 : Int32)) = (12 : Int32) then lc_12 fu L xs x mm o i h else
  if (v &&& (31 : Int32)) = (13 : Int32) then lc_13 fu L xs x mm o i h else
  if (v &&& (31 : Int32)) = (14 : Int32) then lc_14 fu L xs x mm o i h else
  if (v &&& (31 : Int32)) = (15 : Int32) then lc_15 fu L xs x mm o i h else
  if (v &&& (31 : Int32)) = (16 : Int32) then lc_16 fu L xs x mm o i h else
  if (v &&& (31 : Int32)) = (17 : Int32) then lc_17 fu L xs x mm o i h else
  if (v &&& (31 : Int32)) = (18 : Int32) then lc_18 fu L xs x mm o i h else
  if (v &&& (31 : Int32)) = (19 : Int32) then lc_19 fu L xs x mm o i h else
  if (v &&& (31 : Int32)) = (20 : Int32) then lc_20 fu L xs x mm o i h else
  if (v &&& (31 : Int32)) = (21 : Int32) then lc_21 fu L xs x mm o i h else
  if (v &&& (31 : Int32)) = (22 : Int32) then lc_22 fu L xs x mm o i h else
  if (v &&& (31 : Int32)) = (23 : Int32) then lc_23 fu L xs x mm o i h else
  if (v &&& (31 : Int32)) = (24 : Int32) then lc_24 fu L xs x mm o i h else
  if (v &&& (31 : Int32)) = (25 : Int32) then lc_25 fu L xs x mm o i h else
  if (v &&& (31 : Int32)) = (26 : Int32) then lc_26 fu L xs x mm o i h else
  some h
def f_lawloop (fu L : Nat) (xs : Nat → Int32) (x mm o : Nat) : Nat → Int32 → XH → Option Unit
  | 0, _, _ => none
  | n + 1, i, h => if Int32.ofNat L - (5 : Int32) < i then some () else (lstep fu L xs x mm o i h).bind fun h1 => f_lawloop fu L xs x mm o n (i + (5 : Int32)) h1
/-- the two objects and the row for answers -/
def f_law0 (B0 : Nat) : Option XH :=
  obind1 (f_X5_init (xup (fun _ => none) B0 (some (.inr (5, [.null, .null, .null, .int 0, .null])))) B0 (B0 + 1)) fun h2 =>
  obind1 (f_X6_init (xup h2 (B0 + 113) (some (.inr (6, [.null, .null, .null, .int 0, .int 0, .long 0, .int 0, .null, .int 0, .null, .int 0, .int 0, .int 0])))) (B0 + 113) (B0 + 114)) fun h4 =>
  some (xup h4 (B0 + 119) (some (.inl (2, 1, .inr (.inl (fun _ => 0))))))
theorem xnI5 {L : Nat} (hL : L ≤ 2560) {k : Nat} (hk : k ≤ 2560) (h : ¬ Int32.ofNat L - (5 : Int32) < nI k) : k + 5 ≤ L := by
  rw [Int32.lt_iff_toInt_lt] at h
  have e1 : (Int32.ofNat L).toInt = (L : Int) := by rw [Int32.toInt_ofNat_of_lt (by omega)]
  have e2 : (nI k).toInt = (k : Int) := by unfold nI; rw [Int32.toInt_ofNat_of_lt (by omega)]
  rw [Int32.toInt_sub, e1, e2, show ((5 : Int32)).toInt = 5 from rfl, Int.bmod_eq_of_le (by omega) (by omega)] at h
  omega
theorem xnI_add5 (k : Nat) : nI k + (5 : Int32) = nI (k + 5) := by
  unfold nI
  rw [Int32.ofNat_add]
  rfl
set_option maxHeartbeats 4000000 in
set_option maxRecDepth 100000 in
theorem law_loop {p : Program} {l : Launch} {e : Env} {s : State} {m : MethodId} {below : List Frame} {meth : Method} {c : Code} {B0 : Nat} {G : XG} {b L : Nat} {xs : Nat → Int32} {Q : State → Prop} (C0 : xLC p l s m c B0 G b L xs) (hL : L ≤ 2560) (fu x mm o : Nat)
    (K : ∀ (H : Heap) (locs : List Loc) (ls : Array Slot) (cells slots : Nat), cells ≤ 3000 → slots ≤ 30000 → va_S (xA B0) s.heap H locs → W p l e room_1 s m #[Value.ref b] below meth c H locs cells slots Q (F0 m 1541 ls [])) :
    ∀ (n : Nat) (k : Nat) (i : Int32) (h : XH), k ≤ 2560 → i = nI k → f_lawloop fu L xs x mm o n i h = some () → ∀ (H : Heap) (locs : List Loc) (ls : Array Slot), xP B0 G h H → va_S (xA B0) s.heap H locs → lv_has ls 9 [(4, .int i), (0, .ref b), (1, .ref x), (2, .ref mm), (3, .ref o)] → W p l e room_1 s m #[Value.ref b] below meth c H locs (120 + k) (15000 + 2 * k) Q (F0 m 23 ls []) := by
  intro n
  induction n with
  | zero => intro k i h _ _ hf; cases hf
  | succ n ih =>
    intro k i h hk ei hf H locs ls hP hS hl
    have hcs1 : 120 + k + 1 ≤ 601024 := by omega
    have hss1 : 15000 + 2 * k + 6 ≤ 7293033 := by omega
    obtain ⟨hx, hb, hml, hown, hts, hXs, hbl, hbA, hKK, hZ, hX, hC, htr⟩ := id C0
    unfold f_lawloop at hf
    refine lv_iload hx hb dL_law_23 (lv_at hl 0 rfl) ?_
    refine lv_aload_n hx hb dL_law_25 rfl (lv_at hl 1 rfl) ?_
    refine va_slen hx hb hXs hbl hbA hS dL_law_26 ?_
    refine lv_iconst (v := (5 : Int32)) hx hb dL_law_27 (by decide) ?_
    refine lv_isub hx hb dL_law_28 ?_
    refine lv_icmp_gt (tgt := 1541) hx hb dL_law_29 (by decide) (fun c1 => ?_) (fun c1 => ?_)
    · exact K _ _ _ _ _ (by omega) (by omega) hS
    · have hf := xif_f hf c1
      have hk5 : k + 5 ≤ L := xnI5 hL hk (by rw [← ei]; exact c1)
      obtain ⟨h1, es, hf⟩ := xb hf
      unfold lstep at es
      obtain ⟨v, ev, es⟩ := xb es
      have K1 : ∀ (H : Heap) (locs : List Loc) (ls : Array Slot), xP B0 G h1 H → va_S (xA B0) s.heap H locs → lv_has ls 9 [(4, .int i), (0, .ref b), (1, .ref x), (2, .ref mm), (3, .ref o)] → W p l e room_1 s m #[Value.ref b] below meth c H locs (120 + k + 1) (15000 + 2 * k + 6) Q (F0 m 1535 ls []) := by
        intro H locs ls hP hS hl
        obtain ⟨i5, e5⟩ : ∃ z, z = i + (5 : Int32) := ⟨_, rfl⟩
        refine lv_iinc (v := i5) (lv' := [(4, .int i5), (0, .ref b), (1, .ref x), (2, .ref mm), (3, .ref o)]) hx hb dL_law_1535 hl (k := 0) rfl (by rw [e5]; rfl) (by decide) rfl (fun ls hl => ?_)
        refine lv_goto (tgt := 23) hx hb dL_law_1538 (by decide) ?_
        refine W.widen (k := 120 + (k + 5)) (n := 15000 + 2 * (k + 5)) (by omega) (by omega) ?_
        exact ih (k + 5) i5 h1 (by omega) (by rw [e5, ei]; exact xnI_add5 k) (by rw [e5]; exact hf) _ _ _ hP hS hl
      refine lv_aload_n hx hb dL_law_32 rfl (lv_at hl 1 rfl) ?_
      refine lv_iload hx hb dL_law_33 (lv_at hl 0 rfl) ?_
      refine xr_sld hx hb hXs hbl hbA hS ev dL_law_35 ?_
      refine lv_bipush (v := (31 : Int32)) hx hb dL_law_36 (by decide) ?_
      refine lv_iand hx hb dL_law_38 ?_
      by_cases q0 : (v &&& (31 : Int32)) = (0 : Int32)
      · have es := xif_t es q0
        refine lv_tableIn (off := 121) (tgt := 160) hx hb dL_law_39 (by rw [q0]; decide) (by rw [q0]; decide) (by rw [q0]; rfl) (by decide) ?_
        exact lp_0 C0 fu x mm o i h h1 es hcs1 hss1 K1 _ _ _ hP hS hl
      have es := xif_f es q0
      by_cases q1 : (v &&& (31 : Int32)) = (1 : Int32)
      · have es := xif_t es q1
        refine lv_tableIn (off := 213) (tgt := 252) hx hb dL_law_39 (by rw [q1]; decide) (by rw [q1]; decide) (by rw [q1]; rfl) (by decide) ?_
        exact lp_1 C0 fu x mm o i h h1 es hcs1 hss1 K1 _ _ _ hP hS hl
      have es := xif_f es q1
      by_cases q2 : (v &&& (31 : Int32)) = (2 : Int32)
      · have es := xif_t es q2
        refine lv_tableIn (off := 281) (tgt := 320) hx hb dL_law_39 (by rw [q2]; decide) (by rw [q2]; decide) (by rw [q2]; rfl) (by decide) ?_
        exact lp_2 C0 fu x mm o i h h1 es hcs1 hss1 K1 _ _ _ hP hS hl
      have es := xif_f es q2
      by_cases q3 : (v &&& (31 : Int32)) = (3 : Int32)
      · have es := xif_t es q3
        refine lv_tableIn (off := 349) (tgt := 388) hx hb dL_law_39 (by rw [q3]; decide) (by rw [q3]; decide) (by rw [q3]; rfl) (by decide) ?_
        exact lp_3 C0 fu x mm o i h h1 es hcs1 hss1 K1 _ _ _ hP hS hl
      have es := xif_f es q3
      by_cases q4 : (v &&& (31 : Int32)) = (4 : Int32)
      · have es := xif_t es q4
        refine lv_tableIn (off := 429) (tgt := 468) hx hb dL_law_39 (by rw [q4]; decide) (by rw [q4]; decide) (by rw [q4]; rfl) (by decide) ?_
        exact lp_4 C0 fu x mm o i h h1 es hcs1 hss1 K1 _ _ _ hP hS hl
      have es := xif_f es q4
      by_cases q5 : (v &&& (31 : Int32)) = (5 : Int32)
      · have es := xif_t es q5
        refine lv_tableIn (off := 509) (tgt := 548) hx hb dL_law_39 (by rw [q5]; decide) (by rw [q5]; decide) (by rw [q5]; rfl) (by decide) ?_
        exact lp_5 C0 fu x mm o i h h1 es hcs1 hss1 K1 _ _ _ hP hS hl
      have es := xif_f es q5
      by_cases q6 : (v &&& (31 : Int32)) = (6 : Int32)
      · have es := xif_t es q6
        refine lv_tableIn (off := 565) (tgt := 604) hx hb dL_law_39 (by rw [q6]; decide) (by rw [q6]; decide) (by rw [q6]; rfl) (by decide) ?_
        exact lp_6 C0 fu x mm o i h h1 es hcs1 hss1 K1 _ _ _ hP hS hl
      have es := xif_f es q6
      by_cases q7 : (v &&& (31 : Int32)) = (7 : Int32)
      · have es := xif_t es q7
        refine lv_tableIn (off := 633) (tgt := 672) hx hb dL_law_39 (by rw [q7]; decide) (by rw [q7]; decide) (by rw [q7]; rfl) (by decide) ?_
        exact lp_7 C0 fu x mm o i h h1 es hcs1 hss1 K1 _ _ _ hP hS hl
      have es := xif_f es q7
      by_cases q8 : (v &&& (31 : Int32)) = (8 : Int32)
      · have es := xif_t es q8
        refine lv_tableIn (off := 701) (tgt := 740) hx hb dL_law_39 (by rw [q8]; decide) (by rw [q8]; decide) (by rw [q8]; rfl) (by decide) ?_
        exact lp_8 C0 fu x mm o i h h1 es hcs1 hss1 K1 _ _ _ hP hS hl
      have es := xif_f es q8
      by_cases q9 : (v &&& (31 : Int32)) = (9 : Int32)
      · have es := xif_t es q9
        refine lv_tableIn (off := 769) (tgt := 808) hx hb dL_law_39 (by rw [q9]; decide) (by rw [q9]; decide) (by rw [q9]; rfl) (by decide) ?_
        exact lp_9 C0 fu x mm o i h h1 es hcs1 hss1 K1 _ _ _ hP hS hl
      have es := xif_f es q9
      by_cases q10 : (v &&& (31 : Int32)) = (10 : Int32)
      · have es := xif_t es q10
        refine lv_tableIn (off := 861) (tgt := 900) hx hb dL_law_39 (by rw [q10]; decide) (by rw [q10]; decide) (by rw [q10]; rfl) (by decide) ?_
        exact lp_10 C0 fu x mm o i h h1 es hcs1 hss1 K1 _ _ _ hP hS hl
      have es := xif_f es q10
      by_cases q11 : (v &&& (31 : Int32)) = (11 : Int32)
      · have es := xif_t es q11
        refine lv_tableIn (off := 917) (tgt := 956) hx hb dL_law_39 (by rw [q11]; decide) (by rw [q11]; decide) (by rw [q11]; rfl) (by decide) ?_
        exact lp_11 C0 fu x mm o i h h1 es hcs1 hss1 K1 _ _ _ hP hS hl
      have es := xif_f es q11
      by_cases q12 : (v &&& (31 : Int32)) = (12 : Int32)
      · have es := xif_t es q12
        refine lv_tableIn (off := 973) (tgt := 1012) hx hb dL_law_39 (by rw [q12]; decide) (by rw [q12]; decide) (by rw [q12]; rfl) (by decide) ?_
        exact lp_12 C0 fu x mm o i h h1 es hcs1 hss1 K1 _ _ _ hP hS hl
      have es := xif_f es q12
      by_cases q13 : (v &&& (31 : Int32)) = (13 : Int32)
      · have es := xif_t es q13
        refine lv_tableIn (off := 986) (tgt := 1025) hx hb dL_law_39 (by rw [q13]; decide) (by rw [q13]; decide) (by rw [q13]; rfl) (by decide) ?_
        exact lp_13 C0 fu x mm o i h h1 es hcs1 hss1 K1 _ _ _ hP hS hl
      have es := xif_f es q13
      by_cases q14 : (v &&& (31 : Int32)) = (14 : Int32)
      · have es := xif_t es q14
        refine lv_tableIn (off := 1054) (tgt := 1093) hx hb dL_law_39 (by rw [q14]; decide) (by rw [q14]; decide) (by rw [q14]; rfl) (by decide) ?_
        exact lp_14 C0 fu x mm o i h h1 es hcs1 hss1 K1 _ _ _ hP hS hl
      have es := xif_f es q14
      by_cases q15 : (v &&& (31 : Int32)) = (15 : Int32)
      · have es := xif_t es q15
        refine lv_tableIn (off := 1109) (tgt := 1148) hx hb dL_law_39 (by rw [q15]; decide) (by rw [q15]; decide) (by rw [q15]; rfl) (by decide) ?_
        exact lp_15 C0 fu x mm o i h h1 es hcs1 hss1 K1 _ _ _ hP hS hl
      have es := xif_f es q15
      by_cases q16 : (v &&& (31 : Int32)) = (16 : Int32)
      · have es := xif_t es q16
        refine lv_tableIn (off := 1150) (tgt := 1189) hx hb dL_law_39 (by rw [q16]; decide) (by rw [q16]; decide) (by rw [q16]; rfl) (by decide) ?_
        exact lp_16 C0 fu x mm o i h h1 es hcs1 hss1 K1 _ _ _ hP hS hl
      have es := xif_f es q16
      by_cases q17 : (v &&& (31 : Int32)) = (17 : Int32)
      · have es := xif_t es q17
        refine lv_tableIn (off := 1163) (tgt := 1202) hx hb dL_law_39 (by rw [q17]; decide) (by rw [q17]; decide) (by rw [q17]; rfl) (by decide) ?_
        exact lp_17 C0 fu x mm o i h h1 es hcs1 hss1 K1 _ _ _ hP hS hl
      have es := xif_f es q17
      by_cases q18 : (v &&& (31 : Int32)) = (18 : Int32)
      · have es := xif_t es q18
        refine lv_tableIn (off := 1219) (tgt := 1258) hx hb dL_law_39 (by rw [q18]; decide) (by rw [q18]; decide) (by rw [q18]; rfl) (by decide) ?_
        exact lp_18 C0 fu x mm o i h h1 es hcs1 hss1 K1 _ _ _ hP hS hl
      have es := xif_f es q18
      by_cases q19 : (v &&& (31 : Int32)) = (19 : Int32)
      · have es := xif_t es q19
        refine lv_tableIn (off := 1275) (tgt := 1314) hx hb dL_law_39 (by rw [q19]; decide) (by rw [q19]; decide) (by rw [q19]; rfl) (by decide) ?_
        exact lp_19 C0 fu x mm o i h h1 es hcs1 hss1 K1 _ _ _ hP hS hl
      have es := xif_f es q19
      by_cases q20 : (v &&& (31 : Int32)) = (20 : Int32)
      · have es := xif_t es q20
        refine lv_tableIn (off := 1288) (tgt := 1327) hx hb dL_law_39 (by rw [q20]; decide) (by rw [q20]; decide) (by rw [q20]; rfl) (by decide) ?_
        exact lp_20 C0 fu x mm o i h h1 es hcs1 hss1 K1 _ _ _ hP hS hl
      have es := xif_f es q20
      by_cases q21 : (v &&& (31 : Int32)) = (21 : Int32)
      · have es := xif_t es q21
        refine lv_tableIn (off := 1301) (tgt := 1340) hx hb dL_law_39 (by rw [q21]; decide) (by rw [q21]; decide) (by rw [q21]; rfl) (by decide) ?_
        exact lp_21 C0 fu x mm o i h h1 es hcs1 hss1 K1 _ _ _ hP hS hl
      have es := xif_f es q21
      by_cases q22 : (v &&& (31 : Int32)) = (22 : Int32)
      · have es := xif_t es q22
        refine lv_tableIn (off := 1356) (tgt := 1395) hx hb dL_law_39 (by rw [q22]; decide) (by rw [q22]; decide) (by rw [q22]; rfl) (by decide) ?_
        exact lp_22 C0 fu x mm o i h h1 es hcs1 hss1 K1 _ _ _ hP hS hl
      have es := xif_f es q22
      by_cases q23 : (v &&& (31 : Int32)) = (23 : Int32)
      · have es := xif_t es q23
        refine lv_tableIn (off := 1412) (tgt := 1451) hx hb dL_law_39 (by rw [q23]; decide) (by rw [q23]; decide) (by rw [q23]; rfl) (by decide) ?_
        exact lp_23 C0 fu x mm o i h h1 es hcs1 hss1 K1 _ _ _ hP hS hl
      have es := xif_f es q23
      by_cases q24 : (v &&& (31 : Int32)) = (24 : Int32)
      · have es := xif_t es q24
        refine lv_tableIn (off := 1425) (tgt := 1464) hx hb dL_law_39 (by rw [q24]; decide) (by rw [q24]; decide) (by rw [q24]; rfl) (by decide) ?_
        exact lp_24 C0 fu x mm o i h h1 es hcs1 hss1 K1 _ _ _ hP hS hl
      have es := xif_f es q24
      by_cases q25 : (v &&& (31 : Int32)) = (25 : Int32)
      · have es := xif_t es q25
        refine lv_tableIn (off := 1438) (tgt := 1477) hx hb dL_law_39 (by rw [q25]; decide) (by rw [q25]; decide) (by rw [q25]; rfl) (by decide) ?_
        exact lp_25 C0 fu x mm o i h h1 es hcs1 hss1 K1 _ _ _ hP hS hl
      have es := xif_f es q25
      by_cases q26 : (v &&& (31 : Int32)) = (26 : Int32)
      · have es := xif_t es q26
        refine lv_tableIn (off := 1482) (tgt := 1521) hx hb dL_law_39 (by rw [q26]; decide) (by rw [q26]; decide) (by rw [q26]; rfl) (by decide) ?_
        exact lp_26 C0 fu x mm o i h h1 es hcs1 hss1 K1 _ _ _ hP hS hl
      have es := xif_f es q26
      have n0 : (v &&& (31 : Int32)).toInt ≠ 0 := fun q => q0 (Int32.toInt_inj.mp (q.trans (by decide)))
      have n1 : (v &&& (31 : Int32)).toInt ≠ 1 := fun q => q1 (Int32.toInt_inj.mp (q.trans (by decide)))
      have n2 : (v &&& (31 : Int32)).toInt ≠ 2 := fun q => q2 (Int32.toInt_inj.mp (q.trans (by decide)))
      have n3 : (v &&& (31 : Int32)).toInt ≠ 3 := fun q => q3 (Int32.toInt_inj.mp (q.trans (by decide)))
      have n4 : (v &&& (31 : Int32)).toInt ≠ 4 := fun q => q4 (Int32.toInt_inj.mp (q.trans (by decide)))
      have n5 : (v &&& (31 : Int32)).toInt ≠ 5 := fun q => q5 (Int32.toInt_inj.mp (q.trans (by decide)))
      have n6 : (v &&& (31 : Int32)).toInt ≠ 6 := fun q => q6 (Int32.toInt_inj.mp (q.trans (by decide)))
      have n7 : (v &&& (31 : Int32)).toInt ≠ 7 := fun q => q7 (Int32.toInt_inj.mp (q.trans (by decide)))
      have n8 : (v &&& (31 : Int32)).toInt ≠ 8 := fun q => q8 (Int32.toInt_inj.mp (q.trans (by decide)))
      have n9 : (v &&& (31 : Int32)).toInt ≠ 9 := fun q => q9 (Int32.toInt_inj.mp (q.trans (by decide)))
      have n10 : (v &&& (31 : Int32)).toInt ≠ 10 := fun q => q10 (Int32.toInt_inj.mp (q.trans (by decide)))
      have n11 : (v &&& (31 : Int32)).toInt ≠ 11 := fun q => q11 (Int32.toInt_inj.mp (q.trans (by decide)))
      have n12 : (v &&& (31 : Int32)).toInt ≠ 12 := fun q => q12 (Int32.toInt_inj.mp (q.trans (by decide)))
      have n13 : (v &&& (31 : Int32)).toInt ≠ 13 := fun q => q13 (Int32.toInt_inj.mp (q.trans (by decide)))
      have n14 : (v &&& (31 : Int32)).toInt ≠ 14 := fun q => q14 (Int32.toInt_inj.mp (q.trans (by decide)))
      have n15 : (v &&& (31 : Int32)).toInt ≠ 15 := fun q => q15 (Int32.toInt_inj.mp (q.trans (by decide)))
      have n16 : (v &&& (31 : Int32)).toInt ≠ 16 := fun q => q16 (Int32.toInt_inj.mp (q.trans (by decide)))
      have n17 : (v &&& (31 : Int32)).toInt ≠ 17 := fun q => q17 (Int32.toInt_inj.mp (q.trans (by decide)))
      have n18 : (v &&& (31 : Int32)).toInt ≠ 18 := fun q => q18 (Int32.toInt_inj.mp (q.trans (by decide)))
      have n19 : (v &&& (31 : Int32)).toInt ≠ 19 := fun q => q19 (Int32.toInt_inj.mp (q.trans (by decide)))
      have n20 : (v &&& (31 : Int32)).toInt ≠ 20 := fun q => q20 (Int32.toInt_inj.mp (q.trans (by decide)))
      have n21 : (v &&& (31 : Int32)).toInt ≠ 21 := fun q => q21 (Int32.toInt_inj.mp (q.trans (by decide)))
      have n22 : (v &&& (31 : Int32)).toInt ≠ 22 := fun q => q22 (Int32.toInt_inj.mp (q.trans (by decide)))
      have n23 : (v &&& (31 : Int32)).toInt ≠ 23 := fun q => q23 (Int32.toInt_inj.mp (q.trans (by decide)))
      have n24 : (v &&& (31 : Int32)).toInt ≠ 24 := fun q => q24 (Int32.toInt_inj.mp (q.trans (by decide)))
      have n25 : (v &&& (31 : Int32)).toInt ≠ 25 := fun q => q25 (Int32.toInt_inj.mp (q.trans (by decide)))
      have n26 : (v &&& (31 : Int32)).toInt ≠ 26 := fun q => q26 (Int32.toInt_inj.mp (q.trans (by decide)))
      refine lv_tableOut (tgt := 1535) hx hb dL_law_39 (by omega) (by decide) ?_
      obtain rfl := Option.some.inj es
      refine W.widen (k := 120 + k + 1) (n := 15000 + 2 * k + 6) (by omega) (by omega) ?_
      exact K1 _ _ _ hP hS hl
/-- THE MACHINE'S PART: out of an answer of the functions -/
def xLawOk : Prop := ∀ (B0 L : Nat) (xs : Nat → Int32), L ≤ 2560 → ∃ (fu n : Nat) (h : XH), f_law0 B0 = some h ∧ f_lawloop fu L xs B0 (B0 + 113) (B0 + 119) n 0 h = some ()
set_option maxHeartbeats 4000000 in
set_option maxRecDepth 100000 in
theorem whole_of (hok : xLawOk) {p : Program} {e : Env} {s : State} {m : MethodId} {below : List Frame} {meth : Method} {c : Code} (l : Launch) (hflags : l.flags = flags0) {b L : Nat} {xs : Nat → Int32} (hL : L ≤ 2560) (C0 : lw_At p s m meth c b L xs) : W p l e room_1 s m #[Value.ref b] below meth c s.heap [] 0 0 (lw_Z below #[Value.ref b] s) (entryFrame m ([Value.ref b] : List Value).toArray 9) := by
  obtain ⟨hx, hb, hr, hml, hown, htb, hXs, hbl, hlocks, hgv⟩ := id C0
  obtain ⟨G, hKK⟩ := xK_start htb
  have hts : ∀ w ∈ wsL_law, w.before #[Value.ref b] s = true := fun w h => htb w (wsL_law_in w h)
  have hNe := xNest_start htb
  have hbA : ¬ xA s.heap.size b := Nat.not_le.mpr hbl
  have hown : s.vm.findClass RL = some m.cls := hown
  have hb : c.code = cL_law := hb
  have htr : l.stackTraces = false := by unfold Launch.stackTraces; rw [hflags]; decide
  have hLC : xLC p l s m c s.heap.size G b L xs := ⟨hx, hb, hml, hown, hts, hXs, hbl, hbA, hKK, xZ_start htb hgv, xStr_start htb hgv, xCas_start hgv, htr⟩
  obtain ⟨fu, n, h5, hf, hloop⟩ := hok s.heap.size L xs hL
  have hS : va_S (xA s.heap.size) s.heap s.heap [] := va_S.rf
  have hP : xP s.heap.size G (fun _ => none) s.heap := ⟨Nat.le_refl _, fun q e h => by cases h⟩
  have hz : s.heap.size = s.heap.size := rfl
  generalize hB : s.heap.size = B0 at hLC hf hloop hS hP hz
  have hl := lv_entry ([.ref b]) (n := 9) (Nat.le_of_ble_eq_true rfl)
  rw [lg_entry_eq]
  generalize (lg_sl ([.ref b]) ++ List.replicate (9 - (lg_sl ([.ref b])).length) Slot.unset).toArray = ls at hl ⊢
  have hl : lv_has ls 9 [(0, .ref b)] := hl
  unfold f_law0 at hf
  obtain ⟨h2, e2, hf⟩ := xb1 hf
  obtain ⟨h4, e4, hf⟩ := xb1 hf
  have hf := (Option.some.inj hf).symm
  refine xr_new (ci := 5) (nx := B0) (C := RX5) (T := TX5) (N := 5) hx hb hts inlX5 tyX5 tyX5_ok hown (hts (.classLink RL 8 RX5) (by decide +kernel)) (hts (.instantiable RX5 5) (by decide +kernel)) (hts (.initialized RX5) (by decide +kernel)) hKK hP hB hS rfl (fs := [.null, .null, .null, .int 0, .null]) (fun j hj => by rcases (show j = 0 ∨ j = 1 ∨ j = 2 ∨ j = 3 ∨ j = 4 by omega) with rfl | rfl | rfl | rfl | rfl <;> rfl) rfl ⟨Nat.le_of_ble_eq_true rfl, Nat.le_of_ble_eq_true rfl⟩ dL_law_0 (fun H hP hz hS => ?_)
  refine lv_dup hx hb dL_law_3 rfl ?_
  refine xc_I (rest := [.ref B0]) ⟨hx, hb, hml, hown, hts⟩ (m_X5_init l B0 G _ h2 B0 (B0 + 1) e2) (cwI 0 hts gL_law_X5_init rfl rfl rfl (hts (.initialized RX5) (by decide +kernel)) (hts (.methodLink RL 78 yX5_init) (by decide +kernel)) (hts (.instanceMethod yX5_init) (by decide +kernel)) rfl (by decide +kernel) ⟨Nat.le_of_ble_eq_true rfl, Nat.le_of_ble_eq_true rfl⟩) hKK hNe hP hz hS hl.1 rfl (Nat.le_of_ble_eq_true rfl) dL_law_4 ⟨Nat.le_of_ble_eq_true rfl, Nat.le_of_ble_eq_true rfl⟩ (fun H locs hP hz hS => ?_)
  refine lv_astore_n (lv' := [(1, .ref B0), (0, .ref b)]) hx hb dL_law_7 rfl hl (by decide) rfl (fun ls hl => ?_)
  have hz : H.size = B0 + 113 := by omega
  refine xr_new (ci := 6) (nx := B0 + 113) (C := RX6) (T := TX6) (N := 13) hx hb hts inlX6 tyX6 tyX6_ok hown (hts (.classLink RL 79 RX6) (by decide +kernel)) (hts (.instantiable RX6 13) (by decide +kernel)) (hts (.initialized RX6) (by decide +kernel)) hKK hP hz hS rfl (fs := [.null, .null, .null, .int 0, .int 0, .long 0, .int 0, .null, .int 0, .null, .int 0, .int 0, .int 0]) (fun j hj => by rcases (show j = 0 ∨ j = 1 ∨ j = 2 ∨ j = 3 ∨ j = 4 ∨ j = 5 ∨ j = 6 ∨ j = 7 ∨ j = 8 ∨ j = 9 ∨ j = 10 ∨ j = 11 ∨ j = 12 by omega) with rfl | rfl | rfl | rfl | rfl | rfl | rfl | rfl | rfl | rfl | rfl | rfl | rfl <;> rfl) rfl ⟨Nat.le_of_ble_eq_true rfl, Nat.le_of_ble_eq_true rfl⟩ dL_law_8 (fun H hP hz hS => ?_)
  refine lv_dup hx hb dL_law_11 rfl ?_
  refine xc_I (rest := [.ref (B0 + 113)]) ⟨hx, hb, hml, hown, hts⟩ (m_X6_init l B0 G _ h4 (B0 + 113) (B0 + 114) e4) (cwI 0 hts gL_law_X6_init rfl rfl rfl (hts (.initialized RX6) (by decide +kernel)) (hts (.methodLink RL 81 yX6_init) (by decide +kernel)) (hts (.instanceMethod yX6_init) (by decide +kernel)) rfl (by decide +kernel) ⟨Nat.le_of_ble_eq_true rfl, Nat.le_of_ble_eq_true rfl⟩) hKK hNe hP hz hS hl.1 rfl (Nat.le_of_ble_eq_true rfl) dL_law_12 ⟨Nat.le_of_ble_eq_true rfl, Nat.le_of_ble_eq_true rfl⟩ (fun H locs hP hz hS => ?_)
  refine lv_astore_n (lv' := [(2, .ref (B0 + 113)), (1, .ref B0), (0, .ref b)]) hx hb dL_law_15 rfl hl (by decide) rfl (fun ls hl => ?_)
  have hz : H.size = B0 + 119 := by omega
  refine lv_iconst (v := (1 : Int32)) hx hb dL_law_16 (by decide) ?_
  refine xr_newarr (t := 2) (atype := .long) (nx := B0 + 119) (N := 1) (x := (1, .inr (.inl (fun _ => 0)))) rfl (fun _ => rfl) (fun _ _ h9 => h9) hx hb (hts (.arrayClass .long) (by decide +kernel)) hKK hP hz hS (fun _ => rfl) (by decide) (by decide) (by decide) hf ⟨Nat.le_of_ble_eq_true rfl, Nat.le_of_ble_eq_true rfl⟩ dL_law_17 (fun H hP hz hS => ?_)
  refine lv_astore_n (lv' := [(3, .ref (B0 + 119)), (2, .ref (B0 + 113)), (1, .ref B0), (0, .ref b)]) hx hb dL_law_19 rfl hl (by decide) rfl (fun ls hl => ?_)
  refine lv_iconst (v := (0 : Int32)) hx hb dL_law_20 (by decide) ?_
  refine lv_istore (lv' := [(4, .int 0), (3, .ref (B0 + 119)), (2, .ref (B0 + 113)), (1, .ref B0), (0, .ref b)]) hx hb dL_law_21 hl (by decide) rfl (fun ls hl => ?_)
  refine W.widen (k := 120 + 0) (n := 15000 + 2 * 0) (Nat.le_of_ble_eq_true rfl) (Nat.le_of_ble_eq_true rfl) ?_
  refine law_loop hLC hL fu B0 (B0 + 113) (B0 + 119) ?_ n 0 0 h5 (Nat.zero_le _) rfl hloop _ _ _ hP hS (lv_sub hl [0, 4, 3, 2, 1] rfl)
  intro H locs ls cells slots hc9 hs9 hS
  refine lv_iconst (v := (1 : Int32)) hx hb dL_law_1541 (by decide) ?_
  refine va_forget (fun q hq => by rw [hB]; exact hS.2.2 q hq) ?_
  refine W.widen (k := 601024) (n := 7293033) (by omega) (by omega) ?_
  refine W.base ?_
  exact lw_ret (Drawn.sameBut.refl s.drawn lw_cs) hx hb hr hlocks dL_law_1542
