/-- RainReservoir$Roof() -/
abbrev rmX1_init : Room := { frames := 1, cells := 0, slots := 0, locals := 12 }
set_option maxHeartbeats 4000000 in
set_option maxRecDepth 100000 in
theorem m_X1_init (l : Launch) (B0 : Nat) (G : XG) (h : XH) (a0 nx : Nat) : Met l yX1_init wsX1_init rmX1_init (va_Pc [.ref a0] (xUN B0 G h nx)) (xQN B0 G h nx) 0 0 (xA B0) := by
  refine xMetN (cc := cX1_init) (maxL := 1) (by decide) rfl (Nat.le_of_ble_eq_true rfl) ?_
  intro p e s m args below meth c ls hx hb hr hml hown hlocks hnm hts hKK hNe hP hz hl
  have hown : s.vm.findClass RX1 = some m.cls := hown
  have hl : lv_has ls 1 [(0, .ref a0)] := hl
  have hS : va_S (xA B0) s.heap s.heap [] := va_S.rf
  have w1 := hts (.methodLink RX1 1 objectInit) (by decide +kernel)
  have w2 := hts (.instanceMethod objectInit) (by decide +kernel)
  have w3 := hts (.code objectInit ⟨#[0xb1]⟩ 1 none) (by decide +kernel)
  generalize hQ : MQ below (xQN B0 G h nx) args s 0 0 (xA B0) = Q
  refine lv_aload_n hx hb dX1_init_0 rfl (lv_at hl 0 rfl) ?_
  refine W.objInit hx hb hown w1 w2 w3 rfl (by rw [hml]; exact hl.1) rfl dX1_init_1 (Nat.le_of_ble_eq_true rfl) (Nat.le_of_ble_eq_true rfl) ?_
  refine W.eq (g2 := F0 m 4 ls []) rfl ?_
  refine W.widen (k := 0) (n := 0) (Nat.le_of_ble_eq_true rfl) (Nat.le_of_ble_eq_true rfl) ?_
  subst hQ
  exact xe_vN hx hb hr hlocks hKK hP hz hS dX1_init_4
/-- RainReservoir$User() -/
abbrev rmX3_init : Room := { frames := 1, cells := 0, slots := 0, locals := 12 }
set_option maxHeartbeats 4000000 in
set_option maxRecDepth 100000 in
theorem m_X3_init (l : Launch) (B0 : Nat) (G : XG) (h : XH) (a0 nx : Nat) : Met l yX3_init wsX3_init rmX3_init (va_Pc [.ref a0] (xUN B0 G h nx)) (xQN B0 G h nx) 0 0 (xA B0) := by
  refine xMetN (cc := cX3_init) (maxL := 1) (by decide) rfl (Nat.le_of_ble_eq_true rfl) ?_
  intro p e s m args below meth c ls hx hb hr hml hown hlocks hnm hts hKK hNe hP hz hl
  have hown : s.vm.findClass RX3 = some m.cls := hown
  have hl : lv_has ls 1 [(0, .ref a0)] := hl
  have hS : va_S (xA B0) s.heap s.heap [] := va_S.rf
  have w1 := hts (.methodLink RX3 3 objectInit) (by decide +kernel)
  have w2 := hts (.instanceMethod objectInit) (by decide +kernel)
  have w3 := hts (.code objectInit ⟨#[0xb1]⟩ 1 none) (by decide +kernel)
  generalize hQ : MQ below (xQN B0 G h nx) args s 0 0 (xA B0) = Q
  refine lv_aload_n hx hb dX3_init_0 rfl (lv_at hl 0 rfl) ?_
  refine W.objInit hx hb hown w1 w2 w3 rfl (by rw [hml]; exact hl.1) rfl dX3_init_1 (Nat.le_of_ble_eq_true rfl) (Nat.le_of_ble_eq_true rfl) ?_
  refine W.eq (g2 := F0 m 4 ls []) rfl ?_
  refine W.widen (k := 0) (n := 0) (Nat.le_of_ble_eq_true rfl) (Nat.le_of_ble_eq_true rfl) ?_
  subst hQ
  exact xe_vN hx hb hr hlocks hKK hP hz hS dX3_init_4
/-- RainReservoir$Users() -/
def f_X4_init (h : XH) (a0 nx : Nat) : Option XH :=
  olet (xup h nx (some (.inl (5, 5, .inr (.inr (.inr (.inr (fun _ => none)))))))) fun h1 =>
  (xpV h1 a0 4 0 (.ref nx)).bind fun h2 =>
  (xgR h2 a0 4 0).bind fun v1 =>
  (xlen h2 v1 5).bind fun v2 =>
  (xeqI v2 (5 : Int32)).bind fun v3 =>
  (xgR h2 a0 4 0).bind fun v4 =>
  olet (xup h2 (nx + 1) (some (.inr (3, [.int 0, .int 0, .int 0, .int 0])))) fun h3 =>
  (xis h3 (nx + 1) 3).bind fun v5 =>
  (xastR h3 v4 5 (0 : Int32) (nx + 1)).bind fun h4 =>
  (xgR h4 a0 4 0).bind fun v6 =>
  (xlen h4 v6 5).bind fun v7 =>
  (xeqI v7 (5 : Int32)).bind fun v8 =>
  (xgR h4 a0 4 0).bind fun v9 =>
  olet (xup h4 (nx + 2) (some (.inr (3, [.int 0, .int 0, .int 0, .int 0])))) fun h5 =>
  (xis h5 (nx + 2) 3).bind fun v10 =>
  (xastR h5 v9 5 (1 : Int32) (nx + 2)).bind fun h6 =>
  (xgR h6 a0 4 0).bind fun v11 =>
  (xlen h6 v11 5).bind fun v12 =>
  (xeqI v12 (5 : Int32)).bind fun v13 =>
  (xgR h6 a0 4 0).bind fun v14 =>
  olet (xup h6 (nx + 3) (some (.inr (3, [.int 0, .int 0, .int 0, .int 0])))) fun h7 =>
  (xis h7 (nx + 3) 3).bind fun v15 =>
  (xastR h7 v14 5 (2 : Int32) (nx + 3)).bind fun h8 =>
  (xgR h8 a0 4 0).bind fun v16 =>
  (xlen h8 v16 5).bind fun v17 =>
  (xeqI v17 (5 : Int32)).bind fun v18 =>
  (xgR h8 a0 4 0).bind fun v19 =>
  olet (xup h8 (nx + 4) (some (.inr (3, [.int 0, .int 0, .int 0, .int 0])))) fun h9 =>
  (xis h9 (nx + 4) 3).bind fun v20 =>
  (xastR h9 v19 5 (3 : Int32) (nx + 4)).bind fun h10 =>
  (xgR h10 a0 4 0).bind fun v21 =>
  (xlen h10 v21 5).bind fun v22 =>
  (xeqI v22 (5 : Int32)).bind fun v23 =>
  (xgR h10 a0 4 0).bind fun v24 =>
  olet (xup h10 (nx + 5) (some (.inr (3, [.int 0, .int 0, .int 0, .int 0])))) fun h11 =>
  (xis h11 (nx + 5) 3).bind fun v25 =>
  (xastR h11 v24 5 (4 : Int32) (nx + 5)).bind fun h12 =>
  (xgR h12 a0 4 0).bind fun v26 =>
  (xlen h12 v26 5).bind fun v27 =>
  (xeqI v27 (5 : Int32)).bind fun v28 =>
  olet (xup h12 (nx + 6) (some (.inl (0, (5, .inl (fun _ => 0)))))) fun h13 =>
  (xpV h13 a0 4 2 (.ref (nx + 6))).bind fun h14 =>
  some h14
abbrev rmX4_init : Room := { frames := 2, cells := 7, slots := 30, locals := 32 }
set_option maxHeartbeats 4000000 in
set_option maxRecDepth 100000 in
theorem m_X4_init (l : Launch) (B0 : Nat) (G : XG) (h hE : XH) (a0 nx : Nat) (hf : f_X4_init h a0 nx = some hE) : Met l yX4_init wsX4_init rmX4_init (va_Pc [.ref a0] (xUN B0 G h nx)) (xQN B0 G hE (nx + 7)) 7 30 (xA B0) := by
  refine xMetN (cc := cX4_init) (maxL := 2) (by decide) rfl (Nat.le_of_ble_eq_true rfl) ?_
  intro p e s m args below meth c ls hx hb hr hml hown hlocks hnm hts hKK hNe hP hz hl
  have hown : s.vm.findClass RX4 = some m.cls := hown
  have hl : lv_has ls 2 [(0, .ref a0)] := hl
  have hS : va_S (xA B0) s.heap s.heap [] := va_S.rf
  have inX3 : ∀ w ∈ wsX30, w ∈ wsX4_init := by decide +kernel
  have inX4 : ∀ w ∈ wsX40, w ∈ wsX4_init := by decide +kernel
  have w1 := hts (.methodLink RX4 3 objectInit) (by decide +kernel)
  have w2 := hts (.instanceMethod objectInit) (by decide +kernel)
  have w3 := hts (.code objectInit ⟨#[0xb1]⟩ 1 none) (by decide +kernel)
  have w4 := hts (.classLink RX4 9 RX3) (by decide +kernel)
  have w5 := hts (.fieldLink RX4 11 "RainReservoir$Users" "rows" "[LRainReservoir$User;") (by decide +kernel)
  have w6 := hts (.instantiable RX3 4) (by decide +kernel)
  have w7 := hts (.initialized RX3) (by decide +kernel)
  have w8 := hts (.instanceMethod yX3_init) (by decide +kernel)
  have w9 := hts (.arrayClass .int) (by decide +kernel)
  have w10 := hts (.fieldLink RX4 18 "RainReservoir$Users" "order" "[I") (by decide +kernel)
  generalize hQ : MQ below (xQN B0 G hE (nx + 7)) args s 7 30 (xA B0) = Q
  unfold f_X4_init at hf
  refine lv_aload_n hx hb dX4_init_0 rfl (lv_at hl 0 rfl) ?_
  refine W.objInit hx hb hown w1 w2 w3 rfl (by rw [hml]; exact hl.1) rfl dX4_init_1 (Nat.le_of_ble_eq_true rfl) (Nat.le_of_ble_eq_true rfl) ?_
  refine W.eq (g2 := F0 m 4 ls []) rfl ?_
  refine lv_aload_n hx hb dX4_init_4 rfl (lv_at hl 0 rfl) ?_
  refine lv_iconst (v := (5 : Int32)) hx hb dX4_init_5 (by decide) ?_
  obtain ⟨h1, eh1, hf⟩ := xl hf
  refine xr_anew (nx := nx) (N := 5) (fun _ => rfl) hx hb hown w4 hNe.2.2.2.2 hKK hP hz hS (by decide) (by decide) (by decide) eh1 ⟨Nat.le_of_ble_eq_true rfl, Nat.le_of_ble_eq_true rfl⟩ dX4_init_6 (fun H hP hz hS => ?_)
  obtain ⟨h2, eh2, hf⟩ := xb hf
  refine xr_putF hx hb hts inX4 tyX4 tyX4_ok nmX4 hown hKK hP hS eh2 rfl (by decide) w5 (fun _ h9 => h9) rfl hnm rfl (tyX4_ok 0 (by decide)) rfl rfl dX4_init_9 (fun H locs hP hz9 hS => ?_)
  have hz := hz9.trans hz
  refine lv_iconst (v := (0 : Int32)) hx hb dX4_init_12 (by decide) ?_
  refine lv_istore_n (lv' := [(1, .int (0 : Int32)), (0, .ref a0)]) hx hb dX4_init_13 rfl hl (by decide) rfl (fun ls hl => ?_)
  refine lv_iload_n hx hb dX4_init_14 rfl (lv_at hl 0 rfl) ?_
  refine lv_aload_n hx hb dX4_init_15 rfl (lv_at hl 1 rfl) ?_
  obtain ⟨v1, ev1, hf⟩ := xb hf
  refine xr_getR hx hb hts inX4 hown hKK hP ev1 rfl (by decide) w5 (fun _ h9 => h9) dX4_init_16 ?_
  obtain ⟨v2, ev2, hf⟩ := xb hf
  obtain ⟨v3, ev3, hf⟩ := xb hf
  have ev3 := xeqI_spec ev3
  rw [ev3] at ev2
  refine xr_alen (fun _ => ⟨_, rfl⟩) hx hb hKK hP ev2 dX4_init_19 ?_
  refine lv_icmp_ge (tgt := 42) hx hb dX4_init_20 (by decide) (fun c9 => absurd c9 (by decide)) (fun _ => ?_)
  refine lv_aload_n hx hb dX4_init_23 rfl (lv_at hl 1 rfl) ?_
  obtain ⟨v4, ev4, hf⟩ := xb hf
  refine xr_getR hx hb hts inX4 hown hKK hP ev4 rfl (by decide) w5 (fun _ h9 => h9) dX4_init_24 ?_
  refine lv_iload_n hx hb dX4_init_27 rfl (lv_at hl 0 rfl) ?_
  obtain ⟨h3, eh3, hf⟩ := xl hf
  refine xr_new (nx := (nx + 1)) hx hb hts inX3 tyX3 tyX3_ok hown w4 w6 w7 hKK hP hz hS rfl (fs := [.int 0, .int 0, .int 0, .int 0]) (fun j hj => by rcases (show j = 0 ∨ j = 1 ∨ j = 2 ∨ j = 3 by omega) with rfl | rfl | rfl | rfl <;> rfl) eh3 ⟨Nat.le_of_ble_eq_true rfl, Nat.le_of_ble_eq_true rfl⟩ dX4_init_28 (fun H hP hz hS => ?_)
  refine lv_dup hx hb dX4_init_31 rfl ?_
  refine xc_IN (rest := [.ref (nx + 1), .int (0 : Int32), .ref v4]) ⟨hx, hb, hml, hown, hts⟩ (m_X3_init l B0 G h3 (nx + 1) (nx + 2)) ⟨va_cnB 0 hts gX4_init_X3_init_n17 rfl rfl rfl hNe.2.1 w7 (by decide +kernel) ⟨Nat.le_of_ble_eq_true rfl, Nat.le_of_ble_eq_true rfl⟩, rfl, w8⟩ hKK hNe hP hz hS hl.1 rfl (Nat.le_of_ble_eq_true rfl) dX4_init_32 ⟨Nat.le_of_ble_eq_true rfl, Nat.le_of_ble_eq_true rfl⟩ (fun H locs hP hz hS => ?_)
  obtain ⟨v5, ev5, hf⟩ := xb hf
  obtain ⟨h4, eh4, hf⟩ := xb hf
  refine xr_aast (r := (RX3, TX3, 4)) (fun _ => rfl) rfl hx hb hKK hP hS ev5 eh4 dX4_init_35 (fun H locs hP hz9 hS => ?_)
  have hz := hz9.trans hz
  refine lv_iinc (v := (1 : Int32)) (lv' := [(1, .int (1 : Int32)), (0, .ref a0)]) hx hb dX4_init_36 hl (k := 0) rfl (by decide) (by decide) rfl (fun ls hl => ?_)
  refine lv_goto (tgt := 14) hx hb dX4_init_39 (by decide) ?_
  refine lv_iload_n hx hb dX4_init_14 rfl (lv_at hl 0 rfl) ?_
  refine lv_aload_n hx hb dX4_init_15 rfl (lv_at hl 1 rfl) ?_
  obtain ⟨v6, ev6, hf⟩ := xb hf
  refine xr_getR hx hb hts inX4 hown hKK hP ev6 rfl (by decide) w5 (fun _ h9 => h9) dX4_init_16 ?_
  obtain ⟨v7, ev7, hf⟩ := xb hf
  obtain ⟨v8, ev8, hf⟩ := xb hf
  have ev8 := xeqI_spec ev8
  rw [ev8] at ev7
  refine xr_alen (fun _ => ⟨_, rfl⟩) hx hb hKK hP ev7 dX4_init_19 ?_
  refine lv_icmp_ge (tgt := 42) hx hb dX4_init_20 (by decide) (fun c9 => absurd c9 (by decide)) (fun _ => ?_)
  refine lv_aload_n hx hb dX4_init_23 rfl (lv_at hl 1 rfl) ?_
  obtain ⟨v9, ev9, hf⟩ := xb hf
  refine xr_getR hx hb hts inX4 hown hKK hP ev9 rfl (by decide) w5 (fun _ h9 => h9) dX4_init_24 ?_
  refine lv_iload_n hx hb dX4_init_27 rfl (lv_at hl 0 rfl) ?_
  obtain ⟨h5, eh5, hf⟩ := xl hf
  refine xr_new (nx := (nx + 2)) hx hb hts inX3 tyX3 tyX3_ok hown w4 w6 w7 hKK hP hz hS rfl (fs := [.int 0, .int 0, .int 0, .int 0]) (fun j hj => by rcases (show j = 0 ∨ j = 1 ∨ j = 2 ∨ j = 3 by omega) with rfl | rfl | rfl | rfl <;> rfl) eh5 ⟨Nat.le_of_ble_eq_true rfl, Nat.le_of_ble_eq_true rfl⟩ dX4_init_28 (fun H hP hz hS => ?_)
  refine lv_dup hx hb dX4_init_31 rfl ?_
  refine xc_IN (rest := [.ref (nx + 2), .int (1 : Int32), .ref v9]) ⟨hx, hb, hml, hown, hts⟩ (m_X3_init l B0 G h5 (nx + 2) (nx + 3)) ⟨va_cnB 0 hts gX4_init_X3_init_n17 rfl rfl rfl hNe.2.1 w7 (by decide +kernel) ⟨Nat.le_of_ble_eq_true rfl, Nat.le_of_ble_eq_true rfl⟩, rfl, w8⟩ hKK hNe hP hz hS hl.1 rfl (Nat.le_of_ble_eq_true rfl) dX4_init_32 ⟨Nat.le_of_ble_eq_true rfl, Nat.le_of_ble_eq_true rfl⟩ (fun H locs hP hz hS => ?_)
  obtain ⟨v10, ev10, hf⟩ := xb hf
  obtain ⟨h6, eh6, hf⟩ := xb hf
  refine xr_aast (r := (RX3, TX3, 4)) (fun _ => rfl) rfl hx hb hKK hP hS ev10 eh6 dX4_init_35 (fun H locs hP hz9 hS => ?_)
  have hz := hz9.trans hz
  refine lv_iinc (v := (2 : Int32)) (lv' := [(1, .int (2 : Int32)), (0, .ref a0)]) hx hb dX4_init_36 hl (k := 0) rfl (by decide) (by decide) rfl (fun ls hl => ?_)
  refine lv_goto (tgt := 14) hx hb dX4_init_39 (by decide) ?_
  refine lv_iload_n hx hb dX4_init_14 rfl (lv_at hl 0 rfl) ?_
  refine lv_aload_n hx hb dX4_init_15 rfl (lv_at hl 1 rfl) ?_
  obtain ⟨v11, ev11, hf⟩ := xb hf
  refine xr_getR hx hb hts inX4 hown hKK hP ev11 rfl (by decide) w5 (fun _ h9 => h9) dX4_init_16 ?_
  obtain ⟨v12, ev12, hf⟩ := xb hf
  obtain ⟨v13, ev13, hf⟩ := xb hf
  have ev13 := xeqI_spec ev13
  rw [ev13] at ev12
  refine xr_alen (fun _ => ⟨_, rfl⟩) hx hb hKK hP ev12 dX4_init_19 ?_
  refine lv_icmp_ge (tgt := 42) hx hb dX4_init_20 (by decide) (fun c9 => absurd c9 (by decide)) (fun _ => ?_)
  refine lv_aload_n hx hb dX4_init_23 rfl (lv_at hl 1 rfl) ?_
  obtain ⟨v14, ev14, hf⟩ := xb hf
  refine xr_getR hx hb hts inX4 hown hKK hP ev14 rfl (by decide) w5 (fun _ h9 => h9) dX4_init_24 ?_
  refine lv_iload_n hx hb dX4_init_27 rfl (lv_at hl 0 rfl) ?_
  obtain ⟨h7, eh7, hf⟩ := xl hf
  refine xr_new (nx := (nx + 3)) hx hb hts inX3 tyX3 tyX3_ok hown w4 w6 w7 hKK hP hz hS rfl (fs := [.int 0, .int 0, .int 0, .int 0]) (fun j hj => by rcases (show j = 0 ∨ j = 1 ∨ j = 2 ∨ j = 3 by omega) with rfl | rfl | rfl | rfl <;> rfl) eh7 ⟨Nat.le_of_ble_eq_true rfl, Nat.le_of_ble_eq_true rfl⟩ dX4_init_28 (fun H hP hz hS => ?_)
  refine lv_dup hx hb dX4_init_31 rfl ?_
  refine xc_IN (rest := [.ref (nx + 3), .int (2 : Int32), .ref v14]) ⟨hx, hb, hml, hown, hts⟩ (m_X3_init l B0 G h7 (nx + 3) (nx + 4)) ⟨va_cnB 0 hts gX4_init_X3_init_n17 rfl rfl rfl hNe.2.1 w7 (by decide +kernel) ⟨Nat.le_of_ble_eq_true rfl, Nat.le_of_ble_eq_true rfl⟩, rfl, w8⟩ hKK hNe hP hz hS hl.1 rfl (Nat.le_of_ble_eq_true rfl) dX4_init_32 ⟨Nat.le_of_ble_eq_true rfl, Nat.le_of_ble_eq_true rfl⟩ (fun H locs hP hz hS => ?_)
  obtain ⟨v15, ev15, hf⟩ := xb hf
  obtain ⟨h8, eh8, hf⟩ := xb hf
  refine xr_aast (r := (RX3, TX3, 4)) (fun _ => rfl) rfl hx hb hKK hP hS ev15 eh8 dX4_init_35 (fun H locs hP hz9 hS => ?_)
  have hz := hz9.trans hz
  refine lv_iinc (v := (3 : Int32)) (lv' := [(1, .int (3 : Int32)), (0, .ref a0)]) hx hb dX4_init_36 hl (k := 0) rfl (by decide) (by decide) rfl (fun ls hl => ?_)
  refine lv_goto (tgt := 14) hx hb dX4_init_39 (by decide) ?_
  refine lv_iload_n hx hb dX4_init_14 rfl (lv_at hl 0 rfl) ?_
  refine lv_aload_n hx hb dX4_init_15 rfl (lv_at hl 1 rfl) ?_
  obtain ⟨v16, ev16, hf⟩ := xb hf
  refine xr_getR hx hb hts inX4 hown hKK hP ev16 rfl (by decide) w5 (fun _ h9 => h9) dX4_init_16 ?_
  obtain ⟨v17, ev17, hf⟩ := xb hf
  obtain ⟨v18, ev18, hf⟩ := xb hf
  have ev18 := xeqI_spec ev18
  rw [ev18] at ev17
  refine xr_alen (fun _ => ⟨_, rfl⟩) hx hb hKK hP ev17 dX4_init_19 ?_
  refine lv_icmp_ge (tgt := 42) hx hb dX4_init_20 (by decide) (fun c9 => absurd c9 (by decide)) (fun _ => ?_)
  refine lv_aload_n hx hb dX4_init_23 rfl (lv_at hl 1 rfl) ?_
  obtain ⟨v19, ev19, hf⟩ := xb hf
  refine xr_getR hx hb hts inX4 hown hKK hP ev19 rfl (by decide) w5 (fun _ h9 => h9) dX4_init_24 ?_
  refine lv_iload_n hx hb dX4_init_27 rfl (lv_at hl 0 rfl) ?_
  obtain ⟨h9, eh9, hf⟩ := xl hf
  refine xr_new (nx := (nx + 4)) hx hb hts inX3 tyX3 tyX3_ok hown w4 w6 w7 hKK hP hz hS rfl (fs := [.int 0, .int 0, .int 0, .int 0]) (fun j hj => by rcases (show j = 0 ∨ j = 1 ∨ j = 2 ∨ j = 3 by omega) with rfl | rfl | rfl | rfl <;> rfl) eh9 ⟨Nat.le_of_ble_eq_true rfl, Nat.le_of_ble_eq_true rfl⟩ dX4_init_28 (fun H hP hz hS => ?_)
  refine lv_dup hx hb dX4_init_31 rfl ?_
  refine xc_IN (rest := [.ref (nx + 4), .int (3 : Int32), .ref v19]) ⟨hx, hb, hml, hown, hts⟩ (m_X3_init l B0 G h9 (nx + 4) (nx + 5)) ⟨va_cnB 0 hts gX4_init_X3_init_n17 rfl rfl rfl hNe.2.1 w7 (by decide +kernel) ⟨Nat.le_of_ble_eq_true rfl, Nat.le_of_ble_eq_true rfl⟩, rfl, w8⟩ hKK hNe hP hz hS hl.1 rfl (Nat.le_of_ble_eq_true rfl) dX4_init_32 ⟨Nat.le_of_ble_eq_true rfl, Nat.le_of_ble_eq_true rfl⟩ (fun H locs hP hz hS => ?_)
  obtain ⟨v20, ev20, hf⟩ := xb hf
  obtain ⟨h10, eh10, hf⟩ := xb hf
  refine xr_aast (r := (RX3, TX3, 4)) (fun _ => rfl) rfl hx hb hKK hP hS ev20 eh10 dX4_init_35 (fun H locs hP hz9 hS => ?_)
  have hz := hz9.trans hz
  refine lv_iinc (v := (4 : Int32)) (lv' := [(1, .int (4 : Int32)), (0, .ref a0)]) hx hb dX4_init_36 hl (k := 0) rfl (by decide) (by decide) rfl (fun ls hl => ?_)
  refine lv_goto (tgt := 14) hx hb dX4_init_39 (by decide) ?_
  refine lv_iload_n hx hb dX4_init_14 rfl (lv_at hl 0 rfl) ?_
  refine lv_aload_n hx hb dX4_init_15 rfl (lv_at hl 1 rfl) ?_
  obtain ⟨v21, ev21, hf⟩ := xb hf
  refine xr_getR hx hb hts inX4 hown hKK hP ev21 rfl (by decide) w5 (fun _ h9 => h9) dX4_init_16 ?_
  obtain ⟨v22, ev22, hf⟩ := xb hf
  obtain ⟨v23, ev23, hf⟩ := xb hf
  have ev23 := xeqI_spec ev23
  rw [ev23] at ev22
  refine xr_alen (fun _ => ⟨_, rfl⟩) hx hb hKK hP ev22 dX4_init_19 ?_
  refine lv_icmp_ge (tgt := 42) hx hb dX4_init_20 (by decide) (fun c9 => absurd c9 (by decide)) (fun _ => ?_)
  refine lv_aload_n hx hb dX4_init_23 rfl (lv_at hl 1 rfl) ?_
  obtain ⟨v24, ev24, hf⟩ := xb hf
  refine xr_getR hx hb hts inX4 hown hKK hP ev24 rfl (by decide) w5 (fun _ h9 => h9) dX4_init_24 ?_
  refine lv_iload_n hx hb dX4_init_27 rfl (lv_at hl 0 rfl) ?_
  obtain ⟨h11, eh11, hf⟩ := xl hf
  refine xr_new (nx := (nx + 5)) hx hb hts inX3 tyX3 tyX3_ok hown w4 w6 w7 hKK hP hz hS rfl (fs := [.int 0, .int 0, .int 0, .int 0]) (fun j hj => by rcases (show j = 0 ∨ j = 1 ∨ j = 2 ∨ j = 3 by omega) with rfl | rfl | rfl | rfl <;> rfl) eh11 ⟨Nat.le_of_ble_eq_true rfl, Nat.le_of_ble_eq_true rfl⟩ dX4_init_28 (fun H hP hz hS => ?_)
  refine lv_dup hx hb dX4_init_31 rfl ?_
  refine xc_IN (rest := [.ref (nx + 5), .int (4 : Int32), .ref v24]) ⟨hx, hb, hml, hown, hts⟩ (m_X3_init l B0 G h11 (nx + 5) (nx + 6)) ⟨va_cnB 0 hts gX4_init_X3_init_n17 rfl rfl rfl hNe.2.1 w7 (by decide +kernel) ⟨Nat.le_of_ble_eq_true rfl, Nat.le_of_ble_eq_true rfl⟩, rfl, w8⟩ hKK hNe hP hz hS hl.1 rfl (Nat.le_of_ble_eq_true rfl) dX4_init_32 ⟨Nat.le_of_ble_eq_true rfl, Nat.le_of_ble_eq_true rfl⟩ (fun H locs hP hz hS => ?_)
  obtain ⟨v25, ev25, hf⟩ := xb hf
  obtain ⟨h12, eh12, hf⟩ := xb hf
  refine xr_aast (r := (RX3, TX3, 4)) (fun _ => rfl) rfl hx hb hKK hP hS ev25 eh12 dX4_init_35 (fun H locs hP hz9 hS => ?_)
  have hz := hz9.trans hz
  refine lv_iinc (v := (5 : Int32)) (lv' := [(1, .int (5 : Int32)), (0, .ref a0)]) hx hb dX4_init_36 hl (k := 0) rfl (by decide) (by decide) rfl (fun ls hl => ?_)
  refine lv_goto (tgt := 14) hx hb dX4_init_39 (by decide) ?_
  refine lv_iload_n hx hb dX4_init_14 rfl (lv_at hl 0 rfl) ?_
  refine lv_aload_n hx hb dX4_init_15 rfl (lv_at hl 1 rfl) ?_
  obtain ⟨v26, ev26, hf⟩ := xb hf
  refine xr_getR hx hb hts inX4 hown hKK hP ev26 rfl (by decide) w5 (fun _ h9 => h9) dX4_init_16 ?_
  obtain ⟨v27, ev27, hf⟩ := xb hf
  obtain ⟨v28, ev28, hf⟩ := xb hf
  have ev28 := xeqI_spec ev28
  rw [ev28] at ev27
  refine xr_alen (fun _ => ⟨_, rfl⟩) hx hb hKK hP ev27 dX4_init_19 ?_
  refine lv_icmp_ge (tgt := 42) hx hb dX4_init_20 (by decide) (fun _ => ?_) (fun c9 => absurd (by decide) c9)
  refine lv_aload_n hx hb dX4_init_42 rfl (lv_at hl 1 rfl) ?_
  refine lv_iconst (v := (5 : Int32)) hx hb dX4_init_43 (by decide) ?_
  obtain ⟨h13, eh13, hf⟩ := xl hf
  refine xr_newarr (atype := .int) (nx := (nx + 6)) (N := 5) (x := (5, .inl (fun _ => 0))) rfl (fun _ => rfl) (fun _ _ h9 => h9) hx hb w9 hKK hP hz hS (fun _ => rfl) (by decide) (by decide) (by decide) eh13 ⟨Nat.le_of_ble_eq_true rfl, Nat.le_of_ble_eq_true rfl⟩ dX4_init_44 (fun H hP hz hS => ?_)
  obtain ⟨h14, eh14, hf⟩ := xb hf
  refine xr_putF hx hb hts inX4 tyX4 tyX4_ok nmX4 hown hKK hP hS eh14 rfl (by decide) w10 (fun _ h9 => h9) rfl hnm rfl (tyX4_ok 2 (by decide)) rfl rfl dX4_init_46 (fun H locs hP hz9 hS => ?_)
  have hz := hz9.trans hz
  obtain rfl := Option.some.inj hf
  refine W.widen (k := 7) (n := 30) (Nat.le_of_ble_eq_true rfl) (Nat.le_of_ble_eq_true rfl) ?_
  subst hQ
  exact xe_vN hx hb hr hlocks hKK hP hz hS dX4_init_49
/-- RainReservoir$State() -/
def f_X2_init (h : XH) (a0 nx : Nat) : Option XH :=
  (xpV h a0 2 0 (.int (10000 : Int32))).bind fun h1 =>
  (xpV h1 a0 2 4 (.int (3 : Int32))).bind fun h2 =>
  olet (xup h2 nx (some (.inl (3, 6, .inr (.inr (.inr (.inr (fun _ => none)))))))) fun h3 =>
  (xpV h3 a0 2 6 (.ref nx)).bind fun h4 =>
  (xgR h4 a0 2 6).bind fun v1 =>
  (xlen h4 v1 3).bind fun v2 =>
  (xeqI v2 (6 : Int32)).bind fun v3 =>
  (xgR h4 a0 2 6).bind fun v4 =>
  olet (xup h4 (nx + 1) (some (.inr (1, [.int 0, .int 0, .int 0, .int 0, .int 0, .int 0])))) fun h5 =>
  (xis h5 (nx + 1) 1).bind fun v5 =>
  (xastR h5 v4 3 (0 : Int32) (nx + 1)).bind fun h6 =>
  (xgR h6 a0 2 6).bind fun v6 =>
  (xlen h6 v6 3).bind fun v7 =>
  (xeqI v7 (6 : Int32)).bind fun v8 =>
  (xgR h6 a0 2 6).bind fun v9 =>
  olet (xup h6 (nx + 2) (some (.inr (1, [.int 0, .int 0, .int 0, .int 0, .int 0, .int 0])))) fun h7 =>
  (xis h7 (nx + 2) 1).bind fun v10 =>
  (xastR h7 v9 3 (1 : Int32) (nx + 2)).bind fun h8 =>
  (xgR h8 a0 2 6).bind fun v11 =>
  (xlen h8 v11 3).bind fun v12 =>
  (xeqI v12 (6 : Int32)).bind fun v13 =>
  (xgR h8 a0 2 6).bind fun v14 =>
  olet (xup h8 (nx + 3) (some (.inr (1, [.int 0, .int 0, .int 0, .int 0, .int 0, .int 0])))) fun h9 =>
  (xis h9 (nx + 3) 1).bind fun v15 =>
  (xastR h9 v14 3 (2 : Int32) (nx + 3)).bind fun h10 =>
  (xgR h10 a0 2 6).bind fun v16 =>
  (xlen h10 v16 3).bind fun v17 =>
  (xeqI v17 (6 : Int32)).bind fun v18 =>
  (xgR h10 a0 2 6).bind fun v19 =>
  olet (xup h10 (nx + 4) (some (.inr (1, [.int 0, .int 0, .int 0, .int 0, .int 0, .int 0])))) fun h11 =>
  (xis h11 (nx + 4) 1).bind fun v20 =>
  (xastR h11 v19 3 (3 : Int32) (nx + 4)).bind fun h12 =>
  (xgR h12 a0 2 6).bind fun v21 =>
  (xlen h12 v21 3).bind fun v22 =>
  (xeqI v22 (6 : Int32)).bind fun v23 =>
  (xgR h12 a0 2 6).bind fun v24 =>
  olet (xup h12 (nx + 5) (some (.inr (1, [.int 0, .int 0, .int 0, .int 0, .int 0, .int 0])))) fun h13 =>
  (xis h13 (nx + 5) 1).bind fun v25 =>
  (xastR h13 v24 3 (4 : Int32) (nx + 5)).bind fun h14 =>
  (xgR h14 a0 2 6).bind fun v26 =>
  (xlen h14 v26 3).bind fun v27 =>
  (xeqI v27 (6 : Int32)).bind fun v28 =>
  (xgR h14 a0 2 6).bind fun v29 =>
  olet (xup h14 (nx + 6) (some (.inr (1, [.int 0, .int 0, .int 0, .int 0, .int 0, .int 0])))) fun h15 =>
  (xis h15 (nx + 6) 1).bind fun v30 =>
  (xastR h15 v29 3 (5 : Int32) (nx + 6)).bind fun h16 =>
  (xgR h16 a0 2 6).bind fun v31 =>
  (xlen h16 v31 3).bind fun v32 =>
  (xeqI v32 (6 : Int32)).bind fun v33 =>
  olet (xup h16 (nx + 7) (some (.inr (4, [.null, .int 0, .null])))) fun h17 =>
  obind1 (f_X4_init h17 (nx + 7) (nx + 8)) fun h18 =>
  (xpV h18 a0 2 8 (.ref (nx + 7))).bind fun h19 =>
  olet (xup h19 (nx + 15) (some (.inl (0, (100, .inl (fun _ => 0)))))) fun h20 =>
  (xpV h20 a0 2 9 (.ref (nx + 15))).bind fun h21 =>
  olet (xup h21 (nx + 16) (some (.inl (0, (1000, .inl (fun _ => 0)))))) fun h22 =>
  (xpV h22 a0 2 15 (.ref (nx + 16))).bind fun h23 =>
  some h23
abbrev rmX2_init : Room := { frames := 3, cells := 17, slots := 1175, locals := 53 }
set_option maxHeartbeats 4000000 in
set_option maxRecDepth 100000 in
theorem m_X2_init (l : Launch) (B0 : Nat) (G : XG) (h hE : XH) (a0 nx : Nat) (hf : f_X2_init h a0 nx = some hE) : Met l yX2_init wsX2_init rmX2_init (va_Pc [.ref a0] (xUN B0 G h nx)) (xQN B0 G hE (nx + 17)) 17 1175 (xA B0) := by
  refine xMetN (cc := cX2_init) (maxL := 2) (by decide) rfl (Nat.le_of_ble_eq_true rfl) ?_
  intro p e s m args below meth c ls hx hb hr hml hown hlocks hnm hts hKK hNe hP hz hl
  have hown : s.vm.findClass RX2 = some m.cls := hown
  have hl : lv_has ls 2 [(0, .ref a0)] := hl
  have hS : va_S (xA B0) s.heap s.heap [] := va_S.rf
  have inX1 : ∀ w ∈ wsX10, w ∈ wsX2_init := by decide +kernel
  have inX2 : ∀ w ∈ wsX20, w ∈ wsX2_init := by decide +kernel
  have inX4 : ∀ w ∈ wsX40, w ∈ wsX2_init := by decide +kernel
  have w1 := hts (.methodLink RX2 3 objectInit) (by decide +kernel)
  have w2 := hts (.instanceMethod objectInit) (by decide +kernel)
  have w3 := hts (.code objectInit ⟨#[0xb1]⟩ 1 none) (by decide +kernel)
  have w4 := hts (.fieldLink RX2 9 "RainReservoir$State" "capacity" "I") (by decide +kernel)
  have w5 := hts (.fieldLink RX2 15 "RainReservoir$State" "dryLimit" "I") (by decide +kernel)
  have w6 := hts (.classLink RX2 18 RX1) (by decide +kernel)
  have w7 := hts (.fieldLink RX2 20 "RainReservoir$State" "roofs" "[LRainReservoir$Roof;") (by decide +kernel)
  have w8 := hts (.instantiable RX1 6) (by decide +kernel)
  have w9 := hts (.initialized RX1) (by decide +kernel)
  have w10 := hts (.instanceMethod yX1_init) (by decide +kernel)
  have w11 := hts (.classLink RX2 25 RX4) (by decide +kernel)
  have w12 := hts (.instantiable RX4 3) (by decide +kernel)
  have w13 := hts (.initialized RX4) (by decide +kernel)
  have w14 := hts (.methodLink RX2 27 yX4_init) (by decide +kernel)
  have w15 := hts (.instanceMethod yX4_init) (by decide +kernel)
  have w16 := hts (.fieldLink RX2 28 "RainReservoir$State" "users" "LRainReservoir$Users;") (by decide +kernel)
  have w17 := hts (.arrayClass .int) (by decide +kernel)
  have w18 := hts (.fieldLink RX2 32 "RainReservoir$State" "rains" "[I") (by decide +kernel)
  have w19 := hts (.fieldLink RX2 36 "RainReservoir$State" "accounts" "[I") (by decide +kernel)
  generalize hQ : MQ below (xQN B0 G hE (nx + 17)) args s 17 1175 (xA B0) = Q
  unfold f_X2_init at hf
  refine lv_aload_n hx hb dX2_init_0 rfl (lv_at hl 0 rfl) ?_
  refine W.objInit hx hb hown w1 w2 w3 rfl (by rw [hml]; exact hl.1) rfl dX2_init_1 (Nat.le_of_ble_eq_true rfl) (Nat.le_of_ble_eq_true rfl) ?_
  refine W.eq (g2 := F0 m 4 ls []) rfl ?_
  refine lv_aload_n hx hb dX2_init_4 rfl (lv_at hl 0 rfl) ?_
  refine lv_sipush (v := (10000 : Int32)) hx hb dX2_init_5 (by decide) ?_
  obtain ⟨h1, eh1, hf⟩ := xb hf
  refine xr_put hx hb hts inX2 tyX2 tyX2_ok nmX2 hown hKK hP hS eh1 rfl (by decide) w4 (fun _ h9 => h9) rfl (tyX2_ok 0 (by decide)) rfl rfl dX2_init_8 (fun H locs hP hz9 hS => ?_)
  have hz := hz9.trans hz
  refine lv_aload_n hx hb dX2_init_11 rfl (lv_at hl 0 rfl) ?_
  refine lv_iconst (v := (3 : Int32)) hx hb dX2_init_12 (by decide) ?_
  obtain ⟨h2, eh2, hf⟩ := xb hf
  refine xr_put hx hb hts inX2 tyX2 tyX2_ok nmX2 hown hKK hP hS eh2 rfl (by decide) w5 (fun _ h9 => h9) rfl (tyX2_ok 4 (by decide)) rfl rfl dX2_init_13 (fun H locs hP hz9 hS => ?_)
  have hz := hz9.trans hz
  refine lv_aload_n hx hb dX2_init_16 rfl (lv_at hl 0 rfl) ?_
  refine lv_bipush (v := (6 : Int32)) hx hb dX2_init_17 (by decide) ?_
  obtain ⟨h3, eh3, hf⟩ := xl hf
  refine xr_anew (nx := nx) (N := 6) (fun _ => rfl) hx hb hown w6 hNe.2.2.1 hKK hP hz hS (by decide) (by decide) (by decide) eh3 ⟨Nat.le_of_ble_eq_true rfl, Nat.le_of_ble_eq_true rfl⟩ dX2_init_19 (fun H hP hz hS => ?_)
  obtain ⟨h4, eh4, hf⟩ := xb hf
  refine xr_putF hx hb hts inX2 tyX2 tyX2_ok nmX2 hown hKK hP hS eh4 rfl (by decide) w7 (fun _ h9 => h9) rfl hnm rfl (tyX2_ok 6 (by decide)) rfl rfl dX2_init_22 (fun H locs hP hz9 hS => ?_)
  have hz := hz9.trans hz
  refine lv_iconst (v := (0 : Int32)) hx hb dX2_init_25 (by decide) ?_
  refine lv_istore_n (lv' := [(1, .int (0 : Int32)), (0, .ref a0)]) hx hb dX2_init_26 rfl hl (by decide) rfl (fun ls hl => ?_)
  refine lv_iload_n hx hb dX2_init_27 rfl (lv_at hl 0 rfl) ?_
  refine lv_aload_n hx hb dX2_init_28 rfl (lv_at hl 1 rfl) ?_
  obtain ⟨v1, ev1, hf⟩ := xb hf
  refine xr_getR hx hb hts inX2 hown hKK hP ev1 rfl (by decide) w7 (fun _ h9 => h9) dX2_init_29 ?_
  obtain ⟨v2, ev2, hf⟩ := xb hf
  obtain ⟨v3, ev3, hf⟩ := xb hf
  have ev3 := xeqI_spec ev3
  rw [ev3] at ev2
  refine xr_alen (fun _ => ⟨_, rfl⟩) hx hb hKK hP ev2 dX2_init_32 ?_
  refine lv_icmp_ge (tgt := 55) hx hb dX2_init_33 (by decide) (fun c9 => absurd c9 (by decide)) (fun _ => ?_)
  refine lv_aload_n hx hb dX2_init_36 rfl (lv_at hl 1 rfl) ?_
  obtain ⟨v4, ev4, hf⟩ := xb hf
  refine xr_getR hx hb hts inX2 hown hKK hP ev4 rfl (by decide) w7 (fun _ h9 => h9) dX2_init_37 ?_
  refine lv_iload_n hx hb dX2_init_40 rfl (lv_at hl 0 rfl) ?_
  obtain ⟨h5, eh5, hf⟩ := xl hf
  refine xr_new (nx := (nx + 1)) hx hb hts inX1 tyX1 tyX1_ok hown w6 w8 w9 hKK hP hz hS rfl (fs := [.int 0, .int 0, .int 0, .int 0, .int 0, .int 0]) (fun j hj => by rcases (show j = 0 ∨ j = 1 ∨ j = 2 ∨ j = 3 ∨ j = 4 ∨ j = 5 by omega) with rfl | rfl | rfl | rfl | rfl | rfl <;> rfl) eh5 ⟨Nat.le_of_ble_eq_true rfl, Nat.le_of_ble_eq_true rfl⟩ dX2_init_41 (fun H hP hz hS => ?_)
  refine lv_dup hx hb dX2_init_44 rfl ?_
  refine xc_IN (rest := [.ref (nx + 1), .int (0 : Int32), .ref v4]) ⟨hx, hb, hml, hown, hts⟩ (m_X1_init l B0 G h5 (nx + 1) (nx + 2)) ⟨va_cnB 0 hts gX2_init_X1_init_n24 rfl rfl rfl hNe.1 w9 (by decide +kernel) ⟨Nat.le_of_ble_eq_true rfl, Nat.le_of_ble_eq_true rfl⟩, rfl, w10⟩ hKK hNe hP hz hS hl.1 rfl (Nat.le_of_ble_eq_true rfl) dX2_init_45 ⟨Nat.le_of_ble_eq_true rfl, Nat.le_of_ble_eq_true rfl⟩ (fun H locs hP hz hS => ?_)
  obtain ⟨v5, ev5, hf⟩ := xb hf
  obtain ⟨h6, eh6, hf⟩ := xb hf
  refine xr_aast (r := (RX1, TX1, 6)) (fun _ => rfl) rfl hx hb hKK hP hS ev5 eh6 dX2_init_48 (fun H locs hP hz9 hS => ?_)
  have hz := hz9.trans hz
  refine lv_iinc (v := (1 : Int32)) (lv' := [(1, .int (1 : Int32)), (0, .ref a0)]) hx hb dX2_init_49 hl (k := 0) rfl (by decide) (by decide) rfl (fun ls hl => ?_)
  refine lv_goto (tgt := 27) hx hb dX2_init_52 (by decide) ?_
  refine lv_iload_n hx hb dX2_init_27 rfl (lv_at hl 0 rfl) ?_
  refine lv_aload_n hx hb dX2_init_28 rfl (lv_at hl 1 rfl) ?_
  obtain ⟨v6, ev6, hf⟩ := xb hf
  refine xr_getR hx hb hts inX2 hown hKK hP ev6 rfl (by decide) w7 (fun _ h9 => h9) dX2_init_29 ?_
  obtain ⟨v7, ev7, hf⟩ := xb hf
  obtain ⟨v8, ev8, hf⟩ := xb hf
  have ev8 := xeqI_spec ev8
  rw [ev8] at ev7
  refine xr_alen (fun _ => ⟨_, rfl⟩) hx hb hKK hP ev7 dX2_init_32 ?_
  refine lv_icmp_ge (tgt := 55) hx hb dX2_init_33 (by decide) (fun c9 => absurd c9 (by decide)) (fun _ => ?_)
  refine lv_aload_n hx hb dX2_init_36 rfl (lv_at hl 1 rfl) ?_
  obtain ⟨v9, ev9, hf⟩ := xb hf
  refine xr_getR hx hb hts inX2 hown hKK hP ev9 rfl (by decide) w7 (fun _ h9 => h9) dX2_init_37 ?_
  refine lv_iload_n hx hb dX2_init_40 rfl (lv_at hl 0 rfl) ?_
  obtain ⟨h7, eh7, hf⟩ := xl hf
  refine xr_new (nx := (nx + 2)) hx hb hts inX1 tyX1 tyX1_ok hown w6 w8 w9 hKK hP hz hS rfl (fs := [.int 0, .int 0, .int 0, .int 0, .int 0, .int 0]) (fun j hj => by rcases (show j = 0 ∨ j = 1 ∨ j = 2 ∨ j = 3 ∨ j = 4 ∨ j = 5 by omega) with rfl | rfl | rfl | rfl | rfl | rfl <;> rfl) eh7 ⟨Nat.le_of_ble_eq_true rfl, Nat.le_of_ble_eq_true rfl⟩ dX2_init_41 (fun H hP hz hS => ?_)
  refine lv_dup hx hb dX2_init_44 rfl ?_
  refine xc_IN (rest := [.ref (nx + 2), .int (1 : Int32), .ref v9]) ⟨hx, hb, hml, hown, hts⟩ (m_X1_init l B0 G h7 (nx + 2) (nx + 3)) ⟨va_cnB 0 hts gX2_init_X1_init_n24 rfl rfl rfl hNe.1 w9 (by decide +kernel) ⟨Nat.le_of_ble_eq_true rfl, Nat.le_of_ble_eq_true rfl⟩, rfl, w10⟩ hKK hNe hP hz hS hl.1 rfl (Nat.le_of_ble_eq_true rfl) dX2_init_45 ⟨Nat.le_of_ble_eq_true rfl, Nat.le_of_ble_eq_true rfl⟩ (fun H locs hP hz hS => ?_)
  obtain ⟨v10, ev10, hf⟩ := xb hf
  obtain ⟨h8, eh8, hf⟩ := xb hf
  refine xr_aast (r := (RX1, TX1, 6)) (fun _ => rfl) rfl hx hb hKK hP hS ev10 eh8 dX2_init_48 (fun H locs hP hz9 hS => ?_)
  have hz := hz9.trans hz
  refine lv_iinc (v := (2 : Int32)) (lv' := [(1, .int (2 : Int32)), (0, .ref a0)]) hx hb dX2_init_49 hl (k := 0) rfl (by decide) (by decide) rfl (fun ls hl => ?_)
  refine lv_goto (tgt := 27) hx hb dX2_init_52 (by decide) ?_
  refine lv_iload_n hx hb dX2_init_27 rfl (lv_at hl 0 rfl) ?_
  refine lv_aload_n hx hb dX2_init_28 rfl (lv_at hl 1 rfl) ?_
  obtain ⟨v11, ev11, hf⟩ := xb hf
  refine xr_getR hx hb hts inX2 hown hKK hP ev11 rfl (by decide) w7 (fun _ h9 => h9) dX2_init_29 ?_
  obtain ⟨v12, ev12, hf⟩ := xb hf
  obtain ⟨v13, ev13, hf⟩ := xb hf
  have ev13 := xeqI_spec ev13
  rw [ev13] at ev12
  refine xr_alen (fun _ => ⟨_, rfl⟩) hx hb hKK hP ev12 dX2_init_32 ?_
  refine lv_icmp_ge (tgt := 55) hx hb dX2_init_33 (by decide) (fun c9 => absurd c9 (by decide)) (fun _ => ?_)
  refine lv_aload_n hx hb dX2_init_36 rfl (lv_at hl 1 rfl) ?_
  obtain ⟨v14, ev14, hf⟩ := xb hf
  refine xr_getR hx hb hts inX2 hown hKK hP ev14 rfl (by decide) w7 (fun _ h9 => h9) dX2_init_37 ?_
  refine lv_iload_n hx hb dX2_init_40 rfl (lv_at hl 0 rfl) ?_
  obtain ⟨h9, eh9, hf⟩ := xl hf
  refine xr_new (nx := (nx + 3)) hx hb hts inX1 tyX1 tyX1_ok hown w6 w8 w9 hKK hP hz hS rfl (fs := [.int 0, .int 0, .int 0, .int 0, .int 0, .int 0]) (fun j hj => by rcases (show j = 0 ∨ j = 1 ∨ j = 2 ∨ j = 3 ∨ j = 4 ∨ j = 5 by omega) with rfl | rfl | rfl | rfl | rfl | rfl <;> rfl) eh9 ⟨Nat.le_of_ble_eq_true rfl, Nat.le_of_ble_eq_true rfl⟩ dX2_init_41 (fun H hP hz hS => ?_)
  refine lv_dup hx hb dX2_init_44 rfl ?_
  refine xc_IN (rest := [.ref (nx + 3), .int (2 : Int32), .ref v14]) ⟨hx, hb, hml, hown, hts⟩ (m_X1_init l B0 G h9 (nx + 3) (nx + 4)) ⟨va_cnB 0 hts gX2_init_X1_init_n24 rfl rfl rfl hNe.1 w9 (by decide +kernel) ⟨Nat.le_of_ble_eq_true rfl, Nat.le_of_ble_eq_true rfl⟩, rfl, w10⟩ hKK hNe hP hz hS hl.1 rfl (Nat.le_of_ble_eq_true rfl) dX2_init_45 ⟨Nat.le_of_ble_eq_true rfl, Nat.le_of_ble_eq_true rfl⟩ (fun H locs hP hz hS => ?_)
  obtain ⟨v15, ev15, hf⟩ := xb hf
  obtain ⟨h10, eh10, hf⟩ := xb hf
  refine xr_aast (r := (RX1, TX1, 6)) (fun _ => rfl) rfl hx hb hKK hP hS ev15 eh10 dX2_init_48 (fun H locs hP hz9 hS => ?_)
  have hz := hz9.trans hz
  refine lv_iinc (v := (3 : Int32)) (lv' := [(1, .int (3 : Int32)), (0, .ref a0)]) hx hb dX2_init_49 hl (k := 0) rfl (by decide) (by decide) rfl (fun ls hl => ?_)
  refine lv_goto (tgt := 27) hx hb dX2_init_52 (by decide) ?_
  refine lv_iload_n hx hb dX2_init_27 rfl (lv_at hl 0 rfl) ?_
  refine lv_aload_n hx hb dX2_init_28 rfl (lv_at hl 1 rfl) ?_
  obtain ⟨v16, ev16, hf⟩ := xb hf
  refine xr_getR hx hb hts inX2 hown hKK hP ev16 rfl (by decide) w7 (fun _ h9 => h9) dX2_init_29 ?_
  obtain ⟨v17, ev17, hf⟩ := xb hf
  obtain ⟨v18, ev18, hf⟩ := xb hf
  have ev18 := xeqI_spec ev18
  rw [ev18] at ev17
  refine xr_alen (fun _ => ⟨_, rfl⟩) hx hb hKK hP ev17 dX2_init_32 ?_
  refine lv_icmp_ge (tgt := 55) hx hb dX2_init_33 (by decide) (fun c9 => absurd c9 (by decide)) (fun _ => ?_)
  refine lv_aload_n hx hb dX2_init_36 rfl (lv_at hl 1 rfl) ?_
  obtain ⟨v19, ev19, hf⟩ := xb hf
  refine xr_getR hx hb hts inX2 hown hKK hP ev19 rfl (by decide) w7 (fun _ h9 => h9) dX2_init_37 ?_
  refine lv_iload_n hx hb dX2_init_40 rfl (lv_at hl 0 rfl) ?_
  obtain ⟨h11, eh11, hf⟩ := xl hf
  refine xr_new (nx := (nx + 4)) hx hb hts inX1 tyX1 tyX1_ok hown w6 w8 w9 hKK hP hz hS rfl (fs := [.int 0, .int 0, .int 0, .int 0, .int 0, .int 0]) (fun j hj => by rcases (show j = 0 ∨ j = 1 ∨ j = 2 ∨ j = 3 ∨ j = 4 ∨ j = 5 by omega) with rfl | rfl | rfl | rfl | rfl | rfl <;> rfl) eh11 ⟨Nat.le_of_ble_eq_true rfl, Nat.le_of_ble_eq_true rfl⟩ dX2_init_41 (fun H hP hz hS => ?_)
  refine lv_dup hx hb dX2_init_44 rfl ?_
  refine xc_IN (rest := [.ref (nx + 4), .int (3 : Int32), .ref v19]) ⟨hx, hb, hml, hown, hts⟩ (m_X1_init l B0 G h11 (nx + 4) (nx + 5)) ⟨va_cnB 0 hts gX2_init_X1_init_n24 rfl rfl rfl hNe.1 w9 (by decide +kernel) ⟨Nat.le_of_ble_eq_true rfl, Nat.le_of_ble_eq_true rfl⟩, rfl, w10⟩ hKK hNe hP hz hS hl.1 rfl (Nat.le_of_ble_eq_true rfl) dX2_init_45 ⟨Nat.le_of_ble_eq_true rfl, Nat.le_of_ble_eq_true rfl⟩ (fun H locs hP hz hS => ?_)
  obtain ⟨v20, ev20, hf⟩ := xb hf
  obtain ⟨h12, eh12, hf⟩ := xb hf
  refine xr_aast (r := (RX1, TX1, 6)) (fun _ => rfl) rfl hx hb hKK hP hS ev20 eh12 dX2_init_48 (fun H locs hP hz9 hS => ?_)
  have hz := hz9.trans hz
  refine lv_iinc (v := (4 : Int32)) (lv' := [(1, .int (4 : Int32)), (0, .ref a0)]) hx hb dX2_init_49 hl (k := 0) rfl (by decide) (by decide) rfl (fun ls hl => ?_)
  refine lv_goto (tgt := 27) hx hb dX2_init_52 (by decide) ?_
  refine lv_iload_n hx hb dX2_init_27 rfl (lv_at hl 0 rfl) ?_
  refine lv_aload_n hx hb dX2_init_28 rfl (lv_at hl 1 rfl) ?_
  obtain ⟨v21, ev21, hf⟩ := xb hf
  refine xr_getR hx hb hts inX2 hown hKK hP ev21 rfl (by decide) w7 (fun _ h9 => h9) dX2_init_29 ?_
  obtain ⟨v22, ev22, hf⟩ := xb hf
  obtain ⟨v23, ev23, hf⟩ := xb hf
  have ev23 := xeqI_spec ev23
  rw [ev23] at ev22
  refine xr_alen (fun _ => ⟨_, rfl⟩) hx hb hKK hP ev22 dX2_init_32 ?_
  refine lv_icmp_ge (tgt := 55) hx hb dX2_init_33 (by decide) (fun c9 => absurd c9 (by decide)) (fun _ => ?_)
  refine lv_aload_n hx hb dX2_init_36 rfl (lv_at hl 1 rfl) ?_
  obtain ⟨v24, ev24, hf⟩ := xb hf
  refine xr_getR hx hb hts inX2 hown hKK hP ev24 rfl (by decide) w7 (fun _ h9 => h9) dX2_init_37 ?_
  refine lv_iload_n hx hb dX2_init_40 rfl (lv_at hl 0 rfl) ?_
  obtain ⟨h13, eh13, hf⟩ := xl hf
  refine xr_new (nx := (nx + 5)) hx hb hts inX1 tyX1 tyX1_ok hown w6 w8 w9 hKK hP hz hS rfl (fs := [.int 0, .int 0, .int 0, .int 0, .int 0, .int 0]) (fun j hj => by rcases (show j = 0 ∨ j = 1 ∨ j = 2 ∨ j = 3 ∨ j = 4 ∨ j = 5 by omega) with rfl | rfl | rfl | rfl | rfl | rfl <;> rfl) eh13 ⟨Nat.le_of_ble_eq_true rfl, Nat.le_of_ble_eq_true rfl⟩ dX2_init_41 (fun H hP hz hS => ?_)
  refine lv_dup hx hb dX2_init_44 rfl ?_
  refine xc_IN (rest := [.ref (nx + 5), .int (4 : Int32), .ref v24]) ⟨hx, hb, hml, hown, hts⟩ (m_X1_init l B0 G h13 (nx + 5) (nx + 6)) ⟨va_cnB 0 hts gX2_init_X1_init_n24 rfl rfl rfl hNe.1 w9 (by decide +kernel) ⟨Nat.le_of_ble_eq_true rfl, Nat.le_of_ble_eq_true rfl⟩, rfl, w10⟩ hKK hNe hP hz hS hl.1 rfl (Nat.le_of_ble_eq_true rfl) dX2_init_45 ⟨Nat.le_of_ble_eq_true rfl, Nat.le_of_ble_eq_true rfl⟩ (fun H locs hP hz hS => ?_)
  obtain ⟨v25, ev25, hf⟩ := xb hf
  obtain ⟨h14, eh14, hf⟩ := xb hf
  refine xr_aast (r := (RX1, TX1, 6)) (fun _ => rfl) rfl hx hb hKK hP hS ev25 eh14 dX2_init_48 (fun H locs hP hz9 hS => ?_)
  have hz := hz9.trans hz
  refine lv_iinc (v := (5 : Int32)) (lv' := [(1, .int (5 : Int32)), (0, .ref a0)]) hx hb dX2_init_49 hl (k := 0) rfl (by decide) (by decide) rfl (fun ls hl => ?_)
  refine lv_goto (tgt := 27) hx hb dX2_init_52 (by decide) ?_
  refine lv_iload_n hx hb dX2_init_27 rfl (lv_at hl 0 rfl) ?_
  refine lv_aload_n hx hb dX2_init_28 rfl (lv_at hl 1 rfl) ?_
  obtain ⟨v26, ev26, hf⟩ := xb hf
  refine xr_getR hx hb hts inX2 hown hKK hP ev26 rfl (by decide) w7 (fun _ h9 => h9) dX2_init_29 ?_
  obtain ⟨v27, ev27, hf⟩ := xb hf
  obtain ⟨v28, ev28, hf⟩ := xb hf
  have ev28 := xeqI_spec ev28
  rw [ev28] at ev27
  refine xr_alen (fun _ => ⟨_, rfl⟩) hx hb hKK hP ev27 dX2_init_32 ?_
  refine lv_icmp_ge (tgt := 55) hx hb dX2_init_33 (by decide) (fun c9 => absurd c9 (by decide)) (fun _ => ?_)
  refine lv_aload_n hx hb dX2_init_36 rfl (lv_at hl 1 rfl) ?_
  obtain ⟨v29, ev29, hf⟩ := xb hf
  refine xr_getR hx hb hts inX2 hown hKK hP ev29 rfl (by decide) w7 (fun _ h9 => h9) dX2_init_37 ?_
  refine lv_iload_n hx hb dX2_init_40 rfl (lv_at hl 0 rfl) ?_
  obtain ⟨h15, eh15, hf⟩ := xl hf
  refine xr_new (nx := (nx + 6)) hx hb hts inX1 tyX1 tyX1_ok hown w6 w8 w9 hKK hP hz hS rfl (fs := [.int 0, .int 0, .int 0, .int 0, .int 0, .int 0]) (fun j hj => by rcases (show j = 0 ∨ j = 1 ∨ j = 2 ∨ j = 3 ∨ j = 4 ∨ j = 5 by omega) with rfl | rfl | rfl | rfl | rfl | rfl <;> rfl) eh15 ⟨Nat.le_of_ble_eq_true rfl, Nat.le_of_ble_eq_true rfl⟩ dX2_init_41 (fun H hP hz hS => ?_)
  refine lv_dup hx hb dX2_init_44 rfl ?_
  refine xc_IN (rest := [.ref (nx + 6), .int (5 : Int32), .ref v29]) ⟨hx, hb, hml, hown, hts⟩ (m_X1_init l B0 G h15 (nx + 6) (nx + 7)) ⟨va_cnB 0 hts gX2_init_X1_init_n24 rfl rfl rfl hNe.1 w9 (by decide +kernel) ⟨Nat.le_of_ble_eq_true rfl, Nat.le_of_ble_eq_true rfl⟩, rfl, w10⟩ hKK hNe hP hz hS hl.1 rfl (Nat.le_of_ble_eq_true rfl) dX2_init_45 ⟨Nat.le_of_ble_eq_true rfl, Nat.le_of_ble_eq_true rfl⟩ (fun H locs hP hz hS => ?_)
  obtain ⟨v30, ev30, hf⟩ := xb hf
  obtain ⟨h16, eh16, hf⟩ := xb hf
  refine xr_aast (r := (RX1, TX1, 6)) (fun _ => rfl) rfl hx hb hKK hP hS ev30 eh16 dX2_init_48 (fun H locs hP hz9 hS => ?_)
  have hz := hz9.trans hz
  refine lv_iinc (v := (6 : Int32)) (lv' := [(1, .int (6 : Int32)), (0, .ref a0)]) hx hb dX2_init_49 hl (k := 0) rfl (by decide) (by decide) rfl (fun ls hl => ?_)
  refine lv_goto (tgt := 27) hx hb dX2_init_52 (by decide) ?_
  refine lv_iload_n hx hb dX2_init_27 rfl (lv_at hl 0 rfl) ?_
  refine lv_aload_n hx hb dX2_init_28 rfl (lv_at hl 1 rfl) ?_
  obtain ⟨v31, ev31, hf⟩ := xb hf
  refine xr_getR hx hb hts inX2 hown hKK hP ev31 rfl (by decide) w7 (fun _ h9 => h9) dX2_init_29 ?_
  obtain ⟨v32, ev32, hf⟩ := xb hf
  obtain ⟨v33, ev33, hf⟩ := xb hf
  have ev33 := xeqI_spec ev33
  rw [ev33] at ev32
  refine xr_alen (fun _ => ⟨_, rfl⟩) hx hb hKK hP ev32 dX2_init_32 ?_
  refine lv_icmp_ge (tgt := 55) hx hb dX2_init_33 (by decide) (fun _ => ?_) (fun c9 => absurd (by decide) c9)
  refine lv_aload_n hx hb dX2_init_55 rfl (lv_at hl 1 rfl) ?_
  obtain ⟨h17, eh17, hf⟩ := xl hf
  refine xr_new (nx := (nx + 7)) hx hb hts inX4 tyX4 tyX4_ok hown w11 w12 w13 hKK hP hz hS rfl (fs := [.null, .int 0, .null]) (fun j hj => by rcases (show j = 0 ∨ j = 1 ∨ j = 2 by omega) with rfl | rfl | rfl <;> rfl) eh17 ⟨Nat.le_of_ble_eq_true rfl, Nat.le_of_ble_eq_true rfl⟩ dX2_init_56 (fun H hP hz hS => ?_)
  refine lv_dup hx hb dX2_init_59 rfl ?_
  obtain ⟨h18, eh18, hf⟩ := xb1 hf
  refine xc_I (rest := [.ref (nx + 7), .ref a0]) ⟨hx, hb, hml, hown, hts⟩ (m_X4_init l B0 G h17 h18 (nx + 7) (nx + 8) eh18) (cwI 0 hts gX2_init_X4_init rfl rfl rfl w13 w14 w15 rfl (by decide +kernel) ⟨Nat.le_of_ble_eq_true rfl, Nat.le_of_ble_eq_true rfl⟩) hKK hNe hP hz hS hl.1 rfl (Nat.le_of_ble_eq_true rfl) dX2_init_60 ⟨Nat.le_of_ble_eq_true rfl, Nat.le_of_ble_eq_true rfl⟩ (fun H locs hP hz hS => ?_)
  obtain ⟨h19, eh19, hf⟩ := xb hf
  refine xr_putF hx hb hts inX2 tyX2 tyX2_ok nmX2 hown hKK hP hS eh19 rfl (by decide) w16 (fun _ h9 => h9) rfl hnm rfl (tyX2_ok 8 (by decide)) rfl rfl dX2_init_63 (fun H locs hP hz9 hS => ?_)
  have hz := hz9.trans hz
  refine lv_aload_n hx hb dX2_init_66 rfl (lv_at hl 1 rfl) ?_
  refine lv_bipush (v := (100 : Int32)) hx hb dX2_init_67 (by decide) ?_
  obtain ⟨h20, eh20, hf⟩ := xl hf
  refine xr_newarr (atype := .int) (nx := (nx + 15)) (N := 100) (x := (100, .inl (fun _ => 0))) rfl (fun _ => rfl) (fun _ _ h9 => h9) hx hb w17 hKK hP hz hS (fun _ => rfl) (by decide) (by decide) (by decide) eh20 ⟨Nat.le_of_ble_eq_true rfl, Nat.le_of_ble_eq_true rfl⟩ dX2_init_69 (fun H hP hz hS => ?_)
  obtain ⟨h21, eh21, hf⟩ := xb hf
  refine xr_putF hx hb hts inX2 tyX2 tyX2_ok nmX2 hown hKK hP hS eh21 rfl (by decide) w18 (fun _ h9 => h9) rfl hnm rfl (tyX2_ok 9 (by decide)) rfl rfl dX2_init_71 (fun H locs hP hz9 hS => ?_)
  have hz := hz9.trans hz
  refine lv_aload_n hx hb dX2_init_74 rfl (lv_at hl 1 rfl) ?_
  refine lv_sipush (v := (1000 : Int32)) hx hb dX2_init_75 (by decide) ?_
  obtain ⟨h22, eh22, hf⟩ := xl hf
  refine xr_newarr (atype := .int) (nx := (nx + 16)) (N := 1000) (x := (1000, .inl (fun _ => 0))) rfl (fun _ => rfl) (fun _ _ h9 => h9) hx hb w17 hKK hP hz hS (fun _ => rfl) (by decide) (by decide) (by decide) eh22 ⟨Nat.le_of_ble_eq_true rfl, Nat.le_of_ble_eq_true rfl⟩ dX2_init_78 (fun H hP hz hS => ?_)
  obtain ⟨h23, eh23, hf⟩ := xb hf
  refine xr_putF hx hb hts inX2 tyX2 tyX2_ok nmX2 hown hKK hP hS eh23 rfl (by decide) w19 (fun _ h9 => h9) rfl hnm rfl (tyX2_ok 15 (by decide)) rfl rfl dX2_init_80 (fun H locs hP hz9 hS => ?_)
  have hz := hz9.trans hz
  obtain rfl := Option.some.inj hf
  refine W.widen (k := 17) (n := 1175) (Nat.le_of_ble_eq_true rfl) (Nat.le_of_ble_eq_true rfl) ?_
  subst hQ
  exact xe_vN hx hb hr hlocks hKK hP hz hS dX2_init_83
/-- RainReservoir$RainText() -/
def f_X0_init (h : XH) (a0 nx : Nat) : Option XH :=
  olet (xup h nx (some (.inl (1, (120, .inl (fun _ => 0)))))) fun h1 =>
  (xpV h1 a0 0 0 (.ref nx)).bind fun h2 =>
  olet (xup h2 (nx + 1) (some (.inl (0, (100, .inl (fun _ => 0)))))) fun h3 =>
  (xpV h3 a0 0 2 (.ref (nx + 1))).bind fun h4 =>
  some h4
abbrev rmX0_init : Room := { frames := 1, cells := 2, slots := 220, locals := 12 }
set_option maxHeartbeats 4000000 in
set_option maxRecDepth 100000 in
theorem m_X0_init (l : Launch) (B0 : Nat) (G : XG) (h hE : XH) (a0 nx : Nat) (hf : f_X0_init h a0 nx = some hE) : Met l yX0_init wsX0_init rmX0_init (va_Pc [.ref a0] (xUN B0 G h nx)) (xQN B0 G hE (nx + 2)) 2 220 (xA B0) := by
  refine xMetN (cc := cX0_init) (maxL := 1) (by decide) rfl (Nat.le_of_ble_eq_true rfl) ?_
  intro p e s m args below meth c ls hx hb hr hml hown hlocks hnm hts hKK hNe hP hz hl
  have hown : s.vm.findClass RX0 = some m.cls := hown
  have hl : lv_has ls 1 [(0, .ref a0)] := hl
  have hS : va_S (xA B0) s.heap s.heap [] := va_S.rf
  have inX0 : ∀ w ∈ wsX00, w ∈ wsX0_init := by decide +kernel
  have w1 := hts (.methodLink RX0 3 objectInit) (by decide +kernel)
  have w2 := hts (.instanceMethod objectInit) (by decide +kernel)
  have w3 := hts (.code objectInit ⟨#[0xb1]⟩ 1 none) (by decide +kernel)
  have w4 := hts (.arrayClass .byte) (by decide +kernel)
  have w5 := hts (.fieldLink RX0 9 "RainReservoir$RainText" "bytes" "[B") (by decide +kernel)
  have w6 := hts (.arrayClass .int) (by decide +kernel)
  have w7 := hts (.fieldLink RX0 15 "RainReservoir$RainText" "found" "[I") (by decide +kernel)
  generalize hQ : MQ below (xQN B0 G hE (nx + 2)) args s 2 220 (xA B0) = Q
  unfold f_X0_init at hf
  refine lv_aload_n hx hb dX0_init_0 rfl (lv_at hl 0 rfl) ?_
  refine W.objInit hx hb hown w1 w2 w3 rfl (by rw [hml]; exact hl.1) rfl dX0_init_1 (Nat.le_of_ble_eq_true rfl) (Nat.le_of_ble_eq_true rfl) ?_
  refine W.eq (g2 := F0 m 4 ls []) rfl ?_
  refine lv_aload_n hx hb dX0_init_4 rfl (lv_at hl 0 rfl) ?_
  refine lv_bipush (v := (120 : Int32)) hx hb dX0_init_5 (by decide) ?_
  obtain ⟨h1, eh1, hf⟩ := xl hf
  refine xr_newarr (atype := .byte) (nx := nx) (N := 120) (x := (120, .inl (fun _ => 0))) rfl (fun _ => rfl) (fun _ _ h9 => h9) hx hb w4 hKK hP hz hS (fun _ => rfl) (by decide) (by decide) (by decide) eh1 ⟨Nat.le_of_ble_eq_true rfl, Nat.le_of_ble_eq_true rfl⟩ dX0_init_7 (fun H hP hz hS => ?_)
  obtain ⟨h2, eh2, hf⟩ := xb hf
  refine xr_putF hx hb hts inX0 tyX0 tyX0_ok nmX0 hown hKK hP hS eh2 rfl (by decide) w5 (fun _ h9 => h9) rfl hnm rfl (tyX0_ok 0 (by decide)) rfl rfl dX0_init_9 (fun H locs hP hz9 hS => ?_)
  have hz := hz9.trans hz
  refine lv_aload_n hx hb dX0_init_12 rfl (lv_at hl 0 rfl) ?_
  refine lv_bipush (v := (100 : Int32)) hx hb dX0_init_13 (by decide) ?_
  obtain ⟨h3, eh3, hf⟩ := xl hf
  refine xr_newarr (atype := .int) (nx := (nx + 1)) (N := 100) (x := (100, .inl (fun _ => 0))) rfl (fun _ => rfl) (fun _ _ h9 => h9) hx hb w6 hKK hP hz hS (fun _ => rfl) (by decide) (by decide) (by decide) eh3 ⟨Nat.le_of_ble_eq_true rfl, Nat.le_of_ble_eq_true rfl⟩ dX0_init_15 (fun H hP hz hS => ?_)
  obtain ⟨h4, eh4, hf⟩ := xb hf
  refine xr_putF hx hb hts inX0 tyX0 tyX0_ok nmX0 hown hKK hP hS eh4 rfl (by decide) w7 (fun _ h9 => h9) rfl hnm rfl (tyX0_ok 2 (by decide)) rfl rfl dX0_init_17 (fun H locs hP hz9 hS => ?_)
  have hz := hz9.trans hz
  obtain rfl := Option.some.inj hf
  refine W.widen (k := 2) (n := 220) (Nat.le_of_ble_eq_true rfl) (Nat.le_of_ble_eq_true rfl) ?_
  subst hQ
  exact xe_vN hx hb hr hlocks hKK hP hz hS dX0_init_20
/-- RainReservoir() -/
def f_X5_init (h : XH) (a0 nx : Nat) : Option XH :=
  olet (xup h nx (some (.inr (2, [.int 0, .int 0, .int 0, .int 0, .int 0, .int 0, .null, .int 0, .null, .null, .int 0, .int 0, .int 0, .int 0, .long 0, .null])))) fun h1 =>
  obind1 (f_X2_init h1 nx (nx + 1)) fun h2 =>
  (xpV h2 a0 5 0 (.ref nx)).bind fun h3 =>
  olet (xup h3 (nx + 18) (some (.inr (2, [.int 0, .int 0, .int 0, .int 0, .int 0, .int 0, .null, .int 0, .null, .null, .int 0, .int 0, .int 0, .int 0, .long 0, .null])))) fun h4 =>
  obind1 (f_X2_init h4 (nx + 18) (nx + 19)) fun h5 =>
  (xpV h5 a0 5 1 (.ref (nx + 18))).bind fun h6 =>
  olet (xup h6 (nx + 36) (some (.inl (4, 4, .inr (.inr (.inr (.inr (fun _ => none)))))))) fun h7 =>
  (xpV h7 a0 5 2 (.ref (nx + 36))).bind fun h8 =>
  (xgR h8 a0 5 2).bind fun v1 =>
  (xlen h8 v1 4).bind fun v2 =>
  (xeqI v2 (4 : Int32)).bind fun v3 =>
  (xgR h8 a0 5 2).bind fun v4 =>
  olet (xup h8 (nx + 37) (some (.inr (2, [.int 0, .int 0, .int 0, .int 0, .int 0, .int 0, .null, .int 0, .null, .null, .int 0, .int 0, .int 0, .int 0, .long 0, .null])))) fun h9 =>
  obind1 (f_X2_init h9 (nx + 37) (nx + 38)) fun h10 =>
  (xis h10 (nx + 37) 2).bind fun v5 =>
  (xastR h10 v4 4 (0 : Int32) (nx + 37)).bind fun h11 =>
  (xgR h11 a0 5 2).bind fun v6 =>
  (xlen h11 v6 4).bind fun v7 =>
  (xeqI v7 (4 : Int32)).bind fun v8 =>
  (xgR h11 a0 5 2).bind fun v9 =>
  olet (xup h11 (nx + 55) (some (.inr (2, [.int 0, .int 0, .int 0, .int 0, .int 0, .int 0, .null, .int 0, .null, .null, .int 0, .int 0, .int 0, .int 0, .long 0, .null])))) fun h12 =>
  obind1 (f_X2_init h12 (nx + 55) (nx + 56)) fun h13 =>
  (xis h13 (nx + 55) 2).bind fun v10 =>
  (xastR h13 v9 4 (1 : Int32) (nx + 55)).bind fun h14 =>
  (xgR h14 a0 5 2).bind fun v11 =>
  (xlen h14 v11 4).bind fun v12 =>
  (xeqI v12 (4 : Int32)).bind fun v13 =>
  (xgR h14 a0 5 2).bind fun v14 =>
  olet (xup h14 (nx + 73) (some (.inr (2, [.int 0, .int 0, .int 0, .int 0, .int 0, .int 0, .null, .int 0, .null, .null, .int 0, .int 0, .int 0, .int 0, .long 0, .null])))) fun h15 =>
  obind1 (f_X2_init h15 (nx + 73) (nx + 74)) fun h16 =>
  (xis h16 (nx + 73) 2).bind fun v15 =>
  (xastR h16 v14 4 (2 : Int32) (nx + 73)).bind fun h17 =>
  (xgR h17 a0 5 2).bind fun v16 =>
  (xlen h17 v16 4).bind fun v17 =>
  (xeqI v17 (4 : Int32)).bind fun v18 =>
  (xgR h17 a0 5 2).bind fun v19 =>
  olet (xup h17 (nx + 91) (some (.inr (2, [.int 0, .int 0, .int 0, .int 0, .int 0, .int 0, .null, .int 0, .null, .null, .int 0, .int 0, .int 0, .int 0, .long 0, .null])))) fun h18 =>
  obind1 (f_X2_init h18 (nx + 91) (nx + 92)) fun h19 =>
  (xis h19 (nx + 91) 2).bind fun v20 =>
  (xastR h19 v19 4 (3 : Int32) (nx + 91)).bind fun h20 =>
  (xgR h20 a0 5 2).bind fun v21 =>
  (xlen h20 v21 4).bind fun v22 =>
  (xeqI v22 (4 : Int32)).bind fun v23 =>
  olet (xup h20 (nx + 109) (some (.inr (0, [.null, .int 0, .null, .int 0, .int 0, .int 0])))) fun h21 =>
  obind1 (f_X0_init h21 (nx + 109) (nx + 110)) fun h22 =>
  (xpV h22 a0 5 4 (.ref (nx + 109))).bind fun h23 =>
  some h23
abbrev rmX5_init : Room := { frames := 4, cells := 112, slots := 7376, locals := 74 }
set_option maxHeartbeats 4000000 in
set_option maxRecDepth 100000 in
theorem m_X5_init (l : Launch) (B0 : Nat) (G : XG) (h hE : XH) (a0 nx : Nat) (hf : f_X5_init h a0 nx = some hE) : Met l yX5_init wsX5_init rmX5_init (va_Pc [.ref a0] (xUN B0 G h nx)) (xQN B0 G hE (nx + 112)) 112 7376 (xA B0) := by
  refine xMetN (cc := cX5_init) (maxL := 2) (by decide) rfl (Nat.le_of_ble_eq_true rfl) ?_
  intro p e s m args below meth c ls hx hb hr hml hown hlocks hnm hts hKK hNe hP hz hl
  have hown : s.vm.findClass RX5 = some m.cls := hown
  have hl : lv_has ls 2 [(0, .ref a0)] := hl
  have hS : va_S (xA B0) s.heap s.heap [] := va_S.rf
  have inX0 : ∀ w ∈ wsX00, w ∈ wsX5_init := by decide +kernel
  have inX2 : ∀ w ∈ wsX20, w ∈ wsX5_init := by decide +kernel
  have inX5 : ∀ w ∈ wsX50, w ∈ wsX5_init := by decide +kernel
  have w1 := hts (.methodLink RX5 1 objectInit) (by decide +kernel)
  have w2 := hts (.instanceMethod objectInit) (by decide +kernel)
  have w3 := hts (.code objectInit ⟨#[0xb1]⟩ 1 none) (by decide +kernel)
  have w4 := hts (.classLink RX5 7 RX2) (by decide +kernel)
  have w5 := hts (.instantiable RX2 16) (by decide +kernel)
  have w6 := hts (.initialized RX2) (by decide +kernel)
  have w7 := hts (.methodLink RX5 9 yX2_init) (by decide +kernel)
  have w8 := hts (.instanceMethod yX2_init) (by decide +kernel)
  have w9 := hts (.fieldLink RX5 10 "RainReservoir" "now" "LRainReservoir$State;") (by decide +kernel)
  have w10 := hts (.fieldLink RX5 16 "RainReservoir" "trial" "LRainReservoir$State;") (by decide +kernel)
  have w11 := hts (.fieldLink RX5 19 "RainReservoir" "saved" "[LRainReservoir$State;") (by decide +kernel)
  have w12 := hts (.classLink RX5 23 RX0) (by decide +kernel)
  have w13 := hts (.instantiable RX0 6) (by decide +kernel)
  have w14 := hts (.initialized RX0) (by decide +kernel)
  have w15 := hts (.methodLink RX5 25 yX0_init) (by decide +kernel)
  have w16 := hts (.instanceMethod yX0_init) (by decide +kernel)
  have w17 := hts (.fieldLink RX5 26 "RainReservoir" "text" "LRainReservoir$RainText;") (by decide +kernel)
  generalize hQ : MQ below (xQN B0 G hE (nx + 112)) args s 112 7376 (xA B0) = Q
  unfold f_X5_init at hf
  refine lv_aload_n hx hb dX5_init_0 rfl (lv_at hl 0 rfl) ?_
  refine W.objInit hx hb hown w1 w2 w3 rfl (by rw [hml]; exact hl.1) rfl dX5_init_1 (Nat.le_of_ble_eq_true rfl) (Nat.le_of_ble_eq_true rfl) ?_
  refine W.eq (g2 := F0 m 4 ls []) rfl ?_
  refine lv_aload_n hx hb dX5_init_4 rfl (lv_at hl 0 rfl) ?_
  obtain ⟨h1, eh1, hf⟩ := xl hf
  refine xr_new (nx := nx) hx hb hts inX2 tyX2 tyX2_ok hown w4 w5 w6 hKK hP hz hS rfl (fs := [.int 0, .int 0, .int 0, .int 0, .int 0, .int 0, .null, .int 0, .null, .null, .int 0, .int 0, .int 0, .int 0, .long 0, .null]) (fun j hj => by rcases (show j = 0 ∨ j = 1 ∨ j = 2 ∨ j = 3 ∨ j = 4 ∨ j = 5 ∨ j = 6 ∨ j = 7 ∨ j = 8 ∨ j = 9 ∨ j = 10 ∨ j = 11 ∨ j = 12 ∨ j = 13 ∨ j = 14 ∨ j = 15 by omega) with rfl | rfl | rfl | rfl | rfl | rfl | rfl | rfl | rfl | rfl | rfl | rfl | rfl | rfl | rfl | rfl <;> rfl) eh1 ⟨Nat.le_of_ble_eq_true rfl, Nat.le_of_ble_eq_true rfl⟩ dX5_init_5 (fun H hP hz hS => ?_)
  refine lv_dup hx hb dX5_init_8 rfl ?_
  obtain ⟨h2, eh2, hf⟩ := xb1 hf
  refine xc_I (rest := [.ref nx, .ref a0]) ⟨hx, hb, hml, hown, hts⟩ (m_X2_init l B0 G h1 h2 nx (nx + 1) eh2) (cwI 0 hts gX5_init_X2_init rfl rfl rfl w6 w7 w8 rfl (by decide +kernel) ⟨Nat.le_of_ble_eq_true rfl, Nat.le_of_ble_eq_true rfl⟩) hKK hNe hP hz hS hl.1 rfl (Nat.le_of_ble_eq_true rfl) dX5_init_9 ⟨Nat.le_of_ble_eq_true rfl, Nat.le_of_ble_eq_true rfl⟩ (fun H locs hP hz hS => ?_)
  obtain ⟨h3, eh3, hf⟩ := xb hf
  refine xr_putF hx hb hts inX5 tyX5 tyX5_ok nmX5 hown hKK hP hS eh3 rfl (by decide) w9 (fun _ h9 => h9) rfl hnm rfl (tyX5_ok 0 (by decide)) rfl rfl dX5_init_12 (fun H locs hP hz9 hS => ?_)
  have hz := hz9.trans hz
  refine lv_aload_n hx hb dX5_init_15 rfl (lv_at hl 0 rfl) ?_
  obtain ⟨h4, eh4, hf⟩ := xl hf
  refine xr_new (nx := (nx + 18)) hx hb hts inX2 tyX2 tyX2_ok hown w4 w5 w6 hKK hP hz hS rfl (fs := [.int 0, .int 0, .int 0, .int 0, .int 0, .int 0, .null, .int 0, .null, .null, .int 0, .int 0, .int 0, .int 0, .long 0, .null]) (fun j hj => by rcases (show j = 0 ∨ j = 1 ∨ j = 2 ∨ j = 3 ∨ j = 4 ∨ j = 5 ∨ j = 6 ∨ j = 7 ∨ j = 8 ∨ j = 9 ∨ j = 10 ∨ j = 11 ∨ j = 12 ∨ j = 13 ∨ j = 14 ∨ j = 15 by omega) with rfl | rfl | rfl | rfl | rfl | rfl | rfl | rfl | rfl | rfl | rfl | rfl | rfl | rfl | rfl | rfl <;> rfl) eh4 ⟨Nat.le_of_ble_eq_true rfl, Nat.le_of_ble_eq_true rfl⟩ dX5_init_16 (fun H hP hz hS => ?_)
  refine lv_dup hx hb dX5_init_19 rfl ?_
  obtain ⟨h5, eh5, hf⟩ := xb1 hf
  refine xc_I (rest := [.ref (nx + 18), .ref a0]) ⟨hx, hb, hml, hown, hts⟩ (m_X2_init l B0 G h4 h5 (nx + 18) (nx + 19) eh5) (cwI 0 hts gX5_init_X2_init rfl rfl rfl w6 w7 w8 rfl (by decide +kernel) ⟨Nat.le_of_ble_eq_true rfl, Nat.le_of_ble_eq_true rfl⟩) hKK hNe hP hz hS hl.1 rfl (Nat.le_of_ble_eq_true rfl) dX5_init_20 ⟨Nat.le_of_ble_eq_true rfl, Nat.le_of_ble_eq_true rfl⟩ (fun H locs hP hz hS => ?_)
  obtain ⟨h6, eh6, hf⟩ := xb hf
  refine xr_putF hx hb hts inX5 tyX5 tyX5_ok nmX5 hown hKK hP hS eh6 rfl (by decide) w10 (fun _ h9 => h9) rfl hnm rfl (tyX5_ok 1 (by decide)) rfl rfl dX5_init_23 (fun H locs hP hz9 hS => ?_)
  have hz := hz9.trans hz
  refine lv_aload_n hx hb dX5_init_26 rfl (lv_at hl 0 rfl) ?_
  refine lv_iconst (v := (4 : Int32)) hx hb dX5_init_27 (by decide) ?_
  obtain ⟨h7, eh7, hf⟩ := xl hf
  refine xr_anew (nx := (nx + 36)) (N := 4) (fun _ => rfl) hx hb hown w4 hNe.2.2.2.1 hKK hP hz hS (by decide) (by decide) (by decide) eh7 ⟨Nat.le_of_ble_eq_true rfl, Nat.le_of_ble_eq_true rfl⟩ dX5_init_28 (fun H hP hz hS => ?_)
  obtain ⟨h8, eh8, hf⟩ := xb hf
  refine xr_putF hx hb hts inX5 tyX5 tyX5_ok nmX5 hown hKK hP hS eh8 rfl (by decide) w11 (fun _ h9 => h9) rfl hnm rfl (tyX5_ok 2 (by decide)) rfl rfl dX5_init_31 (fun H locs hP hz9 hS => ?_)
  have hz := hz9.trans hz
  refine lv_iconst (v := (0 : Int32)) hx hb dX5_init_34 (by decide) ?_
  refine lv_istore_n (lv' := [(1, .int (0 : Int32)), (0, .ref a0)]) hx hb dX5_init_35 rfl hl (by decide) rfl (fun ls hl => ?_)
  refine lv_iload_n hx hb dX5_init_36 rfl (lv_at hl 0 rfl) ?_
  refine lv_aload_n hx hb dX5_init_37 rfl (lv_at hl 1 rfl) ?_
  obtain ⟨v1, ev1, hf⟩ := xb hf
  refine xr_getR hx hb hts inX5 hown hKK hP ev1 rfl (by decide) w11 (fun _ h9 => h9) dX5_init_38 ?_
  obtain ⟨v2, ev2, hf⟩ := xb hf
  obtain ⟨v3, ev3, hf⟩ := xb hf
  have ev3 := xeqI_spec ev3
  rw [ev3] at ev2
  refine xr_alen (fun _ => ⟨_, rfl⟩) hx hb hKK hP ev2 dX5_init_41 ?_
  refine lv_icmp_ge (tgt := 64) hx hb dX5_init_42 (by decide) (fun c9 => absurd c9 (by decide)) (fun _ => ?_)
  refine lv_aload_n hx hb dX5_init_45 rfl (lv_at hl 1 rfl) ?_
  obtain ⟨v4, ev4, hf⟩ := xb hf
  refine xr_getR hx hb hts inX5 hown hKK hP ev4 rfl (by decide) w11 (fun _ h9 => h9) dX5_init_46 ?_
  refine lv_iload_n hx hb dX5_init_49 rfl (lv_at hl 0 rfl) ?_
  obtain ⟨h9, eh9, hf⟩ := xl hf
  refine xr_new (nx := (nx + 37)) hx hb hts inX2 tyX2 tyX2_ok hown w4 w5 w6 hKK hP hz hS rfl (fs := [.int 0, .int 0, .int 0, .int 0, .int 0, .int 0, .null, .int 0, .null, .null, .int 0, .int 0, .int 0, .int 0, .long 0, .null]) (fun j hj => by rcases (show j = 0 ∨ j = 1 ∨ j = 2 ∨ j = 3 ∨ j = 4 ∨ j = 5 ∨ j = 6 ∨ j = 7 ∨ j = 8 ∨ j = 9 ∨ j = 10 ∨ j = 11 ∨ j = 12 ∨ j = 13 ∨ j = 14 ∨ j = 15 by omega) with rfl | rfl | rfl | rfl | rfl | rfl | rfl | rfl | rfl | rfl | rfl | rfl | rfl | rfl | rfl | rfl <;> rfl) eh9 ⟨Nat.le_of_ble_eq_true rfl, Nat.le_of_ble_eq_true rfl⟩ dX5_init_50 (fun H hP hz hS => ?_)
  refine lv_dup hx hb dX5_init_53 rfl ?_
  obtain ⟨h10, eh10, hf⟩ := xb1 hf
  refine xc_I (rest := [.ref (nx + 37), .int (0 : Int32), .ref v4]) ⟨hx, hb, hml, hown, hts⟩ (m_X2_init l B0 G h9 h10 (nx + 37) (nx + 38) eh10) (cwI 0 hts gX5_init_X2_init rfl rfl rfl w6 w7 w8 rfl (by decide +kernel) ⟨Nat.le_of_ble_eq_true rfl, Nat.le_of_ble_eq_true rfl⟩) hKK hNe hP hz hS hl.1 rfl (Nat.le_of_ble_eq_true rfl) dX5_init_54 ⟨Nat.le_of_ble_eq_true rfl, Nat.le_of_ble_eq_true rfl⟩ (fun H locs hP hz hS => ?_)
  obtain ⟨v5, ev5, hf⟩ := xb hf
  obtain ⟨h11, eh11, hf⟩ := xb hf
  refine xr_aast (r := (RX2, TX2, 16)) (fun _ => rfl) rfl hx hb hKK hP hS ev5 eh11 dX5_init_57 (fun H locs hP hz9 hS => ?_)
  have hz := hz9.trans hz
  refine lv_iinc (v := (1 : Int32)) (lv' := [(1, .int (1 : Int32)), (0, .ref a0)]) hx hb dX5_init_58 hl (k := 0) rfl (by decide) (by decide) rfl (fun ls hl => ?_)
  refine lv_goto (tgt := 36) hx hb dX5_init_61 (by decide) ?_
  refine lv_iload_n hx hb dX5_init_36 rfl (lv_at hl 0 rfl) ?_
  refine lv_aload_n hx hb dX5_init_37 rfl (lv_at hl 1 rfl) ?_
  obtain ⟨v6, ev6, hf⟩ := xb hf
  refine xr_getR hx hb hts inX5 hown hKK hP ev6 rfl (by decide) w11 (fun _ h9 => h9) dX5_init_38 ?_
  obtain ⟨v7, ev7, hf⟩ := xb hf
  obtain ⟨v8, ev8, hf⟩ := xb hf
  have ev8 := xeqI_spec ev8
  rw [ev8] at ev7
  refine xr_alen (fun _ => ⟨_, rfl⟩) hx hb hKK hP ev7 dX5_init_41 ?_
  refine lv_icmp_ge (tgt := 64) hx hb dX5_init_42 (by decide) (fun c9 => absurd c9 (by decide)) (fun _ => ?_)
  refine lv_aload_n hx hb dX5_init_45 rfl (lv_at hl 1 rfl) ?_
  obtain ⟨v9, ev9, hf⟩ := xb hf
  refine xr_getR hx hb hts inX5 hown hKK hP ev9 rfl (by decide) w11 (fun _ h9 => h9) dX5_init_46 ?_
  refine lv_iload_n hx hb dX5_init_49 rfl (lv_at hl 0 rfl) ?_
  obtain ⟨h12, eh12, hf⟩ := xl hf
  refine xr_new (nx := (nx + 55)) hx hb hts inX2 tyX2 tyX2_ok hown w4 w5 w6 hKK hP hz hS rfl (fs := [.int 0, .int 0, .int 0, .int 0, .int 0, .int 0, .null, .int 0, .null, .null, .int 0, .int 0, .int 0, .int 0, .long 0, .null]) (fun j hj => by rcases (show j = 0 ∨ j = 1 ∨ j = 2 ∨ j = 3 ∨ j = 4 ∨ j = 5 ∨ j = 6 ∨ j = 7 ∨ j = 8 ∨ j = 9 ∨ j = 10 ∨ j = 11 ∨ j = 12 ∨ j = 13 ∨ j = 14 ∨ j = 15 by omega) with rfl | rfl | rfl | rfl | rfl | rfl | rfl | rfl | rfl | rfl | rfl | rfl | rfl | rfl | rfl | rfl <;> rfl) eh12 ⟨Nat.le_of_ble_eq_true rfl, Nat.le_of_ble_eq_true rfl⟩ dX5_init_50 (fun H hP hz hS => ?_)
  refine lv_dup hx hb dX5_init_53 rfl ?_
  obtain ⟨h13, eh13, hf⟩ := xb1 hf
  refine xc_I (rest := [.ref (nx + 55), .int (1 : Int32), .ref v9]) ⟨hx, hb, hml, hown, hts⟩ (m_X2_init l B0 G h12 h13 (nx + 55) (nx + 56) eh13) (cwI 0 hts gX5_init_X2_init rfl rfl rfl w6 w7 w8 rfl (by decide +kernel) ⟨Nat.le_of_ble_eq_true rfl, Nat.le_of_ble_eq_true rfl⟩) hKK hNe hP hz hS hl.1 rfl (Nat.le_of_ble_eq_true rfl) dX5_init_54 ⟨Nat.le_of_ble_eq_true rfl, Nat.le_of_ble_eq_true rfl⟩ (fun H locs hP hz hS => ?_)
  obtain ⟨v10, ev10, hf⟩ := xb hf
  obtain ⟨h14, eh14, hf⟩ := xb hf
  refine xr_aast (r := (RX2, TX2, 16)) (fun _ => rfl) rfl hx hb hKK hP hS ev10 eh14 dX5_init_57 (fun H locs hP hz9 hS => ?_)
  have hz := hz9.trans hz
  refine lv_iinc (v := (2 : Int32)) (lv' := [(1, .int (2 : Int32)), (0, .ref a0)]) hx hb dX5_init_58 hl (k := 0) rfl (by decide) (by decide) rfl (fun ls hl => ?_)
  refine lv_goto (tgt := 36) hx hb dX5_init_61 (by decide) ?_
  refine lv_iload_n hx hb dX5_init_36 rfl (lv_at hl 0 rfl) ?_
  refine lv_aload_n hx hb dX5_init_37 rfl (lv_at hl 1 rfl) ?_
  obtain ⟨v11, ev11, hf⟩ := xb hf
  refine xr_getR hx hb hts inX5 hown hKK hP ev11 rfl (by decide) w11 (fun _ h9 => h9) dX5_init_38 ?_
  obtain ⟨v12, ev12, hf⟩ := xb hf
  obtain ⟨v13, ev13, hf⟩ := xb hf
  have ev13 := xeqI_spec ev13
  rw [ev13] at ev12
  refine xr_alen (fun _ => ⟨_, rfl⟩) hx hb hKK hP ev12 dX5_init_41 ?_
  refine lv_icmp_ge (tgt := 64) hx hb dX5_init_42 (by decide) (fun c9 => absurd c9 (by decide)) (fun _ => ?_)
  refine lv_aload_n hx hb dX5_init_45 rfl (lv_at hl 1 rfl) ?_
  obtain ⟨v14, ev14, hf⟩ := xb hf
  refine xr_getR hx hb hts inX5 hown hKK hP ev14 rfl (by decide) w11 (fun _ h9 => h9) dX5_init_46 ?_
  refine lv_iload_n hx hb dX5_init_49 rfl (lv_at hl 0 rfl) ?_
  obtain ⟨h15, eh15, hf⟩ := xl hf
  refine xr_new (nx := (nx + 73)) hx hb hts inX2 tyX2 tyX2_ok hown w4 w5 w6 hKK hP hz hS rfl (fs := [.int 0, .int 0, .int 0, .int 0, .int 0, .int 0, .null, .int 0, .null, .null, .int 0, .int 0, .int 0, .int 0, .long 0, .null]) (fun j hj => by rcases (show j = 0 ∨ j = 1 ∨ j = 2 ∨ j = 3 ∨ j = 4 ∨ j = 5 ∨ j = 6 ∨ j = 7 ∨ j = 8 ∨ j = 9 ∨ j = 10 ∨ j = 11 ∨ j = 12 ∨ j = 13 ∨ j = 14 ∨ j = 15 by omega) with rfl | rfl | rfl | rfl | rfl | rfl | rfl | rfl | rfl | rfl | rfl | rfl | rfl | rfl | rfl | rfl <;> rfl) eh15 ⟨Nat.le_of_ble_eq_true rfl, Nat.le_of_ble_eq_true rfl⟩ dX5_init_50 (fun H hP hz hS => ?_)
  refine lv_dup hx hb dX5_init_53 rfl ?_
  obtain ⟨h16, eh16, hf⟩ := xb1 hf
  refine xc_I (rest := [.ref (nx + 73), .int (2 : Int32), .ref v14]) ⟨hx, hb, hml, hown, hts⟩ (m_X2_init l B0 G h15 h16 (nx + 73) (nx + 74) eh16) (cwI 0 hts gX5_init_X2_init rfl rfl rfl w6 w7 w8 rfl (by decide +kernel) ⟨Nat.le_of_ble_eq_true rfl, Nat.le_of_ble_eq_true rfl⟩) hKK hNe hP hz hS hl.1 rfl (Nat.le_of_ble_eq_true rfl) dX5_init_54 ⟨Nat.le_of_ble_eq_true rfl, Nat.le_of_ble_eq_true rfl⟩ (fun H locs hP hz hS => ?_)
  obtain ⟨v15, ev15, hf⟩ := xb hf
  obtain ⟨h17, eh17, hf⟩ := xb hf
  refine xr_aast (r := (RX2, TX2, 16)) (fun _ => rfl) rfl hx hb hKK hP hS ev15 eh17 dX5_init_57 (fun H locs hP hz9 hS => ?_)
  have hz := hz9.trans hz
  refine lv_iinc (v := (3 : Int32)) (lv' := [(1, .int (3 : Int32)), (0, .ref a0)]) hx hb dX5_init_58 hl (k := 0) rfl (by decide) (by decide) rfl (fun ls hl => ?_)
  refine lv_goto (tgt := 36) hx hb dX5_init_61 (by decide) ?_
  refine lv_iload_n hx hb dX5_init_36 rfl (lv_at hl 0 rfl) ?_
  refine lv_aload_n hx hb dX5_init_37 rfl (lv_at hl 1 rfl) ?_
  obtain ⟨v16, ev16, hf⟩ := xb hf
  refine xr_getR hx hb hts inX5 hown hKK hP ev16 rfl (by decide) w11 (fun _ h9 => h9) dX5_init_38 ?_
  obtain ⟨v17, ev17, hf⟩ := xb hf
  obtain ⟨v18, ev18, hf⟩ := xb hf
  have ev18 := xeqI_spec ev18
  rw [ev18] at ev17
  refine xr_alen (fun _ => ⟨_, rfl⟩) hx hb hKK hP ev17 dX5_init_41 ?_
  refine lv_icmp_ge (tgt := 64) hx hb dX5_init_42 (by decide) (fun c9 => absurd c9 (by decide)) (fun _ => ?_)
  refine lv_aload_n hx hb dX5_init_45 rfl (lv_at hl 1 rfl) ?_
  obtain ⟨v19, ev19, hf⟩ := xb hf
  refine xr_getR hx hb hts inX5 hown hKK hP ev19 rfl (by decide) w11 (fun _ h9 => h9) dX5_init_46 ?_
  refine lv_iload_n hx hb dX5_init_49 rfl (lv_at hl 0 rfl) ?_
  obtain ⟨h18, eh18, hf⟩ := xl hf
  refine xr_new (nx := (nx + 91)) hx hb hts inX2 tyX2 tyX2_ok hown w4 w5 w6 hKK hP hz hS rfl (fs := [.int 0, .int 0, .int 0, .int 0, .int 0, .int 0, .null, .int 0, .null, .null, .int 0, .int 0, .int 0, .int 0, .long 0, .null]) (fun j hj => by rcases (show j = 0 ∨ j = 1 ∨ j = 2 ∨ j = 3 ∨ j = 4 ∨ j = 5 ∨ j = 6 ∨ j = 7 ∨ j = 8 ∨ j = 9 ∨ j = 10 ∨ j = 11 ∨ j = 12 ∨ j = 13 ∨ j = 14 ∨ j = 15 by omega) with rfl | rfl | rfl | rfl | rfl | rfl | rfl | rfl | rfl | rfl | rfl | rfl | rfl | rfl | rfl | rfl <;> rfl) eh18 ⟨Nat.le_of_ble_eq_true rfl, Nat.le_of_ble_eq_true rfl⟩ dX5_init_50 (fun H hP hz hS => ?_)
  refine lv_dup hx hb dX5_init_53 rfl ?_
  obtain ⟨h19, eh19, hf⟩ := xb1 hf
  refine xc_I (rest := [.ref (nx + 91), .int (3 : Int32), .ref v19]) ⟨hx, hb, hml, hown, hts⟩ (m_X2_init l B0 G h18 h19 (nx + 91) (nx + 92) eh19) (cwI 0 hts gX5_init_X2_init rfl rfl rfl w6 w7 w8 rfl (by decide +kernel) ⟨Nat.le_of_ble_eq_true rfl, Nat.le_of_ble_eq_true rfl⟩) hKK hNe hP hz hS hl.1 rfl (Nat.le_of_ble_eq_true rfl) dX5_init_54 ⟨Nat.le_of_ble_eq_true rfl, Nat.le_of_ble_eq_true rfl⟩ (fun H locs hP hz hS => ?_)
  obtain ⟨v20, ev20, hf⟩ := xb hf
  obtain ⟨h20, eh20, hf⟩ := xb hf
  refine xr_aast (r := (RX2, TX2, 16)) (fun _ => rfl) rfl hx hb hKK hP hS ev20 eh20 dX5_init_57 (fun H locs hP hz9 hS => ?_)
  have hz := hz9.trans hz
  refine lv_iinc (v := (4 : Int32)) (lv' := [(1, .int (4 : Int32)), (0, .ref a0)]) hx hb dX5_init_58 hl (k := 0) rfl (by decide) (by decide) rfl (fun ls hl => ?_)
  refine lv_goto (tgt := 36) hx hb dX5_init_61 (by decide) ?_
  refine lv_iload_n hx hb dX5_init_36 rfl (lv_at hl 0 rfl) ?_
  refine lv_aload_n hx hb dX5_init_37 rfl (lv_at hl 1 rfl) ?_
  obtain ⟨v21, ev21, hf⟩ := xb hf
  refine xr_getR hx hb hts inX5 hown hKK hP ev21 rfl (by decide) w11 (fun _ h9 => h9) dX5_init_38 ?_
  obtain ⟨v22, ev22, hf⟩ := xb hf
  obtain ⟨v23, ev23, hf⟩ := xb hf
  have ev23 := xeqI_spec ev23
  rw [ev23] at ev22
  refine xr_alen (fun _ => ⟨_, rfl⟩) hx hb hKK hP ev22 dX5_init_41 ?_
  refine lv_icmp_ge (tgt := 64) hx hb dX5_init_42 (by decide) (fun _ => ?_) (fun c9 => absurd (by decide) c9)
  refine lv_aload_n hx hb dX5_init_64 rfl (lv_at hl 1 rfl) ?_
  obtain ⟨h21, eh21, hf⟩ := xl hf
  refine xr_new (nx := (nx + 109)) hx hb hts inX0 tyX0 tyX0_ok hown w12 w13 w14 hKK hP hz hS rfl (fs := [.null, .int 0, .null, .int 0, .int 0, .int 0]) (fun j hj => by rcases (show j = 0 ∨ j = 1 ∨ j = 2 ∨ j = 3 ∨ j = 4 ∨ j = 5 by omega) with rfl | rfl | rfl | rfl | rfl | rfl <;> rfl) eh21 ⟨Nat.le_of_ble_eq_true rfl, Nat.le_of_ble_eq_true rfl⟩ dX5_init_65 (fun H hP hz hS => ?_)
  refine lv_dup hx hb dX5_init_68 rfl ?_
  obtain ⟨h22, eh22, hf⟩ := xb1 hf
  refine xc_I (rest := [.ref (nx + 109), .ref a0]) ⟨hx, hb, hml, hown, hts⟩ (m_X0_init l B0 G h21 h22 (nx + 109) (nx + 110) eh22) (cwI 0 hts gX5_init_X0_init rfl rfl rfl w14 w15 w16 rfl (by decide +kernel) ⟨Nat.le_of_ble_eq_true rfl, Nat.le_of_ble_eq_true rfl⟩) hKK hNe hP hz hS hl.1 rfl (Nat.le_of_ble_eq_true rfl) dX5_init_69 ⟨Nat.le_of_ble_eq_true rfl, Nat.le_of_ble_eq_true rfl⟩ (fun H locs hP hz hS => ?_)
  obtain ⟨h23, eh23, hf⟩ := xb hf
  refine xr_putF hx hb hts inX5 tyX5 tyX5_ok nmX5 hown hKK hP hS eh23 rfl (by decide) w17 (fun _ h9 => h9) rfl hnm rfl (tyX5_ok 4 (by decide)) rfl rfl dX5_init_72 (fun H locs hP hz9 hS => ?_)
  have hz := hz9.trans hz
  obtain rfl := Option.some.inj hf
  refine W.widen (k := 112) (n := 7376) (Nat.le_of_ble_eq_true rfl) (Nat.le_of_ble_eq_true rfl) ?_
  subst hQ
  exact xe_vN hx hb hr hlocks hKK hP hz hS dX5_init_75
