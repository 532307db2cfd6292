/-- RainReservoir$State.copyFrom -/
def f_X2_copyFrom (fu : Nat) (h : XH) (a0 : Nat) (q0 : Nat) : Option (XH) :=
  (xgI h q0 2 0).bind fun v1 =>
  (xpV h a0 2 0 (.int v1)).bind fun h1 =>
  (xgI h1 q0 2 1).bind fun v2 =>
  (xpV h1 a0 2 1 (.int v2)).bind fun h2 =>
  (xgI h2 q0 2 2).bind fun v3 =>
  (xpV h2 a0 2 2 (.int v3)).bind fun h3 =>
  (xgI h3 q0 2 3).bind fun v4 =>
  (xpV h3 a0 2 3 (.int v4)).bind fun h4 =>
  (xgI h4 q0 2 4).bind fun v5 =>
  (xpV h4 a0 2 4 (.int v5)).bind fun h5 =>
  (xgI h5 q0 2 5).bind fun v6 =>
  (xpV h5 a0 2 5 (.int v6)).bind fun h6 =>
  (xgI h6 q0 2 7).bind fun v7 =>
  (xpV h6 a0 2 7 (.int v7)).bind fun h7 =>
  obind1 (xloop (xf2 fun (v8 : Int32) (h8 : XH) =>
    (xgI h8 a0 2 7).bind fun v9 =>
    if v9 ≤ v8 then
      some (.inr h8)
    else
      (xgR h8 a0 2 6).bind fun v10 =>
      (xaldR h8 v10 3 v8).bind fun v11 =>
      (xgR h8 q0 2 6).bind fun v12 =>
      (xaldR h8 v12 3 v8).bind fun v13 =>
      (xis h8 v11 1).bind fun v14 =>
      obind1 (f_X1_copyFrom h8 v11 v13) fun h10 =>
      olet (v8 + (1 : Int32)) fun v15 =>
      some (.inl (v15, h10))
  ) fu ((0 : Int32), h7)) fun h9 =>
  (xgR h9 a0 2 8).bind fun v16 =>
  (xgR h9 q0 2 8).bind fun v17 =>
  (xis h9 v16 4).bind fun v18 =>
  obind1 (f_X4_copyFrom fu h9 v16 v17) fun h11 =>
  (xgI h11 q0 2 10).bind fun v19 =>
  (xpV h11 a0 2 10 (.int v19)).bind fun h12 =>
  (xgR h12 q0 2 9).bind fun v20 =>
  (xgR h12 a0 2 9).bind fun v21 =>
  (xgI h12 a0 2 10).bind fun v22 =>
  (xcopy h12 v20 (0 : Int32) v21 (0 : Int32) v22).bind fun h13 =>
  (xgI h13 q0 2 11).bind fun v23 =>
  (xpV h13 a0 2 11 (.int v23)).bind fun h14 =>
  (xgR h14 q0 2 15).bind fun v24 =>
  (xgR h14 a0 2 15).bind fun v25 =>
  (xgI h14 a0 2 11).bind fun v26 =>
  (xcopy h14 v24 (0 : Int32) v25 (0 : Int32) (v26 * (10 : Int32))).bind fun h15 =>
  (xgI h15 q0 2 12).bind fun v27 =>
  (xpV h15 a0 2 12 (.int v27)).bind fun h16 =>
  (xgI h16 q0 2 13).bind fun v28 =>
  (xpV h16 a0 2 13 (.int v28)).bind fun h17 =>
  (xgL h17 q0 2 14).bind fun v29 =>
  (xpV h17 a0 2 14 (.long v29)).bind fun h18 =>
  some (h18)
abbrev rmX2_copyFrom : Room := { frames := 4, cells := 0, slots := 0, locals := 85 }
set_option maxHeartbeats 4000000 in
set_option maxRecDepth 100000 in
theorem m_X2_copyFrom (l : Launch) (B0 : Nat) (G : XG) (fu : Nat) (h hE : XH) (a0 : Nat) (q0 : Nat) (hf : f_X2_copyFrom fu h a0 q0 = some hE) : Met l yX2_copyFrom wsX2_copyFrom rmX2_copyFrom (va_Pc [.ref a0, .ref q0] (xU B0 G h)) (xQv B0 G hE) 0 0 (xA B0) := by
  refine xMet (cc := cX2_copyFrom) (maxL := 3) (by decide) rfl (Nat.le_of_ble_eq_true rfl) ?_
  intro p e s m args below meth c ls hx hb hr hml hown hlocks hnm hts hKK hP hl
  have hown : s.vm.findClass RX2 = some m.cls := hown
  have hl : lv_has ls 3 [(0, .ref a0), (1, .ref q0)] := hl
  have hS : va_S (xA B0) s.heap s.heap [] := va_S.rf
  have inX2 : ∀ w ∈ wsX20, w ∈ wsX2_copyFrom := by decide +kernel
  have w1 := hts (.fieldLink RX2 9 "RainReservoir$State" "capacity" "I") (by decide +kernel)
  have w2 := hts (.fieldLink RX2 39 "RainReservoir$State" "floor" "I") (by decide +kernel)
  have w3 := hts (.fieldLink RX2 42 "RainReservoir$State" "topUp" "I") (by decide +kernel)
  have w4 := hts (.fieldLink RX2 45 "RainReservoir$State" "evaporation" "I") (by decide +kernel)
  have w5 := hts (.fieldLink RX2 15 "RainReservoir$State" "dryLimit" "I") (by decide +kernel)
  have w6 := hts (.fieldLink RX2 48 "RainReservoir$State" "rule" "I") (by decide +kernel)
  have w7 := hts (.fieldLink RX2 51 "RainReservoir$State" "roofCount" "I") (by decide +kernel)
  have w8 := hts (.fieldLink RX2 20 "RainReservoir$State" "roofs" "[LRainReservoir$Roof;") (by decide +kernel)
  have w9 := hts (.fieldLink RX2 28 "RainReservoir$State" "users" "LRainReservoir$Users;") (by decide +kernel)
  have w10 := hts (.fieldLink RX2 61 "RainReservoir$State" "rainCount" "I") (by decide +kernel)
  have w11 := hts (.fieldLink RX2 32 "RainReservoir$State" "rains" "[I") (by decide +kernel)
  have w12 := hts (.methodLink RX2 64 arraycopyName) (by decide +kernel)
  have w13 := hts (.native arraycopyName) (by decide +kernel)
  have w14 := hts (.static arraycopyName) (by decide +kernel)
  have w15 := hts (.initialized "java/lang/System") (by decide +kernel)
  have w16 := hts (.fieldLink RX2 70 "RainReservoir$State" "doneCount" "I") (by decide +kernel)
  have w17 := hts (.fieldLink RX2 36 "RainReservoir$State" "accounts" "[I") (by decide +kernel)
  have w18 := hts (.fieldLink RX2 73 "RainReservoir$State" "level" "I") (by decide +kernel)
  have w19 := hts (.fieldLink RX2 76 "RainReservoir$State" "dryDays" "I") (by decide +kernel)
  have w20 := hts (.fieldLink RX2 79 "RainReservoir$State" "looseOverflow" "J") (by decide +kernel)
  generalize hQ : MQ below (xQv B0 G hE) args s 0 0 (xA B0) = Q
  unfold f_X2_copyFrom at hf
  refine lv_aload_n hx hb dX2_copyFrom_0 rfl (lv_at hl 0 rfl) ?_
  refine lv_aload_n hx hb dX2_copyFrom_1 rfl (lv_at hl 1 rfl) ?_
  obtain ⟨v1, ev1, hf⟩ := xb hf
  refine xr_getI hx hb hts inX2 hown hKK hP ev1 rfl (by decide) w1 (fun _ h9 => h9) dX2_copyFrom_2 ?_
  obtain ⟨h1, eh1, hf⟩ := xb hf
  refine xr_put hx hb hts inX2 tyX2 tyX2_ok nmX2 hown hKK hP hS eh1 rfl (by decide) w1 (fun _ h9 => h9) rfl (tyX2_ok 0 (by decide)) rfl rfl dX2_copyFrom_5 (fun H locs hP _ hS => ?_)
  refine lv_aload_n hx hb dX2_copyFrom_8 rfl (lv_at hl 0 rfl) ?_
  refine lv_aload_n hx hb dX2_copyFrom_9 rfl (lv_at hl 1 rfl) ?_
  obtain ⟨v2, ev2, hf⟩ := xb hf
  refine xr_getI hx hb hts inX2 hown hKK hP ev2 rfl (by decide) w2 (fun _ h9 => h9) dX2_copyFrom_10 ?_
  obtain ⟨h2, eh2, hf⟩ := xb hf
  refine xr_put hx hb hts inX2 tyX2 tyX2_ok nmX2 hown hKK hP hS eh2 rfl (by decide) w2 (fun _ h9 => h9) rfl (tyX2_ok 1 (by decide)) rfl rfl dX2_copyFrom_13 (fun H locs hP _ hS => ?_)
  refine lv_aload_n hx hb dX2_copyFrom_16 rfl (lv_at hl 0 rfl) ?_
  refine lv_aload_n hx hb dX2_copyFrom_17 rfl (lv_at hl 1 rfl) ?_
  obtain ⟨v3, ev3, hf⟩ := xb hf
  refine xr_getI hx hb hts inX2 hown hKK hP ev3 rfl (by decide) w3 (fun _ h9 => h9) dX2_copyFrom_18 ?_
  obtain ⟨h3, eh3, hf⟩ := xb hf
  refine xr_put hx hb hts inX2 tyX2 tyX2_ok nmX2 hown hKK hP hS eh3 rfl (by decide) w3 (fun _ h9 => h9) rfl (tyX2_ok 2 (by decide)) rfl rfl dX2_copyFrom_21 (fun H locs hP _ hS => ?_)
  refine lv_aload_n hx hb dX2_copyFrom_24 rfl (lv_at hl 0 rfl) ?_
  refine lv_aload_n hx hb dX2_copyFrom_25 rfl (lv_at hl 1 rfl) ?_
  obtain ⟨v4, ev4, hf⟩ := xb hf
  refine xr_getI hx hb hts inX2 hown hKK hP ev4 rfl (by decide) w4 (fun _ h9 => h9) dX2_copyFrom_26 ?_
  obtain ⟨h4, eh4, hf⟩ := xb hf
  refine xr_put hx hb hts inX2 tyX2 tyX2_ok nmX2 hown hKK hP hS eh4 rfl (by decide) w4 (fun _ h9 => h9) rfl (tyX2_ok 3 (by decide)) rfl rfl dX2_copyFrom_29 (fun H locs hP _ hS => ?_)
  refine lv_aload_n hx hb dX2_copyFrom_32 rfl (lv_at hl 0 rfl) ?_
  refine lv_aload_n hx hb dX2_copyFrom_33 rfl (lv_at hl 1 rfl) ?_
  obtain ⟨v5, ev5, hf⟩ := xb hf
  refine xr_getI hx hb hts inX2 hown hKK hP ev5 rfl (by decide) w5 (fun _ h9 => h9) dX2_copyFrom_34 ?_
  obtain ⟨h5, eh5, hf⟩ := xb hf
  refine xr_put hx hb hts inX2 tyX2 tyX2_ok nmX2 hown hKK hP hS eh5 rfl (by decide) w5 (fun _ h9 => h9) rfl (tyX2_ok 4 (by decide)) rfl rfl dX2_copyFrom_37 (fun H locs hP _ hS => ?_)
  refine lv_aload_n hx hb dX2_copyFrom_40 rfl (lv_at hl 0 rfl) ?_
  refine lv_aload_n hx hb dX2_copyFrom_41 rfl (lv_at hl 1 rfl) ?_
  obtain ⟨v6, ev6, hf⟩ := xb hf
  refine xr_getI hx hb hts inX2 hown hKK hP ev6 rfl (by decide) w6 (fun _ h9 => h9) dX2_copyFrom_42 ?_
  obtain ⟨h6, eh6, hf⟩ := xb hf
  refine xr_put hx hb hts inX2 tyX2 tyX2_ok nmX2 hown hKK hP hS eh6 rfl (by decide) w6 (fun _ h9 => h9) rfl (tyX2_ok 5 (by decide)) rfl rfl dX2_copyFrom_45 (fun H locs hP _ hS => ?_)
  refine lv_aload_n hx hb dX2_copyFrom_48 rfl (lv_at hl 0 rfl) ?_
  refine lv_aload_n hx hb dX2_copyFrom_49 rfl (lv_at hl 1 rfl) ?_
  obtain ⟨v7, ev7, hf⟩ := xb hf
  refine xr_getI hx hb hts inX2 hown hKK hP ev7 rfl (by decide) w7 (fun _ h9 => h9) dX2_copyFrom_50 ?_
  obtain ⟨h7, eh7, hf⟩ := xb hf
  refine xr_put hx hb hts inX2 tyX2 tyX2_ok nmX2 hown hKK hP hS eh7 rfl (by decide) w7 (fun _ h9 => h9) rfl (tyX2_ok 7 (by decide)) rfl rfl dX2_copyFrom_53 (fun H locs hP _ hS => ?_)
  refine lv_iconst (v := (0 : Int32)) hx hb dX2_copyFrom_56 (by decide) ?_
  refine lv_istore_n (lv' := [(2, .int (0 : Int32)), (0, .ref a0), (1, .ref q0)]) hx hb dX2_copyFrom_57 rfl hl (by decide) rfl (fun ls hl => ?_)
  obtain ⟨h9, eL, hf⟩ := xb1 hf
  have J1 : ∀ (H : Heap) (locs : List Loc) (ls : Array Slot), xP B0 G h9 H → va_S (xA B0) s.heap H locs → lv_has ls 3 [(0, .ref a0), (1, .ref q0)] → W p l e rmX2_copyFrom s m args below meth c H locs 0 0 Q (F0 m 87 ls []) := by
    intro H locs ls hP hS hl
    clear eL
    refine lv_aload_n hx hb dX2_copyFrom_87 rfl (lv_at hl 0 rfl) ?_
    obtain ⟨v16, ev16, hf⟩ := xb hf
    refine xr_getR hx hb hts inX2 hown hKK hP ev16 rfl (by decide) w9 (fun _ h9 => h9) dX2_copyFrom_88 ?_
    refine lv_aload_n hx hb dX2_copyFrom_91 rfl (lv_at hl 1 rfl) ?_
    obtain ⟨v17, ev17, hf⟩ := xb hf
    refine xr_getR hx hb hts inX2 hown hKK hP ev17 rfl (by decide) w9 (fun _ h9 => h9) dX2_copyFrom_92 ?_
    obtain ⟨v18, ev18, hf⟩ := xb hf
    obtain ⟨h11, eh11, hf⟩ := xb1 hf
    refine xc_Vv (rest := []) ⟨hx, hb, hml, hown, hts⟩ (m_X4_copyFrom l B0 G fu h9 h11 v16 v17 eh11) (cwV 1 hts gX2_copyFrom_X4_copyFrom rfl rfl rfl (by decide +kernel) ⟨Nat.le_of_ble_eq_true rfl, Nat.le_of_ble_eq_true rfl⟩) hKK hP hS ev18 rfl rfl hl.1 rfl (Nat.le_of_ble_eq_true rfl) dX2_copyFrom_95 ⟨Nat.zero_le _, Nat.zero_le _⟩ (fun H locs hP hS => ?_)
    refine lv_aload_n hx hb dX2_copyFrom_98 rfl (lv_at hl 0 rfl) ?_
    refine lv_aload_n hx hb dX2_copyFrom_99 rfl (lv_at hl 1 rfl) ?_
    obtain ⟨v19, ev19, hf⟩ := xb hf
    refine xr_getI hx hb hts inX2 hown hKK hP ev19 rfl (by decide) w10 (fun _ h9 => h9) dX2_copyFrom_100 ?_
    obtain ⟨h12, eh12, hf⟩ := xb hf
    refine xr_put hx hb hts inX2 tyX2 tyX2_ok nmX2 hown hKK hP hS eh12 rfl (by decide) w10 (fun _ h9 => h9) rfl (tyX2_ok 10 (by decide)) rfl rfl dX2_copyFrom_103 (fun H locs hP _ hS => ?_)
    refine lv_aload_n hx hb dX2_copyFrom_106 rfl (lv_at hl 1 rfl) ?_
    obtain ⟨v20, ev20, hf⟩ := xb hf
    refine xr_getR hx hb hts inX2 hown hKK hP ev20 rfl (by decide) w11 (fun _ h9 => h9) dX2_copyFrom_107 ?_
    refine lv_iconst (v := (0 : Int32)) hx hb dX2_copyFrom_110 (by decide) ?_
    refine lv_aload_n hx hb dX2_copyFrom_111 rfl (lv_at hl 0 rfl) ?_
    obtain ⟨v21, ev21, hf⟩ := xb hf
    refine xr_getR hx hb hts inX2 hown hKK hP ev21 rfl (by decide) w11 (fun _ h9 => h9) dX2_copyFrom_112 ?_
    refine lv_iconst (v := (0 : Int32)) hx hb dX2_copyFrom_115 (by decide) ?_
    refine lv_aload_n hx hb dX2_copyFrom_116 rfl (lv_at hl 0 rfl) ?_
    obtain ⟨v22, ev22, hf⟩ := xb hf
    refine xr_getI hx hb hts inX2 hown hKK hP ev22 rfl (by decide) w10 (fun _ h9 => h9) dX2_copyFrom_117 ?_
    obtain ⟨h13, eh13, hf⟩ := xb hf
    refine xr_copy hx hb (hml.trans hl.1.symm) hown w12 w13 w14 w15 hKK hP hS eh13 (Nat.le_of_ble_eq_true rfl) (by decide +kernel) dX2_copyFrom_120 (fun H locs hP _ hS => ?_)
    refine lv_aload_n hx hb dX2_copyFrom_123 rfl (lv_at hl 0 rfl) ?_
    refine lv_aload_n hx hb dX2_copyFrom_124 rfl (lv_at hl 1 rfl) ?_
    obtain ⟨v23, ev23, hf⟩ := xb hf
    refine xr_getI hx hb hts inX2 hown hKK hP ev23 rfl (by decide) w16 (fun _ h9 => h9) dX2_copyFrom_125 ?_
    obtain ⟨h14, eh14, hf⟩ := xb hf
    refine xr_put hx hb hts inX2 tyX2 tyX2_ok nmX2 hown hKK hP hS eh14 rfl (by decide) w16 (fun _ h9 => h9) rfl (tyX2_ok 11 (by decide)) rfl rfl dX2_copyFrom_128 (fun H locs hP _ hS => ?_)
    refine lv_aload_n hx hb dX2_copyFrom_131 rfl (lv_at hl 1 rfl) ?_
    obtain ⟨v24, ev24, hf⟩ := xb hf
    refine xr_getR hx hb hts inX2 hown hKK hP ev24 rfl (by decide) w17 (fun _ h9 => h9) dX2_copyFrom_132 ?_
    refine lv_iconst (v := (0 : Int32)) hx hb dX2_copyFrom_135 (by decide) ?_
    refine lv_aload_n hx hb dX2_copyFrom_136 rfl (lv_at hl 0 rfl) ?_
    obtain ⟨v25, ev25, hf⟩ := xb hf
    refine xr_getR hx hb hts inX2 hown hKK hP ev25 rfl (by decide) w17 (fun _ h9 => h9) dX2_copyFrom_137 ?_
    refine lv_iconst (v := (0 : Int32)) hx hb dX2_copyFrom_140 (by decide) ?_
    refine lv_aload_n hx hb dX2_copyFrom_141 rfl (lv_at hl 0 rfl) ?_
    obtain ⟨v26, ev26, hf⟩ := xb hf
    refine xr_getI hx hb hts inX2 hown hKK hP ev26 rfl (by decide) w16 (fun _ h9 => h9) dX2_copyFrom_142 ?_
    refine lv_bipush (v := (10 : Int32)) hx hb dX2_copyFrom_145 (by decide) ?_
    refine lv_imul hx hb dX2_copyFrom_147 ?_
    obtain ⟨h15, eh15, hf⟩ := xb hf
    refine xr_copy hx hb (hml.trans hl.1.symm) hown w12 w13 w14 w15 hKK hP hS eh15 (Nat.le_of_ble_eq_true rfl) (by decide +kernel) dX2_copyFrom_148 (fun H locs hP _ hS => ?_)
    refine lv_aload_n hx hb dX2_copyFrom_151 rfl (lv_at hl 0 rfl) ?_
    refine lv_aload_n hx hb dX2_copyFrom_152 rfl (lv_at hl 1 rfl) ?_
    obtain ⟨v27, ev27, hf⟩ := xb hf
    refine xr_getI hx hb hts inX2 hown hKK hP ev27 rfl (by decide) w18 (fun _ h9 => h9) dX2_copyFrom_153 ?_
    obtain ⟨h16, eh16, hf⟩ := xb hf
    refine xr_put hx hb hts inX2 tyX2 tyX2_ok nmX2 hown hKK hP hS eh16 rfl (by decide) w18 (fun _ h9 => h9) rfl (tyX2_ok 12 (by decide)) rfl rfl dX2_copyFrom_156 (fun H locs hP _ hS => ?_)
    refine lv_aload_n hx hb dX2_copyFrom_159 rfl (lv_at hl 0 rfl) ?_
    refine lv_aload_n hx hb dX2_copyFrom_160 rfl (lv_at hl 1 rfl) ?_
    obtain ⟨v28, ev28, hf⟩ := xb hf
    refine xr_getI hx hb hts inX2 hown hKK hP ev28 rfl (by decide) w19 (fun _ h9 => h9) dX2_copyFrom_161 ?_
    obtain ⟨h17, eh17, hf⟩ := xb hf
    refine xr_put hx hb hts inX2 tyX2 tyX2_ok nmX2 hown hKK hP hS eh17 rfl (by decide) w19 (fun _ h9 => h9) rfl (tyX2_ok 13 (by decide)) rfl rfl dX2_copyFrom_164 (fun H locs hP _ hS => ?_)
    refine lv_aload_n hx hb dX2_copyFrom_167 rfl (lv_at hl 0 rfl) ?_
    refine lv_aload_n hx hb dX2_copyFrom_168 rfl (lv_at hl 1 rfl) ?_
    obtain ⟨v29, ev29, hf⟩ := xb hf
    refine xr_getL hx hb hts inX2 hown hKK hP ev29 rfl (by decide) w20 (fun _ h9 => h9) dX2_copyFrom_169 ?_
    obtain ⟨h18, eh18, hf⟩ := xb hf
    refine xr_put hx hb hts inX2 tyX2 tyX2_ok nmX2 hown hKK hP hS eh18 rfl (by decide) w20 (fun _ h9 => h9) rfl (tyX2_ok 14 (by decide)) rfl rfl dX2_copyFrom_172 (fun H locs hP _ hS => ?_)
    obtain rfl := Option.some.inj hf
    subst hQ
    exact xe_v hx hb hr hlocks hKK hP hS dX2_copyFrom_175
  clear hf
  refine xloop_ind (P := fun z => ∀ (H : Heap) (locs : List Loc) (ls : Array Slot), xP B0 G z.2 H → va_S (xA B0) s.heap H locs → lv_has ls 3 [(2, .int z.1), (0, .ref a0), (1, .ref q0)] → W p l e rmX2_copyFrom s m args below meth c H locs 0 0 Q (F0 m 58 ls [])) ?_ eL _ _ _ hP hS (lv_sub hl [0, 1, 2] rfl)
  rintro ⟨v8, h8⟩ o hf IH EX H locs ls hP hS hl
  have hf := xf2_e hf
  have hP : xP B0 G h8 H := hP
  have hl : lv_has ls 3 [(2, .int v8), (0, .ref a0), (1, .ref q0)] := hl
  refine lv_iload_n hx hb dX2_copyFrom_58 rfl (lv_at hl 0 rfl) ?_
  refine lv_aload_n hx hb dX2_copyFrom_59 rfl (lv_at hl 1 rfl) ?_
  obtain ⟨v9, ev9, hf⟩ := xb hf
  refine xr_getI hx hb hts inX2 hown hKK hP ev9 rfl (by decide) w7 (fun _ h9 => h9) dX2_copyFrom_60 ?_
  refine lv_icmp_ge (tgt := 87) hx hb dX2_copyFrom_63 (by decide) (fun c1 => ?_) (fun c1 => ?_)
  · have hf := xif_t hf c1
    have hf := EX _ (Option.some.inj hf).symm
    obtain rfl := hf
    exact J1 _ _ _ hP hS (lv_sub hl [1, 2] rfl)
  · have hf := xif_f hf c1
    refine lv_aload_n hx hb dX2_copyFrom_66 rfl (lv_at hl 1 rfl) ?_
    obtain ⟨v10, ev10, hf⟩ := xb hf
    refine xr_getR hx hb hts inX2 hown hKK hP ev10 rfl (by decide) w8 (fun _ h9 => h9) dX2_copyFrom_67 ?_
    refine lv_iload_n hx hb dX2_copyFrom_70 rfl (lv_at hl 0 rfl) ?_
    obtain ⟨v11, ev11, hf⟩ := xb hf
    refine xr_aald (fun _ => rfl) hx hb hKK hP ev11 dX2_copyFrom_71 ?_
    refine lv_aload_n hx hb dX2_copyFrom_72 rfl (lv_at hl 2 rfl) ?_
    obtain ⟨v12, ev12, hf⟩ := xb hf
    refine xr_getR hx hb hts inX2 hown hKK hP ev12 rfl (by decide) w8 (fun _ h9 => h9) dX2_copyFrom_73 ?_
    refine lv_iload_n hx hb dX2_copyFrom_76 rfl (lv_at hl 0 rfl) ?_
    obtain ⟨v13, ev13, hf⟩ := xb hf
    refine xr_aald (fun _ => rfl) hx hb hKK hP ev13 dX2_copyFrom_77 ?_
    obtain ⟨v14, ev14, hf⟩ := xb hf
    obtain ⟨h10, eh10, hf⟩ := xb1 hf
    refine xc_Vv (rest := []) ⟨hx, hb, hml, hown, hts⟩ (m_X1_copyFrom l B0 G h8 h10 v11 v13 eh10) (cwV 1 hts gX2_copyFrom_X1_copyFrom rfl rfl rfl (by decide +kernel) ⟨Nat.le_of_ble_eq_true rfl, Nat.le_of_ble_eq_true rfl⟩) hKK hP hS ev14 rfl rfl hl.1 rfl (Nat.le_of_ble_eq_true rfl) dX2_copyFrom_78 ⟨Nat.zero_le _, Nat.zero_le _⟩ (fun H locs hP hS => ?_)
    obtain ⟨v15, ev15, hf⟩ := xl hf
    refine lv_iinc (v := v15) (lv' := [(2, .int v15), (0, .ref a0), (1, .ref q0)]) hx hb dX2_copyFrom_81 hl (k := 0) rfl (by rw [ev15]; rfl) (by decide) rfl (fun ls hl => ?_)
    refine lv_goto (tgt := 58) hx hb dX2_copyFrom_84 (by decide) ?_
    exact IH _ (Option.some.inj hf).symm _ _ _ hP hS (lv_sub hl [0, 1, 2] rfl)
/-- RainReservoir$State.dropAboveCapacity -/
def f_X2_dropAboveCapacity (h : XH) (a0 : Nat) : Option (Int32 × XH) :=
  (xgI h a0 2 12).bind fun v1 =>
  (xgI h a0 2 0).bind fun v2 =>
  olet ((xmax (v1 - v2) (0 : Int32))) fun v3 =>
  (xgI h a0 2 12).bind fun v4 =>
  (xpV h a0 2 12 (.int (v4 - v3))).bind fun h1 =>
  some ((v3, h1))
abbrev rmX2_dropAboveCapacity : Room := { frames := 1, cells := 0, slots := 0, locals := 21 }
set_option maxHeartbeats 4000000 in
set_option maxRecDepth 100000 in
theorem m_X2_dropAboveCapacity (l : Launch) (B0 : Nat) (G : XG) (h hE : XH) (a0 : Nat) (rE : Int32) (hf : f_X2_dropAboveCapacity h a0 = some (rE, hE)) : Met l yX2_dropAboveCapacity wsX2_dropAboveCapacity rmX2_dropAboveCapacity (va_Pc [.ref a0] (xU B0 G h)) (xQi B0 G hE rE) 0 0 (xA B0) := by
  refine xMet (cc := cX2_dropAboveCapacity) (maxL := 2) (by decide) rfl (Nat.le_of_ble_eq_true rfl) ?_
  intro p e s m args below meth c ls hx hb hr hml hown hlocks hnm hts hKK hP hl
  have hown : s.vm.findClass RX2 = some m.cls := hown
  have hl : lv_has ls 2 [(0, .ref a0)] := hl
  have hS : va_S (xA B0) s.heap s.heap [] := va_S.rf
  have inX2 : ∀ w ∈ wsX20, w ∈ wsX2_dropAboveCapacity := by decide +kernel
  have w1 := hts (.fieldLink RX2 73 "RainReservoir$State" "level" "I") (by decide +kernel)
  have w2 := hts (.fieldLink RX2 9 "RainReservoir$State" "capacity" "I") (by decide +kernel)
  have w3 := hts (.methodLink RX2 94 Lib.Math.max.name) (by decide +kernel)
  have w4 := hts (.static Lib.Math.max.name) (by decide +kernel)
  have w5 := hts (.initialized "java/lang/Math") (by decide +kernel)
  have w6 := hts (.code Lib.Math.max.name Lib.Math.max.code 2 (some .int)) (by decide +kernel)
  generalize hQ : MQ below (xQi B0 G hE rE) args s 0 0 (xA B0) = Q
  unfold f_X2_dropAboveCapacity at hf
  refine lv_aload_n hx hb dX2_dropAboveCapacity_0 rfl (lv_at hl 0 rfl) ?_
  obtain ⟨v1, ev1, hf⟩ := xb hf
  refine xr_getI hx hb hts inX2 hown hKK hP ev1 rfl (by decide) w1 (fun _ h9 => h9) dX2_dropAboveCapacity_1 ?_
  refine lv_aload_n hx hb dX2_dropAboveCapacity_4 rfl (lv_at hl 0 rfl) ?_
  obtain ⟨v2, ev2, hf⟩ := xb hf
  refine xr_getI hx hb hts inX2 hown hKK hP ev2 rfl (by decide) w2 (fun _ h9 => h9) dX2_dropAboveCapacity_5 ?_
  refine lv_isub hx hb dX2_dropAboveCapacity_8 ?_
  refine lv_iconst (v := (0 : Int32)) hx hb dX2_dropAboveCapacity_9 (by decide) ?_
  refine xr_mmax hx hb (hml.trans hl.1.symm) hown w3 w4 w5 w6 ⟨Nat.le_of_ble_eq_true rfl, Nat.le_of_ble_eq_true rfl⟩ (Nat.le_of_ble_eq_true rfl) ⟨Nat.zero_le _, Nat.zero_le _⟩ dX2_dropAboveCapacity_10 ?_
  obtain ⟨v3, ev3, hf⟩ := xl hf
  refine xtopi ev3 ?_
  refine lv_istore_n (lv' := [(1, .int v3), (0, .ref a0)]) hx hb dX2_dropAboveCapacity_13 rfl hl (by decide) rfl (fun ls hl => ?_)
  refine lv_aload_n hx hb dX2_dropAboveCapacity_14 rfl (lv_at hl 1 rfl) ?_
  refine lv_dup hx hb dX2_dropAboveCapacity_15 rfl ?_
  obtain ⟨v4, ev4, hf⟩ := xb hf
  refine xr_getI hx hb hts inX2 hown hKK hP ev4 rfl (by decide) w1 (fun _ h9 => h9) dX2_dropAboveCapacity_16 ?_
  refine lv_iload_n hx hb dX2_dropAboveCapacity_19 rfl (lv_at hl 0 rfl) ?_
  refine lv_isub hx hb dX2_dropAboveCapacity_20 ?_
  obtain ⟨h1, eh1, hf⟩ := xb hf
  refine xr_put hx hb hts inX2 tyX2 tyX2_ok nmX2 hown hKK hP hS eh1 rfl (by decide) w1 (fun _ h9 => h9) rfl (tyX2_ok 12 (by decide)) rfl rfl dX2_dropAboveCapacity_21 (fun H locs hP _ hS => ?_)
  refine lv_iload_n hx hb dX2_dropAboveCapacity_24 rfl (lv_at hl 0 rfl) ?_
  obtain ⟨rfl, rfl⟩ := xinj2 hf
  subst hQ
  exact xe_i hx hb hr hlocks hKK hP hS dX2_dropAboveCapacity_25
/-- RainReservoir$State.settingValue -/
def f_X2_settingValue (h : XH) (a0 : Nat) (p0 : Int32) : Option (Int32) :=
  if p0 = (0 : Int32) then
    (xgI h a0 2 0).bind fun v1 =>
    some (v1)
  else
  if p0 = (1 : Int32) then
    (xgI h a0 2 1).bind fun v2 =>
    some (v2)
  else
  if p0 = (2 : Int32) then
    (xgI h a0 2 2).bind fun v3 =>
    some (v3)
  else
  if p0 = (3 : Int32) then
    (xgI h a0 2 3).bind fun v4 =>
    some (v4)
  else
  if p0 = (4 : Int32) then
    (xgI h a0 2 4).bind fun v5 =>
    some (v5)
  else
  if p0 = (5 : Int32) then
    (xgI h a0 2 5).bind fun v6 =>
    some (v6)
  else
  if p0 = (6 : Int32) then
    (xgI h a0 2 7).bind fun v7 =>
    some (v7)
  else
  if p0 = (7 : Int32) then
    (xgR h a0 2 8).bind fun v8 =>
    (xgI h v8 4 1).bind fun v9 =>
    some (v9)
  else
  if p0 = (8 : Int32) then
    (xgI h a0 2 10).bind fun v10 =>
    some (v10)
  else
  if p0 = (9 : Int32) then
    (xgI h a0 2 11).bind fun v11 =>
    some (v11)
  else
  if p0 = (10 : Int32) then
    (xgI h a0 2 12).bind fun v12 =>
    some (v12)
  else
  (xgI h a0 2 13).bind fun v13 =>
  some (v13)
abbrev rmX2_settingValue : Room := { frames := 0, cells := 0, slots := 0, locals := 0 }
set_option maxHeartbeats 4000000 in
set_option maxRecDepth 100000 in
theorem m_X2_settingValue (l : Launch) (B0 : Nat) (G : XG) (h : XH) (a0 : Nat) (p0 : Int32) (rE : Int32) (hf : f_X2_settingValue h a0 p0 = some rE) : Met l yX2_settingValue wsX2_settingValue rmX2_settingValue (va_Pc [.ref a0, .int p0] (xU B0 G h)) (xQi B0 G h rE) 0 0 (xA B0) := by
  refine xMet (cc := cX2_settingValue) (maxL := 2) (by decide) rfl (Nat.le_of_ble_eq_true rfl) ?_
  intro p e s m args below meth c ls hx hb hr hml hown hlocks hnm hts hKK hP hl
  have hown : s.vm.findClass RX2 = some m.cls := hown
  have hl : lv_has ls 2 [(0, .ref a0), (1, .int p0)] := hl
  have hS : va_S (xA B0) s.heap s.heap [] := va_S.rf
  have inX2 : ∀ w ∈ wsX20, w ∈ wsX2_settingValue := by decide +kernel
  have inX4 : ∀ w ∈ wsX40, w ∈ wsX2_settingValue := by decide +kernel
  have w1 := hts (.fieldLink RX2 9 "RainReservoir$State" "capacity" "I") (by decide +kernel)
  have w2 := hts (.fieldLink RX2 39 "RainReservoir$State" "floor" "I") (by decide +kernel)
  have w3 := hts (.fieldLink RX2 42 "RainReservoir$State" "topUp" "I") (by decide +kernel)
  have w4 := hts (.fieldLink RX2 45 "RainReservoir$State" "evaporation" "I") (by decide +kernel)
  have w5 := hts (.fieldLink RX2 15 "RainReservoir$State" "dryLimit" "I") (by decide +kernel)
  have w6 := hts (.fieldLink RX2 48 "RainReservoir$State" "rule" "I") (by decide +kernel)
  have w7 := hts (.fieldLink RX2 51 "RainReservoir$State" "roofCount" "I") (by decide +kernel)
  have w8 := hts (.fieldLink RX2 28 "RainReservoir$State" "users" "LRainReservoir$Users;") (by decide +kernel)
  have w9 := hts (.fieldLink RX2 87 "RainReservoir$Users" "count" "I") (by decide +kernel)
  have w10 := hts (.fieldLink RX2 61 "RainReservoir$State" "rainCount" "I") (by decide +kernel)
  have w11 := hts (.fieldLink RX2 70 "RainReservoir$State" "doneCount" "I") (by decide +kernel)
  have w12 := hts (.fieldLink RX2 73 "RainReservoir$State" "level" "I") (by decide +kernel)
  have w13 := hts (.fieldLink RX2 76 "RainReservoir$State" "dryDays" "I") (by decide +kernel)
  generalize hQ : MQ below (xQi B0 G h rE) args s 0 0 (xA B0) = Q
  unfold f_X2_settingValue at hf
  refine lv_iload_n hx hb dX2_settingValue_0 rfl (lv_at hl 1 rfl) ?_
  by_cases c1 : p0 = (0 : Int32)
  · have hf := xif_t hf c1
    refine lv_tableIn (off := 59) (tgt := 60) hx hb dX2_settingValue_1 (by rw [c1]; decide) (by rw [c1]; decide) (by rw [c1]; rfl) (by decide) ?_
    refine lv_aload_n hx hb dX2_settingValue_60 rfl (lv_at hl 0 rfl) ?_
    obtain ⟨v1, ev1, hf⟩ := xb hf
    refine xr_getI hx hb hts inX2 hown hKK hP ev1 rfl (by decide) w1 (fun _ h9 => h9) dX2_settingValue_61 ?_
    obtain rfl := Option.some.inj hf
    subst hQ
    exact xe_i hx hb hr hlocks hKK hP hS dX2_settingValue_64
  have hf := xif_f hf c1
  by_cases c2 : p0 = (1 : Int32)
  · have hf := xif_t hf c2
    refine lv_tableIn (off := 64) (tgt := 65) hx hb dX2_settingValue_1 (by rw [c2]; decide) (by rw [c2]; decide) (by rw [c2]; rfl) (by decide) ?_
    refine lv_aload_n hx hb dX2_settingValue_65 rfl (lv_at hl 0 rfl) ?_
    obtain ⟨v2, ev2, hf⟩ := xb hf
    refine xr_getI hx hb hts inX2 hown hKK hP ev2 rfl (by decide) w2 (fun _ h9 => h9) dX2_settingValue_66 ?_
    obtain rfl := Option.some.inj hf
    subst hQ
    exact xe_i hx hb hr hlocks hKK hP hS dX2_settingValue_69
  have hf := xif_f hf c2
  by_cases c3 : p0 = (2 : Int32)
  · have hf := xif_t hf c3
    refine lv_tableIn (off := 69) (tgt := 70) hx hb dX2_settingValue_1 (by rw [c3]; decide) (by rw [c3]; decide) (by rw [c3]; rfl) (by decide) ?_
    refine lv_aload_n hx hb dX2_settingValue_70 rfl (lv_at hl 0 rfl) ?_
    obtain ⟨v3, ev3, hf⟩ := xb hf
    refine xr_getI hx hb hts inX2 hown hKK hP ev3 rfl (by decide) w3 (fun _ h9 => h9) dX2_settingValue_71 ?_
    obtain rfl := Option.some.inj hf
    subst hQ
    exact xe_i hx hb hr hlocks hKK hP hS dX2_settingValue_74
  have hf := xif_f hf c3
  by_cases c4 : p0 = (3 : Int32)
  · have hf := xif_t hf c4
    refine lv_tableIn (off := 74) (tgt := 75) hx hb dX2_settingValue_1 (by rw [c4]; decide) (by rw [c4]; decide) (by rw [c4]; rfl) (by decide) ?_
    refine lv_aload_n hx hb dX2_settingValue_75 rfl (lv_at hl 0 rfl) ?_
    obtain ⟨v4, ev4, hf⟩ := xb hf
    refine xr_getI hx hb hts inX2 hown hKK hP ev4 rfl (by decide) w4 (fun _ h9 => h9) dX2_settingValue_76 ?_
    obtain rfl := Option.some.inj hf
    subst hQ
    exact xe_i hx hb hr hlocks hKK hP hS dX2_settingValue_79
  have hf := xif_f hf c4
  by_cases c5 : p0 = (4 : Int32)
  · have hf := xif_t hf c5
    refine lv_tableIn (off := 79) (tgt := 80) hx hb dX2_settingValue_1 (by rw [c5]; decide) (by rw [c5]; decide) (by rw [c5]; rfl) (by decide) ?_
    refine lv_aload_n hx hb dX2_settingValue_80 rfl (lv_at hl 0 rfl) ?_
    obtain ⟨v5, ev5, hf⟩ := xb hf
    refine xr_getI hx hb hts inX2 hown hKK hP ev5 rfl (by decide) w5 (fun _ h9 => h9) dX2_settingValue_81 ?_
    obtain rfl := Option.some.inj hf
    subst hQ
    exact xe_i hx hb hr hlocks hKK hP hS dX2_settingValue_84
  have hf := xif_f hf c5
  by_cases c6 : p0 = (5 : Int32)
  · have hf := xif_t hf c6
    refine lv_tableIn (off := 84) (tgt := 85) hx hb dX2_settingValue_1 (by rw [c6]; decide) (by rw [c6]; decide) (by rw [c6]; rfl) (by decide) ?_
    refine lv_aload_n hx hb dX2_settingValue_85 rfl (lv_at hl 0 rfl) ?_
    obtain ⟨v6, ev6, hf⟩ := xb hf
    refine xr_getI hx hb hts inX2 hown hKK hP ev6 rfl (by decide) w6 (fun _ h9 => h9) dX2_settingValue_86 ?_
    obtain rfl := Option.some.inj hf
    subst hQ
    exact xe_i hx hb hr hlocks hKK hP hS dX2_settingValue_89
  have hf := xif_f hf c6
  by_cases c7 : p0 = (6 : Int32)
  · have hf := xif_t hf c7
    refine lv_tableIn (off := 89) (tgt := 90) hx hb dX2_settingValue_1 (by rw [c7]; decide) (by rw [c7]; decide) (by rw [c7]; rfl) (by decide) ?_
    refine lv_aload_n hx hb dX2_settingValue_90 rfl (lv_at hl 0 rfl) ?_
    obtain ⟨v7, ev7, hf⟩ := xb hf
    refine xr_getI hx hb hts inX2 hown hKK hP ev7 rfl (by decide) w7 (fun _ h9 => h9) dX2_settingValue_91 ?_
    obtain rfl := Option.some.inj hf
    subst hQ
    exact xe_i hx hb hr hlocks hKK hP hS dX2_settingValue_94
  have hf := xif_f hf c7
  by_cases c8 : p0 = (7 : Int32)
  · have hf := xif_t hf c8
    refine lv_tableIn (off := 94) (tgt := 95) hx hb dX2_settingValue_1 (by rw [c8]; decide) (by rw [c8]; decide) (by rw [c8]; rfl) (by decide) ?_
    refine lv_aload_n hx hb dX2_settingValue_95 rfl (lv_at hl 0 rfl) ?_
    obtain ⟨v8, ev8, hf⟩ := xb hf
    refine xr_getR hx hb hts inX2 hown hKK hP ev8 rfl (by decide) w8 (fun _ h9 => h9) dX2_settingValue_96 ?_
    obtain ⟨v9, ev9, hf⟩ := xb hf
    refine xr_getI hx hb hts inX4 hown hKK hP ev9 rfl (by decide) w9 (fun _ h9 => h9) dX2_settingValue_99 ?_
    obtain rfl := Option.some.inj hf
    subst hQ
    exact xe_i hx hb hr hlocks hKK hP hS dX2_settingValue_102
  have hf := xif_f hf c8
  by_cases c9 : p0 = (8 : Int32)
  · have hf := xif_t hf c9
    refine lv_tableIn (off := 102) (tgt := 103) hx hb dX2_settingValue_1 (by rw [c9]; decide) (by rw [c9]; decide) (by rw [c9]; rfl) (by decide) ?_
    refine lv_aload_n hx hb dX2_settingValue_103 rfl (lv_at hl 0 rfl) ?_
    obtain ⟨v10, ev10, hf⟩ := xb hf
    refine xr_getI hx hb hts inX2 hown hKK hP ev10 rfl (by decide) w10 (fun _ h9 => h9) dX2_settingValue_104 ?_
    obtain rfl := Option.some.inj hf
    subst hQ
    exact xe_i hx hb hr hlocks hKK hP hS dX2_settingValue_107
  have hf := xif_f hf c9
  by_cases c10 : p0 = (9 : Int32)
  · have hf := xif_t hf c10
    refine lv_tableIn (off := 107) (tgt := 108) hx hb dX2_settingValue_1 (by rw [c10]; decide) (by rw [c10]; decide) (by rw [c10]; rfl) (by decide) ?_
    refine lv_aload_n hx hb dX2_settingValue_108 rfl (lv_at hl 0 rfl) ?_
    obtain ⟨v11, ev11, hf⟩ := xb hf
    refine xr_getI hx hb hts inX2 hown hKK hP ev11 rfl (by decide) w11 (fun _ h9 => h9) dX2_settingValue_109 ?_
    obtain rfl := Option.some.inj hf
    subst hQ
    exact xe_i hx hb hr hlocks hKK hP hS dX2_settingValue_112
  have hf := xif_f hf c10
  by_cases c11 : p0 = (10 : Int32)
  · have hf := xif_t hf c11
    refine lv_tableIn (off := 112) (tgt := 113) hx hb dX2_settingValue_1 (by rw [c11]; decide) (by rw [c11]; decide) (by rw [c11]; rfl) (by decide) ?_
    refine lv_aload_n hx hb dX2_settingValue_113 rfl (lv_at hl 0 rfl) ?_
    obtain ⟨v12, ev12, hf⟩ := xb hf
    refine xr_getI hx hb hts inX2 hown hKK hP ev12 rfl (by decide) w12 (fun _ h9 => h9) dX2_settingValue_114 ?_
    obtain rfl := Option.some.inj hf
    subst hQ
    exact xe_i hx hb hr hlocks hKK hP hS dX2_settingValue_117
  have hf := xif_f hf c11
  have nc1 : p0.toInt ≠ 0 := fun q => c1 (Int32.toInt_inj.mp (q.trans (by decide)))
  have nc2 : p0.toInt ≠ 1 := fun q => c2 (Int32.toInt_inj.mp (q.trans (by decide)))
  have nc3 : p0.toInt ≠ 2 := fun q => c3 (Int32.toInt_inj.mp (q.trans (by decide)))
  have nc4 : p0.toInt ≠ 3 := fun q => c4 (Int32.toInt_inj.mp (q.trans (by decide)))
  have nc5 : p0.toInt ≠ 4 := fun q => c5 (Int32.toInt_inj.mp (q.trans (by decide)))
  have nc6 : p0.toInt ≠ 5 := fun q => c6 (Int32.toInt_inj.mp (q.trans (by decide)))
  have nc7 : p0.toInt ≠ 6 := fun q => c7 (Int32.toInt_inj.mp (q.trans (by decide)))
  have nc8 : p0.toInt ≠ 7 := fun q => c8 (Int32.toInt_inj.mp (q.trans (by decide)))
  have nc9 : p0.toInt ≠ 8 := fun q => c9 (Int32.toInt_inj.mp (q.trans (by decide)))
  have nc10 : p0.toInt ≠ 9 := fun q => c10 (Int32.toInt_inj.mp (q.trans (by decide)))
  have nc11 : p0.toInt ≠ 10 := fun q => c11 (Int32.toInt_inj.mp (q.trans (by decide)))
  refine lv_tableOut (tgt := 118) hx hb dX2_settingValue_1 (by omega) (by decide) ?_
  refine lv_aload_n hx hb dX2_settingValue_118 rfl (lv_at hl 0 rfl) ?_
  obtain ⟨v13, ev13, hf⟩ := xb hf
  refine xr_getI hx hb hts inX2 hown hKK hP ev13 rfl (by decide) w13 (fun _ h9 => h9) dX2_settingValue_119 ?_
  obtain rfl := Option.some.inj hf
  subst hQ
  exact xe_i hx hb hr hlocks hKK hP hS dX2_settingValue_122
/-- RainReservoir$State.putRain -/
def f_X2_putRain (h : XH) (a0 : Nat) (p0 : Int32) : Option (XH) :=
  (xgR h a0 2 9).bind fun v1 =>
  (xgI h a0 2 10).bind fun v2 =>
  (xast h v1 0 v2 p0).bind fun h1 =>
  (xgI h1 a0 2 10).bind fun v3 =>
  (xpV h1 a0 2 10 (.int (v3 + (1 : Int32)))).bind fun h2 =>
  some (h2)
abbrev rmX2_putRain : Room := { frames := 0, cells := 0, slots := 0, locals := 0 }
set_option maxHeartbeats 4000000 in
set_option maxRecDepth 100000 in
theorem m_X2_putRain (l : Launch) (B0 : Nat) (G : XG) (h hE : XH) (a0 : Nat) (p0 : Int32) (hf : f_X2_putRain h a0 p0 = some hE) : Met l yX2_putRain wsX2_putRain rmX2_putRain (va_Pc [.ref a0, .int p0] (xU B0 G h)) (xQv B0 G hE) 0 0 (xA B0) := by
  refine xMet (cc := cX2_putRain) (maxL := 2) (by decide) rfl (Nat.le_of_ble_eq_true rfl) ?_
  intro p e s m args below meth c ls hx hb hr hml hown hlocks hnm hts hKK hP hl
  have hown : s.vm.findClass RX2 = some m.cls := hown
  have hl : lv_has ls 2 [(0, .ref a0), (1, .int p0)] := hl
  have hS : va_S (xA B0) s.heap s.heap [] := va_S.rf
  have inX2 : ∀ w ∈ wsX20, w ∈ wsX2_putRain := by decide +kernel
  have w1 := hts (.fieldLink RX2 32 "RainReservoir$State" "rains" "[I") (by decide +kernel)
  have w2 := hts (.fieldLink RX2 61 "RainReservoir$State" "rainCount" "I") (by decide +kernel)
  generalize hQ : MQ below (xQv B0 G hE) args s 0 0 (xA B0) = Q
  unfold f_X2_putRain at hf
  refine lv_aload_n hx hb dX2_putRain_0 rfl (lv_at hl 0 rfl) ?_
  obtain ⟨v1, ev1, hf⟩ := xb hf
  refine xr_getR hx hb hts inX2 hown hKK hP ev1 rfl (by decide) w1 (fun _ h9 => h9) dX2_putRain_1 ?_
  refine lv_aload_n hx hb dX2_putRain_4 rfl (lv_at hl 0 rfl) ?_
  obtain ⟨v2, ev2, hf⟩ := xb hf
  refine xr_getI hx hb hts inX2 hown hKK hP ev2 rfl (by decide) w2 (fun _ h9 => h9) dX2_putRain_5 ?_
  refine lv_iload_n hx hb dX2_putRain_8 rfl (lv_at hl 1 rfl) ?_
  obtain ⟨h1, eh1, hf⟩ := xb hf
  refine xr_iast hx hb hKK hP hS eh1 dX2_putRain_9 (fun H locs hP _ hS => ?_)
  refine lv_aload_n hx hb dX2_putRain_10 rfl (lv_at hl 0 rfl) ?_
  refine lv_dup hx hb dX2_putRain_11 rfl ?_
  obtain ⟨v3, ev3, hf⟩ := xb hf
  refine xr_getI hx hb hts inX2 hown hKK hP ev3 rfl (by decide) w2 (fun _ h9 => h9) dX2_putRain_12 ?_
  refine lv_iconst (v := (1 : Int32)) hx hb dX2_putRain_15 (by decide) ?_
  refine lv_iadd hx hb dX2_putRain_16 ?_
  obtain ⟨h2, eh2, hf⟩ := xb hf
  refine xr_put hx hb hts inX2 tyX2 tyX2_ok nmX2 hown hKK hP hS eh2 rfl (by decide) w2 (fun _ h9 => h9) rfl (tyX2_ok 10 (by decide)) rfl rfl dX2_putRain_17 (fun H locs hP _ hS => ?_)
  obtain rfl := Option.some.inj hf
  subst hQ
  exact xe_v hx hb hr hlocks hKK hP hS dX2_putRain_20
/-- RainReservoir$State.drainWhenDry -/
def f_X2_drainWhenDry (fu : Nat) (h : XH) (a0 : Nat) (p0 : Int32) : Option (Int32 × XH) :=
  if p0 ≤ (0 : Int32) then
    (xgI h a0 2 13).bind fun v1 =>
    (xpV h a0 2 13 (.int (v1 + (1 : Int32)))).bind fun h1 =>
    (xgI h1 a0 2 13).bind fun v2 =>
    (xgI h1 a0 2 4).bind fun v3 =>
    obind2 (
      if v2 < v3 then
        some ((0 : Int32), h1)
      else
        obind2 (xloop (xf3 fun (v5 : Int32) (v6 : Int32) (h3 : XH) =>
          (xgI h3 a0 2 7).bind fun v8 =>
          if v8 ≤ v6 then
            some (.inr (v5, h3))
          else
            (xgR h3 a0 2 6).bind fun v9 =>
            (xaldR h3 v9 3 v6).bind fun v10 =>
            (xis h3 v10 1).bind fun v11 =>
            obind2 (f_X1_drain h3 v10) fun v12 h5 =>
            olet ((v5 + v12)) fun v13 =>
            olet (v6 + (1 : Int32)) fun v14 =>
            some (.inl (v13, v14, h5))
        ) fu ((0 : Int32), (0 : Int32), h1)) fun v7 h4 =>
        some (v7, h4)
    ) fun v4 h2 =>
    some ((v4, h2))
  else
    (xpV h a0 2 13 (.int (0 : Int32))).bind fun h6 =>
    some (((0 : Int32), h6))
abbrev rmX2_drainWhenDry : Room := { frames := 1, cells := 0, slots := 0, locals := 21 }
set_option maxHeartbeats 4000000 in
set_option maxRecDepth 100000 in
theorem m_X2_drainWhenDry (l : Launch) (B0 : Nat) (G : XG) (fu : Nat) (h hE : XH) (a0 : Nat) (p0 : Int32) (rE : Int32) (hf : f_X2_drainWhenDry fu h a0 p0 = some (rE, hE)) : Met l yX2_drainWhenDry wsX2_drainWhenDry rmX2_drainWhenDry (va_Pc [.ref a0, .int p0] (xU B0 G h)) (xQi B0 G hE rE) 0 0 (xA B0) := by
  refine xMet (cc := cX2_drainWhenDry) (maxL := 4) (by decide) rfl (Nat.le_of_ble_eq_true rfl) ?_
  intro p e s m args below meth c ls hx hb hr hml hown hlocks hnm hts hKK hP hl
  have hown : s.vm.findClass RX2 = some m.cls := hown
  have hl : lv_has ls 4 [(0, .ref a0), (1, .int p0)] := hl
  have hS : va_S (xA B0) s.heap s.heap [] := va_S.rf
  have inX2 : ∀ w ∈ wsX20, w ∈ wsX2_drainWhenDry := by decide +kernel
  have w1 := hts (.fieldLink RX2 76 "RainReservoir$State" "dryDays" "I") (by decide +kernel)
  have w2 := hts (.fieldLink RX2 15 "RainReservoir$State" "dryLimit" "I") (by decide +kernel)
  have w3 := hts (.fieldLink RX2 51 "RainReservoir$State" "roofCount" "I") (by decide +kernel)
  have w4 := hts (.fieldLink RX2 20 "RainReservoir$State" "roofs" "[LRainReservoir$Roof;") (by decide +kernel)
  generalize hQ : MQ below (xQi B0 G hE rE) args s 0 0 (xA B0) = Q
  unfold f_X2_drainWhenDry at hf
  refine lv_iload_n hx hb dX2_drainWhenDry_0 rfl (lv_at hl 1 rfl) ?_
  refine lv_if_le (tgt := 11) hx hb dX2_drainWhenDry_1 (by decide) (fun c1 => ?_) (fun c1 => ?_)
  · have hf := xif_t hf c1
    refine lv_aload_n hx hb dX2_drainWhenDry_11 rfl (lv_at hl 0 rfl) ?_
    refine lv_dup hx hb dX2_drainWhenDry_12 rfl ?_
    obtain ⟨v1, ev1, hf⟩ := xb hf
    refine xr_getI hx hb hts inX2 hown hKK hP ev1 rfl (by decide) w1 (fun _ h9 => h9) dX2_drainWhenDry_13 ?_
    refine lv_iconst (v := (1 : Int32)) hx hb dX2_drainWhenDry_16 (by decide) ?_
    refine lv_iadd hx hb dX2_drainWhenDry_17 ?_
    obtain ⟨h1, eh1, hf⟩ := xb hf
    refine xr_put hx hb hts inX2 tyX2 tyX2_ok nmX2 hown hKK hP hS eh1 rfl (by decide) w1 (fun _ h9 => h9) rfl (tyX2_ok 13 (by decide)) rfl rfl dX2_drainWhenDry_18 (fun H locs hP _ hS => ?_)
    refine lv_iconst (v := (0 : Int32)) hx hb dX2_drainWhenDry_21 (by decide) ?_
    refine lv_istore_n (lv' := [(2, .int (0 : Int32)), (0, .ref a0), (1, .int p0)]) hx hb dX2_drainWhenDry_22 rfl hl (by decide) rfl (fun ls hl => ?_)
    refine lv_aload_n hx hb dX2_drainWhenDry_23 rfl (lv_at hl 1 rfl) ?_
    obtain ⟨v2, ev2, hf⟩ := xb hf
    refine xr_getI hx hb hts inX2 hown hKK hP ev2 rfl (by decide) w1 (fun _ h9 => h9) dX2_drainWhenDry_24 ?_
    refine lv_aload_n hx hb dX2_drainWhenDry_27 rfl (lv_at hl 1 rfl) ?_
    obtain ⟨v3, ev3, hf⟩ := xb hf
    refine xr_getI hx hb hts inX2 hown hKK hP ev3 rfl (by decide) w2 (fun _ h9 => h9) dX2_drainWhenDry_28 ?_
    obtain ⟨v4, h2, ej1, hf⟩ := xb2 hf
    have J1 : ∀ (H : Heap) (locs : List Loc) (ls : Array Slot), xP B0 G h2 H → va_S (xA B0) s.heap H locs → lv_has ls 4 [(2, .int v4)] → W p l e rmX2_drainWhenDry s m args below meth c H locs 0 0 Q (F0 m 62 ls []) := by
      intro H locs ls hP hS hl
      clear ej1
      refine lv_iload_n hx hb dX2_drainWhenDry_62 rfl (lv_at hl 0 rfl) ?_
      obtain ⟨rfl, rfl⟩ := xinj2 hf
      subst hQ
      exact xe_i hx hb hr hlocks hKK hP hS dX2_drainWhenDry_63
    have hf := ej1
    clear ej1
    refine lv_icmp_lt (tgt := 62) hx hb dX2_drainWhenDry_31 (by decide) (fun c2 => ?_) (fun c2 => ?_)
    · have hf := xif_t hf c2
      obtain ⟨rfl, rfl⟩ := xinj2 hf
      exact J1 _ _ _ hP hS (lv_sub hl [0] rfl)
    · have hf := xif_f hf c2
      refine lv_iconst (v := (0 : Int32)) hx hb dX2_drainWhenDry_34 (by decide) ?_
      refine lv_istore_n (lv' := [(3, .int (0 : Int32)), (2, .int (0 : Int32)), (0, .ref a0), (1, .int p0)]) hx hb dX2_drainWhenDry_35 rfl hl (by decide) rfl (fun ls hl => ?_)
      obtain ⟨v7, h4, eL, hf⟩ := xb2 hf
      have J2 : ∀ (H : Heap) (locs : List Loc) (ls : Array Slot), xP B0 G h4 H → va_S (xA B0) s.heap H locs → lv_has ls 4 [(2, .int v7)] → W p l e rmX2_drainWhenDry s m args below meth c H locs 0 0 Q (F0 m 62 ls []) := by
        intro H locs ls hP hS hl
        clear eL
        obtain ⟨rfl, rfl⟩ := xinj2 hf
        exact J1 _ _ _ hP hS (lv_sub hl [0] rfl)
      clear hf
      refine xloop_ind (P := fun z => ∀ (H : Heap) (locs : List Loc) (ls : Array Slot), xP B0 G z.2.2 H → va_S (xA B0) s.heap H locs → lv_has ls 4 [(2, .int z.1), (3, .int z.2.1), (0, .ref a0)] → W p l e rmX2_drainWhenDry s m args below meth c H locs 0 0 Q (F0 m 36 ls [])) ?_ eL _ _ _ hP hS (lv_sub hl [1, 0, 2] rfl)
      rintro ⟨v5, v6, h3⟩ o hf IH EX H locs ls hP hS hl
      have hf := xf3_e hf
      have hP : xP B0 G h3 H := hP
      have hl : lv_has ls 4 [(2, .int v5), (3, .int v6), (0, .ref a0)] := hl
      refine lv_iload_n hx hb dX2_drainWhenDry_36 rfl (lv_at hl 1 rfl) ?_
      refine lv_aload_n hx hb dX2_drainWhenDry_37 rfl (lv_at hl 2 rfl) ?_
      obtain ⟨v8, ev8, hf⟩ := xb hf
      refine xr_getI hx hb hts inX2 hown hKK hP ev8 rfl (by decide) w3 (fun _ h9 => h9) dX2_drainWhenDry_38 ?_
      refine lv_icmp_ge (tgt := 62) hx hb dX2_drainWhenDry_41 (by decide) (fun c3 => ?_) (fun c3 => ?_)
      · have hf := xif_t hf c3
        have hf := EX _ (Option.some.inj hf).symm
        obtain ⟨rfl, rfl⟩ := xpair2 hf
        exact J2 _ _ _ hP hS (lv_sub hl [0] rfl)
      · have hf := xif_f hf c3
        refine lv_iload_n hx hb dX2_drainWhenDry_44 rfl (lv_at hl 0 rfl) ?_
        refine lv_aload_n hx hb dX2_drainWhenDry_45 rfl (lv_at hl 2 rfl) ?_
        obtain ⟨v9, ev9, hf⟩ := xb hf
        refine xr_getR hx hb hts inX2 hown hKK hP ev9 rfl (by decide) w4 (fun _ h9 => h9) dX2_drainWhenDry_46 ?_
        refine lv_iload_n hx hb dX2_drainWhenDry_49 rfl (lv_at hl 1 rfl) ?_
        obtain ⟨v10, ev10, hf⟩ := xb hf
        refine xr_aald (fun _ => rfl) hx hb hKK hP ev10 dX2_drainWhenDry_50 ?_
        obtain ⟨v11, ev11, hf⟩ := xb hf
        obtain ⟨v12, h5, ev12, hf⟩ := xb2 hf
        refine xc_Vi (rest := [.int v5]) ⟨hx, hb, hml, hown, hts⟩ (m_X1_drain l B0 G h3 h5 v10 v12 ev12) (cwV 0 hts gX2_drainWhenDry_X1_drain rfl rfl rfl (by decide +kernel) ⟨Nat.le_of_ble_eq_true rfl, Nat.le_of_ble_eq_true rfl⟩) hKK hP hS ev11 rfl rfl hl.1 rfl (Nat.le_of_ble_eq_true rfl) dX2_drainWhenDry_51 ⟨Nat.zero_le _, Nat.zero_le _⟩ (fun H locs hP hS => ?_)
        refine lv_iadd hx hb dX2_drainWhenDry_54 ?_
        obtain ⟨v13, ev13, hf⟩ := xl hf
        refine xtopi ev13 ?_
        refine lv_istore_n (lv' := [(2, .int v13), (3, .int v6), (0, .ref a0)]) hx hb dX2_drainWhenDry_55 rfl hl (by decide) rfl (fun ls hl => ?_)
        obtain ⟨v14, ev14, hf⟩ := xl hf
        refine lv_iinc (v := v14) (lv' := [(3, .int v14), (2, .int v13), (0, .ref a0)]) hx hb dX2_drainWhenDry_56 hl (k := 1) rfl (by rw [ev14]; rfl) (by decide) rfl (fun ls hl => ?_)
        refine lv_goto (tgt := 36) hx hb dX2_drainWhenDry_59 (by decide) ?_
        exact IH _ (Option.some.inj hf).symm _ _ _ hP hS (lv_sub hl [1, 0, 2] rfl)
  · have hf := xif_f hf c1
    refine lv_aload_n hx hb dX2_drainWhenDry_4 rfl (lv_at hl 0 rfl) ?_
    refine lv_iconst (v := (0 : Int32)) hx hb dX2_drainWhenDry_5 (by decide) ?_
    obtain ⟨h6, eh6, hf⟩ := xb hf
    refine xr_put hx hb hts inX2 tyX2 tyX2_ok nmX2 hown hKK hP hS eh6 rfl (by decide) w1 (fun _ h9 => h9) rfl (tyX2_ok 13 (by decide)) rfl rfl dX2_drainWhenDry_6 (fun H locs hP _ hS => ?_)
    refine lv_iconst (v := (0 : Int32)) hx hb dX2_drainWhenDry_9 (by decide) ?_
    obtain ⟨rfl, rfl⟩ := xinj2 hf
    subst hQ
    exact xe_i hx hb hr hlocks hKK hP hS dX2_drainWhenDry_10
/-- RainReservoir$State.put -/
def f_X2_put (h : XH) (a0 : Nat) (p0 : Int32) (p1 : Int32) (p2 : Int32) : Option (XH) :=
  (xgR h a0 2 15).bind fun v1 =>
  (xast h v1 0 ((p0 * (10 : Int32)) + p1) p2).bind fun h1 =>
  some (h1)
abbrev rmX2_put : Room := { frames := 0, cells := 0, slots := 0, locals := 0 }
set_option maxHeartbeats 4000000 in
set_option maxRecDepth 100000 in
theorem m_X2_put (l : Launch) (B0 : Nat) (G : XG) (h hE : XH) (a0 : Nat) (p0 : Int32) (p1 : Int32) (p2 : Int32) (hf : f_X2_put h a0 p0 p1 p2 = some hE) : Met l yX2_put wsX2_put rmX2_put (va_Pc [.ref a0, .int p0, .int p1, .int p2] (xU B0 G h)) (xQv B0 G hE) 0 0 (xA B0) := by
  refine xMet (cc := cX2_put) (maxL := 4) (by decide) rfl (Nat.le_of_ble_eq_true rfl) ?_
  intro p e s m args below meth c ls hx hb hr hml hown hlocks hnm hts hKK hP hl
  have hown : s.vm.findClass RX2 = some m.cls := hown
  have hl : lv_has ls 4 [(0, .ref a0), (1, .int p0), (2, .int p1), (3, .int p2)] := hl
  have hS : va_S (xA B0) s.heap s.heap [] := va_S.rf
  have inX2 : ∀ w ∈ wsX20, w ∈ wsX2_put := by decide +kernel
  have w1 := hts (.fieldLink RX2 36 "RainReservoir$State" "accounts" "[I") (by decide +kernel)
  generalize hQ : MQ below (xQv B0 G hE) args s 0 0 (xA B0) = Q
  unfold f_X2_put at hf
  refine lv_aload_n hx hb dX2_put_0 rfl (lv_at hl 0 rfl) ?_
  obtain ⟨v1, ev1, hf⟩ := xb hf
  refine xr_getR hx hb hts inX2 hown hKK hP ev1 rfl (by decide) w1 (fun _ h9 => h9) dX2_put_1 ?_
  refine lv_iload_n hx hb dX2_put_4 rfl (lv_at hl 1 rfl) ?_
  refine lv_bipush (v := (10 : Int32)) hx hb dX2_put_5 (by decide) ?_
  refine lv_imul hx hb dX2_put_7 ?_
  refine lv_iload_n hx hb dX2_put_8 rfl (lv_at hl 2 rfl) ?_
  refine lv_iadd hx hb dX2_put_9 ?_
  refine lv_iload_n hx hb dX2_put_10 rfl (lv_at hl 3 rfl) ?_
  obtain ⟨h1, eh1, hf⟩ := xb hf
  refine xr_iast hx hb hKK hP hS eh1 dX2_put_11 (fun H locs hP _ hS => ?_)
  obtain rfl := Option.some.inj hf
  subst hQ
  exact xe_v hx hb hr hlocks hKK hP hS dX2_put_12
/-- RainReservoir$State.collect -/
def f_X2_collect (fu : Nat) (h : XH) (a0 : Nat) (p0 : Int32) : Option (XH) :=
  (xgR h a0 2 9).bind fun v1 =>
  (xald h v1 0 p0).bind fun v2 =>
  (xis h a0 2).bind fun v3 =>
  obind2 (f_X2_drainWhenDry fu h a0 v2) fun v4 h1 =>
  obind4 (xloop (xf5 fun (v5 : Int32) (v6 : Int32) (v7 : Int32) (v8 : Int32) (h2 : XH) =>
    (xgI h2 a0 2 7).bind fun v12 =>
    if v12 ≤ v8 then
      some (.inr (v5, v6, v7, h2))
    else
      (xgR h2 a0 2 6).bind fun v13 =>
      (xaldR h2 v13 3 v8).bind fun v14 =>
      (xis h2 v14 1).bind fun v15 =>
      obind1 (f_X1_caught h2 v14 v2) fun v16 =>
      (xgR h2 a0 2 6).bind fun v17 =>
      (xaldR h2 v17 3 v8).bind fun v18 =>
      (xis h2 v18 1).bind fun v19 =>
      obind2 (f_X1_divert h2 v18 v16) fun v20 h4 =>
      (xgR h4 a0 2 6).bind fun v21 =>
      (xaldR h4 v21 3 v8).bind fun v22 =>
      (xis h4 v22 1).bind fun v23 =>
      obind2 (f_X1_spill h4 v22 (v16 - v20)) fun v24 h5 =>
      olet ((v5 + ((v16 - v20) - v24))) fun v25 =>
      olet ((v6 + v20)) fun v26 =>
      olet ((v7 + v24)) fun v27 =>
      olet (v8 + (1 : Int32)) fun v28 =>
      some (.inl (v25, v26, v27, v28, h5))
  ) fu ((0 : Int32), (0 : Int32), (0 : Int32), (0 : Int32), h1)) fun v9 v10 v11 h3 =>
  (xis h3 a0 2).bind fun v29 =>
  obind1 (f_X2_put h3 a0 p0 (1 : Int32) v9) fun h6 =>
  (xis h6 a0 2).bind fun v30 =>
  obind1 (f_X2_put h6 a0 p0 (2 : Int32) v10) fun h7 =>
  (xis h7 a0 2).bind fun v31 =>
  obind1 (f_X2_put h7 a0 p0 (3 : Int32) v11) fun h8 =>
  (xis h8 a0 2).bind fun v32 =>
  obind1 (f_X2_put h8 a0 p0 (9 : Int32) v4) fun h9 =>
  some (h9)
abbrev rmX2_collect : Room := { frames := 2, cells := 0, slots := 0, locals := 44 }
set_option maxHeartbeats 4000000 in
set_option maxRecDepth 100000 in
theorem m_X2_collect (l : Launch) (B0 : Nat) (G : XG) (fu : Nat) (h hE : XH) (a0 : Nat) (p0 : Int32) (hf : f_X2_collect fu h a0 p0 = some hE) : Met l yX2_collect wsX2_collect rmX2_collect (va_Pc [.ref a0, .int p0] (xU B0 G h)) (xQv B0 G hE) 0 0 (xA B0) := by
  refine xMet (cc := cX2_collect) (maxL := 11) (by decide) rfl (Nat.le_of_ble_eq_true rfl) ?_
  intro p e s m args below meth c ls hx hb hr hml hown hlocks hnm hts hKK hP hl
  have hown : s.vm.findClass RX2 = some m.cls := hown
  have hl : lv_has ls 11 [(0, .ref a0), (1, .int p0)] := hl
  have hS : va_S (xA B0) s.heap s.heap [] := va_S.rf
  have inX2 : ∀ w ∈ wsX20, w ∈ wsX2_collect := by decide +kernel
  have w1 := hts (.fieldLink RX2 32 "RainReservoir$State" "rains" "[I") (by decide +kernel)
  have w2 := hts (.fieldLink RX2 51 "RainReservoir$State" "roofCount" "I") (by decide +kernel)
  have w3 := hts (.fieldLink RX2 20 "RainReservoir$State" "roofs" "[LRainReservoir$Roof;") (by decide +kernel)
  generalize hQ : MQ below (xQv B0 G hE) args s 0 0 (xA B0) = Q
  unfold f_X2_collect at hf
  refine lv_aload_n hx hb dX2_collect_0 rfl (lv_at hl 0 rfl) ?_
  obtain ⟨v1, ev1, hf⟩ := xb hf
  refine xr_getR hx hb hts inX2 hown hKK hP ev1 rfl (by decide) w1 (fun _ h9 => h9) dX2_collect_1 ?_
  refine lv_iload_n hx hb dX2_collect_4 rfl (lv_at hl 1 rfl) ?_
  obtain ⟨v2, ev2, hf⟩ := xb hf
  refine xr_iald hx hb hKK hP ev2 dX2_collect_5 ?_
  refine lv_istore_n (lv' := [(2, .int v2), (0, .ref a0), (1, .int p0)]) hx hb dX2_collect_6 rfl hl (by decide) rfl (fun ls hl => ?_)
  refine lv_aload_n hx hb dX2_collect_7 rfl (lv_at hl 1 rfl) ?_
  refine lv_iload_n hx hb dX2_collect_8 rfl (lv_at hl 0 rfl) ?_
  obtain ⟨v3, ev3, hf⟩ := xb hf
  obtain ⟨v4, h1, ev4, hf⟩ := xb2 hf
  refine xc_Vi (rest := []) ⟨hx, hb, hml, hown, hts⟩ (m_X2_drainWhenDry l B0 G fu h h1 a0 v2 v4 ev4) (cwV 1 hts gX2_collect_X2_drainWhenDry rfl rfl rfl (by decide +kernel) ⟨Nat.le_of_ble_eq_true rfl, Nat.le_of_ble_eq_true rfl⟩) hKK hP hS ev3 rfl rfl hl.1 rfl (Nat.le_of_ble_eq_true rfl) dX2_collect_9 ⟨Nat.zero_le _, Nat.zero_le _⟩ (fun H locs hP hS => ?_)
  refine lv_istore_n (lv' := [(3, .int v4), (2, .int v2), (0, .ref a0), (1, .int p0)]) hx hb dX2_collect_12 rfl hl (by decide) rfl (fun ls hl => ?_)
  refine lv_iconst (v := (0 : Int32)) hx hb dX2_collect_13 (by decide) ?_
  refine lv_istore (lv' := [(4, .int (0 : Int32)), (3, .int v4), (2, .int v2), (0, .ref a0), (1, .int p0)]) hx hb dX2_collect_14 hl (by decide) rfl (fun ls hl => ?_)
  refine lv_iconst (v := (0 : Int32)) hx hb dX2_collect_16 (by decide) ?_
  refine lv_istore (lv' := [(5, .int (0 : Int32)), (4, .int (0 : Int32)), (3, .int v4), (2, .int v2), (0, .ref a0), (1, .int p0)]) hx hb dX2_collect_17 hl (by decide) rfl (fun ls hl => ?_)
  refine lv_iconst (v := (0 : Int32)) hx hb dX2_collect_19 (by decide) ?_
  refine lv_istore (lv' := [(6, .int (0 : Int32)), (5, .int (0 : Int32)), (4, .int (0 : Int32)), (3, .int v4), (2, .int v2), (0, .ref a0), (1, .int p0)]) hx hb dX2_collect_20 hl (by decide) rfl (fun ls hl => ?_)
  refine lv_iconst (v := (0 : Int32)) hx hb dX2_collect_22 (by decide) ?_
  refine lv_istore (lv' := [(7, .int (0 : Int32)), (6, .int (0 : Int32)), (5, .int (0 : Int32)), (4, .int (0 : Int32)), (3, .int v4), (2, .int v2), (0, .ref a0), (1, .int p0)]) hx hb dX2_collect_23 hl (by decide) rfl (fun ls hl => ?_)
  obtain ⟨v9, v10, v11, h3, eL, hf⟩ := xb4 hf
  have J1 : ∀ (H : Heap) (locs : List Loc) (ls : Array Slot), xP B0 G h3 H → va_S (xA B0) s.heap H locs → lv_has ls 11 [(4, .int v9), (5, .int v10), (6, .int v11), (3, .int v4), (0, .ref a0), (1, .int p0)] → W p l e rmX2_collect s m args below meth c H locs 0 0 Q (F0 m 111 ls []) := by
    intro H locs ls hP hS hl
    clear eL
    refine lv_aload_n hx hb dX2_collect_111 rfl (lv_at hl 4 rfl) ?_
    refine lv_iload_n hx hb dX2_collect_112 rfl (lv_at hl 5 rfl) ?_
    refine lv_iconst (v := (1 : Int32)) hx hb dX2_collect_113 (by decide) ?_
    refine lv_iload hx hb dX2_collect_114 (lv_at hl 0 rfl) ?_
    obtain ⟨v29, ev29, hf⟩ := xb hf
    obtain ⟨h6, eh6, hf⟩ := xb1 hf
    refine xc_Vv (rest := []) ⟨hx, hb, hml, hown, hts⟩ (m_X2_put l B0 G h3 h6 a0 p0 (1 : Int32) v9 eh6) (cwV 3 hts gX2_collect_X2_put rfl rfl rfl (by decide +kernel) ⟨Nat.le_of_ble_eq_true rfl, Nat.le_of_ble_eq_true rfl⟩) hKK hP hS ev29 rfl rfl hl.1 rfl (Nat.le_of_ble_eq_true rfl) dX2_collect_116 ⟨Nat.zero_le _, Nat.zero_le _⟩ (fun H locs hP hS => ?_)
    refine lv_aload_n hx hb dX2_collect_119 rfl (lv_at hl 4 rfl) ?_
    refine lv_iload_n hx hb dX2_collect_120 rfl (lv_at hl 5 rfl) ?_
    refine lv_iconst (v := (2 : Int32)) hx hb dX2_collect_121 (by decide) ?_
    refine lv_iload hx hb dX2_collect_122 (lv_at hl 1 rfl) ?_
    obtain ⟨v30, ev30, hf⟩ := xb hf
    obtain ⟨h7, eh7, hf⟩ := xb1 hf
    refine xc_Vv (rest := []) ⟨hx, hb, hml, hown, hts⟩ (m_X2_put l B0 G h6 h7 a0 p0 (2 : Int32) v10 eh7) (cwV 3 hts gX2_collect_X2_put rfl rfl rfl (by decide +kernel) ⟨Nat.le_of_ble_eq_true rfl, Nat.le_of_ble_eq_true rfl⟩) hKK hP hS ev30 rfl rfl hl.1 rfl (Nat.le_of_ble_eq_true rfl) dX2_collect_124 ⟨Nat.zero_le _, Nat.zero_le _⟩ (fun H locs hP hS => ?_)
    refine lv_aload_n hx hb dX2_collect_127 rfl (lv_at hl 4 rfl) ?_
    refine lv_iload_n hx hb dX2_collect_128 rfl (lv_at hl 5 rfl) ?_
    refine lv_iconst (v := (3 : Int32)) hx hb dX2_collect_129 (by decide) ?_
    refine lv_iload hx hb dX2_collect_130 (lv_at hl 2 rfl) ?_
    obtain ⟨v31, ev31, hf⟩ := xb hf
    obtain ⟨h8, eh8, hf⟩ := xb1 hf
    refine xc_Vv (rest := []) ⟨hx, hb, hml, hown, hts⟩ (m_X2_put l B0 G h7 h8 a0 p0 (3 : Int32) v11 eh8) (cwV 3 hts gX2_collect_X2_put rfl rfl rfl (by decide +kernel) ⟨Nat.le_of_ble_eq_true rfl, Nat.le_of_ble_eq_true rfl⟩) hKK hP hS ev31 rfl rfl hl.1 rfl (Nat.le_of_ble_eq_true rfl) dX2_collect_132 ⟨Nat.zero_le _, Nat.zero_le _⟩ (fun H locs hP hS => ?_)
    refine lv_aload_n hx hb dX2_collect_135 rfl (lv_at hl 4 rfl) ?_
    refine lv_iload_n hx hb dX2_collect_136 rfl (lv_at hl 5 rfl) ?_
    refine lv_bipush (v := (9 : Int32)) hx hb dX2_collect_137 (by decide) ?_
    refine lv_iload_n hx hb dX2_collect_139 rfl (lv_at hl 3 rfl) ?_
    obtain ⟨v32, ev32, hf⟩ := xb hf
    obtain ⟨h9, eh9, hf⟩ := xb1 hf
    refine xc_Vv (rest := []) ⟨hx, hb, hml, hown, hts⟩ (m_X2_put l B0 G h8 h9 a0 p0 (9 : Int32) v4 eh9) (cwV 3 hts gX2_collect_X2_put rfl rfl rfl (by decide +kernel) ⟨Nat.le_of_ble_eq_true rfl, Nat.le_of_ble_eq_true rfl⟩) hKK hP hS ev32 rfl rfl hl.1 rfl (Nat.le_of_ble_eq_true rfl) dX2_collect_140 ⟨Nat.zero_le _, Nat.zero_le _⟩ (fun H locs hP hS => ?_)
    obtain rfl := Option.some.inj hf
    subst hQ
    exact xe_v hx hb hr hlocks hKK hP hS dX2_collect_143
  clear hf
  refine xloop_ind (P := fun z => ∀ (H : Heap) (locs : List Loc) (ls : Array Slot), xP B0 G z.2.2.2.2 H → va_S (xA B0) s.heap H locs → lv_has ls 11 [(4, .int z.1), (5, .int z.2.1), (6, .int z.2.2.1), (7, .int z.2.2.2.1), (3, .int v4), (2, .int v2), (0, .ref a0), (1, .int p0)] → W p l e rmX2_collect s m args below meth c H locs 0 0 Q (F0 m 25 ls [])) ?_ eL _ _ _ hP hS (lv_sub hl [3, 2, 1, 0, 4, 5, 6, 7] rfl)
  rintro ⟨v5, v6, v7, v8, h2⟩ o hf IH EX H locs ls hP hS hl
  have hf := xf5_e hf
  have hP : xP B0 G h2 H := hP
  have hl : lv_has ls 11 [(4, .int v5), (5, .int v6), (6, .int v7), (7, .int v8), (3, .int v4), (2, .int v2), (0, .ref a0), (1, .int p0)] := hl
  refine lv_iload hx hb dX2_collect_25 (lv_at hl 3 rfl) ?_
  refine lv_aload_n hx hb dX2_collect_27 rfl (lv_at hl 6 rfl) ?_
  obtain ⟨v12, ev12, hf⟩ := xb hf
  refine xr_getI hx hb hts inX2 hown hKK hP ev12 rfl (by decide) w2 (fun _ h9 => h9) dX2_collect_28 ?_
  refine lv_icmp_ge (tgt := 111) hx hb dX2_collect_31 (by decide) (fun c1 => ?_) (fun c1 => ?_)
  · have hf := xif_t hf c1
    have hf := EX _ (Option.some.inj hf).symm
    obtain ⟨rfl, rfl, rfl, rfl⟩ := xpair4 hf
    exact J1 _ _ _ hP hS (lv_sub hl [0, 1, 2, 4, 6, 7] rfl)
  · have hf := xif_f hf c1
    refine lv_aload_n hx hb dX2_collect_34 rfl (lv_at hl 6 rfl) ?_
    obtain ⟨v13, ev13, hf⟩ := xb hf
    refine xr_getR hx hb hts inX2 hown hKK hP ev13 rfl (by decide) w3 (fun _ h9 => h9) dX2_collect_35 ?_
    refine lv_iload hx hb dX2_collect_38 (lv_at hl 3 rfl) ?_
    obtain ⟨v14, ev14, hf⟩ := xb hf
    refine xr_aald (fun _ => rfl) hx hb hKK hP ev14 dX2_collect_40 ?_
    refine lv_iload_n hx hb dX2_collect_41 rfl (lv_at hl 5 rfl) ?_
    obtain ⟨v15, ev15, hf⟩ := xb hf
    obtain ⟨v16, ev16, hf⟩ := xb1 hf
    refine xc_Vi (rest := []) ⟨hx, hb, hml, hown, hts⟩ (m_X1_caught l B0 G h2 v14 v2 v16 ev16) (cwV 1 hts gX2_collect_X1_caught rfl rfl rfl (by decide +kernel) ⟨Nat.le_of_ble_eq_true rfl, Nat.le_of_ble_eq_true rfl⟩) hKK hP hS ev15 rfl rfl hl.1 rfl (Nat.le_of_ble_eq_true rfl) dX2_collect_42 ⟨Nat.zero_le _, Nat.zero_le _⟩ (fun H locs hP hS => ?_)
    refine lv_istore (lv' := [(8, .int v16), (4, .int v5), (5, .int v6), (6, .int v7), (7, .int v8), (3, .int v4), (2, .int v2), (0, .ref a0), (1, .int p0)]) hx hb dX2_collect_45 hl (by decide) rfl (fun ls hl => ?_)
    refine lv_aload_n hx hb dX2_collect_47 rfl (lv_at hl 7 rfl) ?_
    obtain ⟨v17, ev17, hf⟩ := xb hf
    refine xr_getR hx hb hts inX2 hown hKK hP ev17 rfl (by decide) w3 (fun _ h9 => h9) dX2_collect_48 ?_
    refine lv_iload hx hb dX2_collect_51 (lv_at hl 4 rfl) ?_
    obtain ⟨v18, ev18, hf⟩ := xb hf
    refine xr_aald (fun _ => rfl) hx hb hKK hP ev18 dX2_collect_53 ?_
    refine lv_iload hx hb dX2_collect_54 (lv_at hl 0 rfl) ?_
    obtain ⟨v19, ev19, hf⟩ := xb hf
    obtain ⟨v20, h4, ev20, hf⟩ := xb2 hf
    refine xc_Vi (rest := []) ⟨hx, hb, hml, hown, hts⟩ (m_X1_divert l B0 G h2 h4 v18 v16 v20 ev20) (cwV 1 hts gX2_collect_X1_divert rfl rfl rfl (by decide +kernel) ⟨Nat.le_of_ble_eq_true rfl, Nat.le_of_ble_eq_true rfl⟩) hKK hP hS ev19 rfl rfl hl.1 rfl (Nat.le_of_ble_eq_true rfl) dX2_collect_56 ⟨Nat.zero_le _, Nat.zero_le _⟩ (fun H locs hP hS => ?_)
    refine lv_istore (lv' := [(9, .int v20), (8, .int v16), (4, .int v5), (5, .int v6), (6, .int v7), (7, .int v8), (3, .int v4), (2, .int v2), (0, .ref a0), (1, .int p0)]) hx hb dX2_collect_59 hl (by decide) rfl (fun ls hl => ?_)
    refine lv_aload_n hx hb dX2_collect_61 rfl (lv_at hl 8 rfl) ?_
    obtain ⟨v21, ev21, hf⟩ := xb hf
    refine xr_getR hx hb hts inX2 hown hKK hP ev21 rfl (by decide) w3 (fun _ h9 => h9) dX2_collect_62 ?_
    refine lv_iload hx hb dX2_collect_65 (lv_at hl 5 rfl) ?_
    obtain ⟨v22, ev22, hf⟩ := xb hf
    refine xr_aald (fun _ => rfl) hx hb hKK hP ev22 dX2_collect_67 ?_
    refine lv_iload hx hb dX2_collect_68 (lv_at hl 1 rfl) ?_
    refine lv_iload hx hb dX2_collect_70 (lv_at hl 0 rfl) ?_
    refine lv_isub hx hb dX2_collect_72 ?_
    obtain ⟨v23, ev23, hf⟩ := xb hf
    obtain ⟨v24, h5, ev24, hf⟩ := xb2 hf
    refine xc_Vi (rest := []) ⟨hx, hb, hml, hown, hts⟩ (m_X1_spill l B0 G h4 h5 v22 (v16 - v20) v24 ev24) (cwV 1 hts gX2_collect_X1_spill rfl rfl rfl (by decide +kernel) ⟨Nat.le_of_ble_eq_true rfl, Nat.le_of_ble_eq_true rfl⟩) hKK hP hS ev23 rfl rfl hl.1 rfl (Nat.le_of_ble_eq_true rfl) dX2_collect_73 ⟨Nat.zero_le _, Nat.zero_le _⟩ (fun H locs hP hS => ?_)
    refine lv_istore (lv' := [(10, .int v24), (9, .int v20), (8, .int v16), (4, .int v5), (5, .int v6), (6, .int v7), (7, .int v8), (3, .int v4), (2, .int v2), (0, .ref a0), (1, .int p0)]) hx hb dX2_collect_76 hl (by decide) rfl (fun ls hl => ?_)
    refine lv_iload hx hb dX2_collect_78 (lv_at hl 3 rfl) ?_
    refine lv_iload hx hb dX2_collect_80 (lv_at hl 2 rfl) ?_
    refine lv_iload hx hb dX2_collect_82 (lv_at hl 1 rfl) ?_
    refine lv_isub hx hb dX2_collect_84 ?_
    refine lv_iload hx hb dX2_collect_85 (lv_at hl 0 rfl) ?_
    refine lv_isub hx hb dX2_collect_87 ?_
    refine lv_iadd hx hb dX2_collect_88 ?_
    obtain ⟨v25, ev25, hf⟩ := xl hf
    refine xtopi ev25 ?_
    refine lv_istore (lv' := [(4, .int v25), (10, .int v24), (9, .int v20), (8, .int v16), (5, .int v6), (6, .int v7), (7, .int v8), (3, .int v4), (2, .int v2), (0, .ref a0), (1, .int p0)]) hx hb dX2_collect_89 hl (by decide) rfl (fun ls hl => ?_)
    refine lv_iload hx hb dX2_collect_91 (lv_at hl 4 rfl) ?_
    refine lv_iload hx hb dX2_collect_93 (lv_at hl 2 rfl) ?_
    refine lv_iadd hx hb dX2_collect_95 ?_
    obtain ⟨v26, ev26, hf⟩ := xl hf
    refine xtopi ev26 ?_
    refine lv_istore (lv' := [(5, .int v26), (4, .int v25), (10, .int v24), (9, .int v20), (8, .int v16), (6, .int v7), (7, .int v8), (3, .int v4), (2, .int v2), (0, .ref a0), (1, .int p0)]) hx hb dX2_collect_96 hl (by decide) rfl (fun ls hl => ?_)
    refine lv_iload hx hb dX2_collect_98 (lv_at hl 5 rfl) ?_
    refine lv_iload hx hb dX2_collect_100 (lv_at hl 2 rfl) ?_
    refine lv_iadd hx hb dX2_collect_102 ?_
    obtain ⟨v27, ev27, hf⟩ := xl hf
    refine xtopi ev27 ?_
    refine lv_istore (lv' := [(6, .int v27), (5, .int v26), (4, .int v25), (10, .int v24), (9, .int v20), (8, .int v16), (7, .int v8), (3, .int v4), (2, .int v2), (0, .ref a0), (1, .int p0)]) hx hb dX2_collect_103 hl (by decide) rfl (fun ls hl => ?_)
    obtain ⟨v28, ev28, hf⟩ := xl hf
    refine lv_iinc (v := v28) (lv' := [(7, .int v28), (6, .int v27), (5, .int v26), (4, .int v25), (10, .int v24), (9, .int v20), (8, .int v16), (3, .int v4), (2, .int v2), (0, .ref a0), (1, .int p0)]) hx hb dX2_collect_105 hl (k := 6) rfl (by rw [ev28]; rfl) (by decide) rfl (fun ls hl => ?_)
    refine lv_goto (tgt := 25) hx hb dX2_collect_108 (by decide) ?_
    exact IH _ (Option.some.inj hf).symm _ _ _ hP hS (lv_sub hl [3, 2, 1, 0, 7, 8, 9, 10] rfl)
/-- RainReservoir$State.account -/
def f_X2_account (h : XH) (a0 : Nat) (p0 : Int32) (p1 : Int32) : Option (Int32) :=
  (xgR h a0 2 15).bind fun v1 =>
  (xald h v1 0 ((p0 * (10 : Int32)) + p1)).bind fun v2 =>
  some (v2)
abbrev rmX2_account : Room := { frames := 0, cells := 0, slots := 0, locals := 0 }
set_option maxHeartbeats 4000000 in
set_option maxRecDepth 100000 in
theorem m_X2_account (l : Launch) (B0 : Nat) (G : XG) (h : XH) (a0 : Nat) (p0 : Int32) (p1 : Int32) (rE : Int32) (hf : f_X2_account h a0 p0 p1 = some rE) : Met l yX2_account wsX2_account rmX2_account (va_Pc [.ref a0, .int p0, .int p1] (xU B0 G h)) (xQi B0 G h rE) 0 0 (xA B0) := by
  refine xMet (cc := cX2_account) (maxL := 3) (by decide) rfl (Nat.le_of_ble_eq_true rfl) ?_
  intro p e s m args below meth c ls hx hb hr hml hown hlocks hnm hts hKK hP hl
  have hown : s.vm.findClass RX2 = some m.cls := hown
  have hl : lv_has ls 3 [(0, .ref a0), (1, .int p0), (2, .int p1)] := hl
  have hS : va_S (xA B0) s.heap s.heap [] := va_S.rf
  have inX2 : ∀ w ∈ wsX20, w ∈ wsX2_account := by decide +kernel
  have w1 := hts (.fieldLink RX2 36 "RainReservoir$State" "accounts" "[I") (by decide +kernel)
  generalize hQ : MQ below (xQi B0 G h rE) args s 0 0 (xA B0) = Q
  unfold f_X2_account at hf
  refine lv_aload_n hx hb dX2_account_0 rfl (lv_at hl 0 rfl) ?_
  obtain ⟨v1, ev1, hf⟩ := xb hf
  refine xr_getR hx hb hts inX2 hown hKK hP ev1 rfl (by decide) w1 (fun _ h9 => h9) dX2_account_1 ?_
  refine lv_iload_n hx hb dX2_account_4 rfl (lv_at hl 1 rfl) ?_
  refine lv_bipush (v := (10 : Int32)) hx hb dX2_account_5 (by decide) ?_
  refine lv_imul hx hb dX2_account_7 ?_
  refine lv_iload_n hx hb dX2_account_8 rfl (lv_at hl 2 rfl) ?_
  refine lv_iadd hx hb dX2_account_9 ?_
  obtain ⟨v2, ev2, hf⟩ := xb hf
  refine xr_iald hx hb hKK hP ev2 dX2_account_10 ?_
  obtain rfl := Option.some.inj hf
  subst hQ
  exact xe_i hx hb hr hlocks hKK hP hS dX2_account_11
/-- RainReservoir$State.serve -/
def f_X2_serve (fu : Nat) (h : XH) (a0 : Nat) (p0 : Int32) : Option (XH) :=
  (xgI h a0 2 12).bind fun v1 =>
  (xis h a0 2).bind fun v2 =>
  obind1 (f_X2_account h a0 p0 (1 : Int32)) fun v3 =>
  (xpV h a0 2 12 (.int (v1 + v3))).bind fun h1 =>
  (xis h1 a0 2).bind fun v4 =>
  obind2 (f_X2_dropAboveCapacity h1 a0) fun v5 h2 =>
  (xis h2 a0 2).bind fun v6 =>
  obind1 (f_X2_put h2 a0 p0 (4 : Int32) v5) fun h3 =>
  (xgI h3 a0 2 12).bind fun v7 =>
  (xgI h3 a0 2 3).bind fun v8 =>
  olet (((v7 * v8) / (1000 : Int32))) fun v9 =>
  (xgI h3 a0 2 12).bind fun v10 =>
  (xpV h3 a0 2 12 (.int (v10 - v9))).bind fun h4 =>
  (xgR h4 a0 2 8).bind fun v11 =>
  (xgI h4 a0 2 12).bind fun v12 =>
  (xgI h4 a0 2 1).bind fun v13 =>
  (xgI h4 a0 2 5).bind fun v14 =>
  (xis h4 v11 4).bind fun v15 =>
  obind2 (f_X4_handOut fu h4 v11 (xmax (v12 - v13) (0 : Int32)) v14) fun v16 h5 =>
  (xgI h5 a0 2 12).bind fun v17 =>
  (xpV h5 a0 2 12 (.int (v17 - v16))).bind fun h6 =>
  (xgI h6 a0 2 2).bind fun v18 =>
  (xgI h6 a0 2 12).bind fun v19 =>
  olet ((xmax (v18 - v19) (0 : Int32))) fun v20 =>
  (xgI h6 a0 2 12).bind fun v21 =>
  (xpV h6 a0 2 12 (.int (v21 + v20))).bind fun h7 =>
  (xis h7 a0 2).bind fun v22 =>
  obind1 (f_X2_put h7 a0 p0 (5 : Int32) v9) fun h8 =>
  (xis h8 a0 2).bind fun v23 =>
  obind1 (f_X2_put h8 a0 p0 (6 : Int32) v16) fun h9 =>
  (xgR h9 a0 2 8).bind fun v24 =>
  (xis h9 v24 4).bind fun v25 =>
  obind1 (f_X4_demandInAll fu h9 v24) fun v26 =>
  (xis h9 a0 2).bind fun v27 =>
  obind1 (f_X2_put h9 a0 p0 (7 : Int32) (v26 - v16)) fun h10 =>
  (xis h10 a0 2).bind fun v28 =>
  obind1 (f_X2_put h10 a0 p0 (8 : Int32) v20) fun h11 =>
  (xgI h11 a0 2 12).bind fun v29 =>
  (xis h11 a0 2).bind fun v30 =>
  obind1 (f_X2_put h11 a0 p0 (0 : Int32) v29) fun h12 =>
  some (h12)
abbrev rmX2_serve : Room := { frames := 5, cells := 0, slots := 0, locals := 117 }
set_option maxHeartbeats 4000000 in
set_option maxRecDepth 100000 in
theorem m_X2_serve (l : Launch) (B0 : Nat) (G : XG) (fu : Nat) (h hE : XH) (a0 : Nat) (p0 : Int32) (hf : f_X2_serve fu h a0 p0 = some hE) : Met l yX2_serve wsX2_serve rmX2_serve (va_Pc [.ref a0, .int p0] (xU B0 G h)) (xQv B0 G hE) 0 0 (xA B0) := by
  refine xMet (cc := cX2_serve) (maxL := 5) (by decide) rfl (Nat.le_of_ble_eq_true rfl) ?_
  intro p e s m args below meth c ls hx hb hr hml hown hlocks hnm hts hKK hP hl
  have hown : s.vm.findClass RX2 = some m.cls := hown
  have hl : lv_has ls 5 [(0, .ref a0), (1, .int p0)] := hl
  have hS : va_S (xA B0) s.heap s.heap [] := va_S.rf
  have inX2 : ∀ w ∈ wsX20, w ∈ wsX2_serve := by decide +kernel
  have w1 := hts (.fieldLink RX2 73 "RainReservoir$State" "level" "I") (by decide +kernel)
  have w2 := hts (.fieldLink RX2 45 "RainReservoir$State" "evaporation" "I") (by decide +kernel)
  have w3 := hts (.fieldLink RX2 28 "RainReservoir$State" "users" "LRainReservoir$Users;") (by decide +kernel)
  have w4 := hts (.fieldLink RX2 39 "RainReservoir$State" "floor" "I") (by decide +kernel)
  have w5 := hts (.methodLink RX2 94 Lib.Math.max.name) (by decide +kernel)
  have w6 := hts (.static Lib.Math.max.name) (by decide +kernel)
  have w7 := hts (.initialized "java/lang/Math") (by decide +kernel)
  have w8 := hts (.code Lib.Math.max.name Lib.Math.max.code 2 (some .int)) (by decide +kernel)
  have w9 := hts (.fieldLink RX2 48 "RainReservoir$State" "rule" "I") (by decide +kernel)
  have w10 := hts (.fieldLink RX2 42 "RainReservoir$State" "topUp" "I") (by decide +kernel)
  generalize hQ : MQ below (xQv B0 G hE) args s 0 0 (xA B0) = Q
  unfold f_X2_serve at hf
  refine lv_aload_n hx hb dX2_serve_0 rfl (lv_at hl 0 rfl) ?_
  refine lv_dup hx hb dX2_serve_1 rfl ?_
  obtain ⟨v1, ev1, hf⟩ := xb hf
  refine xr_getI hx hb hts inX2 hown hKK hP ev1 rfl (by decide) w1 (fun _ h9 => h9) dX2_serve_2 ?_
  refine lv_aload_n hx hb dX2_serve_5 rfl (lv_at hl 0 rfl) ?_
  refine lv_iload_n hx hb dX2_serve_6 rfl (lv_at hl 1 rfl) ?_
  refine lv_iconst (v := (1 : Int32)) hx hb dX2_serve_7 (by decide) ?_
  obtain ⟨v2, ev2, hf⟩ := xb hf
  obtain ⟨v3, ev3, hf⟩ := xb1 hf
  refine xc_Vi (rest := [.int v1, .ref a0]) ⟨hx, hb, hml, hown, hts⟩ (m_X2_account l B0 G h a0 p0 (1 : Int32) v3 ev3) (cwV 2 hts gX2_serve_X2_account rfl rfl rfl (by decide +kernel) ⟨Nat.le_of_ble_eq_true rfl, Nat.le_of_ble_eq_true rfl⟩) hKK hP hS ev2 rfl rfl hl.1 rfl (Nat.le_of_ble_eq_true rfl) dX2_serve_8 ⟨Nat.zero_le _, Nat.zero_le _⟩ (fun H locs hP hS => ?_)
  refine lv_iadd hx hb dX2_serve_11 ?_
  obtain ⟨h1, eh1, hf⟩ := xb hf
  refine xr_put hx hb hts inX2 tyX2 tyX2_ok nmX2 hown hKK hP hS eh1 rfl (by decide) w1 (fun _ h9 => h9) rfl (tyX2_ok 12 (by decide)) rfl rfl dX2_serve_12 (fun H locs hP _ hS => ?_)
  refine lv_aload_n hx hb dX2_serve_15 rfl (lv_at hl 0 rfl) ?_
  refine lv_iload_n hx hb dX2_serve_16 rfl (lv_at hl 1 rfl) ?_
  refine lv_iconst (v := (4 : Int32)) hx hb dX2_serve_17 (by decide) ?_
  refine lv_aload_n hx hb dX2_serve_18 rfl (lv_at hl 0 rfl) ?_
  obtain ⟨v4, ev4, hf⟩ := xb hf
  obtain ⟨v5, h2, ev5, hf⟩ := xb2 hf
  refine xc_Vi (rest := [.int (4 : Int32), .int p0, .ref a0]) ⟨hx, hb, hml, hown, hts⟩ (m_X2_dropAboveCapacity l B0 G h1 h2 a0 v5 ev5) (cwV 0 hts gX2_serve_X2_dropAboveCapacity rfl rfl rfl (by decide +kernel) ⟨Nat.le_of_ble_eq_true rfl, Nat.le_of_ble_eq_true rfl⟩) hKK hP hS ev4 rfl rfl hl.1 rfl (Nat.le_of_ble_eq_true rfl) dX2_serve_19 ⟨Nat.zero_le _, Nat.zero_le _⟩ (fun H locs hP hS => ?_)
  obtain ⟨v6, ev6, hf⟩ := xb hf
  obtain ⟨h3, eh3, hf⟩ := xb1 hf
  refine xc_Vv (rest := []) ⟨hx, hb, hml, hown, hts⟩ (m_X2_put l B0 G h2 h3 a0 p0 (4 : Int32) v5 eh3) (cwV 3 hts gX2_serve_X2_put rfl rfl rfl (by decide +kernel) ⟨Nat.le_of_ble_eq_true rfl, Nat.le_of_ble_eq_true rfl⟩) hKK hP hS ev6 rfl rfl hl.1 rfl (Nat.le_of_ble_eq_true rfl) dX2_serve_22 ⟨Nat.zero_le _, Nat.zero_le _⟩ (fun H locs hP hS => ?_)
  refine lv_aload_n hx hb dX2_serve_25 rfl (lv_at hl 0 rfl) ?_
  obtain ⟨v7, ev7, hf⟩ := xb hf
  refine xr_getI hx hb hts inX2 hown hKK hP ev7 rfl (by decide) w1 (fun _ h9 => h9) dX2_serve_26 ?_
  refine lv_aload_n hx hb dX2_serve_29 rfl (lv_at hl 0 rfl) ?_
  obtain ⟨v8, ev8, hf⟩ := xb hf
  refine xr_getI hx hb hts inX2 hown hKK hP ev8 rfl (by decide) w2 (fun _ h9 => h9) dX2_serve_30 ?_
  refine lv_imul hx hb dX2_serve_33 ?_
  refine lv_sipush (v := (1000 : Int32)) hx hb dX2_serve_34 (by decide) ?_
  refine lv_idiv hx hb dX2_serve_37 (by decide) ?_
  obtain ⟨v9, ev9, hf⟩ := xl hf
  refine xtopi ev9 ?_
  refine lv_istore_n (lv' := [(2, .int v9), (0, .ref a0), (1, .int p0)]) hx hb dX2_serve_38 rfl hl (by decide) rfl (fun ls hl => ?_)
  refine lv_aload_n hx hb dX2_serve_39 rfl (lv_at hl 1 rfl) ?_
  refine lv_dup hx hb dX2_serve_40 rfl ?_
  obtain ⟨v10, ev10, hf⟩ := xb hf
  refine xr_getI hx hb hts inX2 hown hKK hP ev10 rfl (by decide) w1 (fun _ h9 => h9) dX2_serve_41 ?_
  refine lv_iload_n hx hb dX2_serve_44 rfl (lv_at hl 0 rfl) ?_
  refine lv_isub hx hb dX2_serve_45 ?_
  obtain ⟨h4, eh4, hf⟩ := xb hf
  refine xr_put hx hb hts inX2 tyX2 tyX2_ok nmX2 hown hKK hP hS eh4 rfl (by decide) w1 (fun _ h9 => h9) rfl (tyX2_ok 12 (by decide)) rfl rfl dX2_serve_46 (fun H locs hP _ hS => ?_)
  refine lv_aload_n hx hb dX2_serve_49 rfl (lv_at hl 1 rfl) ?_
  obtain ⟨v11, ev11, hf⟩ := xb hf
  refine xr_getR hx hb hts inX2 hown hKK hP ev11 rfl (by decide) w3 (fun _ h9 => h9) dX2_serve_50 ?_
  refine lv_aload_n hx hb dX2_serve_53 rfl (lv_at hl 1 rfl) ?_
  obtain ⟨v12, ev12, hf⟩ := xb hf
  refine xr_getI hx hb hts inX2 hown hKK hP ev12 rfl (by decide) w1 (fun _ h9 => h9) dX2_serve_54 ?_
  refine lv_aload_n hx hb dX2_serve_57 rfl (lv_at hl 1 rfl) ?_
  obtain ⟨v13, ev13, hf⟩ := xb hf
  refine xr_getI hx hb hts inX2 hown hKK hP ev13 rfl (by decide) w4 (fun _ h9 => h9) dX2_serve_58 ?_
  refine lv_isub hx hb dX2_serve_61 ?_
  refine lv_iconst (v := (0 : Int32)) hx hb dX2_serve_62 (by decide) ?_
  refine xr_mmax hx hb (hml.trans hl.1.symm) hown w5 w6 w7 w8 ⟨Nat.le_of_ble_eq_true rfl, Nat.le_of_ble_eq_true rfl⟩ (Nat.le_of_ble_eq_true rfl) ⟨Nat.zero_le _, Nat.zero_le _⟩ dX2_serve_63 ?_
  refine lv_aload_n hx hb dX2_serve_66 rfl (lv_at hl 1 rfl) ?_
  obtain ⟨v14, ev14, hf⟩ := xb hf
  refine xr_getI hx hb hts inX2 hown hKK hP ev14 rfl (by decide) w9 (fun _ h9 => h9) dX2_serve_67 ?_
  obtain ⟨v15, ev15, hf⟩ := xb hf
  obtain ⟨v16, h5, ev16, hf⟩ := xb2 hf
  refine xc_Vi (rest := []) ⟨hx, hb, hml, hown, hts⟩ (m_X4_handOut l B0 G fu h4 h5 v11 (xmax (v12 - v13) (0 : Int32)) v14 v16 ev16) (cwV 2 hts gX2_serve_X4_handOut rfl rfl rfl (by decide +kernel) ⟨Nat.le_of_ble_eq_true rfl, Nat.le_of_ble_eq_true rfl⟩) hKK hP hS ev15 rfl rfl hl.1 rfl (Nat.le_of_ble_eq_true rfl) dX2_serve_70 ⟨Nat.zero_le _, Nat.zero_le _⟩ (fun H locs hP hS => ?_)
  refine lv_istore_n (lv' := [(3, .int v16), (2, .int v9), (0, .ref a0), (1, .int p0)]) hx hb dX2_serve_73 rfl hl (by decide) rfl (fun ls hl => ?_)
  refine lv_aload_n hx hb dX2_serve_74 rfl (lv_at hl 2 rfl) ?_
  refine lv_dup hx hb dX2_serve_75 rfl ?_
  obtain ⟨v17, ev17, hf⟩ := xb hf
  refine xr_getI hx hb hts inX2 hown hKK hP ev17 rfl (by decide) w1 (fun _ h9 => h9) dX2_serve_76 ?_
  refine lv_iload_n hx hb dX2_serve_79 rfl (lv_at hl 0 rfl) ?_
  refine lv_isub hx hb dX2_serve_80 ?_
  obtain ⟨h6, eh6, hf⟩ := xb hf
  refine xr_put hx hb hts inX2 tyX2 tyX2_ok nmX2 hown hKK hP hS eh6 rfl (by decide) w1 (fun _ h9 => h9) rfl (tyX2_ok 12 (by decide)) rfl rfl dX2_serve_81 (fun H locs hP _ hS => ?_)
  refine lv_aload_n hx hb dX2_serve_84 rfl (lv_at hl 2 rfl) ?_
  obtain ⟨v18, ev18, hf⟩ := xb hf
  refine xr_getI hx hb hts inX2 hown hKK hP ev18 rfl (by decide) w10 (fun _ h9 => h9) dX2_serve_85 ?_
  refine lv_aload_n hx hb dX2_serve_88 rfl (lv_at hl 2 rfl) ?_
  obtain ⟨v19, ev19, hf⟩ := xb hf
  refine xr_getI hx hb hts inX2 hown hKK hP ev19 rfl (by decide) w1 (fun _ h9 => h9) dX2_serve_89 ?_
  refine lv_isub hx hb dX2_serve_92 ?_
  refine lv_iconst (v := (0 : Int32)) hx hb dX2_serve_93 (by decide) ?_
  refine xr_mmax hx hb (hml.trans hl.1.symm) hown w5 w6 w7 w8 ⟨Nat.le_of_ble_eq_true rfl, Nat.le_of_ble_eq_true rfl⟩ (Nat.le_of_ble_eq_true rfl) ⟨Nat.zero_le _, Nat.zero_le _⟩ dX2_serve_94 ?_
  obtain ⟨v20, ev20, hf⟩ := xl hf
  refine xtopi ev20 ?_
  refine lv_istore (lv' := [(4, .int v20), (3, .int v16), (2, .int v9), (0, .ref a0), (1, .int p0)]) hx hb dX2_serve_97 hl (by decide) rfl (fun ls hl => ?_)
  refine lv_aload_n hx hb dX2_serve_99 rfl (lv_at hl 3 rfl) ?_
  refine lv_dup hx hb dX2_serve_100 rfl ?_
  obtain ⟨v21, ev21, hf⟩ := xb hf
  refine xr_getI hx hb hts inX2 hown hKK hP ev21 rfl (by decide) w1 (fun _ h9 => h9) dX2_serve_101 ?_
  refine lv_iload hx hb dX2_serve_104 (lv_at hl 0 rfl) ?_
  refine lv_iadd hx hb dX2_serve_106 ?_
  obtain ⟨h7, eh7, hf⟩ := xb hf
  refine xr_put hx hb hts inX2 tyX2 tyX2_ok nmX2 hown hKK hP hS eh7 rfl (by decide) w1 (fun _ h9 => h9) rfl (tyX2_ok 12 (by decide)) rfl rfl dX2_serve_107 (fun H locs hP _ hS => ?_)
  refine lv_aload_n hx hb dX2_serve_110 rfl (lv_at hl 3 rfl) ?_
  refine lv_iload_n hx hb dX2_serve_111 rfl (lv_at hl 4 rfl) ?_
  refine lv_iconst (v := (5 : Int32)) hx hb dX2_serve_112 (by decide) ?_
  refine lv_iload_n hx hb dX2_serve_113 rfl (lv_at hl 2 rfl) ?_
  obtain ⟨v22, ev22, hf⟩ := xb hf
  obtain ⟨h8, eh8, hf⟩ := xb1 hf
  refine xc_Vv (rest := []) ⟨hx, hb, hml, hown, hts⟩ (m_X2_put l B0 G h7 h8 a0 p0 (5 : Int32) v9 eh8) (cwV 3 hts gX2_serve_X2_put rfl rfl rfl (by decide +kernel) ⟨Nat.le_of_ble_eq_true rfl, Nat.le_of_ble_eq_true rfl⟩) hKK hP hS ev22 rfl rfl hl.1 rfl (Nat.le_of_ble_eq_true rfl) dX2_serve_114 ⟨Nat.zero_le _, Nat.zero_le _⟩ (fun H locs hP hS => ?_)
  refine lv_aload_n hx hb dX2_serve_117 rfl (lv_at hl 3 rfl) ?_
  refine lv_iload_n hx hb dX2_serve_118 rfl (lv_at hl 4 rfl) ?_
  refine lv_bipush (v := (6 : Int32)) hx hb dX2_serve_119 (by decide) ?_
  refine lv_iload_n hx hb dX2_serve_121 rfl (lv_at hl 1 rfl) ?_
  obtain ⟨v23, ev23, hf⟩ := xb hf
  obtain ⟨h9, eh9, hf⟩ := xb1 hf
  refine xc_Vv (rest := []) ⟨hx, hb, hml, hown, hts⟩ (m_X2_put l B0 G h8 h9 a0 p0 (6 : Int32) v16 eh9) (cwV 3 hts gX2_serve_X2_put rfl rfl rfl (by decide +kernel) ⟨Nat.le_of_ble_eq_true rfl, Nat.le_of_ble_eq_true rfl⟩) hKK hP hS ev23 rfl rfl hl.1 rfl (Nat.le_of_ble_eq_true rfl) dX2_serve_122 ⟨Nat.zero_le _, Nat.zero_le _⟩ (fun H locs hP hS => ?_)
  refine lv_aload_n hx hb dX2_serve_125 rfl (lv_at hl 3 rfl) ?_
  refine lv_iload_n hx hb dX2_serve_126 rfl (lv_at hl 4 rfl) ?_
  refine lv_bipush (v := (7 : Int32)) hx hb dX2_serve_127 (by decide) ?_
  refine lv_aload_n hx hb dX2_serve_129 rfl (lv_at hl 3 rfl) ?_
  obtain ⟨v24, ev24, hf⟩ := xb hf
  refine xr_getR hx hb hts inX2 hown hKK hP ev24 rfl (by decide) w3 (fun _ h9 => h9) dX2_serve_130 ?_
  obtain ⟨v25, ev25, hf⟩ := xb hf
  obtain ⟨v26, ev26, hf⟩ := xb1 hf
  refine xc_Vi (rest := [.int (7 : Int32), .int p0, .ref a0]) ⟨hx, hb, hml, hown, hts⟩ (m_X4_demandInAll l B0 G fu h9 v24 v26 ev26) (cwV 0 hts gX2_serve_X4_demandInAll rfl rfl rfl (by decide +kernel) ⟨Nat.le_of_ble_eq_true rfl, Nat.le_of_ble_eq_true rfl⟩) hKK hP hS ev25 rfl rfl hl.1 rfl (Nat.le_of_ble_eq_true rfl) dX2_serve_133 ⟨Nat.zero_le _, Nat.zero_le _⟩ (fun H locs hP hS => ?_)
  refine lv_iload_n hx hb dX2_serve_136 rfl (lv_at hl 1 rfl) ?_
  refine lv_isub hx hb dX2_serve_137 ?_
  obtain ⟨v27, ev27, hf⟩ := xb hf
  obtain ⟨h10, eh10, hf⟩ := xb1 hf
  refine xc_Vv (rest := []) ⟨hx, hb, hml, hown, hts⟩ (m_X2_put l B0 G h9 h10 a0 p0 (7 : Int32) (v26 - v16) eh10) (cwV 3 hts gX2_serve_X2_put rfl rfl rfl (by decide +kernel) ⟨Nat.le_of_ble_eq_true rfl, Nat.le_of_ble_eq_true rfl⟩) hKK hP hS ev27 rfl rfl hl.1 rfl (Nat.le_of_ble_eq_true rfl) dX2_serve_138 ⟨Nat.zero_le _, Nat.zero_le _⟩ (fun H locs hP hS => ?_)
  refine lv_aload_n hx hb dX2_serve_141 rfl (lv_at hl 3 rfl) ?_
  refine lv_iload_n hx hb dX2_serve_142 rfl (lv_at hl 4 rfl) ?_
  refine lv_bipush (v := (8 : Int32)) hx hb dX2_serve_143 (by decide) ?_
  refine lv_iload hx hb dX2_serve_145 (lv_at hl 0 rfl) ?_
  obtain ⟨v28, ev28, hf⟩ := xb hf
  obtain ⟨h11, eh11, hf⟩ := xb1 hf
  refine xc_Vv (rest := []) ⟨hx, hb, hml, hown, hts⟩ (m_X2_put l B0 G h10 h11 a0 p0 (8 : Int32) v20 eh11) (cwV 3 hts gX2_serve_X2_put rfl rfl rfl (by decide +kernel) ⟨Nat.le_of_ble_eq_true rfl, Nat.le_of_ble_eq_true rfl⟩) hKK hP hS ev28 rfl rfl hl.1 rfl (Nat.le_of_ble_eq_true rfl) dX2_serve_147 ⟨Nat.zero_le _, Nat.zero_le _⟩ (fun H locs hP hS => ?_)
  refine lv_aload_n hx hb dX2_serve_150 rfl (lv_at hl 3 rfl) ?_
  refine lv_iload_n hx hb dX2_serve_151 rfl (lv_at hl 4 rfl) ?_
  refine lv_iconst (v := (0 : Int32)) hx hb dX2_serve_152 (by decide) ?_
  refine lv_aload_n hx hb dX2_serve_153 rfl (lv_at hl 3 rfl) ?_
  obtain ⟨v29, ev29, hf⟩ := xb hf
  refine xr_getI hx hb hts inX2 hown hKK hP ev29 rfl (by decide) w1 (fun _ h9 => h9) dX2_serve_154 ?_
  obtain ⟨v30, ev30, hf⟩ := xb hf
  obtain ⟨h12, eh12, hf⟩ := xb1 hf
  refine xc_Vv (rest := []) ⟨hx, hb, hml, hown, hts⟩ (m_X2_put l B0 G h11 h12 a0 p0 (0 : Int32) v29 eh12) (cwV 3 hts gX2_serve_X2_put rfl rfl rfl (by decide +kernel) ⟨Nat.le_of_ble_eq_true rfl, Nat.le_of_ble_eq_true rfl⟩) hKK hP hS ev30 rfl rfl hl.1 rfl (Nat.le_of_ble_eq_true rfl) dX2_serve_157 ⟨Nat.zero_le _, Nat.zero_le _⟩ (fun H locs hP hS => ?_)
  obtain rfl := Option.some.inj hf
  subst hQ
  exact xe_v hx hb hr hlocks hKK hP hS dX2_serve_160
/-- RainReservoir$State.isShort -/
def f_X2_isShort (h : XH) (a0 : Nat) (p0 : Int32) : Option (Int32) :=
  (xis h a0 2).bind fun v1 =>
  obind1 (f_X2_account h a0 p0 (7 : Int32)) fun v2 =>
  obind1 (
    if v2 ≤ (0 : Int32) then
      some (0 : Int32)
    else
      some (1 : Int32)
  ) fun v3 =>
  (xbool v3).bind fun v4 =>
  some (v4)
abbrev rmX2_isShort : Room := { frames := 1, cells := 0, slots := 0, locals := 22 }
set_option maxHeartbeats 4000000 in
set_option maxRecDepth 100000 in
theorem m_X2_isShort (l : Launch) (B0 : Nat) (G : XG) (h : XH) (a0 : Nat) (p0 : Int32) (rE : Int32) (hf : f_X2_isShort h a0 p0 = some rE) : Met l yX2_isShort wsX2_isShort rmX2_isShort (va_Pc [.ref a0, .int p0] (xU B0 G h)) (xQi B0 G h rE) 0 0 (xA B0) := by
  refine xMet (cc := cX2_isShort) (maxL := 2) (by decide) rfl (Nat.le_of_ble_eq_true rfl) ?_
  intro p e s m args below meth c ls hx hb hr hml hown hlocks hnm hts hKK hP hl
  have hown : s.vm.findClass RX2 = some m.cls := hown
  have hl : lv_has ls 2 [(0, .ref a0), (1, .int p0)] := hl
  have hS : va_S (xA B0) s.heap s.heap [] := va_S.rf
  generalize hQ : MQ below (xQi B0 G h rE) args s 0 0 (xA B0) = Q
  unfold f_X2_isShort at hf
  refine lv_aload_n hx hb dX2_isShort_0 rfl (lv_at hl 0 rfl) ?_
  refine lv_iload_n hx hb dX2_isShort_1 rfl (lv_at hl 1 rfl) ?_
  refine lv_bipush (v := (7 : Int32)) hx hb dX2_isShort_2 (by decide) ?_
  obtain ⟨v1, ev1, hf⟩ := xb hf
  obtain ⟨v2, ev2, hf⟩ := xb1 hf
  refine xc_Vi (rest := []) ⟨hx, hb, hml, hown, hts⟩ (m_X2_account l B0 G h a0 p0 (7 : Int32) v2 ev2) (cwV 2 hts gX2_isShort_X2_account rfl rfl rfl (by decide +kernel) ⟨Nat.le_of_ble_eq_true rfl, Nat.le_of_ble_eq_true rfl⟩) hKK hP hS ev1 rfl rfl hl.1 rfl (Nat.le_of_ble_eq_true rfl) dX2_isShort_4 ⟨Nat.zero_le _, Nat.zero_le _⟩ (fun H locs hP hS => ?_)
  obtain ⟨v3, ej1, hf⟩ := xb1 hf
  have J1 : ∀ (H : Heap) (locs : List Loc) (ls : Array Slot), xP B0 G h H → va_S (xA B0) s.heap H locs → lv_has ls 2 [] → W p l e rmX2_isShort s m args below meth c H locs 0 0 Q (F0 m 15 ls [.int v3]) := by
    intro H locs ls hP hS hl
    clear ej1
    obtain ⟨v4, ev4, hf⟩ := xb hf
    obtain rfl := Option.some.inj hf
    subst hQ
    exact xe_z hx hb hr hlocks hKK hP hS ev4 dX2_isShort_15
  have hf := ej1
  clear ej1
  refine lv_if_le (tgt := 14) hx hb dX2_isShort_7 (by decide) (fun c1 => ?_) (fun c1 => ?_)
  · have hf := xif_t hf c1
    refine lv_iconst (v := (0 : Int32)) hx hb dX2_isShort_14 (by decide) ?_
    obtain rfl := Option.some.inj hf
    exact J1 _ _ _ hP hS (lv_sub hl [] rfl)
  · have hf := xif_f hf c1
    refine lv_iconst (v := (1 : Int32)) hx hb dX2_isShort_10 (by decide) ?_
    refine lv_goto (tgt := 15) hx hb dX2_isShort_11 (by decide) ?_
    obtain rfl := Option.some.inj hf
    exact J1 _ _ _ hP hS (lv_sub hl [] rfl)
/-- RainReservoir$State.goBack -/
def f_X2_goBack (fu : Nat) (h : XH) (a0 : Nat) : Option (XH) :=
  (xpV h a0 2 11 (.int (0 : Int32))).bind fun h1 =>
  (xpV h1 a0 2 12 (.int (0 : Int32))).bind fun h2 =>
  (xpV h2 a0 2 13 (.int (0 : Int32))).bind fun h3 =>
  (xpV h3 a0 2 14 (.long (0 : Int64))).bind fun h4 =>
  obind1 (xloop (xf2 fun (v1 : Int32) (h5 : XH) =>
    (xgI h5 a0 2 7).bind fun v2 =>
    if v2 ≤ v1 then
      some (.inr h5)
    else
      (xgR h5 a0 2 6).bind fun v3 =>
      (xaldR h5 v3 3 v1).bind fun v4 =>
      (xis h5 v4 1).bind fun v5 =>
      obind1 (f_X1_clearAmounts h5 v4) fun h7 =>
      olet (v1 + (1 : Int32)) fun v6 =>
      some (.inl (v6, h7))
  ) fu ((0 : Int32), h4)) fun h6 =>
  (xgR h6 a0 2 8).bind fun v7 =>
  (xis h6 v7 4).bind fun v8 =>
  obind1 (f_X4_clearAmounts fu h6 v7) fun h8 =>
  some (h8)
abbrev rmX2_goBack : Room := { frames := 2, cells := 0, slots := 0, locals := 41 }
set_option maxHeartbeats 4000000 in
set_option maxRecDepth 100000 in
theorem m_X2_goBack (l : Launch) (B0 : Nat) (G : XG) (fu : Nat) (h hE : XH) (a0 : Nat) (hf : f_X2_goBack fu h a0 = some hE) : Met l yX2_goBack wsX2_goBack rmX2_goBack (va_Pc [.ref a0] (xU B0 G h)) (xQv B0 G hE) 0 0 (xA B0) := by
  refine xMet (cc := cX2_goBack) (maxL := 2) (by decide) rfl (Nat.le_of_ble_eq_true rfl) ?_
  intro p e s m args below meth c ls hx hb hr hml hown hlocks hnm hts hKK hP hl
  have hown : s.vm.findClass RX2 = some m.cls := hown
  have hl : lv_has ls 2 [(0, .ref a0)] := hl
  have hS : va_S (xA B0) s.heap s.heap [] := va_S.rf
  have inX2 : ∀ w ∈ wsX20, w ∈ wsX2_goBack := by decide +kernel
  have w1 := hts (.fieldLink RX2 70 "RainReservoir$State" "doneCount" "I") (by decide +kernel)
  have w2 := hts (.fieldLink RX2 73 "RainReservoir$State" "level" "I") (by decide +kernel)
  have w3 := hts (.fieldLink RX2 76 "RainReservoir$State" "dryDays" "I") (by decide +kernel)
  have w4 := hts (.fieldLink RX2 79 "RainReservoir$State" "looseOverflow" "J") (by decide +kernel)
  have w5 := hts (.fieldLink RX2 51 "RainReservoir$State" "roofCount" "I") (by decide +kernel)
  have w6 := hts (.fieldLink RX2 20 "RainReservoir$State" "roofs" "[LRainReservoir$Roof;") (by decide +kernel)
  have w7 := hts (.fieldLink RX2 28 "RainReservoir$State" "users" "LRainReservoir$Users;") (by decide +kernel)
  generalize hQ : MQ below (xQv B0 G hE) args s 0 0 (xA B0) = Q
  unfold f_X2_goBack at hf
  refine lv_aload_n hx hb dX2_goBack_0 rfl (lv_at hl 0 rfl) ?_
  refine lv_iconst (v := (0 : Int32)) hx hb dX2_goBack_1 (by decide) ?_
  obtain ⟨h1, eh1, hf⟩ := xb hf
  refine xr_put hx hb hts inX2 tyX2 tyX2_ok nmX2 hown hKK hP hS eh1 rfl (by decide) w1 (fun _ h9 => h9) rfl (tyX2_ok 11 (by decide)) rfl rfl dX2_goBack_2 (fun H locs hP _ hS => ?_)
  refine lv_aload_n hx hb dX2_goBack_5 rfl (lv_at hl 0 rfl) ?_
  refine lv_iconst (v := (0 : Int32)) hx hb dX2_goBack_6 (by decide) ?_
  obtain ⟨h2, eh2, hf⟩ := xb hf
  refine xr_put hx hb hts inX2 tyX2 tyX2_ok nmX2 hown hKK hP hS eh2 rfl (by decide) w2 (fun _ h9 => h9) rfl (tyX2_ok 12 (by decide)) rfl rfl dX2_goBack_7 (fun H locs hP _ hS => ?_)
  refine lv_aload_n hx hb dX2_goBack_10 rfl (lv_at hl 0 rfl) ?_
  refine lv_iconst (v := (0 : Int32)) hx hb dX2_goBack_11 (by decide) ?_
  obtain ⟨h3, eh3, hf⟩ := xb hf
  refine xr_put hx hb hts inX2 tyX2 tyX2_ok nmX2 hown hKK hP hS eh3 rfl (by decide) w3 (fun _ h9 => h9) rfl (tyX2_ok 13 (by decide)) rfl rfl dX2_goBack_12 (fun H locs hP _ hS => ?_)
  refine lv_aload_n hx hb dX2_goBack_15 rfl (lv_at hl 0 rfl) ?_
  refine lv_lconst (v := (0 : Int64)) hx hb dX2_goBack_16 (by decide) ?_
  obtain ⟨h4, eh4, hf⟩ := xb hf
  refine xr_put hx hb hts inX2 tyX2 tyX2_ok nmX2 hown hKK hP hS eh4 rfl (by decide) w4 (fun _ h9 => h9) rfl (tyX2_ok 14 (by decide)) rfl rfl dX2_goBack_17 (fun H locs hP _ hS => ?_)
  refine lv_iconst (v := (0 : Int32)) hx hb dX2_goBack_20 (by decide) ?_
  refine lv_istore_n (lv' := [(1, .int (0 : Int32)), (0, .ref a0)]) hx hb dX2_goBack_21 rfl hl (by decide) rfl (fun ls hl => ?_)
  obtain ⟨h6, eL, hf⟩ := xb1 hf
  have J1 : ∀ (H : Heap) (locs : List Loc) (ls : Array Slot), xP B0 G h6 H → va_S (xA B0) s.heap H locs → lv_has ls 2 [(0, .ref a0)] → W p l e rmX2_goBack s m args below meth c H locs 0 0 Q (F0 m 45 ls []) := by
    intro H locs ls hP hS hl
    clear eL
    refine lv_aload_n hx hb dX2_goBack_45 rfl (lv_at hl 0 rfl) ?_
    obtain ⟨v7, ev7, hf⟩ := xb hf
    refine xr_getR hx hb hts inX2 hown hKK hP ev7 rfl (by decide) w7 (fun _ h9 => h9) dX2_goBack_46 ?_
    obtain ⟨v8, ev8, hf⟩ := xb hf
    obtain ⟨h8, eh8, hf⟩ := xb1 hf
    refine xc_Vv (rest := []) ⟨hx, hb, hml, hown, hts⟩ (m_X4_clearAmounts l B0 G fu h6 h8 v7 eh8) (cwV 0 hts gX2_goBack_X4_clearAmounts rfl rfl rfl (by decide +kernel) ⟨Nat.le_of_ble_eq_true rfl, Nat.le_of_ble_eq_true rfl⟩) hKK hP hS ev8 rfl rfl hl.1 rfl (Nat.le_of_ble_eq_true rfl) dX2_goBack_49 ⟨Nat.zero_le _, Nat.zero_le _⟩ (fun H locs hP hS => ?_)
    obtain rfl := Option.some.inj hf
    subst hQ
    exact xe_v hx hb hr hlocks hKK hP hS dX2_goBack_52
  clear hf
  refine xloop_ind (P := fun z => ∀ (H : Heap) (locs : List Loc) (ls : Array Slot), xP B0 G z.2 H → va_S (xA B0) s.heap H locs → lv_has ls 2 [(1, .int z.1), (0, .ref a0)] → W p l e rmX2_goBack s m args below meth c H locs 0 0 Q (F0 m 22 ls [])) ?_ eL _ _ _ hP hS (lv_sub hl [0, 1] rfl)
  rintro ⟨v1, h5⟩ o hf IH EX H locs ls hP hS hl
  have hf := xf2_e hf
  have hP : xP B0 G h5 H := hP
  have hl : lv_has ls 2 [(1, .int v1), (0, .ref a0)] := hl
  refine lv_iload_n hx hb dX2_goBack_22 rfl (lv_at hl 0 rfl) ?_
  refine lv_aload_n hx hb dX2_goBack_23 rfl (lv_at hl 1 rfl) ?_
  obtain ⟨v2, ev2, hf⟩ := xb hf
  refine xr_getI hx hb hts inX2 hown hKK hP ev2 rfl (by decide) w5 (fun _ h9 => h9) dX2_goBack_24 ?_
  refine lv_icmp_ge (tgt := 45) hx hb dX2_goBack_27 (by decide) (fun c1 => ?_) (fun c1 => ?_)
  · have hf := xif_t hf c1
    have hf := EX _ (Option.some.inj hf).symm
    obtain rfl := hf
    exact J1 _ _ _ hP hS (lv_sub hl [1] rfl)
  · have hf := xif_f hf c1
    refine lv_aload_n hx hb dX2_goBack_30 rfl (lv_at hl 1 rfl) ?_
    obtain ⟨v3, ev3, hf⟩ := xb hf
    refine xr_getR hx hb hts inX2 hown hKK hP ev3 rfl (by decide) w6 (fun _ h9 => h9) dX2_goBack_31 ?_
    refine lv_iload_n hx hb dX2_goBack_34 rfl (lv_at hl 0 rfl) ?_
    obtain ⟨v4, ev4, hf⟩ := xb hf
    refine xr_aald (fun _ => rfl) hx hb hKK hP ev4 dX2_goBack_35 ?_
    obtain ⟨v5, ev5, hf⟩ := xb hf
    obtain ⟨h7, eh7, hf⟩ := xb1 hf
    refine xc_Vv (rest := []) ⟨hx, hb, hml, hown, hts⟩ (m_X1_clearAmounts l B0 G h5 h7 v4 eh7) (cwV 0 hts gX2_goBack_X1_clearAmounts rfl rfl rfl (by decide +kernel) ⟨Nat.le_of_ble_eq_true rfl, Nat.le_of_ble_eq_true rfl⟩) hKK hP hS ev5 rfl rfl hl.1 rfl (Nat.le_of_ble_eq_true rfl) dX2_goBack_36 ⟨Nat.zero_le _, Nat.zero_le _⟩ (fun H locs hP hS => ?_)
    obtain ⟨v6, ev6, hf⟩ := xl hf
    refine lv_iinc (v := v6) (lv' := [(1, .int v6), (0, .ref a0)]) hx hb dX2_goBack_39 hl (k := 0) rfl (by rw [ev6]; rfl) (by decide) rfl (fun ls hl => ?_)
    refine lv_goto (tgt := 22) hx hb dX2_goBack_42 (by decide) ?_
    exact IH _ (Option.some.inj hf).symm _ _ _ hP hS (lv_sub hl [0, 1] rfl)
/-- RainReservoir$State.serveAll -/
def f_X2_serveAll (fu : Nat) (h : XH) (a0 : Nat) (p0 : Int32) : Option (Int32 × XH) :=
  (xpV h a0 2 12 (.int (0 : Int32))).bind fun h1 =>
  (xgR h1 a0 2 8).bind fun v1 =>
  (xis h1 v1 4).bind fun v2 =>
  obind1 (f_X4_clearAmounts fu h1 v1) fun h2 =>
  obind2 (xloop (xf3 fun (v3 : Int32) (v4 : Int32) (h3 : XH) =>
    (xgI h3 a0 2 10).bind fun v6 =>
    if v6 ≤ v4 then
      some (.inr (v3, h3))
    else
      if p0 < v3 then
        some (.inr (v3, h3))
      else
        (xis h3 a0 2).bind fun v7 =>
        obind1 (f_X2_serve fu h3 a0 v4) fun h5 =>
        (xis h5 a0 2).bind fun v8 =>
        obind1 (f_X2_isShort h5 a0 v4) fun v9 =>
        obind1 (
          if v9 = (0 : Int32) then
            some v3
          else
            olet (v3 + (1 : Int32)) fun v11 =>
            some v11
        ) fun v10 =>
        olet (v4 + (1 : Int32)) fun v12 =>
        some (.inl (v10, v12, h5))
  ) fu ((0 : Int32), (0 : Int32), h2)) fun v5 h4 =>
  some ((v5, h4))
abbrev rmX2_serveAll : Room := { frames := 6, cells := 0, slots := 0, locals := 141 }
set_option maxHeartbeats 4000000 in
set_option maxRecDepth 100000 in
theorem m_X2_serveAll (l : Launch) (B0 : Nat) (G : XG) (fu : Nat) (h hE : XH) (a0 : Nat) (p0 : Int32) (rE : Int32) (hf : f_X2_serveAll fu h a0 p0 = some (rE, hE)) : Met l yX2_serveAll wsX2_serveAll rmX2_serveAll (va_Pc [.ref a0, .int p0] (xU B0 G h)) (xQi B0 G hE rE) 0 0 (xA B0) := by
  refine xMet (cc := cX2_serveAll) (maxL := 4) (by decide) rfl (Nat.le_of_ble_eq_true rfl) ?_
  intro p e s m args below meth c ls hx hb hr hml hown hlocks hnm hts hKK hP hl
  have hown : s.vm.findClass RX2 = some m.cls := hown
  have hl : lv_has ls 4 [(0, .ref a0), (1, .int p0)] := hl
  have hS : va_S (xA B0) s.heap s.heap [] := va_S.rf
  have inX2 : ∀ w ∈ wsX20, w ∈ wsX2_serveAll := by decide +kernel
  have w1 := hts (.fieldLink RX2 73 "RainReservoir$State" "level" "I") (by decide +kernel)
  have w2 := hts (.fieldLink RX2 28 "RainReservoir$State" "users" "LRainReservoir$Users;") (by decide +kernel)
  have w3 := hts (.fieldLink RX2 61 "RainReservoir$State" "rainCount" "I") (by decide +kernel)
  generalize hQ : MQ below (xQi B0 G hE rE) args s 0 0 (xA B0) = Q
  unfold f_X2_serveAll at hf
  refine lv_aload_n hx hb dX2_serveAll_0 rfl (lv_at hl 0 rfl) ?_
  refine lv_iconst (v := (0 : Int32)) hx hb dX2_serveAll_1 (by decide) ?_
  obtain ⟨h1, eh1, hf⟩ := xb hf
  refine xr_put hx hb hts inX2 tyX2 tyX2_ok nmX2 hown hKK hP hS eh1 rfl (by decide) w1 (fun _ h9 => h9) rfl (tyX2_ok 12 (by decide)) rfl rfl dX2_serveAll_2 (fun H locs hP _ hS => ?_)
  refine lv_aload_n hx hb dX2_serveAll_5 rfl (lv_at hl 0 rfl) ?_
  obtain ⟨v1, ev1, hf⟩ := xb hf
  refine xr_getR hx hb hts inX2 hown hKK hP ev1 rfl (by decide) w2 (fun _ h9 => h9) dX2_serveAll_6 ?_
  obtain ⟨v2, ev2, hf⟩ := xb hf
  obtain ⟨h2, eh2, hf⟩ := xb1 hf
  refine xc_Vv (rest := []) ⟨hx, hb, hml, hown, hts⟩ (m_X4_clearAmounts l B0 G fu h1 h2 v1 eh2) (cwV 0 hts gX2_serveAll_X4_clearAmounts rfl rfl rfl (by decide +kernel) ⟨Nat.le_of_ble_eq_true rfl, Nat.le_of_ble_eq_true rfl⟩) hKK hP hS ev2 rfl rfl hl.1 rfl (Nat.le_of_ble_eq_true rfl) dX2_serveAll_9 ⟨Nat.zero_le _, Nat.zero_le _⟩ (fun H locs hP hS => ?_)
  refine lv_iconst (v := (0 : Int32)) hx hb dX2_serveAll_12 (by decide) ?_
  refine lv_istore_n (lv' := [(2, .int (0 : Int32)), (0, .ref a0), (1, .int p0)]) hx hb dX2_serveAll_13 rfl hl (by decide) rfl (fun ls hl => ?_)
  refine lv_iconst (v := (0 : Int32)) hx hb dX2_serveAll_14 (by decide) ?_
  refine lv_istore_n (lv' := [(3, .int (0 : Int32)), (2, .int (0 : Int32)), (0, .ref a0), (1, .int p0)]) hx hb dX2_serveAll_15 rfl hl (by decide) rfl (fun ls hl => ?_)
  obtain ⟨v5, h4, eL, hf⟩ := xb2 hf
  have J1 : ∀ (H : Heap) (locs : List Loc) (ls : Array Slot), xP B0 G h4 H → va_S (xA B0) s.heap H locs → lv_has ls 4 [(2, .int v5)] → W p l e rmX2_serveAll s m args below meth c H locs 0 0 Q (F0 m 51 ls []) := by
    intro H locs ls hP hS hl
    clear eL
    refine lv_iload_n hx hb dX2_serveAll_51 rfl (lv_at hl 0 rfl) ?_
    obtain ⟨rfl, rfl⟩ := xinj2 hf
    subst hQ
    exact xe_i hx hb hr hlocks hKK hP hS dX2_serveAll_52
  clear hf
  refine xloop_ind (P := fun z => ∀ (H : Heap) (locs : List Loc) (ls : Array Slot), xP B0 G z.2.2 H → va_S (xA B0) s.heap H locs → lv_has ls 4 [(2, .int z.1), (3, .int z.2.1), (0, .ref a0), (1, .int p0)] → W p l e rmX2_serveAll s m args below meth c H locs 0 0 Q (F0 m 16 ls [])) ?_ eL _ _ _ hP hS (lv_sub hl [1, 0, 2, 3] rfl)
  rintro ⟨v3, v4, h3⟩ o hf IH EX H locs ls hP hS hl
  have hf := xf3_e hf
  have hP : xP B0 G h3 H := hP
  have hl : lv_has ls 4 [(2, .int v3), (3, .int v4), (0, .ref a0), (1, .int p0)] := hl
  refine lv_iload_n hx hb dX2_serveAll_16 rfl (lv_at hl 1 rfl) ?_
  refine lv_aload_n hx hb dX2_serveAll_17 rfl (lv_at hl 2 rfl) ?_
  obtain ⟨v6, ev6, hf⟩ := xb hf
  refine xr_getI hx hb hts inX2 hown hKK hP ev6 rfl (by decide) w3 (fun _ h9 => h9) dX2_serveAll_18 ?_
  refine lv_icmp_ge (tgt := 51) hx hb dX2_serveAll_21 (by decide) (fun c1 => ?_) (fun c1 => ?_)
  · have hf := xif_t hf c1
    have hf := EX _ (Option.some.inj hf).symm
    obtain ⟨rfl, rfl⟩ := xpair2 hf
    exact J1 _ _ _ hP hS (lv_sub hl [0] rfl)
  · have hf := xif_f hf c1
    refine lv_iload_n hx hb dX2_serveAll_24 rfl (lv_at hl 0 rfl) ?_
    refine lv_iload_n hx hb dX2_serveAll_25 rfl (lv_at hl 3 rfl) ?_
    refine lv_icmp_gt (tgt := 51) hx hb dX2_serveAll_26 (by decide) (fun c2 => ?_) (fun c2 => ?_)
    · have hf := xif_t hf c2
      have hf := EX _ (Option.some.inj hf).symm
      obtain ⟨rfl, rfl⟩ := xpair2 hf
      exact J1 _ _ _ hP hS (lv_sub hl [0] rfl)
    · have hf := xif_f hf c2
      refine lv_aload_n hx hb dX2_serveAll_29 rfl (lv_at hl 2 rfl) ?_
      refine lv_iload_n hx hb dX2_serveAll_30 rfl (lv_at hl 1 rfl) ?_
      obtain ⟨v7, ev7, hf⟩ := xb hf
      obtain ⟨h5, eh5, hf⟩ := xb1 hf
      refine xc_Vv (rest := []) ⟨hx, hb, hml, hown, hts⟩ (m_X2_serve l B0 G fu h3 h5 a0 v4 eh5) (cwV 1 hts gX2_serveAll_X2_serve rfl rfl rfl (by decide +kernel) ⟨Nat.le_of_ble_eq_true rfl, Nat.le_of_ble_eq_true rfl⟩) hKK hP hS ev7 rfl rfl hl.1 rfl (Nat.le_of_ble_eq_true rfl) dX2_serveAll_31 ⟨Nat.zero_le _, Nat.zero_le _⟩ (fun H locs hP hS => ?_)
      refine lv_aload_n hx hb dX2_serveAll_34 rfl (lv_at hl 2 rfl) ?_
      refine lv_iload_n hx hb dX2_serveAll_35 rfl (lv_at hl 1 rfl) ?_
      obtain ⟨v8, ev8, hf⟩ := xb hf
      obtain ⟨v9, ev9, hf⟩ := xb1 hf
      refine xc_Vi (rest := []) ⟨hx, hb, hml, hown, hts⟩ (m_X2_isShort l B0 G h5 a0 v4 v9 ev9) (cwV 1 hts gX2_serveAll_X2_isShort rfl rfl rfl (by decide +kernel) ⟨Nat.le_of_ble_eq_true rfl, Nat.le_of_ble_eq_true rfl⟩) hKK hP hS ev8 rfl rfl hl.1 rfl (Nat.le_of_ble_eq_true rfl) dX2_serveAll_36 ⟨Nat.zero_le _, Nat.zero_le _⟩ (fun H locs hP hS => ?_)
      obtain ⟨v10, ej2, hf⟩ := xb1 hf
      have J2 : ∀ (H : Heap) (locs : List Loc) (ls : Array Slot), xP B0 G h5 H → va_S (xA B0) s.heap H locs → lv_has ls 4 [(2, .int v10), (3, .int v4), (0, .ref a0), (1, .int p0)] → W p l e rmX2_serveAll s m args below meth c H locs 0 0 Q (F0 m 45 ls []) := by
        intro H locs ls hP hS hl
        clear ej2
        obtain ⟨v12, ev12, hf⟩ := xl hf
        refine lv_iinc (v := v12) (lv' := [(3, .int v12), (2, .int v10), (0, .ref a0), (1, .int p0)]) hx hb dX2_serveAll_45 hl (k := 1) rfl (by rw [ev12]; rfl) (by decide) rfl (fun ls hl => ?_)
        refine lv_goto (tgt := 16) hx hb dX2_serveAll_48 (by decide) ?_
        exact IH _ (Option.some.inj hf).symm _ _ _ hP hS (lv_sub hl [1, 0, 2, 3] rfl)
      have hf := ej2
      clear ej2
      refine lv_if_eq (tgt := 45) hx hb dX2_serveAll_39 (by decide) (fun c3 => ?_) (fun c3 => ?_)
      · have hf := xif_t hf c3
        obtain rfl := Option.some.inj hf
        exact J2 _ _ _ hP hS (lv_sub hl [0, 1, 2, 3] rfl)
      · have hf := xif_f hf c3
        obtain ⟨v11, ev11, hf⟩ := xl hf
        refine lv_iinc (v := v11) (lv' := [(2, .int v11), (3, .int v4), (0, .ref a0), (1, .int p0)]) hx hb dX2_serveAll_42 hl (k := 0) rfl (by rw [ev11]; rfl) (by decide) rfl (fun ls hl => ?_)
        obtain rfl := Option.some.inj hf
        exact J2 _ _ _ hP hS (lv_sub hl [0, 1, 2, 3] rfl)
