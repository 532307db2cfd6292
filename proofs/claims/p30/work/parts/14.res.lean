/-- RainReservoir.save -/
def f_X5_save (fu : Nat) (h : XH) (a0 : Nat) : Option (XH) :=
  (xgI h a0 5 3).bind fun v1 =>
  obind1 (
    if v1 < (4 : Int32) then
      some h
    else
      (xgR h a0 5 2).bind fun v2 =>
      (xaldR h v2 4 (0 : Int32)).bind fun v3 =>
      obind1 (xloop (xf2 fun (v4 : Int32) (h2 : XH) =>
        if (4 : Int32) ≤ v4 then
          some (.inr h2)
        else
          (xgR h2 a0 5 2).bind fun v5 =>
          (xgR h2 a0 5 2).bind fun v6 =>
          (xaldR h2 v6 4 v4).bind fun v7 =>
          (xis h2 v7 2).bind fun v8 =>
          (xastR h2 v5 4 (v4 - (1 : Int32)) v7).bind fun h4 =>
          olet (v4 + (1 : Int32)) fun v9 =>
          some (.inl (v9, h4))
      ) fu ((1 : Int32), h)) fun h3 =>
      (xgR h3 a0 5 2).bind fun v10 =>
      (xis h3 v3 2).bind fun v11 =>
      (xastR h3 v10 4 (3 : Int32) v3).bind fun h5 =>
      (xpV h5 a0 5 3 (.int (3 : Int32))).bind fun h6 =>
      some h6
  ) fun h1 =>
  (xgR h1 a0 5 2).bind fun v12 =>
  (xgI h1 a0 5 3).bind fun v13 =>
  (xaldR h1 v12 4 v13).bind fun v14 =>
  (xgR h1 a0 5 0).bind fun v15 =>
  (xis h1 v14 2).bind fun v16 =>
  obind1 (f_X2_copyFrom fu h1 v14 v15) fun h7 =>
  (xgI h7 a0 5 3).bind fun v17 =>
  (xpV h7 a0 5 3 (.int (v17 + (1 : Int32)))).bind fun h8 =>
  some (h8)
abbrev rmX5_save : Room := { frames := 5, cells := 0, slots := 0, locals := 107 }
set_option maxHeartbeats 4000000 in
set_option maxRecDepth 100000 in
theorem m_X5_save (l : Launch) (B0 : Nat) (G : XG) (fu : Nat) (h hE : XH) (a0 : Nat) (hf : f_X5_save fu h a0 = some hE) : Met l yX5_save wsX5_save rmX5_save (va_Pc [.ref a0] (xU B0 G h)) (xQv B0 G hE) 0 0 (xA B0) := by
  refine xMet (cc := cX5_save) (maxL := 3) (by decide) rfl (Nat.le_of_ble_eq_true rfl) ?_
  intro p e s m args below meth c ls hx hb hr hml hown hlocks hnm hts hKK hP hl
  have hown : s.vm.findClass RX5 = some m.cls := hown
  have hl : lv_has ls 3 [(0, .ref a0)] := hl
  have hS : va_S (xA B0) s.heap s.heap [] := va_S.rf
  have inX5 : ∀ w ∈ wsX50, w ∈ wsX5_save := by decide +kernel
  have w1 := hts (.fieldLink RX5 207 "RainReservoir" "savedCount" "I") (by decide +kernel)
  have w2 := hts (.fieldLink RX5 19 "RainReservoir" "saved" "[LRainReservoir$State;") (by decide +kernel)
  have w3 := hts (.fieldLink RX5 10 "RainReservoir" "now" "LRainReservoir$State;") (by decide +kernel)
  generalize hQ : MQ below (xQv B0 G hE) args s 0 0 (xA B0) = Q
  unfold f_X5_save at hf
  refine lv_aload_n hx hb dX5_save_0 rfl (lv_at hl 0 rfl) ?_
  obtain ⟨v1, ev1, hf⟩ := xb hf
  refine xr_getI hx hb hts inX5 hown hKK hP ev1 rfl (by decide) w1 (fun _ h9 => h9) dX5_save_1 ?_
  refine lv_iconst (v := (4 : Int32)) hx hb dX5_save_4 (by decide) ?_
  obtain ⟨h1, ej1, hf⟩ := xb1 hf
  have J1 : ∀ (H : Heap) (locs : List Loc) (ls : Array Slot), xP B0 G h1 H → va_S (xA B0) s.heap H locs → lv_has ls 3 [(0, .ref a0)] → W p l e rmX5_save s m args below meth c H locs 0 0 Q (F0 m 54 ls []) := by
    intro H locs ls hP hS hl
    clear ej1
    refine lv_aload_n hx hb dX5_save_54 rfl (lv_at hl 0 rfl) ?_
    obtain ⟨v12, ev12, hf⟩ := xb hf
    refine xr_getR hx hb hts inX5 hown hKK hP ev12 rfl (by decide) w2 (fun _ h9 => h9) dX5_save_55 ?_
    refine lv_aload_n hx hb dX5_save_58 rfl (lv_at hl 0 rfl) ?_
    obtain ⟨v13, ev13, hf⟩ := xb hf
    refine xr_getI hx hb hts inX5 hown hKK hP ev13 rfl (by decide) w1 (fun _ h9 => h9) dX5_save_59 ?_
    obtain ⟨v14, ev14, hf⟩ := xb hf
    refine xr_aald (fun _ => rfl) hx hb hKK hP ev14 dX5_save_62 ?_
    refine lv_aload_n hx hb dX5_save_63 rfl (lv_at hl 0 rfl) ?_
    obtain ⟨v15, ev15, hf⟩ := xb hf
    refine xr_getR hx hb hts inX5 hown hKK hP ev15 rfl (by decide) w3 (fun _ h9 => h9) dX5_save_64 ?_
    obtain ⟨v16, ev16, hf⟩ := xb hf
    obtain ⟨h7, eh7, hf⟩ := xb1 hf
    refine xc_Vv (rest := []) ⟨hx, hb, hml, hown, hts⟩ (m_X2_copyFrom l B0 G fu h1 h7 v14 v15 eh7) (cwV 1 hts gX5_save_X2_copyFrom rfl rfl rfl (by decide +kernel) ⟨Nat.le_of_ble_eq_true rfl, Nat.le_of_ble_eq_true rfl⟩) hKK hP hS ev16 rfl rfl hl.1 rfl (Nat.le_of_ble_eq_true rfl) dX5_save_67 ⟨Nat.zero_le _, Nat.zero_le _⟩ (fun H locs hP hS => ?_)
    refine lv_aload_n hx hb dX5_save_70 rfl (lv_at hl 0 rfl) ?_
    refine lv_dup hx hb dX5_save_71 rfl ?_
    obtain ⟨v17, ev17, hf⟩ := xb hf
    refine xr_getI hx hb hts inX5 hown hKK hP ev17 rfl (by decide) w1 (fun _ h9 => h9) dX5_save_72 ?_
    refine lv_iconst (v := (1 : Int32)) hx hb dX5_save_75 (by decide) ?_
    refine lv_iadd hx hb dX5_save_76 ?_
    obtain ⟨h8, eh8, hf⟩ := xb hf
    refine xr_put hx hb hts inX5 tyX5 tyX5_ok nmX5 hown hKK hP hS eh8 rfl (by decide) w1 (fun _ h9 => h9) rfl (tyX5_ok 3 (by decide)) rfl rfl dX5_save_77 (fun H locs hP _ hS => ?_)
    obtain rfl := Option.some.inj hf
    subst hQ
    exact xe_v hx hb hr hlocks hKK hP hS dX5_save_80
  have hf := ej1
  clear ej1
  refine lv_icmp_lt (tgt := 54) hx hb dX5_save_5 (by decide) (fun c1 => ?_) (fun c1 => ?_)
  · have hf := xif_t hf c1
    obtain rfl := Option.some.inj hf
    exact J1 _ _ _ hP hS (lv_sub hl [0] rfl)
  · have hf := xif_f hf c1
    refine lv_aload_n hx hb dX5_save_8 rfl (lv_at hl 0 rfl) ?_
    obtain ⟨v2, ev2, hf⟩ := xb hf
    refine xr_getR hx hb hts inX5 hown hKK hP ev2 rfl (by decide) w2 (fun _ h9 => h9) dX5_save_9 ?_
    refine lv_iconst (v := (0 : Int32)) hx hb dX5_save_12 (by decide) ?_
    obtain ⟨v3, ev3, hf⟩ := xb hf
    refine xr_aald (fun _ => rfl) hx hb hKK hP ev3 dX5_save_13 ?_
    refine lv_astore_n (lv' := [(1, .ref v3), (0, .ref a0)]) hx hb dX5_save_14 rfl hl (by decide) rfl (fun ls hl => ?_)
    refine lv_iconst (v := (1 : Int32)) hx hb dX5_save_15 (by decide) ?_
    refine lv_istore_n (lv' := [(2, .int (1 : Int32)), (1, .ref v3), (0, .ref a0)]) hx hb dX5_save_16 rfl hl (by decide) rfl (fun ls hl => ?_)
    obtain ⟨h3, eL, hf⟩ := xb1 hf
    have J2 : ∀ (H : Heap) (locs : List Loc) (ls : Array Slot), xP B0 G h3 H → va_S (xA B0) s.heap H locs → lv_has ls 3 [(1, .ref v3), (0, .ref a0)] → W p l e rmX5_save s m args below meth c H locs 0 0 Q (F0 m 42 ls []) := by
      intro H locs ls hP hS hl
      clear eL
      refine lv_aload_n hx hb dX5_save_42 rfl (lv_at hl 1 rfl) ?_
      obtain ⟨v10, ev10, hf⟩ := xb hf
      refine xr_getR hx hb hts inX5 hown hKK hP ev10 rfl (by decide) w2 (fun _ h9 => h9) dX5_save_43 ?_
      refine lv_iconst (v := (3 : Int32)) hx hb dX5_save_46 (by decide) ?_
      refine lv_aload_n hx hb dX5_save_47 rfl (lv_at hl 0 rfl) ?_
      obtain ⟨v11, ev11, hf⟩ := xb hf
      obtain ⟨h5, eh5, hf⟩ := xb hf
      refine xr_aast (r := (RX2, TX2, 16)) (fun _ => rfl) rfl hx hb hKK hP hS ev11 eh5 dX5_save_48 (fun H locs hP _ hS => ?_)
      refine lv_aload_n hx hb dX5_save_49 rfl (lv_at hl 1 rfl) ?_
      refine lv_iconst (v := (3 : Int32)) hx hb dX5_save_50 (by decide) ?_
      obtain ⟨h6, eh6, hf⟩ := xb hf
      refine xr_put hx hb hts inX5 tyX5 tyX5_ok nmX5 hown hKK hP hS eh6 rfl (by decide) w1 (fun _ h9 => h9) rfl (tyX5_ok 3 (by decide)) rfl rfl dX5_save_51 (fun H locs hP _ hS => ?_)
      obtain rfl := Option.some.inj hf
      exact J1 _ _ _ hP hS (lv_sub hl [1] rfl)
    clear hf
    refine xloop_ind (P := fun z => ∀ (H : Heap) (locs : List Loc) (ls : Array Slot), xP B0 G z.2 H → va_S (xA B0) s.heap H locs → lv_has ls 3 [(2, .int z.1), (1, .ref v3), (0, .ref a0)] → W p l e rmX5_save s m args below meth c H locs 0 0 Q (F0 m 17 ls [])) ?_ eL _ _ _ hP hS (lv_sub hl [0, 1, 2] rfl)
    rintro ⟨v4, h2⟩ o hf IH EX H locs ls hP hS hl
    have hf := xf2_e hf
    have hP : xP B0 G h2 H := hP
    have hl : lv_has ls 3 [(2, .int v4), (1, .ref v3), (0, .ref a0)] := hl
    refine lv_iload_n hx hb dX5_save_17 rfl (lv_at hl 0 rfl) ?_
    refine lv_iconst (v := (4 : Int32)) hx hb dX5_save_18 (by decide) ?_
    refine lv_icmp_ge (tgt := 42) hx hb dX5_save_19 (by decide) (fun c2 => ?_) (fun c2 => ?_)
    · have hf := xif_t hf c2
      have hf := EX _ (Option.some.inj hf).symm
      obtain rfl := hf
      exact J2 _ _ _ hP hS (lv_sub hl [1, 2] rfl)
    · have hf := xif_f hf c2
      refine lv_aload_n hx hb dX5_save_22 rfl (lv_at hl 2 rfl) ?_
      obtain ⟨v5, ev5, hf⟩ := xb hf
      refine xr_getR hx hb hts inX5 hown hKK hP ev5 rfl (by decide) w2 (fun _ h9 => h9) dX5_save_23 ?_
      refine lv_iload_n hx hb dX5_save_26 rfl (lv_at hl 0 rfl) ?_
      refine lv_iconst (v := (1 : Int32)) hx hb dX5_save_27 (by decide) ?_
      refine lv_isub hx hb dX5_save_28 ?_
      refine lv_aload_n hx hb dX5_save_29 rfl (lv_at hl 2 rfl) ?_
      obtain ⟨v6, ev6, hf⟩ := xb hf
      refine xr_getR hx hb hts inX5 hown hKK hP ev6 rfl (by decide) w2 (fun _ h9 => h9) dX5_save_30 ?_
      refine lv_iload_n hx hb dX5_save_33 rfl (lv_at hl 0 rfl) ?_
      obtain ⟨v7, ev7, hf⟩ := xb hf
      refine xr_aald (fun _ => rfl) hx hb hKK hP ev7 dX5_save_34 ?_
      obtain ⟨v8, ev8, hf⟩ := xb hf
      obtain ⟨h4, eh4, hf⟩ := xb hf
      refine xr_aast (r := (RX2, TX2, 16)) (fun _ => rfl) rfl hx hb hKK hP hS ev8 eh4 dX5_save_35 (fun H locs hP _ hS => ?_)
      obtain ⟨v9, ev9, hf⟩ := xl hf
      refine lv_iinc (v := v9) (lv' := [(2, .int v9), (1, .ref v3), (0, .ref a0)]) hx hb dX5_save_36 hl (k := 0) rfl (by rw [ev9]; rfl) (by decide) rfl (fun ls hl => ?_)
      refine lv_goto (tgt := 17) hx hb dX5_save_39 (by decide) ?_
      exact IH _ (Option.some.inj hf).symm _ _ _ hP hS (lv_sub hl [0, 1, 2] rfl)
/-- RainReservoir.nextRandom -/
def f_X5_nextRandom (p0 : Int64) : Option (Int64) :=
  some ((xremL (((1103515245 : Int64) * p0) + (12345 : Int64)) (2147483648 : Int64)))
abbrev rmX5_nextRandom : Room := { frames := 0, cells := 0, slots := 0, locals := 0 }
set_option maxHeartbeats 4000000 in
set_option maxRecDepth 100000 in
theorem m_X5_nextRandom (l : Launch) (B0 : Nat) (G : XG) (h : XH) (p0 : Int64) (rE : Int64) (hf : f_X5_nextRandom p0 = some rE) : Met l yX5_nextRandom wsX5_nextRandom rmX5_nextRandom (va_Pc [.long p0] (xU B0 G h)) (xQl B0 G h rE) 0 0 (xA B0) := by
  refine xMet (cc := cX5_nextRandom) (maxL := 2) (by decide) rfl (Nat.le_of_ble_eq_true rfl) ?_
  intro p e s m args below meth c ls hx hb hr hml hown hlocks hnm hts hKK hP hl
  have hown : s.vm.findClass RX5 = some m.cls := hown
  have hl : lv_has ls 2 [(0, .long p0)] := hl
  have hS : va_S (xA B0) s.heap s.heap [] := va_S.rf
  have w1 := hts (.constantLong RX5 236 (1103515245)) (by decide +kernel)
  have w2 := hts (.constantLong RX5 238 (12345)) (by decide +kernel)
  have w3 := hts (.constantLong RX5 240 (2147483648)) (by decide +kernel)
  generalize hQ : MQ below (xQl B0 G h rE) args s 0 0 (xA B0) = Q
  unfold f_X5_nextRandom at hf
  refine lv_ldc2 (v := (1103515245 : Int64)) hx hb hown w1 dX5_nextRandom_0 ?_
  refine lv_lload_n hx hb dX5_nextRandom_3 rfl (lv_at hl 0 rfl) ?_
  refine lv_lmul hx hb dX5_nextRandom_4 ?_
  refine lv_ldc2 (v := (12345 : Int64)) hx hb hown w2 dX5_nextRandom_5 ?_
  refine lv_ladd hx hb dX5_nextRandom_8 ?_
  refine lv_ldc2 (v := (2147483648 : Int64)) hx hb hown w3 dX5_nextRandom_9 ?_
  refine xr_lrem hx hb dX5_nextRandom_12 (by decide) ?_
  obtain rfl := Option.some.inj hf
  subst hQ
  exact xe_l hx hb hr hlocks hKK hP hS dX5_nextRandom_13
/-- RainReservoir.restart -/
def f_X5_restart (fu : Nat) (h : XH) (a0 : Nat) : Option (Int32 × XH) :=
  (xis h a0 5).bind fun v1 =>
  obind1 (f_X5_save fu h a0) fun h1 =>
  (xgR h1 a0 5 0).bind fun v2 =>
  (xgI h1 v2 2 11).bind fun v3 =>
  (xgR h1 a0 5 0).bind fun v4 =>
  (xis h1 v4 2).bind fun v5 =>
  obind1 (f_X2_goBack fu h1 v4) fun h2 =>
  some ((v3, h2))
abbrev rmX5_restart : Room := { frames := 6, cells := 0, slots := 0, locals := 129 }
set_option maxHeartbeats 4000000 in
set_option maxRecDepth 100000 in
theorem m_X5_restart (l : Launch) (B0 : Nat) (G : XG) (fu : Nat) (h hE : XH) (a0 : Nat) (rE : Int32) (hf : f_X5_restart fu h a0 = some (rE, hE)) : Met l yX5_restart wsX5_restart rmX5_restart (va_Pc [.ref a0] (xU B0 G h)) (xQi B0 G hE rE) 0 0 (xA B0) := by
  refine xMet (cc := cX5_restart) (maxL := 2) (by decide) rfl (Nat.le_of_ble_eq_true rfl) ?_
  intro p e s m args below meth c ls hx hb hr hml hown hlocks hnm hts hKK hP hl
  have hown : s.vm.findClass RX5 = some m.cls := hown
  have hl : lv_has ls 2 [(0, .ref a0)] := hl
  have hS : va_S (xA B0) s.heap s.heap [] := va_S.rf
  have inX2 : ∀ w ∈ wsX20, w ∈ wsX5_restart := by decide +kernel
  have inX5 : ∀ w ∈ wsX50, w ∈ wsX5_restart := by decide +kernel
  have w1 := hts (.fieldLink RX5 10 "RainReservoir" "now" "LRainReservoir$State;") (by decide +kernel)
  have w2 := hts (.fieldLink RX5 143 "RainReservoir$State" "doneCount" "I") (by decide +kernel)
  generalize hQ : MQ below (xQi B0 G hE rE) args s 0 0 (xA B0) = Q
  unfold f_X5_restart at hf
  refine lv_aload_n hx hb dX5_restart_0 rfl (lv_at hl 0 rfl) ?_
  obtain ⟨v1, ev1, hf⟩ := xb hf
  obtain ⟨h1, eh1, hf⟩ := xb1 hf
  refine xc_Vv (rest := []) ⟨hx, hb, hml, hown, hts⟩ (m_X5_save l B0 G fu h h1 a0 eh1) (cwV 0 hts gX5_restart_X5_save rfl rfl rfl (by decide +kernel) ⟨Nat.le_of_ble_eq_true rfl, Nat.le_of_ble_eq_true rfl⟩) hKK hP hS ev1 rfl rfl hl.1 rfl (Nat.le_of_ble_eq_true rfl) dX5_restart_1 ⟨Nat.zero_le _, Nat.zero_le _⟩ (fun H locs hP hS => ?_)
  refine lv_aload_n hx hb dX5_restart_4 rfl (lv_at hl 0 rfl) ?_
  obtain ⟨v2, ev2, hf⟩ := xb hf
  refine xr_getR hx hb hts inX5 hown hKK hP ev2 rfl (by decide) w1 (fun _ h9 => h9) dX5_restart_5 ?_
  obtain ⟨v3, ev3, hf⟩ := xb hf
  refine xr_getI hx hb hts inX2 hown hKK hP ev3 rfl (by decide) w2 (fun _ h9 => h9) dX5_restart_8 ?_
  refine lv_istore_n (lv' := [(1, .int v3), (0, .ref a0)]) hx hb dX5_restart_11 rfl hl (by decide) rfl (fun ls hl => ?_)
  refine lv_aload_n hx hb dX5_restart_12 rfl (lv_at hl 1 rfl) ?_
  obtain ⟨v4, ev4, hf⟩ := xb hf
  refine xr_getR hx hb hts inX5 hown hKK hP ev4 rfl (by decide) w1 (fun _ h9 => h9) dX5_restart_13 ?_
  obtain ⟨v5, ev5, hf⟩ := xb hf
  obtain ⟨h2, eh2, hf⟩ := xb1 hf
  refine xc_Vv (rest := []) ⟨hx, hb, hml, hown, hts⟩ (m_X2_goBack l B0 G fu h1 h2 v4 eh2) (cwV 0 hts gX5_restart_X2_goBack rfl rfl rfl (by decide +kernel) ⟨Nat.le_of_ble_eq_true rfl, Nat.le_of_ble_eq_true rfl⟩) hKK hP hS ev5 rfl rfl hl.1 rfl (Nat.le_of_ble_eq_true rfl) dX5_restart_16 ⟨Nat.zero_le _, Nat.zero_le _⟩ (fun H locs hP hS => ?_)
  refine lv_iload_n hx hb dX5_restart_19 rfl (lv_at hl 0 rfl) ?_
  obtain ⟨rfl, rfl⟩ := xinj2 hf
  subst hQ
  exact xe_i hx hb hr hlocks hKK hP hS dX5_restart_20
/-- RainReservoir.reliability -/
def f_X5_reliability (fu : Nat) (h : XH) (a0 : Nat) : Option (UInt64) :=
  (xgR h a0 5 0).bind fun v1 =>
  (xgI h v1 2 11).bind fun v2 =>
  if v2 = (0 : Int32) then
    some (xd1)
  else
    obind1 (xloop (xf2 fun (v3 : Int32) (v4 : Int32) =>
      if v2 ≤ v4 then
        some (.inr v3)
      else
        (xgR h a0 5 0).bind fun v6 =>
        (xis h v6 2).bind fun v7 =>
        obind1 (f_X2_isShort h v6 v4) fun v8 =>
        obind1 (
          if v8 = (0 : Int32) then
            olet (v3 + (1 : Int32)) fun v10 =>
            some v10
          else
            some v3
        ) fun v9 =>
        olet (v4 + (1 : Int32)) fun v11 =>
        some (.inl (v9, v11))
    ) fu ((0 : Int32), (0 : Int32))) fun v5 =>
    (xdiv (FP.i2d v5) (FP.i2d v2)).bind fun v12 =>
    some (v12)
abbrev rmX5_reliability : Room := { frames := 2, cells := 0, slots := 0, locals := 43 }
set_option maxHeartbeats 4000000 in
set_option maxRecDepth 100000 in
theorem m_X5_reliability (l : Launch) (B0 : Nat) (G : XG) (fu : Nat) (h : XH) (a0 : Nat) (rE : UInt64) (hf : f_X5_reliability fu h a0 = some rE) : Met l yX5_reliability wsX5_reliability rmX5_reliability (va_Pc [.ref a0] (xU B0 G h)) (xQd B0 G h rE) 0 0 (xA B0) := by
  refine xMet (cc := cX5_reliability) (maxL := 4) (by decide) rfl (Nat.le_of_ble_eq_true rfl) ?_
  intro p e s m args below meth c ls hx hb hr hml hown hlocks hnm hts hKK hP hl
  have hown : s.vm.findClass RX5 = some m.cls := hown
  have hl : lv_has ls 4 [(0, .ref a0)] := hl
  have hS : va_S (xA B0) s.heap s.heap [] := va_S.rf
  have inX2 : ∀ w ∈ wsX20, w ∈ wsX5_reliability := by decide +kernel
  have inX5 : ∀ w ∈ wsX50, w ∈ wsX5_reliability := by decide +kernel
  have w1 := hts (.fieldLink RX5 10 "RainReservoir" "now" "LRainReservoir$State;") (by decide +kernel)
  have w2 := hts (.fieldLink RX5 143 "RainReservoir$State" "doneCount" "I") (by decide +kernel)
  generalize hQ : MQ below (xQd B0 G h rE) args s 0 0 (xA B0) = Q
  unfold f_X5_reliability at hf
  refine lv_aload_n hx hb dX5_reliability_0 rfl (lv_at hl 0 rfl) ?_
  obtain ⟨v1, ev1, hf⟩ := xb hf
  refine xr_getR hx hb hts inX5 hown hKK hP ev1 rfl (by decide) w1 (fun _ h9 => h9) dX5_reliability_1 ?_
  obtain ⟨v2, ev2, hf⟩ := xb hf
  refine xr_getI hx hb hts inX2 hown hKK hP ev2 rfl (by decide) w2 (fun _ h9 => h9) dX5_reliability_4 ?_
  refine lv_istore_n (lv' := [(1, .int v2), (0, .ref a0)]) hx hb dX5_reliability_7 rfl hl (by decide) rfl (fun ls hl => ?_)
  refine lv_iload_n hx hb dX5_reliability_8 rfl (lv_at hl 0 rfl) ?_
  refine lv_if_ne (tgt := 14) hx hb dX5_reliability_9 (by decide) (fun c1 => ?_) (fun c1 => ?_)
  · have hf := xif_f hf c1
    refine lv_iconst (v := (0 : Int32)) hx hb dX5_reliability_14 (by decide) ?_
    refine lv_istore_n (lv' := [(2, .int (0 : Int32)), (1, .int v2), (0, .ref a0)]) hx hb dX5_reliability_15 rfl hl (by decide) rfl (fun ls hl => ?_)
    refine lv_iconst (v := (0 : Int32)) hx hb dX5_reliability_16 (by decide) ?_
    refine lv_istore_n (lv' := [(3, .int (0 : Int32)), (2, .int (0 : Int32)), (1, .int v2), (0, .ref a0)]) hx hb dX5_reliability_17 rfl hl (by decide) rfl (fun ls hl => ?_)
    obtain ⟨v5, eL, hf⟩ := xb1 hf
    have J1 : ∀ (H : Heap) (locs : List Loc) (ls : Array Slot), xP B0 G h H → va_S (xA B0) s.heap H locs → lv_has ls 4 [(2, .int v5), (1, .int v2)] → W p l e rmX5_reliability s m args below meth c H locs 0 0 Q (F0 m 43 ls []) := by
      intro H locs ls hP hS hl
      clear eL
      refine lv_iload_n hx hb dX5_reliability_43 rfl (lv_at hl 0 rfl) ?_
      refine lv_i2d hx hb dX5_reliability_44 ?_
      refine lv_iload_n hx hb dX5_reliability_45 rfl (lv_at hl 1 rfl) ?_
      refine lv_i2d hx hb dX5_reliability_46 ?_
      obtain ⟨v12, ev12, hf⟩ := xb hf
      refine xr_ddiv hx hb ev12 dX5_reliability_47 ?_
      obtain rfl := Option.some.inj hf
      subst hQ
      exact xe_d hx hb hr hlocks hKK hP hS dX5_reliability_48
    clear hf
    refine xloop_ind (P := fun z => ∀ (H : Heap) (locs : List Loc) (ls : Array Slot), xP B0 G h H → va_S (xA B0) s.heap H locs → lv_has ls 4 [(2, .int z.1), (3, .int z.2), (1, .int v2), (0, .ref a0)] → W p l e rmX5_reliability s m args below meth c H locs 0 0 Q (F0 m 18 ls [])) ?_ eL _ _ _ hP hS (lv_sub hl [1, 0, 2, 3] rfl)
    rintro ⟨v3, v4⟩ o hf IH EX H locs ls hP hS hl
    have hf := xf2_e hf
    have hl : lv_has ls 4 [(2, .int v3), (3, .int v4), (1, .int v2), (0, .ref a0)] := hl
    refine lv_iload_n hx hb dX5_reliability_18 rfl (lv_at hl 1 rfl) ?_
    refine lv_iload_n hx hb dX5_reliability_19 rfl (lv_at hl 2 rfl) ?_
    refine lv_icmp_ge (tgt := 43) hx hb dX5_reliability_20 (by decide) (fun c2 => ?_) (fun c2 => ?_)
    · have hf := xif_t hf c2
      have hf := EX _ (Option.some.inj hf).symm
      obtain rfl := hf
      exact J1 _ _ _ hP hS (lv_sub hl [0, 2] rfl)
    · have hf := xif_f hf c2
      refine lv_aload_n hx hb dX5_reliability_23 rfl (lv_at hl 3 rfl) ?_
      obtain ⟨v6, ev6, hf⟩ := xb hf
      refine xr_getR hx hb hts inX5 hown hKK hP ev6 rfl (by decide) w1 (fun _ h9 => h9) dX5_reliability_24 ?_
      refine lv_iload_n hx hb dX5_reliability_27 rfl (lv_at hl 1 rfl) ?_
      obtain ⟨v7, ev7, hf⟩ := xb hf
      obtain ⟨v8, ev8, hf⟩ := xb1 hf
      refine xc_Vi (rest := []) ⟨hx, hb, hml, hown, hts⟩ (m_X2_isShort l B0 G h v6 v4 v8 ev8) (cwV 1 hts gX5_reliability_X2_isShort rfl rfl rfl (by decide +kernel) ⟨Nat.le_of_ble_eq_true rfl, Nat.le_of_ble_eq_true rfl⟩) hKK hP hS ev7 rfl rfl hl.1 rfl (Nat.le_of_ble_eq_true rfl) dX5_reliability_28 ⟨Nat.zero_le _, Nat.zero_le _⟩ (fun H locs hP hS => ?_)
      obtain ⟨v9, ej2, hf⟩ := xb1 hf
      have J2 : ∀ (H : Heap) (locs : List Loc) (ls : Array Slot), xP B0 G h H → va_S (xA B0) s.heap H locs → lv_has ls 4 [(2, .int v9), (3, .int v4), (1, .int v2), (0, .ref a0)] → W p l e rmX5_reliability s m args below meth c H locs 0 0 Q (F0 m 37 ls []) := by
        intro H locs ls hP hS hl
        clear ej2
        obtain ⟨v11, ev11, hf⟩ := xl hf
        refine lv_iinc (v := v11) (lv' := [(3, .int v11), (2, .int v9), (1, .int v2), (0, .ref a0)]) hx hb dX5_reliability_37 hl (k := 1) rfl (by rw [ev11]; rfl) (by decide) rfl (fun ls hl => ?_)
        refine lv_goto (tgt := 18) hx hb dX5_reliability_40 (by decide) ?_
        exact IH _ (Option.some.inj hf).symm _ _ _ hP hS (lv_sub hl [1, 0, 2, 3] rfl)
      have hf := ej2
      clear ej2
      refine lv_if_ne (tgt := 37) hx hb dX5_reliability_31 (by decide) (fun c3 => ?_) (fun c3 => ?_)
      · have hf := xif_f hf c3
        obtain rfl := Option.some.inj hf
        exact J2 _ _ _ hP hS (lv_sub hl [0, 1, 2, 3] rfl)
      · have hf := xif_t hf c3
        obtain ⟨v10, ev10, hf⟩ := xl hf
        refine lv_iinc (v := v10) (lv' := [(2, .int v10), (3, .int v4), (1, .int v2), (0, .ref a0)]) hx hb dX5_reliability_34 hl (k := 0) rfl (by rw [ev10]; rfl) (by decide) rfl (fun ls hl => ?_)
        obtain rfl := Option.some.inj hf
        exact J2 _ _ _ hP hS (lv_sub hl [0, 1, 2, 3] rfl)
  · have hf := xif_t hf c1
    refine lv_dconst1 hx hb dX5_reliability_12 ?_
    obtain rfl := Option.some.inj hf
    subst hQ
    exact xe_d hx hb hr hlocks hKK hP hS dX5_reliability_13
/-- RainReservoir.longestShortage -/
def f_X5_longestShortage (fu : Nat) (h : XH) (a0 : Nat) : Option (Int32) :=
  obind1 (xloop (xf3 fun (v1 : Int32) (v2 : Int32) (v3 : Int32) =>
    (xgR h a0 5 0).bind fun v5 =>
    (xgI h v5 2 11).bind fun v6 =>
    if v6 ≤ v3 then
      some (.inr v1)
    else
      (xgR h a0 5 0).bind fun v7 =>
      (xis h v7 2).bind fun v8 =>
      obind1 (f_X2_isShort h v7 v3) fun v9 =>
      obind1 (
        if v9 = (0 : Int32) then
          some (0 : Int32)
        else
          some (v2 + (1 : Int32))
      ) fun v10 =>
      olet ((xmax v1 v10)) fun v11 =>
      olet (v3 + (1 : Int32)) fun v12 =>
      some (.inl (v11, v10, v12))
  ) fu ((0 : Int32), (0 : Int32), (0 : Int32))) fun v4 =>
  some (v4)
abbrev rmX5_longestShortage : Room := { frames := 2, cells := 0, slots := 0, locals := 43 }
set_option maxHeartbeats 4000000 in
set_option maxRecDepth 100000 in
theorem m_X5_longestShortage (l : Launch) (B0 : Nat) (G : XG) (fu : Nat) (h : XH) (a0 : Nat) (rE : Int32) (hf : f_X5_longestShortage fu h a0 = some rE) : Met l yX5_longestShortage wsX5_longestShortage rmX5_longestShortage (va_Pc [.ref a0] (xU B0 G h)) (xQi B0 G h rE) 0 0 (xA B0) := by
  refine xMet (cc := cX5_longestShortage) (maxL := 4) (by decide) rfl (Nat.le_of_ble_eq_true rfl) ?_
  intro p e s m args below meth c ls hx hb hr hml hown hlocks hnm hts hKK hP hl
  have hown : s.vm.findClass RX5 = some m.cls := hown
  have hl : lv_has ls 4 [(0, .ref a0)] := hl
  have hS : va_S (xA B0) s.heap s.heap [] := va_S.rf
  have inX2 : ∀ w ∈ wsX20, w ∈ wsX5_longestShortage := by decide +kernel
  have inX5 : ∀ w ∈ wsX50, w ∈ wsX5_longestShortage := by decide +kernel
  have w1 := hts (.fieldLink RX5 10 "RainReservoir" "now" "LRainReservoir$State;") (by decide +kernel)
  have w2 := hts (.fieldLink RX5 143 "RainReservoir$State" "doneCount" "I") (by decide +kernel)
  have w3 := hts (.methodLink RX5 165 Lib.Math.max.name) (by decide +kernel)
  have w4 := hts (.static Lib.Math.max.name) (by decide +kernel)
  have w5 := hts (.initialized "java/lang/Math") (by decide +kernel)
  have w6 := hts (.code Lib.Math.max.name Lib.Math.max.code 2 (some .int)) (by decide +kernel)
  generalize hQ : MQ below (xQi B0 G h rE) args s 0 0 (xA B0) = Q
  unfold f_X5_longestShortage at hf
  refine lv_iconst (v := (0 : Int32)) hx hb dX5_longestShortage_0 (by decide) ?_
  refine lv_istore_n (lv' := [(1, .int (0 : Int32)), (0, .ref a0)]) hx hb dX5_longestShortage_1 rfl hl (by decide) rfl (fun ls hl => ?_)
  refine lv_iconst (v := (0 : Int32)) hx hb dX5_longestShortage_2 (by decide) ?_
  refine lv_istore_n (lv' := [(2, .int (0 : Int32)), (1, .int (0 : Int32)), (0, .ref a0)]) hx hb dX5_longestShortage_3 rfl hl (by decide) rfl (fun ls hl => ?_)
  refine lv_iconst (v := (0 : Int32)) hx hb dX5_longestShortage_4 (by decide) ?_
  refine lv_istore_n (lv' := [(3, .int (0 : Int32)), (2, .int (0 : Int32)), (1, .int (0 : Int32)), (0, .ref a0)]) hx hb dX5_longestShortage_5 rfl hl (by decide) rfl (fun ls hl => ?_)
  obtain ⟨v4, eL, hf⟩ := xb1 hf
  have J1 : ∀ (H : Heap) (locs : List Loc) (ls : Array Slot), xP B0 G h H → va_S (xA B0) s.heap H locs → lv_has ls 4 [(1, .int v4)] → W p l e rmX5_longestShortage s m args below meth c H locs 0 0 Q (F0 m 48 ls []) := by
    intro H locs ls hP hS hl
    clear eL
    refine lv_iload_n hx hb dX5_longestShortage_48 rfl (lv_at hl 0 rfl) ?_
    obtain rfl := Option.some.inj hf
    subst hQ
    exact xe_i hx hb hr hlocks hKK hP hS dX5_longestShortage_49
  clear hf
  refine xloop_ind (P := fun z => ∀ (H : Heap) (locs : List Loc) (ls : Array Slot), xP B0 G h H → va_S (xA B0) s.heap H locs → lv_has ls 4 [(1, .int z.1), (2, .int z.2.1), (3, .int z.2.2), (0, .ref a0)] → W p l e rmX5_longestShortage s m args below meth c H locs 0 0 Q (F0 m 6 ls [])) ?_ eL _ _ _ hP hS (lv_sub hl [2, 1, 0, 3] rfl)
  rintro ⟨v1, v2, v3⟩ o hf IH EX H locs ls hP hS hl
  have hf := xf3_e hf
  have hl : lv_has ls 4 [(1, .int v1), (2, .int v2), (3, .int v3), (0, .ref a0)] := hl
  refine lv_iload_n hx hb dX5_longestShortage_6 rfl (lv_at hl 2 rfl) ?_
  refine lv_aload_n hx hb dX5_longestShortage_7 rfl (lv_at hl 3 rfl) ?_
  obtain ⟨v5, ev5, hf⟩ := xb hf
  refine xr_getR hx hb hts inX5 hown hKK hP ev5 rfl (by decide) w1 (fun _ h9 => h9) dX5_longestShortage_8 ?_
  obtain ⟨v6, ev6, hf⟩ := xb hf
  refine xr_getI hx hb hts inX2 hown hKK hP ev6 rfl (by decide) w2 (fun _ h9 => h9) dX5_longestShortage_11 ?_
  refine lv_icmp_ge (tgt := 48) hx hb dX5_longestShortage_14 (by decide) (fun c1 => ?_) (fun c1 => ?_)
  · have hf := xif_t hf c1
    have hf := EX _ (Option.some.inj hf).symm
    obtain rfl := hf
    exact J1 _ _ _ hP hS (lv_sub hl [0] rfl)
  · have hf := xif_f hf c1
    refine lv_aload_n hx hb dX5_longestShortage_17 rfl (lv_at hl 3 rfl) ?_
    obtain ⟨v7, ev7, hf⟩ := xb hf
    refine xr_getR hx hb hts inX5 hown hKK hP ev7 rfl (by decide) w1 (fun _ h9 => h9) dX5_longestShortage_18 ?_
    refine lv_iload_n hx hb dX5_longestShortage_21 rfl (lv_at hl 2 rfl) ?_
    obtain ⟨v8, ev8, hf⟩ := xb hf
    obtain ⟨v9, ev9, hf⟩ := xb1 hf
    refine xc_Vi (rest := []) ⟨hx, hb, hml, hown, hts⟩ (m_X2_isShort l B0 G h v7 v3 v9 ev9) (cwV 1 hts gX5_longestShortage_X2_isShort rfl rfl rfl (by decide +kernel) ⟨Nat.le_of_ble_eq_true rfl, Nat.le_of_ble_eq_true rfl⟩) hKK hP hS ev8 rfl rfl hl.1 rfl (Nat.le_of_ble_eq_true rfl) dX5_longestShortage_22 ⟨Nat.zero_le _, Nat.zero_le _⟩ (fun H locs hP hS => ?_)
    obtain ⟨v10, ej2, hf⟩ := xb1 hf
    have J2 : ∀ (H : Heap) (locs : List Loc) (ls : Array Slot), xP B0 G h H → va_S (xA B0) s.heap H locs → lv_has ls 4 [(1, .int v1), (3, .int v3), (0, .ref a0)] → W p l e rmX5_longestShortage s m args below meth c H locs 0 0 Q (F0 m 35 ls [.int v10]) := by
      intro H locs ls hP hS hl
      clear ej2
      refine lv_istore_n (lv' := [(2, .int v10), (1, .int v1), (3, .int v3), (0, .ref a0)]) hx hb dX5_longestShortage_35 rfl hl (by decide) rfl (fun ls hl => ?_)
      refine lv_iload_n hx hb dX5_longestShortage_36 rfl (lv_at hl 1 rfl) ?_
      refine lv_iload_n hx hb dX5_longestShortage_37 rfl (lv_at hl 0 rfl) ?_
      refine xr_mmax hx hb (hml.trans hl.1.symm) hown w3 w4 w5 w6 ⟨Nat.le_of_ble_eq_true rfl, Nat.le_of_ble_eq_true rfl⟩ (Nat.le_of_ble_eq_true rfl) ⟨Nat.zero_le _, Nat.zero_le _⟩ dX5_longestShortage_38 ?_
      obtain ⟨v11, ev11, hf⟩ := xl hf
      refine xtopi ev11 ?_
      refine lv_istore_n (lv' := [(1, .int v11), (2, .int v10), (3, .int v3), (0, .ref a0)]) hx hb dX5_longestShortage_41 rfl hl (by decide) rfl (fun ls hl => ?_)
      obtain ⟨v12, ev12, hf⟩ := xl hf
      refine lv_iinc (v := v12) (lv' := [(3, .int v12), (1, .int v11), (2, .int v10), (0, .ref a0)]) hx hb dX5_longestShortage_42 hl (k := 2) rfl (by rw [ev12]; rfl) (by decide) rfl (fun ls hl => ?_)
      refine lv_goto (tgt := 6) hx hb dX5_longestShortage_45 (by decide) ?_
      exact IH _ (Option.some.inj hf).symm _ _ _ hP hS (lv_sub hl [1, 2, 0, 3] rfl)
    have hf := ej2
    clear ej2
    refine lv_if_eq (tgt := 34) hx hb dX5_longestShortage_25 (by decide) (fun c2 => ?_) (fun c2 => ?_)
    · have hf := xif_t hf c2
      refine lv_iconst (v := (0 : Int32)) hx hb dX5_longestShortage_34 (by decide) ?_
      obtain rfl := Option.some.inj hf
      exact J2 _ _ _ hP hS (lv_sub hl [0, 2, 3] rfl)
    · have hf := xif_f hf c2
      refine lv_iload_n hx hb dX5_longestShortage_28 rfl (lv_at hl 1 rfl) ?_
      refine lv_iconst (v := (1 : Int32)) hx hb dX5_longestShortage_29 (by decide) ?_
      refine lv_iadd hx hb dX5_longestShortage_30 ?_
      refine lv_goto (tgt := 35) hx hb dX5_longestShortage_31 (by decide) ?_
      obtain rfl := Option.some.inj hf
      exact J2 _ _ _ hP hS (lv_sub hl [0, 2, 3] rfl)
/-- RainReservoir.prepareTrial -/
def f_X5_prepareTrial (fu : Nat) (h : XH) (a0 : Nat) : Option (XH) :=
  (xgR h a0 5 1).bind fun v1 =>
  (xgR h a0 5 0).bind fun v2 =>
  (xis h v1 2).bind fun v3 =>
  obind1 (f_X2_copyFrom fu h v1 v2) fun h1 =>
  (xgR h1 a0 5 1).bind fun v4 =>
  (xis h1 v4 2).bind fun v5 =>
  obind1 (f_X2_goBack fu h1 v4) fun h2 =>
  obind1 (xloop (xf2 fun (v6 : Int32) (h3 : XH) =>
    (xgR h3 a0 5 1).bind fun v7 =>
    (xgI h3 v7 2 10).bind fun v8 =>
    if v8 ≤ v6 then
      some (.inr h3)
    else
      (xgR h3 a0 5 1).bind fun v9 =>
      (xis h3 v9 2).bind fun v10 =>
      obind1 (f_X2_collect fu h3 v9 v6) fun h5 =>
      olet (v6 + (1 : Int32)) fun v11 =>
      some (.inl (v11, h5))
  ) fu ((0 : Int32), h2)) fun h4 =>
  some (h4)
abbrev rmX5_prepareTrial : Room := { frames := 5, cells := 0, slots := 0, locals := 107 }
set_option maxHeartbeats 4000000 in
set_option maxRecDepth 100000 in
theorem m_X5_prepareTrial (l : Launch) (B0 : Nat) (G : XG) (fu : Nat) (h hE : XH) (a0 : Nat) (hf : f_X5_prepareTrial fu h a0 = some hE) : Met l yX5_prepareTrial wsX5_prepareTrial rmX5_prepareTrial (va_Pc [.ref a0] (xU B0 G h)) (xQv B0 G hE) 0 0 (xA B0) := by
  refine xMet (cc := cX5_prepareTrial) (maxL := 2) (by decide) rfl (Nat.le_of_ble_eq_true rfl) ?_
  intro p e s m args below meth c ls hx hb hr hml hown hlocks hnm hts hKK hP hl
  have hown : s.vm.findClass RX5 = some m.cls := hown
  have hl : lv_has ls 2 [(0, .ref a0)] := hl
  have hS : va_S (xA B0) s.heap s.heap [] := va_S.rf
  have inX2 : ∀ w ∈ wsX20, w ∈ wsX5_prepareTrial := by decide +kernel
  have inX5 : ∀ w ∈ wsX50, w ∈ wsX5_prepareTrial := by decide +kernel
  have w1 := hts (.fieldLink RX5 16 "RainReservoir" "trial" "LRainReservoir$State;") (by decide +kernel)
  have w2 := hts (.fieldLink RX5 10 "RainReservoir" "now" "LRainReservoir$State;") (by decide +kernel)
  have w3 := hts (.fieldLink RX5 127 "RainReservoir$State" "rainCount" "I") (by decide +kernel)
  generalize hQ : MQ below (xQv B0 G hE) args s 0 0 (xA B0) = Q
  unfold f_X5_prepareTrial at hf
  refine lv_aload_n hx hb dX5_prepareTrial_0 rfl (lv_at hl 0 rfl) ?_
  obtain ⟨v1, ev1, hf⟩ := xb hf
  refine xr_getR hx hb hts inX5 hown hKK hP ev1 rfl (by decide) w1 (fun _ h9 => h9) dX5_prepareTrial_1 ?_
  refine lv_aload_n hx hb dX5_prepareTrial_4 rfl (lv_at hl 0 rfl) ?_
  obtain ⟨v2, ev2, hf⟩ := xb hf
  refine xr_getR hx hb hts inX5 hown hKK hP ev2 rfl (by decide) w2 (fun _ h9 => h9) dX5_prepareTrial_5 ?_
  obtain ⟨v3, ev3, hf⟩ := xb hf
  obtain ⟨h1, eh1, hf⟩ := xb1 hf
  refine xc_Vv (rest := []) ⟨hx, hb, hml, hown, hts⟩ (m_X2_copyFrom l B0 G fu h h1 v1 v2 eh1) (cwV 1 hts gX5_prepareTrial_X2_copyFrom rfl rfl rfl (by decide +kernel) ⟨Nat.le_of_ble_eq_true rfl, Nat.le_of_ble_eq_true rfl⟩) hKK hP hS ev3 rfl rfl hl.1 rfl (Nat.le_of_ble_eq_true rfl) dX5_prepareTrial_8 ⟨Nat.zero_le _, Nat.zero_le _⟩ (fun H locs hP hS => ?_)
  refine lv_aload_n hx hb dX5_prepareTrial_11 rfl (lv_at hl 0 rfl) ?_
  obtain ⟨v4, ev4, hf⟩ := xb hf
  refine xr_getR hx hb hts inX5 hown hKK hP ev4 rfl (by decide) w1 (fun _ h9 => h9) dX5_prepareTrial_12 ?_
  obtain ⟨v5, ev5, hf⟩ := xb hf
  obtain ⟨h2, eh2, hf⟩ := xb1 hf
  refine xc_Vv (rest := []) ⟨hx, hb, hml, hown, hts⟩ (m_X2_goBack l B0 G fu h1 h2 v4 eh2) (cwV 0 hts gX5_prepareTrial_X2_goBack rfl rfl rfl (by decide +kernel) ⟨Nat.le_of_ble_eq_true rfl, Nat.le_of_ble_eq_true rfl⟩) hKK hP hS ev5 rfl rfl hl.1 rfl (Nat.le_of_ble_eq_true rfl) dX5_prepareTrial_15 ⟨Nat.zero_le _, Nat.zero_le _⟩ (fun H locs hP hS => ?_)
  refine lv_iconst (v := (0 : Int32)) hx hb dX5_prepareTrial_18 (by decide) ?_
  refine lv_istore_n (lv' := [(1, .int (0 : Int32)), (0, .ref a0)]) hx hb dX5_prepareTrial_19 rfl hl (by decide) rfl (fun ls hl => ?_)
  obtain ⟨h4, eL, hf⟩ := xb1 hf
  have J1 : ∀ (H : Heap) (locs : List Loc) (ls : Array Slot), xP B0 G h4 H → va_S (xA B0) s.heap H locs → lv_has ls 2 [] → W p l e rmX5_prepareTrial s m args below meth c H locs 0 0 Q (F0 m 45 ls []) := by
    intro H locs ls hP hS hl
    clear eL
    obtain rfl := Option.some.inj hf
    subst hQ
    exact xe_v hx hb hr hlocks hKK hP hS dX5_prepareTrial_45
  clear hf
  refine xloop_ind (P := fun z => ∀ (H : Heap) (locs : List Loc) (ls : Array Slot), xP B0 G z.2 H → va_S (xA B0) s.heap H locs → lv_has ls 2 [(1, .int z.1), (0, .ref a0)] → W p l e rmX5_prepareTrial s m args below meth c H locs 0 0 Q (F0 m 20 ls [])) ?_ eL _ _ _ hP hS (lv_sub hl [0, 1] rfl)
  rintro ⟨v6, h3⟩ o hf IH EX H locs ls hP hS hl
  have hf := xf2_e hf
  have hP : xP B0 G h3 H := hP
  have hl : lv_has ls 2 [(1, .int v6), (0, .ref a0)] := hl
  refine lv_iload_n hx hb dX5_prepareTrial_20 rfl (lv_at hl 0 rfl) ?_
  refine lv_aload_n hx hb dX5_prepareTrial_21 rfl (lv_at hl 1 rfl) ?_
  obtain ⟨v7, ev7, hf⟩ := xb hf
  refine xr_getR hx hb hts inX5 hown hKK hP ev7 rfl (by decide) w1 (fun _ h9 => h9) dX5_prepareTrial_22 ?_
  obtain ⟨v8, ev8, hf⟩ := xb hf
  refine xr_getI hx hb hts inX2 hown hKK hP ev8 rfl (by decide) w3 (fun _ h9 => h9) dX5_prepareTrial_25 ?_
  refine lv_icmp_ge (tgt := 45) hx hb dX5_prepareTrial_28 (by decide) (fun c1 => ?_) (fun c1 => ?_)
  · have hf := xif_t hf c1
    have hf := EX _ (Option.some.inj hf).symm
    obtain rfl := hf
    exact J1 _ _ _ hP hS (lv_sub hl [] rfl)
  · have hf := xif_f hf c1
    refine lv_aload_n hx hb dX5_prepareTrial_31 rfl (lv_at hl 1 rfl) ?_
    obtain ⟨v9, ev9, hf⟩ := xb hf
    refine xr_getR hx hb hts inX5 hown hKK hP ev9 rfl (by decide) w1 (fun _ h9 => h9) dX5_prepareTrial_32 ?_
    refine lv_iload_n hx hb dX5_prepareTrial_35 rfl (lv_at hl 0 rfl) ?_
    obtain ⟨v10, ev10, hf⟩ := xb hf
    obtain ⟨h5, eh5, hf⟩ := xb1 hf
    refine xc_Vv (rest := []) ⟨hx, hb, hml, hown, hts⟩ (m_X2_collect l B0 G fu h3 h5 v9 v6 eh5) (cwV 1 hts gX5_prepareTrial_X2_collect rfl rfl rfl (by decide +kernel) ⟨Nat.le_of_ble_eq_true rfl, Nat.le_of_ble_eq_true rfl⟩) hKK hP hS ev10 rfl rfl hl.1 rfl (Nat.le_of_ble_eq_true rfl) dX5_prepareTrial_36 ⟨Nat.zero_le _, Nat.zero_le _⟩ (fun H locs hP hS => ?_)
    obtain ⟨v11, ev11, hf⟩ := xl hf
    refine lv_iinc (v := v11) (lv' := [(1, .int v11), (0, .ref a0)]) hx hb dX5_prepareTrial_39 hl (k := 0) rfl (by rw [ev11]; rfl) (by decide) rfl (fun ls hl => ?_)
    refine lv_goto (tgt := 20) hx hb dX5_prepareTrial_42 (by decide) ?_
    exact IH _ (Option.some.inj hf).symm _ _ _ hP hS (lv_sub hl [0, 1] rfl)
/-- RainReservoir.setTrialCapacity -/
def f_X5_setTrialCapacity (h : XH) (a0 : Nat) (p0 : Int32) : Option (XH) :=
  (xgR h a0 5 1).bind fun v1 =>
  (xpV h v1 2 0 (.int p0)).bind fun h1 =>
  (xgR h1 a0 5 1).bind fun v2 =>
  (xgR h1 a0 5 0).bind fun v3 =>
  (xgI h1 v3 2 1).bind fun v4 =>
  (xpV h1 v2 2 1 (.int (xmin v4 p0))).bind fun h2 =>
  (xgR h2 a0 5 1).bind fun v5 =>
  (xgR h2 a0 5 0).bind fun v6 =>
  (xgI h2 v6 2 2).bind fun v7 =>
  (xpV h2 v5 2 2 (.int (xmin v7 p0))).bind fun h3 =>
  some (h3)
abbrev rmX5_setTrialCapacity : Room := { frames := 1, cells := 0, slots := 0, locals := 21 }
set_option maxHeartbeats 4000000 in
set_option maxRecDepth 100000 in
theorem m_X5_setTrialCapacity (l : Launch) (B0 : Nat) (G : XG) (h hE : XH) (a0 : Nat) (p0 : Int32) (hf : f_X5_setTrialCapacity h a0 p0 = some hE) : Met l yX5_setTrialCapacity wsX5_setTrialCapacity rmX5_setTrialCapacity (va_Pc [.ref a0, .int p0] (xU B0 G h)) (xQv B0 G hE) 0 0 (xA B0) := by
  refine xMet (cc := cX5_setTrialCapacity) (maxL := 2) (by decide) rfl (Nat.le_of_ble_eq_true rfl) ?_
  intro p e s m args below meth c ls hx hb hr hml hown hlocks hnm hts hKK hP hl
  have hown : s.vm.findClass RX5 = some m.cls := hown
  have hl : lv_has ls 2 [(0, .ref a0), (1, .int p0)] := hl
  have hS : va_S (xA B0) s.heap s.heap [] := va_S.rf
  have inX2 : ∀ w ∈ wsX20, w ∈ wsX5_setTrialCapacity := by decide +kernel
  have inX5 : ∀ w ∈ wsX50, w ∈ wsX5_setTrialCapacity := by decide +kernel
  have w1 := hts (.fieldLink RX5 16 "RainReservoir" "trial" "LRainReservoir$State;") (by decide +kernel)
  have w2 := hts (.fieldLink RX5 86 "RainReservoir$State" "capacity" "I") (by decide +kernel)
  have w3 := hts (.fieldLink RX5 10 "RainReservoir" "now" "LRainReservoir$State;") (by decide +kernel)
  have w4 := hts (.fieldLink RX5 89 "RainReservoir$State" "floor" "I") (by decide +kernel)
  have w5 := hts (.methodLink RX5 242 Lib.Math.min.name) (by decide +kernel)
  have w6 := hts (.static Lib.Math.min.name) (by decide +kernel)
  have w7 := hts (.initialized "java/lang/Math") (by decide +kernel)
  have w8 := hts (.code Lib.Math.min.name Lib.Math.min.code 2 (some .int)) (by decide +kernel)
  have w9 := hts (.fieldLink RX5 92 "RainReservoir$State" "topUp" "I") (by decide +kernel)
  generalize hQ : MQ below (xQv B0 G hE) args s 0 0 (xA B0) = Q
  unfold f_X5_setTrialCapacity at hf
  refine lv_aload_n hx hb dX5_setTrialCapacity_0 rfl (lv_at hl 0 rfl) ?_
  obtain ⟨v1, ev1, hf⟩ := xb hf
  refine xr_getR hx hb hts inX5 hown hKK hP ev1 rfl (by decide) w1 (fun _ h9 => h9) dX5_setTrialCapacity_1 ?_
  refine lv_iload_n hx hb dX5_setTrialCapacity_4 rfl (lv_at hl 1 rfl) ?_
  obtain ⟨h1, eh1, hf⟩ := xb hf
  refine xr_put hx hb hts inX2 tyX2 tyX2_ok nmX2 hown hKK hP hS eh1 rfl (by decide) w2 (fun _ h9 => h9) rfl (tyX2_ok 0 (by decide)) rfl rfl dX5_setTrialCapacity_5 (fun H locs hP _ hS => ?_)
  refine lv_aload_n hx hb dX5_setTrialCapacity_8 rfl (lv_at hl 0 rfl) ?_
  obtain ⟨v2, ev2, hf⟩ := xb hf
  refine xr_getR hx hb hts inX5 hown hKK hP ev2 rfl (by decide) w1 (fun _ h9 => h9) dX5_setTrialCapacity_9 ?_
  refine lv_aload_n hx hb dX5_setTrialCapacity_12 rfl (lv_at hl 0 rfl) ?_
  obtain ⟨v3, ev3, hf⟩ := xb hf
  refine xr_getR hx hb hts inX5 hown hKK hP ev3 rfl (by decide) w3 (fun _ h9 => h9) dX5_setTrialCapacity_13 ?_
  obtain ⟨v4, ev4, hf⟩ := xb hf
  refine xr_getI hx hb hts inX2 hown hKK hP ev4 rfl (by decide) w4 (fun _ h9 => h9) dX5_setTrialCapacity_16 ?_
  refine lv_iload_n hx hb dX5_setTrialCapacity_19 rfl (lv_at hl 1 rfl) ?_
  refine xr_mmin hx hb (hml.trans hl.1.symm) hown w5 w6 w7 w8 ⟨Nat.le_of_ble_eq_true rfl, Nat.le_of_ble_eq_true rfl⟩ (Nat.le_of_ble_eq_true rfl) ⟨Nat.zero_le _, Nat.zero_le _⟩ dX5_setTrialCapacity_20 ?_
  obtain ⟨h2, eh2, hf⟩ := xb hf
  refine xr_put hx hb hts inX2 tyX2 tyX2_ok nmX2 hown hKK hP hS eh2 rfl (by decide) w4 (fun _ h9 => h9) rfl (tyX2_ok 1 (by decide)) rfl rfl dX5_setTrialCapacity_23 (fun H locs hP _ hS => ?_)
  refine lv_aload_n hx hb dX5_setTrialCapacity_26 rfl (lv_at hl 0 rfl) ?_
  obtain ⟨v5, ev5, hf⟩ := xb hf
  refine xr_getR hx hb hts inX5 hown hKK hP ev5 rfl (by decide) w1 (fun _ h9 => h9) dX5_setTrialCapacity_27 ?_
  refine lv_aload_n hx hb dX5_setTrialCapacity_30 rfl (lv_at hl 0 rfl) ?_
  obtain ⟨v6, ev6, hf⟩ := xb hf
  refine xr_getR hx hb hts inX5 hown hKK hP ev6 rfl (by decide) w3 (fun _ h9 => h9) dX5_setTrialCapacity_31 ?_
  obtain ⟨v7, ev7, hf⟩ := xb hf
  refine xr_getI hx hb hts inX2 hown hKK hP ev7 rfl (by decide) w9 (fun _ h9 => h9) dX5_setTrialCapacity_34 ?_
  refine lv_iload_n hx hb dX5_setTrialCapacity_37 rfl (lv_at hl 1 rfl) ?_
  refine xr_mmin hx hb (hml.trans hl.1.symm) hown w5 w6 w7 w8 ⟨Nat.le_of_ble_eq_true rfl, Nat.le_of_ble_eq_true rfl⟩ (Nat.le_of_ble_eq_true rfl) ⟨Nat.zero_le _, Nat.zero_le _⟩ dX5_setTrialCapacity_38 ?_
  obtain ⟨h3, eh3, hf⟩ := xb hf
  refine xr_put hx hb hts inX2 tyX2 tyX2_ok nmX2 hown hKK hP hS eh3 rfl (by decide) w9 (fun _ h9 => h9) rfl (tyX2_ok 2 (by decide)) rfl rfl dX5_setTrialCapacity_41 (fun H locs hP _ hS => ?_)
  obtain rfl := Option.some.inj hf
  subst hQ
  exact xe_v hx hb hr hlocks hKK hP hS dX5_setTrialCapacity_44
/-- RainReservoir.bestRule -/
def f_X5_bestRule (fu : Nat) (h : XH) (a0 : Nat) : Option (Int32 × XH) :=
  (xis h a0 5).bind fun v1 =>
  obind1 (f_X5_prepareTrial fu h a0) fun h1 =>
  obind2 (xloop (xf4 fun (v2 : Int32) (v3 : Int32) (v4 : Int32) (h2 : XH) =>
    if (4 : Int32) ≤ v4 then
      some (.inr (v2, h2))
    else
      (xgR h2 a0 5 1).bind fun v6 =>
      (xpV h2 v6 2 5 (.int v4)).bind fun h4 =>
      (xgR h4 a0 5 1).bind fun v7 =>
      (xis h4 v7 2).bind fun v8 =>
      obind2 (f_X2_serveAll fu h4 v7 (100 : Int32)) fun v9 h5 =>
      (xgR h5 a0 5 1).bind fun v10 =>
      (xgR h5 v10 2 8).bind fun v11 =>
      (xgR h5 a0 5 1).bind fun v12 =>
      (xgI h5 v12 2 10).bind fun v13 =>
      (xis h5 v11 4).bind fun v14 =>
      obind1 (f_X4_greatestLack fu h5 v11 v13) fun v15 =>
      obind2 (
        oletk (
          some (v4, v15)
        ) fun k3 =>
        if v4 = (0 : Int32) then
          k3
        else
          if v3 ≤ v15 then
            some (v2, v3)
          else
            k3
      ) fun v16 v17 =>
      olet (v4 + (1 : Int32)) fun v18 =>
      some (.inl (v16, v17, v18, h5))
  ) fu ((0 : Int32), (0 : Int32), (0 : Int32), h1)) fun v5 h3 =>
  some ((v5, h3))
abbrev rmX5_bestRule : Room := { frames := 7, cells := 0, slots := 0, locals := 164 }
set_option maxHeartbeats 4000000 in
set_option maxRecDepth 100000 in
theorem m_X5_bestRule (l : Launch) (B0 : Nat) (G : XG) (fu : Nat) (h hE : XH) (a0 : Nat) (rE : Int32) (hf : f_X5_bestRule fu h a0 = some (rE, hE)) : Met l yX5_bestRule wsX5_bestRule rmX5_bestRule (va_Pc [.ref a0] (xU B0 G h)) (xQi B0 G hE rE) 0 0 (xA B0) := by
  refine xMet (cc := cX5_bestRule) (maxL := 5) (by decide) rfl (Nat.le_of_ble_eq_true rfl) ?_
  intro p e s m args below meth c ls hx hb hr hml hown hlocks hnm hts hKK hP hl
  have hown : s.vm.findClass RX5 = some m.cls := hown
  have hl : lv_has ls 5 [(0, .ref a0)] := hl
  have hS : va_S (xA B0) s.heap s.heap [] := va_S.rf
  have inX2 : ∀ w ∈ wsX20, w ∈ wsX5_bestRule := by decide +kernel
  have inX5 : ∀ w ∈ wsX50, w ∈ wsX5_bestRule := by decide +kernel
  have w1 := hts (.fieldLink RX5 16 "RainReservoir" "trial" "LRainReservoir$State;") (by decide +kernel)
  have w2 := hts (.fieldLink RX5 103 "RainReservoir$State" "rule" "I") (by decide +kernel)
  have w3 := hts (.fieldLink RX5 59 "RainReservoir$State" "users" "LRainReservoir$Users;") (by decide +kernel)
  have w4 := hts (.fieldLink RX5 127 "RainReservoir$State" "rainCount" "I") (by decide +kernel)
  generalize hQ : MQ below (xQi B0 G hE rE) args s 0 0 (xA B0) = Q
  unfold f_X5_bestRule at hf
  refine lv_aload_n hx hb dX5_bestRule_0 rfl (lv_at hl 0 rfl) ?_
  obtain ⟨v1, ev1, hf⟩ := xb hf
  obtain ⟨h1, eh1, hf⟩ := xb1 hf
  refine xc_Vv (rest := []) ⟨hx, hb, hml, hown, hts⟩ (m_X5_prepareTrial l B0 G fu h h1 a0 eh1) (cwV 0 hts gX5_bestRule_X5_prepareTrial rfl rfl rfl (by decide +kernel) ⟨Nat.le_of_ble_eq_true rfl, Nat.le_of_ble_eq_true rfl⟩) hKK hP hS ev1 rfl rfl hl.1 rfl (Nat.le_of_ble_eq_true rfl) dX5_bestRule_1 ⟨Nat.zero_le _, Nat.zero_le _⟩ (fun H locs hP hS => ?_)
  refine lv_iconst (v := (0 : Int32)) hx hb dX5_bestRule_4 (by decide) ?_
  refine lv_istore_n (lv' := [(1, .int (0 : Int32)), (0, .ref a0)]) hx hb dX5_bestRule_5 rfl hl (by decide) rfl (fun ls hl => ?_)
  refine lv_iconst (v := (0 : Int32)) hx hb dX5_bestRule_6 (by decide) ?_
  refine lv_istore_n (lv' := [(2, .int (0 : Int32)), (1, .int (0 : Int32)), (0, .ref a0)]) hx hb dX5_bestRule_7 rfl hl (by decide) rfl (fun ls hl => ?_)
  refine lv_iconst (v := (0 : Int32)) hx hb dX5_bestRule_8 (by decide) ?_
  refine lv_istore_n (lv' := [(3, .int (0 : Int32)), (2, .int (0 : Int32)), (1, .int (0 : Int32)), (0, .ref a0)]) hx hb dX5_bestRule_9 rfl hl (by decide) rfl (fun ls hl => ?_)
  obtain ⟨v5, h3, eL, hf⟩ := xb2 hf
  have J1 : ∀ (H : Heap) (locs : List Loc) (ls : Array Slot), xP B0 G h3 H → va_S (xA B0) s.heap H locs → lv_has ls 5 [(1, .int v5)] → W p l e rmX5_bestRule s m args below meth c H locs 0 0 Q (F0 m 73 ls []) := by
    intro H locs ls hP hS hl
    clear eL
    refine lv_iload_n hx hb dX5_bestRule_73 rfl (lv_at hl 0 rfl) ?_
    obtain ⟨rfl, rfl⟩ := xinj2 hf
    subst hQ
    exact xe_i hx hb hr hlocks hKK hP hS dX5_bestRule_74
  clear hf
  refine xloop_ind (P := fun z => ∀ (H : Heap) (locs : List Loc) (ls : Array Slot), xP B0 G z.2.2.2 H → va_S (xA B0) s.heap H locs → lv_has ls 5 [(1, .int z.1), (2, .int z.2.1), (3, .int z.2.2.1), (0, .ref a0)] → W p l e rmX5_bestRule s m args below meth c H locs 0 0 Q (F0 m 10 ls [])) ?_ eL _ _ _ hP hS (lv_sub hl [2, 1, 0, 3] rfl)
  rintro ⟨v2, v3, v4, h2⟩ o hf IH EX H locs ls hP hS hl
  have hf := xf4_e hf
  have hP : xP B0 G h2 H := hP
  have hl : lv_has ls 5 [(1, .int v2), (2, .int v3), (3, .int v4), (0, .ref a0)] := hl
  refine lv_iload_n hx hb dX5_bestRule_10 rfl (lv_at hl 2 rfl) ?_
  refine lv_iconst (v := (4 : Int32)) hx hb dX5_bestRule_11 (by decide) ?_
  refine lv_icmp_ge (tgt := 73) hx hb dX5_bestRule_12 (by decide) (fun c1 => ?_) (fun c1 => ?_)
  · have hf := xif_t hf c1
    have hf := EX _ (Option.some.inj hf).symm
    obtain ⟨rfl, rfl⟩ := xpair2 hf
    exact J1 _ _ _ hP hS (lv_sub hl [0] rfl)
  · have hf := xif_f hf c1
    refine lv_aload_n hx hb dX5_bestRule_15 rfl (lv_at hl 3 rfl) ?_
    obtain ⟨v6, ev6, hf⟩ := xb hf
    refine xr_getR hx hb hts inX5 hown hKK hP ev6 rfl (by decide) w1 (fun _ h9 => h9) dX5_bestRule_16 ?_
    refine lv_iload_n hx hb dX5_bestRule_19 rfl (lv_at hl 2 rfl) ?_
    obtain ⟨h4, eh4, hf⟩ := xb hf
    refine xr_put hx hb hts inX2 tyX2 tyX2_ok nmX2 hown hKK hP hS eh4 rfl (by decide) w2 (fun _ h9 => h9) rfl (tyX2_ok 5 (by decide)) rfl rfl dX5_bestRule_20 (fun H locs hP _ hS => ?_)
    refine lv_aload_n hx hb dX5_bestRule_23 rfl (lv_at hl 3 rfl) ?_
    obtain ⟨v7, ev7, hf⟩ := xb hf
    refine xr_getR hx hb hts inX5 hown hKK hP ev7 rfl (by decide) w1 (fun _ h9 => h9) dX5_bestRule_24 ?_
    refine lv_bipush (v := (100 : Int32)) hx hb dX5_bestRule_27 (by decide) ?_
    obtain ⟨v8, ev8, hf⟩ := xb hf
    obtain ⟨v9, h5, ev9, hf⟩ := xb2 hf
    refine xc_Vi (rest := []) ⟨hx, hb, hml, hown, hts⟩ (m_X2_serveAll l B0 G fu h4 h5 v7 (100 : Int32) v9 ev9) (cwV 1 hts gX5_bestRule_X2_serveAll rfl rfl rfl (by decide +kernel) ⟨Nat.le_of_ble_eq_true rfl, Nat.le_of_ble_eq_true rfl⟩) hKK hP hS ev8 rfl rfl hl.1 rfl (Nat.le_of_ble_eq_true rfl) dX5_bestRule_29 ⟨Nat.zero_le _, Nat.zero_le _⟩ (fun H locs hP hS => ?_)
    refine lv_pop hx hb dX5_bestRule_32 rfl ?_
    refine lv_aload_n hx hb dX5_bestRule_33 rfl (lv_at hl 3 rfl) ?_
    obtain ⟨v10, ev10, hf⟩ := xb hf
    refine xr_getR hx hb hts inX5 hown hKK hP ev10 rfl (by decide) w1 (fun _ h9 => h9) dX5_bestRule_34 ?_
    obtain ⟨v11, ev11, hf⟩ := xb hf
    refine xr_getR hx hb hts inX2 hown hKK hP ev11 rfl (by decide) w3 (fun _ h9 => h9) dX5_bestRule_37 ?_
    refine lv_aload_n hx hb dX5_bestRule_40 rfl (lv_at hl 3 rfl) ?_
    obtain ⟨v12, ev12, hf⟩ := xb hf
    refine xr_getR hx hb hts inX5 hown hKK hP ev12 rfl (by decide) w1 (fun _ h9 => h9) dX5_bestRule_41 ?_
    obtain ⟨v13, ev13, hf⟩ := xb hf
    refine xr_getI hx hb hts inX2 hown hKK hP ev13 rfl (by decide) w4 (fun _ h9 => h9) dX5_bestRule_44 ?_
    obtain ⟨v14, ev14, hf⟩ := xb hf
    obtain ⟨v15, ev15, hf⟩ := xb1 hf
    refine xc_Vi (rest := []) ⟨hx, hb, hml, hown, hts⟩ (m_X4_greatestLack l B0 G fu h5 v11 v13 v15 ev15) (cwV 1 hts gX5_bestRule_X4_greatestLack rfl rfl rfl (by decide +kernel) ⟨Nat.le_of_ble_eq_true rfl, Nat.le_of_ble_eq_true rfl⟩) hKK hP hS ev14 rfl rfl hl.1 rfl (Nat.le_of_ble_eq_true rfl) dX5_bestRule_47 ⟨Nat.zero_le _, Nat.zero_le _⟩ (fun H locs hP hS => ?_)
    refine lv_istore (lv' := [(4, .int v15), (1, .int v2), (2, .int v3), (3, .int v4), (0, .ref a0)]) hx hb dX5_bestRule_50 hl (by decide) rfl (fun ls hl => ?_)
    refine lv_iload_n hx hb dX5_bestRule_52 rfl (lv_at hl 3 rfl) ?_
    obtain ⟨v16, v17, ej2, hf⟩ := xb2 hf
    have J2 : ∀ (H : Heap) (locs : List Loc) (ls : Array Slot), xP B0 G h5 H → va_S (xA B0) s.heap H locs → lv_has ls 5 [(1, .int v16), (2, .int v17), (3, .int v4), (0, .ref a0)] → W p l e rmX5_bestRule s m args below meth c H locs 0 0 Q (F0 m 67 ls []) := by
      intro H locs ls hP hS hl
      clear ej2
      obtain ⟨v18, ev18, hf⟩ := xl hf
      refine lv_iinc (v := v18) (lv' := [(3, .int v18), (1, .int v16), (2, .int v17), (0, .ref a0)]) hx hb dX5_bestRule_67 hl (k := 2) rfl (by rw [ev18]; rfl) (by decide) rfl (fun ls hl => ?_)
      refine lv_goto (tgt := 10) hx hb dX5_bestRule_70 (by decide) ?_
      exact IH _ (Option.some.inj hf).symm _ _ _ hP hS (lv_sub hl [1, 2, 0, 3] rfl)
    have hf := ej2
    clear ej2
    obtain ⟨k3, ek3, hf⟩ := xlk hf
    have J3 : k3 = some (v16, v17) → ∀ (H : Heap) (locs : List Loc) (ls : Array Slot), xP B0 G h5 H → va_S (xA B0) s.heap H locs → lv_has ls 5 [(4, .int v15), (3, .int v4), (0, .ref a0)] → W p l e rmX5_bestRule s m args below meth c H locs 0 0 Q (F0 m 62 ls []) := by
      intro  hf H locs ls hP hS hl
      have hf := xk0 ek3 hf
      clear ek3
      refine lv_iload_n hx hb dX5_bestRule_62 rfl (lv_at hl 1 rfl) ?_
      refine lv_istore_n (lv' := [(1, .int v4), (4, .int v15), (3, .int v4), (0, .ref a0)]) hx hb dX5_bestRule_63 rfl hl (by decide) rfl (fun ls hl => ?_)
      refine lv_iload hx hb dX5_bestRule_64 (lv_at hl 1 rfl) ?_
      refine lv_istore_n (lv' := [(2, .int v15), (1, .int v4), (4, .int v15), (3, .int v4), (0, .ref a0)]) hx hb dX5_bestRule_66 rfl hl (by decide) rfl (fun ls hl => ?_)
      obtain ⟨rfl, rfl⟩ := xinj2 hf
      exact J2 _ _ _ hP hS (lv_sub hl [1, 0, 3, 4] rfl)
    clear ek3
    refine lv_if_eq (tgt := 62) hx hb dX5_bestRule_53 (by decide) (fun c2 => ?_) (fun c2 => ?_)
    · have hf := xif_t hf c2
      exact J3  hf _ _ _ hP hS (lv_sub hl [0, 3, 4] rfl)
    · have hf := xif_f hf c2
      refine lv_iload hx hb dX5_bestRule_56 (lv_at hl 0 rfl) ?_
      refine lv_iload_n hx hb dX5_bestRule_58 rfl (lv_at hl 2 rfl) ?_
      refine lv_icmp_ge (tgt := 67) hx hb dX5_bestRule_59 (by decide) (fun c3 => ?_) (fun c3 => ?_)
      · have hf := xif_t hf c3
        obtain ⟨rfl, rfl⟩ := xinj2 hf
        exact J2 _ _ _ hP hS (lv_sub hl [1, 2, 3, 4] rfl)
      · have hf := xif_f hf c3
        exact J3  hf _ _ _ hP hS (lv_sub hl [0, 3, 4] rfl)
/-- RainReservoir.sustainable -/
def f_X5_sustainable (fu : Nat) (h : XH) (a0 : Nat) : Option (Int32 × XH) :=
  (xis h a0 5).bind fun v1 =>
  obind1 (f_X5_prepareTrial fu h a0) fun h1 =>
  oret1 (xloop (xf2 fun (v2 : Int32) (h2 : XH) =>
    if v2 < (5 : Int32) then
      some (.inr (.inl h2))
    else
      (xgR h2 a0 5 1).bind fun v3 =>
      (xgR h2 v3 2 8).bind fun v4 =>
      (xgR h2 a0 5 0).bind fun v5 =>
      (xgR h2 v5 2 8).bind fun v6 =>
      (xis h2 v4 4).bind fun v7 =>
      obind1 (f_X4_scaleDemands fu h2 v4 v6 v2) fun h4 =>
      (xgR h4 a0 5 1).bind fun v8 =>
      (xis h4 v8 2).bind fun v9 =>
      obind2 (f_X2_serveAll fu h4 v8 (0 : Int32)) fun v10 h5 =>
      if v10 = (0 : Int32) then
        some (.inr (.inr (v2, h5)))
      else
        olet (v2 + (-5 : Int32)) fun v11 =>
        some (.inl (v11, h5))
  ) fu ((300 : Int32), h1)) fun h3 =>
  some (((-1 : Int32), h3))
abbrev rmX5_sustainable : Room := { frames := 7, cells := 0, slots := 0, locals := 164 }
set_option maxHeartbeats 4000000 in
set_option maxRecDepth 100000 in
theorem m_X5_sustainable (l : Launch) (B0 : Nat) (G : XG) (fu : Nat) (h hE : XH) (a0 : Nat) (rE : Int32) (hf : f_X5_sustainable fu h a0 = some (rE, hE)) : Met l yX5_sustainable wsX5_sustainable rmX5_sustainable (va_Pc [.ref a0] (xU B0 G h)) (xQi B0 G hE rE) 0 0 (xA B0) := by
  refine xMet (cc := cX5_sustainable) (maxL := 2) (by decide) rfl (Nat.le_of_ble_eq_true rfl) ?_
  intro p e s m args below meth c ls hx hb hr hml hown hlocks hnm hts hKK hP hl
  have hown : s.vm.findClass RX5 = some m.cls := hown
  have hl : lv_has ls 2 [(0, .ref a0)] := hl
  have hS : va_S (xA B0) s.heap s.heap [] := va_S.rf
  have inX2 : ∀ w ∈ wsX20, w ∈ wsX5_sustainable := by decide +kernel
  have inX5 : ∀ w ∈ wsX50, w ∈ wsX5_sustainable := by decide +kernel
  have w1 := hts (.fieldLink RX5 16 "RainReservoir" "trial" "LRainReservoir$State;") (by decide +kernel)
  have w2 := hts (.fieldLink RX5 59 "RainReservoir$State" "users" "LRainReservoir$Users;") (by decide +kernel)
  have w3 := hts (.fieldLink RX5 10 "RainReservoir" "now" "LRainReservoir$State;") (by decide +kernel)
  generalize hQ : MQ below (xQi B0 G hE rE) args s 0 0 (xA B0) = Q
  unfold f_X5_sustainable at hf
  refine lv_aload_n hx hb dX5_sustainable_0 rfl (lv_at hl 0 rfl) ?_
  obtain ⟨v1, ev1, hf⟩ := xb hf
  obtain ⟨h1, eh1, hf⟩ := xb1 hf
  refine xc_Vv (rest := []) ⟨hx, hb, hml, hown, hts⟩ (m_X5_prepareTrial l B0 G fu h h1 a0 eh1) (cwV 0 hts gX5_sustainable_X5_prepareTrial rfl rfl rfl (by decide +kernel) ⟨Nat.le_of_ble_eq_true rfl, Nat.le_of_ble_eq_true rfl⟩) hKK hP hS ev1 rfl rfl hl.1 rfl (Nat.le_of_ble_eq_true rfl) dX5_sustainable_1 ⟨Nat.zero_le _, Nat.zero_le _⟩ (fun H locs hP hS => ?_)
  refine lv_sipush (v := (300 : Int32)) hx hb dX5_sustainable_4 (by decide) ?_
  refine lv_istore_n (lv' := [(1, .int (300 : Int32)), (0, .ref a0)]) hx hb dX5_sustainable_7 rfl hl (by decide) rfl (fun ls hl => ?_)
  obtain ⟨out, eL, hEL, hER⟩ := xr1 hf
  have J1 : ∀ (h3 : XH), out = .inl h3 → ∀ (H : Heap) (locs : List Loc) (ls : Array Slot), xP B0 G h3 H → va_S (xA B0) s.heap H locs → lv_has ls 2 [] → W p l e rmX5_sustainable s m args below meth c H locs 0 0 Q (F0 m 50 ls []) := by
    intro h3 hf H locs ls hP hS hl
    have hf := hEL _ hf
    refine lv_iconst (v := (-1 : Int32)) hx hb dX5_sustainable_50 (by decide) ?_
    obtain ⟨rfl, rfl⟩ := xinj2 hf
    subst hQ
    exact xe_i hx hb hr hlocks hKK hP hS dX5_sustainable_51
  refine xloop_ind (P := fun z => ∀ (H : Heap) (locs : List Loc) (ls : Array Slot), xP B0 G z.2 H → va_S (xA B0) s.heap H locs → lv_has ls 2 [(1, .int z.1), (0, .ref a0)] → W p l e rmX5_sustainable s m args below meth c H locs 0 0 Q (F0 m 8 ls [])) ?_ eL _ _ _ hP hS (lv_sub hl [0, 1] rfl)
  rintro ⟨v2, h2⟩ o hf IH EX H locs ls hP hS hl
  have EXL := fun r1 (e1 : o = .inr (.inl r1)) => (EX _ e1).symm
  have EXR := fun r1 (e1 : o = .inr (.inr r1)) => hER r1 (EX _ e1).symm
  have hf := xf2_e hf
  have hP : xP B0 G h2 H := hP
  have hl : lv_has ls 2 [(1, .int v2), (0, .ref a0)] := hl
  refine lv_iload_n hx hb dX5_sustainable_8 rfl (lv_at hl 0 rfl) ?_
  refine lv_iconst (v := (5 : Int32)) hx hb dX5_sustainable_9 (by decide) ?_
  refine lv_icmp_lt (tgt := 50) hx hb dX5_sustainable_10 (by decide) (fun c1 => ?_) (fun c1 => ?_)
  · have hf := xif_t hf c1
    have hf := EXL _ (Option.some.inj hf).symm
    exact J1 _ hf _ _ _ hP hS (lv_sub hl [] rfl)
  · have hf := xif_f hf c1
    refine lv_aload_n hx hb dX5_sustainable_13 rfl (lv_at hl 1 rfl) ?_
    obtain ⟨v3, ev3, hf⟩ := xb hf
    refine xr_getR hx hb hts inX5 hown hKK hP ev3 rfl (by decide) w1 (fun _ h9 => h9) dX5_sustainable_14 ?_
    obtain ⟨v4, ev4, hf⟩ := xb hf
    refine xr_getR hx hb hts inX2 hown hKK hP ev4 rfl (by decide) w2 (fun _ h9 => h9) dX5_sustainable_17 ?_
    refine lv_aload_n hx hb dX5_sustainable_20 rfl (lv_at hl 1 rfl) ?_
    obtain ⟨v5, ev5, hf⟩ := xb hf
    refine xr_getR hx hb hts inX5 hown hKK hP ev5 rfl (by decide) w3 (fun _ h9 => h9) dX5_sustainable_21 ?_
    obtain ⟨v6, ev6, hf⟩ := xb hf
    refine xr_getR hx hb hts inX2 hown hKK hP ev6 rfl (by decide) w2 (fun _ h9 => h9) dX5_sustainable_24 ?_
    refine lv_iload_n hx hb dX5_sustainable_27 rfl (lv_at hl 0 rfl) ?_
    obtain ⟨v7, ev7, hf⟩ := xb hf
    obtain ⟨h4, eh4, hf⟩ := xb1 hf
    refine xc_Vv (rest := []) ⟨hx, hb, hml, hown, hts⟩ (m_X4_scaleDemands l B0 G fu h2 h4 v4 v6 v2 eh4) (cwV 2 hts gX5_sustainable_X4_scaleDemands rfl rfl rfl (by decide +kernel) ⟨Nat.le_of_ble_eq_true rfl, Nat.le_of_ble_eq_true rfl⟩) hKK hP hS ev7 rfl rfl hl.1 rfl (Nat.le_of_ble_eq_true rfl) dX5_sustainable_28 ⟨Nat.zero_le _, Nat.zero_le _⟩ (fun H locs hP hS => ?_)
    refine lv_aload_n hx hb dX5_sustainable_31 rfl (lv_at hl 1 rfl) ?_
    obtain ⟨v8, ev8, hf⟩ := xb hf
    refine xr_getR hx hb hts inX5 hown hKK hP ev8 rfl (by decide) w1 (fun _ h9 => h9) dX5_sustainable_32 ?_
    refine lv_iconst (v := (0 : Int32)) hx hb dX5_sustainable_35 (by decide) ?_
    obtain ⟨v9, ev9, hf⟩ := xb hf
    obtain ⟨v10, h5, ev10, hf⟩ := xb2 hf
    refine xc_Vi (rest := []) ⟨hx, hb, hml, hown, hts⟩ (m_X2_serveAll l B0 G fu h4 h5 v8 (0 : Int32) v10 ev10) (cwV 1 hts gX5_sustainable_X2_serveAll rfl rfl rfl (by decide +kernel) ⟨Nat.le_of_ble_eq_true rfl, Nat.le_of_ble_eq_true rfl⟩) hKK hP hS ev9 rfl rfl hl.1 rfl (Nat.le_of_ble_eq_true rfl) dX5_sustainable_36 ⟨Nat.zero_le _, Nat.zero_le _⟩ (fun H locs hP hS => ?_)
    refine lv_if_ne (tgt := 44) hx hb dX5_sustainable_39 (by decide) (fun c2 => ?_) (fun c2 => ?_)
    · have hf := xif_f hf c2
      obtain ⟨v11, ev11, hf⟩ := xl hf
      refine lv_iinc (v := v11) (lv' := [(1, .int v11), (0, .ref a0)]) hx hb dX5_sustainable_44 hl (k := 0) rfl (by rw [ev11]; rfl) (by decide) rfl (fun ls hl => ?_)
      refine lv_goto (tgt := 8) hx hb dX5_sustainable_47 (by decide) ?_
      exact IH _ (Option.some.inj hf).symm _ _ _ hP hS (lv_sub hl [0, 1] rfl)
    · have hf := xif_t hf c2
      refine lv_iload_n hx hb dX5_sustainable_42 rfl (lv_at hl 0 rfl) ?_
      have hf := EXR _ (Option.some.inj hf).symm
      obtain ⟨rfl, rfl⟩ := xpair2 hf
      subst hQ
      exact xe_i hx hb hr hlocks hKK hP hS dX5_sustainable_43
