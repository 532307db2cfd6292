/-- RainReservoir$Roof.clearAmounts -/
def f_X1_clearAmounts (h : XH) (a0 : Nat) : Option (XH) :=
  (xpV h a0 1 4 (.int (0 : Int32))).bind fun h1 =>
  (xpV h1 a0 1 5 (.int (0 : Int32))).bind fun h2 =>
  some (h2)
abbrev rmX1_clearAmounts : Room := { frames := 0, cells := 0, slots := 0, locals := 0 }
set_option maxHeartbeats 4000000 in
set_option maxRecDepth 100000 in
theorem m_X1_clearAmounts (l : Launch) (B0 : Nat) (G : XG) (h hE : XH) (a0 : Nat) (hf : f_X1_clearAmounts h a0 = some hE) : Met l yX1_clearAmounts wsX1_clearAmounts rmX1_clearAmounts (va_Pc [.ref a0] (xU B0 G h)) (xQv B0 G hE) 0 0 (xA B0) := by
  refine xMet (cc := cX1_clearAmounts) (maxL := 1) (by decide) rfl (Nat.le_of_ble_eq_true rfl) ?_
  intro p e s m args below meth c ls hx hb hr hml hown hlocks hnm hts hKK hP hl
  have hown : s.vm.findClass RX1 = some m.cls := hown
  have hl : lv_has ls 1 [(0, .ref a0)] := hl
  have hS : va_S (xA B0) s.heap s.heap [] := va_S.rf
  have inX1 : ∀ w ∈ wsX10, w ∈ wsX1_clearAmounts := by decide +kernel
  have w1 := hts (.fieldLink RX1 29 "RainReservoir$Roof" "water" "I") (by decide +kernel)
  have w2 := hts (.fieldLink RX1 32 "RainReservoir$Roof" "spilledInAll" "I") (by decide +kernel)
  generalize hQ : MQ below (xQv B0 G hE) args s 0 0 (xA B0) = Q
  unfold f_X1_clearAmounts at hf
  refine lv_aload_n hx hb dX1_clearAmounts_0 rfl (lv_at hl 0 rfl) ?_
  refine lv_iconst (v := (0 : Int32)) hx hb dX1_clearAmounts_1 (by decide) ?_
  obtain ⟨h1, eh1, hf⟩ := xb hf
  refine xr_put hx hb hts inX1 tyX1 tyX1_ok nmX1 hown hKK hP hS eh1 rfl (by decide) w1 (fun _ h9 => h9) rfl (tyX1_ok 4 (by decide)) rfl rfl dX1_clearAmounts_2 (fun H locs hP _ hS => ?_)
  refine lv_aload_n hx hb dX1_clearAmounts_5 rfl (lv_at hl 0 rfl) ?_
  refine lv_iconst (v := (0 : Int32)) hx hb dX1_clearAmounts_6 (by decide) ?_
  obtain ⟨h2, eh2, hf⟩ := xb hf
  refine xr_put hx hb hts inX1 tyX1 tyX1_ok nmX1 hown hKK hP hS eh2 rfl (by decide) w2 (fun _ h9 => h9) rfl (tyX1_ok 5 (by decide)) rfl rfl dX1_clearAmounts_7 (fun H locs hP _ hS => ?_)
  obtain rfl := Option.some.inj hf
  subst hQ
  exact xe_v hx hb hr hlocks hKK hP hS dX1_clearAmounts_10
/-- RainReservoir$Roof.set -/
def f_X1_set (h : XH) (a0 : Nat) (p0 : Int32) (p1 : Int32) (p2 : Int32) (p3 : Int32) : Option (XH) :=
  (xpV h a0 1 0 (.int p0)).bind fun h1 =>
  (xpV h1 a0 1 1 (.int p1)).bind fun h2 =>
  (xpV h2 a0 1 2 (.int p2)).bind fun h3 =>
  (xpV h3 a0 1 3 (.int p3)).bind fun h4 =>
  (xis h4 a0 1).bind fun v1 =>
  obind1 (f_X1_clearAmounts h4 a0) fun h5 =>
  some (h5)
abbrev rmX1_set : Room := { frames := 1, cells := 0, slots := 0, locals := 20 }
set_option maxHeartbeats 4000000 in
set_option maxRecDepth 100000 in
theorem m_X1_set (l : Launch) (B0 : Nat) (G : XG) (h hE : XH) (a0 : Nat) (p0 : Int32) (p1 : Int32) (p2 : Int32) (p3 : Int32) (hf : f_X1_set h a0 p0 p1 p2 p3 = some hE) : Met l yX1_set wsX1_set rmX1_set (va_Pc [.ref a0, .int p0, .int p1, .int p2, .int p3] (xU B0 G h)) (xQv B0 G hE) 0 0 (xA B0) := by
  refine xMet (cc := cX1_set) (maxL := 5) (by decide) rfl (Nat.le_of_ble_eq_true rfl) ?_
  intro p e s m args below meth c ls hx hb hr hml hown hlocks hnm hts hKK hP hl
  have hown : s.vm.findClass RX1 = some m.cls := hown
  have hl : lv_has ls 5 [(0, .ref a0), (1, .int p0), (2, .int p1), (3, .int p2), (4, .int p3)] := hl
  have hS : va_S (xA B0) s.heap s.heap [] := va_S.rf
  have inX1 : ∀ w ∈ wsX10, w ∈ wsX1_set := by decide +kernel
  have w1 := hts (.fieldLink RX1 7 "RainReservoir$Roof" "area" "I") (by decide +kernel)
  have w2 := hts (.fieldLink RX1 13 "RainReservoir$Roof" "yieldPercent" "I") (by decide +kernel)
  have w3 := hts (.fieldLink RX1 16 "RainReservoir$Roof" "flush" "I") (by decide +kernel)
  have w4 := hts (.fieldLink RX1 19 "RainReservoir$Roof" "gutter" "I") (by decide +kernel)
  generalize hQ : MQ below (xQv B0 G hE) args s 0 0 (xA B0) = Q
  unfold f_X1_set at hf
  refine lv_aload_n hx hb dX1_set_0 rfl (lv_at hl 0 rfl) ?_
  refine lv_iload_n hx hb dX1_set_1 rfl (lv_at hl 1 rfl) ?_
  obtain ⟨h1, eh1, hf⟩ := xb hf
  refine xr_put hx hb hts inX1 tyX1 tyX1_ok nmX1 hown hKK hP hS eh1 rfl (by decide) w1 (fun _ h9 => h9) rfl (tyX1_ok 0 (by decide)) rfl rfl dX1_set_2 (fun H locs hP _ hS => ?_)
  refine lv_aload_n hx hb dX1_set_5 rfl (lv_at hl 0 rfl) ?_
  refine lv_iload_n hx hb dX1_set_6 rfl (lv_at hl 2 rfl) ?_
  obtain ⟨h2, eh2, hf⟩ := xb hf
  refine xr_put hx hb hts inX1 tyX1 tyX1_ok nmX1 hown hKK hP hS eh2 rfl (by decide) w2 (fun _ h9 => h9) rfl (tyX1_ok 1 (by decide)) rfl rfl dX1_set_7 (fun H locs hP _ hS => ?_)
  refine lv_aload_n hx hb dX1_set_10 rfl (lv_at hl 0 rfl) ?_
  refine lv_iload_n hx hb dX1_set_11 rfl (lv_at hl 3 rfl) ?_
  obtain ⟨h3, eh3, hf⟩ := xb hf
  refine xr_put hx hb hts inX1 tyX1 tyX1_ok nmX1 hown hKK hP hS eh3 rfl (by decide) w3 (fun _ h9 => h9) rfl (tyX1_ok 2 (by decide)) rfl rfl dX1_set_12 (fun H locs hP _ hS => ?_)
  refine lv_aload_n hx hb dX1_set_15 rfl (lv_at hl 0 rfl) ?_
  refine lv_iload hx hb dX1_set_16 (lv_at hl 4 rfl) ?_
  obtain ⟨h4, eh4, hf⟩ := xb hf
  refine xr_put hx hb hts inX1 tyX1 tyX1_ok nmX1 hown hKK hP hS eh4 rfl (by decide) w4 (fun _ h9 => h9) rfl (tyX1_ok 3 (by decide)) rfl rfl dX1_set_18 (fun H locs hP _ hS => ?_)
  refine lv_aload_n hx hb dX1_set_21 rfl (lv_at hl 0 rfl) ?_
  obtain ⟨v1, ev1, hf⟩ := xb hf
  obtain ⟨h5, eh5, hf⟩ := xb1 hf
  refine xc_Vv (rest := []) ⟨hx, hb, hml, hown, hts⟩ (m_X1_clearAmounts l B0 G h4 h5 a0 eh5) (cwV 0 hts gX1_set_X1_clearAmounts rfl rfl rfl (by decide +kernel) ⟨Nat.le_of_ble_eq_true rfl, Nat.le_of_ble_eq_true rfl⟩) hKK hP hS ev1 rfl rfl hl.1 rfl (Nat.le_of_ble_eq_true rfl) dX1_set_22 ⟨Nat.zero_le _, Nat.zero_le _⟩ (fun H locs hP hS => ?_)
  obtain rfl := Option.some.inj hf
  subst hQ
  exact xe_v hx hb hr hlocks hKK hP hS dX1_set_25
/-- RainReservoir$Roof.copyFrom -/
def f_X1_copyFrom (h : XH) (a0 : Nat) (q0 : Nat) : Option (XH) :=
  (xgI h q0 1 0).bind fun v1 =>
  (xgI h q0 1 1).bind fun v2 =>
  (xgI h q0 1 2).bind fun v3 =>
  (xgI h q0 1 3).bind fun v4 =>
  (xis h a0 1).bind fun v5 =>
  obind1 (f_X1_set h a0 v1 v2 v3 v4) fun h1 =>
  (xgI h1 q0 1 4).bind fun v6 =>
  (xpV h1 a0 1 4 (.int v6)).bind fun h2 =>
  (xgI h2 q0 1 5).bind fun v7 =>
  (xpV h2 a0 1 5 (.int v7)).bind fun h3 =>
  some (h3)
abbrev rmX1_copyFrom : Room := { frames := 2, cells := 0, slots := 0, locals := 44 }
set_option maxHeartbeats 4000000 in
set_option maxRecDepth 100000 in
theorem m_X1_copyFrom (l : Launch) (B0 : Nat) (G : XG) (h hE : XH) (a0 : Nat) (q0 : Nat) (hf : f_X1_copyFrom h a0 q0 = some hE) : Met l yX1_copyFrom wsX1_copyFrom rmX1_copyFrom (va_Pc [.ref a0, .ref q0] (xU B0 G h)) (xQv B0 G hE) 0 0 (xA B0) := by
  refine xMet (cc := cX1_copyFrom) (maxL := 2) (by decide) rfl (Nat.le_of_ble_eq_true rfl) ?_
  intro p e s m args below meth c ls hx hb hr hml hown hlocks hnm hts hKK hP hl
  have hown : s.vm.findClass RX1 = some m.cls := hown
  have hl : lv_has ls 2 [(0, .ref a0), (1, .ref q0)] := hl
  have hS : va_S (xA B0) s.heap s.heap [] := va_S.rf
  have inX1 : ∀ w ∈ wsX10, w ∈ wsX1_copyFrom := by decide +kernel
  have w1 := hts (.fieldLink RX1 7 "RainReservoir$Roof" "area" "I") (by decide +kernel)
  have w2 := hts (.fieldLink RX1 13 "RainReservoir$Roof" "yieldPercent" "I") (by decide +kernel)
  have w3 := hts (.fieldLink RX1 16 "RainReservoir$Roof" "flush" "I") (by decide +kernel)
  have w4 := hts (.fieldLink RX1 19 "RainReservoir$Roof" "gutter" "I") (by decide +kernel)
  have w5 := hts (.fieldLink RX1 29 "RainReservoir$Roof" "water" "I") (by decide +kernel)
  have w6 := hts (.fieldLink RX1 32 "RainReservoir$Roof" "spilledInAll" "I") (by decide +kernel)
  generalize hQ : MQ below (xQv B0 G hE) args s 0 0 (xA B0) = Q
  unfold f_X1_copyFrom at hf
  refine lv_aload_n hx hb dX1_copyFrom_0 rfl (lv_at hl 0 rfl) ?_
  refine lv_aload_n hx hb dX1_copyFrom_1 rfl (lv_at hl 1 rfl) ?_
  obtain ⟨v1, ev1, hf⟩ := xb hf
  refine xr_getI hx hb hts inX1 hown hKK hP ev1 rfl (by decide) w1 (fun _ h9 => h9) dX1_copyFrom_2 ?_
  refine lv_aload_n hx hb dX1_copyFrom_5 rfl (lv_at hl 1 rfl) ?_
  obtain ⟨v2, ev2, hf⟩ := xb hf
  refine xr_getI hx hb hts inX1 hown hKK hP ev2 rfl (by decide) w2 (fun _ h9 => h9) dX1_copyFrom_6 ?_
  refine lv_aload_n hx hb dX1_copyFrom_9 rfl (lv_at hl 1 rfl) ?_
  obtain ⟨v3, ev3, hf⟩ := xb hf
  refine xr_getI hx hb hts inX1 hown hKK hP ev3 rfl (by decide) w3 (fun _ h9 => h9) dX1_copyFrom_10 ?_
  refine lv_aload_n hx hb dX1_copyFrom_13 rfl (lv_at hl 1 rfl) ?_
  obtain ⟨v4, ev4, hf⟩ := xb hf
  refine xr_getI hx hb hts inX1 hown hKK hP ev4 rfl (by decide) w4 (fun _ h9 => h9) dX1_copyFrom_14 ?_
  obtain ⟨v5, ev5, hf⟩ := xb hf
  obtain ⟨h1, eh1, hf⟩ := xb1 hf
  refine xc_Vv (rest := []) ⟨hx, hb, hml, hown, hts⟩ (m_X1_set l B0 G h h1 a0 v1 v2 v3 v4 eh1) (cwV 4 hts gX1_copyFrom_X1_set rfl rfl rfl (by decide +kernel) ⟨Nat.le_of_ble_eq_true rfl, Nat.le_of_ble_eq_true rfl⟩) hKK hP hS ev5 rfl rfl hl.1 rfl (Nat.le_of_ble_eq_true rfl) dX1_copyFrom_17 ⟨Nat.zero_le _, Nat.zero_le _⟩ (fun H locs hP hS => ?_)
  refine lv_aload_n hx hb dX1_copyFrom_20 rfl (lv_at hl 0 rfl) ?_
  refine lv_aload_n hx hb dX1_copyFrom_21 rfl (lv_at hl 1 rfl) ?_
  obtain ⟨v6, ev6, hf⟩ := xb hf
  refine xr_getI hx hb hts inX1 hown hKK hP ev6 rfl (by decide) w5 (fun _ h9 => h9) dX1_copyFrom_22 ?_
  obtain ⟨h2, eh2, hf⟩ := xb hf
  refine xr_put hx hb hts inX1 tyX1 tyX1_ok nmX1 hown hKK hP hS eh2 rfl (by decide) w5 (fun _ h9 => h9) rfl (tyX1_ok 4 (by decide)) rfl rfl dX1_copyFrom_25 (fun H locs hP _ hS => ?_)
  refine lv_aload_n hx hb dX1_copyFrom_28 rfl (lv_at hl 0 rfl) ?_
  refine lv_aload_n hx hb dX1_copyFrom_29 rfl (lv_at hl 1 rfl) ?_
  obtain ⟨v7, ev7, hf⟩ := xb hf
  refine xr_getI hx hb hts inX1 hown hKK hP ev7 rfl (by decide) w6 (fun _ h9 => h9) dX1_copyFrom_30 ?_
  obtain ⟨h3, eh3, hf⟩ := xb hf
  refine xr_put hx hb hts inX1 tyX1 tyX1_ok nmX1 hown hKK hP hS eh3 rfl (by decide) w6 (fun _ h9 => h9) rfl (tyX1_ok 5 (by decide)) rfl rfl dX1_copyFrom_33 (fun H locs hP _ hS => ?_)
  obtain rfl := Option.some.inj hf
  subst hQ
  exact xe_v hx hb hr hlocks hKK hP hS dX1_copyFrom_36
/-- RainReservoir$Roof.value -/
def f_X1_value (h : XH) (a0 : Nat) (p0 : Int32) : Option (Int32) :=
  if p0 = (0 : Int32) then
    (xgI h a0 1 0).bind fun v1 =>
    some (v1)
  else
  if p0 = (1 : Int32) then
    (xgI h a0 1 1).bind fun v2 =>
    some (v2)
  else
  if p0 = (2 : Int32) then
    (xgI h a0 1 2).bind fun v3 =>
    some (v3)
  else
  if p0 = (3 : Int32) then
    (xgI h a0 1 3).bind fun v4 =>
    some (v4)
  else
  (xgI h a0 1 4).bind fun v5 =>
  some (v5)
abbrev rmX1_value : Room := { frames := 0, cells := 0, slots := 0, locals := 0 }
set_option maxHeartbeats 4000000 in
set_option maxRecDepth 100000 in
theorem m_X1_value (l : Launch) (B0 : Nat) (G : XG) (h : XH) (a0 : Nat) (p0 : Int32) (rE : Int32) (hf : f_X1_value h a0 p0 = some rE) : Met l yX1_value wsX1_value rmX1_value (va_Pc [.ref a0, .int p0] (xU B0 G h)) (xQi B0 G h rE) 0 0 (xA B0) := by
  refine xMet (cc := cX1_value) (maxL := 2) (by decide) rfl (Nat.le_of_ble_eq_true rfl) ?_
  intro p e s m args below meth c ls hx hb hr hml hown hlocks hnm hts hKK hP hl
  have hown : s.vm.findClass RX1 = some m.cls := hown
  have hl : lv_has ls 2 [(0, .ref a0), (1, .int p0)] := hl
  have hS : va_S (xA B0) s.heap s.heap [] := va_S.rf
  have inX1 : ∀ w ∈ wsX10, w ∈ wsX1_value := by decide +kernel
  have w1 := hts (.fieldLink RX1 7 "RainReservoir$Roof" "area" "I") (by decide +kernel)
  have w2 := hts (.fieldLink RX1 13 "RainReservoir$Roof" "yieldPercent" "I") (by decide +kernel)
  have w3 := hts (.fieldLink RX1 16 "RainReservoir$Roof" "flush" "I") (by decide +kernel)
  have w4 := hts (.fieldLink RX1 19 "RainReservoir$Roof" "gutter" "I") (by decide +kernel)
  have w5 := hts (.fieldLink RX1 29 "RainReservoir$Roof" "water" "I") (by decide +kernel)
  generalize hQ : MQ below (xQi B0 G h rE) args s 0 0 (xA B0) = Q
  unfold f_X1_value at hf
  refine lv_iload_n hx hb dX1_value_0 rfl (lv_at hl 1 rfl) ?_
  by_cases c1 : p0 = (0 : Int32)
  · have hf := xif_t hf c1
    refine lv_tableIn (off := 31) (tgt := 32) hx hb dX1_value_1 (by rw [c1]; decide) (by rw [c1]; decide) (by rw [c1]; rfl) (by decide) ?_
    refine lv_aload_n hx hb dX1_value_32 rfl (lv_at hl 0 rfl) ?_
    obtain ⟨v1, ev1, hf⟩ := xb hf
    refine xr_getI hx hb hts inX1 hown hKK hP ev1 rfl (by decide) w1 (fun _ h9 => h9) dX1_value_33 ?_
    obtain rfl := Option.some.inj hf
    subst hQ
    exact xe_i hx hb hr hlocks hKK hP hS dX1_value_36
  have hf := xif_f hf c1
  by_cases c2 : p0 = (1 : Int32)
  · have hf := xif_t hf c2
    refine lv_tableIn (off := 36) (tgt := 37) hx hb dX1_value_1 (by rw [c2]; decide) (by rw [c2]; decide) (by rw [c2]; rfl) (by decide) ?_
    refine lv_aload_n hx hb dX1_value_37 rfl (lv_at hl 0 rfl) ?_
    obtain ⟨v2, ev2, hf⟩ := xb hf
    refine xr_getI hx hb hts inX1 hown hKK hP ev2 rfl (by decide) w2 (fun _ h9 => h9) dX1_value_38 ?_
    obtain rfl := Option.some.inj hf
    subst hQ
    exact xe_i hx hb hr hlocks hKK hP hS dX1_value_41
  have hf := xif_f hf c2
  by_cases c3 : p0 = (2 : Int32)
  · have hf := xif_t hf c3
    refine lv_tableIn (off := 41) (tgt := 42) hx hb dX1_value_1 (by rw [c3]; decide) (by rw [c3]; decide) (by rw [c3]; rfl) (by decide) ?_
    refine lv_aload_n hx hb dX1_value_42 rfl (lv_at hl 0 rfl) ?_
    obtain ⟨v3, ev3, hf⟩ := xb hf
    refine xr_getI hx hb hts inX1 hown hKK hP ev3 rfl (by decide) w3 (fun _ h9 => h9) dX1_value_43 ?_
    obtain rfl := Option.some.inj hf
    subst hQ
    exact xe_i hx hb hr hlocks hKK hP hS dX1_value_46
  have hf := xif_f hf c3
  by_cases c4 : p0 = (3 : Int32)
  · have hf := xif_t hf c4
    refine lv_tableIn (off := 46) (tgt := 47) hx hb dX1_value_1 (by rw [c4]; decide) (by rw [c4]; decide) (by rw [c4]; rfl) (by decide) ?_
    refine lv_aload_n hx hb dX1_value_47 rfl (lv_at hl 0 rfl) ?_
    obtain ⟨v4, ev4, hf⟩ := xb hf
    refine xr_getI hx hb hts inX1 hown hKK hP ev4 rfl (by decide) w4 (fun _ h9 => h9) dX1_value_48 ?_
    obtain rfl := Option.some.inj hf
    subst hQ
    exact xe_i hx hb hr hlocks hKK hP hS dX1_value_51
  have hf := xif_f hf c4
  have nc1 : p0.toInt ≠ 0 := fun q => c1 (Int32.toInt_inj.mp (q.trans (by decide)))
  have nc2 : p0.toInt ≠ 1 := fun q => c2 (Int32.toInt_inj.mp (q.trans (by decide)))
  have nc3 : p0.toInt ≠ 2 := fun q => c3 (Int32.toInt_inj.mp (q.trans (by decide)))
  have nc4 : p0.toInt ≠ 3 := fun q => c4 (Int32.toInt_inj.mp (q.trans (by decide)))
  refine lv_tableOut (tgt := 52) hx hb dX1_value_1 (by omega) (by decide) ?_
  refine lv_aload_n hx hb dX1_value_52 rfl (lv_at hl 0 rfl) ?_
  obtain ⟨v5, ev5, hf⟩ := xb hf
  refine xr_getI hx hb hts inX1 hown hKK hP ev5 rfl (by decide) w5 (fun _ h9 => h9) dX1_value_53 ?_
  obtain rfl := Option.some.inj hf
  subst hQ
  exact xe_i hx hb hr hlocks hKK hP hS dX1_value_56
/-- RainReservoir$Roof.caught -/
def f_X1_caught (h : XH) (a0 : Nat) (p0 : Int32) : Option (Int32) :=
  (xgI h a0 1 0).bind fun v1 =>
  (xgI h a0 1 1).bind fun v2 =>
  some ((((v1 * p0) * v2) / (100 : Int32)))
abbrev rmX1_caught : Room := { frames := 0, cells := 0, slots := 0, locals := 0 }
set_option maxHeartbeats 4000000 in
set_option maxRecDepth 100000 in
theorem m_X1_caught (l : Launch) (B0 : Nat) (G : XG) (h : XH) (a0 : Nat) (p0 : Int32) (rE : Int32) (hf : f_X1_caught h a0 p0 = some rE) : Met l yX1_caught wsX1_caught rmX1_caught (va_Pc [.ref a0, .int p0] (xU B0 G h)) (xQi B0 G h rE) 0 0 (xA B0) := by
  refine xMet (cc := cX1_caught) (maxL := 2) (by decide) rfl (Nat.le_of_ble_eq_true rfl) ?_
  intro p e s m args below meth c ls hx hb hr hml hown hlocks hnm hts hKK hP hl
  have hown : s.vm.findClass RX1 = some m.cls := hown
  have hl : lv_has ls 2 [(0, .ref a0), (1, .int p0)] := hl
  have hS : va_S (xA B0) s.heap s.heap [] := va_S.rf
  have inX1 : ∀ w ∈ wsX10, w ∈ wsX1_caught := by decide +kernel
  have w1 := hts (.fieldLink RX1 7 "RainReservoir$Roof" "area" "I") (by decide +kernel)
  have w2 := hts (.fieldLink RX1 13 "RainReservoir$Roof" "yieldPercent" "I") (by decide +kernel)
  generalize hQ : MQ below (xQi B0 G h rE) args s 0 0 (xA B0) = Q
  unfold f_X1_caught at hf
  refine lv_aload_n hx hb dX1_caught_0 rfl (lv_at hl 0 rfl) ?_
  obtain ⟨v1, ev1, hf⟩ := xb hf
  refine xr_getI hx hb hts inX1 hown hKK hP ev1 rfl (by decide) w1 (fun _ h9 => h9) dX1_caught_1 ?_
  refine lv_iload_n hx hb dX1_caught_4 rfl (lv_at hl 1 rfl) ?_
  refine lv_imul hx hb dX1_caught_5 ?_
  refine lv_aload_n hx hb dX1_caught_6 rfl (lv_at hl 0 rfl) ?_
  obtain ⟨v2, ev2, hf⟩ := xb hf
  refine xr_getI hx hb hts inX1 hown hKK hP ev2 rfl (by decide) w2 (fun _ h9 => h9) dX1_caught_7 ?_
  refine lv_imul hx hb dX1_caught_10 ?_
  refine lv_bipush (v := (100 : Int32)) hx hb dX1_caught_11 (by decide) ?_
  refine lv_idiv hx hb dX1_caught_13 (by decide) ?_
  obtain rfl := Option.some.inj hf
  subst hQ
  exact xe_i hx hb hr hlocks hKK hP hS dX1_caught_14
/-- RainReservoir$Roof.divert -/
def f_X1_divert (h : XH) (a0 : Nat) (p0 : Int32) : Option (Int32 × XH) :=
  (xgI h a0 1 2).bind fun v1 =>
  (xgI h a0 1 4).bind fun v2 =>
  olet ((xmin p0 (v1 - v2))) fun v3 =>
  (xgI h a0 1 4).bind fun v4 =>
  (xpV h a0 1 4 (.int (v4 + v3))).bind fun h1 =>
  some ((v3, h1))
abbrev rmX1_divert : Room := { frames := 1, cells := 0, slots := 0, locals := 21 }
set_option maxHeartbeats 4000000 in
set_option maxRecDepth 100000 in
theorem m_X1_divert (l : Launch) (B0 : Nat) (G : XG) (h hE : XH) (a0 : Nat) (p0 : Int32) (rE : Int32) (hf : f_X1_divert h a0 p0 = some (rE, hE)) : Met l yX1_divert wsX1_divert rmX1_divert (va_Pc [.ref a0, .int p0] (xU B0 G h)) (xQi B0 G hE rE) 0 0 (xA B0) := by
  refine xMet (cc := cX1_divert) (maxL := 3) (by decide) rfl (Nat.le_of_ble_eq_true rfl) ?_
  intro p e s m args below meth c ls hx hb hr hml hown hlocks hnm hts hKK hP hl
  have hown : s.vm.findClass RX1 = some m.cls := hown
  have hl : lv_has ls 3 [(0, .ref a0), (1, .int p0)] := hl
  have hS : va_S (xA B0) s.heap s.heap [] := va_S.rf
  have inX1 : ∀ w ∈ wsX10, w ∈ wsX1_divert := by decide +kernel
  have w1 := hts (.fieldLink RX1 16 "RainReservoir$Roof" "flush" "I") (by decide +kernel)
  have w2 := hts (.fieldLink RX1 29 "RainReservoir$Roof" "water" "I") (by decide +kernel)
  have w3 := hts (.methodLink RX1 35 Lib.Math.min.name) (by decide +kernel)
  have w4 := hts (.static Lib.Math.min.name) (by decide +kernel)
  have w5 := hts (.initialized "java/lang/Math") (by decide +kernel)
  have w6 := hts (.code Lib.Math.min.name Lib.Math.min.code 2 (some .int)) (by decide +kernel)
  generalize hQ : MQ below (xQi B0 G hE rE) args s 0 0 (xA B0) = Q
  unfold f_X1_divert at hf
  refine lv_iload_n hx hb dX1_divert_0 rfl (lv_at hl 1 rfl) ?_
  refine lv_aload_n hx hb dX1_divert_1 rfl (lv_at hl 0 rfl) ?_
  obtain ⟨v1, ev1, hf⟩ := xb hf
  refine xr_getI hx hb hts inX1 hown hKK hP ev1 rfl (by decide) w1 (fun _ h9 => h9) dX1_divert_2 ?_
  refine lv_aload_n hx hb dX1_divert_5 rfl (lv_at hl 0 rfl) ?_
  obtain ⟨v2, ev2, hf⟩ := xb hf
  refine xr_getI hx hb hts inX1 hown hKK hP ev2 rfl (by decide) w2 (fun _ h9 => h9) dX1_divert_6 ?_
  refine lv_isub hx hb dX1_divert_9 ?_
  refine xr_mmin hx hb (hml.trans hl.1.symm) hown w3 w4 w5 w6 ⟨Nat.le_of_ble_eq_true rfl, Nat.le_of_ble_eq_true rfl⟩ (Nat.le_of_ble_eq_true rfl) ⟨Nat.zero_le _, Nat.zero_le _⟩ dX1_divert_10 ?_
  obtain ⟨v3, ev3, hf⟩ := xl hf
  refine xtopi ev3 ?_
  refine lv_istore_n (lv' := [(2, .int v3), (0, .ref a0), (1, .int p0)]) hx hb dX1_divert_13 rfl hl (by decide) rfl (fun ls hl => ?_)
  refine lv_aload_n hx hb dX1_divert_14 rfl (lv_at hl 1 rfl) ?_
  refine lv_dup hx hb dX1_divert_15 rfl ?_
  obtain ⟨v4, ev4, hf⟩ := xb hf
  refine xr_getI hx hb hts inX1 hown hKK hP ev4 rfl (by decide) w2 (fun _ h9 => h9) dX1_divert_16 ?_
  refine lv_iload_n hx hb dX1_divert_19 rfl (lv_at hl 0 rfl) ?_
  refine lv_iadd hx hb dX1_divert_20 ?_
  obtain ⟨h1, eh1, hf⟩ := xb hf
  refine xr_put hx hb hts inX1 tyX1 tyX1_ok nmX1 hown hKK hP hS eh1 rfl (by decide) w2 (fun _ h9 => h9) rfl (tyX1_ok 4 (by decide)) rfl rfl dX1_divert_21 (fun H locs hP _ hS => ?_)
  refine lv_iload_n hx hb dX1_divert_24 rfl (lv_at hl 0 rfl) ?_
  obtain ⟨rfl, rfl⟩ := xinj2 hf
  subst hQ
  exact xe_i hx hb hr hlocks hKK hP hS dX1_divert_25
/-- RainReservoir$Roof.spill -/
def f_X1_spill (h : XH) (a0 : Nat) (p0 : Int32) : Option (Int32 × XH) :=
  (xgI h a0 1 3).bind fun v1 =>
  olet ((xmax (p0 - v1) (0 : Int32))) fun v2 =>
  (xgI h a0 1 5).bind fun v3 =>
  (xpV h a0 1 5 (.int (v3 + v2))).bind fun h1 =>
  some ((v2, h1))
abbrev rmX1_spill : Room := { frames := 1, cells := 0, slots := 0, locals := 21 }
set_option maxHeartbeats 4000000 in
set_option maxRecDepth 100000 in
theorem m_X1_spill (l : Launch) (B0 : Nat) (G : XG) (h hE : XH) (a0 : Nat) (p0 : Int32) (rE : Int32) (hf : f_X1_spill h a0 p0 = some (rE, hE)) : Met l yX1_spill wsX1_spill rmX1_spill (va_Pc [.ref a0, .int p0] (xU B0 G h)) (xQi B0 G hE rE) 0 0 (xA B0) := by
  refine xMet (cc := cX1_spill) (maxL := 3) (by decide) rfl (Nat.le_of_ble_eq_true rfl) ?_
  intro p e s m args below meth c ls hx hb hr hml hown hlocks hnm hts hKK hP hl
  have hown : s.vm.findClass RX1 = some m.cls := hown
  have hl : lv_has ls 3 [(0, .ref a0), (1, .int p0)] := hl
  have hS : va_S (xA B0) s.heap s.heap [] := va_S.rf
  have inX1 : ∀ w ∈ wsX10, w ∈ wsX1_spill := by decide +kernel
  have w1 := hts (.fieldLink RX1 19 "RainReservoir$Roof" "gutter" "I") (by decide +kernel)
  have w2 := hts (.methodLink RX1 41 Lib.Math.max.name) (by decide +kernel)
  have w3 := hts (.static Lib.Math.max.name) (by decide +kernel)
  have w4 := hts (.initialized "java/lang/Math") (by decide +kernel)
  have w5 := hts (.code Lib.Math.max.name Lib.Math.max.code 2 (some .int)) (by decide +kernel)
  have w6 := hts (.fieldLink RX1 32 "RainReservoir$Roof" "spilledInAll" "I") (by decide +kernel)
  generalize hQ : MQ below (xQi B0 G hE rE) args s 0 0 (xA B0) = Q
  unfold f_X1_spill at hf
  refine lv_iload_n hx hb dX1_spill_0 rfl (lv_at hl 1 rfl) ?_
  refine lv_aload_n hx hb dX1_spill_1 rfl (lv_at hl 0 rfl) ?_
  obtain ⟨v1, ev1, hf⟩ := xb hf
  refine xr_getI hx hb hts inX1 hown hKK hP ev1 rfl (by decide) w1 (fun _ h9 => h9) dX1_spill_2 ?_
  refine lv_isub hx hb dX1_spill_5 ?_
  refine lv_iconst (v := (0 : Int32)) hx hb dX1_spill_6 (by decide) ?_
  refine xr_mmax hx hb (hml.trans hl.1.symm) hown w2 w3 w4 w5 ⟨Nat.le_of_ble_eq_true rfl, Nat.le_of_ble_eq_true rfl⟩ (Nat.le_of_ble_eq_true rfl) ⟨Nat.zero_le _, Nat.zero_le _⟩ dX1_spill_7 ?_
  obtain ⟨v2, ev2, hf⟩ := xl hf
  refine xtopi ev2 ?_
  refine lv_istore_n (lv' := [(2, .int v2), (0, .ref a0), (1, .int p0)]) hx hb dX1_spill_10 rfl hl (by decide) rfl (fun ls hl => ?_)
  refine lv_aload_n hx hb dX1_spill_11 rfl (lv_at hl 1 rfl) ?_
  refine lv_dup hx hb dX1_spill_12 rfl ?_
  obtain ⟨v3, ev3, hf⟩ := xb hf
  refine xr_getI hx hb hts inX1 hown hKK hP ev3 rfl (by decide) w6 (fun _ h9 => h9) dX1_spill_13 ?_
  refine lv_iload_n hx hb dX1_spill_16 rfl (lv_at hl 0 rfl) ?_
  refine lv_iadd hx hb dX1_spill_17 ?_
  obtain ⟨h1, eh1, hf⟩ := xb hf
  refine xr_put hx hb hts inX1 tyX1 tyX1_ok nmX1 hown hKK hP hS eh1 rfl (by decide) w6 (fun _ h9 => h9) rfl (tyX1_ok 5 (by decide)) rfl rfl dX1_spill_18 (fun H locs hP _ hS => ?_)
  refine lv_iload_n hx hb dX1_spill_21 rfl (lv_at hl 0 rfl) ?_
  obtain ⟨rfl, rfl⟩ := xinj2 hf
  subst hQ
  exact xe_i hx hb hr hlocks hKK hP hS dX1_spill_22
/-- RainReservoir$Roof.drain -/
def f_X1_drain (h : XH) (a0 : Nat) : Option (Int32 × XH) :=
  (xgI h a0 1 4).bind fun v1 =>
  (xpV h a0 1 4 (.int (0 : Int32))).bind fun h1 =>
  some ((v1, h1))
abbrev rmX1_drain : Room := { frames := 0, cells := 0, slots := 0, locals := 0 }
set_option maxHeartbeats 4000000 in
set_option maxRecDepth 100000 in
theorem m_X1_drain (l : Launch) (B0 : Nat) (G : XG) (h hE : XH) (a0 : Nat) (rE : Int32) (hf : f_X1_drain h a0 = some (rE, hE)) : Met l yX1_drain wsX1_drain rmX1_drain (va_Pc [.ref a0] (xU B0 G h)) (xQi B0 G hE rE) 0 0 (xA B0) := by
  refine xMet (cc := cX1_drain) (maxL := 2) (by decide) rfl (Nat.le_of_ble_eq_true rfl) ?_
  intro p e s m args below meth c ls hx hb hr hml hown hlocks hnm hts hKK hP hl
  have hown : s.vm.findClass RX1 = some m.cls := hown
  have hl : lv_has ls 2 [(0, .ref a0)] := hl
  have hS : va_S (xA B0) s.heap s.heap [] := va_S.rf
  have inX1 : ∀ w ∈ wsX10, w ∈ wsX1_drain := by decide +kernel
  have w1 := hts (.fieldLink RX1 29 "RainReservoir$Roof" "water" "I") (by decide +kernel)
  generalize hQ : MQ below (xQi B0 G hE rE) args s 0 0 (xA B0) = Q
  unfold f_X1_drain at hf
  refine lv_aload_n hx hb dX1_drain_0 rfl (lv_at hl 0 rfl) ?_
  obtain ⟨v1, ev1, hf⟩ := xb hf
  refine xr_getI hx hb hts inX1 hown hKK hP ev1 rfl (by decide) w1 (fun _ h9 => h9) dX1_drain_1 ?_
  refine lv_istore_n (lv' := [(1, .int v1), (0, .ref a0)]) hx hb dX1_drain_4 rfl hl (by decide) rfl (fun ls hl => ?_)
  refine lv_aload_n hx hb dX1_drain_5 rfl (lv_at hl 1 rfl) ?_
  refine lv_iconst (v := (0 : Int32)) hx hb dX1_drain_6 (by decide) ?_
  obtain ⟨h1, eh1, hf⟩ := xb hf
  refine xr_put hx hb hts inX1 tyX1 tyX1_ok nmX1 hown hKK hP hS eh1 rfl (by decide) w1 (fun _ h9 => h9) rfl (tyX1_ok 4 (by decide)) rfl rfl dX1_drain_7 (fun H locs hP _ hS => ?_)
  refine lv_iload_n hx hb dX1_drain_10 rfl (lv_at hl 0 rfl) ?_
  obtain ⟨rfl, rfl⟩ := xinj2 hf
  subst hQ
  exact xe_i hx hb hr hlocks hKK hP hS dX1_drain_11
/-- RainReservoir$User.clearAmounts -/
def f_X3_clearAmounts (h : XH) (a0 : Nat) : Option (XH) :=
  (xpV h a0 3 2 (.int (0 : Int32))).bind fun h1 =>
  (xpV h1 a0 3 3 (.int (0 : Int32))).bind fun h2 =>
  some (h2)
abbrev rmX3_clearAmounts : Room := { frames := 0, cells := 0, slots := 0, locals := 0 }
set_option maxHeartbeats 4000000 in
set_option maxRecDepth 100000 in
theorem m_X3_clearAmounts (l : Launch) (B0 : Nat) (G : XG) (h hE : XH) (a0 : Nat) (hf : f_X3_clearAmounts h a0 = some hE) : Met l yX3_clearAmounts wsX3_clearAmounts rmX3_clearAmounts (va_Pc [.ref a0] (xU B0 G h)) (xQv B0 G hE) 0 0 (xA B0) := by
  refine xMet (cc := cX3_clearAmounts) (maxL := 1) (by decide) rfl (Nat.le_of_ble_eq_true rfl) ?_
  intro p e s m args below meth c ls hx hb hr hml hown hlocks hnm hts hKK hP hl
  have hown : s.vm.findClass RX3 = some m.cls := hown
  have hl : lv_has ls 1 [(0, .ref a0)] := hl
  have hS : va_S (xA B0) s.heap s.heap [] := va_S.rf
  have inX3 : ∀ w ∈ wsX30, w ∈ wsX3_clearAmounts := by decide +kernel
  have w1 := hts (.fieldLink RX3 25 "RainReservoir$User" "gotLatest" "I") (by decide +kernel)
  have w2 := hts (.fieldLink RX3 28 "RainReservoir$User" "gotInAll" "I") (by decide +kernel)
  generalize hQ : MQ below (xQv B0 G hE) args s 0 0 (xA B0) = Q
  unfold f_X3_clearAmounts at hf
  refine lv_aload_n hx hb dX3_clearAmounts_0 rfl (lv_at hl 0 rfl) ?_
  refine lv_iconst (v := (0 : Int32)) hx hb dX3_clearAmounts_1 (by decide) ?_
  obtain ⟨h1, eh1, hf⟩ := xb hf
  refine xr_put hx hb hts inX3 tyX3 tyX3_ok nmX3 hown hKK hP hS eh1 rfl (by decide) w1 (fun _ h9 => h9) rfl (tyX3_ok 2 (by decide)) rfl rfl dX3_clearAmounts_2 (fun H locs hP _ hS => ?_)
  refine lv_aload_n hx hb dX3_clearAmounts_5 rfl (lv_at hl 0 rfl) ?_
  refine lv_iconst (v := (0 : Int32)) hx hb dX3_clearAmounts_6 (by decide) ?_
  obtain ⟨h2, eh2, hf⟩ := xb hf
  refine xr_put hx hb hts inX3 tyX3 tyX3_ok nmX3 hown hKK hP hS eh2 rfl (by decide) w2 (fun _ h9 => h9) rfl (tyX3_ok 3 (by decide)) rfl rfl dX3_clearAmounts_7 (fun H locs hP _ hS => ?_)
  obtain rfl := Option.some.inj hf
  subst hQ
  exact xe_v hx hb hr hlocks hKK hP hS dX3_clearAmounts_10
/-- RainReservoir$User.set -/
def f_X3_set (h : XH) (a0 : Nat) (p0 : Int32) (p1 : Int32) : Option (XH) :=
  (xpV h a0 3 0 (.int p0)).bind fun h1 =>
  (xpV h1 a0 3 1 (.int p1)).bind fun h2 =>
  (xis h2 a0 3).bind fun v1 =>
  obind1 (f_X3_clearAmounts h2 a0) fun h3 =>
  some (h3)
abbrev rmX3_set : Room := { frames := 1, cells := 0, slots := 0, locals := 20 }
set_option maxHeartbeats 4000000 in
set_option maxRecDepth 100000 in
theorem m_X3_set (l : Launch) (B0 : Nat) (G : XG) (h hE : XH) (a0 : Nat) (p0 : Int32) (p1 : Int32) (hf : f_X3_set h a0 p0 p1 = some hE) : Met l yX3_set wsX3_set rmX3_set (va_Pc [.ref a0, .int p0, .int p1] (xU B0 G h)) (xQv B0 G hE) 0 0 (xA B0) := by
  refine xMet (cc := cX3_set) (maxL := 3) (by decide) rfl (Nat.le_of_ble_eq_true rfl) ?_
  intro p e s m args below meth c ls hx hb hr hml hown hlocks hnm hts hKK hP hl
  have hown : s.vm.findClass RX3 = some m.cls := hown
  have hl : lv_has ls 3 [(0, .ref a0), (1, .int p0), (2, .int p1)] := hl
  have hS : va_S (xA B0) s.heap s.heap [] := va_S.rf
  have inX3 : ∀ w ∈ wsX30, w ∈ wsX3_set := by decide +kernel
  have w1 := hts (.fieldLink RX3 9 "RainReservoir$User" "demand" "I") (by decide +kernel)
  have w2 := hts (.fieldLink RX3 15 "RainReservoir$User" "weight" "I") (by decide +kernel)
  generalize hQ : MQ below (xQv B0 G hE) args s 0 0 (xA B0) = Q
  unfold f_X3_set at hf
  refine lv_aload_n hx hb dX3_set_0 rfl (lv_at hl 0 rfl) ?_
  refine lv_iload_n hx hb dX3_set_1 rfl (lv_at hl 1 rfl) ?_
  obtain ⟨h1, eh1, hf⟩ := xb hf
  refine xr_put hx hb hts inX3 tyX3 tyX3_ok nmX3 hown hKK hP hS eh1 rfl (by decide) w1 (fun _ h9 => h9) rfl (tyX3_ok 0 (by decide)) rfl rfl dX3_set_2 (fun H locs hP _ hS => ?_)
  refine lv_aload_n hx hb dX3_set_5 rfl (lv_at hl 0 rfl) ?_
  refine lv_iload_n hx hb dX3_set_6 rfl (lv_at hl 2 rfl) ?_
  obtain ⟨h2, eh2, hf⟩ := xb hf
  refine xr_put hx hb hts inX3 tyX3 tyX3_ok nmX3 hown hKK hP hS eh2 rfl (by decide) w2 (fun _ h9 => h9) rfl (tyX3_ok 1 (by decide)) rfl rfl dX3_set_7 (fun H locs hP _ hS => ?_)
  refine lv_aload_n hx hb dX3_set_10 rfl (lv_at hl 0 rfl) ?_
  obtain ⟨v1, ev1, hf⟩ := xb hf
  obtain ⟨h3, eh3, hf⟩ := xb1 hf
  refine xc_Vv (rest := []) ⟨hx, hb, hml, hown, hts⟩ (m_X3_clearAmounts l B0 G h2 h3 a0 eh3) (cwV 0 hts gX3_set_X3_clearAmounts rfl rfl rfl (by decide +kernel) ⟨Nat.le_of_ble_eq_true rfl, Nat.le_of_ble_eq_true rfl⟩) hKK hP hS ev1 rfl rfl hl.1 rfl (Nat.le_of_ble_eq_true rfl) dX3_set_11 ⟨Nat.zero_le _, Nat.zero_le _⟩ (fun H locs hP hS => ?_)
  obtain rfl := Option.some.inj hf
  subst hQ
  exact xe_v hx hb hr hlocks hKK hP hS dX3_set_14
/-- RainReservoir$User.copyFrom -/
def f_X3_copyFrom (h : XH) (a0 : Nat) (q0 : Nat) : Option (XH) :=
  (xgI h q0 3 0).bind fun v1 =>
  (xgI h q0 3 1).bind fun v2 =>
  (xis h a0 3).bind fun v3 =>
  obind1 (f_X3_set h a0 v1 v2) fun h1 =>
  (xgI h1 q0 3 2).bind fun v4 =>
  (xpV h1 a0 3 2 (.int v4)).bind fun h2 =>
  (xgI h2 q0 3 3).bind fun v5 =>
  (xpV h2 a0 3 3 (.int v5)).bind fun h3 =>
  some (h3)
abbrev rmX3_copyFrom : Room := { frames := 2, cells := 0, slots := 0, locals := 42 }
set_option maxHeartbeats 4000000 in
set_option maxRecDepth 100000 in
theorem m_X3_copyFrom (l : Launch) (B0 : Nat) (G : XG) (h hE : XH) (a0 : Nat) (q0 : Nat) (hf : f_X3_copyFrom h a0 q0 = some hE) : Met l yX3_copyFrom wsX3_copyFrom rmX3_copyFrom (va_Pc [.ref a0, .ref q0] (xU B0 G h)) (xQv B0 G hE) 0 0 (xA B0) := by
  refine xMet (cc := cX3_copyFrom) (maxL := 2) (by decide) rfl (Nat.le_of_ble_eq_true rfl) ?_
  intro p e s m args below meth c ls hx hb hr hml hown hlocks hnm hts hKK hP hl
  have hown : s.vm.findClass RX3 = some m.cls := hown
  have hl : lv_has ls 2 [(0, .ref a0), (1, .ref q0)] := hl
  have hS : va_S (xA B0) s.heap s.heap [] := va_S.rf
  have inX3 : ∀ w ∈ wsX30, w ∈ wsX3_copyFrom := by decide +kernel
  have w1 := hts (.fieldLink RX3 9 "RainReservoir$User" "demand" "I") (by decide +kernel)
  have w2 := hts (.fieldLink RX3 15 "RainReservoir$User" "weight" "I") (by decide +kernel)
  have w3 := hts (.fieldLink RX3 25 "RainReservoir$User" "gotLatest" "I") (by decide +kernel)
  have w4 := hts (.fieldLink RX3 28 "RainReservoir$User" "gotInAll" "I") (by decide +kernel)
  generalize hQ : MQ below (xQv B0 G hE) args s 0 0 (xA B0) = Q
  unfold f_X3_copyFrom at hf
  refine lv_aload_n hx hb dX3_copyFrom_0 rfl (lv_at hl 0 rfl) ?_
  refine lv_aload_n hx hb dX3_copyFrom_1 rfl (lv_at hl 1 rfl) ?_
  obtain ⟨v1, ev1, hf⟩ := xb hf
  refine xr_getI hx hb hts inX3 hown hKK hP ev1 rfl (by decide) w1 (fun _ h9 => h9) dX3_copyFrom_2 ?_
  refine lv_aload_n hx hb dX3_copyFrom_5 rfl (lv_at hl 1 rfl) ?_
  obtain ⟨v2, ev2, hf⟩ := xb hf
  refine xr_getI hx hb hts inX3 hown hKK hP ev2 rfl (by decide) w2 (fun _ h9 => h9) dX3_copyFrom_6 ?_
  obtain ⟨v3, ev3, hf⟩ := xb hf
  obtain ⟨h1, eh1, hf⟩ := xb1 hf
  refine xc_Vv (rest := []) ⟨hx, hb, hml, hown, hts⟩ (m_X3_set l B0 G h h1 a0 v1 v2 eh1) (cwV 2 hts gX3_copyFrom_X3_set rfl rfl rfl (by decide +kernel) ⟨Nat.le_of_ble_eq_true rfl, Nat.le_of_ble_eq_true rfl⟩) hKK hP hS ev3 rfl rfl hl.1 rfl (Nat.le_of_ble_eq_true rfl) dX3_copyFrom_9 ⟨Nat.zero_le _, Nat.zero_le _⟩ (fun H locs hP hS => ?_)
  refine lv_aload_n hx hb dX3_copyFrom_12 rfl (lv_at hl 0 rfl) ?_
  refine lv_aload_n hx hb dX3_copyFrom_13 rfl (lv_at hl 1 rfl) ?_
  obtain ⟨v4, ev4, hf⟩ := xb hf
  refine xr_getI hx hb hts inX3 hown hKK hP ev4 rfl (by decide) w3 (fun _ h9 => h9) dX3_copyFrom_14 ?_
  obtain ⟨h2, eh2, hf⟩ := xb hf
  refine xr_put hx hb hts inX3 tyX3 tyX3_ok nmX3 hown hKK hP hS eh2 rfl (by decide) w3 (fun _ h9 => h9) rfl (tyX3_ok 2 (by decide)) rfl rfl dX3_copyFrom_17 (fun H locs hP _ hS => ?_)
  refine lv_aload_n hx hb dX3_copyFrom_20 rfl (lv_at hl 0 rfl) ?_
  refine lv_aload_n hx hb dX3_copyFrom_21 rfl (lv_at hl 1 rfl) ?_
  obtain ⟨v5, ev5, hf⟩ := xb hf
  refine xr_getI hx hb hts inX3 hown hKK hP ev5 rfl (by decide) w4 (fun _ h9 => h9) dX3_copyFrom_22 ?_
  obtain ⟨h3, eh3, hf⟩ := xb hf
  refine xr_put hx hb hts inX3 tyX3 tyX3_ok nmX3 hown hKK hP hS eh3 rfl (by decide) w4 (fun _ h9 => h9) rfl (tyX3_ok 3 (by decide)) rfl rfl dX3_copyFrom_25 (fun H locs hP _ hS => ?_)
  obtain rfl := Option.some.inj hf
  subst hQ
  exact xe_v hx hb hr hlocks hKK hP hS dX3_copyFrom_28
/-- RainReservoir$User.value -/
def f_X3_value (h : XH) (a0 : Nat) (p0 : Int32) : Option (Int32) :=
  if p0 = (0 : Int32) then
    (xgI h a0 3 0).bind fun v1 =>
    some (v1)
  else
  if p0 = (1 : Int32) then
    (xgI h a0 3 1).bind fun v2 =>
    some (v2)
  else
  if p0 = (2 : Int32) then
    (xgI h a0 3 2).bind fun v3 =>
    some (v3)
  else
  (xgI h a0 3 3).bind fun v4 =>
  some (v4)
abbrev rmX3_value : Room := { frames := 0, cells := 0, slots := 0, locals := 0 }
set_option maxHeartbeats 4000000 in
set_option maxRecDepth 100000 in
theorem m_X3_value (l : Launch) (B0 : Nat) (G : XG) (h : XH) (a0 : Nat) (p0 : Int32) (rE : Int32) (hf : f_X3_value h a0 p0 = some rE) : Met l yX3_value wsX3_value rmX3_value (va_Pc [.ref a0, .int p0] (xU B0 G h)) (xQi B0 G h rE) 0 0 (xA B0) := by
  refine xMet (cc := cX3_value) (maxL := 2) (by decide) rfl (Nat.le_of_ble_eq_true rfl) ?_
  intro p e s m args below meth c ls hx hb hr hml hown hlocks hnm hts hKK hP hl
  have hown : s.vm.findClass RX3 = some m.cls := hown
  have hl : lv_has ls 2 [(0, .ref a0), (1, .int p0)] := hl
  have hS : va_S (xA B0) s.heap s.heap [] := va_S.rf
  have inX3 : ∀ w ∈ wsX30, w ∈ wsX3_value := by decide +kernel
  have w1 := hts (.fieldLink RX3 9 "RainReservoir$User" "demand" "I") (by decide +kernel)
  have w2 := hts (.fieldLink RX3 15 "RainReservoir$User" "weight" "I") (by decide +kernel)
  have w3 := hts (.fieldLink RX3 25 "RainReservoir$User" "gotLatest" "I") (by decide +kernel)
  have w4 := hts (.fieldLink RX3 28 "RainReservoir$User" "gotInAll" "I") (by decide +kernel)
  generalize hQ : MQ below (xQi B0 G h rE) args s 0 0 (xA B0) = Q
  unfold f_X3_value at hf
  refine lv_iload_n hx hb dX3_value_0 rfl (lv_at hl 1 rfl) ?_
  by_cases c1 : p0 = (0 : Int32)
  · have hf := xif_t hf c1
    refine lv_tableIn (off := 27) (tgt := 28) hx hb dX3_value_1 (by rw [c1]; decide) (by rw [c1]; decide) (by rw [c1]; rfl) (by decide) ?_
    refine lv_aload_n hx hb dX3_value_28 rfl (lv_at hl 0 rfl) ?_
    obtain ⟨v1, ev1, hf⟩ := xb hf
    refine xr_getI hx hb hts inX3 hown hKK hP ev1 rfl (by decide) w1 (fun _ h9 => h9) dX3_value_29 ?_
    obtain rfl := Option.some.inj hf
    subst hQ
    exact xe_i hx hb hr hlocks hKK hP hS dX3_value_32
  have hf := xif_f hf c1
  by_cases c2 : p0 = (1 : Int32)
  · have hf := xif_t hf c2
    refine lv_tableIn (off := 32) (tgt := 33) hx hb dX3_value_1 (by rw [c2]; decide) (by rw [c2]; decide) (by rw [c2]; rfl) (by decide) ?_
    refine lv_aload_n hx hb dX3_value_33 rfl (lv_at hl 0 rfl) ?_
    obtain ⟨v2, ev2, hf⟩ := xb hf
    refine xr_getI hx hb hts inX3 hown hKK hP ev2 rfl (by decide) w2 (fun _ h9 => h9) dX3_value_34 ?_
    obtain rfl := Option.some.inj hf
    subst hQ
    exact xe_i hx hb hr hlocks hKK hP hS dX3_value_37
  have hf := xif_f hf c2
  by_cases c3 : p0 = (2 : Int32)
  · have hf := xif_t hf c3
    refine lv_tableIn (off := 37) (tgt := 38) hx hb dX3_value_1 (by rw [c3]; decide) (by rw [c3]; decide) (by rw [c3]; rfl) (by decide) ?_
    refine lv_aload_n hx hb dX3_value_38 rfl (lv_at hl 0 rfl) ?_
    obtain ⟨v3, ev3, hf⟩ := xb hf
    refine xr_getI hx hb hts inX3 hown hKK hP ev3 rfl (by decide) w3 (fun _ h9 => h9) dX3_value_39 ?_
    obtain rfl := Option.some.inj hf
    subst hQ
    exact xe_i hx hb hr hlocks hKK hP hS dX3_value_42
  have hf := xif_f hf c3
  have nc1 : p0.toInt ≠ 0 := fun q => c1 (Int32.toInt_inj.mp (q.trans (by decide)))
  have nc2 : p0.toInt ≠ 1 := fun q => c2 (Int32.toInt_inj.mp (q.trans (by decide)))
  have nc3 : p0.toInt ≠ 2 := fun q => c3 (Int32.toInt_inj.mp (q.trans (by decide)))
  refine lv_tableOut (tgt := 43) hx hb dX3_value_1 (by omega) (by decide) ?_
  refine lv_aload_n hx hb dX3_value_43 rfl (lv_at hl 0 rfl) ?_
  obtain ⟨v4, ev4, hf⟩ := xb hf
  refine xr_getI hx hb hts inX3 hown hKK hP ev4 rfl (by decide) w4 (fun _ h9 => h9) dX3_value_44 ?_
  obtain rfl := Option.some.inj hf
  subst hQ
  exact xe_i hx hb hr hlocks hKK hP hS dX3_value_47
/-- RainReservoir$User.lack -/
def f_X3_lack (h : XH) (a0 : Nat) : Option (Int32) :=
  (xgI h a0 3 0).bind fun v1 =>
  (xgI h a0 3 2).bind fun v2 =>
  some ((v1 - v2))
abbrev rmX3_lack : Room := { frames := 0, cells := 0, slots := 0, locals := 0 }
set_option maxHeartbeats 4000000 in
set_option maxRecDepth 100000 in
theorem m_X3_lack (l : Launch) (B0 : Nat) (G : XG) (h : XH) (a0 : Nat) (rE : Int32) (hf : f_X3_lack h a0 = some rE) : Met l yX3_lack wsX3_lack rmX3_lack (va_Pc [.ref a0] (xU B0 G h)) (xQi B0 G h rE) 0 0 (xA B0) := by
  refine xMet (cc := cX3_lack) (maxL := 1) (by decide) rfl (Nat.le_of_ble_eq_true rfl) ?_
  intro p e s m args below meth c ls hx hb hr hml hown hlocks hnm hts hKK hP hl
  have hown : s.vm.findClass RX3 = some m.cls := hown
  have hl : lv_has ls 1 [(0, .ref a0)] := hl
  have hS : va_S (xA B0) s.heap s.heap [] := va_S.rf
  have inX3 : ∀ w ∈ wsX30, w ∈ wsX3_lack := by decide +kernel
  have w1 := hts (.fieldLink RX3 9 "RainReservoir$User" "demand" "I") (by decide +kernel)
  have w2 := hts (.fieldLink RX3 25 "RainReservoir$User" "gotLatest" "I") (by decide +kernel)
  generalize hQ : MQ below (xQi B0 G h rE) args s 0 0 (xA B0) = Q
  unfold f_X3_lack at hf
  refine lv_aload_n hx hb dX3_lack_0 rfl (lv_at hl 0 rfl) ?_
  obtain ⟨v1, ev1, hf⟩ := xb hf
  refine xr_getI hx hb hts inX3 hown hKK hP ev1 rfl (by decide) w1 (fun _ h9 => h9) dX3_lack_1 ?_
  refine lv_aload_n hx hb dX3_lack_4 rfl (lv_at hl 0 rfl) ?_
  obtain ⟨v2, ev2, hf⟩ := xb hf
  refine xr_getI hx hb hts inX3 hown hKK hP ev2 rfl (by decide) w2 (fun _ h9 => h9) dX3_lack_5 ?_
  refine lv_isub hx hb dX3_lack_8 ?_
  obtain rfl := Option.some.inj hf
  subst hQ
  exact xe_i hx hb hr hlocks hKK hP hS dX3_lack_9
/-- RainReservoir$User.portion -/
def f_X3_portion (h : XH) (a0 : Nat) : Option (Int32) :=
  (xgI h a0 3 1).bind fun v1 =>
  some (((10 : Int32) * v1))
abbrev rmX3_portion : Room := { frames := 0, cells := 0, slots := 0, locals := 0 }
set_option maxHeartbeats 4000000 in
set_option maxRecDepth 100000 in
theorem m_X3_portion (l : Launch) (B0 : Nat) (G : XG) (h : XH) (a0 : Nat) (rE : Int32) (hf : f_X3_portion h a0 = some rE) : Met l yX3_portion wsX3_portion rmX3_portion (va_Pc [.ref a0] (xU B0 G h)) (xQi B0 G h rE) 0 0 (xA B0) := by
  refine xMet (cc := cX3_portion) (maxL := 1) (by decide) rfl (Nat.le_of_ble_eq_true rfl) ?_
  intro p e s m args below meth c ls hx hb hr hml hown hlocks hnm hts hKK hP hl
  have hown : s.vm.findClass RX3 = some m.cls := hown
  have hl : lv_has ls 1 [(0, .ref a0)] := hl
  have hS : va_S (xA B0) s.heap s.heap [] := va_S.rf
  have inX3 : ∀ w ∈ wsX30, w ∈ wsX3_portion := by decide +kernel
  have w1 := hts (.fieldLink RX3 15 "RainReservoir$User" "weight" "I") (by decide +kernel)
  generalize hQ : MQ below (xQi B0 G h rE) args s 0 0 (xA B0) = Q
  unfold f_X3_portion at hf
  refine lv_bipush (v := (10 : Int32)) hx hb dX3_portion_0 (by decide) ?_
  refine lv_aload_n hx hb dX3_portion_2 rfl (lv_at hl 0 rfl) ?_
  obtain ⟨v1, ev1, hf⟩ := xb hf
  refine xr_getI hx hb hts inX3 hown hKK hP ev1 rfl (by decide) w1 (fun _ h9 => h9) dX3_portion_3 ?_
  refine lv_imul hx hb dX3_portion_6 ?_
  obtain rfl := Option.some.inj hf
  subst hQ
  exact xe_i hx hb hr hlocks hKK hP hS dX3_portion_7
/-- RainReservoir$User.give -/
def f_X3_give (h : XH) (a0 : Nat) (p0 : Int32) : Option (Int32 × XH) :=
  (xis h a0 3).bind fun v1 =>
  obind1 (f_X3_lack h a0) fun v2 =>
  olet ((xmin p0 v2)) fun v3 =>
  (xgI h a0 3 2).bind fun v4 =>
  (xpV h a0 3 2 (.int (v4 + v3))).bind fun h1 =>
  some ((v3, h1))
abbrev rmX3_give : Room := { frames := 1, cells := 0, slots := 0, locals := 21 }
set_option maxHeartbeats 4000000 in
set_option maxRecDepth 100000 in
theorem m_X3_give (l : Launch) (B0 : Nat) (G : XG) (h hE : XH) (a0 : Nat) (p0 : Int32) (rE : Int32) (hf : f_X3_give h a0 p0 = some (rE, hE)) : Met l yX3_give wsX3_give rmX3_give (va_Pc [.ref a0, .int p0] (xU B0 G h)) (xQi B0 G hE rE) 0 0 (xA B0) := by
  refine xMet (cc := cX3_give) (maxL := 3) (by decide) rfl (Nat.le_of_ble_eq_true rfl) ?_
  intro p e s m args below meth c ls hx hb hr hml hown hlocks hnm hts hKK hP hl
  have hown : s.vm.findClass RX3 = some m.cls := hown
  have hl : lv_has ls 3 [(0, .ref a0), (1, .int p0)] := hl
  have hS : va_S (xA B0) s.heap s.heap [] := va_S.rf
  have inX3 : ∀ w ∈ wsX30, w ∈ wsX3_give := by decide +kernel
  have w1 := hts (.methodLink RX3 35 Lib.Math.min.name) (by decide +kernel)
  have w2 := hts (.static Lib.Math.min.name) (by decide +kernel)
  have w3 := hts (.initialized "java/lang/Math") (by decide +kernel)
  have w4 := hts (.code Lib.Math.min.name Lib.Math.min.code 2 (some .int)) (by decide +kernel)
  have w5 := hts (.fieldLink RX3 25 "RainReservoir$User" "gotLatest" "I") (by decide +kernel)
  generalize hQ : MQ below (xQi B0 G hE rE) args s 0 0 (xA B0) = Q
  unfold f_X3_give at hf
  refine lv_iload_n hx hb dX3_give_0 rfl (lv_at hl 1 rfl) ?_
  refine lv_aload_n hx hb dX3_give_1 rfl (lv_at hl 0 rfl) ?_
  obtain ⟨v1, ev1, hf⟩ := xb hf
  obtain ⟨v2, ev2, hf⟩ := xb1 hf
  refine xc_Vi (rest := [.int p0]) ⟨hx, hb, hml, hown, hts⟩ (m_X3_lack l B0 G h a0 v2 ev2) (cwV 0 hts gX3_give_X3_lack rfl rfl rfl (by decide +kernel) ⟨Nat.le_of_ble_eq_true rfl, Nat.le_of_ble_eq_true rfl⟩) hKK hP hS ev1 rfl rfl hl.1 rfl (Nat.le_of_ble_eq_true rfl) dX3_give_2 ⟨Nat.zero_le _, Nat.zero_le _⟩ (fun H locs hP hS => ?_)
  refine xr_mmin hx hb (hml.trans hl.1.symm) hown w1 w2 w3 w4 ⟨Nat.le_of_ble_eq_true rfl, Nat.le_of_ble_eq_true rfl⟩ (Nat.le_of_ble_eq_true rfl) ⟨Nat.zero_le _, Nat.zero_le _⟩ dX3_give_5 ?_
  obtain ⟨v3, ev3, hf⟩ := xl hf
  refine xtopi ev3 ?_
  refine lv_istore_n (lv' := [(2, .int v3), (0, .ref a0), (1, .int p0)]) hx hb dX3_give_8 rfl hl (by decide) rfl (fun ls hl => ?_)
  refine lv_aload_n hx hb dX3_give_9 rfl (lv_at hl 1 rfl) ?_
  refine lv_dup hx hb dX3_give_10 rfl ?_
  obtain ⟨v4, ev4, hf⟩ := xb hf
  refine xr_getI hx hb hts inX3 hown hKK hP ev4 rfl (by decide) w5 (fun _ h9 => h9) dX3_give_11 ?_
  refine lv_iload_n hx hb dX3_give_14 rfl (lv_at hl 0 rfl) ?_
  refine lv_iadd hx hb dX3_give_15 ?_
  obtain ⟨h1, eh1, hf⟩ := xb hf
  refine xr_put hx hb hts inX3 tyX3 tyX3_ok nmX3 hown hKK hP hS eh1 rfl (by decide) w5 (fun _ h9 => h9) rfl (tyX3_ok 2 (by decide)) rfl rfl dX3_give_16 (fun H locs hP _ hS => ?_)
  refine lv_iload_n hx hb dX3_give_19 rfl (lv_at hl 0 rfl) ?_
  obtain ⟨rfl, rfl⟩ := xinj2 hf
  subst hQ
  exact xe_i hx hb hr hlocks hKK hP hS dX3_give_20
