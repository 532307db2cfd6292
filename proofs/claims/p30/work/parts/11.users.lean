/-- RainReservoir$Users.copyFrom -/
def f_X4_copyFrom (fu : Nat) (h : XH) (a0 : Nat) (q0 : Nat) : Option (XH) :=
  (xgI h q0 4 1).bind fun v1 =>
  (xpV h a0 4 1 (.int v1)).bind fun h1 =>
  obind1 (xloop (xf2 fun (v2 : Int32) (h2 : XH) =>
    (xgI h2 a0 4 1).bind fun v3 =>
    if v3 ≤ v2 then
      some (.inr h2)
    else
      (xgR h2 a0 4 0).bind fun v4 =>
      (xaldR h2 v4 5 v2).bind fun v5 =>
      (xgR h2 q0 4 0).bind fun v6 =>
      (xaldR h2 v6 5 v2).bind fun v7 =>
      (xis h2 v5 3).bind fun v8 =>
      obind1 (f_X3_copyFrom h2 v5 v7) fun h4 =>
      olet (v2 + (1 : Int32)) fun v9 =>
      some (.inl (v9, h4))
  ) fu ((0 : Int32), h1)) fun h3 =>
  some (h3)
abbrev rmX4_copyFrom : Room := { frames := 3, cells := 0, slots := 0, locals := 63 }
set_option maxHeartbeats 4000000 in
set_option maxRecDepth 100000 in
theorem m_X4_copyFrom (l : Launch) (B0 : Nat) (G : XG) (fu : Nat) (h hE : XH) (a0 : Nat) (q0 : Nat) (hf : f_X4_copyFrom fu h a0 q0 = some hE) : Met l yX4_copyFrom wsX4_copyFrom rmX4_copyFrom (va_Pc [.ref a0, .ref q0] (xU B0 G h)) (xQv B0 G hE) 0 0 (xA B0) := by
  refine xMet (cc := cX4_copyFrom) (maxL := 3) (by decide) rfl (Nat.le_of_ble_eq_true rfl) ?_
  intro p e s m args below meth c ls hx hb hr hml hown hlocks hnm hts hKK hP hl
  have hown : s.vm.findClass RX4 = some m.cls := hown
  have hl : lv_has ls 3 [(0, .ref a0), (1, .ref q0)] := hl
  have hS : va_S (xA B0) s.heap s.heap [] := va_S.rf
  have inX4 : ∀ w ∈ wsX40, w ∈ wsX4_copyFrom := by decide +kernel
  have w1 := hts (.fieldLink RX4 22 "RainReservoir$Users" "count" "I") (by decide +kernel)
  have w2 := hts (.fieldLink RX4 11 "RainReservoir$Users" "rows" "[LRainReservoir$User;") (by decide +kernel)
  generalize hQ : MQ below (xQv B0 G hE) args s 0 0 (xA B0) = Q
  unfold f_X4_copyFrom at hf
  refine lv_aload_n hx hb dX4_copyFrom_0 rfl (lv_at hl 0 rfl) ?_
  refine lv_aload_n hx hb dX4_copyFrom_1 rfl (lv_at hl 1 rfl) ?_
  obtain ⟨v1, ev1, hf⟩ := xb hf
  refine xr_getI hx hb hts inX4 hown hKK hP ev1 rfl (by decide) w1 (fun _ h9 => h9) dX4_copyFrom_2 ?_
  obtain ⟨h1, eh1, hf⟩ := xb hf
  refine xr_put hx hb hts inX4 tyX4 tyX4_ok nmX4 hown hKK hP hS eh1 rfl (by decide) w1 (fun _ h9 => h9) rfl (tyX4_ok 1 (by decide)) rfl rfl dX4_copyFrom_5 (fun H locs hP _ hS => ?_)
  refine lv_iconst (v := (0 : Int32)) hx hb dX4_copyFrom_8 (by decide) ?_
  refine lv_istore_n (lv' := [(2, .int (0 : Int32)), (0, .ref a0), (1, .ref q0)]) hx hb dX4_copyFrom_9 rfl hl (by decide) rfl (fun ls hl => ?_)
  obtain ⟨h3, eL, hf⟩ := xb1 hf
  have J1 : ∀ (H : Heap) (locs : List Loc) (ls : Array Slot), xP B0 G h3 H → va_S (xA B0) s.heap H locs → lv_has ls 3 [] → W p l e rmX4_copyFrom s m args below meth c H locs 0 0 Q (F0 m 39 ls []) := by
    intro H locs ls hP hS hl
    clear eL
    obtain rfl := Option.some.inj hf
    subst hQ
    exact xe_v hx hb hr hlocks hKK hP hS dX4_copyFrom_39
  clear hf
  refine xloop_ind (P := fun z => ∀ (H : Heap) (locs : List Loc) (ls : Array Slot), xP B0 G z.2 H → va_S (xA B0) s.heap H locs → lv_has ls 3 [(2, .int z.1), (0, .ref a0), (1, .ref q0)] → W p l e rmX4_copyFrom s m args below meth c H locs 0 0 Q (F0 m 10 ls [])) ?_ eL _ _ _ hP hS (lv_sub hl [0, 1, 2] rfl)
  rintro ⟨v2, h2⟩ o hf IH EX H locs ls hP hS hl
  have hf := xf2_e hf
  have hP : xP B0 G h2 H := hP
  have hl : lv_has ls 3 [(2, .int v2), (0, .ref a0), (1, .ref q0)] := hl
  refine lv_iload_n hx hb dX4_copyFrom_10 rfl (lv_at hl 0 rfl) ?_
  refine lv_aload_n hx hb dX4_copyFrom_11 rfl (lv_at hl 1 rfl) ?_
  obtain ⟨v3, ev3, hf⟩ := xb hf
  refine xr_getI hx hb hts inX4 hown hKK hP ev3 rfl (by decide) w1 (fun _ h9 => h9) dX4_copyFrom_12 ?_
  refine lv_icmp_ge (tgt := 39) hx hb dX4_copyFrom_15 (by decide) (fun c1 => ?_) (fun c1 => ?_)
  · have hf := xif_t hf c1
    have hf := EX _ (Option.some.inj hf).symm
    obtain rfl := hf
    exact J1 _ _ _ hP hS (lv_sub hl [] rfl)
  · have hf := xif_f hf c1
    refine lv_aload_n hx hb dX4_copyFrom_18 rfl (lv_at hl 1 rfl) ?_
    obtain ⟨v4, ev4, hf⟩ := xb hf
    refine xr_getR hx hb hts inX4 hown hKK hP ev4 rfl (by decide) w2 (fun _ h9 => h9) dX4_copyFrom_19 ?_
    refine lv_iload_n hx hb dX4_copyFrom_22 rfl (lv_at hl 0 rfl) ?_
    obtain ⟨v5, ev5, hf⟩ := xb hf
    refine xr_aald (fun _ => rfl) hx hb hKK hP ev5 dX4_copyFrom_23 ?_
    refine lv_aload_n hx hb dX4_copyFrom_24 rfl (lv_at hl 2 rfl) ?_
    obtain ⟨v6, ev6, hf⟩ := xb hf
    refine xr_getR hx hb hts inX4 hown hKK hP ev6 rfl (by decide) w2 (fun _ h9 => h9) dX4_copyFrom_25 ?_
    refine lv_iload_n hx hb dX4_copyFrom_28 rfl (lv_at hl 0 rfl) ?_
    obtain ⟨v7, ev7, hf⟩ := xb hf
    refine xr_aald (fun _ => rfl) hx hb hKK hP ev7 dX4_copyFrom_29 ?_
    obtain ⟨v8, ev8, hf⟩ := xb hf
    obtain ⟨h4, eh4, hf⟩ := xb1 hf
    refine xc_Vv (rest := []) ⟨hx, hb, hml, hown, hts⟩ (m_X3_copyFrom l B0 G h2 h4 v5 v7 eh4) (cwV 1 hts gX4_copyFrom_X3_copyFrom rfl rfl rfl (by decide +kernel) ⟨Nat.le_of_ble_eq_true rfl, Nat.le_of_ble_eq_true rfl⟩) hKK hP hS ev8 rfl rfl hl.1 rfl (Nat.le_of_ble_eq_true rfl) dX4_copyFrom_30 ⟨Nat.zero_le _, Nat.zero_le _⟩ (fun H locs hP hS => ?_)
    obtain ⟨v9, ev9, hf⟩ := xl hf
    refine lv_iinc (v := v9) (lv' := [(2, .int v9), (0, .ref a0), (1, .ref q0)]) hx hb dX4_copyFrom_33 hl (k := 0) rfl (by rw [ev9]; rfl) (by decide) rfl (fun ls hl => ?_)
    refine lv_goto (tgt := 10) hx hb dX4_copyFrom_36 (by decide) ?_
    exact IH _ (Option.some.inj hf).symm _ _ _ hP hS (lv_sub hl [0, 1, 2] rfl)
/-- RainReservoir$Users.demandInAll -/
def f_X4_demandInAll (fu : Nat) (h : XH) (a0 : Nat) : Option (Int32) :=
  obind1 (xloop (xf2 fun (v1 : Int32) (v2 : Int32) =>
    (xgI h a0 4 1).bind fun v4 =>
    if v4 ≤ v2 then
      some (.inr v1)
    else
      (xgR h a0 4 0).bind fun v5 =>
      (xaldR h v5 5 v2).bind fun v6 =>
      (xgI h v6 3 0).bind fun v7 =>
      olet ((v1 + v7)) fun v8 =>
      olet (v2 + (1 : Int32)) fun v9 =>
      some (.inl (v8, v9))
  ) fu ((0 : Int32), (0 : Int32))) fun v3 =>
  some (v3)
abbrev rmX4_demandInAll : Room := { frames := 0, cells := 0, slots := 0, locals := 0 }
set_option maxHeartbeats 4000000 in
set_option maxRecDepth 100000 in
theorem m_X4_demandInAll (l : Launch) (B0 : Nat) (G : XG) (fu : Nat) (h : XH) (a0 : Nat) (rE : Int32) (hf : f_X4_demandInAll fu h a0 = some rE) : Met l yX4_demandInAll wsX4_demandInAll rmX4_demandInAll (va_Pc [.ref a0] (xU B0 G h)) (xQi B0 G h rE) 0 0 (xA B0) := by
  refine xMet (cc := cX4_demandInAll) (maxL := 3) (by decide) rfl (Nat.le_of_ble_eq_true rfl) ?_
  intro p e s m args below meth c ls hx hb hr hml hown hlocks hnm hts hKK hP hl
  have hown : s.vm.findClass RX4 = some m.cls := hown
  have hl : lv_has ls 3 [(0, .ref a0)] := hl
  have hS : va_S (xA B0) s.heap s.heap [] := va_S.rf
  have inX3 : ∀ w ∈ wsX30, w ∈ wsX4_demandInAll := by decide +kernel
  have inX4 : ∀ w ∈ wsX40, w ∈ wsX4_demandInAll := by decide +kernel
  have w1 := hts (.fieldLink RX4 22 "RainReservoir$Users" "count" "I") (by decide +kernel)
  have w2 := hts (.fieldLink RX4 11 "RainReservoir$Users" "rows" "[LRainReservoir$User;") (by decide +kernel)
  have w3 := hts (.fieldLink RX4 33 "RainReservoir$User" "demand" "I") (by decide +kernel)
  generalize hQ : MQ below (xQi B0 G h rE) args s 0 0 (xA B0) = Q
  unfold f_X4_demandInAll at hf
  refine lv_iconst (v := (0 : Int32)) hx hb dX4_demandInAll_0 (by decide) ?_
  refine lv_istore_n (lv' := [(1, .int (0 : Int32)), (0, .ref a0)]) hx hb dX4_demandInAll_1 rfl hl (by decide) rfl (fun ls hl => ?_)
  refine lv_iconst (v := (0 : Int32)) hx hb dX4_demandInAll_2 (by decide) ?_
  refine lv_istore_n (lv' := [(2, .int (0 : Int32)), (1, .int (0 : Int32)), (0, .ref a0)]) hx hb dX4_demandInAll_3 rfl hl (by decide) rfl (fun ls hl => ?_)
  obtain ⟨v3, eL, hf⟩ := xb1 hf
  have J1 : ∀ (H : Heap) (locs : List Loc) (ls : Array Slot), xP B0 G h H → va_S (xA B0) s.heap H locs → lv_has ls 3 [(1, .int v3)] → W p l e rmX4_demandInAll s m args below meth c H locs 0 0 Q (F0 m 30 ls []) := by
    intro H locs ls hP hS hl
    clear eL
    refine lv_iload_n hx hb dX4_demandInAll_30 rfl (lv_at hl 0 rfl) ?_
    obtain rfl := Option.some.inj hf
    subst hQ
    exact xe_i hx hb hr hlocks hKK hP hS dX4_demandInAll_31
  clear hf
  refine xloop_ind (P := fun z => ∀ (H : Heap) (locs : List Loc) (ls : Array Slot), xP B0 G h H → va_S (xA B0) s.heap H locs → lv_has ls 3 [(1, .int z.1), (2, .int z.2), (0, .ref a0)] → W p l e rmX4_demandInAll s m args below meth c H locs 0 0 Q (F0 m 4 ls [])) ?_ eL _ _ _ hP hS (lv_sub hl [1, 0, 2] rfl)
  rintro ⟨v1, v2⟩ o hf IH EX H locs ls hP hS hl
  have hf := xf2_e hf
  have hl : lv_has ls 3 [(1, .int v1), (2, .int v2), (0, .ref a0)] := hl
  refine lv_iload_n hx hb dX4_demandInAll_4 rfl (lv_at hl 1 rfl) ?_
  refine lv_aload_n hx hb dX4_demandInAll_5 rfl (lv_at hl 2 rfl) ?_
  obtain ⟨v4, ev4, hf⟩ := xb hf
  refine xr_getI hx hb hts inX4 hown hKK hP ev4 rfl (by decide) w1 (fun _ h9 => h9) dX4_demandInAll_6 ?_
  refine lv_icmp_ge (tgt := 30) hx hb dX4_demandInAll_9 (by decide) (fun c1 => ?_) (fun c1 => ?_)
  · have hf := xif_t hf c1
    have hf := EX _ (Option.some.inj hf).symm
    obtain rfl := hf
    exact J1 _ _ _ hP hS (lv_sub hl [0] rfl)
  · have hf := xif_f hf c1
    refine lv_iload_n hx hb dX4_demandInAll_12 rfl (lv_at hl 0 rfl) ?_
    refine lv_aload_n hx hb dX4_demandInAll_13 rfl (lv_at hl 2 rfl) ?_
    obtain ⟨v5, ev5, hf⟩ := xb hf
    refine xr_getR hx hb hts inX4 hown hKK hP ev5 rfl (by decide) w2 (fun _ h9 => h9) dX4_demandInAll_14 ?_
    refine lv_iload_n hx hb dX4_demandInAll_17 rfl (lv_at hl 1 rfl) ?_
    obtain ⟨v6, ev6, hf⟩ := xb hf
    refine xr_aald (fun _ => rfl) hx hb hKK hP ev6 dX4_demandInAll_18 ?_
    obtain ⟨v7, ev7, hf⟩ := xb hf
    refine xr_getI hx hb hts inX3 hown hKK hP ev7 rfl (by decide) w3 (fun _ h9 => h9) dX4_demandInAll_19 ?_
    refine lv_iadd hx hb dX4_demandInAll_22 ?_
    obtain ⟨v8, ev8, hf⟩ := xl hf
    refine xtopi ev8 ?_
    refine lv_istore_n (lv' := [(1, .int v8), (2, .int v2), (0, .ref a0)]) hx hb dX4_demandInAll_23 rfl hl (by decide) rfl (fun ls hl => ?_)
    obtain ⟨v9, ev9, hf⟩ := xl hf
    refine lv_iinc (v := v9) (lv' := [(2, .int v9), (1, .int v8), (0, .ref a0)]) hx hb dX4_demandInAll_24 hl (k := 1) rfl (by rw [ev9]; rfl) (by decide) rfl (fun ls hl => ?_)
    refine lv_goto (tgt := 4) hx hb dX4_demandInAll_27 (by decide) ?_
    exact IH _ (Option.some.inj hf).symm _ _ _ hP hS (lv_sub hl [1, 0, 2] rfl)
/-- RainReservoir$Users.orderByNumber -/
def f_X4_orderByNumber (fu : Nat) (h : XH) (a0 : Nat) : Option (XH) :=
  obind1 (xloop (xf2 fun (v1 : Int32) (h1 : XH) =>
    (xgI h1 a0 4 1).bind fun v2 =>
    if v2 ≤ v1 then
      some (.inr h1)
    else
      (xgR h1 a0 4 2).bind fun v3 =>
      (xast h1 v3 0 v1 v1).bind fun h3 =>
      olet (v1 + (1 : Int32)) fun v4 =>
      some (.inl (v4, h3))
  ) fu ((0 : Int32), h)) fun h2 =>
  some (h2)
abbrev rmX4_orderByNumber : Room := { frames := 0, cells := 0, slots := 0, locals := 0 }
set_option maxHeartbeats 4000000 in
set_option maxRecDepth 100000 in
theorem m_X4_orderByNumber (l : Launch) (B0 : Nat) (G : XG) (fu : Nat) (h hE : XH) (a0 : Nat) (hf : f_X4_orderByNumber fu h a0 = some hE) : Met l yX4_orderByNumber wsX4_orderByNumber rmX4_orderByNumber (va_Pc [.ref a0] (xU B0 G h)) (xQv B0 G hE) 0 0 (xA B0) := by
  refine xMet (cc := cX4_orderByNumber) (maxL := 2) (by decide) rfl (Nat.le_of_ble_eq_true rfl) ?_
  intro p e s m args below meth c ls hx hb hr hml hown hlocks hnm hts hKK hP hl
  have hown : s.vm.findClass RX4 = some m.cls := hown
  have hl : lv_has ls 2 [(0, .ref a0)] := hl
  have hS : va_S (xA B0) s.heap s.heap [] := va_S.rf
  have inX4 : ∀ w ∈ wsX40, w ∈ wsX4_orderByNumber := by decide +kernel
  have w1 := hts (.fieldLink RX4 22 "RainReservoir$Users" "count" "I") (by decide +kernel)
  have w2 := hts (.fieldLink RX4 18 "RainReservoir$Users" "order" "[I") (by decide +kernel)
  generalize hQ : MQ below (xQv B0 G hE) args s 0 0 (xA B0) = Q
  unfold f_X4_orderByNumber at hf
  refine lv_iconst (v := (0 : Int32)) hx hb dX4_orderByNumber_0 (by decide) ?_
  refine lv_istore_n (lv' := [(1, .int (0 : Int32)), (0, .ref a0)]) hx hb dX4_orderByNumber_1 rfl hl (by decide) rfl (fun ls hl => ?_)
  obtain ⟨h2, eL, hf⟩ := xb1 hf
  have J1 : ∀ (H : Heap) (locs : List Loc) (ls : Array Slot), xP B0 G h2 H → va_S (xA B0) s.heap H locs → lv_has ls 2 [] → W p l e rmX4_orderByNumber s m args below meth c H locs 0 0 Q (F0 m 23 ls []) := by
    intro H locs ls hP hS hl
    clear eL
    obtain rfl := Option.some.inj hf
    subst hQ
    exact xe_v hx hb hr hlocks hKK hP hS dX4_orderByNumber_23
  clear hf
  refine xloop_ind (P := fun z => ∀ (H : Heap) (locs : List Loc) (ls : Array Slot), xP B0 G z.2 H → va_S (xA B0) s.heap H locs → lv_has ls 2 [(1, .int z.1), (0, .ref a0)] → W p l e rmX4_orderByNumber s m args below meth c H locs 0 0 Q (F0 m 2 ls [])) ?_ eL _ _ _ hP hS (lv_sub hl [0, 1] rfl)
  rintro ⟨v1, h1⟩ o hf IH EX H locs ls hP hS hl
  have hf := xf2_e hf
  have hP : xP B0 G h1 H := hP
  have hl : lv_has ls 2 [(1, .int v1), (0, .ref a0)] := hl
  refine lv_iload_n hx hb dX4_orderByNumber_2 rfl (lv_at hl 0 rfl) ?_
  refine lv_aload_n hx hb dX4_orderByNumber_3 rfl (lv_at hl 1 rfl) ?_
  obtain ⟨v2, ev2, hf⟩ := xb hf
  refine xr_getI hx hb hts inX4 hown hKK hP ev2 rfl (by decide) w1 (fun _ h9 => h9) dX4_orderByNumber_4 ?_
  refine lv_icmp_ge (tgt := 23) hx hb dX4_orderByNumber_7 (by decide) (fun c1 => ?_) (fun c1 => ?_)
  · have hf := xif_t hf c1
    have hf := EX _ (Option.some.inj hf).symm
    obtain rfl := hf
    exact J1 _ _ _ hP hS (lv_sub hl [] rfl)
  · have hf := xif_f hf c1
    refine lv_aload_n hx hb dX4_orderByNumber_10 rfl (lv_at hl 1 rfl) ?_
    obtain ⟨v3, ev3, hf⟩ := xb hf
    refine xr_getR hx hb hts inX4 hown hKK hP ev3 rfl (by decide) w2 (fun _ h9 => h9) dX4_orderByNumber_11 ?_
    refine lv_iload_n hx hb dX4_orderByNumber_14 rfl (lv_at hl 0 rfl) ?_
    refine lv_iload_n hx hb dX4_orderByNumber_15 rfl (lv_at hl 0 rfl) ?_
    obtain ⟨h3, eh3, hf⟩ := xb hf
    refine xr_iast hx hb hKK hP hS eh3 dX4_orderByNumber_16 (fun H locs hP _ hS => ?_)
    obtain ⟨v4, ev4, hf⟩ := xl hf
    refine lv_iinc (v := v4) (lv' := [(1, .int v4), (0, .ref a0)]) hx hb dX4_orderByNumber_17 hl (k := 0) rfl (by rw [ev4]; rfl) (by decide) rfl (fun ls hl => ?_)
    refine lv_goto (tgt := 2) hx hb dX4_orderByNumber_20 (by decide) ?_
    exact IH _ (Option.some.inj hf).symm _ _ _ hP hS (lv_sub hl [0, 1] rfl)
/-- RainReservoir$Users.serveOrder -/
def f_X4_serveOrder (fu : Nat) (h : XH) (a0 : Nat) (p0 : Int32) : Option (XH) :=
  obind1 (xloop (xf3 fun (v1 : Int32) (v2 : Int32) (h1 : XH) =>
    (xgI h1 a0 4 1).bind fun v3 =>
    if v3 ≤ v2 then
      some (.inr h1)
    else
      (xgR h1 a0 4 0).bind fun v4 =>
      (xgR h1 a0 4 2).bind fun v5 =>
      (xald h1 v5 0 v2).bind fun v6 =>
      (xaldR h1 v4 5 v6).bind fun v7 =>
      (xis h1 v7 3).bind fun v8 =>
      obind2 (f_X3_give h1 v7 v1) fun v9 h3 =>
      olet ((v1 - v9)) fun v10 =>
      olet (v2 + (1 : Int32)) fun v11 =>
      some (.inl (v10, v11, h3))
  ) fu (p0, (0 : Int32), h)) fun h2 =>
  some (h2)
abbrev rmX4_serveOrder : Room := { frames := 2, cells := 0, slots := 0, locals := 43 }
set_option maxHeartbeats 4000000 in
set_option maxRecDepth 100000 in
theorem m_X4_serveOrder (l : Launch) (B0 : Nat) (G : XG) (fu : Nat) (h hE : XH) (a0 : Nat) (p0 : Int32) (hf : f_X4_serveOrder fu h a0 p0 = some hE) : Met l yX4_serveOrder wsX4_serveOrder rmX4_serveOrder (va_Pc [.ref a0, .int p0] (xU B0 G h)) (xQv B0 G hE) 0 0 (xA B0) := by
  refine xMet (cc := cX4_serveOrder) (maxL := 4) (by decide) rfl (Nat.le_of_ble_eq_true rfl) ?_
  intro p e s m args below meth c ls hx hb hr hml hown hlocks hnm hts hKK hP hl
  have hown : s.vm.findClass RX4 = some m.cls := hown
  have hl : lv_has ls 4 [(0, .ref a0), (1, .int p0)] := hl
  have hS : va_S (xA B0) s.heap s.heap [] := va_S.rf
  have inX4 : ∀ w ∈ wsX40, w ∈ wsX4_serveOrder := by decide +kernel
  have w1 := hts (.fieldLink RX4 22 "RainReservoir$Users" "count" "I") (by decide +kernel)
  have w2 := hts (.fieldLink RX4 11 "RainReservoir$Users" "rows" "[LRainReservoir$User;") (by decide +kernel)
  have w3 := hts (.fieldLink RX4 18 "RainReservoir$Users" "order" "[I") (by decide +kernel)
  generalize hQ : MQ below (xQv B0 G hE) args s 0 0 (xA B0) = Q
  unfold f_X4_serveOrder at hf
  refine lv_iload_n hx hb dX4_serveOrder_0 rfl (lv_at hl 1 rfl) ?_
  refine lv_istore_n (lv' := [(2, .int p0), (0, .ref a0), (1, .int p0)]) hx hb dX4_serveOrder_1 rfl hl (by decide) rfl (fun ls hl => ?_)
  refine lv_iconst (v := (0 : Int32)) hx hb dX4_serveOrder_2 (by decide) ?_
  refine lv_istore_n (lv' := [(3, .int (0 : Int32)), (2, .int p0), (0, .ref a0), (1, .int p0)]) hx hb dX4_serveOrder_3 rfl hl (by decide) rfl (fun ls hl => ?_)
  obtain ⟨h2, eL, hf⟩ := xb1 hf
  have J1 : ∀ (H : Heap) (locs : List Loc) (ls : Array Slot), xP B0 G h2 H → va_S (xA B0) s.heap H locs → lv_has ls 4 [] → W p l e rmX4_serveOrder s m args below meth c H locs 0 0 Q (F0 m 36 ls []) := by
    intro H locs ls hP hS hl
    clear eL
    obtain rfl := Option.some.inj hf
    subst hQ
    exact xe_v hx hb hr hlocks hKK hP hS dX4_serveOrder_36
  clear hf
  refine xloop_ind (P := fun z => ∀ (H : Heap) (locs : List Loc) (ls : Array Slot), xP B0 G z.2.2 H → va_S (xA B0) s.heap H locs → lv_has ls 4 [(2, .int z.1), (3, .int z.2.1), (0, .ref a0)] → W p l e rmX4_serveOrder s m args below meth c H locs 0 0 Q (F0 m 4 ls [])) ?_ eL _ _ _ hP hS (lv_sub hl [1, 0, 2] rfl)
  rintro ⟨v1, v2, h1⟩ o hf IH EX H locs ls hP hS hl
  have hf := xf3_e hf
  have hP : xP B0 G h1 H := hP
  have hl : lv_has ls 4 [(2, .int v1), (3, .int v2), (0, .ref a0)] := hl
  refine lv_iload_n hx hb dX4_serveOrder_4 rfl (lv_at hl 1 rfl) ?_
  refine lv_aload_n hx hb dX4_serveOrder_5 rfl (lv_at hl 2 rfl) ?_
  obtain ⟨v3, ev3, hf⟩ := xb hf
  refine xr_getI hx hb hts inX4 hown hKK hP ev3 rfl (by decide) w1 (fun _ h9 => h9) dX4_serveOrder_6 ?_
  refine lv_icmp_ge (tgt := 36) hx hb dX4_serveOrder_9 (by decide) (fun c1 => ?_) (fun c1 => ?_)
  · have hf := xif_t hf c1
    have hf := EX _ (Option.some.inj hf).symm
    obtain rfl := hf
    exact J1 _ _ _ hP hS (lv_sub hl [] rfl)
  · have hf := xif_f hf c1
    refine lv_iload_n hx hb dX4_serveOrder_12 rfl (lv_at hl 0 rfl) ?_
    refine lv_aload_n hx hb dX4_serveOrder_13 rfl (lv_at hl 2 rfl) ?_
    obtain ⟨v4, ev4, hf⟩ := xb hf
    refine xr_getR hx hb hts inX4 hown hKK hP ev4 rfl (by decide) w2 (fun _ h9 => h9) dX4_serveOrder_14 ?_
    refine lv_aload_n hx hb dX4_serveOrder_17 rfl (lv_at hl 2 rfl) ?_
    obtain ⟨v5, ev5, hf⟩ := xb hf
    refine xr_getR hx hb hts inX4 hown hKK hP ev5 rfl (by decide) w3 (fun _ h9 => h9) dX4_serveOrder_18 ?_
    refine lv_iload_n hx hb dX4_serveOrder_21 rfl (lv_at hl 1 rfl) ?_
    obtain ⟨v6, ev6, hf⟩ := xb hf
    refine xr_iald hx hb hKK hP ev6 dX4_serveOrder_22 ?_
    obtain ⟨v7, ev7, hf⟩ := xb hf
    refine xr_aald (fun _ => rfl) hx hb hKK hP ev7 dX4_serveOrder_23 ?_
    refine lv_iload_n hx hb dX4_serveOrder_24 rfl (lv_at hl 0 rfl) ?_
    obtain ⟨v8, ev8, hf⟩ := xb hf
    obtain ⟨v9, h3, ev9, hf⟩ := xb2 hf
    refine xc_Vi (rest := [.int v1]) ⟨hx, hb, hml, hown, hts⟩ (m_X3_give l B0 G h1 h3 v7 v1 v9 ev9) (cwV 1 hts gX4_serveOrder_X3_give rfl rfl rfl (by decide +kernel) ⟨Nat.le_of_ble_eq_true rfl, Nat.le_of_ble_eq_true rfl⟩) hKK hP hS ev8 rfl rfl hl.1 rfl (Nat.le_of_ble_eq_true rfl) dX4_serveOrder_25 ⟨Nat.zero_le _, Nat.zero_le _⟩ (fun H locs hP hS => ?_)
    refine lv_isub hx hb dX4_serveOrder_28 ?_
    obtain ⟨v10, ev10, hf⟩ := xl hf
    refine xtopi ev10 ?_
    refine lv_istore_n (lv' := [(2, .int v10), (3, .int v2), (0, .ref a0)]) hx hb dX4_serveOrder_29 rfl hl (by decide) rfl (fun ls hl => ?_)
    obtain ⟨v11, ev11, hf⟩ := xl hf
    refine lv_iinc (v := v11) (lv' := [(3, .int v11), (2, .int v10), (0, .ref a0)]) hx hb dX4_serveOrder_30 hl (k := 1) rfl (by rw [ev11]; rfl) (by decide) rfl (fun ls hl => ?_)
    refine lv_goto (tgt := 4) hx hb dX4_serveOrder_33 (by decide) ?_
    exact IH _ (Option.some.inj hf).symm _ _ _ hP hS (lv_sub hl [1, 0, 2] rfl)
/-- RainReservoir$Users.shareByDemand -/
def f_X4_shareByDemand (fu : Nat) (h : XH) (a0 : Nat) (p0 : Int32) (p1 : Int32) : Option (XH) :=
  if (0 : Int32) < p1 then
    obind2 (xloop (xf3 fun (v1 : Int32) (v2 : Int32) (h1 : XH) =>
      (xgI h1 a0 4 1).bind fun v4 =>
      if v4 ≤ v2 then
        some (.inr (v1, h1))
      else
        (xgR h1 a0 4 0).bind fun v5 =>
        (xaldR h1 v5 5 v2).bind fun v6 =>
        (xgI h1 v6 3 0).bind fun v7 =>
        (xnzL (Int32.toInt64 p1)).bind fun v8 =>
        olet ((((Int32.toInt64 v7) * (Int32.toInt64 p0)) / (Int32.toInt64 p1))) fun v9 =>
        (xgR h1 a0 4 0).bind fun v10 =>
        (xaldR h1 v10 5 v2).bind fun v11 =>
        (xis h1 v11 3).bind fun v12 =>
        obind2 (f_X3_give h1 v11 (Int64.toInt32 v9)) fun v13 h3 =>
        olet ((v1 - v13)) fun v14 =>
        olet (v2 + (1 : Int32)) fun v15 =>
        some (.inl (v14, v15, h3))
    ) fu (p0, (0 : Int32), h)) fun v3 h2 =>
    obind1 (xloop (xf3 fun (v16 : Int32) (v17 : Int32) (h4 : XH) =>
      (xgI h4 a0 4 1).bind fun v18 =>
      if v18 ≤ v17 then
        some (.inr h4)
      else
        if v16 ≤ (0 : Int32) then
          some (.inr h4)
        else
          (xgR h4 a0 4 0).bind fun v19 =>
          (xaldR h4 v19 5 v17).bind fun v20 =>
          (xis h4 v20 3).bind fun v21 =>
          obind2 (f_X3_give h4 v20 (1 : Int32)) fun v22 h6 =>
          olet ((v16 - v22)) fun v23 =>
          olet (v17 + (1 : Int32)) fun v24 =>
          some (.inl (v23, v24, h6))
    ) fu (v3, (0 : Int32), h2)) fun h5 =>
    some (h5)
  else
    some (h)
abbrev rmX4_shareByDemand : Room := { frames := 2, cells := 0, slots := 0, locals := 43 }
set_option maxHeartbeats 4000000 in
set_option maxRecDepth 100000 in
theorem m_X4_shareByDemand (l : Launch) (B0 : Nat) (G : XG) (fu : Nat) (h hE : XH) (a0 : Nat) (p0 : Int32) (p1 : Int32) (hf : f_X4_shareByDemand fu h a0 p0 p1 = some hE) : Met l yX4_shareByDemand wsX4_shareByDemand rmX4_shareByDemand (va_Pc [.ref a0, .int p0, .int p1] (xU B0 G h)) (xQv B0 G hE) 0 0 (xA B0) := by
  refine xMet (cc := cX4_shareByDemand) (maxL := 7) (by decide) rfl (Nat.le_of_ble_eq_true rfl) ?_
  intro p e s m args below meth c ls hx hb hr hml hown hlocks hnm hts hKK hP hl
  have hown : s.vm.findClass RX4 = some m.cls := hown
  have hl : lv_has ls 7 [(0, .ref a0), (1, .int p0), (2, .int p1)] := hl
  have hS : va_S (xA B0) s.heap s.heap [] := va_S.rf
  have inX3 : ∀ w ∈ wsX30, w ∈ wsX4_shareByDemand := by decide +kernel
  have inX4 : ∀ w ∈ wsX40, w ∈ wsX4_shareByDemand := by decide +kernel
  have w1 := hts (.fieldLink RX4 22 "RainReservoir$Users" "count" "I") (by decide +kernel)
  have w2 := hts (.fieldLink RX4 11 "RainReservoir$Users" "rows" "[LRainReservoir$User;") (by decide +kernel)
  have w3 := hts (.fieldLink RX4 33 "RainReservoir$User" "demand" "I") (by decide +kernel)
  generalize hQ : MQ below (xQv B0 G hE) args s 0 0 (xA B0) = Q
  unfold f_X4_shareByDemand at hf
  refine lv_iload_n hx hb dX4_shareByDemand_0 rfl (lv_at hl 2 rfl) ?_
  refine lv_if_gt (tgt := 5) hx hb dX4_shareByDemand_1 (by decide) (fun c1 => ?_) (fun c1 => ?_)
  · have hf := xif_t hf c1
    refine lv_iload_n hx hb dX4_shareByDemand_5 rfl (lv_at hl 1 rfl) ?_
    refine lv_istore_n (lv' := [(3, .int p0), (0, .ref a0), (1, .int p0), (2, .int p1)]) hx hb dX4_shareByDemand_6 rfl hl (by decide) rfl (fun ls hl => ?_)
    refine lv_iconst (v := (0 : Int32)) hx hb dX4_shareByDemand_7 (by decide) ?_
    refine lv_istore (lv' := [(4, .int (0 : Int32)), (3, .int p0), (0, .ref a0), (1, .int p0), (2, .int p1)]) hx hb dX4_shareByDemand_8 hl (by decide) rfl (fun ls hl => ?_)
    obtain ⟨v3, h2, eL, hf⟩ := xb2 hf
    have J1 : ∀ (H : Heap) (locs : List Loc) (ls : Array Slot), xP B0 G h2 H → va_S (xA B0) s.heap H locs → lv_has ls 7 [(3, .int v3), (0, .ref a0)] → W p l e rmX4_shareByDemand s m args below meth c H locs 0 0 Q (F0 m 60 ls []) := by
      intro H locs ls hP hS hl
      clear eL
      refine lv_iconst (v := (0 : Int32)) hx hb dX4_shareByDemand_60 (by decide) ?_
      refine lv_istore (lv' := [(4, .int (0 : Int32)), (3, .int v3), (0, .ref a0)]) hx hb dX4_shareByDemand_61 hl (by decide) rfl (fun ls hl => ?_)
      obtain ⟨h5, eL, hf⟩ := xb1 hf
      have J2 : ∀ (H : Heap) (locs : List Loc) (ls : Array Slot), xP B0 G h5 H → va_S (xA B0) s.heap H locs → lv_has ls 7 [] → W p l e rmX4_shareByDemand s m args below meth c H locs 0 0 Q (F0 m 96 ls []) := by
        intro H locs ls hP hS hl
        clear eL
        obtain rfl := Option.some.inj hf
        subst hQ
        exact xe_v hx hb hr hlocks hKK hP hS dX4_shareByDemand_96
      clear hf
      refine xloop_ind (P := fun z => ∀ (H : Heap) (locs : List Loc) (ls : Array Slot), xP B0 G z.2.2 H → va_S (xA B0) s.heap H locs → lv_has ls 7 [(3, .int z.1), (4, .int z.2.1), (0, .ref a0)] → W p l e rmX4_shareByDemand s m args below meth c H locs 0 0 Q (F0 m 63 ls [])) ?_ eL _ _ _ hP hS (lv_sub hl [1, 0, 2] rfl)
      rintro ⟨v16, v17, h4⟩ o hf IH EX H locs ls hP hS hl
      have hf := xf3_e hf
      have hP : xP B0 G h4 H := hP
      have hl : lv_has ls 7 [(3, .int v16), (4, .int v17), (0, .ref a0)] := hl
      refine lv_iload hx hb dX4_shareByDemand_63 (lv_at hl 1 rfl) ?_
      refine lv_aload_n hx hb dX4_shareByDemand_65 rfl (lv_at hl 2 rfl) ?_
      obtain ⟨v18, ev18, hf⟩ := xb hf
      refine xr_getI hx hb hts inX4 hown hKK hP ev18 rfl (by decide) w1 (fun _ h9 => h9) dX4_shareByDemand_66 ?_
      refine lv_icmp_ge (tgt := 96) hx hb dX4_shareByDemand_69 (by decide) (fun c3 => ?_) (fun c3 => ?_)
      · have hf := xif_t hf c3
        have hf := EX _ (Option.some.inj hf).symm
        obtain rfl := hf
        exact J2 _ _ _ hP hS (lv_sub hl [] rfl)
      · have hf := xif_f hf c3
        refine lv_iload_n hx hb dX4_shareByDemand_72 rfl (lv_at hl 0 rfl) ?_
        refine lv_if_le (tgt := 96) hx hb dX4_shareByDemand_73 (by decide) (fun c4 => ?_) (fun c4 => ?_)
        · have hf := xif_t hf c4
          have hf := EX _ (Option.some.inj hf).symm
          obtain rfl := hf
          exact J2 _ _ _ hP hS (lv_sub hl [] rfl)
        · have hf := xif_f hf c4
          refine lv_iload_n hx hb dX4_shareByDemand_76 rfl (lv_at hl 0 rfl) ?_
          refine lv_aload_n hx hb dX4_shareByDemand_77 rfl (lv_at hl 2 rfl) ?_
          obtain ⟨v19, ev19, hf⟩ := xb hf
          refine xr_getR hx hb hts inX4 hown hKK hP ev19 rfl (by decide) w2 (fun _ h9 => h9) dX4_shareByDemand_78 ?_
          refine lv_iload hx hb dX4_shareByDemand_81 (lv_at hl 1 rfl) ?_
          obtain ⟨v20, ev20, hf⟩ := xb hf
          refine xr_aald (fun _ => rfl) hx hb hKK hP ev20 dX4_shareByDemand_83 ?_
          refine lv_iconst (v := (1 : Int32)) hx hb dX4_shareByDemand_84 (by decide) ?_
          obtain ⟨v21, ev21, hf⟩ := xb hf
          obtain ⟨v22, h6, ev22, hf⟩ := xb2 hf
          refine xc_Vi (rest := [.int v16]) ⟨hx, hb, hml, hown, hts⟩ (m_X3_give l B0 G h4 h6 v20 (1 : Int32) v22 ev22) (cwV 1 hts gX4_shareByDemand_X3_give rfl rfl rfl (by decide +kernel) ⟨Nat.le_of_ble_eq_true rfl, Nat.le_of_ble_eq_true rfl⟩) hKK hP hS ev21 rfl rfl hl.1 rfl (Nat.le_of_ble_eq_true rfl) dX4_shareByDemand_85 ⟨Nat.zero_le _, Nat.zero_le _⟩ (fun H locs hP hS => ?_)
          refine lv_isub hx hb dX4_shareByDemand_88 ?_
          obtain ⟨v23, ev23, hf⟩ := xl hf
          refine xtopi ev23 ?_
          refine lv_istore_n (lv' := [(3, .int v23), (4, .int v17), (0, .ref a0)]) hx hb dX4_shareByDemand_89 rfl hl (by decide) rfl (fun ls hl => ?_)
          obtain ⟨v24, ev24, hf⟩ := xl hf
          refine lv_iinc (v := v24) (lv' := [(4, .int v24), (3, .int v23), (0, .ref a0)]) hx hb dX4_shareByDemand_90 hl (k := 1) rfl (by rw [ev24]; rfl) (by decide) rfl (fun ls hl => ?_)
          refine lv_goto (tgt := 63) hx hb dX4_shareByDemand_93 (by decide) ?_
          exact IH _ (Option.some.inj hf).symm _ _ _ hP hS (lv_sub hl [1, 0, 2] rfl)
    clear hf
    refine xloop_ind (P := fun z => ∀ (H : Heap) (locs : List Loc) (ls : Array Slot), xP B0 G z.2.2 H → va_S (xA B0) s.heap H locs → lv_has ls 7 [(3, .int z.1), (4, .int z.2.1), (0, .ref a0), (1, .int p0), (2, .int p1)] → W p l e rmX4_shareByDemand s m args below meth c H locs 0 0 Q (F0 m 10 ls [])) ?_ eL _ _ _ hP hS (lv_sub hl [1, 0, 2, 3, 4] rfl)
    rintro ⟨v1, v2, h1⟩ o hf IH EX H locs ls hP hS hl
    have hf := xf3_e hf
    have hP : xP B0 G h1 H := hP
    have hl : lv_has ls 7 [(3, .int v1), (4, .int v2), (0, .ref a0), (1, .int p0), (2, .int p1)] := hl
    refine lv_iload hx hb dX4_shareByDemand_10 (lv_at hl 1 rfl) ?_
    refine lv_aload_n hx hb dX4_shareByDemand_12 rfl (lv_at hl 2 rfl) ?_
    obtain ⟨v4, ev4, hf⟩ := xb hf
    refine xr_getI hx hb hts inX4 hown hKK hP ev4 rfl (by decide) w1 (fun _ h9 => h9) dX4_shareByDemand_13 ?_
    refine lv_icmp_ge (tgt := 60) hx hb dX4_shareByDemand_16 (by decide) (fun c2 => ?_) (fun c2 => ?_)
    · have hf := xif_t hf c2
      have hf := EX _ (Option.some.inj hf).symm
      obtain ⟨rfl, rfl⟩ := xpair2 hf
      exact J1 _ _ _ hP hS (lv_sub hl [0, 2] rfl)
    · have hf := xif_f hf c2
      refine lv_aload_n hx hb dX4_shareByDemand_19 rfl (lv_at hl 2 rfl) ?_
      obtain ⟨v5, ev5, hf⟩ := xb hf
      refine xr_getR hx hb hts inX4 hown hKK hP ev5 rfl (by decide) w2 (fun _ h9 => h9) dX4_shareByDemand_20 ?_
      refine lv_iload hx hb dX4_shareByDemand_23 (lv_at hl 1 rfl) ?_
      obtain ⟨v6, ev6, hf⟩ := xb hf
      refine xr_aald (fun _ => rfl) hx hb hKK hP ev6 dX4_shareByDemand_25 ?_
      obtain ⟨v7, ev7, hf⟩ := xb hf
      refine xr_getI hx hb hts inX3 hown hKK hP ev7 rfl (by decide) w3 (fun _ h9 => h9) dX4_shareByDemand_26 ?_
      refine lv_i2l hx hb dX4_shareByDemand_29 rfl ?_
      refine lv_iload_n hx hb dX4_shareByDemand_30 rfl (lv_at hl 3 rfl) ?_
      refine lv_i2l hx hb dX4_shareByDemand_31 rfl ?_
      refine lv_lmul hx hb dX4_shareByDemand_32 ?_
      refine lv_iload_n hx hb dX4_shareByDemand_33 rfl (lv_at hl 4 rfl) ?_
      refine lv_i2l hx hb dX4_shareByDemand_34 rfl ?_
      obtain ⟨v8, ev8, hf⟩ := xb hf
      refine lv_ldiv hx hb dX4_shareByDemand_35 (xnzL_spec ev8) ?_
      obtain ⟨v9, ev9, hf⟩ := xl hf
      refine xtopl ev9 ?_
      refine lv_lstore (lv' := [(5, .long v9), (3, .int v1), (4, .int v2), (0, .ref a0), (1, .int p0), (2, .int p1)]) hx hb dX4_shareByDemand_36 hl (by decide) rfl (fun ls hl => ?_)
      refine lv_iload_n hx hb dX4_shareByDemand_38 rfl (lv_at hl 1 rfl) ?_
      refine lv_aload_n hx hb dX4_shareByDemand_39 rfl (lv_at hl 3 rfl) ?_
      obtain ⟨v10, ev10, hf⟩ := xb hf
      refine xr_getR hx hb hts inX4 hown hKK hP ev10 rfl (by decide) w2 (fun _ h9 => h9) dX4_shareByDemand_40 ?_
      refine lv_iload hx hb dX4_shareByDemand_43 (lv_at hl 2 rfl) ?_
      obtain ⟨v11, ev11, hf⟩ := xb hf
      refine xr_aald (fun _ => rfl) hx hb hKK hP ev11 dX4_shareByDemand_45 ?_
      refine lv_lload hx hb dX4_shareByDemand_46 (lv_at hl 0 rfl) ?_
      refine lv_l2i hx hb dX4_shareByDemand_48 rfl ?_
      obtain ⟨v12, ev12, hf⟩ := xb hf
      obtain ⟨v13, h3, ev13, hf⟩ := xb2 hf
      refine xc_Vi (rest := [.int v1]) ⟨hx, hb, hml, hown, hts⟩ (m_X3_give l B0 G h1 h3 v11 (Int64.toInt32 v9) v13 ev13) (cwV 1 hts gX4_shareByDemand_X3_give rfl rfl rfl (by decide +kernel) ⟨Nat.le_of_ble_eq_true rfl, Nat.le_of_ble_eq_true rfl⟩) hKK hP hS ev12 rfl rfl hl.1 rfl (Nat.le_of_ble_eq_true rfl) dX4_shareByDemand_49 ⟨Nat.zero_le _, Nat.zero_le _⟩ (fun H locs hP hS => ?_)
      refine lv_isub hx hb dX4_shareByDemand_52 ?_
      obtain ⟨v14, ev14, hf⟩ := xl hf
      refine xtopi ev14 ?_
      refine lv_istore_n (lv' := [(3, .int v14), (5, .long v9), (4, .int v2), (0, .ref a0), (1, .int p0), (2, .int p1)]) hx hb dX4_shareByDemand_53 rfl hl (by decide) rfl (fun ls hl => ?_)
      obtain ⟨v15, ev15, hf⟩ := xl hf
      refine lv_iinc (v := v15) (lv' := [(4, .int v15), (3, .int v14), (5, .long v9), (0, .ref a0), (1, .int p0), (2, .int p1)]) hx hb dX4_shareByDemand_54 hl (k := 2) rfl (by rw [ev15]; rfl) (by decide) rfl (fun ls hl => ?_)
      refine lv_goto (tgt := 10) hx hb dX4_shareByDemand_57 (by decide) ?_
      exact IH _ (Option.some.inj hf).symm _ _ _ hP hS (lv_sub hl [1, 0, 3, 4, 5] rfl)
  · have hf := xif_f hf c1
    obtain rfl := Option.some.inj hf
    subst hQ
    exact xe_v hx hb hr hlocks hKK hP hS dX4_shareByDemand_4
/-- RainReservoir$Users.fullRounds -/
def f_X4_fullRounds (fu : Nat) (h : XH) (a0 : Nat) (p0 : Int32) : Option (Int32) :=
  obind1 (xloop (xf2 fun (v1 : Int32) (v2 : Int32) =>
    (xgI h a0 4 1).bind fun v4 =>
    if v4 ≤ v2 then
      some (.inr v1)
    else
      (xgR h a0 4 0).bind fun v5 =>
      (xaldR h v5 5 v2).bind fun v6 =>
      (xis h v6 3).bind fun v7 =>
      obind1 (f_X3_lack h v6) fun v8 =>
      obind1 (
        if v8 ≤ (0 : Int32) then
          some v1
        else
          (xgR h a0 4 0).bind fun v10 =>
          (xaldR h v10 5 v2).bind fun v11 =>
          (xis h v11 3).bind fun v12 =>
          obind1 (f_X3_portion h v11) fun v13 =>
          olet ((v1 + v13)) fun v14 =>
          some v14
      ) fun v9 =>
      olet (v2 + (1 : Int32)) fun v15 =>
      some (.inl (v9, v15))
  ) fu ((0 : Int32), (0 : Int32))) fun v3 =>
  obind1 (
    if v3 ≤ (0 : Int32) then
      some (0 : Int32)
    else
      (xnz v3).bind fun v17 =>
      some (p0 / v3)
  ) fun v16 =>
  some (v16)
abbrev rmX4_fullRounds : Room := { frames := 1, cells := 0, slots := 0, locals := 20 }
set_option maxHeartbeats 4000000 in
set_option maxRecDepth 100000 in
theorem m_X4_fullRounds (l : Launch) (B0 : Nat) (G : XG) (fu : Nat) (h : XH) (a0 : Nat) (p0 : Int32) (rE : Int32) (hf : f_X4_fullRounds fu h a0 p0 = some rE) : Met l yX4_fullRounds wsX4_fullRounds rmX4_fullRounds (va_Pc [.ref a0, .int p0] (xU B0 G h)) (xQi B0 G h rE) 0 0 (xA B0) := by
  refine xMet (cc := cX4_fullRounds) (maxL := 4) (by decide) rfl (Nat.le_of_ble_eq_true rfl) ?_
  intro p e s m args below meth c ls hx hb hr hml hown hlocks hnm hts hKK hP hl
  have hown : s.vm.findClass RX4 = some m.cls := hown
  have hl : lv_has ls 4 [(0, .ref a0), (1, .int p0)] := hl
  have hS : va_S (xA B0) s.heap s.heap [] := va_S.rf
  have inX4 : ∀ w ∈ wsX40, w ∈ wsX4_fullRounds := by decide +kernel
  have w1 := hts (.fieldLink RX4 22 "RainReservoir$Users" "count" "I") (by decide +kernel)
  have w2 := hts (.fieldLink RX4 11 "RainReservoir$Users" "rows" "[LRainReservoir$User;") (by decide +kernel)
  generalize hQ : MQ below (xQi B0 G h rE) args s 0 0 (xA B0) = Q
  unfold f_X4_fullRounds at hf
  refine lv_iconst (v := (0 : Int32)) hx hb dX4_fullRounds_0 (by decide) ?_
  refine lv_istore_n (lv' := [(2, .int (0 : Int32)), (0, .ref a0), (1, .int p0)]) hx hb dX4_fullRounds_1 rfl hl (by decide) rfl (fun ls hl => ?_)
  refine lv_iconst (v := (0 : Int32)) hx hb dX4_fullRounds_2 (by decide) ?_
  refine lv_istore_n (lv' := [(3, .int (0 : Int32)), (2, .int (0 : Int32)), (0, .ref a0), (1, .int p0)]) hx hb dX4_fullRounds_3 rfl hl (by decide) rfl (fun ls hl => ?_)
  obtain ⟨v3, eL, hf⟩ := xb1 hf
  have J1 : ∀ (H : Heap) (locs : List Loc) (ls : Array Slot), xP B0 G h H → va_S (xA B0) s.heap H locs → lv_has ls 4 [(2, .int v3), (1, .int p0)] → W p l e rmX4_fullRounds s m args below meth c H locs 0 0 Q (F0 m 42 ls []) := by
    intro H locs ls hP hS hl
    clear eL
    refine lv_iload_n hx hb dX4_fullRounds_42 rfl (lv_at hl 0 rfl) ?_
    obtain ⟨v16, ej3, hf⟩ := xb1 hf
    have J3 : ∀ (H : Heap) (locs : List Loc) (ls : Array Slot), xP B0 G h H → va_S (xA B0) s.heap H locs → lv_has ls 4 [] → W p l e rmX4_fullRounds s m args below meth c H locs 0 0 Q (F0 m 53 ls [.int v16]) := by
      intro H locs ls hP hS hl
      clear ej3
      obtain rfl := Option.some.inj hf
      subst hQ
      exact xe_i hx hb hr hlocks hKK hP hS dX4_fullRounds_53
    have hf := ej3
    clear ej3
    refine lv_if_le (tgt := 52) hx hb dX4_fullRounds_43 (by decide) (fun c3 => ?_) (fun c3 => ?_)
    · have hf := xif_t hf c3
      refine lv_iconst (v := (0 : Int32)) hx hb dX4_fullRounds_52 (by decide) ?_
      obtain rfl := Option.some.inj hf
      exact J3 _ _ _ hP hS (lv_sub hl [] rfl)
    · have hf := xif_f hf c3
      refine lv_iload_n hx hb dX4_fullRounds_46 rfl (lv_at hl 1 rfl) ?_
      refine lv_iload_n hx hb dX4_fullRounds_47 rfl (lv_at hl 0 rfl) ?_
      obtain ⟨v17, ev17, hf⟩ := xb hf
      refine lv_idiv hx hb dX4_fullRounds_48 (xnz_spec ev17) ?_
      refine lv_goto (tgt := 53) hx hb dX4_fullRounds_49 (by decide) ?_
      obtain rfl := Option.some.inj hf
      exact J3 _ _ _ hP hS (lv_sub hl [] rfl)
  clear hf
  refine xloop_ind (P := fun z => ∀ (H : Heap) (locs : List Loc) (ls : Array Slot), xP B0 G h H → va_S (xA B0) s.heap H locs → lv_has ls 4 [(2, .int z.1), (3, .int z.2), (0, .ref a0), (1, .int p0)] → W p l e rmX4_fullRounds s m args below meth c H locs 0 0 Q (F0 m 4 ls [])) ?_ eL _ _ _ hP hS (lv_sub hl [1, 0, 2, 3] rfl)
  rintro ⟨v1, v2⟩ o hf IH EX H locs ls hP hS hl
  have hf := xf2_e hf
  have hl : lv_has ls 4 [(2, .int v1), (3, .int v2), (0, .ref a0), (1, .int p0)] := hl
  refine lv_iload_n hx hb dX4_fullRounds_4 rfl (lv_at hl 1 rfl) ?_
  refine lv_aload_n hx hb dX4_fullRounds_5 rfl (lv_at hl 2 rfl) ?_
  obtain ⟨v4, ev4, hf⟩ := xb hf
  refine xr_getI hx hb hts inX4 hown hKK hP ev4 rfl (by decide) w1 (fun _ h9 => h9) dX4_fullRounds_6 ?_
  refine lv_icmp_ge (tgt := 42) hx hb dX4_fullRounds_9 (by decide) (fun c1 => ?_) (fun c1 => ?_)
  · have hf := xif_t hf c1
    have hf := EX _ (Option.some.inj hf).symm
    obtain rfl := hf
    exact J1 _ _ _ hP hS (lv_sub hl [0, 3] rfl)
  · have hf := xif_f hf c1
    refine lv_aload_n hx hb dX4_fullRounds_12 rfl (lv_at hl 2 rfl) ?_
    obtain ⟨v5, ev5, hf⟩ := xb hf
    refine xr_getR hx hb hts inX4 hown hKK hP ev5 rfl (by decide) w2 (fun _ h9 => h9) dX4_fullRounds_13 ?_
    refine lv_iload_n hx hb dX4_fullRounds_16 rfl (lv_at hl 1 rfl) ?_
    obtain ⟨v6, ev6, hf⟩ := xb hf
    refine xr_aald (fun _ => rfl) hx hb hKK hP ev6 dX4_fullRounds_17 ?_
    obtain ⟨v7, ev7, hf⟩ := xb hf
    obtain ⟨v8, ev8, hf⟩ := xb1 hf
    refine xc_Vi (rest := []) ⟨hx, hb, hml, hown, hts⟩ (m_X3_lack l B0 G h v6 v8 ev8) (cwV 0 hts gX4_fullRounds_X3_lack rfl rfl rfl (by decide +kernel) ⟨Nat.le_of_ble_eq_true rfl, Nat.le_of_ble_eq_true rfl⟩) hKK hP hS ev7 rfl rfl hl.1 rfl (Nat.le_of_ble_eq_true rfl) dX4_fullRounds_18 ⟨Nat.zero_le _, Nat.zero_le _⟩ (fun H locs hP hS => ?_)
    obtain ⟨v9, ej2, hf⟩ := xb1 hf
    have J2 : ∀ (H : Heap) (locs : List Loc) (ls : Array Slot), xP B0 G h H → va_S (xA B0) s.heap H locs → lv_has ls 4 [(2, .int v9), (3, .int v2), (0, .ref a0), (1, .int p0)] → W p l e rmX4_fullRounds s m args below meth c H locs 0 0 Q (F0 m 36 ls []) := by
      intro H locs ls hP hS hl
      clear ej2
      obtain ⟨v15, ev15, hf⟩ := xl hf
      refine lv_iinc (v := v15) (lv' := [(3, .int v15), (2, .int v9), (0, .ref a0), (1, .int p0)]) hx hb dX4_fullRounds_36 hl (k := 1) rfl (by rw [ev15]; rfl) (by decide) rfl (fun ls hl => ?_)
      refine lv_goto (tgt := 4) hx hb dX4_fullRounds_39 (by decide) ?_
      exact IH _ (Option.some.inj hf).symm _ _ _ hP hS (lv_sub hl [1, 0, 2, 3] rfl)
    have hf := ej2
    clear ej2
    refine lv_if_le (tgt := 36) hx hb dX4_fullRounds_21 (by decide) (fun c2 => ?_) (fun c2 => ?_)
    · have hf := xif_t hf c2
      obtain rfl := Option.some.inj hf
      exact J2 _ _ _ hP hS (lv_sub hl [0, 1, 2, 3] rfl)
    · have hf := xif_f hf c2
      refine lv_iload_n hx hb dX4_fullRounds_24 rfl (lv_at hl 0 rfl) ?_
      refine lv_aload_n hx hb dX4_fullRounds_25 rfl (lv_at hl 2 rfl) ?_
      obtain ⟨v10, ev10, hf⟩ := xb hf
      refine xr_getR hx hb hts inX4 hown hKK hP ev10 rfl (by decide) w2 (fun _ h9 => h9) dX4_fullRounds_26 ?_
      refine lv_iload_n hx hb dX4_fullRounds_29 rfl (lv_at hl 1 rfl) ?_
      obtain ⟨v11, ev11, hf⟩ := xb hf
      refine xr_aald (fun _ => rfl) hx hb hKK hP ev11 dX4_fullRounds_30 ?_
      obtain ⟨v12, ev12, hf⟩ := xb hf
      obtain ⟨v13, ev13, hf⟩ := xb1 hf
      refine xc_Vi (rest := [.int v1]) ⟨hx, hb, hml, hown, hts⟩ (m_X3_portion l B0 G h v11 v13 ev13) (cwV 0 hts gX4_fullRounds_X3_portion rfl rfl rfl (by decide +kernel) ⟨Nat.le_of_ble_eq_true rfl, Nat.le_of_ble_eq_true rfl⟩) hKK hP hS ev12 rfl rfl hl.1 rfl (Nat.le_of_ble_eq_true rfl) dX4_fullRounds_31 ⟨Nat.zero_le _, Nat.zero_le _⟩ (fun H locs hP hS => ?_)
      refine lv_iadd hx hb dX4_fullRounds_34 ?_
      obtain ⟨v14, ev14, hf⟩ := xl hf
      refine xtopi ev14 ?_
      refine lv_istore_n (lv' := [(2, .int v14), (3, .int v2), (0, .ref a0), (1, .int p0)]) hx hb dX4_fullRounds_35 rfl hl (by decide) rfl (fun ls hl => ?_)
      obtain rfl := Option.some.inj hf
      exact J2 _ _ _ hP hS (lv_sub hl [0, 1, 2, 3] rfl)
/-- RainReservoir$Users.shareInRounds -/
def f_X4_shareInRounds (fu : Nat) (h : XH) (a0 : Nat) (p0 : Int32) : Option (XH) :=
  obind1 (xloop (xf3 fun (v1 : Int32) (v2 : Int32) (h1 : XH) =>
    (xgI h1 a0 4 1).bind fun v3 =>
    if v3 < v2 then
      some (.inr h1)
    else
      if v1 ≤ (0 : Int32) then
        some (.inr h1)
      else
        (xis h1 a0 4).bind fun v4 =>
        obind1 (f_X4_fullRounds fu h1 a0 v1) fun v5 =>
        obind2 (xloop (xf3 fun (v6 : Int32) (v7 : Int32) (h3 : XH) =>
          (xgI h3 a0 4 1).bind fun v9 =>
          if v9 ≤ v7 then
            some (.inr (v6, h3))
          else
            (xgR h3 a0 4 0).bind fun v10 =>
            (xaldR h3 v10 5 v7).bind fun v11 =>
            (xgR h3 a0 4 0).bind fun v12 =>
            (xaldR h3 v12 5 v7).bind fun v13 =>
            (xis h3 v13 3).bind fun v14 =>
            obind1 (f_X3_portion h3 v13) fun v15 =>
            (xis h3 v11 3).bind fun v16 =>
            obind2 (f_X3_give h3 v11 (v5 * v15)) fun v17 h5 =>
            olet ((v6 - v17)) fun v18 =>
            olet (v7 + (1 : Int32)) fun v19 =>
            some (.inl (v18, v19, h5))
        ) fu (v1, (0 : Int32), h1)) fun v8 h4 =>
        obind2 (xloop (xf3 fun (v20 : Int32) (v21 : Int32) (h6 : XH) =>
          (xgI h6 a0 4 1).bind fun v23 =>
          if v23 ≤ v21 then
            some (.inr (v20, h6))
          else
            (xgR h6 a0 4 0).bind fun v24 =>
            (xaldR h6 v24 5 v21).bind fun v25 =>
            (xgR h6 a0 4 0).bind fun v26 =>
            (xaldR h6 v26 5 v21).bind fun v27 =>
            (xis h6 v27 3).bind fun v28 =>
            obind1 (f_X3_portion h6 v27) fun v29 =>
            (xis h6 v25 3).bind fun v30 =>
            obind2 (f_X3_give h6 v25 (xmin v20 v29)) fun v31 h8 =>
            olet ((v20 - v31)) fun v32 =>
            olet (v21 + (1 : Int32)) fun v33 =>
            some (.inl (v32, v33, h8))
        ) fu (v8, (0 : Int32), h4)) fun v22 h7 =>
        olet (v2 + (1 : Int32)) fun v34 =>
        some (.inl (v22, v34, h7))
  ) fu (p0, (0 : Int32), h)) fun h2 =>
  some (h2)
abbrev rmX4_shareInRounds : Room := { frames := 2, cells := 0, slots := 0, locals := 43 }
set_option maxHeartbeats 4000000 in
set_option maxRecDepth 100000 in
theorem m_X4_shareInRounds (l : Launch) (B0 : Nat) (G : XG) (fu : Nat) (h hE : XH) (a0 : Nat) (p0 : Int32) (hf : f_X4_shareInRounds fu h a0 p0 = some hE) : Met l yX4_shareInRounds wsX4_shareInRounds rmX4_shareInRounds (va_Pc [.ref a0, .int p0] (xU B0 G h)) (xQv B0 G hE) 0 0 (xA B0) := by
  refine xMet (cc := cX4_shareInRounds) (maxL := 6) (by decide) rfl (Nat.le_of_ble_eq_true rfl) ?_
  intro p e s m args below meth c ls hx hb hr hml hown hlocks hnm hts hKK hP hl
  have hown : s.vm.findClass RX4 = some m.cls := hown
  have hl : lv_has ls 6 [(0, .ref a0), (1, .int p0)] := hl
  have hS : va_S (xA B0) s.heap s.heap [] := va_S.rf
  have inX4 : ∀ w ∈ wsX40, w ∈ wsX4_shareInRounds := by decide +kernel
  have w1 := hts (.fieldLink RX4 22 "RainReservoir$Users" "count" "I") (by decide +kernel)
  have w2 := hts (.fieldLink RX4 11 "RainReservoir$Users" "rows" "[LRainReservoir$User;") (by decide +kernel)
  have w3 := hts (.methodLink RX4 83 Lib.Math.min.name) (by decide +kernel)
  have w4 := hts (.static Lib.Math.min.name) (by decide +kernel)
  have w5 := hts (.initialized "java/lang/Math") (by decide +kernel)
  have w6 := hts (.code Lib.Math.min.name Lib.Math.min.code 2 (some .int)) (by decide +kernel)
  generalize hQ : MQ below (xQv B0 G hE) args s 0 0 (xA B0) = Q
  unfold f_X4_shareInRounds at hf
  refine lv_iload_n hx hb dX4_shareInRounds_0 rfl (lv_at hl 1 rfl) ?_
  refine lv_istore_n (lv' := [(2, .int p0), (0, .ref a0), (1, .int p0)]) hx hb dX4_shareInRounds_1 rfl hl (by decide) rfl (fun ls hl => ?_)
  refine lv_iconst (v := (0 : Int32)) hx hb dX4_shareInRounds_2 (by decide) ?_
  refine lv_istore_n (lv' := [(3, .int (0 : Int32)), (2, .int p0), (0, .ref a0), (1, .int p0)]) hx hb dX4_shareInRounds_3 rfl hl (by decide) rfl (fun ls hl => ?_)
  obtain ⟨h2, eL, hf⟩ := xb1 hf
  have J1 : ∀ (H : Heap) (locs : List Loc) (ls : Array Slot), xP B0 G h2 H → va_S (xA B0) s.heap H locs → lv_has ls 6 [] → W p l e rmX4_shareInRounds s m args below meth c H locs 0 0 Q (F0 m 118 ls []) := by
    intro H locs ls hP hS hl
    clear eL
    obtain rfl := Option.some.inj hf
    subst hQ
    exact xe_v hx hb hr hlocks hKK hP hS dX4_shareInRounds_118
  clear hf
  refine xloop_ind (P := fun z => ∀ (H : Heap) (locs : List Loc) (ls : Array Slot), xP B0 G z.2.2 H → va_S (xA B0) s.heap H locs → lv_has ls 6 [(2, .int z.1), (3, .int z.2.1), (0, .ref a0)] → W p l e rmX4_shareInRounds s m args below meth c H locs 0 0 Q (F0 m 4 ls [])) ?_ eL _ _ _ hP hS (lv_sub hl [1, 0, 2] rfl)
  rintro ⟨v1, v2, h1⟩ o hf IH EX H locs ls hP hS hl
  have hf := xf3_e hf
  have hP : xP B0 G h1 H := hP
  have hl : lv_has ls 6 [(2, .int v1), (3, .int v2), (0, .ref a0)] := hl
  refine lv_iload_n hx hb dX4_shareInRounds_4 rfl (lv_at hl 1 rfl) ?_
  refine lv_aload_n hx hb dX4_shareInRounds_5 rfl (lv_at hl 2 rfl) ?_
  obtain ⟨v3, ev3, hf⟩ := xb hf
  refine xr_getI hx hb hts inX4 hown hKK hP ev3 rfl (by decide) w1 (fun _ h9 => h9) dX4_shareInRounds_6 ?_
  refine lv_icmp_gt (tgt := 118) hx hb dX4_shareInRounds_9 (by decide) (fun c1 => ?_) (fun c1 => ?_)
  · have hf := xif_t hf c1
    have hf := EX _ (Option.some.inj hf).symm
    obtain rfl := hf
    exact J1 _ _ _ hP hS (lv_sub hl [] rfl)
  · have hf := xif_f hf c1
    refine lv_iload_n hx hb dX4_shareInRounds_12 rfl (lv_at hl 0 rfl) ?_
    refine lv_if_le (tgt := 118) hx hb dX4_shareInRounds_13 (by decide) (fun c2 => ?_) (fun c2 => ?_)
    · have hf := xif_t hf c2
      have hf := EX _ (Option.some.inj hf).symm
      obtain rfl := hf
      exact J1 _ _ _ hP hS (lv_sub hl [] rfl)
    · have hf := xif_f hf c2
      refine lv_aload_n hx hb dX4_shareInRounds_16 rfl (lv_at hl 2 rfl) ?_
      refine lv_iload_n hx hb dX4_shareInRounds_17 rfl (lv_at hl 0 rfl) ?_
      obtain ⟨v4, ev4, hf⟩ := xb hf
      obtain ⟨v5, ev5, hf⟩ := xb1 hf
      refine xc_Vi (rest := []) ⟨hx, hb, hml, hown, hts⟩ (m_X4_fullRounds l B0 G fu h1 a0 v1 v5 ev5) (cwV 1 hts gX4_shareInRounds_X4_fullRounds rfl rfl rfl (by decide +kernel) ⟨Nat.le_of_ble_eq_true rfl, Nat.le_of_ble_eq_true rfl⟩) hKK hP hS ev4 rfl rfl hl.1 rfl (Nat.le_of_ble_eq_true rfl) dX4_shareInRounds_18 ⟨Nat.zero_le _, Nat.zero_le _⟩ (fun H locs hP hS => ?_)
      refine lv_istore (lv' := [(4, .int v5), (2, .int v1), (3, .int v2), (0, .ref a0)]) hx hb dX4_shareInRounds_21 hl (by decide) rfl (fun ls hl => ?_)
      refine lv_iconst (v := (0 : Int32)) hx hb dX4_shareInRounds_23 (by decide) ?_
      refine lv_istore (lv' := [(5, .int (0 : Int32)), (4, .int v5), (2, .int v1), (3, .int v2), (0, .ref a0)]) hx hb dX4_shareInRounds_24 hl (by decide) rfl (fun ls hl => ?_)
      obtain ⟨v8, h4, eL, hf⟩ := xb2 hf
      have J2 : ∀ (H : Heap) (locs : List Loc) (ls : Array Slot), xP B0 G h4 H → va_S (xA B0) s.heap H locs → lv_has ls 6 [(2, .int v8), (3, .int v2), (0, .ref a0)] → W p l e rmX4_shareInRounds s m args below meth c H locs 0 0 Q (F0 m 67 ls []) := by
        intro H locs ls hP hS hl
        clear eL
        refine lv_iconst (v := (0 : Int32)) hx hb dX4_shareInRounds_67 (by decide) ?_
        refine lv_istore (lv' := [(5, .int (0 : Int32)), (2, .int v8), (3, .int v2), (0, .ref a0)]) hx hb dX4_shareInRounds_68 hl (by decide) rfl (fun ls hl => ?_)
        obtain ⟨v22, h7, eL, hf⟩ := xb2 hf
        have J3 : ∀ (H : Heap) (locs : List Loc) (ls : Array Slot), xP B0 G h7 H → va_S (xA B0) s.heap H locs → lv_has ls 6 [(2, .int v22), (3, .int v2), (0, .ref a0)] → W p l e rmX4_shareInRounds s m args below meth c H locs 0 0 Q (F0 m 112 ls []) := by
          intro H locs ls hP hS hl
          clear eL
          obtain ⟨v34, ev34, hf⟩ := xl hf
          refine lv_iinc (v := v34) (lv' := [(3, .int v34), (2, .int v22), (0, .ref a0)]) hx hb dX4_shareInRounds_112 hl (k := 1) rfl (by rw [ev34]; rfl) (by decide) rfl (fun ls hl => ?_)
          refine lv_goto (tgt := 4) hx hb dX4_shareInRounds_115 (by decide) ?_
          exact IH _ (Option.some.inj hf).symm _ _ _ hP hS (lv_sub hl [1, 0, 2] rfl)
        clear hf
        refine xloop_ind (P := fun z => ∀ (H : Heap) (locs : List Loc) (ls : Array Slot), xP B0 G z.2.2 H → va_S (xA B0) s.heap H locs → lv_has ls 6 [(2, .int z.1), (5, .int z.2.1), (3, .int v2), (0, .ref a0)] → W p l e rmX4_shareInRounds s m args below meth c H locs 0 0 Q (F0 m 70 ls [])) ?_ eL _ _ _ hP hS (lv_sub hl [1, 0, 2, 3] rfl)
        rintro ⟨v20, v21, h6⟩ o hf IH EX H locs ls hP hS hl
        have hf := xf3_e hf
        have hP : xP B0 G h6 H := hP
        have hl : lv_has ls 6 [(2, .int v20), (5, .int v21), (3, .int v2), (0, .ref a0)] := hl
        refine lv_iload hx hb dX4_shareInRounds_70 (lv_at hl 1 rfl) ?_
        refine lv_aload_n hx hb dX4_shareInRounds_72 rfl (lv_at hl 3 rfl) ?_
        obtain ⟨v23, ev23, hf⟩ := xb hf
        refine xr_getI hx hb hts inX4 hown hKK hP ev23 rfl (by decide) w1 (fun _ h9 => h9) dX4_shareInRounds_73 ?_
        refine lv_icmp_ge (tgt := 112) hx hb dX4_shareInRounds_76 (by decide) (fun c4 => ?_) (fun c4 => ?_)
        · have hf := xif_t hf c4
          have hf := EX _ (Option.some.inj hf).symm
          obtain ⟨rfl, rfl⟩ := xpair2 hf
          exact J3 _ _ _ hP hS (lv_sub hl [0, 2, 3] rfl)
        · have hf := xif_f hf c4
          refine lv_iload_n hx hb dX4_shareInRounds_79 rfl (lv_at hl 0 rfl) ?_
          refine lv_aload_n hx hb dX4_shareInRounds_80 rfl (lv_at hl 3 rfl) ?_
          obtain ⟨v24, ev24, hf⟩ := xb hf
          refine xr_getR hx hb hts inX4 hown hKK hP ev24 rfl (by decide) w2 (fun _ h9 => h9) dX4_shareInRounds_81 ?_
          refine lv_iload hx hb dX4_shareInRounds_84 (lv_at hl 1 rfl) ?_
          obtain ⟨v25, ev25, hf⟩ := xb hf
          refine xr_aald (fun _ => rfl) hx hb hKK hP ev25 dX4_shareInRounds_86 ?_
          refine lv_iload_n hx hb dX4_shareInRounds_87 rfl (lv_at hl 0 rfl) ?_
          refine lv_aload_n hx hb dX4_shareInRounds_88 rfl (lv_at hl 3 rfl) ?_
          obtain ⟨v26, ev26, hf⟩ := xb hf
          refine xr_getR hx hb hts inX4 hown hKK hP ev26 rfl (by decide) w2 (fun _ h9 => h9) dX4_shareInRounds_89 ?_
          refine lv_iload hx hb dX4_shareInRounds_92 (lv_at hl 1 rfl) ?_
          obtain ⟨v27, ev27, hf⟩ := xb hf
          refine xr_aald (fun _ => rfl) hx hb hKK hP ev27 dX4_shareInRounds_94 ?_
          obtain ⟨v28, ev28, hf⟩ := xb hf
          obtain ⟨v29, ev29, hf⟩ := xb1 hf
          refine xc_Vi (rest := [.int v20, .ref v25, .int v20]) ⟨hx, hb, hml, hown, hts⟩ (m_X3_portion l B0 G h6 v27 v29 ev29) (cwV 0 hts gX4_shareInRounds_X3_portion rfl rfl rfl (by decide +kernel) ⟨Nat.le_of_ble_eq_true rfl, Nat.le_of_ble_eq_true rfl⟩) hKK hP hS ev28 rfl rfl hl.1 rfl (Nat.le_of_ble_eq_true rfl) dX4_shareInRounds_95 ⟨Nat.zero_le _, Nat.zero_le _⟩ (fun H locs hP hS => ?_)
          refine xr_mmin hx hb (hml.trans hl.1.symm) hown w3 w4 w5 w6 ⟨Nat.le_of_ble_eq_true rfl, Nat.le_of_ble_eq_true rfl⟩ (Nat.le_of_ble_eq_true rfl) ⟨Nat.zero_le _, Nat.zero_le _⟩ dX4_shareInRounds_98 ?_
          obtain ⟨v30, ev30, hf⟩ := xb hf
          obtain ⟨v31, h8, ev31, hf⟩ := xb2 hf
          refine xc_Vi (rest := [.int v20]) ⟨hx, hb, hml, hown, hts⟩ (m_X3_give l B0 G h6 h8 v25 (xmin v20 v29) v31 ev31) (cwV 1 hts gX4_shareInRounds_X3_give rfl rfl rfl (by decide +kernel) ⟨Nat.le_of_ble_eq_true rfl, Nat.le_of_ble_eq_true rfl⟩) hKK hP hS ev30 rfl rfl hl.1 rfl (Nat.le_of_ble_eq_true rfl) dX4_shareInRounds_101 ⟨Nat.zero_le _, Nat.zero_le _⟩ (fun H locs hP hS => ?_)
          refine lv_isub hx hb dX4_shareInRounds_104 ?_
          obtain ⟨v32, ev32, hf⟩ := xl hf
          refine xtopi ev32 ?_
          refine lv_istore_n (lv' := [(2, .int v32), (5, .int v21), (3, .int v2), (0, .ref a0)]) hx hb dX4_shareInRounds_105 rfl hl (by decide) rfl (fun ls hl => ?_)
          obtain ⟨v33, ev33, hf⟩ := xl hf
          refine lv_iinc (v := v33) (lv' := [(5, .int v33), (2, .int v32), (3, .int v2), (0, .ref a0)]) hx hb dX4_shareInRounds_106 hl (k := 1) rfl (by rw [ev33]; rfl) (by decide) rfl (fun ls hl => ?_)
          refine lv_goto (tgt := 70) hx hb dX4_shareInRounds_109 (by decide) ?_
          exact IH _ (Option.some.inj hf).symm _ _ _ hP hS (lv_sub hl [1, 0, 2, 3] rfl)
      clear hf
      refine xloop_ind (P := fun z => ∀ (H : Heap) (locs : List Loc) (ls : Array Slot), xP B0 G z.2.2 H → va_S (xA B0) s.heap H locs → lv_has ls 6 [(2, .int z.1), (5, .int z.2.1), (4, .int v5), (3, .int v2), (0, .ref a0)] → W p l e rmX4_shareInRounds s m args below meth c H locs 0 0 Q (F0 m 26 ls [])) ?_ eL _ _ _ hP hS (lv_sub hl [2, 0, 1, 3, 4] rfl)
      rintro ⟨v6, v7, h3⟩ o hf IH EX H locs ls hP hS hl
      have hf := xf3_e hf
      have hP : xP B0 G h3 H := hP
      have hl : lv_has ls 6 [(2, .int v6), (5, .int v7), (4, .int v5), (3, .int v2), (0, .ref a0)] := hl
      refine lv_iload hx hb dX4_shareInRounds_26 (lv_at hl 1 rfl) ?_
      refine lv_aload_n hx hb dX4_shareInRounds_28 rfl (lv_at hl 4 rfl) ?_
      obtain ⟨v9, ev9, hf⟩ := xb hf
      refine xr_getI hx hb hts inX4 hown hKK hP ev9 rfl (by decide) w1 (fun _ h9 => h9) dX4_shareInRounds_29 ?_
      refine lv_icmp_ge (tgt := 67) hx hb dX4_shareInRounds_32 (by decide) (fun c3 => ?_) (fun c3 => ?_)
      · have hf := xif_t hf c3
        have hf := EX _ (Option.some.inj hf).symm
        obtain ⟨rfl, rfl⟩ := xpair2 hf
        exact J2 _ _ _ hP hS (lv_sub hl [0, 3, 4] rfl)
      · have hf := xif_f hf c3
        refine lv_iload_n hx hb dX4_shareInRounds_35 rfl (lv_at hl 0 rfl) ?_
        refine lv_aload_n hx hb dX4_shareInRounds_36 rfl (lv_at hl 4 rfl) ?_
        obtain ⟨v10, ev10, hf⟩ := xb hf
        refine xr_getR hx hb hts inX4 hown hKK hP ev10 rfl (by decide) w2 (fun _ h9 => h9) dX4_shareInRounds_37 ?_
        refine lv_iload hx hb dX4_shareInRounds_40 (lv_at hl 1 rfl) ?_
        obtain ⟨v11, ev11, hf⟩ := xb hf
        refine xr_aald (fun _ => rfl) hx hb hKK hP ev11 dX4_shareInRounds_42 ?_
        refine lv_iload hx hb dX4_shareInRounds_43 (lv_at hl 2 rfl) ?_
        refine lv_aload_n hx hb dX4_shareInRounds_45 rfl (lv_at hl 4 rfl) ?_
        obtain ⟨v12, ev12, hf⟩ := xb hf
        refine xr_getR hx hb hts inX4 hown hKK hP ev12 rfl (by decide) w2 (fun _ h9 => h9) dX4_shareInRounds_46 ?_
        refine lv_iload hx hb dX4_shareInRounds_49 (lv_at hl 1 rfl) ?_
        obtain ⟨v13, ev13, hf⟩ := xb hf
        refine xr_aald (fun _ => rfl) hx hb hKK hP ev13 dX4_shareInRounds_51 ?_
        obtain ⟨v14, ev14, hf⟩ := xb hf
        obtain ⟨v15, ev15, hf⟩ := xb1 hf
        refine xc_Vi (rest := [.int v5, .ref v11, .int v6]) ⟨hx, hb, hml, hown, hts⟩ (m_X3_portion l B0 G h3 v13 v15 ev15) (cwV 0 hts gX4_shareInRounds_X3_portion rfl rfl rfl (by decide +kernel) ⟨Nat.le_of_ble_eq_true rfl, Nat.le_of_ble_eq_true rfl⟩) hKK hP hS ev14 rfl rfl hl.1 rfl (Nat.le_of_ble_eq_true rfl) dX4_shareInRounds_52 ⟨Nat.zero_le _, Nat.zero_le _⟩ (fun H locs hP hS => ?_)
        refine lv_imul hx hb dX4_shareInRounds_55 ?_
        obtain ⟨v16, ev16, hf⟩ := xb hf
        obtain ⟨v17, h5, ev17, hf⟩ := xb2 hf
        refine xc_Vi (rest := [.int v6]) ⟨hx, hb, hml, hown, hts⟩ (m_X3_give l B0 G h3 h5 v11 (v5 * v15) v17 ev17) (cwV 1 hts gX4_shareInRounds_X3_give rfl rfl rfl (by decide +kernel) ⟨Nat.le_of_ble_eq_true rfl, Nat.le_of_ble_eq_true rfl⟩) hKK hP hS ev16 rfl rfl hl.1 rfl (Nat.le_of_ble_eq_true rfl) dX4_shareInRounds_56 ⟨Nat.zero_le _, Nat.zero_le _⟩ (fun H locs hP hS => ?_)
        refine lv_isub hx hb dX4_shareInRounds_59 ?_
        obtain ⟨v18, ev18, hf⟩ := xl hf
        refine xtopi ev18 ?_
        refine lv_istore_n (lv' := [(2, .int v18), (5, .int v7), (4, .int v5), (3, .int v2), (0, .ref a0)]) hx hb dX4_shareInRounds_60 rfl hl (by decide) rfl (fun ls hl => ?_)
        obtain ⟨v19, ev19, hf⟩ := xl hf
        refine lv_iinc (v := v19) (lv' := [(5, .int v19), (2, .int v18), (4, .int v5), (3, .int v2), (0, .ref a0)]) hx hb dX4_shareInRounds_61 hl (k := 1) rfl (by rw [ev19]; rfl) (by decide) rfl (fun ls hl => ?_)
        refine lv_goto (tgt := 26) hx hb dX4_shareInRounds_64 (by decide) ?_
        exact IH _ (Option.some.inj hf).symm _ _ _ hP hS (lv_sub hl [1, 0, 2, 3, 4] rfl)
/-- RainReservoir$Users.orderByDemand -/
def f_X4_orderByDemand (fu : Nat) (h : XH) (a0 : Nat) : Option (XH) :=
  obind1 (xloop (xf2 fun (v1 : Int32) (h1 : XH) =>
    (xgI h1 a0 4 1).bind fun v2 =>
    if v2 ≤ v1 then
      some (.inr h1)
    else
      obind2 (xloop (xf2 fun (v3 : Int32) (h3 : XH) =>
        if v3 ≤ (0 : Int32) then
          some (.inr (v3, h3))
        else
          (xgR h3 a0 4 0).bind fun v5 =>
          (xgR h3 a0 4 2).bind fun v6 =>
          (xald h3 v6 0 (v3 - (1 : Int32))).bind fun v7 =>
          (xaldR h3 v5 5 v7).bind fun v8 =>
          (xgI h3 v8 3 0).bind fun v9 =>
          (xgR h3 a0 4 0).bind fun v10 =>
          (xaldR h3 v10 5 v1).bind fun v11 =>
          (xgI h3 v11 3 0).bind fun v12 =>
          if v9 ≤ v12 then
            some (.inr (v3, h3))
          else
            (xgR h3 a0 4 2).bind fun v13 =>
            (xgR h3 a0 4 2).bind fun v14 =>
            (xald h3 v14 0 (v3 - (1 : Int32))).bind fun v15 =>
            (xast h3 v13 0 v3 v15).bind fun h5 =>
            olet (v3 + (-1 : Int32)) fun v16 =>
            some (.inl (v16, h5))
      ) fu (v1, h1)) fun v4 h4 =>
      (xgR h4 a0 4 2).bind fun v17 =>
      (xast h4 v17 0 v4 v1).bind fun h6 =>
      olet (v1 + (1 : Int32)) fun v18 =>
      some (.inl (v18, h6))
  ) fu ((0 : Int32), h)) fun h2 =>
  some (h2)
abbrev rmX4_orderByDemand : Room := { frames := 0, cells := 0, slots := 0, locals := 0 }
set_option maxHeartbeats 4000000 in
set_option maxRecDepth 100000 in
theorem m_X4_orderByDemand (l : Launch) (B0 : Nat) (G : XG) (fu : Nat) (h hE : XH) (a0 : Nat) (hf : f_X4_orderByDemand fu h a0 = some hE) : Met l yX4_orderByDemand wsX4_orderByDemand rmX4_orderByDemand (va_Pc [.ref a0] (xU B0 G h)) (xQv B0 G hE) 0 0 (xA B0) := by
  refine xMet (cc := cX4_orderByDemand) (maxL := 3) (by decide) rfl (Nat.le_of_ble_eq_true rfl) ?_
  intro p e s m args below meth c ls hx hb hr hml hown hlocks hnm hts hKK hP hl
  have hown : s.vm.findClass RX4 = some m.cls := hown
  have hl : lv_has ls 3 [(0, .ref a0)] := hl
  have hS : va_S (xA B0) s.heap s.heap [] := va_S.rf
  have inX3 : ∀ w ∈ wsX30, w ∈ wsX4_orderByDemand := by decide +kernel
  have inX4 : ∀ w ∈ wsX40, w ∈ wsX4_orderByDemand := by decide +kernel
  have w1 := hts (.fieldLink RX4 22 "RainReservoir$Users" "count" "I") (by decide +kernel)
  have w2 := hts (.fieldLink RX4 11 "RainReservoir$Users" "rows" "[LRainReservoir$User;") (by decide +kernel)
  have w3 := hts (.fieldLink RX4 18 "RainReservoir$Users" "order" "[I") (by decide +kernel)
  have w4 := hts (.fieldLink RX4 33 "RainReservoir$User" "demand" "I") (by decide +kernel)
  generalize hQ : MQ below (xQv B0 G hE) args s 0 0 (xA B0) = Q
  unfold f_X4_orderByDemand at hf
  refine lv_iconst (v := (0 : Int32)) hx hb dX4_orderByDemand_0 (by decide) ?_
  refine lv_istore_n (lv' := [(1, .int (0 : Int32)), (0, .ref a0)]) hx hb dX4_orderByDemand_1 rfl hl (by decide) rfl (fun ls hl => ?_)
  obtain ⟨h2, eL, hf⟩ := xb1 hf
  have J1 : ∀ (H : Heap) (locs : List Loc) (ls : Array Slot), xP B0 G h2 H → va_S (xA B0) s.heap H locs → lv_has ls 3 [] → W p l e rmX4_orderByDemand s m args below meth c H locs 0 0 Q (F0 m 77 ls []) := by
    intro H locs ls hP hS hl
    clear eL
    obtain rfl := Option.some.inj hf
    subst hQ
    exact xe_v hx hb hr hlocks hKK hP hS dX4_orderByDemand_77
  clear hf
  refine xloop_ind (P := fun z => ∀ (H : Heap) (locs : List Loc) (ls : Array Slot), xP B0 G z.2 H → va_S (xA B0) s.heap H locs → lv_has ls 3 [(1, .int z.1), (0, .ref a0)] → W p l e rmX4_orderByDemand s m args below meth c H locs 0 0 Q (F0 m 2 ls [])) ?_ eL _ _ _ hP hS (lv_sub hl [0, 1] rfl)
  rintro ⟨v1, h1⟩ o hf IH EX H locs ls hP hS hl
  have hf := xf2_e hf
  have hP : xP B0 G h1 H := hP
  have hl : lv_has ls 3 [(1, .int v1), (0, .ref a0)] := hl
  refine lv_iload_n hx hb dX4_orderByDemand_2 rfl (lv_at hl 0 rfl) ?_
  refine lv_aload_n hx hb dX4_orderByDemand_3 rfl (lv_at hl 1 rfl) ?_
  obtain ⟨v2, ev2, hf⟩ := xb hf
  refine xr_getI hx hb hts inX4 hown hKK hP ev2 rfl (by decide) w1 (fun _ h9 => h9) dX4_orderByDemand_4 ?_
  refine lv_icmp_ge (tgt := 77) hx hb dX4_orderByDemand_7 (by decide) (fun c1 => ?_) (fun c1 => ?_)
  · have hf := xif_t hf c1
    have hf := EX _ (Option.some.inj hf).symm
    obtain rfl := hf
    exact J1 _ _ _ hP hS (lv_sub hl [] rfl)
  · have hf := xif_f hf c1
    refine lv_iload_n hx hb dX4_orderByDemand_10 rfl (lv_at hl 0 rfl) ?_
    refine lv_istore_n (lv' := [(2, .int v1), (1, .int v1), (0, .ref a0)]) hx hb dX4_orderByDemand_11 rfl hl (by decide) rfl (fun ls hl => ?_)
    obtain ⟨v4, h4, eL, hf⟩ := xb2 hf
    have J2 : ∀ (H : Heap) (locs : List Loc) (ls : Array Slot), xP B0 G h4 H → va_S (xA B0) s.heap H locs → lv_has ls 3 [(2, .int v4), (1, .int v1), (0, .ref a0)] → W p l e rmX4_orderByDemand s m args below meth c H locs 0 0 Q (F0 m 64 ls []) := by
      intro H locs ls hP hS hl
      clear eL
      refine lv_aload_n hx hb dX4_orderByDemand_64 rfl (lv_at hl 2 rfl) ?_
      obtain ⟨v17, ev17, hf⟩ := xb hf
      refine xr_getR hx hb hts inX4 hown hKK hP ev17 rfl (by decide) w3 (fun _ h9 => h9) dX4_orderByDemand_65 ?_
      refine lv_iload_n hx hb dX4_orderByDemand_68 rfl (lv_at hl 0 rfl) ?_
      refine lv_iload_n hx hb dX4_orderByDemand_69 rfl (lv_at hl 1 rfl) ?_
      obtain ⟨h6, eh6, hf⟩ := xb hf
      refine xr_iast hx hb hKK hP hS eh6 dX4_orderByDemand_70 (fun H locs hP _ hS => ?_)
      obtain ⟨v18, ev18, hf⟩ := xl hf
      refine lv_iinc (v := v18) (lv' := [(1, .int v18), (2, .int v4), (0, .ref a0)]) hx hb dX4_orderByDemand_71 hl (k := 1) rfl (by rw [ev18]; rfl) (by decide) rfl (fun ls hl => ?_)
      refine lv_goto (tgt := 2) hx hb dX4_orderByDemand_74 (by decide) ?_
      exact IH _ (Option.some.inj hf).symm _ _ _ hP hS (lv_sub hl [0, 2] rfl)
    clear hf
    refine xloop_ind (P := fun z => ∀ (H : Heap) (locs : List Loc) (ls : Array Slot), xP B0 G z.2 H → va_S (xA B0) s.heap H locs → lv_has ls 3 [(2, .int z.1), (1, .int v1), (0, .ref a0)] → W p l e rmX4_orderByDemand s m args below meth c H locs 0 0 Q (F0 m 12 ls [])) ?_ eL _ _ _ hP hS (lv_sub hl [0, 1, 2] rfl)
    rintro ⟨v3, h3⟩ o hf IH EX H locs ls hP hS hl
    have hf := xf2_e hf
    have hP : xP B0 G h3 H := hP
    have hl : lv_has ls 3 [(2, .int v3), (1, .int v1), (0, .ref a0)] := hl
    refine lv_iload_n hx hb dX4_orderByDemand_12 rfl (lv_at hl 0 rfl) ?_
    refine lv_if_le (tgt := 64) hx hb dX4_orderByDemand_13 (by decide) (fun c2 => ?_) (fun c2 => ?_)
    · have hf := xif_t hf c2
      have hf := EX _ (Option.some.inj hf).symm
      obtain ⟨rfl, rfl⟩ := xpair2 hf
      exact J2 _ _ _ hP hS (lv_sub hl [0, 1, 2] rfl)
    · have hf := xif_f hf c2
      refine lv_aload_n hx hb dX4_orderByDemand_16 rfl (lv_at hl 2 rfl) ?_
      obtain ⟨v5, ev5, hf⟩ := xb hf
      refine xr_getR hx hb hts inX4 hown hKK hP ev5 rfl (by decide) w2 (fun _ h9 => h9) dX4_orderByDemand_17 ?_
      refine lv_aload_n hx hb dX4_orderByDemand_20 rfl (lv_at hl 2 rfl) ?_
      obtain ⟨v6, ev6, hf⟩ := xb hf
      refine xr_getR hx hb hts inX4 hown hKK hP ev6 rfl (by decide) w3 (fun _ h9 => h9) dX4_orderByDemand_21 ?_
      refine lv_iload_n hx hb dX4_orderByDemand_24 rfl (lv_at hl 0 rfl) ?_
      refine lv_iconst (v := (1 : Int32)) hx hb dX4_orderByDemand_25 (by decide) ?_
      refine lv_isub hx hb dX4_orderByDemand_26 ?_
      obtain ⟨v7, ev7, hf⟩ := xb hf
      refine xr_iald hx hb hKK hP ev7 dX4_orderByDemand_27 ?_
      obtain ⟨v8, ev8, hf⟩ := xb hf
      refine xr_aald (fun _ => rfl) hx hb hKK hP ev8 dX4_orderByDemand_28 ?_
      obtain ⟨v9, ev9, hf⟩ := xb hf
      refine xr_getI hx hb hts inX3 hown hKK hP ev9 rfl (by decide) w4 (fun _ h9 => h9) dX4_orderByDemand_29 ?_
      refine lv_aload_n hx hb dX4_orderByDemand_32 rfl (lv_at hl 2 rfl) ?_
      obtain ⟨v10, ev10, hf⟩ := xb hf
      refine xr_getR hx hb hts inX4 hown hKK hP ev10 rfl (by decide) w2 (fun _ h9 => h9) dX4_orderByDemand_33 ?_
      refine lv_iload_n hx hb dX4_orderByDemand_36 rfl (lv_at hl 1 rfl) ?_
      obtain ⟨v11, ev11, hf⟩ := xb hf
      refine xr_aald (fun _ => rfl) hx hb hKK hP ev11 dX4_orderByDemand_37 ?_
      obtain ⟨v12, ev12, hf⟩ := xb hf
      refine xr_getI hx hb hts inX3 hown hKK hP ev12 rfl (by decide) w4 (fun _ h9 => h9) dX4_orderByDemand_38 ?_
      refine lv_icmp_le (tgt := 64) hx hb dX4_orderByDemand_41 (by decide) (fun c3 => ?_) (fun c3 => ?_)
      · have hf := xif_t hf c3
        have hf := EX _ (Option.some.inj hf).symm
        obtain ⟨rfl, rfl⟩ := xpair2 hf
        exact J2 _ _ _ hP hS (lv_sub hl [0, 1, 2] rfl)
      · have hf := xif_f hf c3
        refine lv_aload_n hx hb dX4_orderByDemand_44 rfl (lv_at hl 2 rfl) ?_
        obtain ⟨v13, ev13, hf⟩ := xb hf
        refine xr_getR hx hb hts inX4 hown hKK hP ev13 rfl (by decide) w3 (fun _ h9 => h9) dX4_orderByDemand_45 ?_
        refine lv_iload_n hx hb dX4_orderByDemand_48 rfl (lv_at hl 0 rfl) ?_
        refine lv_aload_n hx hb dX4_orderByDemand_49 rfl (lv_at hl 2 rfl) ?_
        obtain ⟨v14, ev14, hf⟩ := xb hf
        refine xr_getR hx hb hts inX4 hown hKK hP ev14 rfl (by decide) w3 (fun _ h9 => h9) dX4_orderByDemand_50 ?_
        refine lv_iload_n hx hb dX4_orderByDemand_53 rfl (lv_at hl 0 rfl) ?_
        refine lv_iconst (v := (1 : Int32)) hx hb dX4_orderByDemand_54 (by decide) ?_
        refine lv_isub hx hb dX4_orderByDemand_55 ?_
        obtain ⟨v15, ev15, hf⟩ := xb hf
        refine xr_iald hx hb hKK hP ev15 dX4_orderByDemand_56 ?_
        obtain ⟨h5, eh5, hf⟩ := xb hf
        refine xr_iast hx hb hKK hP hS eh5 dX4_orderByDemand_57 (fun H locs hP _ hS => ?_)
        obtain ⟨v16, ev16, hf⟩ := xl hf
        refine lv_iinc (v := v16) (lv' := [(2, .int v16), (1, .int v1), (0, .ref a0)]) hx hb dX4_orderByDemand_58 hl (k := 0) rfl (by rw [ev16]; rfl) (by decide) rfl (fun ls hl => ?_)
        refine lv_goto (tgt := 12) hx hb dX4_orderByDemand_61 (by decide) ?_
        exact IH _ (Option.some.inj hf).symm _ _ _ hP hS (lv_sub hl [0, 1, 2] rfl)
/-- RainReservoir$Users.share -/
def f_X4_share (fu : Nat) (h : XH) (a0 : Nat) (p0 : Int32) (p1 : Int32) (p2 : Int32) : Option (XH) :=
  obind1 (
    if p2 = (0 : Int32) then
      (xis h a0 4).bind fun v1 =>
      obind1 (f_X4_shareByDemand fu h a0 p0 p1) fun h2 =>
      some h2
    else
    if p2 = (1 : Int32) then
      (xis h a0 4).bind fun v2 =>
      obind1 (f_X4_orderByNumber fu h a0) fun h3 =>
      (xis h3 a0 4).bind fun v3 =>
      obind1 (f_X4_serveOrder fu h3 a0 p0) fun h4 =>
      some h4
    else
    if p2 = (2 : Int32) then
      (xis h a0 4).bind fun v4 =>
      obind1 (f_X4_shareInRounds fu h a0 p0) fun h5 =>
      some h5
    else
    (xis h a0 4).bind fun v5 =>
    obind1 (f_X4_orderByDemand fu h a0) fun h6 =>
    (xis h6 a0 4).bind fun v6 =>
    obind1 (f_X4_serveOrder fu h6 a0 p0) fun h7 =>
    some h7
  ) fun h1 =>
  some (h1)
abbrev rmX4_share : Room := { frames := 3, cells := 0, slots := 0, locals := 69 }
set_option maxHeartbeats 4000000 in
set_option maxRecDepth 100000 in
theorem m_X4_share (l : Launch) (B0 : Nat) (G : XG) (fu : Nat) (h hE : XH) (a0 : Nat) (p0 : Int32) (p1 : Int32) (p2 : Int32) (hf : f_X4_share fu h a0 p0 p1 p2 = some hE) : Met l yX4_share wsX4_share rmX4_share (va_Pc [.ref a0, .int p0, .int p1, .int p2] (xU B0 G h)) (xQv B0 G hE) 0 0 (xA B0) := by
  refine xMet (cc := cX4_share) (maxL := 4) (by decide) rfl (Nat.le_of_ble_eq_true rfl) ?_
  intro p e s m args below meth c ls hx hb hr hml hown hlocks hnm hts hKK hP hl
  have hown : s.vm.findClass RX4 = some m.cls := hown
  have hl : lv_has ls 4 [(0, .ref a0), (1, .int p0), (2, .int p1), (3, .int p2)] := hl
  have hS : va_S (xA B0) s.heap s.heap [] := va_S.rf
  generalize hQ : MQ below (xQv B0 G hE) args s 0 0 (xA B0) = Q
  unfold f_X4_share at hf
  refine lv_iload_n hx hb dX4_share_0 rfl (lv_at hl 3 rfl) ?_
  obtain ⟨h1, ej1, hf⟩ := xb1 hf
  have J1 : ∀ (H : Heap) (locs : List Loc) (ls : Array Slot), xP B0 G h1 H → va_S (xA B0) s.heap H locs → lv_has ls 4 [] → W p l e rmX4_share s m args below meth c H locs 0 0 Q (F0 m 66 ls []) := by
    intro H locs ls hP hS hl
    clear ej1
    obtain rfl := Option.some.inj hf
    subst hQ
    exact xe_v hx hb hr hlocks hKK hP hS dX4_share_66
  have hf := ej1
  clear ej1
  by_cases c1 : p2 = (0 : Int32)
  · have hf := xif_t hf c1
    refine lv_tableIn (off := 27) (tgt := 28) hx hb dX4_share_1 (by rw [c1]; decide) (by rw [c1]; decide) (by rw [c1]; rfl) (by decide) ?_
    refine lv_aload_n hx hb dX4_share_28 rfl (lv_at hl 0 rfl) ?_
    refine lv_iload_n hx hb dX4_share_29 rfl (lv_at hl 1 rfl) ?_
    refine lv_iload_n hx hb dX4_share_30 rfl (lv_at hl 2 rfl) ?_
    obtain ⟨v1, ev1, hf⟩ := xb hf
    obtain ⟨h2, eh2, hf⟩ := xb1 hf
    refine xc_Vv (rest := []) ⟨hx, hb, hml, hown, hts⟩ (m_X4_shareByDemand l B0 G fu h h2 a0 p0 p1 eh2) (cwV 2 hts gX4_share_X4_shareByDemand rfl rfl rfl (by decide +kernel) ⟨Nat.le_of_ble_eq_true rfl, Nat.le_of_ble_eq_true rfl⟩) hKK hP hS ev1 rfl rfl hl.1 rfl (Nat.le_of_ble_eq_true rfl) dX4_share_31 ⟨Nat.zero_le _, Nat.zero_le _⟩ (fun H locs hP hS => ?_)
    refine lv_goto (tgt := 66) hx hb dX4_share_34 (by decide) ?_
    obtain rfl := Option.some.inj hf
    exact J1 _ _ _ hP hS (lv_sub hl [] rfl)
  have hf := xif_f hf c1
  by_cases c2 : p2 = (1 : Int32)
  · have hf := xif_t hf c2
    refine lv_tableIn (off := 36) (tgt := 37) hx hb dX4_share_1 (by rw [c2]; decide) (by rw [c2]; decide) (by rw [c2]; rfl) (by decide) ?_
    refine lv_aload_n hx hb dX4_share_37 rfl (lv_at hl 0 rfl) ?_
    obtain ⟨v2, ev2, hf⟩ := xb hf
    obtain ⟨h3, eh3, hf⟩ := xb1 hf
    refine xc_Vv (rest := []) ⟨hx, hb, hml, hown, hts⟩ (m_X4_orderByNumber l B0 G fu h h3 a0 eh3) (cwV 0 hts gX4_share_X4_orderByNumber rfl rfl rfl (by decide +kernel) ⟨Nat.le_of_ble_eq_true rfl, Nat.le_of_ble_eq_true rfl⟩) hKK hP hS ev2 rfl rfl hl.1 rfl (Nat.le_of_ble_eq_true rfl) dX4_share_38 ⟨Nat.zero_le _, Nat.zero_le _⟩ (fun H locs hP hS => ?_)
    refine lv_aload_n hx hb dX4_share_41 rfl (lv_at hl 0 rfl) ?_
    refine lv_iload_n hx hb dX4_share_42 rfl (lv_at hl 1 rfl) ?_
    obtain ⟨v3, ev3, hf⟩ := xb hf
    obtain ⟨h4, eh4, hf⟩ := xb1 hf
    refine xc_Vv (rest := []) ⟨hx, hb, hml, hown, hts⟩ (m_X4_serveOrder l B0 G fu h3 h4 a0 p0 eh4) (cwV 1 hts gX4_share_X4_serveOrder rfl rfl rfl (by decide +kernel) ⟨Nat.le_of_ble_eq_true rfl, Nat.le_of_ble_eq_true rfl⟩) hKK hP hS ev3 rfl rfl hl.1 rfl (Nat.le_of_ble_eq_true rfl) dX4_share_43 ⟨Nat.zero_le _, Nat.zero_le _⟩ (fun H locs hP hS => ?_)
    refine lv_goto (tgt := 66) hx hb dX4_share_46 (by decide) ?_
    obtain rfl := Option.some.inj hf
    exact J1 _ _ _ hP hS (lv_sub hl [] rfl)
  have hf := xif_f hf c2
  by_cases c3 : p2 = (2 : Int32)
  · have hf := xif_t hf c3
    refine lv_tableIn (off := 48) (tgt := 49) hx hb dX4_share_1 (by rw [c3]; decide) (by rw [c3]; decide) (by rw [c3]; rfl) (by decide) ?_
    refine lv_aload_n hx hb dX4_share_49 rfl (lv_at hl 0 rfl) ?_
    refine lv_iload_n hx hb dX4_share_50 rfl (lv_at hl 1 rfl) ?_
    obtain ⟨v4, ev4, hf⟩ := xb hf
    obtain ⟨h5, eh5, hf⟩ := xb1 hf
    refine xc_Vv (rest := []) ⟨hx, hb, hml, hown, hts⟩ (m_X4_shareInRounds l B0 G fu h h5 a0 p0 eh5) (cwV 1 hts gX4_share_X4_shareInRounds rfl rfl rfl (by decide +kernel) ⟨Nat.le_of_ble_eq_true rfl, Nat.le_of_ble_eq_true rfl⟩) hKK hP hS ev4 rfl rfl hl.1 rfl (Nat.le_of_ble_eq_true rfl) dX4_share_51 ⟨Nat.zero_le _, Nat.zero_le _⟩ (fun H locs hP hS => ?_)
    refine lv_goto (tgt := 66) hx hb dX4_share_54 (by decide) ?_
    obtain rfl := Option.some.inj hf
    exact J1 _ _ _ hP hS (lv_sub hl [] rfl)
  have hf := xif_f hf c3
  have nc1 : p2.toInt ≠ 0 := fun q => c1 (Int32.toInt_inj.mp (q.trans (by decide)))
  have nc2 : p2.toInt ≠ 1 := fun q => c2 (Int32.toInt_inj.mp (q.trans (by decide)))
  have nc3 : p2.toInt ≠ 2 := fun q => c3 (Int32.toInt_inj.mp (q.trans (by decide)))
  refine lv_tableOut (tgt := 57) hx hb dX4_share_1 (by omega) (by decide) ?_
  refine lv_aload_n hx hb dX4_share_57 rfl (lv_at hl 0 rfl) ?_
  obtain ⟨v5, ev5, hf⟩ := xb hf
  obtain ⟨h6, eh6, hf⟩ := xb1 hf
  refine xc_Vv (rest := []) ⟨hx, hb, hml, hown, hts⟩ (m_X4_orderByDemand l B0 G fu h h6 a0 eh6) (cwV 0 hts gX4_share_X4_orderByDemand rfl rfl rfl (by decide +kernel) ⟨Nat.le_of_ble_eq_true rfl, Nat.le_of_ble_eq_true rfl⟩) hKK hP hS ev5 rfl rfl hl.1 rfl (Nat.le_of_ble_eq_true rfl) dX4_share_58 ⟨Nat.zero_le _, Nat.zero_le _⟩ (fun H locs hP hS => ?_)
  refine lv_aload_n hx hb dX4_share_61 rfl (lv_at hl 0 rfl) ?_
  refine lv_iload_n hx hb dX4_share_62 rfl (lv_at hl 1 rfl) ?_
  obtain ⟨v6, ev6, hf⟩ := xb hf
  obtain ⟨h7, eh7, hf⟩ := xb1 hf
  refine xc_Vv (rest := []) ⟨hx, hb, hml, hown, hts⟩ (m_X4_serveOrder l B0 G fu h6 h7 a0 p0 eh7) (cwV 1 hts gX4_share_X4_serveOrder rfl rfl rfl (by decide +kernel) ⟨Nat.le_of_ble_eq_true rfl, Nat.le_of_ble_eq_true rfl⟩) hKK hP hS ev6 rfl rfl hl.1 rfl (Nat.le_of_ble_eq_true rfl) dX4_share_63 ⟨Nat.zero_le _, Nat.zero_le _⟩ (fun H locs hP hS => ?_)
  obtain rfl := Option.some.inj hf
  exact J1 _ _ _ hP hS (lv_sub hl [] rfl)
/-- RainReservoir$Users.handOut -/
def f_X4_handOut (fu : Nat) (h : XH) (a0 : Nat) (p0 : Int32) (p1 : Int32) : Option (Int32 × XH) :=
  obind1 (xloop (xf2 fun (v1 : Int32) (h1 : XH) =>
    (xgI h1 a0 4 1).bind fun v2 =>
    if v2 ≤ v1 then
      some (.inr h1)
    else
      (xgR h1 a0 4 0).bind fun v3 =>
      (xaldR h1 v3 5 v1).bind fun v4 =>
      (xpV h1 v4 3 2 (.int (0 : Int32))).bind fun h3 =>
      olet (v1 + (1 : Int32)) fun v5 =>
      some (.inl (v5, h3))
  ) fu ((0 : Int32), h)) fun h2 =>
  (xis h2 a0 4).bind fun v6 =>
  obind1 (f_X4_demandInAll fu h2 a0) fun v7 =>
  obind1 (
    if p0 < v7 then
      (xis h2 a0 4).bind fun v8 =>
      obind1 (f_X4_share fu h2 a0 p0 v7 p1) fun h5 =>
      some h5
    else
      (xis h2 a0 4).bind fun v9 =>
      obind1 (f_X4_orderByNumber fu h2 a0) fun h6 =>
      (xis h6 a0 4).bind fun v10 =>
      obind1 (f_X4_serveOrder fu h6 a0 v7) fun h7 =>
      some h7
  ) fun h4 =>
  obind2 (xloop (xf3 fun (v11 : Int32) (v12 : Int32) (h8 : XH) =>
    (xgI h8 a0 4 1).bind fun v14 =>
    if v14 ≤ v12 then
      some (.inr (v11, h8))
    else
      (xgR h8 a0 4 0).bind fun v15 =>
      (xaldR h8 v15 5 v12).bind fun v16 =>
      (xgI h8 v16 3 3).bind fun v17 =>
      (xgR h8 a0 4 0).bind fun v18 =>
      (xaldR h8 v18 5 v12).bind fun v19 =>
      (xgI h8 v19 3 2).bind fun v20 =>
      (xpV h8 v16 3 3 (.int (v17 + v20))).bind fun h10 =>
      (xgR h10 a0 4 0).bind fun v21 =>
      (xaldR h10 v21 5 v12).bind fun v22 =>
      (xgI h10 v22 3 2).bind fun v23 =>
      olet ((v11 + v23)) fun v24 =>
      olet (v12 + (1 : Int32)) fun v25 =>
      some (.inl (v24, v25, h10))
  ) fu ((0 : Int32), (0 : Int32), h4)) fun v13 h9 =>
  some ((v13, h9))
abbrev rmX4_handOut : Room := { frames := 4, cells := 0, slots := 0, locals := 92 }
set_option maxHeartbeats 4000000 in
set_option maxRecDepth 100000 in
theorem m_X4_handOut (l : Launch) (B0 : Nat) (G : XG) (fu : Nat) (h hE : XH) (a0 : Nat) (p0 : Int32) (p1 : Int32) (rE : Int32) (hf : f_X4_handOut fu h a0 p0 p1 = some (rE, hE)) : Met l yX4_handOut wsX4_handOut rmX4_handOut (va_Pc [.ref a0, .int p0, .int p1] (xU B0 G h)) (xQi B0 G hE rE) 0 0 (xA B0) := by
  refine xMet (cc := cX4_handOut) (maxL := 6) (by decide) rfl (Nat.le_of_ble_eq_true rfl) ?_
  intro p e s m args below meth c ls hx hb hr hml hown hlocks hnm hts hKK hP hl
  have hown : s.vm.findClass RX4 = some m.cls := hown
  have hl : lv_has ls 6 [(0, .ref a0), (1, .int p0), (2, .int p1)] := hl
  have hS : va_S (xA B0) s.heap s.heap [] := va_S.rf
  have inX3 : ∀ w ∈ wsX30, w ∈ wsX4_handOut := by decide +kernel
  have inX4 : ∀ w ∈ wsX40, w ∈ wsX4_handOut := by decide +kernel
  have w1 := hts (.fieldLink RX4 22 "RainReservoir$Users" "count" "I") (by decide +kernel)
  have w2 := hts (.fieldLink RX4 11 "RainReservoir$Users" "rows" "[LRainReservoir$User;") (by decide +kernel)
  have w3 := hts (.fieldLink RX4 45 "RainReservoir$User" "gotLatest" "I") (by decide +kernel)
  have w4 := hts (.fieldLink RX4 36 "RainReservoir$User" "gotInAll" "I") (by decide +kernel)
  generalize hQ : MQ below (xQi B0 G hE rE) args s 0 0 (xA B0) = Q
  unfold f_X4_handOut at hf
  refine lv_iconst (v := (0 : Int32)) hx hb dX4_handOut_0 (by decide) ?_
  refine lv_istore_n (lv' := [(3, .int (0 : Int32)), (0, .ref a0), (1, .int p0), (2, .int p1)]) hx hb dX4_handOut_1 rfl hl (by decide) rfl (fun ls hl => ?_)
  obtain ⟨h2, eL, hf⟩ := xb1 hf
  have J1 : ∀ (H : Heap) (locs : List Loc) (ls : Array Slot), xP B0 G h2 H → va_S (xA B0) s.heap H locs → lv_has ls 6 [(0, .ref a0), (1, .int p0), (2, .int p1)] → W p l e rmX4_handOut s m args below meth c H locs 0 0 Q (F0 m 26 ls []) := by
    intro H locs ls hP hS hl
    clear eL
    refine lv_aload_n hx hb dX4_handOut_26 rfl (lv_at hl 0 rfl) ?_
    obtain ⟨v6, ev6, hf⟩ := xb hf
    obtain ⟨v7, ev7, hf⟩ := xb1 hf
    refine xc_Vi (rest := []) ⟨hx, hb, hml, hown, hts⟩ (m_X4_demandInAll l B0 G fu h2 a0 v7 ev7) (cwV 0 hts gX4_handOut_X4_demandInAll rfl rfl rfl (by decide +kernel) ⟨Nat.le_of_ble_eq_true rfl, Nat.le_of_ble_eq_true rfl⟩) hKK hP hS ev6 rfl rfl hl.1 rfl (Nat.le_of_ble_eq_true rfl) dX4_handOut_27 ⟨Nat.zero_le _, Nat.zero_le _⟩ (fun H locs hP hS => ?_)
    refine lv_istore_n (lv' := [(3, .int v7), (0, .ref a0), (1, .int p0), (2, .int p1)]) hx hb dX4_handOut_30 rfl hl (by decide) rfl (fun ls hl => ?_)
    refine lv_iload_n hx hb dX4_handOut_31 rfl (lv_at hl 2 rfl) ?_
    refine lv_iload_n hx hb dX4_handOut_32 rfl (lv_at hl 0 rfl) ?_
    obtain ⟨h4, ej2, hf⟩ := xb1 hf
    have J2 : ∀ (H : Heap) (locs : List Loc) (ls : Array Slot), xP B0 G h4 H → va_S (xA B0) s.heap H locs → lv_has ls 6 [(0, .ref a0)] → W p l e rmX4_handOut s m args below meth c H locs 0 0 Q (F0 m 55 ls []) := by
      intro H locs ls hP hS hl
      clear ej2
      refine lv_iconst (v := (0 : Int32)) hx hb dX4_handOut_55 (by decide) ?_
      refine lv_istore (lv' := [(4, .int (0 : Int32)), (0, .ref a0)]) hx hb dX4_handOut_56 hl (by decide) rfl (fun ls hl => ?_)
      refine lv_iconst (v := (0 : Int32)) hx hb dX4_handOut_58 (by decide) ?_
      refine lv_istore (lv' := [(5, .int (0 : Int32)), (4, .int (0 : Int32)), (0, .ref a0)]) hx hb dX4_handOut_59 hl (by decide) rfl (fun ls hl => ?_)
      obtain ⟨v13, h9, eL, hf⟩ := xb2 hf
      have J3 : ∀ (H : Heap) (locs : List Loc) (ls : Array Slot), xP B0 G h9 H → va_S (xA B0) s.heap H locs → lv_has ls 6 [(4, .int v13)] → W p l e rmX4_handOut s m args below meth c H locs 0 0 Q (F0 m 116 ls []) := by
        intro H locs ls hP hS hl
        clear eL
        refine lv_iload hx hb dX4_handOut_116 (lv_at hl 0 rfl) ?_
        obtain ⟨rfl, rfl⟩ := xinj2 hf
        subst hQ
        exact xe_i hx hb hr hlocks hKK hP hS dX4_handOut_118
      clear hf
      refine xloop_ind (P := fun z => ∀ (H : Heap) (locs : List Loc) (ls : Array Slot), xP B0 G z.2.2 H → va_S (xA B0) s.heap H locs → lv_has ls 6 [(4, .int z.1), (5, .int z.2.1), (0, .ref a0)] → W p l e rmX4_handOut s m args below meth c H locs 0 0 Q (F0 m 61 ls [])) ?_ eL _ _ _ hP hS (lv_sub hl [1, 0, 2] rfl)
      rintro ⟨v11, v12, h8⟩ o hf IH EX H locs ls hP hS hl
      have hf := xf3_e hf
      have hP : xP B0 G h8 H := hP
      have hl : lv_has ls 6 [(4, .int v11), (5, .int v12), (0, .ref a0)] := hl
      refine lv_iload hx hb dX4_handOut_61 (lv_at hl 1 rfl) ?_
      refine lv_aload_n hx hb dX4_handOut_63 rfl (lv_at hl 2 rfl) ?_
      obtain ⟨v14, ev14, hf⟩ := xb hf
      refine xr_getI hx hb hts inX4 hown hKK hP ev14 rfl (by decide) w1 (fun _ h9 => h9) dX4_handOut_64 ?_
      refine lv_icmp_ge (tgt := 116) hx hb dX4_handOut_67 (by decide) (fun c3 => ?_) (fun c3 => ?_)
      · have hf := xif_t hf c3
        have hf := EX _ (Option.some.inj hf).symm
        obtain ⟨rfl, rfl⟩ := xpair2 hf
        exact J3 _ _ _ hP hS (lv_sub hl [0] rfl)
      · have hf := xif_f hf c3
        refine lv_aload_n hx hb dX4_handOut_70 rfl (lv_at hl 2 rfl) ?_
        obtain ⟨v15, ev15, hf⟩ := xb hf
        refine xr_getR hx hb hts inX4 hown hKK hP ev15 rfl (by decide) w2 (fun _ h9 => h9) dX4_handOut_71 ?_
        refine lv_iload hx hb dX4_handOut_74 (lv_at hl 1 rfl) ?_
        obtain ⟨v16, ev16, hf⟩ := xb hf
        refine xr_aald (fun _ => rfl) hx hb hKK hP ev16 dX4_handOut_76 ?_
        refine lv_dup hx hb dX4_handOut_77 rfl ?_
        obtain ⟨v17, ev17, hf⟩ := xb hf
        refine xr_getI hx hb hts inX3 hown hKK hP ev17 rfl (by decide) w4 (fun _ h9 => h9) dX4_handOut_78 ?_
        refine lv_aload_n hx hb dX4_handOut_81 rfl (lv_at hl 2 rfl) ?_
        obtain ⟨v18, ev18, hf⟩ := xb hf
        refine xr_getR hx hb hts inX4 hown hKK hP ev18 rfl (by decide) w2 (fun _ h9 => h9) dX4_handOut_82 ?_
        refine lv_iload hx hb dX4_handOut_85 (lv_at hl 1 rfl) ?_
        obtain ⟨v19, ev19, hf⟩ := xb hf
        refine xr_aald (fun _ => rfl) hx hb hKK hP ev19 dX4_handOut_87 ?_
        obtain ⟨v20, ev20, hf⟩ := xb hf
        refine xr_getI hx hb hts inX3 hown hKK hP ev20 rfl (by decide) w3 (fun _ h9 => h9) dX4_handOut_88 ?_
        refine lv_iadd hx hb dX4_handOut_91 ?_
        obtain ⟨h10, eh10, hf⟩ := xb hf
        refine xr_put hx hb hts inX3 tyX3 tyX3_ok nmX3 hown hKK hP hS eh10 rfl (by decide) w4 (fun _ h9 => h9) rfl (tyX3_ok 3 (by decide)) rfl rfl dX4_handOut_92 (fun H locs hP _ hS => ?_)
        refine lv_iload hx hb dX4_handOut_95 (lv_at hl 0 rfl) ?_
        refine lv_aload_n hx hb dX4_handOut_97 rfl (lv_at hl 2 rfl) ?_
        obtain ⟨v21, ev21, hf⟩ := xb hf
        refine xr_getR hx hb hts inX4 hown hKK hP ev21 rfl (by decide) w2 (fun _ h9 => h9) dX4_handOut_98 ?_
        refine lv_iload hx hb dX4_handOut_101 (lv_at hl 1 rfl) ?_
        obtain ⟨v22, ev22, hf⟩ := xb hf
        refine xr_aald (fun _ => rfl) hx hb hKK hP ev22 dX4_handOut_103 ?_
        obtain ⟨v23, ev23, hf⟩ := xb hf
        refine xr_getI hx hb hts inX3 hown hKK hP ev23 rfl (by decide) w3 (fun _ h9 => h9) dX4_handOut_104 ?_
        refine lv_iadd hx hb dX4_handOut_107 ?_
        obtain ⟨v24, ev24, hf⟩ := xl hf
        refine xtopi ev24 ?_
        refine lv_istore (lv' := [(4, .int v24), (5, .int v12), (0, .ref a0)]) hx hb dX4_handOut_108 hl (by decide) rfl (fun ls hl => ?_)
        obtain ⟨v25, ev25, hf⟩ := xl hf
        refine lv_iinc (v := v25) (lv' := [(5, .int v25), (4, .int v24), (0, .ref a0)]) hx hb dX4_handOut_110 hl (k := 1) rfl (by rw [ev25]; rfl) (by decide) rfl (fun ls hl => ?_)
        refine lv_goto (tgt := 61) hx hb dX4_handOut_113 (by decide) ?_
        exact IH _ (Option.some.inj hf).symm _ _ _ hP hS (lv_sub hl [1, 0, 2] rfl)
    have hf := ej2
    clear ej2
    refine lv_icmp_lt (tgt := 48) hx hb dX4_handOut_33 (by decide) (fun c2 => ?_) (fun c2 => ?_)
    · have hf := xif_t hf c2
      refine lv_aload_n hx hb dX4_handOut_48 rfl (lv_at hl 1 rfl) ?_
      refine lv_iload_n hx hb dX4_handOut_49 rfl (lv_at hl 2 rfl) ?_
      refine lv_iload_n hx hb dX4_handOut_50 rfl (lv_at hl 0 rfl) ?_
      refine lv_iload_n hx hb dX4_handOut_51 rfl (lv_at hl 3 rfl) ?_
      obtain ⟨v8, ev8, hf⟩ := xb hf
      obtain ⟨h5, eh5, hf⟩ := xb1 hf
      refine xc_Vv (rest := []) ⟨hx, hb, hml, hown, hts⟩ (m_X4_share l B0 G fu h2 h5 a0 p0 v7 p1 eh5) (cwV 3 hts gX4_handOut_X4_share rfl rfl rfl (by decide +kernel) ⟨Nat.le_of_ble_eq_true rfl, Nat.le_of_ble_eq_true rfl⟩) hKK hP hS ev8 rfl rfl hl.1 rfl (Nat.le_of_ble_eq_true rfl) dX4_handOut_52 ⟨Nat.zero_le _, Nat.zero_le _⟩ (fun H locs hP hS => ?_)
      obtain rfl := Option.some.inj hf
      exact J2 _ _ _ hP hS (lv_sub hl [1] rfl)
    · have hf := xif_f hf c2
      refine lv_aload_n hx hb dX4_handOut_36 rfl (lv_at hl 1 rfl) ?_
      obtain ⟨v9, ev9, hf⟩ := xb hf
      obtain ⟨h6, eh6, hf⟩ := xb1 hf
      refine xc_Vv (rest := []) ⟨hx, hb, hml, hown, hts⟩ (m_X4_orderByNumber l B0 G fu h2 h6 a0 eh6) (cwV 0 hts gX4_handOut_X4_orderByNumber rfl rfl rfl (by decide +kernel) ⟨Nat.le_of_ble_eq_true rfl, Nat.le_of_ble_eq_true rfl⟩) hKK hP hS ev9 rfl rfl hl.1 rfl (Nat.le_of_ble_eq_true rfl) dX4_handOut_37 ⟨Nat.zero_le _, Nat.zero_le _⟩ (fun H locs hP hS => ?_)
      refine lv_aload_n hx hb dX4_handOut_40 rfl (lv_at hl 1 rfl) ?_
      refine lv_iload_n hx hb dX4_handOut_41 rfl (lv_at hl 0 rfl) ?_
      obtain ⟨v10, ev10, hf⟩ := xb hf
      obtain ⟨h7, eh7, hf⟩ := xb1 hf
      refine xc_Vv (rest := []) ⟨hx, hb, hml, hown, hts⟩ (m_X4_serveOrder l B0 G fu h6 h7 a0 v7 eh7) (cwV 1 hts gX4_handOut_X4_serveOrder rfl rfl rfl (by decide +kernel) ⟨Nat.le_of_ble_eq_true rfl, Nat.le_of_ble_eq_true rfl⟩) hKK hP hS ev10 rfl rfl hl.1 rfl (Nat.le_of_ble_eq_true rfl) dX4_handOut_42 ⟨Nat.zero_le _, Nat.zero_le _⟩ (fun H locs hP hS => ?_)
      refine lv_goto (tgt := 55) hx hb dX4_handOut_45 (by decide) ?_
      obtain rfl := Option.some.inj hf
      exact J2 _ _ _ hP hS (lv_sub hl [1] rfl)
  clear hf
  refine xloop_ind (P := fun z => ∀ (H : Heap) (locs : List Loc) (ls : Array Slot), xP B0 G z.2 H → va_S (xA B0) s.heap H locs → lv_has ls 6 [(3, .int z.1), (0, .ref a0), (1, .int p0), (2, .int p1)] → W p l e rmX4_handOut s m args below meth c H locs 0 0 Q (F0 m 2 ls [])) ?_ eL _ _ _ hP hS (lv_sub hl [0, 1, 2, 3] rfl)
  rintro ⟨v1, h1⟩ o hf IH EX H locs ls hP hS hl
  have hf := xf2_e hf
  have hP : xP B0 G h1 H := hP
  have hl : lv_has ls 6 [(3, .int v1), (0, .ref a0), (1, .int p0), (2, .int p1)] := hl
  refine lv_iload_n hx hb dX4_handOut_2 rfl (lv_at hl 0 rfl) ?_
  refine lv_aload_n hx hb dX4_handOut_3 rfl (lv_at hl 1 rfl) ?_
  obtain ⟨v2, ev2, hf⟩ := xb hf
  refine xr_getI hx hb hts inX4 hown hKK hP ev2 rfl (by decide) w1 (fun _ h9 => h9) dX4_handOut_4 ?_
  refine lv_icmp_ge (tgt := 26) hx hb dX4_handOut_7 (by decide) (fun c1 => ?_) (fun c1 => ?_)
  · have hf := xif_t hf c1
    have hf := EX _ (Option.some.inj hf).symm
    obtain rfl := hf
    exact J1 _ _ _ hP hS (lv_sub hl [1, 2, 3] rfl)
  · have hf := xif_f hf c1
    refine lv_aload_n hx hb dX4_handOut_10 rfl (lv_at hl 1 rfl) ?_
    obtain ⟨v3, ev3, hf⟩ := xb hf
    refine xr_getR hx hb hts inX4 hown hKK hP ev3 rfl (by decide) w2 (fun _ h9 => h9) dX4_handOut_11 ?_
    refine lv_iload_n hx hb dX4_handOut_14 rfl (lv_at hl 0 rfl) ?_
    obtain ⟨v4, ev4, hf⟩ := xb hf
    refine xr_aald (fun _ => rfl) hx hb hKK hP ev4 dX4_handOut_15 ?_
    refine lv_iconst (v := (0 : Int32)) hx hb dX4_handOut_16 (by decide) ?_
    obtain ⟨h3, eh3, hf⟩ := xb hf
    refine xr_put hx hb hts inX3 tyX3 tyX3_ok nmX3 hown hKK hP hS eh3 rfl (by decide) w3 (fun _ h9 => h9) rfl (tyX3_ok 2 (by decide)) rfl rfl dX4_handOut_17 (fun H locs hP _ hS => ?_)
    obtain ⟨v5, ev5, hf⟩ := xl hf
    refine lv_iinc (v := v5) (lv' := [(3, .int v5), (0, .ref a0), (1, .int p0), (2, .int p1)]) hx hb dX4_handOut_20 hl (k := 0) rfl (by rw [ev5]; rfl) (by decide) rfl (fun ls hl => ?_)
    refine lv_goto (tgt := 2) hx hb dX4_handOut_23 (by decide) ?_
    exact IH _ (Option.some.inj hf).symm _ _ _ hP hS (lv_sub hl [0, 1, 2, 3] rfl)
/-- RainReservoir$Users.clearAmounts -/
def f_X4_clearAmounts (fu : Nat) (h : XH) (a0 : Nat) : Option (XH) :=
  obind1 (xloop (xf2 fun (v1 : Int32) (h1 : XH) =>
    (xgI h1 a0 4 1).bind fun v2 =>
    if v2 ≤ v1 then
      some (.inr h1)
    else
      (xgR h1 a0 4 0).bind fun v3 =>
      (xaldR h1 v3 5 v1).bind fun v4 =>
      (xis h1 v4 3).bind fun v5 =>
      obind1 (f_X3_clearAmounts h1 v4) fun h3 =>
      olet (v1 + (1 : Int32)) fun v6 =>
      some (.inl (v6, h3))
  ) fu ((0 : Int32), h)) fun h2 =>
  some (h2)
abbrev rmX4_clearAmounts : Room := { frames := 1, cells := 0, slots := 0, locals := 20 }
set_option maxHeartbeats 4000000 in
set_option maxRecDepth 100000 in
theorem m_X4_clearAmounts (l : Launch) (B0 : Nat) (G : XG) (fu : Nat) (h hE : XH) (a0 : Nat) (hf : f_X4_clearAmounts fu h a0 = some hE) : Met l yX4_clearAmounts wsX4_clearAmounts rmX4_clearAmounts (va_Pc [.ref a0] (xU B0 G h)) (xQv B0 G hE) 0 0 (xA B0) := by
  refine xMet (cc := cX4_clearAmounts) (maxL := 2) (by decide) rfl (Nat.le_of_ble_eq_true rfl) ?_
  intro p e s m args below meth c ls hx hb hr hml hown hlocks hnm hts hKK hP hl
  have hown : s.vm.findClass RX4 = some m.cls := hown
  have hl : lv_has ls 2 [(0, .ref a0)] := hl
  have hS : va_S (xA B0) s.heap s.heap [] := va_S.rf
  have inX4 : ∀ w ∈ wsX40, w ∈ wsX4_clearAmounts := by decide +kernel
  have w1 := hts (.fieldLink RX4 22 "RainReservoir$Users" "count" "I") (by decide +kernel)
  have w2 := hts (.fieldLink RX4 11 "RainReservoir$Users" "rows" "[LRainReservoir$User;") (by decide +kernel)
  generalize hQ : MQ below (xQv B0 G hE) args s 0 0 (xA B0) = Q
  unfold f_X4_clearAmounts at hf
  refine lv_iconst (v := (0 : Int32)) hx hb dX4_clearAmounts_0 (by decide) ?_
  refine lv_istore_n (lv' := [(1, .int (0 : Int32)), (0, .ref a0)]) hx hb dX4_clearAmounts_1 rfl hl (by decide) rfl (fun ls hl => ?_)
  obtain ⟨h2, eL, hf⟩ := xb1 hf
  have J1 : ∀ (H : Heap) (locs : List Loc) (ls : Array Slot), xP B0 G h2 H → va_S (xA B0) s.heap H locs → lv_has ls 2 [] → W p l e rmX4_clearAmounts s m args below meth c H locs 0 0 Q (F0 m 25 ls []) := by
    intro H locs ls hP hS hl
    clear eL
    obtain rfl := Option.some.inj hf
    subst hQ
    exact xe_v hx hb hr hlocks hKK hP hS dX4_clearAmounts_25
  clear hf
  refine xloop_ind (P := fun z => ∀ (H : Heap) (locs : List Loc) (ls : Array Slot), xP B0 G z.2 H → va_S (xA B0) s.heap H locs → lv_has ls 2 [(1, .int z.1), (0, .ref a0)] → W p l e rmX4_clearAmounts s m args below meth c H locs 0 0 Q (F0 m 2 ls [])) ?_ eL _ _ _ hP hS (lv_sub hl [0, 1] rfl)
  rintro ⟨v1, h1⟩ o hf IH EX H locs ls hP hS hl
  have hf := xf2_e hf
  have hP : xP B0 G h1 H := hP
  have hl : lv_has ls 2 [(1, .int v1), (0, .ref a0)] := hl
  refine lv_iload_n hx hb dX4_clearAmounts_2 rfl (lv_at hl 0 rfl) ?_
  refine lv_aload_n hx hb dX4_clearAmounts_3 rfl (lv_at hl 1 rfl) ?_
  obtain ⟨v2, ev2, hf⟩ := xb hf
  refine xr_getI hx hb hts inX4 hown hKK hP ev2 rfl (by decide) w1 (fun _ h9 => h9) dX4_clearAmounts_4 ?_
  refine lv_icmp_ge (tgt := 25) hx hb dX4_clearAmounts_7 (by decide) (fun c1 => ?_) (fun c1 => ?_)
  · have hf := xif_t hf c1
    have hf := EX _ (Option.some.inj hf).symm
    obtain rfl := hf
    exact J1 _ _ _ hP hS (lv_sub hl [] rfl)
  · have hf := xif_f hf c1
    refine lv_aload_n hx hb dX4_clearAmounts_10 rfl (lv_at hl 1 rfl) ?_
    obtain ⟨v3, ev3, hf⟩ := xb hf
    refine xr_getR hx hb hts inX4 hown hKK hP ev3 rfl (by decide) w2 (fun _ h9 => h9) dX4_clearAmounts_11 ?_
    refine lv_iload_n hx hb dX4_clearAmounts_14 rfl (lv_at hl 0 rfl) ?_
    obtain ⟨v4, ev4, hf⟩ := xb hf
    refine xr_aald (fun _ => rfl) hx hb hKK hP ev4 dX4_clearAmounts_15 ?_
    obtain ⟨v5, ev5, hf⟩ := xb hf
    obtain ⟨h3, eh3, hf⟩ := xb1 hf
    refine xc_Vv (rest := []) ⟨hx, hb, hml, hown, hts⟩ (m_X3_clearAmounts l B0 G h1 h3 v4 eh3) (cwV 0 hts gX4_clearAmounts_X3_clearAmounts rfl rfl rfl (by decide +kernel) ⟨Nat.le_of_ble_eq_true rfl, Nat.le_of_ble_eq_true rfl⟩) hKK hP hS ev5 rfl rfl hl.1 rfl (Nat.le_of_ble_eq_true rfl) dX4_clearAmounts_16 ⟨Nat.zero_le _, Nat.zero_le _⟩ (fun H locs hP hS => ?_)
    obtain ⟨v6, ev6, hf⟩ := xl hf
    refine lv_iinc (v := v6) (lv' := [(1, .int v6), (0, .ref a0)]) hx hb dX4_clearAmounts_19 hl (k := 0) rfl (by rw [ev6]; rfl) (by decide) rfl (fun ls hl => ?_)
    refine lv_goto (tgt := 2) hx hb dX4_clearAmounts_22 (by decide) ?_
    exact IH _ (Option.some.inj hf).symm _ _ _ hP hS (lv_sub hl [0, 1] rfl)
/-- RainReservoir$Users.greatestLack -/
def f_X4_greatestLack (fu : Nat) (h : XH) (a0 : Nat) (p0 : Int32) : Option (Int32) :=
  obind1 (xloop (xf2 fun (v1 : Int32) (v2 : Int32) =>
    (xgI h a0 4 1).bind fun v4 =>
    if v4 ≤ v2 then
      some (.inr v1)
    else
      (xgR h a0 4 0).bind fun v5 =>
      (xaldR h v5 5 v2).bind fun v6 =>
      (xgI h v6 3 0).bind fun v7 =>
      (xgR h a0 4 0).bind fun v8 =>
      (xaldR h v8 5 v2).bind fun v9 =>
      (xgI h v9 3 3).bind fun v10 =>
      olet ((xmax v1 ((v7 * p0) - v10))) fun v11 =>
      olet (v2 + (1 : Int32)) fun v12 =>
      some (.inl (v11, v12))
  ) fu ((0 : Int32), (0 : Int32))) fun v3 =>
  some (v3)
abbrev rmX4_greatestLack : Room := { frames := 1, cells := 0, slots := 0, locals := 21 }
set_option maxHeartbeats 4000000 in
set_option maxRecDepth 100000 in
theorem m_X4_greatestLack (l : Launch) (B0 : Nat) (G : XG) (fu : Nat) (h : XH) (a0 : Nat) (p0 : Int32) (rE : Int32) (hf : f_X4_greatestLack fu h a0 p0 = some rE) : Met l yX4_greatestLack wsX4_greatestLack rmX4_greatestLack (va_Pc [.ref a0, .int p0] (xU B0 G h)) (xQi B0 G h rE) 0 0 (xA B0) := by
  refine xMet (cc := cX4_greatestLack) (maxL := 4) (by decide) rfl (Nat.le_of_ble_eq_true rfl) ?_
  intro p e s m args below meth c ls hx hb hr hml hown hlocks hnm hts hKK hP hl
  have hown : s.vm.findClass RX4 = some m.cls := hown
  have hl : lv_has ls 4 [(0, .ref a0), (1, .int p0)] := hl
  have hS : va_S (xA B0) s.heap s.heap [] := va_S.rf
  have inX3 : ∀ w ∈ wsX30, w ∈ wsX4_greatestLack := by decide +kernel
  have inX4 : ∀ w ∈ wsX40, w ∈ wsX4_greatestLack := by decide +kernel
  have w1 := hts (.fieldLink RX4 22 "RainReservoir$Users" "count" "I") (by decide +kernel)
  have w2 := hts (.fieldLink RX4 11 "RainReservoir$Users" "rows" "[LRainReservoir$User;") (by decide +kernel)
  have w3 := hts (.fieldLink RX4 33 "RainReservoir$User" "demand" "I") (by decide +kernel)
  have w4 := hts (.fieldLink RX4 36 "RainReservoir$User" "gotInAll" "I") (by decide +kernel)
  have w5 := hts (.methodLink RX4 39 Lib.Math.max.name) (by decide +kernel)
  have w6 := hts (.static Lib.Math.max.name) (by decide +kernel)
  have w7 := hts (.initialized "java/lang/Math") (by decide +kernel)
  have w8 := hts (.code Lib.Math.max.name Lib.Math.max.code 2 (some .int)) (by decide +kernel)
  generalize hQ : MQ below (xQi B0 G h rE) args s 0 0 (xA B0) = Q
  unfold f_X4_greatestLack at hf
  refine lv_iconst (v := (0 : Int32)) hx hb dX4_greatestLack_0 (by decide) ?_
  refine lv_istore_n (lv' := [(2, .int (0 : Int32)), (0, .ref a0), (1, .int p0)]) hx hb dX4_greatestLack_1 rfl hl (by decide) rfl (fun ls hl => ?_)
  refine lv_iconst (v := (0 : Int32)) hx hb dX4_greatestLack_2 (by decide) ?_
  refine lv_istore_n (lv' := [(3, .int (0 : Int32)), (2, .int (0 : Int32)), (0, .ref a0), (1, .int p0)]) hx hb dX4_greatestLack_3 rfl hl (by decide) rfl (fun ls hl => ?_)
  obtain ⟨v3, eL, hf⟩ := xb1 hf
  have J1 : ∀ (H : Heap) (locs : List Loc) (ls : Array Slot), xP B0 G h H → va_S (xA B0) s.heap H locs → lv_has ls 4 [(2, .int v3)] → W p l e rmX4_greatestLack s m args below meth c H locs 0 0 Q (F0 m 44 ls []) := by
    intro H locs ls hP hS hl
    clear eL
    refine lv_iload_n hx hb dX4_greatestLack_44 rfl (lv_at hl 0 rfl) ?_
    obtain rfl := Option.some.inj hf
    subst hQ
    exact xe_i hx hb hr hlocks hKK hP hS dX4_greatestLack_45
  clear hf
  refine xloop_ind (P := fun z => ∀ (H : Heap) (locs : List Loc) (ls : Array Slot), xP B0 G h H → va_S (xA B0) s.heap H locs → lv_has ls 4 [(2, .int z.1), (3, .int z.2), (0, .ref a0), (1, .int p0)] → W p l e rmX4_greatestLack s m args below meth c H locs 0 0 Q (F0 m 4 ls [])) ?_ eL _ _ _ hP hS (lv_sub hl [1, 0, 2, 3] rfl)
  rintro ⟨v1, v2⟩ o hf IH EX H locs ls hP hS hl
  have hf := xf2_e hf
  have hl : lv_has ls 4 [(2, .int v1), (3, .int v2), (0, .ref a0), (1, .int p0)] := hl
  refine lv_iload_n hx hb dX4_greatestLack_4 rfl (lv_at hl 1 rfl) ?_
  refine lv_aload_n hx hb dX4_greatestLack_5 rfl (lv_at hl 2 rfl) ?_
  obtain ⟨v4, ev4, hf⟩ := xb hf
  refine xr_getI hx hb hts inX4 hown hKK hP ev4 rfl (by decide) w1 (fun _ h9 => h9) dX4_greatestLack_6 ?_
  refine lv_icmp_ge (tgt := 44) hx hb dX4_greatestLack_9 (by decide) (fun c1 => ?_) (fun c1 => ?_)
  · have hf := xif_t hf c1
    have hf := EX _ (Option.some.inj hf).symm
    obtain rfl := hf
    exact J1 _ _ _ hP hS (lv_sub hl [0] rfl)
  · have hf := xif_f hf c1
    refine lv_iload_n hx hb dX4_greatestLack_12 rfl (lv_at hl 0 rfl) ?_
    refine lv_aload_n hx hb dX4_greatestLack_13 rfl (lv_at hl 2 rfl) ?_
    obtain ⟨v5, ev5, hf⟩ := xb hf
    refine xr_getR hx hb hts inX4 hown hKK hP ev5 rfl (by decide) w2 (fun _ h9 => h9) dX4_greatestLack_14 ?_
    refine lv_iload_n hx hb dX4_greatestLack_17 rfl (lv_at hl 1 rfl) ?_
    obtain ⟨v6, ev6, hf⟩ := xb hf
    refine xr_aald (fun _ => rfl) hx hb hKK hP ev6 dX4_greatestLack_18 ?_
    obtain ⟨v7, ev7, hf⟩ := xb hf
    refine xr_getI hx hb hts inX3 hown hKK hP ev7 rfl (by decide) w3 (fun _ h9 => h9) dX4_greatestLack_19 ?_
    refine lv_iload_n hx hb dX4_greatestLack_22 rfl (lv_at hl 3 rfl) ?_
    refine lv_imul hx hb dX4_greatestLack_23 ?_
    refine lv_aload_n hx hb dX4_greatestLack_24 rfl (lv_at hl 2 rfl) ?_
    obtain ⟨v8, ev8, hf⟩ := xb hf
    refine xr_getR hx hb hts inX4 hown hKK hP ev8 rfl (by decide) w2 (fun _ h9 => h9) dX4_greatestLack_25 ?_
    refine lv_iload_n hx hb dX4_greatestLack_28 rfl (lv_at hl 1 rfl) ?_
    obtain ⟨v9, ev9, hf⟩ := xb hf
    refine xr_aald (fun _ => rfl) hx hb hKK hP ev9 dX4_greatestLack_29 ?_
    obtain ⟨v10, ev10, hf⟩ := xb hf
    refine xr_getI hx hb hts inX3 hown hKK hP ev10 rfl (by decide) w4 (fun _ h9 => h9) dX4_greatestLack_30 ?_
    refine lv_isub hx hb dX4_greatestLack_33 ?_
    refine xr_mmax hx hb (hml.trans hl.1.symm) hown w5 w6 w7 w8 ⟨Nat.le_of_ble_eq_true rfl, Nat.le_of_ble_eq_true rfl⟩ (Nat.le_of_ble_eq_true rfl) ⟨Nat.zero_le _, Nat.zero_le _⟩ dX4_greatestLack_34 ?_
    obtain ⟨v11, ev11, hf⟩ := xl hf
    refine xtopi ev11 ?_
    refine lv_istore_n (lv' := [(2, .int v11), (3, .int v2), (0, .ref a0), (1, .int p0)]) hx hb dX4_greatestLack_37 rfl hl (by decide) rfl (fun ls hl => ?_)
    obtain ⟨v12, ev12, hf⟩ := xl hf
    refine lv_iinc (v := v12) (lv' := [(3, .int v12), (2, .int v11), (0, .ref a0), (1, .int p0)]) hx hb dX4_greatestLack_38 hl (k := 1) rfl (by rw [ev12]; rfl) (by decide) rfl (fun ls hl => ?_)
    refine lv_goto (tgt := 4) hx hb dX4_greatestLack_41 (by decide) ?_
    exact IH _ (Option.some.inj hf).symm _ _ _ hP hS (lv_sub hl [1, 0, 2, 3] rfl)
/-- RainReservoir$Users.scaleDemands -/
def f_X4_scaleDemands (fu : Nat) (h : XH) (a0 : Nat) (q0 : Nat) (p1 : Int32) : Option (XH) :=
  obind1 (xloop (xf2 fun (v1 : Int32) (h1 : XH) =>
    (xgI h1 a0 4 1).bind fun v2 =>
    if v2 ≤ v1 then
      some (.inr h1)
    else
      (xgR h1 a0 4 0).bind fun v3 =>
      (xaldR h1 v3 5 v1).bind fun v4 =>
      (xgR h1 q0 4 0).bind fun v5 =>
      (xaldR h1 v5 5 v1).bind fun v6 =>
      (xgI h1 v6 3 0).bind fun v7 =>
      (xpV h1 v4 3 0 (.int ((v7 * p1) / (100 : Int32)))).bind fun h3 =>
      olet (v1 + (1 : Int32)) fun v8 =>
      some (.inl (v8, h3))
  ) fu ((0 : Int32), h)) fun h2 =>
  some (h2)
abbrev rmX4_scaleDemands : Room := { frames := 0, cells := 0, slots := 0, locals := 0 }
set_option maxHeartbeats 4000000 in
set_option maxRecDepth 100000 in
theorem m_X4_scaleDemands (l : Launch) (B0 : Nat) (G : XG) (fu : Nat) (h hE : XH) (a0 : Nat) (q0 : Nat) (p1 : Int32) (hf : f_X4_scaleDemands fu h a0 q0 p1 = some hE) : Met l yX4_scaleDemands wsX4_scaleDemands rmX4_scaleDemands (va_Pc [.ref a0, .ref q0, .int p1] (xU B0 G h)) (xQv B0 G hE) 0 0 (xA B0) := by
  refine xMet (cc := cX4_scaleDemands) (maxL := 4) (by decide) rfl (Nat.le_of_ble_eq_true rfl) ?_
  intro p e s m args below meth c ls hx hb hr hml hown hlocks hnm hts hKK hP hl
  have hown : s.vm.findClass RX4 = some m.cls := hown
  have hl : lv_has ls 4 [(0, .ref a0), (1, .ref q0), (2, .int p1)] := hl
  have hS : va_S (xA B0) s.heap s.heap [] := va_S.rf
  have inX3 : ∀ w ∈ wsX30, w ∈ wsX4_scaleDemands := by decide +kernel
  have inX4 : ∀ w ∈ wsX40, w ∈ wsX4_scaleDemands := by decide +kernel
  have w1 := hts (.fieldLink RX4 22 "RainReservoir$Users" "count" "I") (by decide +kernel)
  have w2 := hts (.fieldLink RX4 11 "RainReservoir$Users" "rows" "[LRainReservoir$User;") (by decide +kernel)
  have w3 := hts (.fieldLink RX4 33 "RainReservoir$User" "demand" "I") (by decide +kernel)
  generalize hQ : MQ below (xQv B0 G hE) args s 0 0 (xA B0) = Q
  unfold f_X4_scaleDemands at hf
  refine lv_iconst (v := (0 : Int32)) hx hb dX4_scaleDemands_0 (by decide) ?_
  refine lv_istore_n (lv' := [(3, .int (0 : Int32)), (0, .ref a0), (1, .ref q0), (2, .int p1)]) hx hb dX4_scaleDemands_1 rfl hl (by decide) rfl (fun ls hl => ?_)
  obtain ⟨h2, eL, hf⟩ := xb1 hf
  have J1 : ∀ (H : Heap) (locs : List Loc) (ls : Array Slot), xP B0 G h2 H → va_S (xA B0) s.heap H locs → lv_has ls 4 [] → W p l e rmX4_scaleDemands s m args below meth c H locs 0 0 Q (F0 m 39 ls []) := by
    intro H locs ls hP hS hl
    clear eL
    obtain rfl := Option.some.inj hf
    subst hQ
    exact xe_v hx hb hr hlocks hKK hP hS dX4_scaleDemands_39
  clear hf
  refine xloop_ind (P := fun z => ∀ (H : Heap) (locs : List Loc) (ls : Array Slot), xP B0 G z.2 H → va_S (xA B0) s.heap H locs → lv_has ls 4 [(3, .int z.1), (0, .ref a0), (1, .ref q0), (2, .int p1)] → W p l e rmX4_scaleDemands s m args below meth c H locs 0 0 Q (F0 m 2 ls [])) ?_ eL _ _ _ hP hS (lv_sub hl [0, 1, 2, 3] rfl)
  rintro ⟨v1, h1⟩ o hf IH EX H locs ls hP hS hl
  have hf := xf2_e hf
  have hP : xP B0 G h1 H := hP
  have hl : lv_has ls 4 [(3, .int v1), (0, .ref a0), (1, .ref q0), (2, .int p1)] := hl
  refine lv_iload_n hx hb dX4_scaleDemands_2 rfl (lv_at hl 0 rfl) ?_
  refine lv_aload_n hx hb dX4_scaleDemands_3 rfl (lv_at hl 1 rfl) ?_
  obtain ⟨v2, ev2, hf⟩ := xb hf
  refine xr_getI hx hb hts inX4 hown hKK hP ev2 rfl (by decide) w1 (fun _ h9 => h9) dX4_scaleDemands_4 ?_
  refine lv_icmp_ge (tgt := 39) hx hb dX4_scaleDemands_7 (by decide) (fun c1 => ?_) (fun c1 => ?_)
  · have hf := xif_t hf c1
    have hf := EX _ (Option.some.inj hf).symm
    obtain rfl := hf
    exact J1 _ _ _ hP hS (lv_sub hl [] rfl)
  · have hf := xif_f hf c1
    refine lv_aload_n hx hb dX4_scaleDemands_10 rfl (lv_at hl 1 rfl) ?_
    obtain ⟨v3, ev3, hf⟩ := xb hf
    refine xr_getR hx hb hts inX4 hown hKK hP ev3 rfl (by decide) w2 (fun _ h9 => h9) dX4_scaleDemands_11 ?_
    refine lv_iload_n hx hb dX4_scaleDemands_14 rfl (lv_at hl 0 rfl) ?_
    obtain ⟨v4, ev4, hf⟩ := xb hf
    refine xr_aald (fun _ => rfl) hx hb hKK hP ev4 dX4_scaleDemands_15 ?_
    refine lv_aload_n hx hb dX4_scaleDemands_16 rfl (lv_at hl 2 rfl) ?_
    obtain ⟨v5, ev5, hf⟩ := xb hf
    refine xr_getR hx hb hts inX4 hown hKK hP ev5 rfl (by decide) w2 (fun _ h9 => h9) dX4_scaleDemands_17 ?_
    refine lv_iload_n hx hb dX4_scaleDemands_20 rfl (lv_at hl 0 rfl) ?_
    obtain ⟨v6, ev6, hf⟩ := xb hf
    refine xr_aald (fun _ => rfl) hx hb hKK hP ev6 dX4_scaleDemands_21 ?_
    obtain ⟨v7, ev7, hf⟩ := xb hf
    refine xr_getI hx hb hts inX3 hown hKK hP ev7 rfl (by decide) w3 (fun _ h9 => h9) dX4_scaleDemands_22 ?_
    refine lv_iload_n hx hb dX4_scaleDemands_25 rfl (lv_at hl 3 rfl) ?_
    refine lv_imul hx hb dX4_scaleDemands_26 ?_
    refine lv_bipush (v := (100 : Int32)) hx hb dX4_scaleDemands_27 (by decide) ?_
    refine lv_idiv hx hb dX4_scaleDemands_29 (by decide) ?_
    obtain ⟨h3, eh3, hf⟩ := xb hf
    refine xr_put hx hb hts inX3 tyX3 tyX3_ok nmX3 hown hKK hP hS eh3 rfl (by decide) w3 (fun _ h9 => h9) rfl (tyX3_ok 0 (by decide)) rfl rfl dX4_scaleDemands_30 (fun H locs hP _ hS => ?_)
    obtain ⟨v8, ev8, hf⟩ := xl hf
    refine lv_iinc (v := v8) (lv' := [(3, .int v8), (0, .ref a0), (1, .ref q0), (2, .int p1)]) hx hb dX4_scaleDemands_33 hl (k := 0) rfl (by rw [ev8]; rfl) (by decide) rfl (fun ls hl => ?_)
    refine lv_goto (tgt := 2) hx hb dX4_scaleDemands_36 (by decide) ?_
    exact IH _ (Option.some.inj hf).symm _ _ _ hP hS (lv_sub hl [0, 1, 2, 3] rfl)
