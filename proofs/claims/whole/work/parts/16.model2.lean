/-- RainReservoirModel.inProportion -/
def f_X6_inProportion (fu : Nat) (h : XH) (a0 : Nat) (p0 : Int32) (p1 : Int32) : Option (XH) :=
  obind1 (xloop (xf2 fun (v1 : Int32) (h1 : XH) =>
    (xgR h1 a0 6 0).bind fun v2 =>
    (xald h1 v2 0 (7 : Int32)).bind fun v3 =>
    if v3 ≤ v1 then
      some (.inr h1)
    else
      (xis h1 a0 6).bind fun v4 =>
      obind1 (f_X6_ofUser h1 a0 v1 (0 : Int32)) fun v5 =>
      (xnzL (Int32.toInt64 p1)).bind fun v6 =>
      (xis h1 a0 6).bind fun v7 =>
      obind1 (f_X6_gives h1 a0 v1 (Int64.toInt32 (((Int32.toInt64 v5) * (Int32.toInt64 p0)) / (Int32.toInt64 p1)))) fun h3 =>
      olet (v1 + (1 : Int32)) fun v8 =>
      some (.inl (v8, h3))
  ) fu ((0 : Int32), h)) fun h2 =>
  obind1 (xloop (xf1 fun  (h4 : XH) =>
    (xgI h4 a0 6 8).bind fun v9 =>
    if v9 ≤ (0 : Int32) then
      some (.inr h4)
    else
      obind1 (xloop (xf2 fun (v10 : Int32) (h6 : XH) =>
        (xgR h6 a0 6 0).bind fun v11 =>
        (xald h6 v11 0 (7 : Int32)).bind fun v12 =>
        if v12 ≤ v10 then
          some (.inr h6)
        else
          (xis h6 a0 6).bind fun v13 =>
          obind1 (f_X6_gives h6 a0 v10 (1 : Int32)) fun h8 =>
          olet (v10 + (1 : Int32)) fun v14 =>
          some (.inl (v14, h8))
      ) fu ((0 : Int32), h4)) fun h7 =>
      some (.inl h7)
  ) fu h2) fun h5 =>
  some (h5)
abbrev rmX6_inProportion : Room := { frames := 3, cells := 0, slots := 0, locals := 67 }
set_option maxHeartbeats 4000000 in
set_option maxRecDepth 100000 in
theorem m_X6_inProportion (l : Launch) (B0 : Nat) (G : XG) (fu : Nat) (h hE : XH) (a0 : Nat) (p0 : Int32) (p1 : Int32) (hf : f_X6_inProportion fu h a0 p0 p1 = some hE) : Met l yX6_inProportion wsX6_inProportion rmX6_inProportion (va_Pc [.ref a0, .int p0, .int p1] (xU B0 G h)) (xQv B0 G hE) 0 0 (xA B0) := by
  refine xMet (cc := cX6_inProportion) (maxL := 4) (by decide) rfl (Nat.le_of_ble_eq_true rfl) ?_
  intro p e s m args below meth c ls hx hb hr hml hown hlocks hnm hts hKK hP hl
  have hown : s.vm.findClass RX6 = some m.cls := hown
  have hl : lv_has ls 4 [(0, .ref a0), (1, .int p0), (2, .int p1)] := hl
  have hS : va_S (xA B0) s.heap s.heap [] := va_S.rf
  have inX6 : ∀ w ∈ wsX60, w ∈ wsX6_inProportion := by decide +kernel
  have w1 := hts (.fieldLink RX6 7 "RainReservoirModel" "all" "[I") (by decide +kernel)
  have w2 := hts (.fieldLink RX6 125 "RainReservoirModel" "left" "I") (by decide +kernel)
  generalize hQ : MQ below (xQv B0 G hE) args s 0 0 (xA B0) = Q
  unfold f_X6_inProportion at hf
  refine lv_iconst (v := (0 : Int32)) hx hb dX6_inProportion_0 (by decide) ?_
  refine lv_istore_n (lv' := [(3, .int (0 : Int32)), (0, .ref a0), (1, .int p0), (2, .int p1)]) hx hb dX6_inProportion_1 rfl hl (by decide) rfl (fun ls hl => ?_)
  obtain ⟨h2, eL, hf⟩ := xb1 hf
  have J1 : ∀ (H : Heap) (locs : List Loc) (ls : Array Slot), xP B0 G h2 H → va_S (xA B0) s.heap H locs → lv_has ls 4 [(0, .ref a0)] → W p l e rmX6_inProportion s m args below meth c H locs 0 0 Q (F0 m 38 ls []) := by
    intro H locs ls hP hS hl
    clear eL
    obtain ⟨h5, eL, hf⟩ := xb1 hf
    have J2 : ∀ (H : Heap) (locs : List Loc) (ls : Array Slot), xP B0 G h5 H → va_S (xA B0) s.heap H locs → lv_has ls 4 [] → W p l e rmX6_inProportion s m args below meth c H locs 0 0 Q (F0 m 73 ls []) := by
      intro H locs ls hP hS hl
      clear eL
      obtain rfl := Option.some.inj hf
      subst hQ
      exact xe_v hx hb hr hlocks hKK hP hS dX6_inProportion_73
    clear hf
    refine xloop_ind (P := fun z => ∀ (H : Heap) (locs : List Loc) (ls : Array Slot), xP B0 G z H → va_S (xA B0) s.heap H locs → lv_has ls 4 [(0, .ref a0)] → W p l e rmX6_inProportion s m args below meth c H locs 0 0 Q (F0 m 38 ls [])) ?_ eL _ _ _ hP hS (lv_sub hl [0] rfl)
    rintro h4 o hf IH EX H locs ls hP hS hl
    have hf := xf1_e hf
    have hP : xP B0 G h4 H := hP
    have hl : lv_has ls 4 [(0, .ref a0)] := hl
    refine lv_aload_n hx hb dX6_inProportion_38 rfl (lv_at hl 0 rfl) ?_
    obtain ⟨v9, ev9, hf⟩ := xb hf
    refine xr_getI hx hb hts inX6 hown hKK hP ev9 rfl (by decide) w2 (fun _ h9 => h9) dX6_inProportion_39 ?_
    refine lv_if_le (tgt := 73) hx hb dX6_inProportion_42 (by decide) (fun c2 => ?_) (fun c2 => ?_)
    · have hf := xif_t hf c2
      have hf := EX _ (Option.some.inj hf).symm
      obtain rfl := hf
      exact J2 _ _ _ hP hS (lv_sub hl [] rfl)
    · have hf := xif_f hf c2
      refine lv_iconst (v := (0 : Int32)) hx hb dX6_inProportion_45 (by decide) ?_
      refine lv_istore_n (lv' := [(3, .int (0 : Int32)), (0, .ref a0)]) hx hb dX6_inProportion_46 rfl hl (by decide) rfl (fun ls hl => ?_)
      obtain ⟨h7, eL, hf⟩ := xb1 hf
      have J3 : ∀ (H : Heap) (locs : List Loc) (ls : Array Slot), xP B0 G h7 H → va_S (xA B0) s.heap H locs → lv_has ls 4 [(0, .ref a0)] → W p l e rmX6_inProportion s m args below meth c H locs 0 0 Q (F0 m 70 ls []) := by
        intro H locs ls hP hS hl
        clear eL
        refine lv_goto (tgt := 38) hx hb dX6_inProportion_70 (by decide) ?_
        exact IH _ (Option.some.inj hf).symm _ _ _ hP hS (lv_sub hl [0] rfl)
      clear hf
      refine xloop_ind (P := fun z => ∀ (H : Heap) (locs : List Loc) (ls : Array Slot), xP B0 G z.2 H → va_S (xA B0) s.heap H locs → lv_has ls 4 [(3, .int z.1), (0, .ref a0)] → W p l e rmX6_inProportion s m args below meth c H locs 0 0 Q (F0 m 47 ls [])) ?_ eL _ _ _ hP hS (lv_sub hl [0, 1] rfl)
      rintro ⟨v10, h6⟩ o hf IH EX H locs ls hP hS hl
      have hf := xf2_e hf
      have hP : xP B0 G h6 H := hP
      have hl : lv_has ls 4 [(3, .int v10), (0, .ref a0)] := hl
      refine lv_iload_n hx hb dX6_inProportion_47 rfl (lv_at hl 0 rfl) ?_
      refine lv_aload_n hx hb dX6_inProportion_48 rfl (lv_at hl 1 rfl) ?_
      obtain ⟨v11, ev11, hf⟩ := xb hf
      refine xr_getR hx hb hts inX6 hown hKK hP ev11 rfl (by decide) w1 (fun _ h9 => h9) dX6_inProportion_49 ?_
      refine lv_bipush (v := (7 : Int32)) hx hb dX6_inProportion_52 (by decide) ?_
      obtain ⟨v12, ev12, hf⟩ := xb hf
      refine xr_iald hx hb hKK hP ev12 dX6_inProportion_54 ?_
      refine lv_icmp_ge (tgt := 70) hx hb dX6_inProportion_55 (by decide) (fun c3 => ?_) (fun c3 => ?_)
      · have hf := xif_t hf c3
        have hf := EX _ (Option.some.inj hf).symm
        obtain rfl := hf
        exact J3 _ _ _ hP hS (lv_sub hl [1] rfl)
      · have hf := xif_f hf c3
        refine lv_aload_n hx hb dX6_inProportion_58 rfl (lv_at hl 1 rfl) ?_
        refine lv_iload_n hx hb dX6_inProportion_59 rfl (lv_at hl 0 rfl) ?_
        refine lv_iconst (v := (1 : Int32)) hx hb dX6_inProportion_60 (by decide) ?_
        obtain ⟨v13, ev13, hf⟩ := xb hf
        obtain ⟨h8, eh8, hf⟩ := xb1 hf
        refine xc_Vv (rest := []) ⟨hx, hb, hml, hown, hts⟩ (m_X6_gives l B0 G h6 h8 a0 v10 (1 : Int32) eh8) (cwV 2 hts gX6_inProportion_X6_gives rfl rfl rfl (by decide +kernel) ⟨Nat.le_of_ble_eq_true rfl, Nat.le_of_ble_eq_true rfl⟩) hKK hP hS ev13 rfl rfl hl.1 rfl (Nat.le_of_ble_eq_true rfl) dX6_inProportion_61 ⟨Nat.zero_le _, Nat.zero_le _⟩ (fun H locs hP hS => ?_)
        obtain ⟨v14, ev14, hf⟩ := xl hf
        refine lv_iinc (v := v14) (lv' := [(3, .int v14), (0, .ref a0)]) hx hb dX6_inProportion_64 hl (k := 0) rfl (by rw [ev14]; rfl) (by decide) rfl (fun ls hl => ?_)
        refine lv_goto (tgt := 47) hx hb dX6_inProportion_67 (by decide) ?_
        exact IH _ (Option.some.inj hf).symm _ _ _ hP hS (lv_sub hl [0, 1] rfl)
  clear hf
  refine xloop_ind (P := fun z => ∀ (H : Heap) (locs : List Loc) (ls : Array Slot), xP B0 G z.2 H → va_S (xA B0) s.heap H locs → lv_has ls 4 [(3, .int z.1), (0, .ref a0), (1, .int p0), (2, .int p1)] → W p l e rmX6_inProportion s m args below meth c H locs 0 0 Q (F0 m 2 ls [])) ?_ eL _ _ _ hP hS (lv_sub hl [0, 1, 2, 3] rfl)
  rintro ⟨v1, h1⟩ o hf IH EX H locs ls hP hS hl
  have hf := xf2_e hf
  have hP : xP B0 G h1 H := hP
  have hl : lv_has ls 4 [(3, .int v1), (0, .ref a0), (1, .int p0), (2, .int p1)] := hl
  refine lv_iload_n hx hb dX6_inProportion_2 rfl (lv_at hl 0 rfl) ?_
  refine lv_aload_n hx hb dX6_inProportion_3 rfl (lv_at hl 1 rfl) ?_
  obtain ⟨v2, ev2, hf⟩ := xb hf
  refine xr_getR hx hb hts inX6 hown hKK hP ev2 rfl (by decide) w1 (fun _ h9 => h9) dX6_inProportion_4 ?_
  refine lv_bipush (v := (7 : Int32)) hx hb dX6_inProportion_7 (by decide) ?_
  obtain ⟨v3, ev3, hf⟩ := xb hf
  refine xr_iald hx hb hKK hP ev3 dX6_inProportion_9 ?_
  refine lv_icmp_ge (tgt := 38) hx hb dX6_inProportion_10 (by decide) (fun c1 => ?_) (fun c1 => ?_)
  · have hf := xif_t hf c1
    have hf := EX _ (Option.some.inj hf).symm
    obtain rfl := hf
    exact J1 _ _ _ hP hS (lv_sub hl [1] rfl)
  · have hf := xif_f hf c1
    refine lv_aload_n hx hb dX6_inProportion_13 rfl (lv_at hl 1 rfl) ?_
    refine lv_iload_n hx hb dX6_inProportion_14 rfl (lv_at hl 0 rfl) ?_
    refine lv_aload_n hx hb dX6_inProportion_15 rfl (lv_at hl 1 rfl) ?_
    refine lv_iload_n hx hb dX6_inProportion_16 rfl (lv_at hl 0 rfl) ?_
    refine lv_iconst (v := (0 : Int32)) hx hb dX6_inProportion_17 (by decide) ?_
    obtain ⟨v4, ev4, hf⟩ := xb hf
    obtain ⟨v5, ev5, hf⟩ := xb1 hf
    refine xc_Vi (rest := [.int v1, .ref a0]) ⟨hx, hb, hml, hown, hts⟩ (m_X6_ofUser l B0 G h1 a0 v1 (0 : Int32) v5 ev5) (cwV 2 hts gX6_inProportion_X6_ofUser rfl rfl rfl (by decide +kernel) ⟨Nat.le_of_ble_eq_true rfl, Nat.le_of_ble_eq_true rfl⟩) hKK hP hS ev4 rfl rfl hl.1 rfl (Nat.le_of_ble_eq_true rfl) dX6_inProportion_18 ⟨Nat.zero_le _, Nat.zero_le _⟩ (fun H locs hP hS => ?_)
    refine lv_i2l hx hb dX6_inProportion_21 rfl ?_
    refine lv_iload_n hx hb dX6_inProportion_22 rfl (lv_at hl 2 rfl) ?_
    refine lv_i2l hx hb dX6_inProportion_23 rfl ?_
    refine lv_lmul hx hb dX6_inProportion_24 ?_
    refine lv_iload_n hx hb dX6_inProportion_25 rfl (lv_at hl 3 rfl) ?_
    refine lv_i2l hx hb dX6_inProportion_26 rfl ?_
    obtain ⟨v6, ev6, hf⟩ := xb hf
    refine lv_ldiv hx hb dX6_inProportion_27 (xnzL_spec ev6) ?_
    refine lv_l2i hx hb dX6_inProportion_28 rfl ?_
    obtain ⟨v7, ev7, hf⟩ := xb hf
    obtain ⟨h3, eh3, hf⟩ := xb1 hf
    refine xc_Vv (rest := []) ⟨hx, hb, hml, hown, hts⟩ (m_X6_gives l B0 G h1 h3 a0 v1 (Int64.toInt32 (((Int32.toInt64 v5) * (Int32.toInt64 p0)) / (Int32.toInt64 p1))) eh3) (cwV 2 hts gX6_inProportion_X6_gives rfl rfl rfl (by decide +kernel) ⟨Nat.le_of_ble_eq_true rfl, Nat.le_of_ble_eq_true rfl⟩) hKK hP hS ev7 rfl rfl hl.1 rfl (Nat.le_of_ble_eq_true rfl) dX6_inProportion_29 ⟨Nat.zero_le _, Nat.zero_le _⟩ (fun H locs hP hS => ?_)
    obtain ⟨v8, ev8, hf⟩ := xl hf
    refine lv_iinc (v := v8) (lv' := [(3, .int v8), (0, .ref a0), (1, .int p0), (2, .int p1)]) hx hb dX6_inProportion_32 hl (k := 0) rfl (by rw [ev8]; rfl) (by decide) rfl (fun ls hl => ?_)
    refine lv_goto (tgt := 2) hx hb dX6_inProportion_35 (by decide) ?_
    exact IH _ (Option.some.inj hf).symm _ _ _ hP hS (lv_sub hl [0, 1, 2, 3] rfl)
/-- RainReservoirModel.byOrder -/
def f_X6_byOrder (fu : Nat) (h : XH) (a0 : Nat) : Option (XH) :=
  obind1 (xloop (xf2 fun (v1 : Int32) (h1 : XH) =>
    (xgR h1 a0 6 0).bind fun v2 =>
    (xald h1 v2 0 (7 : Int32)).bind fun v3 =>
    if v3 ≤ v1 then
      some (.inr h1)
    else
      (xis h1 a0 6).bind fun v4 =>
      obind1 (f_X6_ofUser h1 a0 v1 (0 : Int32)) fun v5 =>
      (xis h1 a0 6).bind fun v6 =>
      obind1 (f_X6_gives h1 a0 v1 v5) fun h3 =>
      olet (v1 + (1 : Int32)) fun v7 =>
      some (.inl (v7, h3))
  ) fu ((0 : Int32), h)) fun h2 =>
  some (h2)
abbrev rmX6_byOrder : Room := { frames := 3, cells := 0, slots := 0, locals := 67 }
set_option maxHeartbeats 4000000 in
set_option maxRecDepth 100000 in
theorem m_X6_byOrder (l : Launch) (B0 : Nat) (G : XG) (fu : Nat) (h hE : XH) (a0 : Nat) (hf : f_X6_byOrder fu h a0 = some hE) : Met l yX6_byOrder wsX6_byOrder rmX6_byOrder (va_Pc [.ref a0] (xU B0 G h)) (xQv B0 G hE) 0 0 (xA B0) := by
  refine xMet (cc := cX6_byOrder) (maxL := 2) (by decide) rfl (Nat.le_of_ble_eq_true rfl) ?_
  intro p e s m args below meth c ls hx hb hr hml hown hlocks hnm hts hKK hP hl
  have hown : s.vm.findClass RX6 = some m.cls := hown
  have hl : lv_has ls 2 [(0, .ref a0)] := hl
  have hS : va_S (xA B0) s.heap s.heap [] := va_S.rf
  have inX6 : ∀ w ∈ wsX60, w ∈ wsX6_byOrder := by decide +kernel
  have w1 := hts (.fieldLink RX6 7 "RainReservoirModel" "all" "[I") (by decide +kernel)
  generalize hQ : MQ below (xQv B0 G hE) args s 0 0 (xA B0) = Q
  unfold f_X6_byOrder at hf
  refine lv_iconst (v := (0 : Int32)) hx hb dX6_byOrder_0 (by decide) ?_
  refine lv_istore_n (lv' := [(1, .int (0 : Int32)), (0, .ref a0)]) hx hb dX6_byOrder_1 rfl hl (by decide) rfl (fun ls hl => ?_)
  obtain ⟨h2, eL, hf⟩ := xb1 hf
  have J1 : ∀ (H : Heap) (locs : List Loc) (ls : Array Slot), xP B0 G h2 H → va_S (xA B0) s.heap H locs → lv_has ls 2 [] → W p l e rmX6_byOrder s m args below meth c H locs 0 0 Q (F0 m 30 ls []) := by
    intro H locs ls hP hS hl
    clear eL
    obtain rfl := Option.some.inj hf
    subst hQ
    exact xe_v hx hb hr hlocks hKK hP hS dX6_byOrder_30
  clear hf
  refine xloop_ind (P := fun z => ∀ (H : Heap) (locs : List Loc) (ls : Array Slot), xP B0 G z.2 H → va_S (xA B0) s.heap H locs → lv_has ls 2 [(1, .int z.1), (0, .ref a0)] → W p l e rmX6_byOrder s m args below meth c H locs 0 0 Q (F0 m 2 ls [])) ?_ eL _ _ _ hP hS (lv_sub hl [0, 1] rfl)
  rintro ⟨v1, h1⟩ o hf IH EX H locs ls hP hS hl
  have hf := xf2_e hf
  have hP : xP B0 G h1 H := hP
  have hl : lv_has ls 2 [(1, .int v1), (0, .ref a0)] := hl
  refine lv_iload_n hx hb dX6_byOrder_2 rfl (lv_at hl 0 rfl) ?_
  refine lv_aload_n hx hb dX6_byOrder_3 rfl (lv_at hl 1 rfl) ?_
  obtain ⟨v2, ev2, hf⟩ := xb hf
  refine xr_getR hx hb hts inX6 hown hKK hP ev2 rfl (by decide) w1 (fun _ h9 => h9) dX6_byOrder_4 ?_
  refine lv_bipush (v := (7 : Int32)) hx hb dX6_byOrder_7 (by decide) ?_
  obtain ⟨v3, ev3, hf⟩ := xb hf
  refine xr_iald hx hb hKK hP ev3 dX6_byOrder_9 ?_
  refine lv_icmp_ge (tgt := 30) hx hb dX6_byOrder_10 (by decide) (fun c1 => ?_) (fun c1 => ?_)
  · have hf := xif_t hf c1
    have hf := EX _ (Option.some.inj hf).symm
    obtain rfl := hf
    exact J1 _ _ _ hP hS (lv_sub hl [] rfl)
  · have hf := xif_f hf c1
    refine lv_aload_n hx hb dX6_byOrder_13 rfl (lv_at hl 1 rfl) ?_
    refine lv_iload_n hx hb dX6_byOrder_14 rfl (lv_at hl 0 rfl) ?_
    refine lv_aload_n hx hb dX6_byOrder_15 rfl (lv_at hl 1 rfl) ?_
    refine lv_iload_n hx hb dX6_byOrder_16 rfl (lv_at hl 0 rfl) ?_
    refine lv_iconst (v := (0 : Int32)) hx hb dX6_byOrder_17 (by decide) ?_
    obtain ⟨v4, ev4, hf⟩ := xb hf
    obtain ⟨v5, ev5, hf⟩ := xb1 hf
    refine xc_Vi (rest := [.int v1, .ref a0]) ⟨hx, hb, hml, hown, hts⟩ (m_X6_ofUser l B0 G h1 a0 v1 (0 : Int32) v5 ev5) (cwV 2 hts gX6_byOrder_X6_ofUser rfl rfl rfl (by decide +kernel) ⟨Nat.le_of_ble_eq_true rfl, Nat.le_of_ble_eq_true rfl⟩) hKK hP hS ev4 rfl rfl hl.1 rfl (Nat.le_of_ble_eq_true rfl) dX6_byOrder_18 ⟨Nat.zero_le _, Nat.zero_le _⟩ (fun H locs hP hS => ?_)
    obtain ⟨v6, ev6, hf⟩ := xb hf
    obtain ⟨h3, eh3, hf⟩ := xb1 hf
    refine xc_Vv (rest := []) ⟨hx, hb, hml, hown, hts⟩ (m_X6_gives l B0 G h1 h3 a0 v1 v5 eh3) (cwV 2 hts gX6_byOrder_X6_gives rfl rfl rfl (by decide +kernel) ⟨Nat.le_of_ble_eq_true rfl, Nat.le_of_ble_eq_true rfl⟩) hKK hP hS ev6 rfl rfl hl.1 rfl (Nat.le_of_ble_eq_true rfl) dX6_byOrder_21 ⟨Nat.zero_le _, Nat.zero_le _⟩ (fun H locs hP hS => ?_)
    obtain ⟨v7, ev7, hf⟩ := xl hf
    refine lv_iinc (v := v7) (lv' := [(1, .int v7), (0, .ref a0)]) hx hb dX6_byOrder_24 hl (k := 0) rfl (by rw [ev7]; rfl) (by decide) rfl (fun ls hl => ?_)
    refine lv_goto (tgt := 2) hx hb dX6_byOrder_27 (by decide) ?_
    exact IH _ (Option.some.inj hf).symm _ _ _ hP hS (lv_sub hl [0, 1] rfl)
/-- RainReservoirModel.byWeights -/
def f_X6_byWeights (fu : Nat) (h : XH) (a0 : Nat) : Option (XH) :=
  obind1 (xloop (xf1 fun  (h1 : XH) =>
    (xgI h1 a0 6 8).bind fun v1 =>
    if v1 ≤ (0 : Int32) then
      some (.inr h1)
    else
      obind1 (xloop (xf2 fun (v2 : Int32) (h3 : XH) =>
        (xgR h3 a0 6 0).bind fun v3 =>
        (xald h3 v3 0 (7 : Int32)).bind fun v4 =>
        if v4 ≤ v2 then
          some (.inr h3)
        else
          (xis h3 a0 6).bind fun v5 =>
          obind1 (f_X6_ofUser h3 a0 v2 (1 : Int32)) fun v6 =>
          (xis h3 a0 6).bind fun v7 =>
          obind1 (f_X6_gives h3 a0 v2 ((10 : Int32) * v6)) fun h5 =>
          olet (v2 + (1 : Int32)) fun v8 =>
          some (.inl (v8, h5))
      ) fu ((0 : Int32), h1)) fun h4 =>
      some (.inl h4)
  ) fu h) fun h2 =>
  some (h2)
abbrev rmX6_byWeights : Room := { frames := 3, cells := 0, slots := 0, locals := 67 }
set_option maxHeartbeats 4000000 in
set_option maxRecDepth 100000 in
theorem m_X6_byWeights (l : Launch) (B0 : Nat) (G : XG) (fu : Nat) (h hE : XH) (a0 : Nat) (hf : f_X6_byWeights fu h a0 = some hE) : Met l yX6_byWeights wsX6_byWeights rmX6_byWeights (va_Pc [.ref a0] (xU B0 G h)) (xQv B0 G hE) 0 0 (xA B0) := by
  refine xMet (cc := cX6_byWeights) (maxL := 2) (by decide) rfl (Nat.le_of_ble_eq_true rfl) ?_
  intro p e s m args below meth c ls hx hb hr hml hown hlocks hnm hts hKK hP hl
  have hown : s.vm.findClass RX6 = some m.cls := hown
  have hl : lv_has ls 2 [(0, .ref a0)] := hl
  have hS : va_S (xA B0) s.heap s.heap [] := va_S.rf
  have inX6 : ∀ w ∈ wsX60, w ∈ wsX6_byWeights := by decide +kernel
  have w1 := hts (.fieldLink RX6 125 "RainReservoirModel" "left" "I") (by decide +kernel)
  have w2 := hts (.fieldLink RX6 7 "RainReservoirModel" "all" "[I") (by decide +kernel)
  generalize hQ : MQ below (xQv B0 G hE) args s 0 0 (xA B0) = Q
  unfold f_X6_byWeights at hf
  obtain ⟨h2, eL, hf⟩ := xb1 hf
  have J1 : ∀ (H : Heap) (locs : List Loc) (ls : Array Slot), xP B0 G h2 H → va_S (xA B0) s.heap H locs → lv_has ls 2 [] → W p l e rmX6_byWeights s m args below meth c H locs 0 0 Q (F0 m 43 ls []) := by
    intro H locs ls hP hS hl
    clear eL
    obtain rfl := Option.some.inj hf
    subst hQ
    exact xe_v hx hb hr hlocks hKK hP hS dX6_byWeights_43
  clear hf
  refine xloop_ind (P := fun z => ∀ (H : Heap) (locs : List Loc) (ls : Array Slot), xP B0 G z H → va_S (xA B0) s.heap H locs → lv_has ls 2 [(0, .ref a0)] → W p l e rmX6_byWeights s m args below meth c H locs 0 0 Q (F0 m 0 ls [])) ?_ eL _ _ _ hP hS (lv_sub hl [0] rfl)
  rintro h1 o hf IH EX H locs ls hP hS hl
  have hf := xf1_e hf
  have hP : xP B0 G h1 H := hP
  have hl : lv_has ls 2 [(0, .ref a0)] := hl
  refine lv_aload_n hx hb dX6_byWeights_0 rfl (lv_at hl 0 rfl) ?_
  obtain ⟨v1, ev1, hf⟩ := xb hf
  refine xr_getI hx hb hts inX6 hown hKK hP ev1 rfl (by decide) w1 (fun _ h9 => h9) dX6_byWeights_1 ?_
  refine lv_if_le (tgt := 43) hx hb dX6_byWeights_4 (by decide) (fun c1 => ?_) (fun c1 => ?_)
  · have hf := xif_t hf c1
    have hf := EX _ (Option.some.inj hf).symm
    obtain rfl := hf
    exact J1 _ _ _ hP hS (lv_sub hl [] rfl)
  · have hf := xif_f hf c1
    refine lv_iconst (v := (0 : Int32)) hx hb dX6_byWeights_7 (by decide) ?_
    refine lv_istore_n (lv' := [(1, .int (0 : Int32)), (0, .ref a0)]) hx hb dX6_byWeights_8 rfl hl (by decide) rfl (fun ls hl => ?_)
    obtain ⟨h4, eL, hf⟩ := xb1 hf
    have J2 : ∀ (H : Heap) (locs : List Loc) (ls : Array Slot), xP B0 G h4 H → va_S (xA B0) s.heap H locs → lv_has ls 2 [(0, .ref a0)] → W p l e rmX6_byWeights s m args below meth c H locs 0 0 Q (F0 m 40 ls []) := by
      intro H locs ls hP hS hl
      clear eL
      refine lv_goto (tgt := 0) hx hb dX6_byWeights_40 (by decide) ?_
      exact IH _ (Option.some.inj hf).symm _ _ _ hP hS (lv_sub hl [0] rfl)
    clear hf
    refine xloop_ind (P := fun z => ∀ (H : Heap) (locs : List Loc) (ls : Array Slot), xP B0 G z.2 H → va_S (xA B0) s.heap H locs → lv_has ls 2 [(1, .int z.1), (0, .ref a0)] → W p l e rmX6_byWeights s m args below meth c H locs 0 0 Q (F0 m 9 ls [])) ?_ eL _ _ _ hP hS (lv_sub hl [0, 1] rfl)
    rintro ⟨v2, h3⟩ o hf IH EX H locs ls hP hS hl
    have hf := xf2_e hf
    have hP : xP B0 G h3 H := hP
    have hl : lv_has ls 2 [(1, .int v2), (0, .ref a0)] := hl
    refine lv_iload_n hx hb dX6_byWeights_9 rfl (lv_at hl 0 rfl) ?_
    refine lv_aload_n hx hb dX6_byWeights_10 rfl (lv_at hl 1 rfl) ?_
    obtain ⟨v3, ev3, hf⟩ := xb hf
    refine xr_getR hx hb hts inX6 hown hKK hP ev3 rfl (by decide) w2 (fun _ h9 => h9) dX6_byWeights_11 ?_
    refine lv_bipush (v := (7 : Int32)) hx hb dX6_byWeights_14 (by decide) ?_
    obtain ⟨v4, ev4, hf⟩ := xb hf
    refine xr_iald hx hb hKK hP ev4 dX6_byWeights_16 ?_
    refine lv_icmp_ge (tgt := 40) hx hb dX6_byWeights_17 (by decide) (fun c2 => ?_) (fun c2 => ?_)
    · have hf := xif_t hf c2
      have hf := EX _ (Option.some.inj hf).symm
      obtain rfl := hf
      exact J2 _ _ _ hP hS (lv_sub hl [1] rfl)
    · have hf := xif_f hf c2
      refine lv_aload_n hx hb dX6_byWeights_20 rfl (lv_at hl 1 rfl) ?_
      refine lv_iload_n hx hb dX6_byWeights_21 rfl (lv_at hl 0 rfl) ?_
      refine lv_bipush (v := (10 : Int32)) hx hb dX6_byWeights_22 (by decide) ?_
      refine lv_aload_n hx hb dX6_byWeights_24 rfl (lv_at hl 1 rfl) ?_
      refine lv_iload_n hx hb dX6_byWeights_25 rfl (lv_at hl 0 rfl) ?_
      refine lv_iconst (v := (1 : Int32)) hx hb dX6_byWeights_26 (by decide) ?_
      obtain ⟨v5, ev5, hf⟩ := xb hf
      obtain ⟨v6, ev6, hf⟩ := xb1 hf
      refine xc_Vi (rest := [.int (10 : Int32), .int v2, .ref a0]) ⟨hx, hb, hml, hown, hts⟩ (m_X6_ofUser l B0 G h3 a0 v2 (1 : Int32) v6 ev6) (cwV 2 hts gX6_byWeights_X6_ofUser rfl rfl rfl (by decide +kernel) ⟨Nat.le_of_ble_eq_true rfl, Nat.le_of_ble_eq_true rfl⟩) hKK hP hS ev5 rfl rfl hl.1 rfl (Nat.le_of_ble_eq_true rfl) dX6_byWeights_27 ⟨Nat.zero_le _, Nat.zero_le _⟩ (fun H locs hP hS => ?_)
      refine lv_imul hx hb dX6_byWeights_30 ?_
      obtain ⟨v7, ev7, hf⟩ := xb hf
      obtain ⟨h5, eh5, hf⟩ := xb1 hf
      refine xc_Vv (rest := []) ⟨hx, hb, hml, hown, hts⟩ (m_X6_gives l B0 G h3 h5 a0 v2 ((10 : Int32) * v6) eh5) (cwV 2 hts gX6_byWeights_X6_gives rfl rfl rfl (by decide +kernel) ⟨Nat.le_of_ble_eq_true rfl, Nat.le_of_ble_eq_true rfl⟩) hKK hP hS ev7 rfl rfl hl.1 rfl (Nat.le_of_ble_eq_true rfl) dX6_byWeights_31 ⟨Nat.zero_le _, Nat.zero_le _⟩ (fun H locs hP hS => ?_)
      obtain ⟨v8, ev8, hf⟩ := xl hf
      refine lv_iinc (v := v8) (lv' := [(1, .int v8), (0, .ref a0)]) hx hb dX6_byWeights_34 hl (k := 0) rfl (by rw [ev8]; rfl) (by decide) rfl (fun ls hl => ?_)
      refine lv_goto (tgt := 9) hx hb dX6_byWeights_37 (by decide) ?_
      exact IH _ (Option.some.inj hf).symm _ _ _ hP hS (lv_sub hl [0, 1] rfl)
/-- RainReservoirModel.smallestFirst -/
def f_X6_smallestFirst (fu : Nat) (h : XH) (a0 : Nat) : Option (XH) :=
  obind1 (xloop (xf3 fun (v1 : Int32) (v2 : Int32) (h1 : XH) =>
    (xgR h1 a0 6 0).bind fun v3 =>
    (xald h1 v3 0 (7 : Int32)).bind fun v4 =>
    if v4 ≤ v2 then
      some (.inr h1)
    else
      obind1 (xloop (xf2 fun (v5 : Int32) (v6 : Int32) =>
        (xgR h1 a0 6 0).bind fun v8 =>
        (xald h1 v8 0 (7 : Int32)).bind fun v9 =>
        if v9 ≤ v6 then
          some (.inr v5)
        else
          obind1 (
            if ((v1 >>> (v6 &&& (31 : Int32))) &&& (1 : Int32)) = (0 : Int32) then
              some (1 : Int32)
            else
              some (0 : Int32)
          ) fun v10 =>
          obind1 (
            oletk (
              some v5
            ) fun k5 =>
            if v10 = (0 : Int32) then
              k5
            else
              oletk (
                some v6
              ) fun k6 =>
              if v5 = (-1 : Int32) then
                k6
              else
                (xis h1 a0 6).bind fun v12 =>
                obind1 (f_X6_ofUser h1 a0 v6 (0 : Int32)) fun v13 =>
                (xis h1 a0 6).bind fun v14 =>
                obind1 (f_X6_ofUser h1 a0 v5 (0 : Int32)) fun v15 =>
                if v15 ≤ v13 then
                  k5
                else
                  k6
          ) fun v11 =>
          olet (v6 + (1 : Int32)) fun v16 =>
          some (.inl (v11, v16))
      ) fu ((-1 : Int32), (0 : Int32))) fun v7 =>
      olet ((v1 ||| ((1 : Int32) <<< (v7 &&& (31 : Int32))))) fun v17 =>
      (xis h1 a0 6).bind fun v18 =>
      obind1 (f_X6_ofUser h1 a0 v7 (0 : Int32)) fun v19 =>
      (xis h1 a0 6).bind fun v20 =>
      obind1 (f_X6_gives h1 a0 v7 v19) fun h3 =>
      olet (v2 + (1 : Int32)) fun v21 =>
      some (.inl (v17, v21, h3))
  ) fu ((0 : Int32), (0 : Int32), h)) fun h2 =>
  some (h2)
abbrev rmX6_smallestFirst : Room := { frames := 3, cells := 0, slots := 0, locals := 67 }
set_option maxHeartbeats 4000000 in
set_option maxRecDepth 100000 in
theorem m_X6_smallestFirst (l : Launch) (B0 : Nat) (G : XG) (fu : Nat) (h hE : XH) (a0 : Nat) (hf : f_X6_smallestFirst fu h a0 = some hE) : Met l yX6_smallestFirst wsX6_smallestFirst rmX6_smallestFirst (va_Pc [.ref a0] (xU B0 G h)) (xQv B0 G hE) 0 0 (xA B0) := by
  refine xMet (cc := cX6_smallestFirst) (maxL := 6) (by decide) rfl (Nat.le_of_ble_eq_true rfl) ?_
  intro p e s m args below meth c ls hx hb hr hml hown hlocks hnm hts hKK hP hl
  have hown : s.vm.findClass RX6 = some m.cls := hown
  have hl : lv_has ls 6 [(0, .ref a0)] := hl
  have hS : va_S (xA B0) s.heap s.heap [] := va_S.rf
  have inX6 : ∀ w ∈ wsX60, w ∈ wsX6_smallestFirst := by decide +kernel
  have w1 := hts (.fieldLink RX6 7 "RainReservoirModel" "all" "[I") (by decide +kernel)
  generalize hQ : MQ below (xQv B0 G hE) args s 0 0 (xA B0) = Q
  unfold f_X6_smallestFirst at hf
  refine lv_iconst (v := (0 : Int32)) hx hb dX6_smallestFirst_0 (by decide) ?_
  refine lv_istore_n (lv' := [(1, .int (0 : Int32)), (0, .ref a0)]) hx hb dX6_smallestFirst_1 rfl hl (by decide) rfl (fun ls hl => ?_)
  refine lv_iconst (v := (0 : Int32)) hx hb dX6_smallestFirst_2 (by decide) ?_
  refine lv_istore_n (lv' := [(2, .int (0 : Int32)), (1, .int (0 : Int32)), (0, .ref a0)]) hx hb dX6_smallestFirst_3 rfl hl (by decide) rfl (fun ls hl => ?_)
  obtain ⟨h2, eL, hf⟩ := xb1 hf
  have J1 : ∀ (H : Heap) (locs : List Loc) (ls : Array Slot), xP B0 G h2 H → va_S (xA B0) s.heap H locs → lv_has ls 6 [] → W p l e rmX6_smallestFirst s m args below meth c H locs 0 0 Q (F0 m 110 ls []) := by
    intro H locs ls hP hS hl
    clear eL
    obtain rfl := Option.some.inj hf
    subst hQ
    exact xe_v hx hb hr hlocks hKK hP hS dX6_smallestFirst_110
  clear hf
  refine xloop_ind (P := fun z => ∀ (H : Heap) (locs : List Loc) (ls : Array Slot), xP B0 G z.2.2 H → va_S (xA B0) s.heap H locs → lv_has ls 6 [(1, .int z.1), (2, .int z.2.1), (0, .ref a0)] → W p l e rmX6_smallestFirst s m args below meth c H locs 0 0 Q (F0 m 4 ls [])) ?_ eL _ _ _ hP hS (lv_sub hl [1, 0, 2] rfl)
  rintro ⟨v1, v2, h1⟩ o hf IH EX H locs ls hP hS hl
  have hf := xf3_e hf
  have hP : xP B0 G h1 H := hP
  have hl : lv_has ls 6 [(1, .int v1), (2, .int v2), (0, .ref a0)] := hl
  refine lv_iload_n hx hb dX6_smallestFirst_4 rfl (lv_at hl 1 rfl) ?_
  refine lv_aload_n hx hb dX6_smallestFirst_5 rfl (lv_at hl 2 rfl) ?_
  obtain ⟨v3, ev3, hf⟩ := xb hf
  refine xr_getR hx hb hts inX6 hown hKK hP ev3 rfl (by decide) w1 (fun _ h9 => h9) dX6_smallestFirst_6 ?_
  refine lv_bipush (v := (7 : Int32)) hx hb dX6_smallestFirst_9 (by decide) ?_
  obtain ⟨v4, ev4, hf⟩ := xb hf
  refine xr_iald hx hb hKK hP ev4 dX6_smallestFirst_11 ?_
  refine lv_icmp_ge (tgt := 110) hx hb dX6_smallestFirst_12 (by decide) (fun c1 => ?_) (fun c1 => ?_)
  · have hf := xif_t hf c1
    have hf := EX _ (Option.some.inj hf).symm
    obtain rfl := hf
    exact J1 _ _ _ hP hS (lv_sub hl [] rfl)
  · have hf := xif_f hf c1
    refine lv_iconst (v := (-1 : Int32)) hx hb dX6_smallestFirst_15 (by decide) ?_
    refine lv_istore_n (lv' := [(3, .int (-1 : Int32)), (1, .int v1), (2, .int v2), (0, .ref a0)]) hx hb dX6_smallestFirst_16 rfl hl (by decide) rfl (fun ls hl => ?_)
    refine lv_iconst (v := (0 : Int32)) hx hb dX6_smallestFirst_17 (by decide) ?_
    refine lv_istore (lv' := [(4, .int (0 : Int32)), (3, .int (-1 : Int32)), (1, .int v1), (2, .int v2), (0, .ref a0)]) hx hb dX6_smallestFirst_18 hl (by decide) rfl (fun ls hl => ?_)
    obtain ⟨v7, eL, hf⟩ := xb1 hf
    have J2 : ∀ (H : Heap) (locs : List Loc) (ls : Array Slot), xP B0 G h1 H → va_S (xA B0) s.heap H locs → lv_has ls 6 [(3, .int v7), (1, .int v1), (2, .int v2), (0, .ref a0)] → W p l e rmX6_smallestFirst s m args below meth c H locs 0 0 Q (F0 m 87 ls []) := by
      intro H locs ls hP hS hl
      clear eL
      refine lv_iload_n hx hb dX6_smallestFirst_87 rfl (lv_at hl 1 rfl) ?_
      refine lv_iconst (v := (1 : Int32)) hx hb dX6_smallestFirst_88 (by decide) ?_
      refine lv_iload_n hx hb dX6_smallestFirst_89 rfl (lv_at hl 0 rfl) ?_
      refine lv_ishl hx hb dX6_smallestFirst_90 ?_
      refine lv_ior hx hb dX6_smallestFirst_91 ?_
      obtain ⟨v17, ev17, hf⟩ := xl hf
      refine xtopi ev17 ?_
      refine lv_istore_n (lv' := [(1, .int v17), (3, .int v7), (2, .int v2), (0, .ref a0)]) hx hb dX6_smallestFirst_92 rfl hl (by decide) rfl (fun ls hl => ?_)
      refine lv_aload_n hx hb dX6_smallestFirst_93 rfl (lv_at hl 3 rfl) ?_
      refine lv_iload_n hx hb dX6_smallestFirst_94 rfl (lv_at hl 1 rfl) ?_
      refine lv_aload_n hx hb dX6_smallestFirst_95 rfl (lv_at hl 3 rfl) ?_
      refine lv_iload_n hx hb dX6_smallestFirst_96 rfl (lv_at hl 1 rfl) ?_
      refine lv_iconst (v := (0 : Int32)) hx hb dX6_smallestFirst_97 (by decide) ?_
      obtain ⟨v18, ev18, hf⟩ := xb hf
      obtain ⟨v19, ev19, hf⟩ := xb1 hf
      refine xc_Vi (rest := [.int v7, .ref a0]) ⟨hx, hb, hml, hown, hts⟩ (m_X6_ofUser l B0 G h1 a0 v7 (0 : Int32) v19 ev19) (cwV 2 hts gX6_smallestFirst_X6_ofUser rfl rfl rfl (by decide +kernel) ⟨Nat.le_of_ble_eq_true rfl, Nat.le_of_ble_eq_true rfl⟩) hKK hP hS ev18 rfl rfl hl.1 rfl (Nat.le_of_ble_eq_true rfl) dX6_smallestFirst_98 ⟨Nat.zero_le _, Nat.zero_le _⟩ (fun H locs hP hS => ?_)
      obtain ⟨v20, ev20, hf⟩ := xb hf
      obtain ⟨h3, eh3, hf⟩ := xb1 hf
      refine xc_Vv (rest := []) ⟨hx, hb, hml, hown, hts⟩ (m_X6_gives l B0 G h1 h3 a0 v7 v19 eh3) (cwV 2 hts gX6_smallestFirst_X6_gives rfl rfl rfl (by decide +kernel) ⟨Nat.le_of_ble_eq_true rfl, Nat.le_of_ble_eq_true rfl⟩) hKK hP hS ev20 rfl rfl hl.1 rfl (Nat.le_of_ble_eq_true rfl) dX6_smallestFirst_101 ⟨Nat.zero_le _, Nat.zero_le _⟩ (fun H locs hP hS => ?_)
      obtain ⟨v21, ev21, hf⟩ := xl hf
      refine lv_iinc (v := v21) (lv' := [(2, .int v21), (1, .int v17), (3, .int v7), (0, .ref a0)]) hx hb dX6_smallestFirst_104 hl (k := 2) rfl (by rw [ev21]; rfl) (by decide) rfl (fun ls hl => ?_)
      refine lv_goto (tgt := 4) hx hb dX6_smallestFirst_107 (by decide) ?_
      exact IH _ (Option.some.inj hf).symm _ _ _ hP hS (lv_sub hl [1, 0, 3] rfl)
    clear hf
    refine xloop_ind (P := fun z => ∀ (H : Heap) (locs : List Loc) (ls : Array Slot), xP B0 G h1 H → va_S (xA B0) s.heap H locs → lv_has ls 6 [(3, .int z.1), (4, .int z.2), (1, .int v1), (2, .int v2), (0, .ref a0)] → W p l e rmX6_smallestFirst s m args below meth c H locs 0 0 Q (F0 m 20 ls [])) ?_ eL _ _ _ hP hS (lv_sub hl [1, 0, 2, 3, 4] rfl)
    rintro ⟨v5, v6⟩ o hf IH EX H locs ls hP hS hl
    have hf := xf2_e hf
    have hl : lv_has ls 6 [(3, .int v5), (4, .int v6), (1, .int v1), (2, .int v2), (0, .ref a0)] := hl
    refine lv_iload hx hb dX6_smallestFirst_20 (lv_at hl 1 rfl) ?_
    refine lv_aload_n hx hb dX6_smallestFirst_22 rfl (lv_at hl 4 rfl) ?_
    obtain ⟨v8, ev8, hf⟩ := xb hf
    refine xr_getR hx hb hts inX6 hown hKK hP ev8 rfl (by decide) w1 (fun _ h9 => h9) dX6_smallestFirst_23 ?_
    refine lv_bipush (v := (7 : Int32)) hx hb dX6_smallestFirst_26 (by decide) ?_
    obtain ⟨v9, ev9, hf⟩ := xb hf
    refine xr_iald hx hb hKK hP ev9 dX6_smallestFirst_28 ?_
    refine lv_icmp_ge (tgt := 87) hx hb dX6_smallestFirst_29 (by decide) (fun c2 => ?_) (fun c2 => ?_)
    · have hf := xif_t hf c2
      have hf := EX _ (Option.some.inj hf).symm
      obtain rfl := hf
      exact J2 _ _ _ hP hS (lv_sub hl [0, 2, 3, 4] rfl)
    · have hf := xif_f hf c2
      refine lv_iload_n hx hb dX6_smallestFirst_32 rfl (lv_at hl 2 rfl) ?_
      refine lv_iload hx hb dX6_smallestFirst_33 (lv_at hl 1 rfl) ?_
      refine lv_ishr hx hb dX6_smallestFirst_35 ?_
      refine lv_iconst (v := (1 : Int32)) hx hb dX6_smallestFirst_36 (by decide) ?_
      refine lv_iand hx hb dX6_smallestFirst_37 ?_
      obtain ⟨v10, ej3, hf⟩ := xb1 hf
      have J3 : ∀ (H : Heap) (locs : List Loc) (ls : Array Slot), xP B0 G h1 H → va_S (xA B0) s.heap H locs → lv_has ls 6 [(3, .int v5), (4, .int v6), (1, .int v1), (2, .int v2), (0, .ref a0)] → W p l e rmX6_smallestFirst s m args below meth c H locs 0 0 Q (F0 m 46 ls [.int v10]) := by
        intro H locs ls hP hS hl
        clear ej3
        refine lv_istore (lv' := [(5, .int v10), (3, .int v5), (4, .int v6), (1, .int v1), (2, .int v2), (0, .ref a0)]) hx hb dX6_smallestFirst_46 hl (by decide) rfl (fun ls hl => ?_)
        refine lv_iload hx hb dX6_smallestFirst_48 (lv_at hl 0 rfl) ?_
        obtain ⟨v11, ej4, hf⟩ := xb1 hf
        have J4 : ∀ (H : Heap) (locs : List Loc) (ls : Array Slot), xP B0 G h1 H → va_S (xA B0) s.heap H locs → lv_has ls 6 [(4, .int v6), (1, .int v1), (2, .int v2), (0, .ref a0)] → W p l e rmX6_smallestFirst s m args below meth c H locs 0 0 Q (F0 m 80 ls [.int v11]) := by
          intro H locs ls hP hS hl
          clear ej4
          refine lv_istore_n (lv' := [(3, .int v11), (4, .int v6), (1, .int v1), (2, .int v2), (0, .ref a0)]) hx hb dX6_smallestFirst_80 rfl hl (by decide) rfl (fun ls hl => ?_)
          obtain ⟨v16, ev16, hf⟩ := xl hf
          refine lv_iinc (v := v16) (lv' := [(4, .int v16), (3, .int v11), (1, .int v1), (2, .int v2), (0, .ref a0)]) hx hb dX6_smallestFirst_81 hl (k := 1) rfl (by rw [ev16]; rfl) (by decide) rfl (fun ls hl => ?_)
          refine lv_goto (tgt := 20) hx hb dX6_smallestFirst_84 (by decide) ?_
          exact IH _ (Option.some.inj hf).symm _ _ _ hP hS (lv_sub hl [1, 0, 2, 3, 4] rfl)
        have hf := ej4
        clear ej4
        obtain ⟨k5, ek5, hf⟩ := xlk hf
        have J5 : k5 = some v11 → ∀ (H : Heap) (locs : List Loc) (ls : Array Slot), xP B0 G h1 H → va_S (xA B0) s.heap H locs → lv_has ls 6 [(3, .int v5), (4, .int v6), (1, .int v1), (2, .int v2), (0, .ref a0)] → W p l e rmX6_smallestFirst s m args below meth c H locs 0 0 Q (F0 m 79 ls []) := by
          intro  hf H locs ls hP hS hl
          have hf := xk0 ek5 hf
          clear ek5
          refine lv_iload_n hx hb dX6_smallestFirst_79 rfl (lv_at hl 0 rfl) ?_
          obtain rfl := Option.some.inj hf
          exact J4 _ _ _ hP hS (lv_sub hl [1, 2, 3, 4] rfl)
        clear ek5
        refine lv_if_eq (tgt := 79) hx hb dX6_smallestFirst_50 (by decide) (fun c4 => ?_) (fun c4 => ?_)
        · have hf := xif_t hf c4
          exact J5  hf _ _ _ hP hS (lv_sub hl [1, 2, 3, 4, 5] rfl)
        · have hf := xif_f hf c4
          refine lv_iload_n hx hb dX6_smallestFirst_53 rfl (lv_at hl 1 rfl) ?_
          refine lv_iconst (v := (-1 : Int32)) hx hb dX6_smallestFirst_54 (by decide) ?_
          obtain ⟨k6, ek6, hf⟩ := xlk hf
          have J6 : k6 = some v11 → ∀ (H : Heap) (locs : List Loc) (ls : Array Slot), xP B0 G h1 H → va_S (xA B0) s.heap H locs → lv_has ls 6 [(4, .int v6), (1, .int v1), (2, .int v2), (0, .ref a0)] → W p l e rmX6_smallestFirst s m args below meth c H locs 0 0 Q (F0 m 74 ls []) := by
            intro  hf H locs ls hP hS hl
            have hf := xk0 ek6 hf
            clear ek6
            refine lv_iload hx hb dX6_smallestFirst_74 (lv_at hl 0 rfl) ?_
            refine lv_goto (tgt := 80) hx hb dX6_smallestFirst_76 (by decide) ?_
            obtain rfl := Option.some.inj hf
            exact J4 _ _ _ hP hS (lv_sub hl [0, 1, 2, 3] rfl)
          clear ek6
          refine lv_icmp_eq (tgt := 74) hx hb dX6_smallestFirst_55 (by decide) (fun c5 => ?_) (fun c5 => ?_)
          · have hf := xif_t hf c5
            exact J6  hf _ _ _ hP hS (lv_sub hl [2, 3, 4, 5] rfl)
          · have hf := xif_f hf c5
            refine lv_aload_n hx hb dX6_smallestFirst_58 rfl (lv_at hl 5 rfl) ?_
            refine lv_iload hx hb dX6_smallestFirst_59 (lv_at hl 2 rfl) ?_
            refine lv_iconst (v := (0 : Int32)) hx hb dX6_smallestFirst_61 (by decide) ?_
            obtain ⟨v12, ev12, hf⟩ := xb hf
            obtain ⟨v13, ev13, hf⟩ := xb1 hf
            refine xc_Vi (rest := []) ⟨hx, hb, hml, hown, hts⟩ (m_X6_ofUser l B0 G h1 a0 v6 (0 : Int32) v13 ev13) (cwV 2 hts gX6_smallestFirst_X6_ofUser rfl rfl rfl (by decide +kernel) ⟨Nat.le_of_ble_eq_true rfl, Nat.le_of_ble_eq_true rfl⟩) hKK hP hS ev12 rfl rfl hl.1 rfl (Nat.le_of_ble_eq_true rfl) dX6_smallestFirst_62 ⟨Nat.zero_le _, Nat.zero_le _⟩ (fun H locs hP hS => ?_)
            refine lv_aload_n hx hb dX6_smallestFirst_65 rfl (lv_at hl 5 rfl) ?_
            refine lv_iload_n hx hb dX6_smallestFirst_66 rfl (lv_at hl 1 rfl) ?_
            refine lv_iconst (v := (0 : Int32)) hx hb dX6_smallestFirst_67 (by decide) ?_
            obtain ⟨v14, ev14, hf⟩ := xb hf
            obtain ⟨v15, ev15, hf⟩ := xb1 hf
            refine xc_Vi (rest := [.int v13]) ⟨hx, hb, hml, hown, hts⟩ (m_X6_ofUser l B0 G h1 a0 v5 (0 : Int32) v15 ev15) (cwV 2 hts gX6_smallestFirst_X6_ofUser rfl rfl rfl (by decide +kernel) ⟨Nat.le_of_ble_eq_true rfl, Nat.le_of_ble_eq_true rfl⟩) hKK hP hS ev14 rfl rfl hl.1 rfl (Nat.le_of_ble_eq_true rfl) dX6_smallestFirst_68 ⟨Nat.zero_le _, Nat.zero_le _⟩ (fun H locs hP hS => ?_)
            refine lv_icmp_ge (tgt := 79) hx hb dX6_smallestFirst_71 (by decide) (fun c6 => ?_) (fun c6 => ?_)
            · have hf := xif_t hf c6
              exact J5  hf _ _ _ hP hS (lv_sub hl [1, 2, 3, 4, 5] rfl)
            · have hf := xif_f hf c6
              exact J6  hf _ _ _ hP hS (lv_sub hl [2, 3, 4, 5] rfl)
      have hf := ej3
      clear ej3
      refine lv_if_ne (tgt := 45) hx hb dX6_smallestFirst_38 (by decide) (fun c3 => ?_) (fun c3 => ?_)
      · have hf := xif_f hf c3
        refine lv_iconst (v := (0 : Int32)) hx hb dX6_smallestFirst_45 (by decide) ?_
        obtain rfl := Option.some.inj hf
        exact J3 _ _ _ hP hS (lv_sub hl [0, 1, 2, 3, 4] rfl)
      · have hf := xif_t hf c3
        refine lv_iconst (v := (1 : Int32)) hx hb dX6_smallestFirst_41 (by decide) ?_
        refine lv_goto (tgt := 46) hx hb dX6_smallestFirst_42 (by decide) ?_
        obtain rfl := Option.some.inj hf
        exact J3 _ _ _ hP hS (lv_sub hl [0, 1, 2, 3, 4] rfl)
/-- RainReservoirModel.shares -/
def f_X6_shares (fu : Nat) (h : XH) (a0 : Nat) (p0 : Int32) : Option (Int32 × XH) :=
  (xis h a0 6).bind fun v1 =>
  obind1 (f_X6_demands fu h a0) fun v2 =>
  (xpV h a0 6 8 (.int p0)).bind fun h1 =>
  obind1 (xloop (xf2 fun (v3 : Int32) (h2 : XH) =>
    (xgR h2 a0 6 0).bind fun v4 =>
    (xald h2 v4 0 (7 : Int32)).bind fun v5 =>
    if v5 ≤ v3 then
      some (.inr h2)
    else
      (xgR h2 a0 6 0).bind fun v6 =>
      obind1 (f_X6_userAt v3 (2 : Int32)) fun v7 =>
      (xast h2 v6 0 v7 (0 : Int32)).bind fun h4 =>
      olet (v3 + (1 : Int32)) fun v8 =>
      some (.inl (v8, h4))
  ) fu ((0 : Int32), h1)) fun h3 =>
  obind1 (
    if v2 ≤ p0 then
      some (0 : Int32)
    else
      some (1 : Int32)
  ) fun v9 =>
  obind1 (
    if v9 = (0 : Int32) then
      some (1 : Int32)
    else
      (xgR h3 a0 6 0).bind fun v11 =>
      (xald h3 v11 0 (5 : Int32)).bind fun v12 =>
      some v12
  ) fun v10 =>
  obind1 (
    if v10 = (0 : Int32) then
      (xis h3 a0 6).bind fun v13 =>
      obind1 (f_X6_inProportion fu h3 a0 p0 v2) fun h6 =>
      some h6
    else
    if v10 = (1 : Int32) then
      (xis h3 a0 6).bind fun v14 =>
      obind1 (f_X6_byOrder fu h3 a0) fun h7 =>
      some h7
    else
    if v10 = (2 : Int32) then
      (xis h3 a0 6).bind fun v15 =>
      obind1 (f_X6_byWeights fu h3 a0) fun h8 =>
      some h8
    else
    (xis h3 a0 6).bind fun v16 =>
    obind1 (f_X6_smallestFirst fu h3 a0) fun h9 =>
    some h9
  ) fun h5 =>
  obind1 (xloop (xf2 fun (v17 : Int32) (h10 : XH) =>
    (xgR h10 a0 6 0).bind fun v18 =>
    (xald h10 v18 0 (7 : Int32)).bind fun v19 =>
    if v19 ≤ v17 then
      some (.inr h10)
    else
      (xgR h10 a0 6 0).bind fun v20 =>
      obind1 (f_X6_userAt v17 (3 : Int32)) fun v21 =>
      (xald h10 v20 0 v21).bind fun v22 =>
      (xis h10 a0 6).bind fun v23 =>
      obind1 (f_X6_ofUser h10 a0 v17 (2 : Int32)) fun v24 =>
      (xast h10 v20 0 v21 (v22 + v24)).bind fun h12 =>
      olet (v17 + (1 : Int32)) fun v25 =>
      some (.inl (v25, h12))
  ) fu ((0 : Int32), h5)) fun h11 =>
  (xgI h11 a0 6 8).bind fun v26 =>
  (xis h11 a0 6).bind fun v27 =>
  obind1 (f_X6_tells h11 a0 (6 : Int32) (p0 - v26)) fun h13 =>
  (xgI h13 a0 6 8).bind fun v28 =>
  (xis h13 a0 6).bind fun v29 =>
  obind1 (f_X6_tells h13 a0 (7 : Int32) (v2 - (p0 - v28))) fun h14 =>
  (xbool v9).bind fun v30 =>
  some ((v30, h14))
abbrev rmX6_shares : Room := { frames := 4, cells := 0, slots := 0, locals := 92 }
set_option maxHeartbeats 4000000 in
set_option maxRecDepth 100000 in
theorem m_X6_shares (l : Launch) (B0 : Nat) (G : XG) (fu : Nat) (h hE : XH) (a0 : Nat) (p0 : Int32) (rE : Int32) (hf : f_X6_shares fu h a0 p0 = some (rE, hE)) : Met l yX6_shares wsX6_shares rmX6_shares (va_Pc [.ref a0, .int p0] (xU B0 G h)) (xQi B0 G hE rE) 0 0 (xA B0) := by
  refine xMet (cc := cX6_shares) (maxL := 5) (by decide) rfl (Nat.le_of_ble_eq_true rfl) ?_
  intro p e s m args below meth c ls hx hb hr hml hown hlocks hnm hts hKK hP hl
  have hown : s.vm.findClass RX6 = some m.cls := hown
  have hl : lv_has ls 5 [(0, .ref a0), (1, .int p0)] := hl
  have hS : va_S (xA B0) s.heap s.heap [] := va_S.rf
  have inX6 : ∀ w ∈ wsX60, w ∈ wsX6_shares := by decide +kernel
  have w1 := hts (.fieldLink RX6 125 "RainReservoirModel" "left" "I") (by decide +kernel)
  have w2 := hts (.fieldLink RX6 7 "RainReservoirModel" "all" "[I") (by decide +kernel)
  generalize hQ : MQ below (xQi B0 G hE rE) args s 0 0 (xA B0) = Q
  unfold f_X6_shares at hf
  refine lv_aload_n hx hb dX6_shares_0 rfl (lv_at hl 0 rfl) ?_
  obtain ⟨v1, ev1, hf⟩ := xb hf
  obtain ⟨v2, ev2, hf⟩ := xb1 hf
  refine xc_Vi (rest := []) ⟨hx, hb, hml, hown, hts⟩ (m_X6_demands l B0 G fu h a0 v2 ev2) (cwV 0 hts gX6_shares_X6_demands rfl rfl rfl (by decide +kernel) ⟨Nat.le_of_ble_eq_true rfl, Nat.le_of_ble_eq_true rfl⟩) hKK hP hS ev1 rfl rfl hl.1 rfl (Nat.le_of_ble_eq_true rfl) dX6_shares_1 ⟨Nat.zero_le _, Nat.zero_le _⟩ (fun H locs hP hS => ?_)
  refine lv_istore_n (lv' := [(2, .int v2), (0, .ref a0), (1, .int p0)]) hx hb dX6_shares_4 rfl hl (by decide) rfl (fun ls hl => ?_)
  refine lv_aload_n hx hb dX6_shares_5 rfl (lv_at hl 1 rfl) ?_
  refine lv_iload_n hx hb dX6_shares_6 rfl (lv_at hl 2 rfl) ?_
  obtain ⟨h1, eh1, hf⟩ := xb hf
  refine xr_put hx hb hts inX6 tyX6 tyX6_ok nmX6 hown hKK hP hS eh1 rfl (by decide) w1 (fun _ h9 => h9) rfl (tyX6_ok 8 (by decide)) rfl rfl dX6_shares_7 (fun H locs hP _ hS => ?_)
  refine lv_iconst (v := (0 : Int32)) hx hb dX6_shares_10 (by decide) ?_
  refine lv_istore_n (lv' := [(3, .int (0 : Int32)), (2, .int v2), (0, .ref a0), (1, .int p0)]) hx hb dX6_shares_11 rfl hl (by decide) rfl (fun ls hl => ?_)
  obtain ⟨h3, eL, hf⟩ := xb1 hf
  have J1 : ∀ (H : Heap) (locs : List Loc) (ls : Array Slot), xP B0 G h3 H → va_S (xA B0) s.heap H locs → lv_has ls 5 [(2, .int v2), (0, .ref a0), (1, .int p0)] → W p l e rmX6_shares s m args below meth c H locs 0 0 Q (F0 m 40 ls []) := by
    intro H locs ls hP hS hl
    clear eL
    refine lv_iload_n hx hb dX6_shares_40 rfl (lv_at hl 2 rfl) ?_
    refine lv_iload_n hx hb dX6_shares_41 rfl (lv_at hl 0 rfl) ?_
    obtain ⟨v9, ej2, hf⟩ := xb1 hf
    have J2 : ∀ (H : Heap) (locs : List Loc) (ls : Array Slot), xP B0 G h3 H → va_S (xA B0) s.heap H locs → lv_has ls 5 [(2, .int v2), (0, .ref a0), (1, .int p0)] → W p l e rmX6_shares s m args below meth c H locs 0 0 Q (F0 m 50 ls [.int v9]) := by
      intro H locs ls hP hS hl
      clear ej2
      refine lv_istore_n (lv' := [(3, .int v9), (2, .int v2), (0, .ref a0), (1, .int p0)]) hx hb dX6_shares_50 rfl hl (by decide) rfl (fun ls hl => ?_)
      refine lv_iload_n hx hb dX6_shares_51 rfl (lv_at hl 0 rfl) ?_
      obtain ⟨v10, ej3, hf⟩ := xb1 hf
      have J3 : ∀ (H : Heap) (locs : List Loc) (ls : Array Slot), xP B0 G h3 H → va_S (xA B0) s.heap H locs → lv_has ls 5 [(3, .int v9), (2, .int v2), (0, .ref a0), (1, .int p0)] → W p l e rmX6_shares s m args below meth c H locs 0 0 Q (F0 m 65 ls [.int v10]) := by
        intro H locs ls hP hS hl
        clear ej3
        obtain ⟨h5, ej4, hf⟩ := xb1 hf
        have J4 : ∀ (H : Heap) (locs : List Loc) (ls : Array Slot), xP B0 G h5 H → va_S (xA B0) s.heap H locs → lv_has ls 5 [(3, .int v9), (2, .int v2), (0, .ref a0), (1, .int p0)] → W p l e rmX6_shares s m args below meth c H locs 0 0 Q (F0 m 119 ls []) := by
          intro H locs ls hP hS hl
          clear ej4
          refine lv_iconst (v := (0 : Int32)) hx hb dX6_shares_119 (by decide) ?_
          refine lv_istore (lv' := [(4, .int (0 : Int32)), (3, .int v9), (2, .int v2), (0, .ref a0), (1, .int p0)]) hx hb dX6_shares_120 hl (by decide) rfl (fun ls hl => ?_)
          obtain ⟨h11, eL, hf⟩ := xb1 hf
          have J5 : ∀ (H : Heap) (locs : List Loc) (ls : Array Slot), xP B0 G h11 H → va_S (xA B0) s.heap H locs → lv_has ls 5 [(3, .int v9), (2, .int v2), (0, .ref a0), (1, .int p0)] → W p l e rmX6_shares s m args below meth c H locs 0 0 Q (F0 m 161 ls []) := by
            intro H locs ls hP hS hl
            clear eL
            refine lv_aload_n hx hb dX6_shares_161 rfl (lv_at hl 2 rfl) ?_
            refine lv_bipush (v := (6 : Int32)) hx hb dX6_shares_162 (by decide) ?_
            refine lv_iload_n hx hb dX6_shares_164 rfl (lv_at hl 3 rfl) ?_
            refine lv_aload_n hx hb dX6_shares_165 rfl (lv_at hl 2 rfl) ?_
            obtain ⟨v26, ev26, hf⟩ := xb hf
            refine xr_getI hx hb hts inX6 hown hKK hP ev26 rfl (by decide) w1 (fun _ h9 => h9) dX6_shares_166 ?_
            refine lv_isub hx hb dX6_shares_169 ?_
            obtain ⟨v27, ev27, hf⟩ := xb hf
            obtain ⟨h13, eh13, hf⟩ := xb1 hf
            refine xc_Vv (rest := []) ⟨hx, hb, hml, hown, hts⟩ (m_X6_tells l B0 G h11 h13 a0 (6 : Int32) (p0 - v26) eh13) (cwV 2 hts gX6_shares_X6_tells rfl rfl rfl (by decide +kernel) ⟨Nat.le_of_ble_eq_true rfl, Nat.le_of_ble_eq_true rfl⟩) hKK hP hS ev27 rfl rfl hl.1 rfl (Nat.le_of_ble_eq_true rfl) dX6_shares_170 ⟨Nat.zero_le _, Nat.zero_le _⟩ (fun H locs hP hS => ?_)
            refine lv_aload_n hx hb dX6_shares_173 rfl (lv_at hl 2 rfl) ?_
            refine lv_bipush (v := (7 : Int32)) hx hb dX6_shares_174 (by decide) ?_
            refine lv_iload_n hx hb dX6_shares_176 rfl (lv_at hl 1 rfl) ?_
            refine lv_iload_n hx hb dX6_shares_177 rfl (lv_at hl 3 rfl) ?_
            refine lv_aload_n hx hb dX6_shares_178 rfl (lv_at hl 2 rfl) ?_
            obtain ⟨v28, ev28, hf⟩ := xb hf
            refine xr_getI hx hb hts inX6 hown hKK hP ev28 rfl (by decide) w1 (fun _ h9 => h9) dX6_shares_179 ?_
            refine lv_isub hx hb dX6_shares_182 ?_
            refine lv_isub hx hb dX6_shares_183 ?_
            obtain ⟨v29, ev29, hf⟩ := xb hf
            obtain ⟨h14, eh14, hf⟩ := xb1 hf
            refine xc_Vv (rest := []) ⟨hx, hb, hml, hown, hts⟩ (m_X6_tells l B0 G h13 h14 a0 (7 : Int32) (v2 - (p0 - v28)) eh14) (cwV 2 hts gX6_shares_X6_tells rfl rfl rfl (by decide +kernel) ⟨Nat.le_of_ble_eq_true rfl, Nat.le_of_ble_eq_true rfl⟩) hKK hP hS ev29 rfl rfl hl.1 rfl (Nat.le_of_ble_eq_true rfl) dX6_shares_184 ⟨Nat.zero_le _, Nat.zero_le _⟩ (fun H locs hP hS => ?_)
            refine lv_iload_n hx hb dX6_shares_187 rfl (lv_at hl 0 rfl) ?_
            obtain ⟨v30, ev30, hf⟩ := xb hf
            obtain ⟨rfl, rfl⟩ := xinj2 hf
            subst hQ
            exact xe_z hx hb hr hlocks hKK hP hS ev30 dX6_shares_188
          clear hf
          refine xloop_ind (P := fun z => ∀ (H : Heap) (locs : List Loc) (ls : Array Slot), xP B0 G z.2 H → va_S (xA B0) s.heap H locs → lv_has ls 5 [(4, .int z.1), (3, .int v9), (2, .int v2), (0, .ref a0), (1, .int p0)] → W p l e rmX6_shares s m args below meth c H locs 0 0 Q (F0 m 122 ls [])) ?_ eL _ _ _ hP hS (lv_sub hl [0, 1, 2, 3, 4] rfl)
          rintro ⟨v17, h10⟩ o hf IH EX H locs ls hP hS hl
          have hf := xf2_e hf
          have hP : xP B0 G h10 H := hP
          have hl : lv_has ls 5 [(4, .int v17), (3, .int v9), (2, .int v2), (0, .ref a0), (1, .int p0)] := hl
          refine lv_iload hx hb dX6_shares_122 (lv_at hl 0 rfl) ?_
          refine lv_aload_n hx hb dX6_shares_124 rfl (lv_at hl 3 rfl) ?_
          obtain ⟨v18, ev18, hf⟩ := xb hf
          refine xr_getR hx hb hts inX6 hown hKK hP ev18 rfl (by decide) w2 (fun _ h9 => h9) dX6_shares_125 ?_
          refine lv_bipush (v := (7 : Int32)) hx hb dX6_shares_128 (by decide) ?_
          obtain ⟨v19, ev19, hf⟩ := xb hf
          refine xr_iald hx hb hKK hP ev19 dX6_shares_130 ?_
          refine lv_icmp_ge (tgt := 161) hx hb dX6_shares_131 (by decide) (fun c7 => ?_) (fun c7 => ?_)
          · have hf := xif_t hf c7
            have hf := EX _ (Option.some.inj hf).symm
            obtain rfl := hf
            exact J5 _ _ _ hP hS (lv_sub hl [1, 2, 3, 4] rfl)
          · have hf := xif_f hf c7
            refine lv_aload_n hx hb dX6_shares_134 rfl (lv_at hl 3 rfl) ?_
            obtain ⟨v20, ev20, hf⟩ := xb hf
            refine xr_getR hx hb hts inX6 hown hKK hP ev20 rfl (by decide) w2 (fun _ h9 => h9) dX6_shares_135 ?_
            refine lv_iload hx hb dX6_shares_138 (lv_at hl 0 rfl) ?_
            refine lv_iconst (v := (3 : Int32)) hx hb dX6_shares_140 (by decide) ?_
            obtain ⟨v21, ev21, hf⟩ := xb1 hf
            refine xc_Si (rest := [.ref v20]) ⟨hx, hb, hml, hown, hts⟩ (m_X6_userAt l B0 G h10 v17 (3 : Int32) v21 ev21) (va_cwS 2 hts gX6_shares_X6_userAt rfl rfl rfl (by decide +kernel) ⟨Nat.le_of_ble_eq_true rfl, Nat.le_of_ble_eq_true rfl⟩) hKK hP hS rfl hl.1 rfl (Nat.le_of_ble_eq_true rfl) dX6_shares_141 ⟨Nat.zero_le _, Nat.zero_le _⟩ (fun H locs hP hS => ?_)
            refine lv_dup2_11 hx hb dX6_shares_144 rfl rfl ?_
            obtain ⟨v22, ev22, hf⟩ := xb hf
            refine xr_iald hx hb hKK hP ev22 dX6_shares_145 ?_
            refine lv_aload_n hx hb dX6_shares_146 rfl (lv_at hl 3 rfl) ?_
            refine lv_iload hx hb dX6_shares_147 (lv_at hl 0 rfl) ?_
            refine lv_iconst (v := (2 : Int32)) hx hb dX6_shares_149 (by decide) ?_
            obtain ⟨v23, ev23, hf⟩ := xb hf
            obtain ⟨v24, ev24, hf⟩ := xb1 hf
            refine xc_Vi (rest := [.int v22, .int v21, .ref v20]) ⟨hx, hb, hml, hown, hts⟩ (m_X6_ofUser l B0 G h10 a0 v17 (2 : Int32) v24 ev24) (cwV 2 hts gX6_shares_X6_ofUser rfl rfl rfl (by decide +kernel) ⟨Nat.le_of_ble_eq_true rfl, Nat.le_of_ble_eq_true rfl⟩) hKK hP hS ev23 rfl rfl hl.1 rfl (Nat.le_of_ble_eq_true rfl) dX6_shares_150 ⟨Nat.zero_le _, Nat.zero_le _⟩ (fun H locs hP hS => ?_)
            refine lv_iadd hx hb dX6_shares_153 ?_
            obtain ⟨h12, eh12, hf⟩ := xb hf
            refine xr_iast hx hb hKK hP hS eh12 dX6_shares_154 (fun H locs hP _ hS => ?_)
            obtain ⟨v25, ev25, hf⟩ := xl hf
            refine lv_iinc (v := v25) (lv' := [(4, .int v25), (3, .int v9), (2, .int v2), (0, .ref a0), (1, .int p0)]) hx hb dX6_shares_155 hl (k := 0) rfl (by rw [ev25]; rfl) (by decide) rfl (fun ls hl => ?_)
            refine lv_goto (tgt := 122) hx hb dX6_shares_158 (by decide) ?_
            exact IH _ (Option.some.inj hf).symm _ _ _ hP hS (lv_sub hl [0, 1, 2, 3, 4] rfl)
        have hf := ej4
        clear ej4
        by_cases c4 : v10 = (0 : Int32)
        · have hf := xif_t hf c4
          refine lv_tableIn (off := 27) (tgt := 92) hx hb dX6_shares_65 (by rw [c4]; decide) (by rw [c4]; decide) (by rw [c4]; rfl) (by decide) ?_
          refine lv_aload_n hx hb dX6_shares_92 rfl (lv_at hl 2 rfl) ?_
          refine lv_iload_n hx hb dX6_shares_93 rfl (lv_at hl 3 rfl) ?_
          refine lv_iload_n hx hb dX6_shares_94 rfl (lv_at hl 1 rfl) ?_
          obtain ⟨v13, ev13, hf⟩ := xb hf
          obtain ⟨h6, eh6, hf⟩ := xb1 hf
          refine xc_Vv (rest := []) ⟨hx, hb, hml, hown, hts⟩ (m_X6_inProportion l B0 G fu h3 h6 a0 p0 v2 eh6) (cwV 2 hts gX6_shares_X6_inProportion rfl rfl rfl (by decide +kernel) ⟨Nat.le_of_ble_eq_true rfl, Nat.le_of_ble_eq_true rfl⟩) hKK hP hS ev13 rfl rfl hl.1 rfl (Nat.le_of_ble_eq_true rfl) dX6_shares_95 ⟨Nat.zero_le _, Nat.zero_le _⟩ (fun H locs hP hS => ?_)
          refine lv_goto (tgt := 119) hx hb dX6_shares_98 (by decide) ?_
          obtain rfl := Option.some.inj hf
          exact J4 _ _ _ hP hS (lv_sub hl [0, 1, 2, 3] rfl)
        have hf := xif_f hf c4
        by_cases c5 : v10 = (1 : Int32)
        · have hf := xif_t hf c5
          refine lv_tableIn (off := 36) (tgt := 101) hx hb dX6_shares_65 (by rw [c5]; decide) (by rw [c5]; decide) (by rw [c5]; rfl) (by decide) ?_
          refine lv_aload_n hx hb dX6_shares_101 rfl (lv_at hl 2 rfl) ?_
          obtain ⟨v14, ev14, hf⟩ := xb hf
          obtain ⟨h7, eh7, hf⟩ := xb1 hf
          refine xc_Vv (rest := []) ⟨hx, hb, hml, hown, hts⟩ (m_X6_byOrder l B0 G fu h3 h7 a0 eh7) (cwV 0 hts gX6_shares_X6_byOrder rfl rfl rfl (by decide +kernel) ⟨Nat.le_of_ble_eq_true rfl, Nat.le_of_ble_eq_true rfl⟩) hKK hP hS ev14 rfl rfl hl.1 rfl (Nat.le_of_ble_eq_true rfl) dX6_shares_102 ⟨Nat.zero_le _, Nat.zero_le _⟩ (fun H locs hP hS => ?_)
          refine lv_goto (tgt := 119) hx hb dX6_shares_105 (by decide) ?_
          obtain rfl := Option.some.inj hf
          exact J4 _ _ _ hP hS (lv_sub hl [0, 1, 2, 3] rfl)
        have hf := xif_f hf c5
        by_cases c6 : v10 = (2 : Int32)
        · have hf := xif_t hf c6
          refine lv_tableIn (off := 43) (tgt := 108) hx hb dX6_shares_65 (by rw [c6]; decide) (by rw [c6]; decide) (by rw [c6]; rfl) (by decide) ?_
          refine lv_aload_n hx hb dX6_shares_108 rfl (lv_at hl 2 rfl) ?_
          obtain ⟨v15, ev15, hf⟩ := xb hf
          obtain ⟨h8, eh8, hf⟩ := xb1 hf
          refine xc_Vv (rest := []) ⟨hx, hb, hml, hown, hts⟩ (m_X6_byWeights l B0 G fu h3 h8 a0 eh8) (cwV 0 hts gX6_shares_X6_byWeights rfl rfl rfl (by decide +kernel) ⟨Nat.le_of_ble_eq_true rfl, Nat.le_of_ble_eq_true rfl⟩) hKK hP hS ev15 rfl rfl hl.1 rfl (Nat.le_of_ble_eq_true rfl) dX6_shares_109 ⟨Nat.zero_le _, Nat.zero_le _⟩ (fun H locs hP hS => ?_)
          refine lv_goto (tgt := 119) hx hb dX6_shares_112 (by decide) ?_
          obtain rfl := Option.some.inj hf
          exact J4 _ _ _ hP hS (lv_sub hl [0, 1, 2, 3] rfl)
        have hf := xif_f hf c6
        have nc4 : v10.toInt ≠ 0 := fun q => c4 (Int32.toInt_inj.mp (q.trans (by decide)))
        have nc5 : v10.toInt ≠ 1 := fun q => c5 (Int32.toInt_inj.mp (q.trans (by decide)))
        have nc6 : v10.toInt ≠ 2 := fun q => c6 (Int32.toInt_inj.mp (q.trans (by decide)))
        refine lv_tableOut (tgt := 115) hx hb dX6_shares_65 (by omega) (by decide) ?_
        refine lv_aload_n hx hb dX6_shares_115 rfl (lv_at hl 2 rfl) ?_
        obtain ⟨v16, ev16, hf⟩ := xb hf
        obtain ⟨h9, eh9, hf⟩ := xb1 hf
        refine xc_Vv (rest := []) ⟨hx, hb, hml, hown, hts⟩ (m_X6_smallestFirst l B0 G fu h3 h9 a0 eh9) (cwV 0 hts gX6_shares_X6_smallestFirst rfl rfl rfl (by decide +kernel) ⟨Nat.le_of_ble_eq_true rfl, Nat.le_of_ble_eq_true rfl⟩) hKK hP hS ev16 rfl rfl hl.1 rfl (Nat.le_of_ble_eq_true rfl) dX6_shares_116 ⟨Nat.zero_le _, Nat.zero_le _⟩ (fun H locs hP hS => ?_)
        obtain rfl := Option.some.inj hf
        exact J4 _ _ _ hP hS (lv_sub hl [0, 1, 2, 3] rfl)
      have hf := ej3
      clear ej3
      refine lv_if_eq (tgt := 64) hx hb dX6_shares_52 (by decide) (fun c3 => ?_) (fun c3 => ?_)
      · have hf := xif_t hf c3
        refine lv_iconst (v := (1 : Int32)) hx hb dX6_shares_64 (by decide) ?_
        obtain rfl := Option.some.inj hf
        exact J3 _ _ _ hP hS (lv_sub hl [0, 1, 2, 3] rfl)
      · have hf := xif_f hf c3
        refine lv_aload_n hx hb dX6_shares_55 rfl (lv_at hl 2 rfl) ?_
        obtain ⟨v11, ev11, hf⟩ := xb hf
        refine xr_getR hx hb hts inX6 hown hKK hP ev11 rfl (by decide) w2 (fun _ h9 => h9) dX6_shares_56 ?_
        refine lv_iconst (v := (5 : Int32)) hx hb dX6_shares_59 (by decide) ?_
        obtain ⟨v12, ev12, hf⟩ := xb hf
        refine xr_iald hx hb hKK hP ev12 dX6_shares_60 ?_
        refine lv_goto (tgt := 65) hx hb dX6_shares_61 (by decide) ?_
        obtain rfl := Option.some.inj hf
        exact J3 _ _ _ hP hS (lv_sub hl [0, 1, 2, 3] rfl)
    have hf := ej2
    clear ej2
    refine lv_icmp_ge (tgt := 49) hx hb dX6_shares_42 (by decide) (fun c2 => ?_) (fun c2 => ?_)
    · have hf := xif_t hf c2
      refine lv_iconst (v := (0 : Int32)) hx hb dX6_shares_49 (by decide) ?_
      obtain rfl := Option.some.inj hf
      exact J2 _ _ _ hP hS (lv_sub hl [0, 1, 2] rfl)
    · have hf := xif_f hf c2
      refine lv_iconst (v := (1 : Int32)) hx hb dX6_shares_45 (by decide) ?_
      refine lv_goto (tgt := 50) hx hb dX6_shares_46 (by decide) ?_
      obtain rfl := Option.some.inj hf
      exact J2 _ _ _ hP hS (lv_sub hl [0, 1, 2] rfl)
  clear hf
  refine xloop_ind (P := fun z => ∀ (H : Heap) (locs : List Loc) (ls : Array Slot), xP B0 G z.2 H → va_S (xA B0) s.heap H locs → lv_has ls 5 [(3, .int z.1), (2, .int v2), (0, .ref a0), (1, .int p0)] → W p l e rmX6_shares s m args below meth c H locs 0 0 Q (F0 m 12 ls [])) ?_ eL _ _ _ hP hS (lv_sub hl [0, 1, 2, 3] rfl)
  rintro ⟨v3, h2⟩ o hf IH EX H locs ls hP hS hl
  have hf := xf2_e hf
  have hP : xP B0 G h2 H := hP
  have hl : lv_has ls 5 [(3, .int v3), (2, .int v2), (0, .ref a0), (1, .int p0)] := hl
  refine lv_iload_n hx hb dX6_shares_12 rfl (lv_at hl 0 rfl) ?_
  refine lv_aload_n hx hb dX6_shares_13 rfl (lv_at hl 2 rfl) ?_
  obtain ⟨v4, ev4, hf⟩ := xb hf
  refine xr_getR hx hb hts inX6 hown hKK hP ev4 rfl (by decide) w2 (fun _ h9 => h9) dX6_shares_14 ?_
  refine lv_bipush (v := (7 : Int32)) hx hb dX6_shares_17 (by decide) ?_
  obtain ⟨v5, ev5, hf⟩ := xb hf
  refine xr_iald hx hb hKK hP ev5 dX6_shares_19 ?_
  refine lv_icmp_ge (tgt := 40) hx hb dX6_shares_20 (by decide) (fun c1 => ?_) (fun c1 => ?_)
  · have hf := xif_t hf c1
    have hf := EX _ (Option.some.inj hf).symm
    obtain rfl := hf
    exact J1 _ _ _ hP hS (lv_sub hl [1, 2, 3] rfl)
  · have hf := xif_f hf c1
    refine lv_aload_n hx hb dX6_shares_23 rfl (lv_at hl 2 rfl) ?_
    obtain ⟨v6, ev6, hf⟩ := xb hf
    refine xr_getR hx hb hts inX6 hown hKK hP ev6 rfl (by decide) w2 (fun _ h9 => h9) dX6_shares_24 ?_
    refine lv_iload_n hx hb dX6_shares_27 rfl (lv_at hl 0 rfl) ?_
    refine lv_iconst (v := (2 : Int32)) hx hb dX6_shares_28 (by decide) ?_
    obtain ⟨v7, ev7, hf⟩ := xb1 hf
    refine xc_Si (rest := [.ref v6]) ⟨hx, hb, hml, hown, hts⟩ (m_X6_userAt l B0 G h2 v3 (2 : Int32) v7 ev7) (va_cwS 2 hts gX6_shares_X6_userAt rfl rfl rfl (by decide +kernel) ⟨Nat.le_of_ble_eq_true rfl, Nat.le_of_ble_eq_true rfl⟩) hKK hP hS rfl hl.1 rfl (Nat.le_of_ble_eq_true rfl) dX6_shares_29 ⟨Nat.zero_le _, Nat.zero_le _⟩ (fun H locs hP hS => ?_)
    refine lv_iconst (v := (0 : Int32)) hx hb dX6_shares_32 (by decide) ?_
    obtain ⟨h4, eh4, hf⟩ := xb hf
    refine xr_iast hx hb hKK hP hS eh4 dX6_shares_33 (fun H locs hP _ hS => ?_)
    obtain ⟨v8, ev8, hf⟩ := xl hf
    refine lv_iinc (v := v8) (lv' := [(3, .int v8), (2, .int v2), (0, .ref a0), (1, .int p0)]) hx hb dX6_shares_34 hl (k := 0) rfl (by rw [ev8]; rfl) (by decide) rfl (fun ls hl => ?_)
    refine lv_goto (tgt := 12) hx hb dX6_shares_37 (by decide) ?_
    exact IH _ (Option.some.inj hf).symm _ _ _ hP hS (lv_sub hl [0, 1, 2, 3] rfl)
/-- RainReservoirModel.does -/
def f_X6_does (fu : Nat) (h : XH) (a0 : Nat) : Option (Int32 × XH) :=
  (xgR h a0 6 0).bind fun v1 =>
  (xald h v1 0 (9 : Int32)).bind fun v2 =>
  (xpV h a0 6 6 (.int v2)).bind fun h1 =>
  obind1 (xloop (xf2 fun (v3 : Int32) (h2 : XH) =>
    if (10 : Int32) ≤ v3 then
      some (.inr h2)
    else
      (xgR h2 a0 6 0).bind fun v4 =>
      (xgI h2 a0 6 6).bind fun v5 =>
      (xast h2 v4 0 (((163 : Int32) + ((10 : Int32) * v5)) + v3) (0 : Int32)).bind fun h4 =>
      olet (v3 + (1 : Int32)) fun v6 =>
      some (.inl (v6, h4))
  ) fu ((0 : Int32), h1)) fun h3 =>
  (xgR h3 a0 6 0).bind fun v7 =>
  (xgI h3 a0 6 6).bind fun v8 =>
  (xald h3 v7 0 ((63 : Int32) + v8)).bind fun v9 =>
  (xgR h3 a0 6 0).bind fun v10 =>
  obind1 (
    if v9 = (0 : Int32) then
      (xgR h3 a0 6 0).bind fun v12 =>
      (xald h3 v12 0 (11 : Int32)).bind fun v13 =>
      some (v13 + (1 : Int32))
    else
      some (0 : Int32)
  ) fun v11 =>
  (xast h3 v10 0 (11 : Int32) v11).bind fun h5 =>
  obind1 (
    if v9 = (0 : Int32) then
      (xgR h5 a0 6 0).bind fun v14 =>
      (xald h5 v14 0 (11 : Int32)).bind fun v15 =>
      (xgR h5 a0 6 0).bind fun v16 =>
      (xald h5 v16 0 (4 : Int32)).bind fun v17 =>
      if v15 < v17 then
        some h5
      else
        (xis h5 a0 6).bind fun v18 =>
        obind1 (f_X6_drains fu h5 a0) fun h7 =>
        some h7
    else
      some h5
  ) fun h6 =>
  obind1 (xloop (xf2 fun (v19 : Int32) (h8 : XH) =>
    (xgR h8 a0 6 0).bind fun v20 =>
    (xald h8 v20 0 (6 : Int32)).bind fun v21 =>
    if v21 ≤ v19 then
      some (.inr h8)
    else
      (xis h8 a0 6).bind fun v22 =>
      obind2 (f_X6_flows h8 a0 v19 v9) fun v23 h10 =>
      (xis h10 a0 6).bind fun v24 =>
      obind1 (f_X6_tells h10 a0 (1 : Int32) v23) fun h11 =>
      olet (v19 + (1 : Int32)) fun v25 =>
      some (.inl (v25, h11))
  ) fu ((0 : Int32), h6)) fun h9 =>
  (xgR h9 a0 6 0).bind fun v26 =>
  (xald h9 v26 0 (10 : Int32)).bind fun v27 =>
  (xgR h9 a0 6 0).bind fun v28 =>
  (xgI h9 a0 6 6).bind fun v29 =>
  (xald h9 v28 0 (((163 : Int32) + ((10 : Int32) * v29)) + (1 : Int32))).bind fun v30 =>
  olet ((v27 + v30)) fun v31 =>
  (xgR h9 a0 6 0).bind fun v32 =>
  (xald h9 v32 0 (0 : Int32)).bind fun v33 =>
  obind1 (
    if v31 ≤ v33 then
      some (0 : Int32)
    else
      (xgR h9 a0 6 0).bind fun v35 =>
      (xald h9 v35 0 (0 : Int32)).bind fun v36 =>
      some (v31 - v36)
  ) fun v34 =>
  (xis h9 a0 6).bind fun v37 =>
  obind1 (f_X6_tells h9 a0 (4 : Int32) v34) fun h12 =>
  olet ((v31 - v34)) fun v38 =>
  (xgR h12 a0 6 0).bind fun v39 =>
  (xald h12 v39 0 (3 : Int32)).bind fun v40 =>
  olet (((v38 * v40) / (1000 : Int32))) fun v41 =>
  (xis h12 a0 6).bind fun v42 =>
  obind1 (f_X6_tells h12 a0 (5 : Int32) v41) fun h13 =>
  olet ((v38 - v41)) fun v43 =>
  (xgR h13 a0 6 0).bind fun v44 =>
  (xald h13 v44 0 (1 : Int32)).bind fun v45 =>
  obind1 (
    if v43 ≤ v45 then
      some (0 : Int32)
    else
      (xgR h13 a0 6 0).bind fun v47 =>
      (xald h13 v47 0 (1 : Int32)).bind fun v48 =>
      some (v43 - v48)
  ) fun v46 =>
  (xis h13 a0 6).bind fun v49 =>
  obind2 (f_X6_shares fu h13 a0 v46) fun v50 h14 =>
  (xgR h14 a0 6 0).bind fun v51 =>
  (xgI h14 a0 6 6).bind fun v52 =>
  (xald h14 v51 0 (((163 : Int32) + ((10 : Int32) * v52)) + (6 : Int32))).bind fun v53 =>
  olet ((v43 - v53)) fun v54 =>
  (xgR h14 a0 6 0).bind fun v55 =>
  (xald h14 v55 0 (2 : Int32)).bind fun v56 =>
  obind1 (
    if v56 ≤ v54 then
      some (0 : Int32)
    else
      (xgR h14 a0 6 0).bind fun v58 =>
      (xald h14 v58 0 (2 : Int32)).bind fun v59 =>
      some (v59 - v54)
  ) fun v57 =>
  (xis h14 a0 6).bind fun v60 =>
  obind1 (f_X6_tells h14 a0 (8 : Int32) v57) fun h15 =>
  (xgR h15 a0 6 0).bind fun v61 =>
  (xast h15 v61 0 (10 : Int32) (v54 + v57)).bind fun h16 =>
  (xgR h16 a0 6 0).bind fun v62 =>
  (xald h16 v62 0 (10 : Int32)).bind fun v63 =>
  (xis h16 a0 6).bind fun v64 =>
  obind1 (f_X6_tells h16 a0 (0 : Int32) v63) fun h17 =>
  (xgR h17 a0 6 0).bind fun v65 =>
  (xald h17 v65 0 (9 : Int32)).bind fun v66 =>
  (xast h17 v65 0 (9 : Int32) (v66 + (1 : Int32))).bind fun h18 =>
  (xbool v50).bind fun v67 =>
  some ((v67, h18))
abbrev rmX6_does : Room := { frames := 5, cells := 0, slots := 0, locals := 116 }
set_option maxHeartbeats 4000000 in
set_option maxRecDepth 100000 in
theorem m_X6_does (l : Launch) (B0 : Nat) (G : XG) (fu : Nat) (h hE : XH) (a0 : Nat) (rE : Int32) (hf : f_X6_does fu h a0 = some (rE, hE)) : Met l yX6_does wsX6_does rmX6_does (va_Pc [.ref a0] (xU B0 G h)) (xQi B0 G hE rE) 0 0 (xA B0) := by
  refine xMet (cc := cX6_does) (maxL := 7) (by decide) rfl (Nat.le_of_ble_eq_true rfl) ?_
  intro p e s m args below meth c ls hx hb hr hml hown hlocks hnm hts hKK hP hl
  have hown : s.vm.findClass RX6 = some m.cls := hown
  have hl : lv_has ls 7 [(0, .ref a0)] := hl
  have hS : va_S (xA B0) s.heap s.heap [] := va_S.rf
  have inX6 : ∀ w ∈ wsX60, w ∈ wsX6_does := by decide +kernel
  have w1 := hts (.fieldLink RX6 7 "RainReservoirModel" "all" "[I") (by decide +kernel)
  have w2 := hts (.fieldLink RX6 110 "RainReservoirModel" "today" "I") (by decide +kernel)
  generalize hQ : MQ below (xQi B0 G hE rE) args s 0 0 (xA B0) = Q
  unfold f_X6_does at hf
  refine lv_aload_n hx hb dX6_does_0 rfl (lv_at hl 0 rfl) ?_
  refine lv_aload_n hx hb dX6_does_1 rfl (lv_at hl 0 rfl) ?_
  obtain ⟨v1, ev1, hf⟩ := xb hf
  refine xr_getR hx hb hts inX6 hown hKK hP ev1 rfl (by decide) w1 (fun _ h9 => h9) dX6_does_2 ?_
  refine lv_bipush (v := (9 : Int32)) hx hb dX6_does_5 (by decide) ?_
  obtain ⟨v2, ev2, hf⟩ := xb hf
  refine xr_iald hx hb hKK hP ev2 dX6_does_7 ?_
  obtain ⟨h1, eh1, hf⟩ := xb hf
  refine xr_put hx hb hts inX6 tyX6 tyX6_ok nmX6 hown hKK hP hS eh1 rfl (by decide) w2 (fun _ h9 => h9) rfl (tyX6_ok 6 (by decide)) rfl rfl dX6_does_8 (fun H locs hP _ hS => ?_)
  refine lv_iconst (v := (0 : Int32)) hx hb dX6_does_11 (by decide) ?_
  refine lv_istore_n (lv' := [(1, .int (0 : Int32)), (0, .ref a0)]) hx hb dX6_does_12 rfl hl (by decide) rfl (fun ls hl => ?_)
  obtain ⟨h3, eL, hf⟩ := xb1 hf
  have J1 : ∀ (H : Heap) (locs : List Loc) (ls : Array Slot), xP B0 G h3 H → va_S (xA B0) s.heap H locs → lv_has ls 7 [(0, .ref a0)] → W p l e rmX6_does s m args below meth c H locs 0 0 Q (F0 m 44 ls []) := by
    intro H locs ls hP hS hl
    clear eL
    refine lv_aload_n hx hb dX6_does_44 rfl (lv_at hl 0 rfl) ?_
    obtain ⟨v7, ev7, hf⟩ := xb hf
    refine xr_getR hx hb hts inX6 hown hKK hP ev7 rfl (by decide) w1 (fun _ h9 => h9) dX6_does_45 ?_
    refine lv_bipush (v := (63 : Int32)) hx hb dX6_does_48 (by decide) ?_
    refine lv_aload_n hx hb dX6_does_50 rfl (lv_at hl 0 rfl) ?_
    obtain ⟨v8, ev8, hf⟩ := xb hf
    refine xr_getI hx hb hts inX6 hown hKK hP ev8 rfl (by decide) w2 (fun _ h9 => h9) dX6_does_51 ?_
    refine lv_iadd hx hb dX6_does_54 ?_
    obtain ⟨v9, ev9, hf⟩ := xb hf
    refine xr_iald hx hb hKK hP ev9 dX6_does_55 ?_
    refine lv_istore_n (lv' := [(1, .int v9), (0, .ref a0)]) hx hb dX6_does_56 rfl hl (by decide) rfl (fun ls hl => ?_)
    refine lv_aload_n hx hb dX6_does_57 rfl (lv_at hl 1 rfl) ?_
    obtain ⟨v10, ev10, hf⟩ := xb hf
    refine xr_getR hx hb hts inX6 hown hKK hP ev10 rfl (by decide) w1 (fun _ h9 => h9) dX6_does_58 ?_
    refine lv_bipush (v := (11 : Int32)) hx hb dX6_does_61 (by decide) ?_
    refine lv_iload_n hx hb dX6_does_63 rfl (lv_at hl 0 rfl) ?_
    obtain ⟨v11, ej2, hf⟩ := xb1 hf
    have J2 : ∀ (H : Heap) (locs : List Loc) (ls : Array Slot), xP B0 G h3 H → va_S (xA B0) s.heap H locs → lv_has ls 7 [(1, .int v9), (0, .ref a0)] → W p l e rmX6_does s m args below meth c H locs 0 0 Q (F0 m 80 ls [.int v11, .int (11 : Int32), .ref v10]) := by
      intro H locs ls hP hS hl
      clear ej2
      obtain ⟨h5, eh5, hf⟩ := xb hf
      refine xr_iast hx hb hKK hP hS eh5 dX6_does_80 (fun H locs hP _ hS => ?_)
      refine lv_iload_n hx hb dX6_does_81 rfl (lv_at hl 0 rfl) ?_
      obtain ⟨h6, ej3, hf⟩ := xb1 hf
      have J3 : ∀ (H : Heap) (locs : List Loc) (ls : Array Slot), xP B0 G h6 H → va_S (xA B0) s.heap H locs → lv_has ls 7 [(1, .int v9), (0, .ref a0)] → W p l e rmX6_does s m args below meth c H locs 0 0 Q (F0 m 105 ls []) := by
        intro H locs ls hP hS hl
        clear ej3
        refine lv_iconst (v := (0 : Int32)) hx hb dX6_does_105 (by decide) ?_
        refine lv_istore_n (lv' := [(2, .int (0 : Int32)), (1, .int v9), (0, .ref a0)]) hx hb dX6_does_106 rfl hl (by decide) rfl (fun ls hl => ?_)
        obtain ⟨h9, eL, hf⟩ := xb1 hf
        have J4 : ∀ (H : Heap) (locs : List Loc) (ls : Array Slot), xP B0 G h9 H → va_S (xA B0) s.heap H locs → lv_has ls 7 [(0, .ref a0)] → W p l e rmX6_does s m args below meth c H locs 0 0 Q (F0 m 135 ls []) := by
          intro H locs ls hP hS hl
          clear eL
          refine lv_aload_n hx hb dX6_does_135 rfl (lv_at hl 0 rfl) ?_
          obtain ⟨v26, ev26, hf⟩ := xb hf
          refine xr_getR hx hb hts inX6 hown hKK hP ev26 rfl (by decide) w1 (fun _ h9 => h9) dX6_does_136 ?_
          refine lv_bipush (v := (10 : Int32)) hx hb dX6_does_139 (by decide) ?_
          obtain ⟨v27, ev27, hf⟩ := xb hf
          refine xr_iald hx hb hKK hP ev27 dX6_does_141 ?_
          refine lv_aload_n hx hb dX6_does_142 rfl (lv_at hl 0 rfl) ?_
          obtain ⟨v28, ev28, hf⟩ := xb hf
          refine xr_getR hx hb hts inX6 hown hKK hP ev28 rfl (by decide) w1 (fun _ h9 => h9) dX6_does_143 ?_
          refine lv_sipush (v := (163 : Int32)) hx hb dX6_does_146 (by decide) ?_
          refine lv_bipush (v := (10 : Int32)) hx hb dX6_does_149 (by decide) ?_
          refine lv_aload_n hx hb dX6_does_151 rfl (lv_at hl 0 rfl) ?_
          obtain ⟨v29, ev29, hf⟩ := xb hf
          refine xr_getI hx hb hts inX6 hown hKK hP ev29 rfl (by decide) w2 (fun _ h9 => h9) dX6_does_152 ?_
          refine lv_imul hx hb dX6_does_155 ?_
          refine lv_iadd hx hb dX6_does_156 ?_
          refine lv_iconst (v := (1 : Int32)) hx hb dX6_does_157 (by decide) ?_
          refine lv_iadd hx hb dX6_does_158 ?_
          obtain ⟨v30, ev30, hf⟩ := xb hf
          refine xr_iald hx hb hKK hP ev30 dX6_does_159 ?_
          refine lv_iadd hx hb dX6_does_160 ?_
          obtain ⟨v31, ev31, hf⟩ := xl hf
          refine xtopi ev31 ?_
          refine lv_istore_n (lv' := [(2, .int v31), (0, .ref a0)]) hx hb dX6_does_161 rfl hl (by decide) rfl (fun ls hl => ?_)
          refine lv_iload_n hx hb dX6_does_162 rfl (lv_at hl 0 rfl) ?_
          refine lv_aload_n hx hb dX6_does_163 rfl (lv_at hl 1 rfl) ?_
          obtain ⟨v32, ev32, hf⟩ := xb hf
          refine xr_getR hx hb hts inX6 hown hKK hP ev32 rfl (by decide) w1 (fun _ h9 => h9) dX6_does_164 ?_
          refine lv_iconst (v := (0 : Int32)) hx hb dX6_does_167 (by decide) ?_
          obtain ⟨v33, ev33, hf⟩ := xb hf
          refine xr_iald hx hb hKK hP ev33 dX6_does_168 ?_
          obtain ⟨v34, ej5, hf⟩ := xb1 hf
          have J5 : ∀ (H : Heap) (locs : List Loc) (ls : Array Slot), xP B0 G h9 H → va_S (xA B0) s.heap H locs → lv_has ls 7 [(2, .int v31), (0, .ref a0)] → W p l e rmX6_does s m args below meth c H locs 0 0 Q (F0 m 184 ls [.int v34]) := by
            intro H locs ls hP hS hl
            clear ej5
            refine lv_istore_n (lv' := [(3, .int v34), (2, .int v31), (0, .ref a0)]) hx hb dX6_does_184 rfl hl (by decide) rfl (fun ls hl => ?_)
            refine lv_aload_n hx hb dX6_does_185 rfl (lv_at hl 2 rfl) ?_
            refine lv_iconst (v := (4 : Int32)) hx hb dX6_does_186 (by decide) ?_
            refine lv_iload_n hx hb dX6_does_187 rfl (lv_at hl 0 rfl) ?_
            obtain ⟨v37, ev37, hf⟩ := xb hf
            obtain ⟨h12, eh12, hf⟩ := xb1 hf
            refine xc_Vv (rest := []) ⟨hx, hb, hml, hown, hts⟩ (m_X6_tells l B0 G h9 h12 a0 (4 : Int32) v34 eh12) (cwV 2 hts gX6_does_X6_tells rfl rfl rfl (by decide +kernel) ⟨Nat.le_of_ble_eq_true rfl, Nat.le_of_ble_eq_true rfl⟩) hKK hP hS ev37 rfl rfl hl.1 rfl (Nat.le_of_ble_eq_true rfl) dX6_does_188 ⟨Nat.zero_le _, Nat.zero_le _⟩ (fun H locs hP hS => ?_)
            refine lv_iload_n hx hb dX6_does_191 rfl (lv_at hl 1 rfl) ?_
            refine lv_iload_n hx hb dX6_does_192 rfl (lv_at hl 0 rfl) ?_
            refine lv_isub hx hb dX6_does_193 ?_
            obtain ⟨v38, ev38, hf⟩ := xl hf
            refine xtopi ev38 ?_
            refine lv_istore_n (lv' := [(2, .int v38), (3, .int v34), (0, .ref a0)]) hx hb dX6_does_194 rfl hl (by decide) rfl (fun ls hl => ?_)
            refine lv_iload_n hx hb dX6_does_195 rfl (lv_at hl 0 rfl) ?_
            refine lv_aload_n hx hb dX6_does_196 rfl (lv_at hl 2 rfl) ?_
            obtain ⟨v39, ev39, hf⟩ := xb hf
            refine xr_getR hx hb hts inX6 hown hKK hP ev39 rfl (by decide) w1 (fun _ h9 => h9) dX6_does_197 ?_
            refine lv_iconst (v := (3 : Int32)) hx hb dX6_does_200 (by decide) ?_
            obtain ⟨v40, ev40, hf⟩ := xb hf
            refine xr_iald hx hb hKK hP ev40 dX6_does_201 ?_
            refine lv_imul hx hb dX6_does_202 ?_
            refine lv_sipush (v := (1000 : Int32)) hx hb dX6_does_203 (by decide) ?_
            refine lv_idiv hx hb dX6_does_206 (by decide) ?_
            obtain ⟨v41, ev41, hf⟩ := xl hf
            refine xtopi ev41 ?_
            refine lv_istore (lv' := [(4, .int v41), (2, .int v38), (3, .int v34), (0, .ref a0)]) hx hb dX6_does_207 hl (by decide) rfl (fun ls hl => ?_)
            refine lv_aload_n hx hb dX6_does_209 rfl (lv_at hl 3 rfl) ?_
            refine lv_iconst (v := (5 : Int32)) hx hb dX6_does_210 (by decide) ?_
            refine lv_iload hx hb dX6_does_211 (lv_at hl 0 rfl) ?_
            obtain ⟨v42, ev42, hf⟩ := xb hf
            obtain ⟨h13, eh13, hf⟩ := xb1 hf
            refine xc_Vv (rest := []) ⟨hx, hb, hml, hown, hts⟩ (m_X6_tells l B0 G h12 h13 a0 (5 : Int32) v41 eh13) (cwV 2 hts gX6_does_X6_tells rfl rfl rfl (by decide +kernel) ⟨Nat.le_of_ble_eq_true rfl, Nat.le_of_ble_eq_true rfl⟩) hKK hP hS ev42 rfl rfl hl.1 rfl (Nat.le_of_ble_eq_true rfl) dX6_does_213 ⟨Nat.zero_le _, Nat.zero_le _⟩ (fun H locs hP hS => ?_)
            refine lv_iload_n hx hb dX6_does_216 rfl (lv_at hl 1 rfl) ?_
            refine lv_iload hx hb dX6_does_217 (lv_at hl 0 rfl) ?_
            refine lv_isub hx hb dX6_does_219 ?_
            obtain ⟨v43, ev43, hf⟩ := xl hf
            refine xtopi ev43 ?_
            refine lv_istore_n (lv' := [(2, .int v43), (4, .int v41), (3, .int v34), (0, .ref a0)]) hx hb dX6_does_220 rfl hl (by decide) rfl (fun ls hl => ?_)
            refine lv_aload_n hx hb dX6_does_221 rfl (lv_at hl 3 rfl) ?_
            refine lv_iload_n hx hb dX6_does_222 rfl (lv_at hl 0 rfl) ?_
            refine lv_aload_n hx hb dX6_does_223 rfl (lv_at hl 3 rfl) ?_
            obtain ⟨v44, ev44, hf⟩ := xb hf
            refine xr_getR hx hb hts inX6 hown hKK hP ev44 rfl (by decide) w1 (fun _ h9 => h9) dX6_does_224 ?_
            refine lv_iconst (v := (1 : Int32)) hx hb dX6_does_227 (by decide) ?_
            obtain ⟨v45, ev45, hf⟩ := xb hf
            refine xr_iald hx hb hKK hP ev45 dX6_does_228 ?_
            obtain ⟨v46, ej6, hf⟩ := xb1 hf
            have J6 : ∀ (H : Heap) (locs : List Loc) (ls : Array Slot), xP B0 G h13 H → va_S (xA B0) s.heap H locs → lv_has ls 7 [(2, .int v43), (0, .ref a0)] → W p l e rmX6_does s m args below meth c H locs 0 0 Q (F0 m 244 ls [.int v46, .ref a0]) := by
              intro H locs ls hP hS hl
              clear ej6
              obtain ⟨v49, ev49, hf⟩ := xb hf
              obtain ⟨v50, h14, ev50, hf⟩ := xb2 hf
              refine xc_Vi (rest := []) ⟨hx, hb, hml, hown, hts⟩ (m_X6_shares l B0 G fu h13 h14 a0 v46 v50 ev50) (cwV 1 hts gX6_does_X6_shares rfl rfl rfl (by decide +kernel) ⟨Nat.le_of_ble_eq_true rfl, Nat.le_of_ble_eq_true rfl⟩) hKK hP hS ev49 rfl rfl hl.1 rfl (Nat.le_of_ble_eq_true rfl) dX6_does_244 ⟨Nat.zero_le _, Nat.zero_le _⟩ (fun H locs hP hS => ?_)
              refine lv_istore (lv' := [(5, .int v50), (2, .int v43), (0, .ref a0)]) hx hb dX6_does_247 hl (by decide) rfl (fun ls hl => ?_)
              refine lv_iload_n hx hb dX6_does_249 rfl (lv_at hl 1 rfl) ?_
              refine lv_aload_n hx hb dX6_does_250 rfl (lv_at hl 2 rfl) ?_
              obtain ⟨v51, ev51, hf⟩ := xb hf
              refine xr_getR hx hb hts inX6 hown hKK hP ev51 rfl (by decide) w1 (fun _ h9 => h9) dX6_does_251 ?_
              refine lv_sipush (v := (163 : Int32)) hx hb dX6_does_254 (by decide) ?_
              refine lv_bipush (v := (10 : Int32)) hx hb dX6_does_257 (by decide) ?_
              refine lv_aload_n hx hb dX6_does_259 rfl (lv_at hl 2 rfl) ?_
              obtain ⟨v52, ev52, hf⟩ := xb hf
              refine xr_getI hx hb hts inX6 hown hKK hP ev52 rfl (by decide) w2 (fun _ h9 => h9) dX6_does_260 ?_
              refine lv_imul hx hb dX6_does_263 ?_
              refine lv_iadd hx hb dX6_does_264 ?_
              refine lv_bipush (v := (6 : Int32)) hx hb dX6_does_265 (by decide) ?_
              refine lv_iadd hx hb dX6_does_267 ?_
              obtain ⟨v53, ev53, hf⟩ := xb hf
              refine xr_iald hx hb hKK hP ev53 dX6_does_268 ?_
              refine lv_isub hx hb dX6_does_269 ?_
              obtain ⟨v54, ev54, hf⟩ := xl hf
              refine xtopi ev54 ?_
              refine lv_istore_n (lv' := [(2, .int v54), (5, .int v50), (0, .ref a0)]) hx hb dX6_does_270 rfl hl (by decide) rfl (fun ls hl => ?_)
              refine lv_iload_n hx hb dX6_does_271 rfl (lv_at hl 0 rfl) ?_
              refine lv_aload_n hx hb dX6_does_272 rfl (lv_at hl 2 rfl) ?_
              obtain ⟨v55, ev55, hf⟩ := xb hf
              refine xr_getR hx hb hts inX6 hown hKK hP ev55 rfl (by decide) w1 (fun _ h9 => h9) dX6_does_273 ?_
              refine lv_iconst (v := (2 : Int32)) hx hb dX6_does_276 (by decide) ?_
              obtain ⟨v56, ev56, hf⟩ := xb hf
              refine xr_iald hx hb hKK hP ev56 dX6_does_277 ?_
              obtain ⟨v57, ej7, hf⟩ := xb1 hf
              have J7 : ∀ (H : Heap) (locs : List Loc) (ls : Array Slot), xP B0 G h14 H → va_S (xA B0) s.heap H locs → lv_has ls 7 [(2, .int v54), (5, .int v50), (0, .ref a0)] → W p l e rmX6_does s m args below meth c H locs 0 0 Q (F0 m 293 ls [.int v57]) := by
                intro H locs ls hP hS hl
                clear ej7
                refine lv_istore (lv' := [(6, .int v57), (2, .int v54), (5, .int v50), (0, .ref a0)]) hx hb dX6_does_293 hl (by decide) rfl (fun ls hl => ?_)
                refine lv_aload_n hx hb dX6_does_295 rfl (lv_at hl 3 rfl) ?_
                refine lv_bipush (v := (8 : Int32)) hx hb dX6_does_296 (by decide) ?_
                refine lv_iload hx hb dX6_does_298 (lv_at hl 0 rfl) ?_
                obtain ⟨v60, ev60, hf⟩ := xb hf
                obtain ⟨h15, eh15, hf⟩ := xb1 hf
                refine xc_Vv (rest := []) ⟨hx, hb, hml, hown, hts⟩ (m_X6_tells l B0 G h14 h15 a0 (8 : Int32) v57 eh15) (cwV 2 hts gX6_does_X6_tells rfl rfl rfl (by decide +kernel) ⟨Nat.le_of_ble_eq_true rfl, Nat.le_of_ble_eq_true rfl⟩) hKK hP hS ev60 rfl rfl hl.1 rfl (Nat.le_of_ble_eq_true rfl) dX6_does_300 ⟨Nat.zero_le _, Nat.zero_le _⟩ (fun H locs hP hS => ?_)
                refine lv_aload_n hx hb dX6_does_303 rfl (lv_at hl 3 rfl) ?_
                obtain ⟨v61, ev61, hf⟩ := xb hf
                refine xr_getR hx hb hts inX6 hown hKK hP ev61 rfl (by decide) w1 (fun _ h9 => h9) dX6_does_304 ?_
                refine lv_bipush (v := (10 : Int32)) hx hb dX6_does_307 (by decide) ?_
                refine lv_iload_n hx hb dX6_does_309 rfl (lv_at hl 1 rfl) ?_
                refine lv_iload hx hb dX6_does_310 (lv_at hl 0 rfl) ?_
                refine lv_iadd hx hb dX6_does_312 ?_
                obtain ⟨h16, eh16, hf⟩ := xb hf
                refine xr_iast hx hb hKK hP hS eh16 dX6_does_313 (fun H locs hP _ hS => ?_)
                refine lv_aload_n hx hb dX6_does_314 rfl (lv_at hl 3 rfl) ?_
                refine lv_iconst (v := (0 : Int32)) hx hb dX6_does_315 (by decide) ?_
                refine lv_aload_n hx hb dX6_does_316 rfl (lv_at hl 3 rfl) ?_
                obtain ⟨v62, ev62, hf⟩ := xb hf
                refine xr_getR hx hb hts inX6 hown hKK hP ev62 rfl (by decide) w1 (fun _ h9 => h9) dX6_does_317 ?_
                refine lv_bipush (v := (10 : Int32)) hx hb dX6_does_320 (by decide) ?_
                obtain ⟨v63, ev63, hf⟩ := xb hf
                refine xr_iald hx hb hKK hP ev63 dX6_does_322 ?_
                obtain ⟨v64, ev64, hf⟩ := xb hf
                obtain ⟨h17, eh17, hf⟩ := xb1 hf
                refine xc_Vv (rest := []) ⟨hx, hb, hml, hown, hts⟩ (m_X6_tells l B0 G h16 h17 a0 (0 : Int32) v63 eh17) (cwV 2 hts gX6_does_X6_tells rfl rfl rfl (by decide +kernel) ⟨Nat.le_of_ble_eq_true rfl, Nat.le_of_ble_eq_true rfl⟩) hKK hP hS ev64 rfl rfl hl.1 rfl (Nat.le_of_ble_eq_true rfl) dX6_does_323 ⟨Nat.zero_le _, Nat.zero_le _⟩ (fun H locs hP hS => ?_)
                refine lv_aload_n hx hb dX6_does_326 rfl (lv_at hl 3 rfl) ?_
                obtain ⟨v65, ev65, hf⟩ := xb hf
                refine xr_getR hx hb hts inX6 hown hKK hP ev65 rfl (by decide) w1 (fun _ h9 => h9) dX6_does_327 ?_
                refine lv_bipush (v := (9 : Int32)) hx hb dX6_does_330 (by decide) ?_
                refine lv_dup2_11 hx hb dX6_does_332 rfl rfl ?_
                obtain ⟨v66, ev66, hf⟩ := xb hf
                refine xr_iald hx hb hKK hP ev66 dX6_does_333 ?_
                refine lv_iconst (v := (1 : Int32)) hx hb dX6_does_334 (by decide) ?_
                refine lv_iadd hx hb dX6_does_335 ?_
                obtain ⟨h18, eh18, hf⟩ := xb hf
                refine xr_iast hx hb hKK hP hS eh18 dX6_does_336 (fun H locs hP _ hS => ?_)
                refine lv_iload hx hb dX6_does_337 (lv_at hl 2 rfl) ?_
                obtain ⟨v67, ev67, hf⟩ := xb hf
                obtain ⟨rfl, rfl⟩ := xinj2 hf
                subst hQ
                exact xe_z hx hb hr hlocks hKK hP hS ev67 dX6_does_339
              have hf := ej7
              clear ej7
              refine lv_icmp_ge (tgt := 292) hx hb dX6_does_278 (by decide) (fun c8 => ?_) (fun c8 => ?_)
              · have hf := xif_t hf c8
                refine lv_iconst (v := (0 : Int32)) hx hb dX6_does_292 (by decide) ?_
                obtain rfl := Option.some.inj hf
                exact J7 _ _ _ hP hS (lv_sub hl [0, 1, 2] rfl)
              · have hf := xif_f hf c8
                refine lv_aload_n hx hb dX6_does_281 rfl (lv_at hl 2 rfl) ?_
                obtain ⟨v58, ev58, hf⟩ := xb hf
                refine xr_getR hx hb hts inX6 hown hKK hP ev58 rfl (by decide) w1 (fun _ h9 => h9) dX6_does_282 ?_
                refine lv_iconst (v := (2 : Int32)) hx hb dX6_does_285 (by decide) ?_
                obtain ⟨v59, ev59, hf⟩ := xb hf
                refine xr_iald hx hb hKK hP ev59 dX6_does_286 ?_
                refine lv_iload_n hx hb dX6_does_287 rfl (lv_at hl 0 rfl) ?_
                refine lv_isub hx hb dX6_does_288 ?_
                refine lv_goto (tgt := 293) hx hb dX6_does_289 (by decide) ?_
                obtain rfl := Option.some.inj hf
                exact J7 _ _ _ hP hS (lv_sub hl [0, 1, 2] rfl)
            have hf := ej6
            clear ej6
            refine lv_icmp_le (tgt := 243) hx hb dX6_does_229 (by decide) (fun c7 => ?_) (fun c7 => ?_)
            · have hf := xif_t hf c7
              refine lv_iconst (v := (0 : Int32)) hx hb dX6_does_243 (by decide) ?_
              obtain rfl := Option.some.inj hf
              exact J6 _ _ _ hP hS (lv_sub hl [0, 3] rfl)
            · have hf := xif_f hf c7
              refine lv_iload_n hx hb dX6_does_232 rfl (lv_at hl 0 rfl) ?_
              refine lv_aload_n hx hb dX6_does_233 rfl (lv_at hl 3 rfl) ?_
              obtain ⟨v47, ev47, hf⟩ := xb hf
              refine xr_getR hx hb hts inX6 hown hKK hP ev47 rfl (by decide) w1 (fun _ h9 => h9) dX6_does_234 ?_
              refine lv_iconst (v := (1 : Int32)) hx hb dX6_does_237 (by decide) ?_
              obtain ⟨v48, ev48, hf⟩ := xb hf
              refine xr_iald hx hb hKK hP ev48 dX6_does_238 ?_
              refine lv_isub hx hb dX6_does_239 ?_
              refine lv_goto (tgt := 244) hx hb dX6_does_240 (by decide) ?_
              obtain rfl := Option.some.inj hf
              exact J6 _ _ _ hP hS (lv_sub hl [0, 3] rfl)
          have hf := ej5
          clear ej5
          refine lv_icmp_le (tgt := 183) hx hb dX6_does_169 (by decide) (fun c6 => ?_) (fun c6 => ?_)
          · have hf := xif_t hf c6
            refine lv_iconst (v := (0 : Int32)) hx hb dX6_does_183 (by decide) ?_
            obtain rfl := Option.some.inj hf
            exact J5 _ _ _ hP hS (lv_sub hl [0, 1] rfl)
          · have hf := xif_f hf c6
            refine lv_iload_n hx hb dX6_does_172 rfl (lv_at hl 0 rfl) ?_
            refine lv_aload_n hx hb dX6_does_173 rfl (lv_at hl 1 rfl) ?_
            obtain ⟨v35, ev35, hf⟩ := xb hf
            refine xr_getR hx hb hts inX6 hown hKK hP ev35 rfl (by decide) w1 (fun _ h9 => h9) dX6_does_174 ?_
            refine lv_iconst (v := (0 : Int32)) hx hb dX6_does_177 (by decide) ?_
            obtain ⟨v36, ev36, hf⟩ := xb hf
            refine xr_iald hx hb hKK hP ev36 dX6_does_178 ?_
            refine lv_isub hx hb dX6_does_179 ?_
            refine lv_goto (tgt := 184) hx hb dX6_does_180 (by decide) ?_
            obtain rfl := Option.some.inj hf
            exact J5 _ _ _ hP hS (lv_sub hl [0, 1] rfl)
        clear hf
        refine xloop_ind (P := fun z => ∀ (H : Heap) (locs : List Loc) (ls : Array Slot), xP B0 G z.2 H → va_S (xA B0) s.heap H locs → lv_has ls 7 [(2, .int z.1), (1, .int v9), (0, .ref a0)] → W p l e rmX6_does s m args below meth c H locs 0 0 Q (F0 m 107 ls [])) ?_ eL _ _ _ hP hS (lv_sub hl [0, 1, 2] rfl)
        rintro ⟨v19, h8⟩ o hf IH EX H locs ls hP hS hl
        have hf := xf2_e hf
        have hP : xP B0 G h8 H := hP
        have hl : lv_has ls 7 [(2, .int v19), (1, .int v9), (0, .ref a0)] := hl
        refine lv_iload_n hx hb dX6_does_107 rfl (lv_at hl 0 rfl) ?_
        refine lv_aload_n hx hb dX6_does_108 rfl (lv_at hl 2 rfl) ?_
        obtain ⟨v20, ev20, hf⟩ := xb hf
        refine xr_getR hx hb hts inX6 hown hKK hP ev20 rfl (by decide) w1 (fun _ h9 => h9) dX6_does_109 ?_
        refine lv_bipush (v := (6 : Int32)) hx hb dX6_does_112 (by decide) ?_
        obtain ⟨v21, ev21, hf⟩ := xb hf
        refine xr_iald hx hb hKK hP ev21 dX6_does_114 ?_
        refine lv_icmp_ge (tgt := 135) hx hb dX6_does_115 (by decide) (fun c5 => ?_) (fun c5 => ?_)
        · have hf := xif_t hf c5
          have hf := EX _ (Option.some.inj hf).symm
          obtain rfl := hf
          exact J4 _ _ _ hP hS (lv_sub hl [2] rfl)
        · have hf := xif_f hf c5
          refine lv_aload_n hx hb dX6_does_118 rfl (lv_at hl 2 rfl) ?_
          refine lv_iconst (v := (1 : Int32)) hx hb dX6_does_119 (by decide) ?_
          refine lv_aload_n hx hb dX6_does_120 rfl (lv_at hl 2 rfl) ?_
          refine lv_iload_n hx hb dX6_does_121 rfl (lv_at hl 0 rfl) ?_
          refine lv_iload_n hx hb dX6_does_122 rfl (lv_at hl 1 rfl) ?_
          obtain ⟨v22, ev22, hf⟩ := xb hf
          obtain ⟨v23, h10, ev23, hf⟩ := xb2 hf
          refine xc_Vi (rest := [.int (1 : Int32), .ref a0]) ⟨hx, hb, hml, hown, hts⟩ (m_X6_flows l B0 G h8 h10 a0 v19 v9 v23 ev23) (cwV 2 hts gX6_does_X6_flows rfl rfl rfl (by decide +kernel) ⟨Nat.le_of_ble_eq_true rfl, Nat.le_of_ble_eq_true rfl⟩) hKK hP hS ev22 rfl rfl hl.1 rfl (Nat.le_of_ble_eq_true rfl) dX6_does_123 ⟨Nat.zero_le _, Nat.zero_le _⟩ (fun H locs hP hS => ?_)
          obtain ⟨v24, ev24, hf⟩ := xb hf
          obtain ⟨h11, eh11, hf⟩ := xb1 hf
          refine xc_Vv (rest := []) ⟨hx, hb, hml, hown, hts⟩ (m_X6_tells l B0 G h10 h11 a0 (1 : Int32) v23 eh11) (cwV 2 hts gX6_does_X6_tells rfl rfl rfl (by decide +kernel) ⟨Nat.le_of_ble_eq_true rfl, Nat.le_of_ble_eq_true rfl⟩) hKK hP hS ev24 rfl rfl hl.1 rfl (Nat.le_of_ble_eq_true rfl) dX6_does_126 ⟨Nat.zero_le _, Nat.zero_le _⟩ (fun H locs hP hS => ?_)
          obtain ⟨v25, ev25, hf⟩ := xl hf
          refine lv_iinc (v := v25) (lv' := [(2, .int v25), (1, .int v9), (0, .ref a0)]) hx hb dX6_does_129 hl (k := 0) rfl (by rw [ev25]; rfl) (by decide) rfl (fun ls hl => ?_)
          refine lv_goto (tgt := 107) hx hb dX6_does_132 (by decide) ?_
          exact IH _ (Option.some.inj hf).symm _ _ _ hP hS (lv_sub hl [0, 1, 2] rfl)
      have hf := ej3
      clear ej3
      refine lv_if_ne (tgt := 105) hx hb dX6_does_82 (by decide) (fun c3 => ?_) (fun c3 => ?_)
      · have hf := xif_f hf c3
        obtain rfl := Option.some.inj hf
        exact J3 _ _ _ hP hS (lv_sub hl [0, 1] rfl)
      · have hf := xif_t hf c3
        refine lv_aload_n hx hb dX6_does_85 rfl (lv_at hl 1 rfl) ?_
        obtain ⟨v14, ev14, hf⟩ := xb hf
        refine xr_getR hx hb hts inX6 hown hKK hP ev14 rfl (by decide) w1 (fun _ h9 => h9) dX6_does_86 ?_
        refine lv_bipush (v := (11 : Int32)) hx hb dX6_does_89 (by decide) ?_
        obtain ⟨v15, ev15, hf⟩ := xb hf
        refine xr_iald hx hb hKK hP ev15 dX6_does_91 ?_
        refine lv_aload_n hx hb dX6_does_92 rfl (lv_at hl 1 rfl) ?_
        obtain ⟨v16, ev16, hf⟩ := xb hf
        refine xr_getR hx hb hts inX6 hown hKK hP ev16 rfl (by decide) w1 (fun _ h9 => h9) dX6_does_93 ?_
        refine lv_iconst (v := (4 : Int32)) hx hb dX6_does_96 (by decide) ?_
        obtain ⟨v17, ev17, hf⟩ := xb hf
        refine xr_iald hx hb hKK hP ev17 dX6_does_97 ?_
        refine lv_icmp_lt (tgt := 105) hx hb dX6_does_98 (by decide) (fun c4 => ?_) (fun c4 => ?_)
        · have hf := xif_t hf c4
          obtain rfl := Option.some.inj hf
          exact J3 _ _ _ hP hS (lv_sub hl [0, 1] rfl)
        · have hf := xif_f hf c4
          refine lv_aload_n hx hb dX6_does_101 rfl (lv_at hl 1 rfl) ?_
          obtain ⟨v18, ev18, hf⟩ := xb hf
          obtain ⟨h7, eh7, hf⟩ := xb1 hf
          refine xc_Vv (rest := []) ⟨hx, hb, hml, hown, hts⟩ (m_X6_drains l B0 G fu h5 h7 a0 eh7) (cwV 0 hts gX6_does_X6_drains rfl rfl rfl (by decide +kernel) ⟨Nat.le_of_ble_eq_true rfl, Nat.le_of_ble_eq_true rfl⟩) hKK hP hS ev18 rfl rfl hl.1 rfl (Nat.le_of_ble_eq_true rfl) dX6_does_102 ⟨Nat.zero_le _, Nat.zero_le _⟩ (fun H locs hP hS => ?_)
          obtain rfl := Option.some.inj hf
          exact J3 _ _ _ hP hS (lv_sub hl [0, 1] rfl)
    have hf := ej2
    clear ej2
    refine lv_if_ne (tgt := 79) hx hb dX6_does_64 (by decide) (fun c2 => ?_) (fun c2 => ?_)
    · have hf := xif_f hf c2
      refine lv_iconst (v := (0 : Int32)) hx hb dX6_does_79 (by decide) ?_
      obtain rfl := Option.some.inj hf
      exact J2 _ _ _ hP hS (lv_sub hl [0, 1] rfl)
    · have hf := xif_t hf c2
      refine lv_aload_n hx hb dX6_does_67 rfl (lv_at hl 1 rfl) ?_
      obtain ⟨v12, ev12, hf⟩ := xb hf
      refine xr_getR hx hb hts inX6 hown hKK hP ev12 rfl (by decide) w1 (fun _ h9 => h9) dX6_does_68 ?_
      refine lv_bipush (v := (11 : Int32)) hx hb dX6_does_71 (by decide) ?_
      obtain ⟨v13, ev13, hf⟩ := xb hf
      refine xr_iald hx hb hKK hP ev13 dX6_does_73 ?_
      refine lv_iconst (v := (1 : Int32)) hx hb dX6_does_74 (by decide) ?_
      refine lv_iadd hx hb dX6_does_75 ?_
      refine lv_goto (tgt := 80) hx hb dX6_does_76 (by decide) ?_
      obtain rfl := Option.some.inj hf
      exact J2 _ _ _ hP hS (lv_sub hl [0, 1] rfl)
  clear hf
  refine xloop_ind (P := fun z => ∀ (H : Heap) (locs : List Loc) (ls : Array Slot), xP B0 G z.2 H → va_S (xA B0) s.heap H locs → lv_has ls 7 [(1, .int z.1), (0, .ref a0)] → W p l e rmX6_does s m args below meth c H locs 0 0 Q (F0 m 13 ls [])) ?_ eL _ _ _ hP hS (lv_sub hl [0, 1] rfl)
  rintro ⟨v3, h2⟩ o hf IH EX H locs ls hP hS hl
  have hf := xf2_e hf
  have hP : xP B0 G h2 H := hP
  have hl : lv_has ls 7 [(1, .int v3), (0, .ref a0)] := hl
  refine lv_iload_n hx hb dX6_does_13 rfl (lv_at hl 0 rfl) ?_
  refine lv_bipush (v := (10 : Int32)) hx hb dX6_does_14 (by decide) ?_
  refine lv_icmp_ge (tgt := 44) hx hb dX6_does_16 (by decide) (fun c1 => ?_) (fun c1 => ?_)
  · have hf := xif_t hf c1
    have hf := EX _ (Option.some.inj hf).symm
    obtain rfl := hf
    exact J1 _ _ _ hP hS (lv_sub hl [1] rfl)
  · have hf := xif_f hf c1
    refine lv_aload_n hx hb dX6_does_19 rfl (lv_at hl 1 rfl) ?_
    obtain ⟨v4, ev4, hf⟩ := xb hf
    refine xr_getR hx hb hts inX6 hown hKK hP ev4 rfl (by decide) w1 (fun _ h9 => h9) dX6_does_20 ?_
    refine lv_sipush (v := (163 : Int32)) hx hb dX6_does_23 (by decide) ?_
    refine lv_bipush (v := (10 : Int32)) hx hb dX6_does_26 (by decide) ?_
    refine lv_aload_n hx hb dX6_does_28 rfl (lv_at hl 1 rfl) ?_
    obtain ⟨v5, ev5, hf⟩ := xb hf
    refine xr_getI hx hb hts inX6 hown hKK hP ev5 rfl (by decide) w2 (fun _ h9 => h9) dX6_does_29 ?_
    refine lv_imul hx hb dX6_does_32 ?_
    refine lv_iadd hx hb dX6_does_33 ?_
    refine lv_iload_n hx hb dX6_does_34 rfl (lv_at hl 0 rfl) ?_
    refine lv_iadd hx hb dX6_does_35 ?_
    refine lv_iconst (v := (0 : Int32)) hx hb dX6_does_36 (by decide) ?_
    obtain ⟨h4, eh4, hf⟩ := xb hf
    refine xr_iast hx hb hKK hP hS eh4 dX6_does_37 (fun H locs hP _ hS => ?_)
    obtain ⟨v6, ev6, hf⟩ := xl hf
    refine lv_iinc (v := v6) (lv' := [(1, .int v6), (0, .ref a0)]) hx hb dX6_does_38 hl (k := 0) rfl (by rw [ev6]; rfl) (by decide) rfl (fun ls hl => ?_)
    refine lv_goto (tgt := 13) hx hb dX6_does_41 (by decide) ?_
    exact IH _ (Option.some.inj hf).symm _ _ _ hP hS (lv_sub hl [0, 1] rfl)
/-- RainReservoirModel.run -/
def f_X6_run (fu : Nat) (h : XH) (a0 : Nat) (p0 : Int32) : Option (Int32 × XH) :=
  obind1 (f_X6_in (Int32.toInt64 p0) (0 : Int64) (100 : Int64)) fun v1 =>
  obind1 (
    oletk (
      some (0 : Int32)
    ) fun k2 =>
    if v1 = (0 : Int32) then
      k2
    else
      (xgR h a0 6 0).bind fun v3 =>
      (xald h v3 0 (9 : Int32)).bind fun v4 =>
      (xgR h a0 6 0).bind fun v5 =>
      (xald h v5 0 (8 : Int32)).bind fun v6 =>
      if v6 < (v4 + p0) then
        k2
      else
        some (1 : Int32)
  ) fun v2 =>
  (xis h a0 6).bind fun v7 =>
  obind2 (f_X6_goes h a0 v1 v2) fun v8 h1 =>
  if v8 = (0 : Int32) then
    some (((0 : Int32), h1))
  else
    (xis h1 a0 6).bind fun v9 =>
    obind1 (f_X6_save fu h1 a0) fun h2 =>
    obind2 (xloop (xf3 fun (v10 : Int32) (v11 : Int32) (h3 : XH) =>
      if p0 ≤ v11 then
        some (.inr (v10, h3))
      else
        (xis h3 a0 6).bind fun v13 =>
        obind2 (f_X6_does fu h3 a0) fun v14 h5 =>
        obind1 (
          if v14 = (0 : Int32) then
            some (0 : Int32)
          else
            some (1 : Int32)
        ) fun v15 =>
        olet ((v10 + v15)) fun v16 =>
        olet (v11 + (1 : Int32)) fun v17 =>
        some (.inl (v16, v17, h5))
    ) fu ((0 : Int32), (0 : Int32), h2)) fun v12 h4 =>
    some ((v12, h4))
abbrev rmX6_run : Room := { frames := 6, cells := 0, slots := 0, locals := 142 }
set_option maxHeartbeats 4000000 in
set_option maxRecDepth 100000 in
theorem m_X6_run (l : Launch) (B0 : Nat) (G : XG) (fu : Nat) (h hE : XH) (a0 : Nat) (p0 : Int32) (rE : Int32) (hf : f_X6_run fu h a0 p0 = some (rE, hE)) : Met l yX6_run wsX6_run rmX6_run (va_Pc [.ref a0, .int p0] (xU B0 G h)) (xQi B0 G hE rE) 0 0 (xA B0) := by
  refine xMet (cc := cX6_run) (maxL := 5) (by decide) rfl (Nat.le_of_ble_eq_true rfl) ?_
  intro p e s m args below meth c ls hx hb hr hml hown hlocks hnm hts hKK hP hl
  have hown : s.vm.findClass RX6 = some m.cls := hown
  have hl : lv_has ls 5 [(0, .ref a0), (1, .int p0)] := hl
  have hS : va_S (xA B0) s.heap s.heap [] := va_S.rf
  have inX6 : ∀ w ∈ wsX60, w ∈ wsX6_run := by decide +kernel
  have w1 := hts (.constantLong RX6 46 (100)) (by decide +kernel)
  have w2 := hts (.fieldLink RX6 7 "RainReservoirModel" "all" "[I") (by decide +kernel)
  generalize hQ : MQ below (xQi B0 G hE rE) args s 0 0 (xA B0) = Q
  unfold f_X6_run at hf
  refine lv_iload_n hx hb dX6_run_0 rfl (lv_at hl 1 rfl) ?_
  refine lv_i2l hx hb dX6_run_1 rfl ?_
  refine lv_lconst (v := (0 : Int64)) hx hb dX6_run_2 (by decide) ?_
  refine lv_ldc2 (v := (100 : Int64)) hx hb hown w1 dX6_run_3 ?_
  obtain ⟨v1, ev1, hf⟩ := xb1 hf
  refine xc_Si (rest := []) ⟨hx, hb, hml, hown, hts⟩ (m_X6_in l B0 G h (Int32.toInt64 p0) (0 : Int64) (100 : Int64) v1 ev1) (va_cwS 3 hts gX6_run_X6_in rfl rfl rfl (by decide +kernel) ⟨Nat.le_of_ble_eq_true rfl, Nat.le_of_ble_eq_true rfl⟩) hKK hP hS rfl hl.1 rfl (Nat.le_of_ble_eq_true rfl) dX6_run_6 ⟨Nat.zero_le _, Nat.zero_le _⟩ (fun H locs hP hS => ?_)
  refine lv_istore_n (lv' := [(2, .int v1), (0, .ref a0), (1, .int p0)]) hx hb dX6_run_9 rfl hl (by decide) rfl (fun ls hl => ?_)
  refine lv_aload_n hx hb dX6_run_10 rfl (lv_at hl 1 rfl) ?_
  refine lv_iload_n hx hb dX6_run_11 rfl (lv_at hl 0 rfl) ?_
  refine lv_iload_n hx hb dX6_run_12 rfl (lv_at hl 0 rfl) ?_
  obtain ⟨v2, ej1, hf⟩ := xb1 hf
  have J1 : ∀ (H : Heap) (locs : List Loc) (ls : Array Slot), xP B0 G h H → va_S (xA B0) s.heap H locs → lv_has ls 5 [(0, .ref a0), (1, .int p0)] → W p l e rmX6_run s m args below meth c H locs 0 0 Q (F0 m 40 ls [.int v2, .int v1, .ref a0]) := by
    intro H locs ls hP hS hl
    clear ej1
    obtain ⟨v7, ev7, hf⟩ := xb hf
    obtain ⟨v8, h1, ev8, hf⟩ := xb2 hf
    refine xc_Vi (rest := []) ⟨hx, hb, hml, hown, hts⟩ (m_X6_goes l B0 G h h1 a0 v1 v2 v8 ev8) (cwV 2 hts gX6_run_X6_goes rfl rfl rfl (by decide +kernel) ⟨Nat.le_of_ble_eq_true rfl, Nat.le_of_ble_eq_true rfl⟩) hKK hP hS ev7 rfl rfl hl.1 rfl (Nat.le_of_ble_eq_true rfl) dX6_run_40 ⟨Nat.zero_le _, Nat.zero_le _⟩ (fun H locs hP hS => ?_)
    refine lv_if_ne (tgt := 48) hx hb dX6_run_43 (by decide) (fun c3 => ?_) (fun c3 => ?_)
    · have hf := xif_f hf c3
      refine lv_aload_n hx hb dX6_run_48 rfl (lv_at hl 0 rfl) ?_
      obtain ⟨v9, ev9, hf⟩ := xb hf
      obtain ⟨h2, eh2, hf⟩ := xb1 hf
      refine xc_Vv (rest := []) ⟨hx, hb, hml, hown, hts⟩ (m_X6_save l B0 G fu h1 h2 a0 eh2) (cwV 0 hts gX6_run_X6_save rfl rfl rfl (by decide +kernel) ⟨Nat.le_of_ble_eq_true rfl, Nat.le_of_ble_eq_true rfl⟩) hKK hP hS ev9 rfl rfl hl.1 rfl (Nat.le_of_ble_eq_true rfl) dX6_run_49 ⟨Nat.zero_le _, Nat.zero_le _⟩ (fun H locs hP hS => ?_)
      refine lv_iconst (v := (0 : Int32)) hx hb dX6_run_52 (by decide) ?_
      refine lv_istore_n (lv' := [(3, .int (0 : Int32)), (0, .ref a0), (1, .int p0)]) hx hb dX6_run_53 rfl hl (by decide) rfl (fun ls hl => ?_)
      refine lv_iconst (v := (0 : Int32)) hx hb dX6_run_54 (by decide) ?_
      refine lv_istore (lv' := [(4, .int (0 : Int32)), (3, .int (0 : Int32)), (0, .ref a0), (1, .int p0)]) hx hb dX6_run_55 hl (by decide) rfl (fun ls hl => ?_)
      obtain ⟨v12, h4, eL, hf⟩ := xb2 hf
      have J3 : ∀ (H : Heap) (locs : List Loc) (ls : Array Slot), xP B0 G h4 H → va_S (xA B0) s.heap H locs → lv_has ls 5 [(3, .int v12)] → W p l e rmX6_run s m args below meth c H locs 0 0 Q (F0 m 84 ls []) := by
        intro H locs ls hP hS hl
        clear eL
        refine lv_iload_n hx hb dX6_run_84 rfl (lv_at hl 0 rfl) ?_
        obtain ⟨rfl, rfl⟩ := xinj2 hf
        subst hQ
        exact xe_i hx hb hr hlocks hKK hP hS dX6_run_85
      clear hf
      refine xloop_ind (P := fun z => ∀ (H : Heap) (locs : List Loc) (ls : Array Slot), xP B0 G z.2.2 H → va_S (xA B0) s.heap H locs → lv_has ls 5 [(3, .int z.1), (4, .int z.2.1), (0, .ref a0), (1, .int p0)] → W p l e rmX6_run s m args below meth c H locs 0 0 Q (F0 m 57 ls [])) ?_ eL _ _ _ hP hS (lv_sub hl [1, 0, 2, 3] rfl)
      rintro ⟨v10, v11, h3⟩ o hf IH EX H locs ls hP hS hl
      have hf := xf3_e hf
      have hP : xP B0 G h3 H := hP
      have hl : lv_has ls 5 [(3, .int v10), (4, .int v11), (0, .ref a0), (1, .int p0)] := hl
      refine lv_iload hx hb dX6_run_57 (lv_at hl 1 rfl) ?_
      refine lv_iload_n hx hb dX6_run_59 rfl (lv_at hl 3 rfl) ?_
      refine lv_icmp_ge (tgt := 84) hx hb dX6_run_60 (by decide) (fun c4 => ?_) (fun c4 => ?_)
      · have hf := xif_t hf c4
        have hf := EX _ (Option.some.inj hf).symm
        obtain ⟨rfl, rfl⟩ := xpair2 hf
        exact J3 _ _ _ hP hS (lv_sub hl [0] rfl)
      · have hf := xif_f hf c4
        refine lv_iload_n hx hb dX6_run_63 rfl (lv_at hl 0 rfl) ?_
        refine lv_aload_n hx hb dX6_run_64 rfl (lv_at hl 2 rfl) ?_
        obtain ⟨v13, ev13, hf⟩ := xb hf
        obtain ⟨v14, h5, ev14, hf⟩ := xb2 hf
        refine xc_Vi (rest := [.int v10]) ⟨hx, hb, hml, hown, hts⟩ (m_X6_does l B0 G fu h3 h5 a0 v14 ev14) (cwV 0 hts gX6_run_X6_does rfl rfl rfl (by decide +kernel) ⟨Nat.le_of_ble_eq_true rfl, Nat.le_of_ble_eq_true rfl⟩) hKK hP hS ev13 rfl rfl hl.1 rfl (Nat.le_of_ble_eq_true rfl) dX6_run_65 ⟨Nat.zero_le _, Nat.zero_le _⟩ (fun H locs hP hS => ?_)
        obtain ⟨v15, ej4, hf⟩ := xb1 hf
        have J4 : ∀ (H : Heap) (locs : List Loc) (ls : Array Slot), xP B0 G h5 H → va_S (xA B0) s.heap H locs → lv_has ls 5 [(4, .int v11), (0, .ref a0), (1, .int p0)] → W p l e rmX6_run s m args below meth c H locs 0 0 Q (F0 m 76 ls [.int v15, .int v10]) := by
          intro H locs ls hP hS hl
          clear ej4
          refine lv_iadd hx hb dX6_run_76 ?_
          obtain ⟨v16, ev16, hf⟩ := xl hf
          refine xtopi ev16 ?_
          refine lv_istore_n (lv' := [(3, .int v16), (4, .int v11), (0, .ref a0), (1, .int p0)]) hx hb dX6_run_77 rfl hl (by decide) rfl (fun ls hl => ?_)
          obtain ⟨v17, ev17, hf⟩ := xl hf
          refine lv_iinc (v := v17) (lv' := [(4, .int v17), (3, .int v16), (0, .ref a0), (1, .int p0)]) hx hb dX6_run_78 hl (k := 1) rfl (by rw [ev17]; rfl) (by decide) rfl (fun ls hl => ?_)
          refine lv_goto (tgt := 57) hx hb dX6_run_81 (by decide) ?_
          exact IH _ (Option.some.inj hf).symm _ _ _ hP hS (lv_sub hl [1, 0, 2, 3] rfl)
        have hf := ej4
        clear ej4
        refine lv_if_eq (tgt := 75) hx hb dX6_run_68 (by decide) (fun c5 => ?_) (fun c5 => ?_)
        · have hf := xif_t hf c5
          refine lv_iconst (v := (0 : Int32)) hx hb dX6_run_75 (by decide) ?_
          obtain rfl := Option.some.inj hf
          exact J4 _ _ _ hP hS (lv_sub hl [1, 2, 3] rfl)
        · have hf := xif_f hf c5
          refine lv_iconst (v := (1 : Int32)) hx hb dX6_run_71 (by decide) ?_
          refine lv_goto (tgt := 76) hx hb dX6_run_72 (by decide) ?_
          obtain rfl := Option.some.inj hf
          exact J4 _ _ _ hP hS (lv_sub hl [1, 2, 3] rfl)
    · have hf := xif_t hf c3
      refine lv_iconst (v := (0 : Int32)) hx hb dX6_run_46 (by decide) ?_
      obtain ⟨rfl, rfl⟩ := xinj2 hf
      subst hQ
      exact xe_i hx hb hr hlocks hKK hP hS dX6_run_47
  have hf := ej1
  clear ej1
  obtain ⟨k2, ek2, hf⟩ := xlk hf
  have J2 : k2 = some v2 → ∀ (H : Heap) (locs : List Loc) (ls : Array Slot), xP B0 G h H → va_S (xA B0) s.heap H locs → lv_has ls 5 [(0, .ref a0), (1, .int p0)] → W p l e rmX6_run s m args below meth c H locs 0 0 Q (F0 m 39 ls [.int v1, .ref a0]) := by
    intro  hf H locs ls hP hS hl
    have hf := xk0 ek2 hf
    clear ek2
    refine lv_iconst (v := (0 : Int32)) hx hb dX6_run_39 (by decide) ?_
    obtain rfl := Option.some.inj hf
    exact J1 _ _ _ hP hS (lv_sub hl [0, 1] rfl)
  clear ek2
  refine lv_if_eq (tgt := 39) hx hb dX6_run_13 (by decide) (fun c1 => ?_) (fun c1 => ?_)
  · have hf := xif_t hf c1
    exact J2  hf _ _ _ hP hS (lv_sub hl [1, 2] rfl)
  · have hf := xif_f hf c1
    refine lv_aload_n hx hb dX6_run_16 rfl (lv_at hl 1 rfl) ?_
    obtain ⟨v3, ev3, hf⟩ := xb hf
    refine xr_getR hx hb hts inX6 hown hKK hP ev3 rfl (by decide) w2 (fun _ h9 => h9) dX6_run_17 ?_
    refine lv_bipush (v := (9 : Int32)) hx hb dX6_run_20 (by decide) ?_
    obtain ⟨v4, ev4, hf⟩ := xb hf
    refine xr_iald hx hb hKK hP ev4 dX6_run_22 ?_
    refine lv_iload_n hx hb dX6_run_23 rfl (lv_at hl 2 rfl) ?_
    refine lv_iadd hx hb dX6_run_24 ?_
    refine lv_aload_n hx hb dX6_run_25 rfl (lv_at hl 1 rfl) ?_
    obtain ⟨v5, ev5, hf⟩ := xb hf
    refine xr_getR hx hb hts inX6 hown hKK hP ev5 rfl (by decide) w2 (fun _ h9 => h9) dX6_run_26 ?_
    refine lv_bipush (v := (8 : Int32)) hx hb dX6_run_29 (by decide) ?_
    obtain ⟨v6, ev6, hf⟩ := xb hf
    refine xr_iald hx hb hKK hP ev6 dX6_run_31 ?_
    refine lv_icmp_gt (tgt := 39) hx hb dX6_run_32 (by decide) (fun c2 => ?_) (fun c2 => ?_)
    · have hf := xif_t hf c2
      exact J2  hf _ _ _ hP hS (lv_sub hl [1, 2] rfl)
    · have hf := xif_f hf c2
      refine lv_iconst (v := (1 : Int32)) hx hb dX6_run_35 (by decide) ?_
      refine lv_goto (tgt := 40) hx hb dX6_run_36 (by decide) ?_
      obtain rfl := Option.some.inj hf
      exact J1 _ _ _ hP hS (lv_sub hl [1, 2] rfl)
/-- RainReservoirModel.goesBack -/
def f_X6_goesBack (fu : Nat) (h : XH) (a0 : Nat) : Option (XH) :=
  (xgR h a0 6 0).bind fun v1 =>
  (xast h v1 0 (9 : Int32) (0 : Int32)).bind fun h1 =>
  (xgR h1 a0 6 0).bind fun v2 =>
  (xast h1 v2 0 (10 : Int32) (0 : Int32)).bind fun h2 =>
  (xgR h2 a0 6 0).bind fun v3 =>
  (xast h2 v3 0 (11 : Int32) (0 : Int32)).bind fun h3 =>
  (xgR h3 a0 6 0).bind fun v4 =>
  (xast h3 v4 0 (12 : Int32) (0 : Int32)).bind fun h4 =>
  obind1 (xloop (xf2 fun (v5 : Int32) (h5 : XH) =>
    (xgR h5 a0 6 0).bind fun v6 =>
    (xald h5 v6 0 (6 : Int32)).bind fun v7 =>
    if v7 ≤ v5 then
      some (.inr h5)
    else
      (xgR h5 a0 6 0).bind fun v8 =>
      obind1 (f_X6_roofAt v5 (4 : Int32)) fun v9 =>
      (xast h5 v8 0 v9 (0 : Int32)).bind fun h7 =>
      olet (v5 + (1 : Int32)) fun v10 =>
      some (.inl (v10, h7))
  ) fu ((0 : Int32), h4)) fun h6 =>
  obind1 (xloop (xf2 fun (v11 : Int32) (h8 : XH) =>
    (xgR h8 a0 6 0).bind fun v12 =>
    (xald h8 v12 0 (7 : Int32)).bind fun v13 =>
    if v13 ≤ v11 then
      some (.inr h8)
    else
      (xgR h8 a0 6 0).bind fun v14 =>
      obind1 (f_X6_userAt v11 (2 : Int32)) fun v15 =>
      (xast h8 v14 0 v15 (0 : Int32)).bind fun h10 =>
      (xgR h10 a0 6 0).bind fun v16 =>
      obind1 (f_X6_userAt v11 (3 : Int32)) fun v17 =>
      (xast h10 v16 0 v17 (0 : Int32)).bind fun h11 =>
      olet (v11 + (1 : Int32)) fun v18 =>
      some (.inl (v18, h11))
  ) fu ((0 : Int32), h6)) fun h9 =>
  some (h9)
abbrev rmX6_goesBack : Room := { frames := 1, cells := 0, slots := 0, locals := 21 }
set_option maxHeartbeats 4000000 in
set_option maxRecDepth 100000 in
theorem m_X6_goesBack (l : Launch) (B0 : Nat) (G : XG) (fu : Nat) (h hE : XH) (a0 : Nat) (hf : f_X6_goesBack fu h a0 = some hE) : Met l yX6_goesBack wsX6_goesBack rmX6_goesBack (va_Pc [.ref a0] (xU B0 G h)) (xQv B0 G hE) 0 0 (xA B0) := by
  refine xMet (cc := cX6_goesBack) (maxL := 2) (by decide) rfl (Nat.le_of_ble_eq_true rfl) ?_
  intro p e s m args below meth c ls hx hb hr hml hown hlocks hnm hts hKK hP hl
  have hown : s.vm.findClass RX6 = some m.cls := hown
  have hl : lv_has ls 2 [(0, .ref a0)] := hl
  have hS : va_S (xA B0) s.heap s.heap [] := va_S.rf
  have inX6 : ∀ w ∈ wsX60, w ∈ wsX6_goesBack := by decide +kernel
  have w1 := hts (.fieldLink RX6 7 "RainReservoirModel" "all" "[I") (by decide +kernel)
  generalize hQ : MQ below (xQv B0 G hE) args s 0 0 (xA B0) = Q
  unfold f_X6_goesBack at hf
  refine lv_aload_n hx hb dX6_goesBack_0 rfl (lv_at hl 0 rfl) ?_
  obtain ⟨v1, ev1, hf⟩ := xb hf
  refine xr_getR hx hb hts inX6 hown hKK hP ev1 rfl (by decide) w1 (fun _ h9 => h9) dX6_goesBack_1 ?_
  refine lv_bipush (v := (9 : Int32)) hx hb dX6_goesBack_4 (by decide) ?_
  refine lv_iconst (v := (0 : Int32)) hx hb dX6_goesBack_6 (by decide) ?_
  obtain ⟨h1, eh1, hf⟩ := xb hf
  refine xr_iast hx hb hKK hP hS eh1 dX6_goesBack_7 (fun H locs hP _ hS => ?_)
  refine lv_aload_n hx hb dX6_goesBack_8 rfl (lv_at hl 0 rfl) ?_
  obtain ⟨v2, ev2, hf⟩ := xb hf
  refine xr_getR hx hb hts inX6 hown hKK hP ev2 rfl (by decide) w1 (fun _ h9 => h9) dX6_goesBack_9 ?_
  refine lv_bipush (v := (10 : Int32)) hx hb dX6_goesBack_12 (by decide) ?_
  refine lv_iconst (v := (0 : Int32)) hx hb dX6_goesBack_14 (by decide) ?_
  obtain ⟨h2, eh2, hf⟩ := xb hf
  refine xr_iast hx hb hKK hP hS eh2 dX6_goesBack_15 (fun H locs hP _ hS => ?_)
  refine lv_aload_n hx hb dX6_goesBack_16 rfl (lv_at hl 0 rfl) ?_
  obtain ⟨v3, ev3, hf⟩ := xb hf
  refine xr_getR hx hb hts inX6 hown hKK hP ev3 rfl (by decide) w1 (fun _ h9 => h9) dX6_goesBack_17 ?_
  refine lv_bipush (v := (11 : Int32)) hx hb dX6_goesBack_20 (by decide) ?_
  refine lv_iconst (v := (0 : Int32)) hx hb dX6_goesBack_22 (by decide) ?_
  obtain ⟨h3, eh3, hf⟩ := xb hf
  refine xr_iast hx hb hKK hP hS eh3 dX6_goesBack_23 (fun H locs hP _ hS => ?_)
  refine lv_aload_n hx hb dX6_goesBack_24 rfl (lv_at hl 0 rfl) ?_
  obtain ⟨v4, ev4, hf⟩ := xb hf
  refine xr_getR hx hb hts inX6 hown hKK hP ev4 rfl (by decide) w1 (fun _ h9 => h9) dX6_goesBack_25 ?_
  refine lv_bipush (v := (12 : Int32)) hx hb dX6_goesBack_28 (by decide) ?_
  refine lv_iconst (v := (0 : Int32)) hx hb dX6_goesBack_30 (by decide) ?_
  obtain ⟨h4, eh4, hf⟩ := xb hf
  refine xr_iast hx hb hKK hP hS eh4 dX6_goesBack_31 (fun H locs hP _ hS => ?_)
  refine lv_iconst (v := (0 : Int32)) hx hb dX6_goesBack_32 (by decide) ?_
  refine lv_istore_n (lv' := [(1, .int (0 : Int32)), (0, .ref a0)]) hx hb dX6_goesBack_33 rfl hl (by decide) rfl (fun ls hl => ?_)
  obtain ⟨h6, eL, hf⟩ := xb1 hf
  have J1 : ∀ (H : Heap) (locs : List Loc) (ls : Array Slot), xP B0 G h6 H → va_S (xA B0) s.heap H locs → lv_has ls 2 [(0, .ref a0)] → W p l e rmX6_goesBack s m args below meth c H locs 0 0 Q (F0 m 62 ls []) := by
    intro H locs ls hP hS hl
    clear eL
    refine lv_iconst (v := (0 : Int32)) hx hb dX6_goesBack_62 (by decide) ?_
    refine lv_istore_n (lv' := [(1, .int (0 : Int32)), (0, .ref a0)]) hx hb dX6_goesBack_63 rfl hl (by decide) rfl (fun ls hl => ?_)
    obtain ⟨h9, eL, hf⟩ := xb1 hf
    have J2 : ∀ (H : Heap) (locs : List Loc) (ls : Array Slot), xP B0 G h9 H → va_S (xA B0) s.heap H locs → lv_has ls 2 [] → W p l e rmX6_goesBack s m args below meth c H locs 0 0 Q (F0 m 103 ls []) := by
      intro H locs ls hP hS hl
      clear eL
      obtain rfl := Option.some.inj hf
      subst hQ
      exact xe_v hx hb hr hlocks hKK hP hS dX6_goesBack_103
    clear hf
    refine xloop_ind (P := fun z => ∀ (H : Heap) (locs : List Loc) (ls : Array Slot), xP B0 G z.2 H → va_S (xA B0) s.heap H locs → lv_has ls 2 [(1, .int z.1), (0, .ref a0)] → W p l e rmX6_goesBack s m args below meth c H locs 0 0 Q (F0 m 64 ls [])) ?_ eL _ _ _ hP hS (lv_sub hl [0, 1] rfl)
    rintro ⟨v11, h8⟩ o hf IH EX H locs ls hP hS hl
    have hf := xf2_e hf
    have hP : xP B0 G h8 H := hP
    have hl : lv_has ls 2 [(1, .int v11), (0, .ref a0)] := hl
    refine lv_iload_n hx hb dX6_goesBack_64 rfl (lv_at hl 0 rfl) ?_
    refine lv_aload_n hx hb dX6_goesBack_65 rfl (lv_at hl 1 rfl) ?_
    obtain ⟨v12, ev12, hf⟩ := xb hf
    refine xr_getR hx hb hts inX6 hown hKK hP ev12 rfl (by decide) w1 (fun _ h9 => h9) dX6_goesBack_66 ?_
    refine lv_bipush (v := (7 : Int32)) hx hb dX6_goesBack_69 (by decide) ?_
    obtain ⟨v13, ev13, hf⟩ := xb hf
    refine xr_iald hx hb hKK hP ev13 dX6_goesBack_71 ?_
    refine lv_icmp_ge (tgt := 103) hx hb dX6_goesBack_72 (by decide) (fun c2 => ?_) (fun c2 => ?_)
    · have hf := xif_t hf c2
      have hf := EX _ (Option.some.inj hf).symm
      obtain rfl := hf
      exact J2 _ _ _ hP hS (lv_sub hl [] rfl)
    · have hf := xif_f hf c2
      refine lv_aload_n hx hb dX6_goesBack_75 rfl (lv_at hl 1 rfl) ?_
      obtain ⟨v14, ev14, hf⟩ := xb hf
      refine xr_getR hx hb hts inX6 hown hKK hP ev14 rfl (by decide) w1 (fun _ h9 => h9) dX6_goesBack_76 ?_
      refine lv_iload_n hx hb dX6_goesBack_79 rfl (lv_at hl 0 rfl) ?_
      refine lv_iconst (v := (2 : Int32)) hx hb dX6_goesBack_80 (by decide) ?_
      obtain ⟨v15, ev15, hf⟩ := xb1 hf
      refine xc_Si (rest := [.ref v14]) ⟨hx, hb, hml, hown, hts⟩ (m_X6_userAt l B0 G h8 v11 (2 : Int32) v15 ev15) (va_cwS 2 hts gX6_goesBack_X6_userAt rfl rfl rfl (by decide +kernel) ⟨Nat.le_of_ble_eq_true rfl, Nat.le_of_ble_eq_true rfl⟩) hKK hP hS rfl hl.1 rfl (Nat.le_of_ble_eq_true rfl) dX6_goesBack_81 ⟨Nat.zero_le _, Nat.zero_le _⟩ (fun H locs hP hS => ?_)
      refine lv_iconst (v := (0 : Int32)) hx hb dX6_goesBack_84 (by decide) ?_
      obtain ⟨h10, eh10, hf⟩ := xb hf
      refine xr_iast hx hb hKK hP hS eh10 dX6_goesBack_85 (fun H locs hP _ hS => ?_)
      refine lv_aload_n hx hb dX6_goesBack_86 rfl (lv_at hl 1 rfl) ?_
      obtain ⟨v16, ev16, hf⟩ := xb hf
      refine xr_getR hx hb hts inX6 hown hKK hP ev16 rfl (by decide) w1 (fun _ h9 => h9) dX6_goesBack_87 ?_
      refine lv_iload_n hx hb dX6_goesBack_90 rfl (lv_at hl 0 rfl) ?_
      refine lv_iconst (v := (3 : Int32)) hx hb dX6_goesBack_91 (by decide) ?_
      obtain ⟨v17, ev17, hf⟩ := xb1 hf
      refine xc_Si (rest := [.ref v16]) ⟨hx, hb, hml, hown, hts⟩ (m_X6_userAt l B0 G h10 v11 (3 : Int32) v17 ev17) (va_cwS 2 hts gX6_goesBack_X6_userAt rfl rfl rfl (by decide +kernel) ⟨Nat.le_of_ble_eq_true rfl, Nat.le_of_ble_eq_true rfl⟩) hKK hP hS rfl hl.1 rfl (Nat.le_of_ble_eq_true rfl) dX6_goesBack_92 ⟨Nat.zero_le _, Nat.zero_le _⟩ (fun H locs hP hS => ?_)
      refine lv_iconst (v := (0 : Int32)) hx hb dX6_goesBack_95 (by decide) ?_
      obtain ⟨h11, eh11, hf⟩ := xb hf
      refine xr_iast hx hb hKK hP hS eh11 dX6_goesBack_96 (fun H locs hP _ hS => ?_)
      obtain ⟨v18, ev18, hf⟩ := xl hf
      refine lv_iinc (v := v18) (lv' := [(1, .int v18), (0, .ref a0)]) hx hb dX6_goesBack_97 hl (k := 0) rfl (by rw [ev18]; rfl) (by decide) rfl (fun ls hl => ?_)
      refine lv_goto (tgt := 64) hx hb dX6_goesBack_100 (by decide) ?_
      exact IH _ (Option.some.inj hf).symm _ _ _ hP hS (lv_sub hl [0, 1] rfl)
  clear hf
  refine xloop_ind (P := fun z => ∀ (H : Heap) (locs : List Loc) (ls : Array Slot), xP B0 G z.2 H → va_S (xA B0) s.heap H locs → lv_has ls 2 [(1, .int z.1), (0, .ref a0)] → W p l e rmX6_goesBack s m args below meth c H locs 0 0 Q (F0 m 34 ls [])) ?_ eL _ _ _ hP hS (lv_sub hl [0, 1] rfl)
  rintro ⟨v5, h5⟩ o hf IH EX H locs ls hP hS hl
  have hf := xf2_e hf
  have hP : xP B0 G h5 H := hP
  have hl : lv_has ls 2 [(1, .int v5), (0, .ref a0)] := hl
  refine lv_iload_n hx hb dX6_goesBack_34 rfl (lv_at hl 0 rfl) ?_
  refine lv_aload_n hx hb dX6_goesBack_35 rfl (lv_at hl 1 rfl) ?_
  obtain ⟨v6, ev6, hf⟩ := xb hf
  refine xr_getR hx hb hts inX6 hown hKK hP ev6 rfl (by decide) w1 (fun _ h9 => h9) dX6_goesBack_36 ?_
  refine lv_bipush (v := (6 : Int32)) hx hb dX6_goesBack_39 (by decide) ?_
  obtain ⟨v7, ev7, hf⟩ := xb hf
  refine xr_iald hx hb hKK hP ev7 dX6_goesBack_41 ?_
  refine lv_icmp_ge (tgt := 62) hx hb dX6_goesBack_42 (by decide) (fun c1 => ?_) (fun c1 => ?_)
  · have hf := xif_t hf c1
    have hf := EX _ (Option.some.inj hf).symm
    obtain rfl := hf
    exact J1 _ _ _ hP hS (lv_sub hl [1] rfl)
  · have hf := xif_f hf c1
    refine lv_aload_n hx hb dX6_goesBack_45 rfl (lv_at hl 1 rfl) ?_
    obtain ⟨v8, ev8, hf⟩ := xb hf
    refine xr_getR hx hb hts inX6 hown hKK hP ev8 rfl (by decide) w1 (fun _ h9 => h9) dX6_goesBack_46 ?_
    refine lv_iload_n hx hb dX6_goesBack_49 rfl (lv_at hl 0 rfl) ?_
    refine lv_iconst (v := (4 : Int32)) hx hb dX6_goesBack_50 (by decide) ?_
    obtain ⟨v9, ev9, hf⟩ := xb1 hf
    refine xc_Si (rest := [.ref v8]) ⟨hx, hb, hml, hown, hts⟩ (m_X6_roofAt l B0 G h5 v5 (4 : Int32) v9 ev9) (va_cwS 2 hts gX6_goesBack_X6_roofAt rfl rfl rfl (by decide +kernel) ⟨Nat.le_of_ble_eq_true rfl, Nat.le_of_ble_eq_true rfl⟩) hKK hP hS rfl hl.1 rfl (Nat.le_of_ble_eq_true rfl) dX6_goesBack_51 ⟨Nat.zero_le _, Nat.zero_le _⟩ (fun H locs hP hS => ?_)
    refine lv_iconst (v := (0 : Int32)) hx hb dX6_goesBack_54 (by decide) ?_
    obtain ⟨h7, eh7, hf⟩ := xb hf
    refine xr_iast hx hb hKK hP hS eh7 dX6_goesBack_55 (fun H locs hP _ hS => ?_)
    obtain ⟨v10, ev10, hf⟩ := xl hf
    refine lv_iinc (v := v10) (lv' := [(1, .int v10), (0, .ref a0)]) hx hb dX6_goesBack_56 hl (k := 0) rfl (by rw [ev10]; rfl) (by decide) rfl (fun ls hl => ?_)
    refine lv_goto (tgt := 34) hx hb dX6_goesBack_59 (by decide) ?_
    exact IH _ (Option.some.inj hf).symm _ _ _ hP hS (lv_sub hl [0, 1] rfl)
/-- RainReservoirModel.restart -/
def f_X6_restart (fu : Nat) (h : XH) (a0 : Nat) : Option (Int32 × XH) :=
  (xpV h a0 6 4 (.int (0 : Int32))).bind fun h1 =>
  (xis h1 a0 6).bind fun v1 =>
  obind1 (f_X6_save fu h1 a0) fun h2 =>
  (xgR h2 a0 6 0).bind fun v2 =>
  (xald h2 v2 0 (9 : Int32)).bind fun v3 =>
  (xis h2 a0 6).bind fun v4 =>
  obind1 (f_X6_goesBack fu h2 a0) fun h3 =>
  some ((v3, h3))
abbrev rmX6_restart : Room := { frames := 2, cells := 0, slots := 0, locals := 42 }
set_option maxHeartbeats 4000000 in
set_option maxRecDepth 100000 in
theorem m_X6_restart (l : Launch) (B0 : Nat) (G : XG) (fu : Nat) (h hE : XH) (a0 : Nat) (rE : Int32) (hf : f_X6_restart fu h a0 = some (rE, hE)) : Met l yX6_restart wsX6_restart rmX6_restart (va_Pc [.ref a0] (xU B0 G h)) (xQi B0 G hE rE) 0 0 (xA B0) := by
  refine xMet (cc := cX6_restart) (maxL := 2) (by decide) rfl (Nat.le_of_ble_eq_true rfl) ?_
  intro p e s m args below meth c ls hx hb hr hml hown hlocks hnm hts hKK hP hl
  have hown : s.vm.findClass RX6 = some m.cls := hown
  have hl : lv_has ls 2 [(0, .ref a0)] := hl
  have hS : va_S (xA B0) s.heap s.heap [] := va_S.rf
  have inX6 : ∀ w ∈ wsX60, w ∈ wsX6_restart := by decide +kernel
  have w1 := hts (.fieldLink RX6 26 "RainReservoirModel" "thrown" "I") (by decide +kernel)
  have w2 := hts (.fieldLink RX6 7 "RainReservoirModel" "all" "[I") (by decide +kernel)
  generalize hQ : MQ below (xQi B0 G hE rE) args s 0 0 (xA B0) = Q
  unfold f_X6_restart at hf
  refine lv_aload_n hx hb dX6_restart_0 rfl (lv_at hl 0 rfl) ?_
  refine lv_iconst (v := (0 : Int32)) hx hb dX6_restart_1 (by decide) ?_
  obtain ⟨h1, eh1, hf⟩ := xb hf
  refine xr_put hx hb hts inX6 tyX6 tyX6_ok nmX6 hown hKK hP hS eh1 rfl (by decide) w1 (fun _ h9 => h9) rfl (tyX6_ok 4 (by decide)) rfl rfl dX6_restart_2 (fun H locs hP _ hS => ?_)
  refine lv_aload_n hx hb dX6_restart_5 rfl (lv_at hl 0 rfl) ?_
  obtain ⟨v1, ev1, hf⟩ := xb hf
  obtain ⟨h2, eh2, hf⟩ := xb1 hf
  refine xc_Vv (rest := []) ⟨hx, hb, hml, hown, hts⟩ (m_X6_save l B0 G fu h1 h2 a0 eh2) (cwV 0 hts gX6_restart_X6_save rfl rfl rfl (by decide +kernel) ⟨Nat.le_of_ble_eq_true rfl, Nat.le_of_ble_eq_true rfl⟩) hKK hP hS ev1 rfl rfl hl.1 rfl (Nat.le_of_ble_eq_true rfl) dX6_restart_6 ⟨Nat.zero_le _, Nat.zero_le _⟩ (fun H locs hP hS => ?_)
  refine lv_aload_n hx hb dX6_restart_9 rfl (lv_at hl 0 rfl) ?_
  obtain ⟨v2, ev2, hf⟩ := xb hf
  refine xr_getR hx hb hts inX6 hown hKK hP ev2 rfl (by decide) w2 (fun _ h9 => h9) dX6_restart_10 ?_
  refine lv_bipush (v := (9 : Int32)) hx hb dX6_restart_13 (by decide) ?_
  obtain ⟨v3, ev3, hf⟩ := xb hf
  refine xr_iald hx hb hKK hP ev3 dX6_restart_15 ?_
  refine lv_istore_n (lv' := [(1, .int v3), (0, .ref a0)]) hx hb dX6_restart_16 rfl hl (by decide) rfl (fun ls hl => ?_)
  refine lv_aload_n hx hb dX6_restart_17 rfl (lv_at hl 1 rfl) ?_
  obtain ⟨v4, ev4, hf⟩ := xb hf
  obtain ⟨h3, eh3, hf⟩ := xb1 hf
  refine xc_Vv (rest := []) ⟨hx, hb, hml, hown, hts⟩ (m_X6_goesBack l B0 G fu h2 h3 a0 eh3) (cwV 0 hts gX6_restart_X6_goesBack rfl rfl rfl (by decide +kernel) ⟨Nat.le_of_ble_eq_true rfl, Nat.le_of_ble_eq_true rfl⟩) hKK hP hS ev4 rfl rfl hl.1 rfl (Nat.le_of_ble_eq_true rfl) dX6_restart_18 ⟨Nat.zero_le _, Nat.zero_le _⟩ (fun H locs hP hS => ?_)
  refine lv_iload_n hx hb dX6_restart_21 rfl (lv_at hl 0 rfl) ?_
  obtain ⟨rfl, rfl⟩ := xinj2 hf
  subst hQ
  exact xe_i hx hb hr hlocks hKK hP hS dX6_restart_22
/-- RainReservoirModel.day -/
def f_X6_day (h : XH) (a0 : Nat) (p0 : Int32) (p1 : Int32) : Option (Int32 × XH) :=
  (xgR h a0 6 0).bind fun v1 =>
  (xald h v1 0 (9 : Int32)).bind fun v2 =>
  obind1 (f_X6_in (Int32.toInt64 p0) (0 : Int64) ((Int32.toInt64 v2) - (1 : Int64))) fun v3 =>
  obind1 (f_X6_in (Int32.toInt64 p1) (0 : Int64) (9 : Int64)) fun v4 =>
  (xis h a0 6).bind fun v5 =>
  obind2 (f_X6_goes h a0 v3 v4) fun v6 h1 =>
  obind1 (
    if v6 = (0 : Int32) then
      some (0 : Int32)
    else
      (xgR h1 a0 6 0).bind fun v8 =>
      (xald h1 v8 0 (((163 : Int32) + ((10 : Int32) * p0)) + p1)).bind fun v9 =>
      some v9
  ) fun v7 =>
  some ((v7, h1))
abbrev rmX6_day : Room := { frames := 1, cells := 0, slots := 0, locals := 25 }
set_option maxHeartbeats 4000000 in
set_option maxRecDepth 100000 in
theorem m_X6_day (l : Launch) (B0 : Nat) (G : XG) (h hE : XH) (a0 : Nat) (p0 : Int32) (p1 : Int32) (rE : Int32) (hf : f_X6_day h a0 p0 p1 = some (rE, hE)) : Met l yX6_day wsX6_day rmX6_day (va_Pc [.ref a0, .int p0, .int p1] (xU B0 G h)) (xQi B0 G hE rE) 0 0 (xA B0) := by
  refine xMet (cc := cX6_day) (maxL := 3) (by decide) rfl (Nat.le_of_ble_eq_true rfl) ?_
  intro p e s m args below meth c ls hx hb hr hml hown hlocks hnm hts hKK hP hl
  have hown : s.vm.findClass RX6 = some m.cls := hown
  have hl : lv_has ls 3 [(0, .ref a0), (1, .int p0), (2, .int p1)] := hl
  have hS : va_S (xA B0) s.heap s.heap [] := va_S.rf
  have inX6 : ∀ w ∈ wsX60, w ∈ wsX6_day := by decide +kernel
  have w1 := hts (.fieldLink RX6 7 "RainReservoirModel" "all" "[I") (by decide +kernel)
  have w2 := hts (.constantLong RX6 61 (9)) (by decide +kernel)
  generalize hQ : MQ below (xQi B0 G hE rE) args s 0 0 (xA B0) = Q
  unfold f_X6_day at hf
  refine lv_aload_n hx hb dX6_day_0 rfl (lv_at hl 0 rfl) ?_
  refine lv_iload_n hx hb dX6_day_1 rfl (lv_at hl 1 rfl) ?_
  refine lv_i2l hx hb dX6_day_2 rfl ?_
  refine lv_lconst (v := (0 : Int64)) hx hb dX6_day_3 (by decide) ?_
  refine lv_aload_n hx hb dX6_day_4 rfl (lv_at hl 0 rfl) ?_
  obtain ⟨v1, ev1, hf⟩ := xb hf
  refine xr_getR hx hb hts inX6 hown hKK hP ev1 rfl (by decide) w1 (fun _ h9 => h9) dX6_day_5 ?_
  refine lv_bipush (v := (9 : Int32)) hx hb dX6_day_8 (by decide) ?_
  obtain ⟨v2, ev2, hf⟩ := xb hf
  refine xr_iald hx hb hKK hP ev2 dX6_day_10 ?_
  refine lv_i2l hx hb dX6_day_11 rfl ?_
  refine lv_lconst (v := (1 : Int64)) hx hb dX6_day_12 (by decide) ?_
  refine lv_lsub hx hb dX6_day_13 ?_
  obtain ⟨v3, ev3, hf⟩ := xb1 hf
  refine xc_Si (rest := [.ref a0]) ⟨hx, hb, hml, hown, hts⟩ (m_X6_in l B0 G h (Int32.toInt64 p0) (0 : Int64) ((Int32.toInt64 v2) - (1 : Int64)) v3 ev3) (va_cwS 3 hts gX6_day_X6_in rfl rfl rfl (by decide +kernel) ⟨Nat.le_of_ble_eq_true rfl, Nat.le_of_ble_eq_true rfl⟩) hKK hP hS rfl hl.1 rfl (Nat.le_of_ble_eq_true rfl) dX6_day_14 ⟨Nat.zero_le _, Nat.zero_le _⟩ (fun H locs hP hS => ?_)
  refine lv_iload_n hx hb dX6_day_17 rfl (lv_at hl 2 rfl) ?_
  refine lv_i2l hx hb dX6_day_18 rfl ?_
  refine lv_lconst (v := (0 : Int64)) hx hb dX6_day_19 (by decide) ?_
  refine lv_ldc2 (v := (9 : Int64)) hx hb hown w2 dX6_day_20 ?_
  obtain ⟨v4, ev4, hf⟩ := xb1 hf
  refine xc_Si (rest := [.int v3, .ref a0]) ⟨hx, hb, hml, hown, hts⟩ (m_X6_in l B0 G h (Int32.toInt64 p1) (0 : Int64) (9 : Int64) v4 ev4) (va_cwS 3 hts gX6_day_X6_in rfl rfl rfl (by decide +kernel) ⟨Nat.le_of_ble_eq_true rfl, Nat.le_of_ble_eq_true rfl⟩) hKK hP hS rfl hl.1 rfl (Nat.le_of_ble_eq_true rfl) dX6_day_23 ⟨Nat.zero_le _, Nat.zero_le _⟩ (fun H locs hP hS => ?_)
  obtain ⟨v5, ev5, hf⟩ := xb hf
  obtain ⟨v6, h1, ev6, hf⟩ := xb2 hf
  refine xc_Vi (rest := []) ⟨hx, hb, hml, hown, hts⟩ (m_X6_goes l B0 G h h1 a0 v3 v4 v6 ev6) (cwV 2 hts gX6_day_X6_goes rfl rfl rfl (by decide +kernel) ⟨Nat.le_of_ble_eq_true rfl, Nat.le_of_ble_eq_true rfl⟩) hKK hP hS ev5 rfl rfl hl.1 rfl (Nat.le_of_ble_eq_true rfl) dX6_day_26 ⟨Nat.zero_le _, Nat.zero_le _⟩ (fun H locs hP hS => ?_)
  obtain ⟨v7, ej1, hf⟩ := xb1 hf
  have J1 : ∀ (H : Heap) (locs : List Loc) (ls : Array Slot), xP B0 G h1 H → va_S (xA B0) s.heap H locs → lv_has ls 3 [] → W p l e rmX6_day s m args below meth c H locs 0 0 Q (F0 m 51 ls [.int v7]) := by
    intro H locs ls hP hS hl
    clear ej1
    obtain ⟨rfl, rfl⟩ := xinj2 hf
    subst hQ
    exact xe_i hx hb hr hlocks hKK hP hS dX6_day_51
  have hf := ej1
  clear ej1
  refine lv_if_eq (tgt := 50) hx hb dX6_day_29 (by decide) (fun c1 => ?_) (fun c1 => ?_)
  · have hf := xif_t hf c1
    refine lv_iconst (v := (0 : Int32)) hx hb dX6_day_50 (by decide) ?_
    obtain rfl := Option.some.inj hf
    exact J1 _ _ _ hP hS (lv_sub hl [] rfl)
  · have hf := xif_f hf c1
    refine lv_aload_n hx hb dX6_day_32 rfl (lv_at hl 0 rfl) ?_
    obtain ⟨v8, ev8, hf⟩ := xb hf
    refine xr_getR hx hb hts inX6 hown hKK hP ev8 rfl (by decide) w1 (fun _ h9 => h9) dX6_day_33 ?_
    refine lv_sipush (v := (163 : Int32)) hx hb dX6_day_36 (by decide) ?_
    refine lv_bipush (v := (10 : Int32)) hx hb dX6_day_39 (by decide) ?_
    refine lv_iload_n hx hb dX6_day_41 rfl (lv_at hl 1 rfl) ?_
    refine lv_imul hx hb dX6_day_42 ?_
    refine lv_iadd hx hb dX6_day_43 ?_
    refine lv_iload_n hx hb dX6_day_44 rfl (lv_at hl 2 rfl) ?_
    refine lv_iadd hx hb dX6_day_45 ?_
    obtain ⟨v9, ev9, hf⟩ := xb hf
    refine xr_iald hx hb hKK hP ev9 dX6_day_46 ?_
    refine lv_goto (tgt := 51) hx hb dX6_day_47 (by decide) ?_
    obtain rfl := Option.some.inj hf
    exact J1 _ _ _ hP hS (lv_sub hl [] rfl)
/-- RainReservoirModel.sumOf -/
def f_X6_sumOf (fu : Nat) (h : XH) (a0 : Nat) (p0 : Int32) : Option (Int64) :=
  obind1 (
    if p0 = (4 : Int32) then
      (xgR h a0 6 0).bind fun v2 =>
      (xald h v2 0 (12 : Int32)).bind fun v3 =>
      some (Int32.toInt64 v3)
    else
      some (0 : Int64)
  ) fun v1 =>
  obind1 (xloop (xf2 fun (v4 : Int64) (v5 : Int32) =>
    (xgR h a0 6 0).bind fun v7 =>
    (xald h v7 0 (9 : Int32)).bind fun v8 =>
    if v8 ≤ v5 then
      some (.inr v4)
    else
      (xgR h a0 6 0).bind fun v9 =>
      (xald h v9 0 (((163 : Int32) + ((10 : Int32) * v5)) + p0)).bind fun v10 =>
      olet ((v4 + (Int32.toInt64 v10))) fun v11 =>
      olet (v5 + (1 : Int32)) fun v12 =>
      some (.inl (v11, v12))
  ) fu (v1, (0 : Int32))) fun v6 =>
  some (v6)
abbrev rmX6_sumOf : Room := { frames := 0, cells := 0, slots := 0, locals := 0 }
set_option maxHeartbeats 4000000 in
set_option maxRecDepth 100000 in
theorem m_X6_sumOf (l : Launch) (B0 : Nat) (G : XG) (fu : Nat) (h : XH) (a0 : Nat) (p0 : Int32) (rE : Int64) (hf : f_X6_sumOf fu h a0 p0 = some rE) : Met l yX6_sumOf wsX6_sumOf rmX6_sumOf (va_Pc [.ref a0, .int p0] (xU B0 G h)) (xQl B0 G h rE) 0 0 (xA B0) := by
  refine xMet (cc := cX6_sumOf) (maxL := 5) (by decide) rfl (Nat.le_of_ble_eq_true rfl) ?_
  intro p e s m args below meth c ls hx hb hr hml hown hlocks hnm hts hKK hP hl
  have hown : s.vm.findClass RX6 = some m.cls := hown
  have hl : lv_has ls 5 [(0, .ref a0), (1, .int p0)] := hl
  have hS : va_S (xA B0) s.heap s.heap [] := va_S.rf
  have inX6 : ∀ w ∈ wsX60, w ∈ wsX6_sumOf := by decide +kernel
  have w1 := hts (.fieldLink RX6 7 "RainReservoirModel" "all" "[I") (by decide +kernel)
  generalize hQ : MQ below (xQl B0 G h rE) args s 0 0 (xA B0) = Q
  unfold f_X6_sumOf at hf
  refine lv_iload_n hx hb dX6_sumOf_0 rfl (lv_at hl 1 rfl) ?_
  refine lv_iconst (v := (4 : Int32)) hx hb dX6_sumOf_1 (by decide) ?_
  obtain ⟨v1, ej1, hf⟩ := xb1 hf
  have J1 : ∀ (H : Heap) (locs : List Loc) (ls : Array Slot), xP B0 G h H → va_S (xA B0) s.heap H locs → lv_has ls 5 [(0, .ref a0), (1, .int p0)] → W p l e rmX6_sumOf s m args below meth c H locs 0 0 Q (F0 m 17 ls [.long v1]) := by
    intro H locs ls hP hS hl
    clear ej1
    refine lv_lstore_n (lv' := [(2, .long v1), (0, .ref a0), (1, .int p0)]) hx hb dX6_sumOf_17 rfl hl (by decide) rfl (fun ls hl => ?_)
    refine lv_iconst (v := (0 : Int32)) hx hb dX6_sumOf_18 (by decide) ?_
    refine lv_istore (lv' := [(4, .int (0 : Int32)), (2, .long v1), (0, .ref a0), (1, .int p0)]) hx hb dX6_sumOf_19 hl (by decide) rfl (fun ls hl => ?_)
    obtain ⟨v6, eL, hf⟩ := xb1 hf
    have J2 : ∀ (H : Heap) (locs : List Loc) (ls : Array Slot), xP B0 G h H → va_S (xA B0) s.heap H locs → lv_has ls 5 [(2, .long v6)] → W p l e rmX6_sumOf s m args below meth c H locs 0 0 Q (F0 m 59 ls []) := by
      intro H locs ls hP hS hl
      clear eL
      refine lv_lload_n hx hb dX6_sumOf_59 rfl (lv_at hl 0 rfl) ?_
      obtain rfl := Option.some.inj hf
      subst hQ
      exact xe_l hx hb hr hlocks hKK hP hS dX6_sumOf_60
    clear hf
    refine xloop_ind (P := fun z => ∀ (H : Heap) (locs : List Loc) (ls : Array Slot), xP B0 G h H → va_S (xA B0) s.heap H locs → lv_has ls 5 [(2, .long z.1), (4, .int z.2), (0, .ref a0), (1, .int p0)] → W p l e rmX6_sumOf s m args below meth c H locs 0 0 Q (F0 m 21 ls [])) ?_ eL _ _ _ hP hS (lv_sub hl [1, 0, 2, 3] rfl)
    rintro ⟨v4, v5⟩ o hf IH EX H locs ls hP hS hl
    have hf := xf2_e hf
    have hl : lv_has ls 5 [(2, .long v4), (4, .int v5), (0, .ref a0), (1, .int p0)] := hl
    refine lv_iload hx hb dX6_sumOf_21 (lv_at hl 1 rfl) ?_
    refine lv_aload_n hx hb dX6_sumOf_23 rfl (lv_at hl 2 rfl) ?_
    obtain ⟨v7, ev7, hf⟩ := xb hf
    refine xr_getR hx hb hts inX6 hown hKK hP ev7 rfl (by decide) w1 (fun _ h9 => h9) dX6_sumOf_24 ?_
    refine lv_bipush (v := (9 : Int32)) hx hb dX6_sumOf_27 (by decide) ?_
    obtain ⟨v8, ev8, hf⟩ := xb hf
    refine xr_iald hx hb hKK hP ev8 dX6_sumOf_29 ?_
    refine lv_icmp_ge (tgt := 59) hx hb dX6_sumOf_30 (by decide) (fun c2 => ?_) (fun c2 => ?_)
    · have hf := xif_t hf c2
      have hf := EX _ (Option.some.inj hf).symm
      obtain rfl := hf
      exact J2 _ _ _ hP hS (lv_sub hl [0] rfl)
    · have hf := xif_f hf c2
      refine lv_lload_n hx hb dX6_sumOf_33 rfl (lv_at hl 0 rfl) ?_
      refine lv_aload_n hx hb dX6_sumOf_34 rfl (lv_at hl 2 rfl) ?_
      obtain ⟨v9, ev9, hf⟩ := xb hf
      refine xr_getR hx hb hts inX6 hown hKK hP ev9 rfl (by decide) w1 (fun _ h9 => h9) dX6_sumOf_35 ?_
      refine lv_sipush (v := (163 : Int32)) hx hb dX6_sumOf_38 (by decide) ?_
      refine lv_bipush (v := (10 : Int32)) hx hb dX6_sumOf_41 (by decide) ?_
      refine lv_iload hx hb dX6_sumOf_43 (lv_at hl 1 rfl) ?_
      refine lv_imul hx hb dX6_sumOf_45 ?_
      refine lv_iadd hx hb dX6_sumOf_46 ?_
      refine lv_iload_n hx hb dX6_sumOf_47 rfl (lv_at hl 3 rfl) ?_
      refine lv_iadd hx hb dX6_sumOf_48 ?_
      obtain ⟨v10, ev10, hf⟩ := xb hf
      refine xr_iald hx hb hKK hP ev10 dX6_sumOf_49 ?_
      refine lv_i2l hx hb dX6_sumOf_50 rfl ?_
      refine lv_ladd hx hb dX6_sumOf_51 ?_
      obtain ⟨v11, ev11, hf⟩ := xl hf
      refine xtopl ev11 ?_
      refine lv_lstore_n (lv' := [(2, .long v11), (4, .int v5), (0, .ref a0), (1, .int p0)]) hx hb dX6_sumOf_52 rfl hl (by decide) rfl (fun ls hl => ?_)
      obtain ⟨v12, ev12, hf⟩ := xl hf
      refine lv_iinc (v := v12) (lv' := [(4, .int v12), (2, .long v11), (0, .ref a0), (1, .int p0)]) hx hb dX6_sumOf_53 hl (k := 1) rfl (by rw [ev12]; rfl) (by decide) rfl (fun ls hl => ?_)
      refine lv_goto (tgt := 21) hx hb dX6_sumOf_56 (by decide) ?_
      exact IH _ (Option.some.inj hf).symm _ _ _ hP hS (lv_sub hl [1, 0, 2, 3] rfl)
  have hf := ej1
  clear ej1
  refine lv_icmp_ne (tgt := 16) hx hb dX6_sumOf_2 (by decide) (fun c1 => ?_) (fun c1 => ?_)
  · have hf := xif_f hf c1
    refine lv_lconst (v := (0 : Int64)) hx hb dX6_sumOf_16 (by decide) ?_
    obtain rfl := Option.some.inj hf
    exact J1 _ _ _ hP hS (lv_sub hl [0, 1] rfl)
  · have hf := xif_t hf c1
    refine lv_aload_n hx hb dX6_sumOf_5 rfl (lv_at hl 0 rfl) ?_
    obtain ⟨v2, ev2, hf⟩ := xb hf
    refine xr_getR hx hb hts inX6 hown hKK hP ev2 rfl (by decide) w1 (fun _ h9 => h9) dX6_sumOf_6 ?_
    refine lv_bipush (v := (12 : Int32)) hx hb dX6_sumOf_9 (by decide) ?_
    obtain ⟨v3, ev3, hf⟩ := xb hf
    refine xr_iald hx hb hKK hP ev3 dX6_sumOf_11 ?_
    refine lv_i2l hx hb dX6_sumOf_12 rfl ?_
    refine lv_goto (tgt := 17) hx hb dX6_sumOf_13 (by decide) ?_
    obtain rfl := Option.some.inj hf
    exact J1 _ _ _ hP hS (lv_sub hl [0, 1] rfl)
/-- RainReservoirModel.sum -/
def f_X6_sum (fu : Nat) (h : XH) (a0 : Nat) (p0 : Int32) : Option (Int64 × XH) :=
  obind1 (f_X6_in (Int32.toInt64 p0) (1 : Int64) (9 : Int64)) fun v1 =>
  (xis h a0 6).bind fun v2 =>
  obind2 (f_X6_goes h a0 v1 (1 : Int32)) fun v3 h1 =>
  obind1 (
    if v3 = (0 : Int32) then
      some (0 : Int64)
    else
      (xis h1 a0 6).bind fun v5 =>
      obind1 (f_X6_sumOf fu h1 a0 p0) fun v6 =>
      some v6
  ) fun v4 =>
  some ((v4, h1))
abbrev rmX6_sum : Room := { frames := 1, cells := 0, slots := 0, locals := 25 }
set_option maxHeartbeats 4000000 in
set_option maxRecDepth 100000 in
theorem m_X6_sum (l : Launch) (B0 : Nat) (G : XG) (fu : Nat) (h hE : XH) (a0 : Nat) (p0 : Int32) (rE : Int64) (hf : f_X6_sum fu h a0 p0 = some (rE, hE)) : Met l yX6_sum wsX6_sum rmX6_sum (va_Pc [.ref a0, .int p0] (xU B0 G h)) (xQl B0 G hE rE) 0 0 (xA B0) := by
  refine xMet (cc := cX6_sum) (maxL := 2) (by decide) rfl (Nat.le_of_ble_eq_true rfl) ?_
  intro p e s m args below meth c ls hx hb hr hml hown hlocks hnm hts hKK hP hl
  have hown : s.vm.findClass RX6 = some m.cls := hown
  have hl : lv_has ls 2 [(0, .ref a0), (1, .int p0)] := hl
  have hS : va_S (xA B0) s.heap s.heap [] := va_S.rf
  have w1 := hts (.constantLong RX6 61 (9)) (by decide +kernel)
  generalize hQ : MQ below (xQl B0 G hE rE) args s 0 0 (xA B0) = Q
  unfold f_X6_sum at hf
  refine lv_aload_n hx hb dX6_sum_0 rfl (lv_at hl 0 rfl) ?_
  refine lv_iload_n hx hb dX6_sum_1 rfl (lv_at hl 1 rfl) ?_
  refine lv_i2l hx hb dX6_sum_2 rfl ?_
  refine lv_lconst (v := (1 : Int64)) hx hb dX6_sum_3 (by decide) ?_
  refine lv_ldc2 (v := (9 : Int64)) hx hb hown w1 dX6_sum_4 ?_
  obtain ⟨v1, ev1, hf⟩ := xb1 hf
  refine xc_Si (rest := [.ref a0]) ⟨hx, hb, hml, hown, hts⟩ (m_X6_in l B0 G h (Int32.toInt64 p0) (1 : Int64) (9 : Int64) v1 ev1) (va_cwS 3 hts gX6_sum_X6_in rfl rfl rfl (by decide +kernel) ⟨Nat.le_of_ble_eq_true rfl, Nat.le_of_ble_eq_true rfl⟩) hKK hP hS rfl hl.1 rfl (Nat.le_of_ble_eq_true rfl) dX6_sum_7 ⟨Nat.zero_le _, Nat.zero_le _⟩ (fun H locs hP hS => ?_)
  refine lv_iconst (v := (1 : Int32)) hx hb dX6_sum_10 (by decide) ?_
  obtain ⟨v2, ev2, hf⟩ := xb hf
  obtain ⟨v3, h1, ev3, hf⟩ := xb2 hf
  refine xc_Vi (rest := []) ⟨hx, hb, hml, hown, hts⟩ (m_X6_goes l B0 G h h1 a0 v1 (1 : Int32) v3 ev3) (cwV 2 hts gX6_sum_X6_goes rfl rfl rfl (by decide +kernel) ⟨Nat.le_of_ble_eq_true rfl, Nat.le_of_ble_eq_true rfl⟩) hKK hP hS ev2 rfl rfl hl.1 rfl (Nat.le_of_ble_eq_true rfl) dX6_sum_11 ⟨Nat.zero_le _, Nat.zero_le _⟩ (fun H locs hP hS => ?_)
  obtain ⟨v4, ej1, hf⟩ := xb1 hf
  have J1 : ∀ (H : Heap) (locs : List Loc) (ls : Array Slot), xP B0 G h1 H → va_S (xA B0) s.heap H locs → lv_has ls 2 [] → W p l e rmX6_sum s m args below meth c H locs 0 0 Q (F0 m 26 ls [.long v4]) := by
    intro H locs ls hP hS hl
    clear ej1
    obtain ⟨rfl, rfl⟩ := xinj2 hf
    subst hQ
    exact xe_l hx hb hr hlocks hKK hP hS dX6_sum_26
  have hf := ej1
  clear ej1
  refine lv_if_eq (tgt := 25) hx hb dX6_sum_14 (by decide) (fun c1 => ?_) (fun c1 => ?_)
  · have hf := xif_t hf c1
    refine lv_lconst (v := (0 : Int64)) hx hb dX6_sum_25 (by decide) ?_
    obtain rfl := Option.some.inj hf
    exact J1 _ _ _ hP hS (lv_sub hl [] rfl)
  · have hf := xif_f hf c1
    refine lv_aload_n hx hb dX6_sum_17 rfl (lv_at hl 0 rfl) ?_
    refine lv_iload_n hx hb dX6_sum_18 rfl (lv_at hl 1 rfl) ?_
    obtain ⟨v5, ev5, hf⟩ := xb hf
    obtain ⟨v6, ev6, hf⟩ := xb1 hf
    refine xc_Vl (rest := []) ⟨hx, hb, hml, hown, hts⟩ (m_X6_sumOf l B0 G fu h1 a0 p0 v6 ev6) (cwV 1 hts gX6_sum_X6_sumOf rfl rfl rfl (by decide +kernel) ⟨Nat.le_of_ble_eq_true rfl, Nat.le_of_ble_eq_true rfl⟩) hKK hP hS ev5 rfl rfl hl.1 rfl (Nat.le_of_ble_eq_true rfl) dX6_sum_19 ⟨Nat.zero_le _, Nat.zero_le _⟩ (fun H locs hP hS => ?_)
    refine lv_goto (tgt := 26) hx hb dX6_sum_22 (by decide) ?_
    obtain rfl := Option.some.inj hf
    exact J1 _ _ _ hP hS (lv_sub hl [] rfl)
/-- RainReservoirModel.wasShort -/
def f_X6_wasShort (h : XH) (a0 : Nat) (p0 : Int32) : Option (Int32) :=
  (xgR h a0 6 0).bind fun v1 =>
  (xald h v1 0 (((163 : Int32) + ((10 : Int32) * p0)) + (7 : Int32))).bind fun v2 =>
  obind1 (
    if v2 ≤ (0 : Int32) then
      some (0 : Int32)
    else
      some (1 : Int32)
  ) fun v3 =>
  (xbool v3).bind fun v4 =>
  some (v4)
abbrev rmX6_wasShort : Room := { frames := 0, cells := 0, slots := 0, locals := 0 }
set_option maxHeartbeats 4000000 in
set_option maxRecDepth 100000 in
theorem m_X6_wasShort (l : Launch) (B0 : Nat) (G : XG) (h : XH) (a0 : Nat) (p0 : Int32) (rE : Int32) (hf : f_X6_wasShort h a0 p0 = some rE) : Met l yX6_wasShort wsX6_wasShort rmX6_wasShort (va_Pc [.ref a0, .int p0] (xU B0 G h)) (xQi B0 G h rE) 0 0 (xA B0) := by
  refine xMet (cc := cX6_wasShort) (maxL := 2) (by decide) rfl (Nat.le_of_ble_eq_true rfl) ?_
  intro p e s m args below meth c ls hx hb hr hml hown hlocks hnm hts hKK hP hl
  have hown : s.vm.findClass RX6 = some m.cls := hown
  have hl : lv_has ls 2 [(0, .ref a0), (1, .int p0)] := hl
  have hS : va_S (xA B0) s.heap s.heap [] := va_S.rf
  have inX6 : ∀ w ∈ wsX60, w ∈ wsX6_wasShort := by decide +kernel
  have w1 := hts (.fieldLink RX6 7 "RainReservoirModel" "all" "[I") (by decide +kernel)
  generalize hQ : MQ below (xQi B0 G h rE) args s 0 0 (xA B0) = Q
  unfold f_X6_wasShort at hf
  refine lv_aload_n hx hb dX6_wasShort_0 rfl (lv_at hl 0 rfl) ?_
  obtain ⟨v1, ev1, hf⟩ := xb hf
  refine xr_getR hx hb hts inX6 hown hKK hP ev1 rfl (by decide) w1 (fun _ h9 => h9) dX6_wasShort_1 ?_
  refine lv_sipush (v := (163 : Int32)) hx hb dX6_wasShort_4 (by decide) ?_
  refine lv_bipush (v := (10 : Int32)) hx hb dX6_wasShort_7 (by decide) ?_
  refine lv_iload_n hx hb dX6_wasShort_9 rfl (lv_at hl 1 rfl) ?_
  refine lv_imul hx hb dX6_wasShort_10 ?_
  refine lv_iadd hx hb dX6_wasShort_11 ?_
  refine lv_bipush (v := (7 : Int32)) hx hb dX6_wasShort_12 (by decide) ?_
  refine lv_iadd hx hb dX6_wasShort_14 ?_
  obtain ⟨v2, ev2, hf⟩ := xb hf
  refine xr_iald hx hb hKK hP ev2 dX6_wasShort_15 ?_
  obtain ⟨v3, ej1, hf⟩ := xb1 hf
  have J1 : ∀ (H : Heap) (locs : List Loc) (ls : Array Slot), xP B0 G h H → va_S (xA B0) s.heap H locs → lv_has ls 2 [] → W p l e rmX6_wasShort s m args below meth c H locs 0 0 Q (F0 m 24 ls [.int v3]) := by
    intro H locs ls hP hS hl
    clear ej1
    obtain ⟨v4, ev4, hf⟩ := xb hf
    obtain rfl := Option.some.inj hf
    subst hQ
    exact xe_z hx hb hr hlocks hKK hP hS ev4 dX6_wasShort_24
  have hf := ej1
  clear ej1
  refine lv_if_le (tgt := 23) hx hb dX6_wasShort_16 (by decide) (fun c1 => ?_) (fun c1 => ?_)
  · have hf := xif_t hf c1
    refine lv_iconst (v := (0 : Int32)) hx hb dX6_wasShort_23 (by decide) ?_
    obtain rfl := Option.some.inj hf
    exact J1 _ _ _ hP hS (lv_sub hl [] rfl)
  · have hf := xif_f hf c1
    refine lv_iconst (v := (1 : Int32)) hx hb dX6_wasShort_19 (by decide) ?_
    refine lv_goto (tgt := 24) hx hb dX6_wasShort_20 (by decide) ?_
    obtain rfl := Option.some.inj hf
    exact J1 _ _ _ hP hS (lv_sub hl [] rfl)
/-- RainReservoirModel.reliability -/
def f_X6_reliability (fu : Nat) (h : XH) (a0 : Nat) : Option (UInt64 × XH) :=
  (xpV h a0 6 4 (.int (0 : Int32))).bind fun h1 =>
  obind1 (xloop (xf2 fun (v1 : Int32) (v2 : Int32) =>
    (xgR h1 a0 6 0).bind fun v4 =>
    (xald h1 v4 0 (9 : Int32)).bind fun v5 =>
    if v5 ≤ v2 then
      some (.inr v1)
    else
      (xis h1 a0 6).bind fun v6 =>
      obind1 (f_X6_wasShort h1 a0 v2) fun v7 =>
      obind1 (
        if v7 = (0 : Int32) then
          some (1 : Int32)
        else
          some (0 : Int32)
      ) fun v8 =>
      olet ((v1 + v8)) fun v9 =>
      olet (v2 + (1 : Int32)) fun v10 =>
      some (.inl (v9, v10))
  ) fu ((0 : Int32), (0 : Int32))) fun v3 =>
  (xgR h1 a0 6 0).bind fun v11 =>
  (xald h1 v11 0 (9 : Int32)).bind fun v12 =>
  obind1 (
    if v12 = (0 : Int32) then
      some xd1
    else
      (xgR h1 a0 6 0).bind fun v14 =>
      (xald h1 v14 0 (9 : Int32)).bind fun v15 =>
      (xdiv (FP.i2d v3) (FP.i2d v15)).bind fun v16 =>
      some v16
  ) fun v13 =>
  some ((v13, h1))
abbrev rmX6_reliability : Room := { frames := 1, cells := 0, slots := 0, locals := 21 }
set_option maxHeartbeats 4000000 in
set_option maxRecDepth 100000 in
theorem m_X6_reliability (l : Launch) (B0 : Nat) (G : XG) (fu : Nat) (h hE : XH) (a0 : Nat) (rE : UInt64) (hf : f_X6_reliability fu h a0 = some (rE, hE)) : Met l yX6_reliability wsX6_reliability rmX6_reliability (va_Pc [.ref a0] (xU B0 G h)) (xQd B0 G hE rE) 0 0 (xA B0) := by
  refine xMet (cc := cX6_reliability) (maxL := 3) (by decide) rfl (Nat.le_of_ble_eq_true rfl) ?_
  intro p e s m args below meth c ls hx hb hr hml hown hlocks hnm hts hKK hP hl
  have hown : s.vm.findClass RX6 = some m.cls := hown
  have hl : lv_has ls 3 [(0, .ref a0)] := hl
  have hS : va_S (xA B0) s.heap s.heap [] := va_S.rf
  have inX6 : ∀ w ∈ wsX60, w ∈ wsX6_reliability := by decide +kernel
  have w1 := hts (.fieldLink RX6 26 "RainReservoirModel" "thrown" "I") (by decide +kernel)
  have w2 := hts (.fieldLink RX6 7 "RainReservoirModel" "all" "[I") (by decide +kernel)
  generalize hQ : MQ below (xQd B0 G hE rE) args s 0 0 (xA B0) = Q
  unfold f_X6_reliability at hf
  refine lv_aload_n hx hb dX6_reliability_0 rfl (lv_at hl 0 rfl) ?_
  refine lv_iconst (v := (0 : Int32)) hx hb dX6_reliability_1 (by decide) ?_
  obtain ⟨h1, eh1, hf⟩ := xb hf
  refine xr_put hx hb hts inX6 tyX6 tyX6_ok nmX6 hown hKK hP hS eh1 rfl (by decide) w1 (fun _ h9 => h9) rfl (tyX6_ok 4 (by decide)) rfl rfl dX6_reliability_2 (fun H locs hP _ hS => ?_)
  refine lv_iconst (v := (0 : Int32)) hx hb dX6_reliability_5 (by decide) ?_
  refine lv_istore_n (lv' := [(1, .int (0 : Int32)), (0, .ref a0)]) hx hb dX6_reliability_6 rfl hl (by decide) rfl (fun ls hl => ?_)
  refine lv_iconst (v := (0 : Int32)) hx hb dX6_reliability_7 (by decide) ?_
  refine lv_istore_n (lv' := [(2, .int (0 : Int32)), (1, .int (0 : Int32)), (0, .ref a0)]) hx hb dX6_reliability_8 rfl hl (by decide) rfl (fun ls hl => ?_)
  obtain ⟨v3, eL, hf⟩ := xb1 hf
  have J1 : ∀ (H : Heap) (locs : List Loc) (ls : Array Slot), xP B0 G h1 H → va_S (xA B0) s.heap H locs → lv_has ls 3 [(1, .int v3), (0, .ref a0)] → W p l e rmX6_reliability s m args below meth c H locs 0 0 Q (F0 m 42 ls []) := by
    intro H locs ls hP hS hl
    clear eL
    refine lv_aload_n hx hb dX6_reliability_42 rfl (lv_at hl 1 rfl) ?_
    obtain ⟨v11, ev11, hf⟩ := xb hf
    refine xr_getR hx hb hts inX6 hown hKK hP ev11 rfl (by decide) w2 (fun _ h9 => h9) dX6_reliability_43 ?_
    refine lv_bipush (v := (9 : Int32)) hx hb dX6_reliability_46 (by decide) ?_
    obtain ⟨v12, ev12, hf⟩ := xb hf
    refine xr_iald hx hb hKK hP ev12 dX6_reliability_48 ?_
    obtain ⟨v13, ej3, hf⟩ := xb1 hf
    have J3 : ∀ (H : Heap) (locs : List Loc) (ls : Array Slot), xP B0 G h1 H → va_S (xA B0) s.heap H locs → lv_has ls 3 [] → W p l e rmX6_reliability s m args below meth c H locs 0 0 Q (F0 m 67 ls [.double v13]) := by
      intro H locs ls hP hS hl
      clear ej3
      obtain ⟨rfl, rfl⟩ := xinj2 hf
      subst hQ
      exact xe_d hx hb hr hlocks hKK hP hS dX6_reliability_67
    have hf := ej3
    clear ej3
    refine lv_if_ne (tgt := 56) hx hb dX6_reliability_49 (by decide) (fun c3 => ?_) (fun c3 => ?_)
    · have hf := xif_f hf c3
      refine lv_iload_n hx hb dX6_reliability_56 rfl (lv_at hl 0 rfl) ?_
      refine lv_i2d hx hb dX6_reliability_57 ?_
      refine lv_aload_n hx hb dX6_reliability_58 rfl (lv_at hl 1 rfl) ?_
      obtain ⟨v14, ev14, hf⟩ := xb hf
      refine xr_getR hx hb hts inX6 hown hKK hP ev14 rfl (by decide) w2 (fun _ h9 => h9) dX6_reliability_59 ?_
      refine lv_bipush (v := (9 : Int32)) hx hb dX6_reliability_62 (by decide) ?_
      obtain ⟨v15, ev15, hf⟩ := xb hf
      refine xr_iald hx hb hKK hP ev15 dX6_reliability_64 ?_
      refine lv_i2d hx hb dX6_reliability_65 ?_
      obtain ⟨v16, ev16, hf⟩ := xb hf
      refine xr_ddiv hx hb ev16 dX6_reliability_66 ?_
      obtain rfl := Option.some.inj hf
      exact J3 _ _ _ hP hS (lv_sub hl [] rfl)
    · have hf := xif_t hf c3
      refine lv_dconst1 hx hb dX6_reliability_52 ?_
      refine lv_goto (tgt := 67) hx hb dX6_reliability_53 (by decide) ?_
      obtain rfl := Option.some.inj hf
      exact J3 _ _ _ hP hS (lv_sub hl [] rfl)
  clear hf
  refine xloop_ind (P := fun z => ∀ (H : Heap) (locs : List Loc) (ls : Array Slot), xP B0 G h1 H → va_S (xA B0) s.heap H locs → lv_has ls 3 [(1, .int z.1), (2, .int z.2), (0, .ref a0)] → W p l e rmX6_reliability s m args below meth c H locs 0 0 Q (F0 m 9 ls [])) ?_ eL _ _ _ hP hS (lv_sub hl [1, 0, 2] rfl)
  rintro ⟨v1, v2⟩ o hf IH EX H locs ls hP hS hl
  have hf := xf2_e hf
  have hl : lv_has ls 3 [(1, .int v1), (2, .int v2), (0, .ref a0)] := hl
  refine lv_iload_n hx hb dX6_reliability_9 rfl (lv_at hl 1 rfl) ?_
  refine lv_aload_n hx hb dX6_reliability_10 rfl (lv_at hl 2 rfl) ?_
  obtain ⟨v4, ev4, hf⟩ := xb hf
  refine xr_getR hx hb hts inX6 hown hKK hP ev4 rfl (by decide) w2 (fun _ h9 => h9) dX6_reliability_11 ?_
  refine lv_bipush (v := (9 : Int32)) hx hb dX6_reliability_14 (by decide) ?_
  obtain ⟨v5, ev5, hf⟩ := xb hf
  refine xr_iald hx hb hKK hP ev5 dX6_reliability_16 ?_
  refine lv_icmp_ge (tgt := 42) hx hb dX6_reliability_17 (by decide) (fun c1 => ?_) (fun c1 => ?_)
  · have hf := xif_t hf c1
    have hf := EX _ (Option.some.inj hf).symm
    obtain rfl := hf
    exact J1 _ _ _ hP hS (lv_sub hl [0, 2] rfl)
  · have hf := xif_f hf c1
    refine lv_iload_n hx hb dX6_reliability_20 rfl (lv_at hl 0 rfl) ?_
    refine lv_aload_n hx hb dX6_reliability_21 rfl (lv_at hl 2 rfl) ?_
    refine lv_iload_n hx hb dX6_reliability_22 rfl (lv_at hl 1 rfl) ?_
    obtain ⟨v6, ev6, hf⟩ := xb hf
    obtain ⟨v7, ev7, hf⟩ := xb1 hf
    refine xc_Vi (rest := [.int v1]) ⟨hx, hb, hml, hown, hts⟩ (m_X6_wasShort l B0 G h1 a0 v2 v7 ev7) (cwV 1 hts gX6_reliability_X6_wasShort rfl rfl rfl (by decide +kernel) ⟨Nat.le_of_ble_eq_true rfl, Nat.le_of_ble_eq_true rfl⟩) hKK hP hS ev6 rfl rfl hl.1 rfl (Nat.le_of_ble_eq_true rfl) dX6_reliability_23 ⟨Nat.zero_le _, Nat.zero_le _⟩ (fun H locs hP hS => ?_)
    obtain ⟨v8, ej2, hf⟩ := xb1 hf
    have J2 : ∀ (H : Heap) (locs : List Loc) (ls : Array Slot), xP B0 G h1 H → va_S (xA B0) s.heap H locs → lv_has ls 3 [(2, .int v2), (0, .ref a0)] → W p l e rmX6_reliability s m args below meth c H locs 0 0 Q (F0 m 34 ls [.int v8, .int v1]) := by
      intro H locs ls hP hS hl
      clear ej2
      refine lv_iadd hx hb dX6_reliability_34 ?_
      obtain ⟨v9, ev9, hf⟩ := xl hf
      refine xtopi ev9 ?_
      refine lv_istore_n (lv' := [(1, .int v9), (2, .int v2), (0, .ref a0)]) hx hb dX6_reliability_35 rfl hl (by decide) rfl (fun ls hl => ?_)
      obtain ⟨v10, ev10, hf⟩ := xl hf
      refine lv_iinc (v := v10) (lv' := [(2, .int v10), (1, .int v9), (0, .ref a0)]) hx hb dX6_reliability_36 hl (k := 1) rfl (by rw [ev10]; rfl) (by decide) rfl (fun ls hl => ?_)
      refine lv_goto (tgt := 9) hx hb dX6_reliability_39 (by decide) ?_
      exact IH _ (Option.some.inj hf).symm _ _ _ hP hS (lv_sub hl [1, 0, 2] rfl)
    have hf := ej2
    clear ej2
    refine lv_if_eq (tgt := 33) hx hb dX6_reliability_26 (by decide) (fun c2 => ?_) (fun c2 => ?_)
    · have hf := xif_t hf c2
      refine lv_iconst (v := (1 : Int32)) hx hb dX6_reliability_33 (by decide) ?_
      obtain rfl := Option.some.inj hf
      exact J2 _ _ _ hP hS (lv_sub hl [1, 2] rfl)
    · have hf := xif_f hf c2
      refine lv_iconst (v := (0 : Int32)) hx hb dX6_reliability_29 (by decide) ?_
      refine lv_goto (tgt := 34) hx hb dX6_reliability_30 (by decide) ?_
      obtain rfl := Option.some.inj hf
      exact J2 _ _ _ hP hS (lv_sub hl [1, 2] rfl)
/-- RainReservoirModel.longestShortage -/
def f_X6_longestShortage (fu : Nat) (h : XH) (a0 : Nat) : Option (Int32 × XH) :=
  (xpV h a0 6 4 (.int (0 : Int32))).bind fun h1 =>
  obind1 (xloop (xf3 fun (v1 : Int32) (v2 : Int32) (v3 : Int32) =>
    (xgR h1 a0 6 0).bind fun v5 =>
    (xald h1 v5 0 (9 : Int32)).bind fun v6 =>
    if v6 ≤ v3 then
      some (.inr v1)
    else
      (xis h1 a0 6).bind fun v7 =>
      obind1 (f_X6_wasShort h1 a0 v3) fun v8 =>
      obind1 (
        if v8 = (0 : Int32) then
          some (0 : Int32)
        else
          some (v2 + (1 : Int32))
      ) fun v9 =>
      obind1 (
        if v9 ≤ v1 then
          some v1
        else
          some v9
      ) fun v10 =>
      olet (v3 + (1 : Int32)) fun v11 =>
      some (.inl (v10, v9, v11))
  ) fu ((0 : Int32), (0 : Int32), (0 : Int32))) fun v4 =>
  some ((v4, h1))
abbrev rmX6_longestShortage : Room := { frames := 1, cells := 0, slots := 0, locals := 21 }
set_option maxHeartbeats 4000000 in
set_option maxRecDepth 100000 in
theorem m_X6_longestShortage (l : Launch) (B0 : Nat) (G : XG) (fu : Nat) (h hE : XH) (a0 : Nat) (rE : Int32) (hf : f_X6_longestShortage fu h a0 = some (rE, hE)) : Met l yX6_longestShortage wsX6_longestShortage rmX6_longestShortage (va_Pc [.ref a0] (xU B0 G h)) (xQi B0 G hE rE) 0 0 (xA B0) := by
  refine xMet (cc := cX6_longestShortage) (maxL := 4) (by decide) rfl (Nat.le_of_ble_eq_true rfl) ?_
  intro p e s m args below meth c ls hx hb hr hml hown hlocks hnm hts hKK hP hl
  have hown : s.vm.findClass RX6 = some m.cls := hown
  have hl : lv_has ls 4 [(0, .ref a0)] := hl
  have hS : va_S (xA B0) s.heap s.heap [] := va_S.rf
  have inX6 : ∀ w ∈ wsX60, w ∈ wsX6_longestShortage := by decide +kernel
  have w1 := hts (.fieldLink RX6 26 "RainReservoirModel" "thrown" "I") (by decide +kernel)
  have w2 := hts (.fieldLink RX6 7 "RainReservoirModel" "all" "[I") (by decide +kernel)
  generalize hQ : MQ below (xQi B0 G hE rE) args s 0 0 (xA B0) = Q
  unfold f_X6_longestShortage at hf
  refine lv_aload_n hx hb dX6_longestShortage_0 rfl (lv_at hl 0 rfl) ?_
  refine lv_iconst (v := (0 : Int32)) hx hb dX6_longestShortage_1 (by decide) ?_
  obtain ⟨h1, eh1, hf⟩ := xb hf
  refine xr_put hx hb hts inX6 tyX6 tyX6_ok nmX6 hown hKK hP hS eh1 rfl (by decide) w1 (fun _ h9 => h9) rfl (tyX6_ok 4 (by decide)) rfl rfl dX6_longestShortage_2 (fun H locs hP _ hS => ?_)
  refine lv_iconst (v := (0 : Int32)) hx hb dX6_longestShortage_5 (by decide) ?_
  refine lv_istore_n (lv' := [(1, .int (0 : Int32)), (0, .ref a0)]) hx hb dX6_longestShortage_6 rfl hl (by decide) rfl (fun ls hl => ?_)
  refine lv_iconst (v := (0 : Int32)) hx hb dX6_longestShortage_7 (by decide) ?_
  refine lv_istore_n (lv' := [(2, .int (0 : Int32)), (1, .int (0 : Int32)), (0, .ref a0)]) hx hb dX6_longestShortage_8 rfl hl (by decide) rfl (fun ls hl => ?_)
  refine lv_iconst (v := (0 : Int32)) hx hb dX6_longestShortage_9 (by decide) ?_
  refine lv_istore_n (lv' := [(3, .int (0 : Int32)), (2, .int (0 : Int32)), (1, .int (0 : Int32)), (0, .ref a0)]) hx hb dX6_longestShortage_10 rfl hl (by decide) rfl (fun ls hl => ?_)
  obtain ⟨v4, eL, hf⟩ := xb1 hf
  have J1 : ∀ (H : Heap) (locs : List Loc) (ls : Array Slot), xP B0 G h1 H → va_S (xA B0) s.heap H locs → lv_has ls 4 [(1, .int v4)] → W p l e rmX6_longestShortage s m args below meth c H locs 0 0 Q (F0 m 55 ls []) := by
    intro H locs ls hP hS hl
    clear eL
    refine lv_iload_n hx hb dX6_longestShortage_55 rfl (lv_at hl 0 rfl) ?_
    obtain ⟨rfl, rfl⟩ := xinj2 hf
    subst hQ
    exact xe_i hx hb hr hlocks hKK hP hS dX6_longestShortage_56
  clear hf
  refine xloop_ind (P := fun z => ∀ (H : Heap) (locs : List Loc) (ls : Array Slot), xP B0 G h1 H → va_S (xA B0) s.heap H locs → lv_has ls 4 [(1, .int z.1), (2, .int z.2.1), (3, .int z.2.2), (0, .ref a0)] → W p l e rmX6_longestShortage s m args below meth c H locs 0 0 Q (F0 m 11 ls [])) ?_ eL _ _ _ hP hS (lv_sub hl [2, 1, 0, 3] rfl)
  rintro ⟨v1, v2, v3⟩ o hf IH EX H locs ls hP hS hl
  have hf := xf3_e hf
  have hl : lv_has ls 4 [(1, .int v1), (2, .int v2), (3, .int v3), (0, .ref a0)] := hl
  refine lv_iload_n hx hb dX6_longestShortage_11 rfl (lv_at hl 2 rfl) ?_
  refine lv_aload_n hx hb dX6_longestShortage_12 rfl (lv_at hl 3 rfl) ?_
  obtain ⟨v5, ev5, hf⟩ := xb hf
  refine xr_getR hx hb hts inX6 hown hKK hP ev5 rfl (by decide) w2 (fun _ h9 => h9) dX6_longestShortage_13 ?_
  refine lv_bipush (v := (9 : Int32)) hx hb dX6_longestShortage_16 (by decide) ?_
  obtain ⟨v6, ev6, hf⟩ := xb hf
  refine xr_iald hx hb hKK hP ev6 dX6_longestShortage_18 ?_
  refine lv_icmp_ge (tgt := 55) hx hb dX6_longestShortage_19 (by decide) (fun c1 => ?_) (fun c1 => ?_)
  · have hf := xif_t hf c1
    have hf := EX _ (Option.some.inj hf).symm
    obtain rfl := hf
    exact J1 _ _ _ hP hS (lv_sub hl [0] rfl)
  · have hf := xif_f hf c1
    refine lv_aload_n hx hb dX6_longestShortage_22 rfl (lv_at hl 3 rfl) ?_
    refine lv_iload_n hx hb dX6_longestShortage_23 rfl (lv_at hl 2 rfl) ?_
    obtain ⟨v7, ev7, hf⟩ := xb hf
    obtain ⟨v8, ev8, hf⟩ := xb1 hf
    refine xc_Vi (rest := []) ⟨hx, hb, hml, hown, hts⟩ (m_X6_wasShort l B0 G h1 a0 v3 v8 ev8) (cwV 1 hts gX6_longestShortage_X6_wasShort rfl rfl rfl (by decide +kernel) ⟨Nat.le_of_ble_eq_true rfl, Nat.le_of_ble_eq_true rfl⟩) hKK hP hS ev7 rfl rfl hl.1 rfl (Nat.le_of_ble_eq_true rfl) dX6_longestShortage_24 ⟨Nat.zero_le _, Nat.zero_le _⟩ (fun H locs hP hS => ?_)
    obtain ⟨v9, ej2, hf⟩ := xb1 hf
    have J2 : ∀ (H : Heap) (locs : List Loc) (ls : Array Slot), xP B0 G h1 H → va_S (xA B0) s.heap H locs → lv_has ls 4 [(1, .int v1), (3, .int v3), (0, .ref a0)] → W p l e rmX6_longestShortage s m args below meth c H locs 0 0 Q (F0 m 37 ls [.int v9]) := by
      intro H locs ls hP hS hl
      clear ej2
      refine lv_istore_n (lv' := [(2, .int v9), (1, .int v1), (3, .int v3), (0, .ref a0)]) hx hb dX6_longestShortage_37 rfl hl (by decide) rfl (fun ls hl => ?_)
      refine lv_iload_n hx hb dX6_longestShortage_38 rfl (lv_at hl 0 rfl) ?_
      refine lv_iload_n hx hb dX6_longestShortage_39 rfl (lv_at hl 1 rfl) ?_
      obtain ⟨v10, ej3, hf⟩ := xb1 hf
      have J3 : ∀ (H : Heap) (locs : List Loc) (ls : Array Slot), xP B0 G h1 H → va_S (xA B0) s.heap H locs → lv_has ls 4 [(2, .int v9), (3, .int v3), (0, .ref a0)] → W p l e rmX6_longestShortage s m args below meth c H locs 0 0 Q (F0 m 48 ls [.int v10]) := by
        intro H locs ls hP hS hl
        clear ej3
        refine lv_istore_n (lv' := [(1, .int v10), (2, .int v9), (3, .int v3), (0, .ref a0)]) hx hb dX6_longestShortage_48 rfl hl (by decide) rfl (fun ls hl => ?_)
        obtain ⟨v11, ev11, hf⟩ := xl hf
        refine lv_iinc (v := v11) (lv' := [(3, .int v11), (1, .int v10), (2, .int v9), (0, .ref a0)]) hx hb dX6_longestShortage_49 hl (k := 2) rfl (by rw [ev11]; rfl) (by decide) rfl (fun ls hl => ?_)
        refine lv_goto (tgt := 11) hx hb dX6_longestShortage_52 (by decide) ?_
        exact IH _ (Option.some.inj hf).symm _ _ _ hP hS (lv_sub hl [1, 2, 0, 3] rfl)
      have hf := ej3
      clear ej3
      refine lv_icmp_le (tgt := 47) hx hb dX6_longestShortage_40 (by decide) (fun c3 => ?_) (fun c3 => ?_)
      · have hf := xif_t hf c3
        refine lv_iload_n hx hb dX6_longestShortage_47 rfl (lv_at hl 1 rfl) ?_
        obtain rfl := Option.some.inj hf
        exact J3 _ _ _ hP hS (lv_sub hl [0, 2, 3] rfl)
      · have hf := xif_f hf c3
        refine lv_iload_n hx hb dX6_longestShortage_43 rfl (lv_at hl 0 rfl) ?_
        refine lv_goto (tgt := 48) hx hb dX6_longestShortage_44 (by decide) ?_
        obtain rfl := Option.some.inj hf
        exact J3 _ _ _ hP hS (lv_sub hl [0, 2, 3] rfl)
    have hf := ej2
    clear ej2
    refine lv_if_eq (tgt := 36) hx hb dX6_longestShortage_27 (by decide) (fun c2 => ?_) (fun c2 => ?_)
    · have hf := xif_t hf c2
      refine lv_iconst (v := (0 : Int32)) hx hb dX6_longestShortage_36 (by decide) ?_
      obtain rfl := Option.some.inj hf
      exact J2 _ _ _ hP hS (lv_sub hl [0, 2, 3] rfl)
    · have hf := xif_f hf c2
      refine lv_iload_n hx hb dX6_longestShortage_30 rfl (lv_at hl 1 rfl) ?_
      refine lv_iconst (v := (1 : Int32)) hx hb dX6_longestShortage_31 (by decide) ?_
      refine lv_iadd hx hb dX6_longestShortage_32 ?_
      refine lv_goto (tgt := 37) hx hb dX6_longestShortage_33 (by decide) ?_
      obtain rfl := Option.some.inj hf
      exact J2 _ _ _ hP hS (lv_sub hl [0, 2, 3] rfl)
/-- RainReservoirModel.shortDays -/
def f_X6_shortDays (fu : Nat) (h : XH) (a0 : Nat) : Option (Int32 × XH) :=
  (xis h a0 6).bind fun v1 =>
  obind1 (f_X6_goesBack fu h a0) fun h1 =>
  obind1 (xloop (xf2 fun (v2 : Int32) (h2 : XH) =>
    if (6 : Int32) ≤ v2 then
      some (.inr h2)
    else
      (xgR h2 a0 6 7).bind fun v3 =>
      (xastL h2 v3 v2 (0 : Int64)).bind fun h4 =>
      olet (v2 + (1 : Int32)) fun v4 =>
      some (.inl (v4, h4))
  ) fu ((0 : Int32), h1)) fun h3 =>
  obind2 (xloop (xf2 fun (v5 : Int32) (h5 : XH) =>
    (xgR h5 a0 6 0).bind fun v7 =>
    (xald h5 v7 0 (9 : Int32)).bind fun v8 =>
    (xgR h5 a0 6 0).bind fun v9 =>
    (xald h5 v9 0 (8 : Int32)).bind fun v10 =>
    if v10 ≤ v8 then
      some (.inr (v5, h5))
    else
      (xis h5 a0 6).bind fun v11 =>
      obind2 (f_X6_does fu h5 a0) fun v12 h7 =>
      obind1 (
        if v12 = (0 : Int32) then
          some (0 : Int32)
        else
          some (1 : Int32)
      ) fun v13 =>
      olet ((v5 + v13)) fun v14 =>
      some (.inl (v14, h7))
  ) fu ((0 : Int32), h3)) fun v6 h6 =>
  some ((v6, h6))
abbrev rmX6_shortDays : Room := { frames := 6, cells := 0, slots := 0, locals := 142 }
set_option maxHeartbeats 4000000 in
set_option maxRecDepth 100000 in
theorem m_X6_shortDays (l : Launch) (B0 : Nat) (G : XG) (fu : Nat) (h hE : XH) (a0 : Nat) (rE : Int32) (hf : f_X6_shortDays fu h a0 = some (rE, hE)) : Met l yX6_shortDays wsX6_shortDays rmX6_shortDays (va_Pc [.ref a0] (xU B0 G h)) (xQi B0 G hE rE) 0 0 (xA B0) := by
  refine xMet (cc := cX6_shortDays) (maxL := 2) (by decide) rfl (Nat.le_of_ble_eq_true rfl) ?_
  intro p e s m args below meth c ls hx hb hr hml hown hlocks hnm hts hKK hP hl
  have hown : s.vm.findClass RX6 = some m.cls := hown
  have hl : lv_has ls 2 [(0, .ref a0)] := hl
  have hS : va_S (xA B0) s.heap s.heap [] := va_S.rf
  have inX6 : ∀ w ∈ wsX60, w ∈ wsX6_shortDays := by decide +kernel
  have w1 := hts (.fieldLink RX6 19 "RainReservoirModel" "spiltAt" "[J") (by decide +kernel)
  have w2 := hts (.fieldLink RX6 7 "RainReservoirModel" "all" "[I") (by decide +kernel)
  generalize hQ : MQ below (xQi B0 G hE rE) args s 0 0 (xA B0) = Q
  unfold f_X6_shortDays at hf
  refine lv_aload_n hx hb dX6_shortDays_0 rfl (lv_at hl 0 rfl) ?_
  obtain ⟨v1, ev1, hf⟩ := xb hf
  obtain ⟨h1, eh1, hf⟩ := xb1 hf
  refine xc_Vv (rest := []) ⟨hx, hb, hml, hown, hts⟩ (m_X6_goesBack l B0 G fu h h1 a0 eh1) (cwV 0 hts gX6_shortDays_X6_goesBack rfl rfl rfl (by decide +kernel) ⟨Nat.le_of_ble_eq_true rfl, Nat.le_of_ble_eq_true rfl⟩) hKK hP hS ev1 rfl rfl hl.1 rfl (Nat.le_of_ble_eq_true rfl) dX6_shortDays_1 ⟨Nat.zero_le _, Nat.zero_le _⟩ (fun H locs hP hS => ?_)
  refine lv_iconst (v := (0 : Int32)) hx hb dX6_shortDays_4 (by decide) ?_
  refine lv_istore_n (lv' := [(1, .int (0 : Int32)), (0, .ref a0)]) hx hb dX6_shortDays_5 rfl hl (by decide) rfl (fun ls hl => ?_)
  obtain ⟨h3, eL, hf⟩ := xb1 hf
  have J1 : ∀ (H : Heap) (locs : List Loc) (ls : Array Slot), xP B0 G h3 H → va_S (xA B0) s.heap H locs → lv_has ls 2 [(0, .ref a0)] → W p l e rmX6_shortDays s m args below meth c H locs 0 0 Q (F0 m 25 ls []) := by
    intro H locs ls hP hS hl
    clear eL
    refine lv_iconst (v := (0 : Int32)) hx hb dX6_shortDays_25 (by decide) ?_
    refine lv_istore_n (lv' := [(1, .int (0 : Int32)), (0, .ref a0)]) hx hb dX6_shortDays_26 rfl hl (by decide) rfl (fun ls hl => ?_)
    obtain ⟨v6, h6, eL, hf⟩ := xb2 hf
    have J2 : ∀ (H : Heap) (locs : List Loc) (ls : Array Slot), xP B0 G h6 H → va_S (xA B0) s.heap H locs → lv_has ls 2 [(1, .int v6)] → W p l e rmX6_shortDays s m args below meth c H locs 0 0 Q (F0 m 62 ls []) := by
      intro H locs ls hP hS hl
      clear eL
      refine lv_iload_n hx hb dX6_shortDays_62 rfl (lv_at hl 0 rfl) ?_
      obtain ⟨rfl, rfl⟩ := xinj2 hf
      subst hQ
      exact xe_i hx hb hr hlocks hKK hP hS dX6_shortDays_63
    clear hf
    refine xloop_ind (P := fun z => ∀ (H : Heap) (locs : List Loc) (ls : Array Slot), xP B0 G z.2 H → va_S (xA B0) s.heap H locs → lv_has ls 2 [(1, .int z.1), (0, .ref a0)] → W p l e rmX6_shortDays s m args below meth c H locs 0 0 Q (F0 m 27 ls [])) ?_ eL _ _ _ hP hS (lv_sub hl [0, 1] rfl)
    rintro ⟨v5, h5⟩ o hf IH EX H locs ls hP hS hl
    have hf := xf2_e hf
    have hP : xP B0 G h5 H := hP
    have hl : lv_has ls 2 [(1, .int v5), (0, .ref a0)] := hl
    refine lv_aload_n hx hb dX6_shortDays_27 rfl (lv_at hl 1 rfl) ?_
    obtain ⟨v7, ev7, hf⟩ := xb hf
    refine xr_getR hx hb hts inX6 hown hKK hP ev7 rfl (by decide) w2 (fun _ h9 => h9) dX6_shortDays_28 ?_
    refine lv_bipush (v := (9 : Int32)) hx hb dX6_shortDays_31 (by decide) ?_
    obtain ⟨v8, ev8, hf⟩ := xb hf
    refine xr_iald hx hb hKK hP ev8 dX6_shortDays_33 ?_
    refine lv_aload_n hx hb dX6_shortDays_34 rfl (lv_at hl 1 rfl) ?_
    obtain ⟨v9, ev9, hf⟩ := xb hf
    refine xr_getR hx hb hts inX6 hown hKK hP ev9 rfl (by decide) w2 (fun _ h9 => h9) dX6_shortDays_35 ?_
    refine lv_bipush (v := (8 : Int32)) hx hb dX6_shortDays_38 (by decide) ?_
    obtain ⟨v10, ev10, hf⟩ := xb hf
    refine xr_iald hx hb hKK hP ev10 dX6_shortDays_40 ?_
    refine lv_icmp_ge (tgt := 62) hx hb dX6_shortDays_41 (by decide) (fun c2 => ?_) (fun c2 => ?_)
    · have hf := xif_t hf c2
      have hf := EX _ (Option.some.inj hf).symm
      obtain ⟨rfl, rfl⟩ := xpair2 hf
      exact J2 _ _ _ hP hS (lv_sub hl [0] rfl)
    · have hf := xif_f hf c2
      refine lv_iload_n hx hb dX6_shortDays_44 rfl (lv_at hl 0 rfl) ?_
      refine lv_aload_n hx hb dX6_shortDays_45 rfl (lv_at hl 1 rfl) ?_
      obtain ⟨v11, ev11, hf⟩ := xb hf
      obtain ⟨v12, h7, ev12, hf⟩ := xb2 hf
      refine xc_Vi (rest := [.int v5]) ⟨hx, hb, hml, hown, hts⟩ (m_X6_does l B0 G fu h5 h7 a0 v12 ev12) (cwV 0 hts gX6_shortDays_X6_does rfl rfl rfl (by decide +kernel) ⟨Nat.le_of_ble_eq_true rfl, Nat.le_of_ble_eq_true rfl⟩) hKK hP hS ev11 rfl rfl hl.1 rfl (Nat.le_of_ble_eq_true rfl) dX6_shortDays_46 ⟨Nat.zero_le _, Nat.zero_le _⟩ (fun H locs hP hS => ?_)
      obtain ⟨v13, ej3, hf⟩ := xb1 hf
      have J3 : ∀ (H : Heap) (locs : List Loc) (ls : Array Slot), xP B0 G h7 H → va_S (xA B0) s.heap H locs → lv_has ls 2 [(0, .ref a0)] → W p l e rmX6_shortDays s m args below meth c H locs 0 0 Q (F0 m 57 ls [.int v13, .int v5]) := by
        intro H locs ls hP hS hl
        clear ej3
        refine lv_iadd hx hb dX6_shortDays_57 ?_
        obtain ⟨v14, ev14, hf⟩ := xl hf
        refine xtopi ev14 ?_
        refine lv_istore_n (lv' := [(1, .int v14), (0, .ref a0)]) hx hb dX6_shortDays_58 rfl hl (by decide) rfl (fun ls hl => ?_)
        refine lv_goto (tgt := 27) hx hb dX6_shortDays_59 (by decide) ?_
        exact IH _ (Option.some.inj hf).symm _ _ _ hP hS (lv_sub hl [0, 1] rfl)
      have hf := ej3
      clear ej3
      refine lv_if_eq (tgt := 56) hx hb dX6_shortDays_49 (by decide) (fun c3 => ?_) (fun c3 => ?_)
      · have hf := xif_t hf c3
        refine lv_iconst (v := (0 : Int32)) hx hb dX6_shortDays_56 (by decide) ?_
        obtain rfl := Option.some.inj hf
        exact J3 _ _ _ hP hS (lv_sub hl [1] rfl)
      · have hf := xif_f hf c3
        refine lv_iconst (v := (1 : Int32)) hx hb dX6_shortDays_52 (by decide) ?_
        refine lv_goto (tgt := 57) hx hb dX6_shortDays_53 (by decide) ?_
        obtain rfl := Option.some.inj hf
        exact J3 _ _ _ hP hS (lv_sub hl [1] rfl)
  clear hf
  refine xloop_ind (P := fun z => ∀ (H : Heap) (locs : List Loc) (ls : Array Slot), xP B0 G z.2 H → va_S (xA B0) s.heap H locs → lv_has ls 2 [(1, .int z.1), (0, .ref a0)] → W p l e rmX6_shortDays s m args below meth c H locs 0 0 Q (F0 m 6 ls [])) ?_ eL _ _ _ hP hS (lv_sub hl [0, 1] rfl)
  rintro ⟨v2, h2⟩ o hf IH EX H locs ls hP hS hl
  have hf := xf2_e hf
  have hP : xP B0 G h2 H := hP
  have hl : lv_has ls 2 [(1, .int v2), (0, .ref a0)] := hl
  refine lv_iload_n hx hb dX6_shortDays_6 rfl (lv_at hl 0 rfl) ?_
  refine lv_bipush (v := (6 : Int32)) hx hb dX6_shortDays_7 (by decide) ?_
  refine lv_icmp_ge (tgt := 25) hx hb dX6_shortDays_9 (by decide) (fun c1 => ?_) (fun c1 => ?_)
  · have hf := xif_t hf c1
    have hf := EX _ (Option.some.inj hf).symm
    obtain rfl := hf
    exact J1 _ _ _ hP hS (lv_sub hl [1] rfl)
  · have hf := xif_f hf c1
    refine lv_aload_n hx hb dX6_shortDays_12 rfl (lv_at hl 1 rfl) ?_
    obtain ⟨v3, ev3, hf⟩ := xb hf
    refine xr_getR hx hb hts inX6 hown hKK hP ev3 rfl (by decide) w1 (fun _ h9 => h9) dX6_shortDays_13 ?_
    refine lv_iload_n hx hb dX6_shortDays_16 rfl (lv_at hl 0 rfl) ?_
    refine lv_lconst (v := (0 : Int64)) hx hb dX6_shortDays_17 (by decide) ?_
    obtain ⟨h4, eh4, hf⟩ := xb hf
    refine xr_last hx hb hKK hP hS eh4 dX6_shortDays_18 (fun H locs hP _ hS => ?_)
    obtain ⟨v4, ev4, hf⟩ := xl hf
    refine lv_iinc (v := v4) (lv' := [(1, .int v4), (0, .ref a0)]) hx hb dX6_shortDays_19 hl (k := 0) rfl (by rw [ev4]; rfl) (by decide) rfl (fun ls hl => ?_)
    refine lv_goto (tgt := 6) hx hb dX6_shortDays_22 (by decide) ?_
    exact IH _ (Option.some.inj hf).symm _ _ _ hP hS (lv_sub hl [0, 1] rfl)
/-- RainReservoirModel.shortWith -/
def f_X6_shortWith (fu : Nat) (h : XH) (a0 : Nat) (p0 : Int32) : Option (Int32 × XH) :=
  (xgR h a0 6 0).bind fun v1 =>
  (xast h v1 0 (0 : Int32) p0).bind fun h1 =>
  (xgR h1 a0 6 0).bind fun v2 =>
  (xgR h1 a0 6 0).bind fun v3 =>
  (xald h1 v3 0 (1 : Int32)).bind fun v4 =>
  obind1 (
    if p0 ≤ v4 then
      some p0
    else
      (xgR h1 a0 6 0).bind fun v6 =>
      (xald h1 v6 0 (1 : Int32)).bind fun v7 =>
      some v7
  ) fun v5 =>
  (xast h1 v2 0 (1 : Int32) v5).bind fun h2 =>
  (xgR h2 a0 6 0).bind fun v8 =>
  (xgR h2 a0 6 0).bind fun v9 =>
  (xald h2 v9 0 (2 : Int32)).bind fun v10 =>
  obind1 (
    if p0 ≤ v10 then
      some p0
    else
      (xgR h2 a0 6 0).bind fun v12 =>
      (xald h2 v12 0 (2 : Int32)).bind fun v13 =>
      some v13
  ) fun v11 =>
  (xast h2 v8 0 (2 : Int32) v11).bind fun h3 =>
  (xis h3 a0 6).bind fun v14 =>
  obind2 (f_X6_shortDays fu h3 a0) fun v15 h4 =>
  (xis h4 a0 6).bind fun v16 =>
  obind1 (f_X6_takesBack fu h4 a0) fun h5 =>
  some ((v15, h5))
abbrev rmX6_shortWith : Room := { frames := 7, cells := 0, slots := 0, locals := 163 }
set_option maxHeartbeats 4000000 in
set_option maxRecDepth 100000 in
theorem m_X6_shortWith (l : Launch) (B0 : Nat) (G : XG) (fu : Nat) (h hE : XH) (a0 : Nat) (p0 : Int32) (rE : Int32) (hf : f_X6_shortWith fu h a0 p0 = some (rE, hE)) : Met l yX6_shortWith wsX6_shortWith rmX6_shortWith (va_Pc [.ref a0, .int p0] (xU B0 G h)) (xQi B0 G hE rE) 0 0 (xA B0) := by
  refine xMet (cc := cX6_shortWith) (maxL := 3) (by decide) rfl (Nat.le_of_ble_eq_true rfl) ?_
  intro p e s m args below meth c ls hx hb hr hml hown hlocks hnm hts hKK hP hl
  have hown : s.vm.findClass RX6 = some m.cls := hown
  have hl : lv_has ls 3 [(0, .ref a0), (1, .int p0)] := hl
  have hS : va_S (xA B0) s.heap s.heap [] := va_S.rf
  have inX6 : ∀ w ∈ wsX60, w ∈ wsX6_shortWith := by decide +kernel
  have w1 := hts (.fieldLink RX6 7 "RainReservoirModel" "all" "[I") (by decide +kernel)
  generalize hQ : MQ below (xQi B0 G hE rE) args s 0 0 (xA B0) = Q
  unfold f_X6_shortWith at hf
  refine lv_aload_n hx hb dX6_shortWith_0 rfl (lv_at hl 0 rfl) ?_
  obtain ⟨v1, ev1, hf⟩ := xb hf
  refine xr_getR hx hb hts inX6 hown hKK hP ev1 rfl (by decide) w1 (fun _ h9 => h9) dX6_shortWith_1 ?_
  refine lv_iconst (v := (0 : Int32)) hx hb dX6_shortWith_4 (by decide) ?_
  refine lv_iload_n hx hb dX6_shortWith_5 rfl (lv_at hl 1 rfl) ?_
  obtain ⟨h1, eh1, hf⟩ := xb hf
  refine xr_iast hx hb hKK hP hS eh1 dX6_shortWith_6 (fun H locs hP _ hS => ?_)
  refine lv_aload_n hx hb dX6_shortWith_7 rfl (lv_at hl 0 rfl) ?_
  obtain ⟨v2, ev2, hf⟩ := xb hf
  refine xr_getR hx hb hts inX6 hown hKK hP ev2 rfl (by decide) w1 (fun _ h9 => h9) dX6_shortWith_8 ?_
  refine lv_iconst (v := (1 : Int32)) hx hb dX6_shortWith_11 (by decide) ?_
  refine lv_aload_n hx hb dX6_shortWith_12 rfl (lv_at hl 0 rfl) ?_
  obtain ⟨v3, ev3, hf⟩ := xb hf
  refine xr_getR hx hb hts inX6 hown hKK hP ev3 rfl (by decide) w1 (fun _ h9 => h9) dX6_shortWith_13 ?_
  refine lv_iconst (v := (1 : Int32)) hx hb dX6_shortWith_16 (by decide) ?_
  obtain ⟨v4, ev4, hf⟩ := xb hf
  refine xr_iald hx hb hKK hP ev4 dX6_shortWith_17 ?_
  refine lv_iload_n hx hb dX6_shortWith_18 rfl (lv_at hl 1 rfl) ?_
  obtain ⟨v5, ej1, hf⟩ := xb1 hf
  have J1 : ∀ (H : Heap) (locs : List Loc) (ls : Array Slot), xP B0 G h1 H → va_S (xA B0) s.heap H locs → lv_has ls 3 [(0, .ref a0), (1, .int p0)] → W p l e rmX6_shortWith s m args below meth c H locs 0 0 Q (F0 m 32 ls [.int v5, .int (1 : Int32), .ref v2]) := by
    intro H locs ls hP hS hl
    clear ej1
    obtain ⟨h2, eh2, hf⟩ := xb hf
    refine xr_iast hx hb hKK hP hS eh2 dX6_shortWith_32 (fun H locs hP _ hS => ?_)
    refine lv_aload_n hx hb dX6_shortWith_33 rfl (lv_at hl 0 rfl) ?_
    obtain ⟨v8, ev8, hf⟩ := xb hf
    refine xr_getR hx hb hts inX6 hown hKK hP ev8 rfl (by decide) w1 (fun _ h9 => h9) dX6_shortWith_34 ?_
    refine lv_iconst (v := (2 : Int32)) hx hb dX6_shortWith_37 (by decide) ?_
    refine lv_aload_n hx hb dX6_shortWith_38 rfl (lv_at hl 0 rfl) ?_
    obtain ⟨v9, ev9, hf⟩ := xb hf
    refine xr_getR hx hb hts inX6 hown hKK hP ev9 rfl (by decide) w1 (fun _ h9 => h9) dX6_shortWith_39 ?_
    refine lv_iconst (v := (2 : Int32)) hx hb dX6_shortWith_42 (by decide) ?_
    obtain ⟨v10, ev10, hf⟩ := xb hf
    refine xr_iald hx hb hKK hP ev10 dX6_shortWith_43 ?_
    refine lv_iload_n hx hb dX6_shortWith_44 rfl (lv_at hl 1 rfl) ?_
    obtain ⟨v11, ej2, hf⟩ := xb1 hf
    have J2 : ∀ (H : Heap) (locs : List Loc) (ls : Array Slot), xP B0 G h2 H → va_S (xA B0) s.heap H locs → lv_has ls 3 [(0, .ref a0)] → W p l e rmX6_shortWith s m args below meth c H locs 0 0 Q (F0 m 58 ls [.int v11, .int (2 : Int32), .ref v8]) := by
      intro H locs ls hP hS hl
      clear ej2
      obtain ⟨h3, eh3, hf⟩ := xb hf
      refine xr_iast hx hb hKK hP hS eh3 dX6_shortWith_58 (fun H locs hP _ hS => ?_)
      refine lv_aload_n hx hb dX6_shortWith_59 rfl (lv_at hl 0 rfl) ?_
      obtain ⟨v14, ev14, hf⟩ := xb hf
      obtain ⟨v15, h4, ev15, hf⟩ := xb2 hf
      refine xc_Vi (rest := []) ⟨hx, hb, hml, hown, hts⟩ (m_X6_shortDays l B0 G fu h3 h4 a0 v15 ev15) (cwV 0 hts gX6_shortWith_X6_shortDays rfl rfl rfl (by decide +kernel) ⟨Nat.le_of_ble_eq_true rfl, Nat.le_of_ble_eq_true rfl⟩) hKK hP hS ev14 rfl rfl hl.1 rfl (Nat.le_of_ble_eq_true rfl) dX6_shortWith_60 ⟨Nat.zero_le _, Nat.zero_le _⟩ (fun H locs hP hS => ?_)
      refine lv_istore_n (lv' := [(2, .int v15), (0, .ref a0)]) hx hb dX6_shortWith_63 rfl hl (by decide) rfl (fun ls hl => ?_)
      refine lv_aload_n hx hb dX6_shortWith_64 rfl (lv_at hl 1 rfl) ?_
      obtain ⟨v16, ev16, hf⟩ := xb hf
      obtain ⟨h5, eh5, hf⟩ := xb1 hf
      refine xc_Vv (rest := []) ⟨hx, hb, hml, hown, hts⟩ (m_X6_takesBack l B0 G fu h4 h5 a0 eh5) (cwV 0 hts gX6_shortWith_X6_takesBack rfl rfl rfl (by decide +kernel) ⟨Nat.le_of_ble_eq_true rfl, Nat.le_of_ble_eq_true rfl⟩) hKK hP hS ev16 rfl rfl hl.1 rfl (Nat.le_of_ble_eq_true rfl) dX6_shortWith_65 ⟨Nat.zero_le _, Nat.zero_le _⟩ (fun H locs hP hS => ?_)
      refine lv_iload_n hx hb dX6_shortWith_68 rfl (lv_at hl 0 rfl) ?_
      obtain ⟨rfl, rfl⟩ := xinj2 hf
      subst hQ
      exact xe_i hx hb hr hlocks hKK hP hS dX6_shortWith_69
    have hf := ej2
    clear ej2
    refine lv_icmp_ge (tgt := 57) hx hb dX6_shortWith_45 (by decide) (fun c2 => ?_) (fun c2 => ?_)
    · have hf := xif_t hf c2
      refine lv_iload_n hx hb dX6_shortWith_57 rfl (lv_at hl 1 rfl) ?_
      obtain rfl := Option.some.inj hf
      exact J2 _ _ _ hP hS (lv_sub hl [0] rfl)
    · have hf := xif_f hf c2
      refine lv_aload_n hx hb dX6_shortWith_48 rfl (lv_at hl 0 rfl) ?_
      obtain ⟨v12, ev12, hf⟩ := xb hf
      refine xr_getR hx hb hts inX6 hown hKK hP ev12 rfl (by decide) w1 (fun _ h9 => h9) dX6_shortWith_49 ?_
      refine lv_iconst (v := (2 : Int32)) hx hb dX6_shortWith_52 (by decide) ?_
      obtain ⟨v13, ev13, hf⟩ := xb hf
      refine xr_iald hx hb hKK hP ev13 dX6_shortWith_53 ?_
      refine lv_goto (tgt := 58) hx hb dX6_shortWith_54 (by decide) ?_
      obtain rfl := Option.some.inj hf
      exact J2 _ _ _ hP hS (lv_sub hl [0] rfl)
  have hf := ej1
  clear ej1
  refine lv_icmp_ge (tgt := 31) hx hb dX6_shortWith_19 (by decide) (fun c1 => ?_) (fun c1 => ?_)
  · have hf := xif_t hf c1
    refine lv_iload_n hx hb dX6_shortWith_31 rfl (lv_at hl 1 rfl) ?_
    obtain rfl := Option.some.inj hf
    exact J1 _ _ _ hP hS (lv_sub hl [0, 1] rfl)
  · have hf := xif_f hf c1
    refine lv_aload_n hx hb dX6_shortWith_22 rfl (lv_at hl 0 rfl) ?_
    obtain ⟨v6, ev6, hf⟩ := xb hf
    refine xr_getR hx hb hts inX6 hown hKK hP ev6 rfl (by decide) w1 (fun _ h9 => h9) dX6_shortWith_23 ?_
    refine lv_iconst (v := (1 : Int32)) hx hb dX6_shortWith_26 (by decide) ?_
    obtain ⟨v7, ev7, hf⟩ := xb hf
    refine xr_iald hx hb hKK hP ev7 dX6_shortWith_27 ?_
    refine lv_goto (tgt := 32) hx hb dX6_shortWith_28 (by decide) ?_
    obtain rfl := Option.some.inj hf
    exact J1 _ _ _ hP hS (lv_sub hl [0, 1] rfl)
/-- RainReservoirModel.shortDaysWith -/
def f_X6_shortDaysWith (fu : Nat) (h : XH) (a0 : Nat) (p0 : Int32) : Option (Int32 × XH) :=
  obind1 (f_X6_in (Int32.toInt64 p0) (100 : Int64) (60000 : Int64)) fun v1 =>
  (xis h a0 6).bind fun v2 =>
  obind2 (f_X6_goes h a0 v1 (1 : Int32)) fun v3 h1 =>
  if v3 = (0 : Int32) then
    some (((0 : Int32), h1))
  else
    (xis h1 a0 6).bind fun v4 =>
    obind1 (f_X6_lays fu h1 a0) fun h2 =>
    (xis h2 a0 6).bind fun v5 =>
    obind2 (f_X6_shortWith fu h2 a0 p0) fun v6 h3 =>
    some ((v6, h3))
abbrev rmX6_shortDaysWith : Room := { frames := 8, cells := 0, slots := 0, locals := 185 }
set_option maxHeartbeats 4000000 in
set_option maxRecDepth 100000 in
theorem m_X6_shortDaysWith (l : Launch) (B0 : Nat) (G : XG) (fu : Nat) (h hE : XH) (a0 : Nat) (p0 : Int32) (rE : Int32) (hf : f_X6_shortDaysWith fu h a0 p0 = some (rE, hE)) : Met l yX6_shortDaysWith wsX6_shortDaysWith rmX6_shortDaysWith (va_Pc [.ref a0, .int p0] (xU B0 G h)) (xQi B0 G hE rE) 0 0 (xA B0) := by
  refine xMet (cc := cX6_shortDaysWith) (maxL := 2) (by decide) rfl (Nat.le_of_ble_eq_true rfl) ?_
  intro p e s m args below meth c ls hx hb hr hml hown hlocks hnm hts hKK hP hl
  have hown : s.vm.findClass RX6 = some m.cls := hown
  have hl : lv_has ls 2 [(0, .ref a0), (1, .int p0)] := hl
  have hS : va_S (xA B0) s.heap s.heap [] := va_S.rf
  have w1 := hts (.constantLong RX6 46 (100)) (by decide +kernel)
  have w2 := hts (.constantLong RX6 70 (60000)) (by decide +kernel)
  generalize hQ : MQ below (xQi B0 G hE rE) args s 0 0 (xA B0) = Q
  unfold f_X6_shortDaysWith at hf
  refine lv_aload_n hx hb dX6_shortDaysWith_0 rfl (lv_at hl 0 rfl) ?_
  refine lv_iload_n hx hb dX6_shortDaysWith_1 rfl (lv_at hl 1 rfl) ?_
  refine lv_i2l hx hb dX6_shortDaysWith_2 rfl ?_
  refine lv_ldc2 (v := (100 : Int64)) hx hb hown w1 dX6_shortDaysWith_3 ?_
  refine lv_ldc2 (v := (60000 : Int64)) hx hb hown w2 dX6_shortDaysWith_6 ?_
  obtain ⟨v1, ev1, hf⟩ := xb1 hf
  refine xc_Si (rest := [.ref a0]) ⟨hx, hb, hml, hown, hts⟩ (m_X6_in l B0 G h (Int32.toInt64 p0) (100 : Int64) (60000 : Int64) v1 ev1) (va_cwS 3 hts gX6_shortDaysWith_X6_in rfl rfl rfl (by decide +kernel) ⟨Nat.le_of_ble_eq_true rfl, Nat.le_of_ble_eq_true rfl⟩) hKK hP hS rfl hl.1 rfl (Nat.le_of_ble_eq_true rfl) dX6_shortDaysWith_9 ⟨Nat.zero_le _, Nat.zero_le _⟩ (fun H locs hP hS => ?_)
  refine lv_iconst (v := (1 : Int32)) hx hb dX6_shortDaysWith_12 (by decide) ?_
  obtain ⟨v2, ev2, hf⟩ := xb hf
  obtain ⟨v3, h1, ev3, hf⟩ := xb2 hf
  refine xc_Vi (rest := []) ⟨hx, hb, hml, hown, hts⟩ (m_X6_goes l B0 G h h1 a0 v1 (1 : Int32) v3 ev3) (cwV 2 hts gX6_shortDaysWith_X6_goes rfl rfl rfl (by decide +kernel) ⟨Nat.le_of_ble_eq_true rfl, Nat.le_of_ble_eq_true rfl⟩) hKK hP hS ev2 rfl rfl hl.1 rfl (Nat.le_of_ble_eq_true rfl) dX6_shortDaysWith_13 ⟨Nat.zero_le _, Nat.zero_le _⟩ (fun H locs hP hS => ?_)
  refine lv_if_ne (tgt := 21) hx hb dX6_shortDaysWith_16 (by decide) (fun c1 => ?_) (fun c1 => ?_)
  · have hf := xif_f hf c1
    refine lv_aload_n hx hb dX6_shortDaysWith_21 rfl (lv_at hl 0 rfl) ?_
    obtain ⟨v4, ev4, hf⟩ := xb hf
    obtain ⟨h2, eh2, hf⟩ := xb1 hf
    refine xc_Vv (rest := []) ⟨hx, hb, hml, hown, hts⟩ (m_X6_lays l B0 G fu h1 h2 a0 eh2) (cwV 0 hts gX6_shortDaysWith_X6_lays rfl rfl rfl (by decide +kernel) ⟨Nat.le_of_ble_eq_true rfl, Nat.le_of_ble_eq_true rfl⟩) hKK hP hS ev4 rfl rfl hl.1 rfl (Nat.le_of_ble_eq_true rfl) dX6_shortDaysWith_22 ⟨Nat.zero_le _, Nat.zero_le _⟩ (fun H locs hP hS => ?_)
    refine lv_aload_n hx hb dX6_shortDaysWith_25 rfl (lv_at hl 0 rfl) ?_
    refine lv_iload_n hx hb dX6_shortDaysWith_26 rfl (lv_at hl 1 rfl) ?_
    obtain ⟨v5, ev5, hf⟩ := xb hf
    obtain ⟨v6, h3, ev6, hf⟩ := xb2 hf
    refine xc_Vi (rest := []) ⟨hx, hb, hml, hown, hts⟩ (m_X6_shortWith l B0 G fu h2 h3 a0 p0 v6 ev6) (cwV 1 hts gX6_shortDaysWith_X6_shortWith rfl rfl rfl (by decide +kernel) ⟨Nat.le_of_ble_eq_true rfl, Nat.le_of_ble_eq_true rfl⟩) hKK hP hS ev5 rfl rfl hl.1 rfl (Nat.le_of_ble_eq_true rfl) dX6_shortDaysWith_27 ⟨Nat.zero_le _, Nat.zero_le _⟩ (fun H locs hP hS => ?_)
    obtain ⟨rfl, rfl⟩ := xinj2 hf
    subst hQ
    exact xe_i hx hb hr hlocks hKK hP hS dX6_shortDaysWith_30
  · have hf := xif_t hf c1
    refine lv_iconst (v := (0 : Int32)) hx hb dX6_shortDaysWith_19 (by decide) ?_
    obtain ⟨rfl, rfl⟩ := xinj2 hf
    subst hQ
    exact xe_i hx hb hr hlocks hKK hP hS dX6_shortDaysWith_20
/-- RainReservoirModel.capacityFor -/
def f_X6_capacityFor (fu : Nat) (h : XH) (a0 : Nat) (p0 : Int32) : Option (Int32 × XH) :=
  obind1 (f_X6_in (Int32.toInt64 p0) (0 : Int64) (100 : Int64)) fun v1 =>
  (xis h a0 6).bind fun v2 =>
  obind2 (f_X6_goes h a0 v1 (1 : Int32)) fun v3 h1 =>
  if v3 = (0 : Int32) then
    some (((0 : Int32), h1))
  else
    (xis h1 a0 6).bind fun v4 =>
    obind1 (f_X6_lays fu h1 a0) fun h2 =>
    obind2 (xloop (xf2 fun (v5 : Int32) (h3 : XH) =>
      if (60000 : Int32) < v5 then
        some (.inr (v5, h3))
      else
        (xis h3 a0 6).bind fun v7 =>
        obind2 (f_X6_shortWith fu h3 a0 v5) fun v8 h5 =>
        if v8 ≤ p0 then
          some (.inr (v5, h5))
        else
          olet (v5 + (500 : Int32)) fun v9 =>
          some (.inl (v9, h5))
    ) fu ((500 : Int32), h2)) fun v6 h4 =>
    obind1 (
      if (60000 : Int32) < v6 then
        some (-1 : Int32)
      else
        some v6
    ) fun v10 =>
    some ((v10, h4))
abbrev rmX6_capacityFor : Room := { frames := 8, cells := 0, slots := 0, locals := 185 }
set_option maxHeartbeats 4000000 in
set_option maxRecDepth 100000 in
theorem m_X6_capacityFor (l : Launch) (B0 : Nat) (G : XG) (fu : Nat) (h hE : XH) (a0 : Nat) (p0 : Int32) (rE : Int32) (hf : f_X6_capacityFor fu h a0 p0 = some (rE, hE)) : Met l yX6_capacityFor wsX6_capacityFor rmX6_capacityFor (va_Pc [.ref a0, .int p0] (xU B0 G h)) (xQi B0 G hE rE) 0 0 (xA B0) := by
  refine xMet (cc := cX6_capacityFor) (maxL := 3) (by decide) rfl (Nat.le_of_ble_eq_true rfl) ?_
  intro p e s m args below meth c ls hx hb hr hml hown hlocks hnm hts hKK hP hl
  have hown : s.vm.findClass RX6 = some m.cls := hown
  have hl : lv_has ls 3 [(0, .ref a0), (1, .int p0)] := hl
  have hS : va_S (xA B0) s.heap s.heap [] := va_S.rf
  have w1 := hts (.constantLong RX6 46 (100)) (by decide +kernel)
  have w2 := hts (.constant RX6 173 (60000)) (by decide +kernel)
  generalize hQ : MQ below (xQi B0 G hE rE) args s 0 0 (xA B0) = Q
  unfold f_X6_capacityFor at hf
  refine lv_aload_n hx hb dX6_capacityFor_0 rfl (lv_at hl 0 rfl) ?_
  refine lv_iload_n hx hb dX6_capacityFor_1 rfl (lv_at hl 1 rfl) ?_
  refine lv_i2l hx hb dX6_capacityFor_2 rfl ?_
  refine lv_lconst (v := (0 : Int64)) hx hb dX6_capacityFor_3 (by decide) ?_
  refine lv_ldc2 (v := (100 : Int64)) hx hb hown w1 dX6_capacityFor_4 ?_
  obtain ⟨v1, ev1, hf⟩ := xb1 hf
  refine xc_Si (rest := [.ref a0]) ⟨hx, hb, hml, hown, hts⟩ (m_X6_in l B0 G h (Int32.toInt64 p0) (0 : Int64) (100 : Int64) v1 ev1) (va_cwS 3 hts gX6_capacityFor_X6_in rfl rfl rfl (by decide +kernel) ⟨Nat.le_of_ble_eq_true rfl, Nat.le_of_ble_eq_true rfl⟩) hKK hP hS rfl hl.1 rfl (Nat.le_of_ble_eq_true rfl) dX6_capacityFor_7 ⟨Nat.zero_le _, Nat.zero_le _⟩ (fun H locs hP hS => ?_)
  refine lv_iconst (v := (1 : Int32)) hx hb dX6_capacityFor_10 (by decide) ?_
  obtain ⟨v2, ev2, hf⟩ := xb hf
  obtain ⟨v3, h1, ev3, hf⟩ := xb2 hf
  refine xc_Vi (rest := []) ⟨hx, hb, hml, hown, hts⟩ (m_X6_goes l B0 G h h1 a0 v1 (1 : Int32) v3 ev3) (cwV 2 hts gX6_capacityFor_X6_goes rfl rfl rfl (by decide +kernel) ⟨Nat.le_of_ble_eq_true rfl, Nat.le_of_ble_eq_true rfl⟩) hKK hP hS ev2 rfl rfl hl.1 rfl (Nat.le_of_ble_eq_true rfl) dX6_capacityFor_11 ⟨Nat.zero_le _, Nat.zero_le _⟩ (fun H locs hP hS => ?_)
  refine lv_if_ne (tgt := 19) hx hb dX6_capacityFor_14 (by decide) (fun c1 => ?_) (fun c1 => ?_)
  · have hf := xif_f hf c1
    refine lv_aload_n hx hb dX6_capacityFor_19 rfl (lv_at hl 0 rfl) ?_
    obtain ⟨v4, ev4, hf⟩ := xb hf
    obtain ⟨h2, eh2, hf⟩ := xb1 hf
    refine xc_Vv (rest := []) ⟨hx, hb, hml, hown, hts⟩ (m_X6_lays l B0 G fu h1 h2 a0 eh2) (cwV 0 hts gX6_capacityFor_X6_lays rfl rfl rfl (by decide +kernel) ⟨Nat.le_of_ble_eq_true rfl, Nat.le_of_ble_eq_true rfl⟩) hKK hP hS ev4 rfl rfl hl.1 rfl (Nat.le_of_ble_eq_true rfl) dX6_capacityFor_20 ⟨Nat.zero_le _, Nat.zero_le _⟩ (fun H locs hP hS => ?_)
    refine lv_sipush (v := (500 : Int32)) hx hb dX6_capacityFor_23 (by decide) ?_
    refine lv_istore_n (lv' := [(2, .int (500 : Int32)), (0, .ref a0), (1, .int p0)]) hx hb dX6_capacityFor_26 rfl hl (by decide) rfl (fun ls hl => ?_)
    obtain ⟨v6, h4, eL, hf⟩ := xb2 hf
    have J1 : ∀ (H : Heap) (locs : List Loc) (ls : Array Slot), xP B0 G h4 H → va_S (xA B0) s.heap H locs → lv_has ls 3 [(2, .int v6)] → W p l e rmX6_capacityFor s m args below meth c H locs 0 0 Q (F0 m 51 ls []) := by
      intro H locs ls hP hS hl
      clear eL
      refine lv_iload_n hx hb dX6_capacityFor_51 rfl (lv_at hl 0 rfl) ?_
      refine lv_ldc (v := (60000 : Int32)) hx hb hown w2 dX6_capacityFor_52 ?_
      obtain ⟨v10, ej2, hf⟩ := xb1 hf
      have J2 : ∀ (H : Heap) (locs : List Loc) (ls : Array Slot), xP B0 G h4 H → va_S (xA B0) s.heap H locs → lv_has ls 3 [] → W p l e rmX6_capacityFor s m args below meth c H locs 0 0 Q (F0 m 62 ls [.int v10]) := by
        intro H locs ls hP hS hl
        clear ej2
        obtain ⟨rfl, rfl⟩ := xinj2 hf
        subst hQ
        exact xe_i hx hb hr hlocks hKK hP hS dX6_capacityFor_62
      have hf := ej2
      clear ej2
      refine lv_icmp_gt (tgt := 61) hx hb dX6_capacityFor_54 (by decide) (fun c4 => ?_) (fun c4 => ?_)
      · have hf := xif_t hf c4
        refine lv_iconst (v := (-1 : Int32)) hx hb dX6_capacityFor_61 (by decide) ?_
        obtain rfl := Option.some.inj hf
        exact J2 _ _ _ hP hS (lv_sub hl [] rfl)
      · have hf := xif_f hf c4
        refine lv_iload_n hx hb dX6_capacityFor_57 rfl (lv_at hl 0 rfl) ?_
        refine lv_goto (tgt := 62) hx hb dX6_capacityFor_58 (by decide) ?_
        obtain rfl := Option.some.inj hf
        exact J2 _ _ _ hP hS (lv_sub hl [] rfl)
    clear hf
    refine xloop_ind (P := fun z => ∀ (H : Heap) (locs : List Loc) (ls : Array Slot), xP B0 G z.2 H → va_S (xA B0) s.heap H locs → lv_has ls 3 [(2, .int z.1), (0, .ref a0), (1, .int p0)] → W p l e rmX6_capacityFor s m args below meth c H locs 0 0 Q (F0 m 27 ls [])) ?_ eL _ _ _ hP hS (lv_sub hl [0, 1, 2] rfl)
    rintro ⟨v5, h3⟩ o hf IH EX H locs ls hP hS hl
    have hf := xf2_e hf
    have hP : xP B0 G h3 H := hP
    have hl : lv_has ls 3 [(2, .int v5), (0, .ref a0), (1, .int p0)] := hl
    refine lv_iload_n hx hb dX6_capacityFor_27 rfl (lv_at hl 0 rfl) ?_
    refine lv_ldc (v := (60000 : Int32)) hx hb hown w2 dX6_capacityFor_28 ?_
    refine lv_icmp_gt (tgt := 51) hx hb dX6_capacityFor_30 (by decide) (fun c2 => ?_) (fun c2 => ?_)
    · have hf := xif_t hf c2
      have hf := EX _ (Option.some.inj hf).symm
      obtain ⟨rfl, rfl⟩ := xpair2 hf
      exact J1 _ _ _ hP hS (lv_sub hl [0] rfl)
    · have hf := xif_f hf c2
      refine lv_aload_n hx hb dX6_capacityFor_33 rfl (lv_at hl 1 rfl) ?_
      refine lv_iload_n hx hb dX6_capacityFor_34 rfl (lv_at hl 0 rfl) ?_
      obtain ⟨v7, ev7, hf⟩ := xb hf
      obtain ⟨v8, h5, ev8, hf⟩ := xb2 hf
      refine xc_Vi (rest := []) ⟨hx, hb, hml, hown, hts⟩ (m_X6_shortWith l B0 G fu h3 h5 a0 v5 v8 ev8) (cwV 1 hts gX6_capacityFor_X6_shortWith rfl rfl rfl (by decide +kernel) ⟨Nat.le_of_ble_eq_true rfl, Nat.le_of_ble_eq_true rfl⟩) hKK hP hS ev7 rfl rfl hl.1 rfl (Nat.le_of_ble_eq_true rfl) dX6_capacityFor_35 ⟨Nat.zero_le _, Nat.zero_le _⟩ (fun H locs hP hS => ?_)
      refine lv_iload_n hx hb dX6_capacityFor_38 rfl (lv_at hl 2 rfl) ?_
      refine lv_icmp_le (tgt := 51) hx hb dX6_capacityFor_39 (by decide) (fun c3 => ?_) (fun c3 => ?_)
      · have hf := xif_t hf c3
        have hf := EX _ (Option.some.inj hf).symm
        obtain ⟨rfl, rfl⟩ := xpair2 hf
        exact J1 _ _ _ hP hS (lv_sub hl [0] rfl)
      · have hf := xif_f hf c3
        obtain ⟨v9, ev9, hf⟩ := xl hf
        refine lv_iincW (v := v9) (lv' := [(2, .int v9), (0, .ref a0), (1, .int p0)]) hx hb dX6_capacityFor_42 hl (k := 0) rfl (by rw [ev9]; rfl) (by decide) rfl (fun ls hl => ?_)
        refine lv_goto (tgt := 27) hx hb dX6_capacityFor_48 (by decide) ?_
        exact IH _ (Option.some.inj hf).symm _ _ _ hP hS (lv_sub hl [0, 1, 2] rfl)
  · have hf := xif_t hf c1
    refine lv_iconst (v := (0 : Int32)) hx hb dX6_capacityFor_17 (by decide) ?_
    obtain ⟨rfl, rfl⟩ := xinj2 hf
    subst hQ
    exact xe_i hx hb hr hlocks hKK hP hS dX6_capacityFor_18
/-- RainReservoirModel.mostLack -/
def f_X6_mostLack (fu : Nat) (h : XH) (a0 : Nat) : Option (Int32) :=
  obind1 (xloop (xf2 fun (v1 : Int32) (v2 : Int32) =>
    (xgR h a0 6 0).bind fun v4 =>
    (xald h v4 0 (7 : Int32)).bind fun v5 =>
    if v5 ≤ v2 then
      some (.inr v1)
    else
      (xis h a0 6).bind fun v6 =>
      obind1 (f_X6_ofUser h a0 v2 (0 : Int32)) fun v7 =>
      (xgR h a0 6 0).bind fun v8 =>
      (xald h v8 0 (8 : Int32)).bind fun v9 =>
      (xis h a0 6).bind fun v10 =>
      obind1 (f_X6_ofUser h a0 v2 (3 : Int32)) fun v11 =>
      olet (((v7 * v9) - v11)) fun v12 =>
      obind1 (
        if v12 ≤ v1 then
          some v1
        else
          some v12
      ) fun v13 =>
      olet (v2 + (1 : Int32)) fun v14 =>
      some (.inl (v13, v14))
  ) fu ((0 : Int32), (0 : Int32))) fun v3 =>
  some (v3)
abbrev rmX6_mostLack : Room := { frames := 2, cells := 0, slots := 0, locals := 43 }
set_option maxHeartbeats 4000000 in
set_option maxRecDepth 100000 in
theorem m_X6_mostLack (l : Launch) (B0 : Nat) (G : XG) (fu : Nat) (h : XH) (a0 : Nat) (rE : Int32) (hf : f_X6_mostLack fu h a0 = some rE) : Met l yX6_mostLack wsX6_mostLack rmX6_mostLack (va_Pc [.ref a0] (xU B0 G h)) (xQi B0 G h rE) 0 0 (xA B0) := by
  refine xMet (cc := cX6_mostLack) (maxL := 4) (by decide) rfl (Nat.le_of_ble_eq_true rfl) ?_
  intro p e s m args below meth c ls hx hb hr hml hown hlocks hnm hts hKK hP hl
  have hown : s.vm.findClass RX6 = some m.cls := hown
  have hl : lv_has ls 4 [(0, .ref a0)] := hl
  have hS : va_S (xA B0) s.heap s.heap [] := va_S.rf
  have inX6 : ∀ w ∈ wsX60, w ∈ wsX6_mostLack := by decide +kernel
  have w1 := hts (.fieldLink RX6 7 "RainReservoirModel" "all" "[I") (by decide +kernel)
  generalize hQ : MQ below (xQi B0 G h rE) args s 0 0 (xA B0) = Q
  unfold f_X6_mostLack at hf
  refine lv_iconst (v := (0 : Int32)) hx hb dX6_mostLack_0 (by decide) ?_
  refine lv_istore_n (lv' := [(1, .int (0 : Int32)), (0, .ref a0)]) hx hb dX6_mostLack_1 rfl hl (by decide) rfl (fun ls hl => ?_)
  refine lv_iconst (v := (0 : Int32)) hx hb dX6_mostLack_2 (by decide) ?_
  refine lv_istore_n (lv' := [(2, .int (0 : Int32)), (1, .int (0 : Int32)), (0, .ref a0)]) hx hb dX6_mostLack_3 rfl hl (by decide) rfl (fun ls hl => ?_)
  obtain ⟨v3, eL, hf⟩ := xb1 hf
  have J1 : ∀ (H : Heap) (locs : List Loc) (ls : Array Slot), xP B0 G h H → va_S (xA B0) s.heap H locs → lv_has ls 4 [(1, .int v3)] → W p l e rmX6_mostLack s m args below meth c H locs 0 0 Q (F0 m 54 ls []) := by
    intro H locs ls hP hS hl
    clear eL
    refine lv_iload_n hx hb dX6_mostLack_54 rfl (lv_at hl 0 rfl) ?_
    obtain rfl := Option.some.inj hf
    subst hQ
    exact xe_i hx hb hr hlocks hKK hP hS dX6_mostLack_55
  clear hf
  refine xloop_ind (P := fun z => ∀ (H : Heap) (locs : List Loc) (ls : Array Slot), xP B0 G h H → va_S (xA B0) s.heap H locs → lv_has ls 4 [(1, .int z.1), (2, .int z.2), (0, .ref a0)] → W p l e rmX6_mostLack s m args below meth c H locs 0 0 Q (F0 m 4 ls [])) ?_ eL _ _ _ hP hS (lv_sub hl [1, 0, 2] rfl)
  rintro ⟨v1, v2⟩ o hf IH EX H locs ls hP hS hl
  have hf := xf2_e hf
  have hl : lv_has ls 4 [(1, .int v1), (2, .int v2), (0, .ref a0)] := hl
  refine lv_iload_n hx hb dX6_mostLack_4 rfl (lv_at hl 1 rfl) ?_
  refine lv_aload_n hx hb dX6_mostLack_5 rfl (lv_at hl 2 rfl) ?_
  obtain ⟨v4, ev4, hf⟩ := xb hf
  refine xr_getR hx hb hts inX6 hown hKK hP ev4 rfl (by decide) w1 (fun _ h9 => h9) dX6_mostLack_6 ?_
  refine lv_bipush (v := (7 : Int32)) hx hb dX6_mostLack_9 (by decide) ?_
  obtain ⟨v5, ev5, hf⟩ := xb hf
  refine xr_iald hx hb hKK hP ev5 dX6_mostLack_11 ?_
  refine lv_icmp_ge (tgt := 54) hx hb dX6_mostLack_12 (by decide) (fun c1 => ?_) (fun c1 => ?_)
  · have hf := xif_t hf c1
    have hf := EX _ (Option.some.inj hf).symm
    obtain rfl := hf
    exact J1 _ _ _ hP hS (lv_sub hl [0] rfl)
  · have hf := xif_f hf c1
    refine lv_aload_n hx hb dX6_mostLack_15 rfl (lv_at hl 2 rfl) ?_
    refine lv_iload_n hx hb dX6_mostLack_16 rfl (lv_at hl 1 rfl) ?_
    refine lv_iconst (v := (0 : Int32)) hx hb dX6_mostLack_17 (by decide) ?_
    obtain ⟨v6, ev6, hf⟩ := xb hf
    obtain ⟨v7, ev7, hf⟩ := xb1 hf
    refine xc_Vi (rest := []) ⟨hx, hb, hml, hown, hts⟩ (m_X6_ofUser l B0 G h a0 v2 (0 : Int32) v7 ev7) (cwV 2 hts gX6_mostLack_X6_ofUser rfl rfl rfl (by decide +kernel) ⟨Nat.le_of_ble_eq_true rfl, Nat.le_of_ble_eq_true rfl⟩) hKK hP hS ev6 rfl rfl hl.1 rfl (Nat.le_of_ble_eq_true rfl) dX6_mostLack_18 ⟨Nat.zero_le _, Nat.zero_le _⟩ (fun H locs hP hS => ?_)
    refine lv_aload_n hx hb dX6_mostLack_21 rfl (lv_at hl 2 rfl) ?_
    obtain ⟨v8, ev8, hf⟩ := xb hf
    refine xr_getR hx hb hts inX6 hown hKK hP ev8 rfl (by decide) w1 (fun _ h9 => h9) dX6_mostLack_22 ?_
    refine lv_bipush (v := (8 : Int32)) hx hb dX6_mostLack_25 (by decide) ?_
    obtain ⟨v9, ev9, hf⟩ := xb hf
    refine xr_iald hx hb hKK hP ev9 dX6_mostLack_27 ?_
    refine lv_imul hx hb dX6_mostLack_28 ?_
    refine lv_aload_n hx hb dX6_mostLack_29 rfl (lv_at hl 2 rfl) ?_
    refine lv_iload_n hx hb dX6_mostLack_30 rfl (lv_at hl 1 rfl) ?_
    refine lv_iconst (v := (3 : Int32)) hx hb dX6_mostLack_31 (by decide) ?_
    obtain ⟨v10, ev10, hf⟩ := xb hf
    obtain ⟨v11, ev11, hf⟩ := xb1 hf
    refine xc_Vi (rest := [.int (v7 * v9)]) ⟨hx, hb, hml, hown, hts⟩ (m_X6_ofUser l B0 G h a0 v2 (3 : Int32) v11 ev11) (cwV 2 hts gX6_mostLack_X6_ofUser rfl rfl rfl (by decide +kernel) ⟨Nat.le_of_ble_eq_true rfl, Nat.le_of_ble_eq_true rfl⟩) hKK hP hS ev10 rfl rfl hl.1 rfl (Nat.le_of_ble_eq_true rfl) dX6_mostLack_32 ⟨Nat.zero_le _, Nat.zero_le _⟩ (fun H locs hP hS => ?_)
    refine lv_isub hx hb dX6_mostLack_35 ?_
    obtain ⟨v12, ev12, hf⟩ := xl hf
    refine xtopi ev12 ?_
    refine lv_istore_n (lv' := [(3, .int v12), (1, .int v1), (2, .int v2), (0, .ref a0)]) hx hb dX6_mostLack_36 rfl hl (by decide) rfl (fun ls hl => ?_)
    refine lv_iload_n hx hb dX6_mostLack_37 rfl (lv_at hl 0 rfl) ?_
    refine lv_iload_n hx hb dX6_mostLack_38 rfl (lv_at hl 1 rfl) ?_
    obtain ⟨v13, ej2, hf⟩ := xb1 hf
    have J2 : ∀ (H : Heap) (locs : List Loc) (ls : Array Slot), xP B0 G h H → va_S (xA B0) s.heap H locs → lv_has ls 4 [(2, .int v2), (0, .ref a0)] → W p l e rmX6_mostLack s m args below meth c H locs 0 0 Q (F0 m 47 ls [.int v13]) := by
      intro H locs ls hP hS hl
      clear ej2
      refine lv_istore_n (lv' := [(1, .int v13), (2, .int v2), (0, .ref a0)]) hx hb dX6_mostLack_47 rfl hl (by decide) rfl (fun ls hl => ?_)
      obtain ⟨v14, ev14, hf⟩ := xl hf
      refine lv_iinc (v := v14) (lv' := [(2, .int v14), (1, .int v13), (0, .ref a0)]) hx hb dX6_mostLack_48 hl (k := 1) rfl (by rw [ev14]; rfl) (by decide) rfl (fun ls hl => ?_)
      refine lv_goto (tgt := 4) hx hb dX6_mostLack_51 (by decide) ?_
      exact IH _ (Option.some.inj hf).symm _ _ _ hP hS (lv_sub hl [1, 0, 2] rfl)
    have hf := ej2
    clear ej2
    refine lv_icmp_le (tgt := 46) hx hb dX6_mostLack_39 (by decide) (fun c2 => ?_) (fun c2 => ?_)
    · have hf := xif_t hf c2
      refine lv_iload_n hx hb dX6_mostLack_46 rfl (lv_at hl 1 rfl) ?_
      obtain rfl := Option.some.inj hf
      exact J2 _ _ _ hP hS (lv_sub hl [2, 3] rfl)
    · have hf := xif_f hf c2
      refine lv_iload_n hx hb dX6_mostLack_42 rfl (lv_at hl 0 rfl) ?_
      refine lv_goto (tgt := 47) hx hb dX6_mostLack_43 (by decide) ?_
      obtain rfl := Option.some.inj hf
      exact J2 _ _ _ hP hS (lv_sub hl [2, 3] rfl)
/-- RainReservoirModel.bestRule -/
def f_X6_bestRule (fu : Nat) (h : XH) (a0 : Nat) : Option (Int32 × XH) :=
  (xpV h a0 6 4 (.int (0 : Int32))).bind fun h1 =>
  (xis h1 a0 6).bind fun v1 =>
  obind1 (f_X6_lays fu h1 a0) fun h2 =>
  obind2 (xloop (xf4 fun (v2 : Int32) (v3 : Int32) (v4 : Int32) (h3 : XH) =>
    if (4 : Int32) ≤ v4 then
      some (.inr (v2, h3))
    else
      (xgR h3 a0 6 0).bind fun v6 =>
      (xast h3 v6 0 (5 : Int32) v4).bind fun h5 =>
      (xis h5 a0 6).bind fun v7 =>
      obind2 (f_X6_shortDays fu h5 a0) fun v8 h6 =>
      (xis h6 a0 6).bind fun v9 =>
      obind1 (f_X6_mostLack fu h6 a0) fun v10 =>
      (xis h6 a0 6).bind fun v11 =>
      obind1 (f_X6_takesBack fu h6 a0) fun h7 =>
      obind1 (
        oletk (
          some (1 : Int32)
        ) fun k3 =>
        if v2 = (-1 : Int32) then
          k3
        else
          if v3 ≤ v10 then
            some (0 : Int32)
          else
            k3
      ) fun v12 =>
      obind1 (
        if v12 = (0 : Int32) then
          some v2
        else
          some v4
      ) fun v13 =>
      obind1 (
        if v12 = (0 : Int32) then
          some v3
        else
          some v10
      ) fun v14 =>
      olet (v4 + (1 : Int32)) fun v15 =>
      some (.inl (v13, v14, v15, h7))
  ) fu ((-1 : Int32), (0 : Int32), (0 : Int32), h2)) fun v5 h4 =>
  some ((v5, h4))
abbrev rmX6_bestRule : Room := { frames := 7, cells := 0, slots := 0, locals := 163 }
set_option maxHeartbeats 4000000 in
set_option maxRecDepth 100000 in
theorem m_X6_bestRule (l : Launch) (B0 : Nat) (G : XG) (fu : Nat) (h hE : XH) (a0 : Nat) (rE : Int32) (hf : f_X6_bestRule fu h a0 = some (rE, hE)) : Met l yX6_bestRule wsX6_bestRule rmX6_bestRule (va_Pc [.ref a0] (xU B0 G h)) (xQi B0 G hE rE) 0 0 (xA B0) := by
  refine xMet (cc := cX6_bestRule) (maxL := 7) (by decide) rfl (Nat.le_of_ble_eq_true rfl) ?_
  intro p e s m args below meth c ls hx hb hr hml hown hlocks hnm hts hKK hP hl
  have hown : s.vm.findClass RX6 = some m.cls := hown
  have hl : lv_has ls 7 [(0, .ref a0)] := hl
  have hS : va_S (xA B0) s.heap s.heap [] := va_S.rf
  have inX6 : ∀ w ∈ wsX60, w ∈ wsX6_bestRule := by decide +kernel
  have w1 := hts (.fieldLink RX6 26 "RainReservoirModel" "thrown" "I") (by decide +kernel)
  have w2 := hts (.fieldLink RX6 7 "RainReservoirModel" "all" "[I") (by decide +kernel)
  generalize hQ : MQ below (xQi B0 G hE rE) args s 0 0 (xA B0) = Q
  unfold f_X6_bestRule at hf
  refine lv_aload_n hx hb dX6_bestRule_0 rfl (lv_at hl 0 rfl) ?_
  refine lv_iconst (v := (0 : Int32)) hx hb dX6_bestRule_1 (by decide) ?_
  obtain ⟨h1, eh1, hf⟩ := xb hf
  refine xr_put hx hb hts inX6 tyX6 tyX6_ok nmX6 hown hKK hP hS eh1 rfl (by decide) w1 (fun _ h9 => h9) rfl (tyX6_ok 4 (by decide)) rfl rfl dX6_bestRule_2 (fun H locs hP _ hS => ?_)
  refine lv_aload_n hx hb dX6_bestRule_5 rfl (lv_at hl 0 rfl) ?_
  obtain ⟨v1, ev1, hf⟩ := xb hf
  obtain ⟨h2, eh2, hf⟩ := xb1 hf
  refine xc_Vv (rest := []) ⟨hx, hb, hml, hown, hts⟩ (m_X6_lays l B0 G fu h1 h2 a0 eh2) (cwV 0 hts gX6_bestRule_X6_lays rfl rfl rfl (by decide +kernel) ⟨Nat.le_of_ble_eq_true rfl, Nat.le_of_ble_eq_true rfl⟩) hKK hP hS ev1 rfl rfl hl.1 rfl (Nat.le_of_ble_eq_true rfl) dX6_bestRule_6 ⟨Nat.zero_le _, Nat.zero_le _⟩ (fun H locs hP hS => ?_)
  refine lv_iconst (v := (-1 : Int32)) hx hb dX6_bestRule_9 (by decide) ?_
  refine lv_istore_n (lv' := [(1, .int (-1 : Int32)), (0, .ref a0)]) hx hb dX6_bestRule_10 rfl hl (by decide) rfl (fun ls hl => ?_)
  refine lv_iconst (v := (0 : Int32)) hx hb dX6_bestRule_11 (by decide) ?_
  refine lv_istore_n (lv' := [(2, .int (0 : Int32)), (1, .int (-1 : Int32)), (0, .ref a0)]) hx hb dX6_bestRule_12 rfl hl (by decide) rfl (fun ls hl => ?_)
  refine lv_iconst (v := (0 : Int32)) hx hb dX6_bestRule_13 (by decide) ?_
  refine lv_istore_n (lv' := [(3, .int (0 : Int32)), (2, .int (0 : Int32)), (1, .int (-1 : Int32)), (0, .ref a0)]) hx hb dX6_bestRule_14 rfl hl (by decide) rfl (fun ls hl => ?_)
  obtain ⟨v5, h4, eL, hf⟩ := xb2 hf
  have J1 : ∀ (H : Heap) (locs : List Loc) (ls : Array Slot), xP B0 G h4 H → va_S (xA B0) s.heap H locs → lv_has ls 7 [(1, .int v5)] → W p l e rmX6_bestRule s m args below meth c H locs 0 0 Q (F0 m 90 ls []) := by
    intro H locs ls hP hS hl
    clear eL
    refine lv_iload_n hx hb dX6_bestRule_90 rfl (lv_at hl 0 rfl) ?_
    obtain ⟨rfl, rfl⟩ := xinj2 hf
    subst hQ
    exact xe_i hx hb hr hlocks hKK hP hS dX6_bestRule_91
  clear hf
  refine xloop_ind (P := fun z => ∀ (H : Heap) (locs : List Loc) (ls : Array Slot), xP B0 G z.2.2.2 H → va_S (xA B0) s.heap H locs → lv_has ls 7 [(1, .int z.1), (2, .int z.2.1), (3, .int z.2.2.1), (0, .ref a0)] → W p l e rmX6_bestRule s m args below meth c H locs 0 0 Q (F0 m 15 ls [])) ?_ eL _ _ _ hP hS (lv_sub hl [2, 1, 0, 3] rfl)
  rintro ⟨v2, v3, v4, h3⟩ o hf IH EX H locs ls hP hS hl
  have hf := xf4_e hf
  have hP : xP B0 G h3 H := hP
  have hl : lv_has ls 7 [(1, .int v2), (2, .int v3), (3, .int v4), (0, .ref a0)] := hl
  refine lv_iload_n hx hb dX6_bestRule_15 rfl (lv_at hl 2 rfl) ?_
  refine lv_iconst (v := (4 : Int32)) hx hb dX6_bestRule_16 (by decide) ?_
  refine lv_icmp_ge (tgt := 90) hx hb dX6_bestRule_17 (by decide) (fun c1 => ?_) (fun c1 => ?_)
  · have hf := xif_t hf c1
    have hf := EX _ (Option.some.inj hf).symm
    obtain ⟨rfl, rfl⟩ := xpair2 hf
    exact J1 _ _ _ hP hS (lv_sub hl [0] rfl)
  · have hf := xif_f hf c1
    refine lv_aload_n hx hb dX6_bestRule_20 rfl (lv_at hl 3 rfl) ?_
    obtain ⟨v6, ev6, hf⟩ := xb hf
    refine xr_getR hx hb hts inX6 hown hKK hP ev6 rfl (by decide) w2 (fun _ h9 => h9) dX6_bestRule_21 ?_
    refine lv_iconst (v := (5 : Int32)) hx hb dX6_bestRule_24 (by decide) ?_
    refine lv_iload_n hx hb dX6_bestRule_25 rfl (lv_at hl 2 rfl) ?_
    obtain ⟨h5, eh5, hf⟩ := xb hf
    refine xr_iast hx hb hKK hP hS eh5 dX6_bestRule_26 (fun H locs hP _ hS => ?_)
    refine lv_aload_n hx hb dX6_bestRule_27 rfl (lv_at hl 3 rfl) ?_
    obtain ⟨v7, ev7, hf⟩ := xb hf
    obtain ⟨v8, h6, ev8, hf⟩ := xb2 hf
    refine xc_Vi (rest := []) ⟨hx, hb, hml, hown, hts⟩ (m_X6_shortDays l B0 G fu h5 h6 a0 v8 ev8) (cwV 0 hts gX6_bestRule_X6_shortDays rfl rfl rfl (by decide +kernel) ⟨Nat.le_of_ble_eq_true rfl, Nat.le_of_ble_eq_true rfl⟩) hKK hP hS ev7 rfl rfl hl.1 rfl (Nat.le_of_ble_eq_true rfl) dX6_bestRule_28 ⟨Nat.zero_le _, Nat.zero_le _⟩ (fun H locs hP hS => ?_)
    refine lv_istore (lv' := [(4, .int v8), (1, .int v2), (2, .int v3), (3, .int v4), (0, .ref a0)]) hx hb dX6_bestRule_31 hl (by decide) rfl (fun ls hl => ?_)
    refine lv_aload_n hx hb dX6_bestRule_33 rfl (lv_at hl 4 rfl) ?_
    obtain ⟨v9, ev9, hf⟩ := xb hf
    obtain ⟨v10, ev10, hf⟩ := xb1 hf
    refine xc_Vi (rest := []) ⟨hx, hb, hml, hown, hts⟩ (m_X6_mostLack l B0 G fu h6 a0 v10 ev10) (cwV 0 hts gX6_bestRule_X6_mostLack rfl rfl rfl (by decide +kernel) ⟨Nat.le_of_ble_eq_true rfl, Nat.le_of_ble_eq_true rfl⟩) hKK hP hS ev9 rfl rfl hl.1 rfl (Nat.le_of_ble_eq_true rfl) dX6_bestRule_34 ⟨Nat.zero_le _, Nat.zero_le _⟩ (fun H locs hP hS => ?_)
    refine lv_istore (lv' := [(5, .int v10), (4, .int v8), (1, .int v2), (2, .int v3), (3, .int v4), (0, .ref a0)]) hx hb dX6_bestRule_37 hl (by decide) rfl (fun ls hl => ?_)
    refine lv_aload_n hx hb dX6_bestRule_39 rfl (lv_at hl 5 rfl) ?_
    obtain ⟨v11, ev11, hf⟩ := xb hf
    obtain ⟨h7, eh7, hf⟩ := xb1 hf
    refine xc_Vv (rest := []) ⟨hx, hb, hml, hown, hts⟩ (m_X6_takesBack l B0 G fu h6 h7 a0 eh7) (cwV 0 hts gX6_bestRule_X6_takesBack rfl rfl rfl (by decide +kernel) ⟨Nat.le_of_ble_eq_true rfl, Nat.le_of_ble_eq_true rfl⟩) hKK hP hS ev11 rfl rfl hl.1 rfl (Nat.le_of_ble_eq_true rfl) dX6_bestRule_40 ⟨Nat.zero_le _, Nat.zero_le _⟩ (fun H locs hP hS => ?_)
    refine lv_iload_n hx hb dX6_bestRule_43 rfl (lv_at hl 2 rfl) ?_
    refine lv_iconst (v := (-1 : Int32)) hx hb dX6_bestRule_44 (by decide) ?_
    obtain ⟨v12, ej2, hf⟩ := xb1 hf
    have J2 : ∀ (H : Heap) (locs : List Loc) (ls : Array Slot), xP B0 G h7 H → va_S (xA B0) s.heap H locs → lv_has ls 7 [(5, .int v10), (1, .int v2), (2, .int v3), (3, .int v4), (0, .ref a0)] → W p l e rmX6_bestRule s m args below meth c H locs 0 0 Q (F0 m 59 ls [.int v12]) := by
      intro H locs ls hP hS hl
      clear ej2
      refine lv_istore (lv' := [(6, .int v12), (5, .int v10), (1, .int v2), (2, .int v3), (3, .int v4), (0, .ref a0)]) hx hb dX6_bestRule_59 hl (by decide) rfl (fun ls hl => ?_)
      refine lv_iload hx hb dX6_bestRule_61 (lv_at hl 0 rfl) ?_
      obtain ⟨v13, ej4, hf⟩ := xb1 hf
      have J4 : ∀ (H : Heap) (locs : List Loc) (ls : Array Slot), xP B0 G h7 H → va_S (xA B0) s.heap H locs → lv_has ls 7 [(6, .int v12), (5, .int v10), (2, .int v3), (3, .int v4), (0, .ref a0)] → W p l e rmX6_bestRule s m args below meth c H locs 0 0 Q (F0 m 71 ls [.int v13]) := by
        intro H locs ls hP hS hl
        clear ej4
        refine lv_istore_n (lv' := [(1, .int v13), (6, .int v12), (5, .int v10), (2, .int v3), (3, .int v4), (0, .ref a0)]) hx hb dX6_bestRule_71 rfl hl (by decide) rfl (fun ls hl => ?_)
        refine lv_iload hx hb dX6_bestRule_72 (lv_at hl 1 rfl) ?_
        obtain ⟨v14, ej5, hf⟩ := xb1 hf
        have J5 : ∀ (H : Heap) (locs : List Loc) (ls : Array Slot), xP B0 G h7 H → va_S (xA B0) s.heap H locs → lv_has ls 7 [(1, .int v13), (3, .int v4), (0, .ref a0)] → W p l e rmX6_bestRule s m args below meth c H locs 0 0 Q (F0 m 83 ls [.int v14]) := by
          intro H locs ls hP hS hl
          clear ej5
          refine lv_istore_n (lv' := [(2, .int v14), (1, .int v13), (3, .int v4), (0, .ref a0)]) hx hb dX6_bestRule_83 rfl hl (by decide) rfl (fun ls hl => ?_)
          obtain ⟨v15, ev15, hf⟩ := xl hf
          refine lv_iinc (v := v15) (lv' := [(3, .int v15), (2, .int v14), (1, .int v13), (0, .ref a0)]) hx hb dX6_bestRule_84 hl (k := 2) rfl (by rw [ev15]; rfl) (by decide) rfl (fun ls hl => ?_)
          refine lv_goto (tgt := 15) hx hb dX6_bestRule_87 (by decide) ?_
          exact IH _ (Option.some.inj hf).symm _ _ _ hP hS (lv_sub hl [2, 1, 0, 3] rfl)
        have hf := ej5
        clear ej5
        refine lv_if_eq (tgt := 82) hx hb dX6_bestRule_74 (by decide) (fun c5 => ?_) (fun c5 => ?_)
        · have hf := xif_t hf c5
          refine lv_iload_n hx hb dX6_bestRule_82 rfl (lv_at hl 3 rfl) ?_
          obtain rfl := Option.some.inj hf
          exact J5 _ _ _ hP hS (lv_sub hl [0, 4, 5] rfl)
        · have hf := xif_f hf c5
          refine lv_iload hx hb dX6_bestRule_77 (lv_at hl 2 rfl) ?_
          refine lv_goto (tgt := 83) hx hb dX6_bestRule_79 (by decide) ?_
          obtain rfl := Option.some.inj hf
          exact J5 _ _ _ hP hS (lv_sub hl [0, 4, 5] rfl)
      have hf := ej4
      clear ej4
      refine lv_if_eq (tgt := 70) hx hb dX6_bestRule_63 (by decide) (fun c4 => ?_) (fun c4 => ?_)
      · have hf := xif_t hf c4
        refine lv_iload_n hx hb dX6_bestRule_70 rfl (lv_at hl 2 rfl) ?_
        obtain rfl := Option.some.inj hf
        exact J4 _ _ _ hP hS (lv_sub hl [0, 1, 3, 4, 5] rfl)
      · have hf := xif_f hf c4
        refine lv_iload_n hx hb dX6_bestRule_66 rfl (lv_at hl 4 rfl) ?_
        refine lv_goto (tgt := 71) hx hb dX6_bestRule_67 (by decide) ?_
        obtain rfl := Option.some.inj hf
        exact J4 _ _ _ hP hS (lv_sub hl [0, 1, 3, 4, 5] rfl)
    have hf := ej2
    clear ej2
    obtain ⟨k3, ek3, hf⟩ := xlk hf
    have J3 : k3 = some v12 → ∀ (H : Heap) (locs : List Loc) (ls : Array Slot), xP B0 G h7 H → va_S (xA B0) s.heap H locs → lv_has ls 7 [(5, .int v10), (1, .int v2), (2, .int v3), (3, .int v4), (0, .ref a0)] → W p l e rmX6_bestRule s m args below meth c H locs 0 0 Q (F0 m 54 ls []) := by
      intro  hf H locs ls hP hS hl
      have hf := xk0 ek3 hf
      clear ek3
      refine lv_iconst (v := (1 : Int32)) hx hb dX6_bestRule_54 (by decide) ?_
      refine lv_goto (tgt := 59) hx hb dX6_bestRule_55 (by decide) ?_
      obtain rfl := Option.some.inj hf
      exact J2 _ _ _ hP hS (lv_sub hl [0, 1, 2, 3, 4] rfl)
    clear ek3
    refine lv_icmp_eq (tgt := 54) hx hb dX6_bestRule_45 (by decide) (fun c2 => ?_) (fun c2 => ?_)
    · have hf := xif_t hf c2
      exact J3  hf _ _ _ hP hS (lv_sub hl [0, 2, 3, 4, 5] rfl)
    · have hf := xif_f hf c2
      refine lv_iload hx hb dX6_bestRule_48 (lv_at hl 0 rfl) ?_
      refine lv_iload_n hx hb dX6_bestRule_50 rfl (lv_at hl 3 rfl) ?_
      refine lv_icmp_ge (tgt := 58) hx hb dX6_bestRule_51 (by decide) (fun c3 => ?_) (fun c3 => ?_)
      · have hf := xif_t hf c3
        refine lv_iconst (v := (0 : Int32)) hx hb dX6_bestRule_58 (by decide) ?_
        obtain rfl := Option.some.inj hf
        exact J2 _ _ _ hP hS (lv_sub hl [0, 2, 3, 4, 5] rfl)
      · have hf := xif_f hf c3
        exact J3  hf _ _ _ hP hS (lv_sub hl [0, 2, 3, 4, 5] rfl)
/-- RainReservoirModel.sustainable -/
def f_X6_sustainable (fu : Nat) (h : XH) (a0 : Nat) : Option (Int32 × XH) :=
  (xpV h a0 6 4 (.int (0 : Int32))).bind fun h1 =>
  (xis h1 a0 6).bind fun v1 =>
  obind1 (f_X6_lays fu h1 a0) fun h2 =>
  oret1 (xloop (xf2 fun (v2 : Int32) (h3 : XH) =>
    if v2 ≤ (0 : Int32) then
      some (.inr (.inl h3))
    else
      obind1 (xloop (xf2 fun (v3 : Int32) (h5 : XH) =>
        (xgR h5 a0 6 0).bind fun v4 =>
        (xald h5 v4 0 (7 : Int32)).bind fun v5 =>
        if v5 ≤ v3 then
          some (.inr h5)
        else
          (xgR h5 a0 6 0).bind fun v6 =>
          obind1 (f_X6_userAt v3 (0 : Int32)) fun v7 =>
          (xis h5 a0 6).bind fun v8 =>
          obind1 (f_X6_ofUser h5 a0 v3 (0 : Int32)) fun v9 =>
          (xast h5 v6 0 v7 ((v9 * v2) / (100 : Int32))).bind fun h7 =>
          olet (v3 + (1 : Int32)) fun v10 =>
          some (.inl (v10, h7))
      ) fu ((0 : Int32), h3)) fun h6 =>
      (xis h6 a0 6).bind fun v11 =>
      obind2 (f_X6_shortDays fu h6 a0) fun v12 h8 =>
      (xis h8 a0 6).bind fun v13 =>
      obind1 (f_X6_takesBack fu h8 a0) fun h9 =>
      if v12 = (0 : Int32) then
        some (.inr (.inr (v2, h9)))
      else
        olet (v2 + (-5 : Int32)) fun v14 =>
        some (.inl (v14, h9))
  ) fu ((300 : Int32), h2)) fun h4 =>
  some (((-1 : Int32), h4))
abbrev rmX6_sustainable : Room := { frames := 7, cells := 0, slots := 0, locals := 163 }
set_option maxHeartbeats 4000000 in
set_option maxRecDepth 100000 in
theorem m_X6_sustainable (l : Launch) (B0 : Nat) (G : XG) (fu : Nat) (h hE : XH) (a0 : Nat) (rE : Int32) (hf : f_X6_sustainable fu h a0 = some (rE, hE)) : Met l yX6_sustainable wsX6_sustainable rmX6_sustainable (va_Pc [.ref a0] (xU B0 G h)) (xQi B0 G hE rE) 0 0 (xA B0) := by
  refine xMet (cc := cX6_sustainable) (maxL := 3) (by decide) rfl (Nat.le_of_ble_eq_true rfl) ?_
  intro p e s m args below meth c ls hx hb hr hml hown hlocks hnm hts hKK hP hl
  have hown : s.vm.findClass RX6 = some m.cls := hown
  have hl : lv_has ls 3 [(0, .ref a0)] := hl
  have hS : va_S (xA B0) s.heap s.heap [] := va_S.rf
  have inX6 : ∀ w ∈ wsX60, w ∈ wsX6_sustainable := by decide +kernel
  have w1 := hts (.fieldLink RX6 26 "RainReservoirModel" "thrown" "I") (by decide +kernel)
  have w2 := hts (.fieldLink RX6 7 "RainReservoirModel" "all" "[I") (by decide +kernel)
  generalize hQ : MQ below (xQi B0 G hE rE) args s 0 0 (xA B0) = Q
  unfold f_X6_sustainable at hf
  refine lv_aload_n hx hb dX6_sustainable_0 rfl (lv_at hl 0 rfl) ?_
  refine lv_iconst (v := (0 : Int32)) hx hb dX6_sustainable_1 (by decide) ?_
  obtain ⟨h1, eh1, hf⟩ := xb hf
  refine xr_put hx hb hts inX6 tyX6 tyX6_ok nmX6 hown hKK hP hS eh1 rfl (by decide) w1 (fun _ h9 => h9) rfl (tyX6_ok 4 (by decide)) rfl rfl dX6_sustainable_2 (fun H locs hP _ hS => ?_)
  refine lv_aload_n hx hb dX6_sustainable_5 rfl (lv_at hl 0 rfl) ?_
  obtain ⟨v1, ev1, hf⟩ := xb hf
  obtain ⟨h2, eh2, hf⟩ := xb1 hf
  refine xc_Vv (rest := []) ⟨hx, hb, hml, hown, hts⟩ (m_X6_lays l B0 G fu h1 h2 a0 eh2) (cwV 0 hts gX6_sustainable_X6_lays rfl rfl rfl (by decide +kernel) ⟨Nat.le_of_ble_eq_true rfl, Nat.le_of_ble_eq_true rfl⟩) hKK hP hS ev1 rfl rfl hl.1 rfl (Nat.le_of_ble_eq_true rfl) dX6_sustainable_6 ⟨Nat.zero_le _, Nat.zero_le _⟩ (fun H locs hP hS => ?_)
  refine lv_sipush (v := (300 : Int32)) hx hb dX6_sustainable_9 (by decide) ?_
  refine lv_istore_n (lv' := [(1, .int (300 : Int32)), (0, .ref a0)]) hx hb dX6_sustainable_12 rfl hl (by decide) rfl (fun ls hl => ?_)
  obtain ⟨out, eL, hEL, hER⟩ := xr1 hf
  have J1 : ∀ (h4 : XH), out = .inl h4 → ∀ (H : Heap) (locs : List Loc) (ls : Array Slot), xP B0 G h4 H → va_S (xA B0) s.heap H locs → lv_has ls 3 [] → W p l e rmX6_sustainable s m args below meth c H locs 0 0 Q (F0 m 78 ls []) := by
    intro h4 hf H locs ls hP hS hl
    have hf := hEL _ hf
    refine lv_iconst (v := (-1 : Int32)) hx hb dX6_sustainable_78 (by decide) ?_
    obtain ⟨rfl, rfl⟩ := xinj2 hf
    subst hQ
    exact xe_i hx hb hr hlocks hKK hP hS dX6_sustainable_79
  refine xloop_ind (P := fun z => ∀ (H : Heap) (locs : List Loc) (ls : Array Slot), xP B0 G z.2 H → va_S (xA B0) s.heap H locs → lv_has ls 3 [(1, .int z.1), (0, .ref a0)] → W p l e rmX6_sustainable s m args below meth c H locs 0 0 Q (F0 m 13 ls [])) ?_ eL _ _ _ hP hS (lv_sub hl [0, 1] rfl)
  rintro ⟨v2, h3⟩ o hf IH EX H locs ls hP hS hl
  have EXL := fun r1 (e1 : o = .inr (.inl r1)) => (EX _ e1).symm
  have EXR := fun r1 (e1 : o = .inr (.inr r1)) => hER r1 (EX _ e1).symm
  have hf := xf2_e hf
  have hP : xP B0 G h3 H := hP
  have hl : lv_has ls 3 [(1, .int v2), (0, .ref a0)] := hl
  refine lv_iload_n hx hb dX6_sustainable_13 rfl (lv_at hl 0 rfl) ?_
  refine lv_if_le (tgt := 78) hx hb dX6_sustainable_14 (by decide) (fun c1 => ?_) (fun c1 => ?_)
  · have hf := xif_t hf c1
    have hf := EXL _ (Option.some.inj hf).symm
    exact J1 _ hf _ _ _ hP hS (lv_sub hl [] rfl)
  · have hf := xif_f hf c1
    refine lv_iconst (v := (0 : Int32)) hx hb dX6_sustainable_17 (by decide) ?_
    refine lv_istore_n (lv' := [(2, .int (0 : Int32)), (1, .int v2), (0, .ref a0)]) hx hb dX6_sustainable_18 rfl hl (by decide) rfl (fun ls hl => ?_)
    obtain ⟨h6, eL, hf⟩ := xb1 hf
    have J2 : ∀ (H : Heap) (locs : List Loc) (ls : Array Slot), xP B0 G h6 H → va_S (xA B0) s.heap H locs → lv_has ls 3 [(1, .int v2), (0, .ref a0)] → W p l e rmX6_sustainable s m args below meth c H locs 0 0 Q (F0 m 57 ls []) := by
      intro H locs ls hP hS hl
      clear eL
      refine lv_aload_n hx hb dX6_sustainable_57 rfl (lv_at hl 1 rfl) ?_
      obtain ⟨v11, ev11, hf⟩ := xb hf
      obtain ⟨v12, h8, ev12, hf⟩ := xb2 hf
      refine xc_Vi (rest := []) ⟨hx, hb, hml, hown, hts⟩ (m_X6_shortDays l B0 G fu h6 h8 a0 v12 ev12) (cwV 0 hts gX6_sustainable_X6_shortDays rfl rfl rfl (by decide +kernel) ⟨Nat.le_of_ble_eq_true rfl, Nat.le_of_ble_eq_true rfl⟩) hKK hP hS ev11 rfl rfl hl.1 rfl (Nat.le_of_ble_eq_true rfl) dX6_sustainable_58 ⟨Nat.zero_le _, Nat.zero_le _⟩ (fun H locs hP hS => ?_)
      refine lv_istore_n (lv' := [(2, .int v12), (1, .int v2), (0, .ref a0)]) hx hb dX6_sustainable_61 rfl hl (by decide) rfl (fun ls hl => ?_)
      refine lv_aload_n hx hb dX6_sustainable_62 rfl (lv_at hl 2 rfl) ?_
      obtain ⟨v13, ev13, hf⟩ := xb hf
      obtain ⟨h9, eh9, hf⟩ := xb1 hf
      refine xc_Vv (rest := []) ⟨hx, hb, hml, hown, hts⟩ (m_X6_takesBack l B0 G fu h8 h9 a0 eh9) (cwV 0 hts gX6_sustainable_X6_takesBack rfl rfl rfl (by decide +kernel) ⟨Nat.le_of_ble_eq_true rfl, Nat.le_of_ble_eq_true rfl⟩) hKK hP hS ev13 rfl rfl hl.1 rfl (Nat.le_of_ble_eq_true rfl) dX6_sustainable_63 ⟨Nat.zero_le _, Nat.zero_le _⟩ (fun H locs hP hS => ?_)
      refine lv_iload_n hx hb dX6_sustainable_66 rfl (lv_at hl 0 rfl) ?_
      refine lv_if_ne (tgt := 72) hx hb dX6_sustainable_67 (by decide) (fun c3 => ?_) (fun c3 => ?_)
      · have hf := xif_f hf c3
        obtain ⟨v14, ev14, hf⟩ := xl hf
        refine lv_iinc (v := v14) (lv' := [(1, .int v14), (2, .int v12), (0, .ref a0)]) hx hb dX6_sustainable_72 hl (k := 1) rfl (by rw [ev14]; rfl) (by decide) rfl (fun ls hl => ?_)
        refine lv_goto (tgt := 13) hx hb dX6_sustainable_75 (by decide) ?_
        exact IH _ (Option.some.inj hf).symm _ _ _ hP hS (lv_sub hl [0, 2] rfl)
      · have hf := xif_t hf c3
        refine lv_iload_n hx hb dX6_sustainable_70 rfl (lv_at hl 1 rfl) ?_
        have hf := EXR _ (Option.some.inj hf).symm
        obtain ⟨rfl, rfl⟩ := xpair2 hf
        subst hQ
        exact xe_i hx hb hr hlocks hKK hP hS dX6_sustainable_71
    clear hf
    refine xloop_ind (P := fun z => ∀ (H : Heap) (locs : List Loc) (ls : Array Slot), xP B0 G z.2 H → va_S (xA B0) s.heap H locs → lv_has ls 3 [(2, .int z.1), (1, .int v2), (0, .ref a0)] → W p l e rmX6_sustainable s m args below meth c H locs 0 0 Q (F0 m 19 ls [])) ?_ eL _ _ _ hP hS (lv_sub hl [0, 1, 2] rfl)
    rintro ⟨v3, h5⟩ o hf IH EX H locs ls hP hS hl
    have hf := xf2_e hf
    have hP : xP B0 G h5 H := hP
    have hl : lv_has ls 3 [(2, .int v3), (1, .int v2), (0, .ref a0)] := hl
    refine lv_iload_n hx hb dX6_sustainable_19 rfl (lv_at hl 0 rfl) ?_
    refine lv_aload_n hx hb dX6_sustainable_20 rfl (lv_at hl 2 rfl) ?_
    obtain ⟨v4, ev4, hf⟩ := xb hf
    refine xr_getR hx hb hts inX6 hown hKK hP ev4 rfl (by decide) w2 (fun _ h9 => h9) dX6_sustainable_21 ?_
    refine lv_bipush (v := (7 : Int32)) hx hb dX6_sustainable_24 (by decide) ?_
    obtain ⟨v5, ev5, hf⟩ := xb hf
    refine xr_iald hx hb hKK hP ev5 dX6_sustainable_26 ?_
    refine lv_icmp_ge (tgt := 57) hx hb dX6_sustainable_27 (by decide) (fun c2 => ?_) (fun c2 => ?_)
    · have hf := xif_t hf c2
      have hf := EX _ (Option.some.inj hf).symm
      obtain rfl := hf
      exact J2 _ _ _ hP hS (lv_sub hl [1, 2] rfl)
    · have hf := xif_f hf c2
      refine lv_aload_n hx hb dX6_sustainable_30 rfl (lv_at hl 2 rfl) ?_
      obtain ⟨v6, ev6, hf⟩ := xb hf
      refine xr_getR hx hb hts inX6 hown hKK hP ev6 rfl (by decide) w2 (fun _ h9 => h9) dX6_sustainable_31 ?_
      refine lv_iload_n hx hb dX6_sustainable_34 rfl (lv_at hl 0 rfl) ?_
      refine lv_iconst (v := (0 : Int32)) hx hb dX6_sustainable_35 (by decide) ?_
      obtain ⟨v7, ev7, hf⟩ := xb1 hf
      refine xc_Si (rest := [.ref v6]) ⟨hx, hb, hml, hown, hts⟩ (m_X6_userAt l B0 G h5 v3 (0 : Int32) v7 ev7) (va_cwS 2 hts gX6_sustainable_X6_userAt rfl rfl rfl (by decide +kernel) ⟨Nat.le_of_ble_eq_true rfl, Nat.le_of_ble_eq_true rfl⟩) hKK hP hS rfl hl.1 rfl (Nat.le_of_ble_eq_true rfl) dX6_sustainable_36 ⟨Nat.zero_le _, Nat.zero_le _⟩ (fun H locs hP hS => ?_)
      refine lv_aload_n hx hb dX6_sustainable_39 rfl (lv_at hl 2 rfl) ?_
      refine lv_iload_n hx hb dX6_sustainable_40 rfl (lv_at hl 0 rfl) ?_
      refine lv_iconst (v := (0 : Int32)) hx hb dX6_sustainable_41 (by decide) ?_
      obtain ⟨v8, ev8, hf⟩ := xb hf
      obtain ⟨v9, ev9, hf⟩ := xb1 hf
      refine xc_Vi (rest := [.int v7, .ref v6]) ⟨hx, hb, hml, hown, hts⟩ (m_X6_ofUser l B0 G h5 a0 v3 (0 : Int32) v9 ev9) (cwV 2 hts gX6_sustainable_X6_ofUser rfl rfl rfl (by decide +kernel) ⟨Nat.le_of_ble_eq_true rfl, Nat.le_of_ble_eq_true rfl⟩) hKK hP hS ev8 rfl rfl hl.1 rfl (Nat.le_of_ble_eq_true rfl) dX6_sustainable_42 ⟨Nat.zero_le _, Nat.zero_le _⟩ (fun H locs hP hS => ?_)
      refine lv_iload_n hx hb dX6_sustainable_45 rfl (lv_at hl 1 rfl) ?_
      refine lv_imul hx hb dX6_sustainable_46 ?_
      refine lv_bipush (v := (100 : Int32)) hx hb dX6_sustainable_47 (by decide) ?_
      refine lv_idiv hx hb dX6_sustainable_49 (by decide) ?_
      obtain ⟨h7, eh7, hf⟩ := xb hf
      refine xr_iast hx hb hKK hP hS eh7 dX6_sustainable_50 (fun H locs hP _ hS => ?_)
      obtain ⟨v10, ev10, hf⟩ := xl hf
      refine lv_iinc (v := v10) (lv' := [(2, .int v10), (1, .int v2), (0, .ref a0)]) hx hb dX6_sustainable_51 hl (k := 0) rfl (by rw [ev10]; rfl) (by decide) rfl (fun ls hl => ?_)
      refine lv_goto (tgt := 19) hx hb dX6_sustainable_54 (by decide) ?_
      exact IH _ (Option.some.inj hf).symm _ _ _ hP hS (lv_sub hl [0, 1, 2] rfl)
/-- RainReservoirModel.gutterLoss -/
def f_X6_gutterLoss (fu : Nat) (h : XH) (a0 : Nat) (p0 : Int32) : Option (Int64 × XH) :=
  (xis h a0 6).bind fun v1 =>
  obind1 (f_X6_isRoof h a0 p0) fun v2 =>
  (xis h a0 6).bind fun v3 =>
  obind2 (f_X6_goes h a0 v2 (1 : Int32)) fun v4 h1 =>
  if v4 = (0 : Int32) then
    some (((0 : Int64), h1))
  else
    (xis h1 a0 6).bind fun v5 =>
    obind1 (f_X6_lays fu h1 a0) fun h2 =>
    (xis h2 a0 6).bind fun v6 =>
    obind2 (f_X6_shortDays fu h2 a0) fun v7 h3 =>
    (xis h3 a0 6).bind fun v8 =>
    obind1 (f_X6_takesBack fu h3 a0) fun h4 =>
    (xgR h4 a0 6 7).bind fun v9 =>
    (xaldL h4 v9 p0).bind fun v10 =>
    some ((v10, h4))
abbrev rmX6_gutterLoss : Room := { frames := 7, cells := 0, slots := 0, locals := 163 }
set_option maxHeartbeats 4000000 in
set_option maxRecDepth 100000 in
theorem m_X6_gutterLoss (l : Launch) (B0 : Nat) (G : XG) (fu : Nat) (h hE : XH) (a0 : Nat) (p0 : Int32) (rE : Int64) (hf : f_X6_gutterLoss fu h a0 p0 = some (rE, hE)) : Met l yX6_gutterLoss wsX6_gutterLoss rmX6_gutterLoss (va_Pc [.ref a0, .int p0] (xU B0 G h)) (xQl B0 G hE rE) 0 0 (xA B0) := by
  refine xMet (cc := cX6_gutterLoss) (maxL := 3) (by decide) rfl (Nat.le_of_ble_eq_true rfl) ?_
  intro p e s m args below meth c ls hx hb hr hml hown hlocks hnm hts hKK hP hl
  have hown : s.vm.findClass RX6 = some m.cls := hown
  have hl : lv_has ls 3 [(0, .ref a0), (1, .int p0)] := hl
  have hS : va_S (xA B0) s.heap s.heap [] := va_S.rf
  have inX6 : ∀ w ∈ wsX60, w ∈ wsX6_gutterLoss := by decide +kernel
  have w1 := hts (.fieldLink RX6 19 "RainReservoirModel" "spiltAt" "[J") (by decide +kernel)
  generalize hQ : MQ below (xQl B0 G hE rE) args s 0 0 (xA B0) = Q
  unfold f_X6_gutterLoss at hf
  refine lv_aload_n hx hb dX6_gutterLoss_0 rfl (lv_at hl 0 rfl) ?_
  refine lv_aload_n hx hb dX6_gutterLoss_1 rfl (lv_at hl 0 rfl) ?_
  refine lv_iload_n hx hb dX6_gutterLoss_2 rfl (lv_at hl 1 rfl) ?_
  obtain ⟨v1, ev1, hf⟩ := xb hf
  obtain ⟨v2, ev2, hf⟩ := xb1 hf
  refine xc_Vi (rest := [.ref a0]) ⟨hx, hb, hml, hown, hts⟩ (m_X6_isRoof l B0 G h a0 p0 v2 ev2) (cwV 1 hts gX6_gutterLoss_X6_isRoof rfl rfl rfl (by decide +kernel) ⟨Nat.le_of_ble_eq_true rfl, Nat.le_of_ble_eq_true rfl⟩) hKK hP hS ev1 rfl rfl hl.1 rfl (Nat.le_of_ble_eq_true rfl) dX6_gutterLoss_3 ⟨Nat.zero_le _, Nat.zero_le _⟩ (fun H locs hP hS => ?_)
  refine lv_iconst (v := (1 : Int32)) hx hb dX6_gutterLoss_6 (by decide) ?_
  obtain ⟨v3, ev3, hf⟩ := xb hf
  obtain ⟨v4, h1, ev4, hf⟩ := xb2 hf
  refine xc_Vi (rest := []) ⟨hx, hb, hml, hown, hts⟩ (m_X6_goes l B0 G h h1 a0 v2 (1 : Int32) v4 ev4) (cwV 2 hts gX6_gutterLoss_X6_goes rfl rfl rfl (by decide +kernel) ⟨Nat.le_of_ble_eq_true rfl, Nat.le_of_ble_eq_true rfl⟩) hKK hP hS ev3 rfl rfl hl.1 rfl (Nat.le_of_ble_eq_true rfl) dX6_gutterLoss_7 ⟨Nat.zero_le _, Nat.zero_le _⟩ (fun H locs hP hS => ?_)
  refine lv_if_ne (tgt := 15) hx hb dX6_gutterLoss_10 (by decide) (fun c1 => ?_) (fun c1 => ?_)
  · have hf := xif_f hf c1
    refine lv_aload_n hx hb dX6_gutterLoss_15 rfl (lv_at hl 0 rfl) ?_
    obtain ⟨v5, ev5, hf⟩ := xb hf
    obtain ⟨h2, eh2, hf⟩ := xb1 hf
    refine xc_Vv (rest := []) ⟨hx, hb, hml, hown, hts⟩ (m_X6_lays l B0 G fu h1 h2 a0 eh2) (cwV 0 hts gX6_gutterLoss_X6_lays rfl rfl rfl (by decide +kernel) ⟨Nat.le_of_ble_eq_true rfl, Nat.le_of_ble_eq_true rfl⟩) hKK hP hS ev5 rfl rfl hl.1 rfl (Nat.le_of_ble_eq_true rfl) dX6_gutterLoss_16 ⟨Nat.zero_le _, Nat.zero_le _⟩ (fun H locs hP hS => ?_)
    refine lv_aload_n hx hb dX6_gutterLoss_19 rfl (lv_at hl 0 rfl) ?_
    obtain ⟨v6, ev6, hf⟩ := xb hf
    obtain ⟨v7, h3, ev7, hf⟩ := xb2 hf
    refine xc_Vi (rest := []) ⟨hx, hb, hml, hown, hts⟩ (m_X6_shortDays l B0 G fu h2 h3 a0 v7 ev7) (cwV 0 hts gX6_gutterLoss_X6_shortDays rfl rfl rfl (by decide +kernel) ⟨Nat.le_of_ble_eq_true rfl, Nat.le_of_ble_eq_true rfl⟩) hKK hP hS ev6 rfl rfl hl.1 rfl (Nat.le_of_ble_eq_true rfl) dX6_gutterLoss_20 ⟨Nat.zero_le _, Nat.zero_le _⟩ (fun H locs hP hS => ?_)
    refine lv_istore_n (lv' := [(2, .int v7), (0, .ref a0), (1, .int p0)]) hx hb dX6_gutterLoss_23 rfl hl (by decide) rfl (fun ls hl => ?_)
    refine lv_aload_n hx hb dX6_gutterLoss_24 rfl (lv_at hl 1 rfl) ?_
    obtain ⟨v8, ev8, hf⟩ := xb hf
    obtain ⟨h4, eh4, hf⟩ := xb1 hf
    refine xc_Vv (rest := []) ⟨hx, hb, hml, hown, hts⟩ (m_X6_takesBack l B0 G fu h3 h4 a0 eh4) (cwV 0 hts gX6_gutterLoss_X6_takesBack rfl rfl rfl (by decide +kernel) ⟨Nat.le_of_ble_eq_true rfl, Nat.le_of_ble_eq_true rfl⟩) hKK hP hS ev8 rfl rfl hl.1 rfl (Nat.le_of_ble_eq_true rfl) dX6_gutterLoss_25 ⟨Nat.zero_le _, Nat.zero_le _⟩ (fun H locs hP hS => ?_)
    refine lv_aload_n hx hb dX6_gutterLoss_28 rfl (lv_at hl 1 rfl) ?_
    obtain ⟨v9, ev9, hf⟩ := xb hf
    refine xr_getR hx hb hts inX6 hown hKK hP ev9 rfl (by decide) w1 (fun _ h9 => h9) dX6_gutterLoss_29 ?_
    refine lv_iload_n hx hb dX6_gutterLoss_32 rfl (lv_at hl 2 rfl) ?_
    obtain ⟨v10, ev10, hf⟩ := xb hf
    refine xr_lald hx hb hKK hP ev10 dX6_gutterLoss_33 ?_
    obtain ⟨rfl, rfl⟩ := xinj2 hf
    subst hQ
    exact xe_l hx hb hr hlocks hKK hP hS dX6_gutterLoss_34
  · have hf := xif_t hf c1
    refine lv_lconst (v := (0 : Int64)) hx hb dX6_gutterLoss_13 (by decide) ?_
    obtain ⟨rfl, rfl⟩ := xinj2 hf
    subst hQ
    exact xe_l hx hb hr hlocks hKK hP hS dX6_gutterLoss_14
/-- RainReservoirModel.append -/
def f_X6_append (h : XH) (a0 : Nat) (p0 : Int32) : Option (Int32 × XH) :=
  obind1 (f_X6_in (Int32.toInt64 p0) (0 : Int64) (127 : Int64)) fun v1 =>
  (xgI h a0 6 10).bind fun v2 =>
  obind1 (
    if (120 : Int32) ≤ v2 then
      some (0 : Int32)
    else
      some (1 : Int32)
  ) fun v3 =>
  (xis h a0 6).bind fun v4 =>
  obind2 (f_X6_goes h a0 v1 v3) fun v5 h1 =>
  if v5 = (0 : Int32) then
    some (((0 : Int32), h1))
  else
    (xgR h1 a0 6 9).bind fun v6 =>
    (xgI h1 a0 6 10).bind fun v7 =>
    (xast h1 v6 0 v7 p0).bind fun h2 =>
    (xgI h2 a0 6 10).bind fun v8 =>
    (xpV h2 a0 6 10 (.int (v8 + (1 : Int32)))).bind fun h3 =>
    (xgI h3 a0 6 10).bind fun v9 =>
    some ((v9, h3))
abbrev rmX6_append : Room := { frames := 1, cells := 0, slots := 0, locals := 25 }
set_option maxHeartbeats 4000000 in
set_option maxRecDepth 100000 in
theorem m_X6_append (l : Launch) (B0 : Nat) (G : XG) (h hE : XH) (a0 : Nat) (p0 : Int32) (rE : Int32) (hf : f_X6_append h a0 p0 = some (rE, hE)) : Met l yX6_append wsX6_append rmX6_append (va_Pc [.ref a0, .int p0] (xU B0 G h)) (xQi B0 G hE rE) 0 0 (xA B0) := by
  refine xMet (cc := cX6_append) (maxL := 2) (by decide) rfl (Nat.le_of_ble_eq_true rfl) ?_
  intro p e s m args below meth c ls hx hb hr hml hown hlocks hnm hts hKK hP hl
  have hown : s.vm.findClass RX6 = some m.cls := hown
  have hl : lv_has ls 2 [(0, .ref a0), (1, .int p0)] := hl
  have hS : va_S (xA B0) s.heap s.heap [] := va_S.rf
  have inX6 : ∀ w ∈ wsX60, w ∈ wsX6_append := by decide +kernel
  have w1 := hts (.constantLong RX6 177 (127)) (by decide +kernel)
  have w2 := hts (.fieldLink RX6 179 "RainReservoirModel" "textLong" "I") (by decide +kernel)
  have w3 := hts (.fieldLink RX6 23 "RainReservoirModel" "text" "[I") (by decide +kernel)
  generalize hQ : MQ below (xQi B0 G hE rE) args s 0 0 (xA B0) = Q
  unfold f_X6_append at hf
  refine lv_aload_n hx hb dX6_append_0 rfl (lv_at hl 0 rfl) ?_
  refine lv_iload_n hx hb dX6_append_1 rfl (lv_at hl 1 rfl) ?_
  refine lv_i2l hx hb dX6_append_2 rfl ?_
  refine lv_lconst (v := (0 : Int64)) hx hb dX6_append_3 (by decide) ?_
  refine lv_ldc2 (v := (127 : Int64)) hx hb hown w1 dX6_append_4 ?_
  obtain ⟨v1, ev1, hf⟩ := xb1 hf
  refine xc_Si (rest := [.ref a0]) ⟨hx, hb, hml, hown, hts⟩ (m_X6_in l B0 G h (Int32.toInt64 p0) (0 : Int64) (127 : Int64) v1 ev1) (va_cwS 3 hts gX6_append_X6_in rfl rfl rfl (by decide +kernel) ⟨Nat.le_of_ble_eq_true rfl, Nat.le_of_ble_eq_true rfl⟩) hKK hP hS rfl hl.1 rfl (Nat.le_of_ble_eq_true rfl) dX6_append_7 ⟨Nat.zero_le _, Nat.zero_le _⟩ (fun H locs hP hS => ?_)
  refine lv_aload_n hx hb dX6_append_10 rfl (lv_at hl 0 rfl) ?_
  obtain ⟨v2, ev2, hf⟩ := xb hf
  refine xr_getI hx hb hts inX6 hown hKK hP ev2 rfl (by decide) w2 (fun _ h9 => h9) dX6_append_11 ?_
  refine lv_bipush (v := (120 : Int32)) hx hb dX6_append_14 (by decide) ?_
  obtain ⟨v3, ej1, hf⟩ := xb1 hf
  have J1 : ∀ (H : Heap) (locs : List Loc) (ls : Array Slot), xP B0 G h H → va_S (xA B0) s.heap H locs → lv_has ls 2 [(0, .ref a0), (1, .int p0)] → W p l e rmX6_append s m args below meth c H locs 0 0 Q (F0 m 24 ls [.int v3, .int v1, .ref a0]) := by
    intro H locs ls hP hS hl
    clear ej1
    obtain ⟨v4, ev4, hf⟩ := xb hf
    obtain ⟨v5, h1, ev5, hf⟩ := xb2 hf
    refine xc_Vi (rest := []) ⟨hx, hb, hml, hown, hts⟩ (m_X6_goes l B0 G h h1 a0 v1 v3 v5 ev5) (cwV 2 hts gX6_append_X6_goes rfl rfl rfl (by decide +kernel) ⟨Nat.le_of_ble_eq_true rfl, Nat.le_of_ble_eq_true rfl⟩) hKK hP hS ev4 rfl rfl hl.1 rfl (Nat.le_of_ble_eq_true rfl) dX6_append_24 ⟨Nat.zero_le _, Nat.zero_le _⟩ (fun H locs hP hS => ?_)
    refine lv_if_ne (tgt := 32) hx hb dX6_append_27 (by decide) (fun c2 => ?_) (fun c2 => ?_)
    · have hf := xif_f hf c2
      refine lv_aload_n hx hb dX6_append_32 rfl (lv_at hl 0 rfl) ?_
      obtain ⟨v6, ev6, hf⟩ := xb hf
      refine xr_getR hx hb hts inX6 hown hKK hP ev6 rfl (by decide) w3 (fun _ h9 => h9) dX6_append_33 ?_
      refine lv_aload_n hx hb dX6_append_36 rfl (lv_at hl 0 rfl) ?_
      obtain ⟨v7, ev7, hf⟩ := xb hf
      refine xr_getI hx hb hts inX6 hown hKK hP ev7 rfl (by decide) w2 (fun _ h9 => h9) dX6_append_37 ?_
      refine lv_iload_n hx hb dX6_append_40 rfl (lv_at hl 1 rfl) ?_
      obtain ⟨h2, eh2, hf⟩ := xb hf
      refine xr_iast hx hb hKK hP hS eh2 dX6_append_41 (fun H locs hP _ hS => ?_)
      refine lv_aload_n hx hb dX6_append_42 rfl (lv_at hl 0 rfl) ?_
      refine lv_dup hx hb dX6_append_43 rfl ?_
      obtain ⟨v8, ev8, hf⟩ := xb hf
      refine xr_getI hx hb hts inX6 hown hKK hP ev8 rfl (by decide) w2 (fun _ h9 => h9) dX6_append_44 ?_
      refine lv_iconst (v := (1 : Int32)) hx hb dX6_append_47 (by decide) ?_
      refine lv_iadd hx hb dX6_append_48 ?_
      obtain ⟨h3, eh3, hf⟩ := xb hf
      refine xr_put hx hb hts inX6 tyX6 tyX6_ok nmX6 hown hKK hP hS eh3 rfl (by decide) w2 (fun _ h9 => h9) rfl (tyX6_ok 10 (by decide)) rfl rfl dX6_append_49 (fun H locs hP _ hS => ?_)
      refine lv_aload_n hx hb dX6_append_52 rfl (lv_at hl 0 rfl) ?_
      obtain ⟨v9, ev9, hf⟩ := xb hf
      refine xr_getI hx hb hts inX6 hown hKK hP ev9 rfl (by decide) w2 (fun _ h9 => h9) dX6_append_53 ?_
      obtain ⟨rfl, rfl⟩ := xinj2 hf
      subst hQ
      exact xe_i hx hb hr hlocks hKK hP hS dX6_append_56
    · have hf := xif_t hf c2
      refine lv_iconst (v := (0 : Int32)) hx hb dX6_append_30 (by decide) ?_
      obtain ⟨rfl, rfl⟩ := xinj2 hf
      subst hQ
      exact xe_i hx hb hr hlocks hKK hP hS dX6_append_31
  have hf := ej1
  clear ej1
  refine lv_icmp_ge (tgt := 23) hx hb dX6_append_16 (by decide) (fun c1 => ?_) (fun c1 => ?_)
  · have hf := xif_t hf c1
    refine lv_iconst (v := (0 : Int32)) hx hb dX6_append_23 (by decide) ?_
    obtain rfl := Option.some.inj hf
    exact J1 _ _ _ hP hS (lv_sub hl [0, 1] rfl)
  · have hf := xif_f hf c1
    refine lv_iconst (v := (1 : Int32)) hx hb dX6_append_19 (by decide) ?_
    refine lv_goto (tgt := 24) hx hb dX6_append_20 (by decide) ?_
    obtain rfl := Option.some.inj hf
    exact J1 _ _ _ hP hS (lv_sub hl [0, 1] rfl)
/-- RainReservoirModel.clearText -/
def f_X6_clearText (h : XH) (a0 : Nat) : Option (Int32 × XH) :=
  (xpV h a0 6 4 (.int (0 : Int32))).bind fun h1 =>
  (xgI h1 a0 6 10).bind fun v1 =>
  (xpV h1 a0 6 10 (.int (0 : Int32))).bind fun h2 =>
  some ((v1, h2))
abbrev rmX6_clearText : Room := { frames := 0, cells := 0, slots := 0, locals := 0 }
set_option maxHeartbeats 4000000 in
set_option maxRecDepth 100000 in
theorem m_X6_clearText (l : Launch) (B0 : Nat) (G : XG) (h hE : XH) (a0 : Nat) (rE : Int32) (hf : f_X6_clearText h a0 = some (rE, hE)) : Met l yX6_clearText wsX6_clearText rmX6_clearText (va_Pc [.ref a0] (xU B0 G h)) (xQi B0 G hE rE) 0 0 (xA B0) := by
  refine xMet (cc := cX6_clearText) (maxL := 2) (by decide) rfl (Nat.le_of_ble_eq_true rfl) ?_
  intro p e s m args below meth c ls hx hb hr hml hown hlocks hnm hts hKK hP hl
  have hown : s.vm.findClass RX6 = some m.cls := hown
  have hl : lv_has ls 2 [(0, .ref a0)] := hl
  have hS : va_S (xA B0) s.heap s.heap [] := va_S.rf
  have inX6 : ∀ w ∈ wsX60, w ∈ wsX6_clearText := by decide +kernel
  have w1 := hts (.fieldLink RX6 26 "RainReservoirModel" "thrown" "I") (by decide +kernel)
  have w2 := hts (.fieldLink RX6 179 "RainReservoirModel" "textLong" "I") (by decide +kernel)
  generalize hQ : MQ below (xQi B0 G hE rE) args s 0 0 (xA B0) = Q
  unfold f_X6_clearText at hf
  refine lv_aload_n hx hb dX6_clearText_0 rfl (lv_at hl 0 rfl) ?_
  refine lv_iconst (v := (0 : Int32)) hx hb dX6_clearText_1 (by decide) ?_
  obtain ⟨h1, eh1, hf⟩ := xb hf
  refine xr_put hx hb hts inX6 tyX6 tyX6_ok nmX6 hown hKK hP hS eh1 rfl (by decide) w1 (fun _ h9 => h9) rfl (tyX6_ok 4 (by decide)) rfl rfl dX6_clearText_2 (fun H locs hP _ hS => ?_)
  refine lv_aload_n hx hb dX6_clearText_5 rfl (lv_at hl 0 rfl) ?_
  obtain ⟨v1, ev1, hf⟩ := xb hf
  refine xr_getI hx hb hts inX6 hown hKK hP ev1 rfl (by decide) w2 (fun _ h9 => h9) dX6_clearText_6 ?_
  refine lv_istore_n (lv' := [(1, .int v1), (0, .ref a0)]) hx hb dX6_clearText_9 rfl hl (by decide) rfl (fun ls hl => ?_)
  refine lv_aload_n hx hb dX6_clearText_10 rfl (lv_at hl 1 rfl) ?_
  refine lv_iconst (v := (0 : Int32)) hx hb dX6_clearText_11 (by decide) ?_
  obtain ⟨h2, eh2, hf⟩ := xb hf
  refine xr_put hx hb hts inX6 tyX6 tyX6_ok nmX6 hown hKK hP hS eh2 rfl (by decide) w2 (fun _ h9 => h9) rfl (tyX6_ok 10 (by decide)) rfl rfl dX6_clearText_12 (fun H locs hP _ hS => ?_)
  refine lv_iload_n hx hb dX6_clearText_15 rfl (lv_at hl 0 rfl) ?_
  obtain ⟨rfl, rfl⟩ := xinj2 hf
  subst hQ
  exact xe_i hx hb hr hlocks hKK hP hS dX6_clearText_16
/-- RainReservoirModel.isFigure -/
def f_X6_isFigure (h : XH) (a0 : Nat) : Option (Int32) :=
  (xgI h a0 6 11).bind fun v1 =>
  (xgI h a0 6 10).bind fun v2 =>
  obind1 (
    oletk (
      some (0 : Int32)
    ) fun k2 =>
    if v2 ≤ v1 then
      k2
    else
      (xgR h a0 6 9).bind fun v4 =>
      (xgI h a0 6 11).bind fun v5 =>
      (xald h v4 0 v5).bind fun v6 =>
      obind1 (f_X6_in (Int32.toInt64 v6) (48 : Int64) (57 : Int64)) fun v7 =>
      if v7 = (0 : Int32) then
        k2
      else
        some (1 : Int32)
  ) fun v3 =>
  (xbool v3).bind fun v8 =>
  some (v8)
abbrev rmX6_isFigure : Room := { frames := 1, cells := 0, slots := 0, locals := 25 }
set_option maxHeartbeats 4000000 in
set_option maxRecDepth 100000 in
theorem m_X6_isFigure (l : Launch) (B0 : Nat) (G : XG) (h : XH) (a0 : Nat) (rE : Int32) (hf : f_X6_isFigure h a0 = some rE) : Met l yX6_isFigure wsX6_isFigure rmX6_isFigure (va_Pc [.ref a0] (xU B0 G h)) (xQi B0 G h rE) 0 0 (xA B0) := by
  refine xMet (cc := cX6_isFigure) (maxL := 1) (by decide) rfl (Nat.le_of_ble_eq_true rfl) ?_
  intro p e s m args below meth c ls hx hb hr hml hown hlocks hnm hts hKK hP hl
  have hown : s.vm.findClass RX6 = some m.cls := hown
  have hl : lv_has ls 1 [(0, .ref a0)] := hl
  have hS : va_S (xA B0) s.heap s.heap [] := va_S.rf
  have inX6 : ∀ w ∈ wsX60, w ∈ wsX6_isFigure := by decide +kernel
  have w1 := hts (.fieldLink RX6 182 "RainReservoirModel" "place" "I") (by decide +kernel)
  have w2 := hts (.fieldLink RX6 179 "RainReservoirModel" "textLong" "I") (by decide +kernel)
  have w3 := hts (.fieldLink RX6 23 "RainReservoirModel" "text" "[I") (by decide +kernel)
  have w4 := hts (.constantLong RX6 185 (48)) (by decide +kernel)
  have w5 := hts (.constantLong RX6 187 (57)) (by decide +kernel)
  generalize hQ : MQ below (xQi B0 G h rE) args s 0 0 (xA B0) = Q
  unfold f_X6_isFigure at hf
  refine lv_aload_n hx hb dX6_isFigure_0 rfl (lv_at hl 0 rfl) ?_
  obtain ⟨v1, ev1, hf⟩ := xb hf
  refine xr_getI hx hb hts inX6 hown hKK hP ev1 rfl (by decide) w1 (fun _ h9 => h9) dX6_isFigure_1 ?_
  refine lv_aload_n hx hb dX6_isFigure_4 rfl (lv_at hl 0 rfl) ?_
  obtain ⟨v2, ev2, hf⟩ := xb hf
  refine xr_getI hx hb hts inX6 hown hKK hP ev2 rfl (by decide) w2 (fun _ h9 => h9) dX6_isFigure_5 ?_
  obtain ⟨v3, ej1, hf⟩ := xb1 hf
  have J1 : ∀ (H : Heap) (locs : List Loc) (ls : Array Slot), xP B0 G h H → va_S (xA B0) s.heap H locs → lv_has ls 1 [] → W p l e rmX6_isFigure s m args below meth c H locs 0 0 Q (F0 m 38 ls [.int v3]) := by
    intro H locs ls hP hS hl
    clear ej1
    obtain ⟨v8, ev8, hf⟩ := xb hf
    obtain rfl := Option.some.inj hf
    subst hQ
    exact xe_z hx hb hr hlocks hKK hP hS ev8 dX6_isFigure_38
  have hf := ej1
  clear ej1
  obtain ⟨k2, ek2, hf⟩ := xlk hf
  have J2 : k2 = some v3 → ∀ (H : Heap) (locs : List Loc) (ls : Array Slot), xP B0 G h H → va_S (xA B0) s.heap H locs → lv_has ls 1 [] → W p l e rmX6_isFigure s m args below meth c H locs 0 0 Q (F0 m 37 ls []) := by
    intro  hf H locs ls hP hS hl
    have hf := xk0 ek2 hf
    clear ek2
    refine lv_iconst (v := (0 : Int32)) hx hb dX6_isFigure_37 (by decide) ?_
    obtain rfl := Option.some.inj hf
    exact J1 _ _ _ hP hS (lv_sub hl [] rfl)
  clear ek2
  refine lv_icmp_ge (tgt := 37) hx hb dX6_isFigure_8 (by decide) (fun c1 => ?_) (fun c1 => ?_)
  · have hf := xif_t hf c1
    exact J2  hf _ _ _ hP hS (lv_sub hl [] rfl)
  · have hf := xif_f hf c1
    refine lv_aload_n hx hb dX6_isFigure_11 rfl (lv_at hl 0 rfl) ?_
    obtain ⟨v4, ev4, hf⟩ := xb hf
    refine xr_getR hx hb hts inX6 hown hKK hP ev4 rfl (by decide) w3 (fun _ h9 => h9) dX6_isFigure_12 ?_
    refine lv_aload_n hx hb dX6_isFigure_15 rfl (lv_at hl 0 rfl) ?_
    obtain ⟨v5, ev5, hf⟩ := xb hf
    refine xr_getI hx hb hts inX6 hown hKK hP ev5 rfl (by decide) w1 (fun _ h9 => h9) dX6_isFigure_16 ?_
    obtain ⟨v6, ev6, hf⟩ := xb hf
    refine xr_iald hx hb hKK hP ev6 dX6_isFigure_19 ?_
    refine lv_i2l hx hb dX6_isFigure_20 rfl ?_
    refine lv_ldc2 (v := (48 : Int64)) hx hb hown w4 dX6_isFigure_21 ?_
    refine lv_ldc2 (v := (57 : Int64)) hx hb hown w5 dX6_isFigure_24 ?_
    obtain ⟨v7, ev7, hf⟩ := xb1 hf
    refine xc_Si (rest := []) ⟨hx, hb, hml, hown, hts⟩ (m_X6_in l B0 G h (Int32.toInt64 v6) (48 : Int64) (57 : Int64) v7 ev7) (va_cwS 3 hts gX6_isFigure_X6_in rfl rfl rfl (by decide +kernel) ⟨Nat.le_of_ble_eq_true rfl, Nat.le_of_ble_eq_true rfl⟩) hKK hP hS rfl hl.1 rfl (Nat.le_of_ble_eq_true rfl) dX6_isFigure_27 ⟨Nat.zero_le _, Nat.zero_le _⟩ (fun H locs hP hS => ?_)
    refine lv_if_eq (tgt := 37) hx hb dX6_isFigure_30 (by decide) (fun c2 => ?_) (fun c2 => ?_)
    · have hf := xif_t hf c2
      exact J2  hf _ _ _ hP hS (lv_sub hl [] rfl)
    · have hf := xif_f hf c2
      refine lv_iconst (v := (1 : Int32)) hx hb dX6_isFigure_33 (by decide) ?_
      refine lv_goto (tgt := 38) hx hb dX6_isFigure_34 (by decide) ?_
      obtain rfl := Option.some.inj hf
      exact J1 _ _ _ hP hS (lv_sub hl [] rfl)
/-- RainReservoirModel.passesByte -/
def f_X6_passesByte (h : XH) (a0 : Nat) (p0 : Int32) : Option (Int32 × XH) :=
  (xgI h a0 6 11).bind fun v1 =>
  (xgI h a0 6 10).bind fun v2 =>
  obind1 (
    oletk (
      some (0 : Int32)
    ) fun k2 =>
    if v2 ≤ v1 then
      k2
    else
      (xgR h a0 6 9).bind fun v4 =>
      (xgI h a0 6 11).bind fun v5 =>
      (xald h v4 0 v5).bind fun v6 =>
      if v6 = p0 then
        some (1 : Int32)
      else
        k2
  ) fun v3 =>
  (xgI h a0 6 11).bind fun v7 =>
  obind1 (
    if v3 = (0 : Int32) then
      some (0 : Int32)
    else
      some (1 : Int32)
  ) fun v8 =>
  (xpV h a0 6 11 (.int (v7 + v8))).bind fun h1 =>
  (xbool v3).bind fun v9 =>
  some ((v9, h1))
abbrev rmX6_passesByte : Room := { frames := 0, cells := 0, slots := 0, locals := 0 }
set_option maxHeartbeats 4000000 in
set_option maxRecDepth 100000 in
theorem m_X6_passesByte (l : Launch) (B0 : Nat) (G : XG) (h hE : XH) (a0 : Nat) (p0 : Int32) (rE : Int32) (hf : f_X6_passesByte h a0 p0 = some (rE, hE)) : Met l yX6_passesByte wsX6_passesByte rmX6_passesByte (va_Pc [.ref a0, .int p0] (xU B0 G h)) (xQi B0 G hE rE) 0 0 (xA B0) := by
  refine xMet (cc := cX6_passesByte) (maxL := 3) (by decide) rfl (Nat.le_of_ble_eq_true rfl) ?_
  intro p e s m args below meth c ls hx hb hr hml hown hlocks hnm hts hKK hP hl
  have hown : s.vm.findClass RX6 = some m.cls := hown
  have hl : lv_has ls 3 [(0, .ref a0), (1, .int p0)] := hl
  have hS : va_S (xA B0) s.heap s.heap [] := va_S.rf
  have inX6 : ∀ w ∈ wsX60, w ∈ wsX6_passesByte := by decide +kernel
  have w1 := hts (.fieldLink RX6 182 "RainReservoirModel" "place" "I") (by decide +kernel)
  have w2 := hts (.fieldLink RX6 179 "RainReservoirModel" "textLong" "I") (by decide +kernel)
  have w3 := hts (.fieldLink RX6 23 "RainReservoirModel" "text" "[I") (by decide +kernel)
  generalize hQ : MQ below (xQi B0 G hE rE) args s 0 0 (xA B0) = Q
  unfold f_X6_passesByte at hf
  refine lv_aload_n hx hb dX6_passesByte_0 rfl (lv_at hl 0 rfl) ?_
  obtain ⟨v1, ev1, hf⟩ := xb hf
  refine xr_getI hx hb hts inX6 hown hKK hP ev1 rfl (by decide) w1 (fun _ h9 => h9) dX6_passesByte_1 ?_
  refine lv_aload_n hx hb dX6_passesByte_4 rfl (lv_at hl 0 rfl) ?_
  obtain ⟨v2, ev2, hf⟩ := xb hf
  refine xr_getI hx hb hts inX6 hown hKK hP ev2 rfl (by decide) w2 (fun _ h9 => h9) dX6_passesByte_5 ?_
  obtain ⟨v3, ej1, hf⟩ := xb1 hf
  have J1 : ∀ (H : Heap) (locs : List Loc) (ls : Array Slot), xP B0 G h H → va_S (xA B0) s.heap H locs → lv_has ls 3 [(0, .ref a0)] → W p l e rmX6_passesByte s m args below meth c H locs 0 0 Q (F0 m 29 ls [.int v3]) := by
    intro H locs ls hP hS hl
    clear ej1
    refine lv_istore_n (lv' := [(2, .int v3), (0, .ref a0)]) hx hb dX6_passesByte_29 rfl hl (by decide) rfl (fun ls hl => ?_)
    refine lv_aload_n hx hb dX6_passesByte_30 rfl (lv_at hl 1 rfl) ?_
    refine lv_dup hx hb dX6_passesByte_31 rfl ?_
    obtain ⟨v7, ev7, hf⟩ := xb hf
    refine xr_getI hx hb hts inX6 hown hKK hP ev7 rfl (by decide) w1 (fun _ h9 => h9) dX6_passesByte_32 ?_
    refine lv_iload_n hx hb dX6_passesByte_35 rfl (lv_at hl 0 rfl) ?_
    obtain ⟨v8, ej3, hf⟩ := xb1 hf
    have J3 : ∀ (H : Heap) (locs : List Loc) (ls : Array Slot), xP B0 G h H → va_S (xA B0) s.heap H locs → lv_has ls 3 [(2, .int v3)] → W p l e rmX6_passesByte s m args below meth c H locs 0 0 Q (F0 m 44 ls [.int v8, .int v7, .ref a0]) := by
      intro H locs ls hP hS hl
      clear ej3
      refine lv_iadd hx hb dX6_passesByte_44 ?_
      obtain ⟨h1, eh1, hf⟩ := xb hf
      refine xr_put hx hb hts inX6 tyX6 tyX6_ok nmX6 hown hKK hP hS eh1 rfl (by decide) w1 (fun _ h9 => h9) rfl (tyX6_ok 11 (by decide)) rfl rfl dX6_passesByte_45 (fun H locs hP _ hS => ?_)
      refine lv_iload_n hx hb dX6_passesByte_48 rfl (lv_at hl 0 rfl) ?_
      obtain ⟨v9, ev9, hf⟩ := xb hf
      obtain ⟨rfl, rfl⟩ := xinj2 hf
      subst hQ
      exact xe_z hx hb hr hlocks hKK hP hS ev9 dX6_passesByte_49
    have hf := ej3
    clear ej3
    refine lv_if_eq (tgt := 43) hx hb dX6_passesByte_36 (by decide) (fun c3 => ?_) (fun c3 => ?_)
    · have hf := xif_t hf c3
      refine lv_iconst (v := (0 : Int32)) hx hb dX6_passesByte_43 (by decide) ?_
      obtain rfl := Option.some.inj hf
      exact J3 _ _ _ hP hS (lv_sub hl [0] rfl)
    · have hf := xif_f hf c3
      refine lv_iconst (v := (1 : Int32)) hx hb dX6_passesByte_39 (by decide) ?_
      refine lv_goto (tgt := 44) hx hb dX6_passesByte_40 (by decide) ?_
      obtain rfl := Option.some.inj hf
      exact J3 _ _ _ hP hS (lv_sub hl [0] rfl)
  have hf := ej1
  clear ej1
  obtain ⟨k2, ek2, hf⟩ := xlk hf
  have J2 : k2 = some v3 → ∀ (H : Heap) (locs : List Loc) (ls : Array Slot), xP B0 G h H → va_S (xA B0) s.heap H locs → lv_has ls 3 [(0, .ref a0)] → W p l e rmX6_passesByte s m args below meth c H locs 0 0 Q (F0 m 28 ls []) := by
    intro  hf H locs ls hP hS hl
    have hf := xk0 ek2 hf
    clear ek2
    refine lv_iconst (v := (0 : Int32)) hx hb dX6_passesByte_28 (by decide) ?_
    obtain rfl := Option.some.inj hf
    exact J1 _ _ _ hP hS (lv_sub hl [0] rfl)
  clear ek2
  refine lv_icmp_ge (tgt := 28) hx hb dX6_passesByte_8 (by decide) (fun c1 => ?_) (fun c1 => ?_)
  · have hf := xif_t hf c1
    exact J2  hf _ _ _ hP hS (lv_sub hl [0] rfl)
  · have hf := xif_f hf c1
    refine lv_aload_n hx hb dX6_passesByte_11 rfl (lv_at hl 0 rfl) ?_
    obtain ⟨v4, ev4, hf⟩ := xb hf
    refine xr_getR hx hb hts inX6 hown hKK hP ev4 rfl (by decide) w3 (fun _ h9 => h9) dX6_passesByte_12 ?_
    refine lv_aload_n hx hb dX6_passesByte_15 rfl (lv_at hl 0 rfl) ?_
    obtain ⟨v5, ev5, hf⟩ := xb hf
    refine xr_getI hx hb hts inX6 hown hKK hP ev5 rfl (by decide) w1 (fun _ h9 => h9) dX6_passesByte_16 ?_
    obtain ⟨v6, ev6, hf⟩ := xb hf
    refine xr_iald hx hb hKK hP ev6 dX6_passesByte_19 ?_
    refine lv_iload_n hx hb dX6_passesByte_20 rfl (lv_at hl 1 rfl) ?_
    refine lv_icmp_ne (tgt := 28) hx hb dX6_passesByte_21 (by decide) (fun c2 => ?_) (fun c2 => ?_)
    · have hf := xif_f hf c2
      exact J2  hf _ _ _ hP hS (lv_sub hl [0] rfl)
    · have hf := xif_t hf c2
      refine lv_iconst (v := (1 : Int32)) hx hb dX6_passesByte_24 (by decide) ?_
      refine lv_goto (tgt := 29) hx hb dX6_passesByte_25 (by decide) ?_
      obtain rfl := Option.some.inj hf
      exact J1 _ _ _ hP hS (lv_sub hl [0] rfl)
/-- RainReservoirModel.reads -/
def f_X6_reads (fu : Nat) (h : XH) (a0 : Nat) (p0 : Int32) (p1 : Int32) (p2 : Int32) : Option (Int32 × XH) :=
  (xgI h a0 6 11).bind fun v1 =>
  (xpV h a0 6 12 (.int (0 : Int32))).bind fun h1 =>
  obind1 (xloop (xf1 fun  (h2 : XH) =>
    (xis h2 a0 6).bind fun v2 =>
    obind1 (f_X6_isFigure h2 a0) fun v3 =>
    if v3 = (0 : Int32) then
      some (.inr h2)
    else
      (xgI h2 a0 6 11).bind fun v4 =>
      if (v1 + p0) ≤ v4 then
        some (.inr h2)
      else
        (xgI h2 a0 6 12).bind fun v5 =>
        (xgR h2 a0 6 9).bind fun v6 =>
        (xgI h2 a0 6 11).bind fun v7 =>
        (xald h2 v6 0 v7).bind fun v8 =>
        (xpV h2 a0 6 12 (.int ((((10 : Int32) * v5) + v8) - (48 : Int32)))).bind fun h4 =>
        (xgI h4 a0 6 11).bind fun v9 =>
        (xpV h4 a0 6 11 (.int (v9 + (1 : Int32)))).bind fun h5 =>
        some (.inl h5)
  ) fu h1) fun h3 =>
  (xgI h3 a0 6 11).bind fun v10 =>
  oletk (
    (xbool (0 : Int32)).bind fun v18 =>
    some ((v18, h3))
  ) fun k2 =>
  if v10 = v1 then
    k2
  else
    (xis h3 a0 6).bind fun v11 =>
    obind1 (f_X6_isFigure h3 a0) fun v12 =>
    if v12 = (0 : Int32) then
      (xgI h3 a0 6 12).bind fun v13 =>
      obind1 (f_X6_in (Int32.toInt64 v13) (Int32.toInt64 p1) (Int32.toInt64 p2)) fun v14 =>
      obind1 (
        if v14 = (0 : Int32) then
          some v1
        else
          (xgI h3 a0 6 11).bind fun v16 =>
          some v16
      ) fun v15 =>
      (xpV h3 a0 6 11 (.int v15)).bind fun h6 =>
      (xbool v14).bind fun v17 =>
      some ((v17, h6))
    else
      k2
abbrev rmX6_reads : Room := { frames := 2, cells := 0, slots := 0, locals := 45 }
set_option maxHeartbeats 4000000 in
set_option maxRecDepth 100000 in
theorem m_X6_reads (l : Launch) (B0 : Nat) (G : XG) (fu : Nat) (h hE : XH) (a0 : Nat) (p0 : Int32) (p1 : Int32) (p2 : Int32) (rE : Int32) (hf : f_X6_reads fu h a0 p0 p1 p2 = some (rE, hE)) : Met l yX6_reads wsX6_reads rmX6_reads (va_Pc [.ref a0, .int p0, .int p1, .int p2] (xU B0 G h)) (xQi B0 G hE rE) 0 0 (xA B0) := by
  refine xMet (cc := cX6_reads) (maxL := 6) (by decide) rfl (Nat.le_of_ble_eq_true rfl) ?_
  intro p e s m args below meth c ls hx hb hr hml hown hlocks hnm hts hKK hP hl
  have hown : s.vm.findClass RX6 = some m.cls := hown
  have hl : lv_has ls 6 [(0, .ref a0), (1, .int p0), (2, .int p1), (3, .int p2)] := hl
  have hS : va_S (xA B0) s.heap s.heap [] := va_S.rf
  have inX6 : ∀ w ∈ wsX60, w ∈ wsX6_reads := by decide +kernel
  have w1 := hts (.fieldLink RX6 182 "RainReservoirModel" "place" "I") (by decide +kernel)
  have w2 := hts (.fieldLink RX6 189 "RainReservoirModel" "number" "I") (by decide +kernel)
  have w3 := hts (.fieldLink RX6 23 "RainReservoirModel" "text" "[I") (by decide +kernel)
  generalize hQ : MQ below (xQi B0 G hE rE) args s 0 0 (xA B0) = Q
  unfold f_X6_reads at hf
  refine lv_aload_n hx hb dX6_reads_0 rfl (lv_at hl 0 rfl) ?_
  obtain ⟨v1, ev1, hf⟩ := xb hf
  refine xr_getI hx hb hts inX6 hown hKK hP ev1 rfl (by decide) w1 (fun _ h9 => h9) dX6_reads_1 ?_
  refine lv_istore (lv' := [(4, .int v1), (0, .ref a0), (1, .int p0), (2, .int p1), (3, .int p2)]) hx hb dX6_reads_4 hl (by decide) rfl (fun ls hl => ?_)
  refine lv_aload_n hx hb dX6_reads_6 rfl (lv_at hl 1 rfl) ?_
  refine lv_iconst (v := (0 : Int32)) hx hb dX6_reads_7 (by decide) ?_
  obtain ⟨h1, eh1, hf⟩ := xb hf
  refine xr_put hx hb hts inX6 tyX6 tyX6_ok nmX6 hown hKK hP hS eh1 rfl (by decide) w2 (fun _ h9 => h9) rfl (tyX6_ok 12 (by decide)) rfl rfl dX6_reads_8 (fun H locs hP _ hS => ?_)
  obtain ⟨h3, eL, hf⟩ := xb1 hf
  have J1 : ∀ (H : Heap) (locs : List Loc) (ls : Array Slot), xP B0 G h3 H → va_S (xA B0) s.heap H locs → lv_has ls 6 [(4, .int v1), (0, .ref a0), (2, .int p1), (3, .int p2)] → W p l e rmX6_reads s m args below meth c H locs 0 0 Q (F0 m 66 ls []) := by
    intro H locs ls hP hS hl
    clear eL
    refine lv_aload_n hx hb dX6_reads_66 rfl (lv_at hl 1 rfl) ?_
    obtain ⟨v10, ev10, hf⟩ := xb hf
    refine xr_getI hx hb hts inX6 hown hKK hP ev10 rfl (by decide) w1 (fun _ h9 => h9) dX6_reads_67 ?_
    refine lv_iload hx hb dX6_reads_70 (lv_at hl 0 rfl) ?_
    obtain ⟨k2, ek2, hf⟩ := xlk hf
    have J2 : k2 = some (rE, hE) → ∀ (H : Heap) (locs : List Loc) (ls : Array Slot), xP B0 G h3 H → va_S (xA B0) s.heap H locs → lv_has ls 6 [] → W p l e rmX6_reads s m args below meth c H locs 0 0 Q (F0 m 82 ls []) := by
      intro  hf H locs ls hP hS hl
      have hf := xk0 ek2 hf
      clear ek2
      refine lv_iconst (v := (0 : Int32)) hx hb dX6_reads_82 (by decide) ?_
      obtain ⟨v18, ev18, hf⟩ := xb hf
      obtain ⟨rfl, rfl⟩ := xinj2 hf
      subst hQ
      exact xe_z hx hb hr hlocks hKK hP hS ev18 dX6_reads_83
    clear ek2
    refine lv_icmp_eq (tgt := 82) hx hb dX6_reads_72 (by decide) (fun c3 => ?_) (fun c3 => ?_)
    · have hf := xif_t hf c3
      exact J2  hf _ _ _ hP hS (lv_sub hl [] rfl)
    · have hf := xif_f hf c3
      refine lv_aload_n hx hb dX6_reads_75 rfl (lv_at hl 1 rfl) ?_
      obtain ⟨v11, ev11, hf⟩ := xb hf
      obtain ⟨v12, ev12, hf⟩ := xb1 hf
      refine xc_Vi (rest := []) ⟨hx, hb, hml, hown, hts⟩ (m_X6_isFigure l B0 G h3 a0 v12 ev12) (cwV 0 hts gX6_reads_X6_isFigure rfl rfl rfl (by decide +kernel) ⟨Nat.le_of_ble_eq_true rfl, Nat.le_of_ble_eq_true rfl⟩) hKK hP hS ev11 rfl rfl hl.1 rfl (Nat.le_of_ble_eq_true rfl) dX6_reads_76 ⟨Nat.zero_le _, Nat.zero_le _⟩ (fun H locs hP hS => ?_)
      refine lv_if_eq (tgt := 84) hx hb dX6_reads_79 (by decide) (fun c4 => ?_) (fun c4 => ?_)
      · have hf := xif_t hf c4
        refine lv_aload_n hx hb dX6_reads_84 rfl (lv_at hl 1 rfl) ?_
        obtain ⟨v13, ev13, hf⟩ := xb hf
        refine xr_getI hx hb hts inX6 hown hKK hP ev13 rfl (by decide) w2 (fun _ h9 => h9) dX6_reads_85 ?_
        refine lv_i2l hx hb dX6_reads_88 rfl ?_
        refine lv_iload_n hx hb dX6_reads_89 rfl (lv_at hl 2 rfl) ?_
        refine lv_i2l hx hb dX6_reads_90 rfl ?_
        refine lv_iload_n hx hb dX6_reads_91 rfl (lv_at hl 3 rfl) ?_
        refine lv_i2l hx hb dX6_reads_92 rfl ?_
        obtain ⟨v14, ev14, hf⟩ := xb1 hf
        refine xc_Si (rest := []) ⟨hx, hb, hml, hown, hts⟩ (m_X6_in l B0 G h3 (Int32.toInt64 v13) (Int32.toInt64 p1) (Int32.toInt64 p2) v14 ev14) (va_cwS 3 hts gX6_reads_X6_in rfl rfl rfl (by decide +kernel) ⟨Nat.le_of_ble_eq_true rfl, Nat.le_of_ble_eq_true rfl⟩) hKK hP hS rfl hl.1 rfl (Nat.le_of_ble_eq_true rfl) dX6_reads_93 ⟨Nat.zero_le _, Nat.zero_le _⟩ (fun H locs hP hS => ?_)
        refine lv_istore (lv' := [(5, .int v14), (4, .int v1), (0, .ref a0), (2, .int p1), (3, .int p2)]) hx hb dX6_reads_96 hl (by decide) rfl (fun ls hl => ?_)
        refine lv_aload_n hx hb dX6_reads_98 rfl (lv_at hl 2 rfl) ?_
        refine lv_iload hx hb dX6_reads_99 (lv_at hl 0 rfl) ?_
        obtain ⟨v15, ej3, hf⟩ := xb1 hf
        have J3 : ∀ (H : Heap) (locs : List Loc) (ls : Array Slot), xP B0 G h3 H → va_S (xA B0) s.heap H locs → lv_has ls 6 [(5, .int v14)] → W p l e rmX6_reads s m args below meth c H locs 0 0 Q (F0 m 113 ls [.int v15, .ref a0]) := by
          intro H locs ls hP hS hl
          clear ej3
          obtain ⟨h6, eh6, hf⟩ := xb hf
          refine xr_put hx hb hts inX6 tyX6 tyX6_ok nmX6 hown hKK hP hS eh6 rfl (by decide) w1 (fun _ h9 => h9) rfl (tyX6_ok 11 (by decide)) rfl rfl dX6_reads_113 (fun H locs hP _ hS => ?_)
          refine lv_iload hx hb dX6_reads_116 (lv_at hl 0 rfl) ?_
          obtain ⟨v17, ev17, hf⟩ := xb hf
          obtain ⟨rfl, rfl⟩ := xinj2 hf
          subst hQ
          exact xe_z hx hb hr hlocks hKK hP hS ev17 dX6_reads_118
        have hf := ej3
        clear ej3
        refine lv_if_eq (tgt := 111) hx hb dX6_reads_101 (by decide) (fun c5 => ?_) (fun c5 => ?_)
        · have hf := xif_t hf c5
          refine lv_iload hx hb dX6_reads_111 (lv_at hl 1 rfl) ?_
          obtain rfl := Option.some.inj hf
          exact J3 _ _ _ hP hS (lv_sub hl [0] rfl)
        · have hf := xif_f hf c5
          refine lv_aload_n hx hb dX6_reads_104 rfl (lv_at hl 2 rfl) ?_
          obtain ⟨v16, ev16, hf⟩ := xb hf
          refine xr_getI hx hb hts inX6 hown hKK hP ev16 rfl (by decide) w1 (fun _ h9 => h9) dX6_reads_105 ?_
          refine lv_goto (tgt := 113) hx hb dX6_reads_108 (by decide) ?_
          obtain rfl := Option.some.inj hf
          exact J3 _ _ _ hP hS (lv_sub hl [0] rfl)
      · have hf := xif_f hf c4
        exact J2  hf _ _ _ hP hS (lv_sub hl [] rfl)
  clear hf
  refine xloop_ind (P := fun z => ∀ (H : Heap) (locs : List Loc) (ls : Array Slot), xP B0 G z H → va_S (xA B0) s.heap H locs → lv_has ls 6 [(4, .int v1), (0, .ref a0), (1, .int p0), (2, .int p1), (3, .int p2)] → W p l e rmX6_reads s m args below meth c H locs 0 0 Q (F0 m 11 ls [])) ?_ eL _ _ _ hP hS (lv_sub hl [0, 1, 2, 3, 4] rfl)
  rintro h2 o hf IH EX H locs ls hP hS hl
  have hf := xf1_e hf
  have hP : xP B0 G h2 H := hP
  have hl : lv_has ls 6 [(4, .int v1), (0, .ref a0), (1, .int p0), (2, .int p1), (3, .int p2)] := hl
  refine lv_aload_n hx hb dX6_reads_11 rfl (lv_at hl 1 rfl) ?_
  obtain ⟨v2, ev2, hf⟩ := xb hf
  obtain ⟨v3, ev3, hf⟩ := xb1 hf
  refine xc_Vi (rest := []) ⟨hx, hb, hml, hown, hts⟩ (m_X6_isFigure l B0 G h2 a0 v3 ev3) (cwV 0 hts gX6_reads_X6_isFigure rfl rfl rfl (by decide +kernel) ⟨Nat.le_of_ble_eq_true rfl, Nat.le_of_ble_eq_true rfl⟩) hKK hP hS ev2 rfl rfl hl.1 rfl (Nat.le_of_ble_eq_true rfl) dX6_reads_12 ⟨Nat.zero_le _, Nat.zero_le _⟩ (fun H locs hP hS => ?_)
  refine lv_if_eq (tgt := 66) hx hb dX6_reads_15 (by decide) (fun c1 => ?_) (fun c1 => ?_)
  · have hf := xif_t hf c1
    have hf := EX _ (Option.some.inj hf).symm
    obtain rfl := hf
    exact J1 _ _ _ hP hS (lv_sub hl [0, 1, 3, 4] rfl)
  · have hf := xif_f hf c1
    refine lv_aload_n hx hb dX6_reads_18 rfl (lv_at hl 1 rfl) ?_
    obtain ⟨v4, ev4, hf⟩ := xb hf
    refine xr_getI hx hb hts inX6 hown hKK hP ev4 rfl (by decide) w1 (fun _ h9 => h9) dX6_reads_19 ?_
    refine lv_iload hx hb dX6_reads_22 (lv_at hl 0 rfl) ?_
    refine lv_iload_n hx hb dX6_reads_24 rfl (lv_at hl 2 rfl) ?_
    refine lv_iadd hx hb dX6_reads_25 ?_
    refine lv_icmp_ge (tgt := 66) hx hb dX6_reads_26 (by decide) (fun c2 => ?_) (fun c2 => ?_)
    · have hf := xif_t hf c2
      have hf := EX _ (Option.some.inj hf).symm
      obtain rfl := hf
      exact J1 _ _ _ hP hS (lv_sub hl [0, 1, 3, 4] rfl)
    · have hf := xif_f hf c2
      refine lv_aload_n hx hb dX6_reads_29 rfl (lv_at hl 1 rfl) ?_
      refine lv_bipush (v := (10 : Int32)) hx hb dX6_reads_30 (by decide) ?_
      refine lv_aload_n hx hb dX6_reads_32 rfl (lv_at hl 1 rfl) ?_
      obtain ⟨v5, ev5, hf⟩ := xb hf
      refine xr_getI hx hb hts inX6 hown hKK hP ev5 rfl (by decide) w2 (fun _ h9 => h9) dX6_reads_33 ?_
      refine lv_imul hx hb dX6_reads_36 ?_
      refine lv_aload_n hx hb dX6_reads_37 rfl (lv_at hl 1 rfl) ?_
      obtain ⟨v6, ev6, hf⟩ := xb hf
      refine xr_getR hx hb hts inX6 hown hKK hP ev6 rfl (by decide) w3 (fun _ h9 => h9) dX6_reads_38 ?_
      refine lv_aload_n hx hb dX6_reads_41 rfl (lv_at hl 1 rfl) ?_
      obtain ⟨v7, ev7, hf⟩ := xb hf
      refine xr_getI hx hb hts inX6 hown hKK hP ev7 rfl (by decide) w1 (fun _ h9 => h9) dX6_reads_42 ?_
      obtain ⟨v8, ev8, hf⟩ := xb hf
      refine xr_iald hx hb hKK hP ev8 dX6_reads_45 ?_
      refine lv_iadd hx hb dX6_reads_46 ?_
      refine lv_bipush (v := (48 : Int32)) hx hb dX6_reads_47 (by decide) ?_
      refine lv_isub hx hb dX6_reads_49 ?_
      obtain ⟨h4, eh4, hf⟩ := xb hf
      refine xr_put hx hb hts inX6 tyX6 tyX6_ok nmX6 hown hKK hP hS eh4 rfl (by decide) w2 (fun _ h9 => h9) rfl (tyX6_ok 12 (by decide)) rfl rfl dX6_reads_50 (fun H locs hP _ hS => ?_)
      refine lv_aload_n hx hb dX6_reads_53 rfl (lv_at hl 1 rfl) ?_
      refine lv_dup hx hb dX6_reads_54 rfl ?_
      obtain ⟨v9, ev9, hf⟩ := xb hf
      refine xr_getI hx hb hts inX6 hown hKK hP ev9 rfl (by decide) w1 (fun _ h9 => h9) dX6_reads_55 ?_
      refine lv_iconst (v := (1 : Int32)) hx hb dX6_reads_58 (by decide) ?_
      refine lv_iadd hx hb dX6_reads_59 ?_
      obtain ⟨h5, eh5, hf⟩ := xb hf
      refine xr_put hx hb hts inX6 tyX6 tyX6_ok nmX6 hown hKK hP hS eh5 rfl (by decide) w1 (fun _ h9 => h9) rfl (tyX6_ok 11 (by decide)) rfl rfl dX6_reads_60 (fun H locs hP _ hS => ?_)
      refine lv_goto (tgt := 11) hx hb dX6_reads_63 (by decide) ?_
      exact IH _ (Option.some.inj hf).symm _ _ _ hP hS (lv_sub hl [0, 1, 2, 3, 4] rfl)
/-- RainReservoirModel.readsItem -/
def f_X6_readsItem (fu : Nat) (h : XH) (a0 : Nat) : Option (Int32 × XH) :=
  (xis h a0 6).bind fun v1 =>
  obind2 (f_X6_reads fu h a0 (3 : Int32) (0 : Int32) (200 : Int32)) fun v2 h1 =>
  if v2 = (0 : Int32) then
    (xbool (0 : Int32)).bind fun v22 =>
    some ((v22, h1))
  else
    (xgI h1 a0 6 12).bind fun v3 =>
    (xis h1 a0 6).bind fun v4 =>
    obind2 (f_X6_passesByte h1 a0 (120 : Int32)) fun v5 h2 =>
    oletk (
      fun (v6 : Int32) (h3 : XH) =>
      (xgI h3 a0 6 11).bind fun v11 =>
      (xgI h3 a0 6 10).bind fun v12 =>
      obind1 (
        oletk (
          some (0 : Int32)
        ) fun k3 =>
        if v12 ≤ v11 then
          k3
        else
          (xgR h3 a0 6 9).bind fun v14 =>
          (xgI h3 a0 6 11).bind fun v15 =>
          (xald h3 v14 0 v15).bind fun v16 =>
          if v16 = (59 : Int32) then
            (xgR h3 a0 6 0).bind fun v17 =>
            (xald h3 v17 0 (8 : Int32)).bind fun v18 =>
            if (100 : Int32) < (v18 + v6) then
              k3
            else
              some (1 : Int32)
          else
            k3
      ) fun v13 =>
      obind1 (
        if v13 = (0 : Int32) then
          some h3
        else
          (xgI h3 a0 6 11).bind fun v19 =>
          (xpV h3 a0 6 11 (.int (v19 + (1 : Int32)))).bind fun h6 =>
          (xis h6 a0 6).bind fun v20 =>
          obind1 (f_X6_rains fu h6 a0 v3 v6) fun h7 =>
          some h7
      ) fun h5 =>
      (xbool v13).bind fun v21 =>
      some ((v21, h5))
    ) fun k1 =>
    if v5 = (0 : Int32) then
      k1 (1 : Int32) h2
    else
      (xis h2 a0 6).bind fun v7 =>
      obind2 (f_X6_reads fu h2 a0 (2 : Int32) (1 : Int32) (99 : Int32)) fun v8 h4 =>
      if v8 = (0 : Int32) then
        (xbool (0 : Int32)).bind fun v10 =>
        some ((v10, h4))
      else
        (xgI h4 a0 6 12).bind fun v9 =>
        k1 v9 h4
abbrev rmX6_readsItem : Room := { frames := 3, cells := 0, slots := 0, locals := 70 }
set_option maxHeartbeats 4000000 in
set_option maxRecDepth 100000 in
theorem m_X6_readsItem (l : Launch) (B0 : Nat) (G : XG) (fu : Nat) (h hE : XH) (a0 : Nat) (rE : Int32) (hf : f_X6_readsItem fu h a0 = some (rE, hE)) : Met l yX6_readsItem wsX6_readsItem rmX6_readsItem (va_Pc [.ref a0] (xU B0 G h)) (xQi B0 G hE rE) 0 0 (xA B0) := by
  refine xMet (cc := cX6_readsItem) (maxL := 4) (by decide) rfl (Nat.le_of_ble_eq_true rfl) ?_
  intro p e s m args below meth c ls hx hb hr hml hown hlocks hnm hts hKK hP hl
  have hown : s.vm.findClass RX6 = some m.cls := hown
  have hl : lv_has ls 4 [(0, .ref a0)] := hl
  have hS : va_S (xA B0) s.heap s.heap [] := va_S.rf
  have inX6 : ∀ w ∈ wsX60, w ∈ wsX6_readsItem := by decide +kernel
  have w1 := hts (.fieldLink RX6 189 "RainReservoirModel" "number" "I") (by decide +kernel)
  have w2 := hts (.fieldLink RX6 182 "RainReservoirModel" "place" "I") (by decide +kernel)
  have w3 := hts (.fieldLink RX6 179 "RainReservoirModel" "textLong" "I") (by decide +kernel)
  have w4 := hts (.fieldLink RX6 23 "RainReservoirModel" "text" "[I") (by decide +kernel)
  have w5 := hts (.fieldLink RX6 7 "RainReservoirModel" "all" "[I") (by decide +kernel)
  generalize hQ : MQ below (xQi B0 G hE rE) args s 0 0 (xA B0) = Q
  unfold f_X6_readsItem at hf
  refine lv_aload_n hx hb dX6_readsItem_0 rfl (lv_at hl 0 rfl) ?_
  refine lv_iconst (v := (3 : Int32)) hx hb dX6_readsItem_1 (by decide) ?_
  refine lv_iconst (v := (0 : Int32)) hx hb dX6_readsItem_2 (by decide) ?_
  refine lv_sipush (v := (200 : Int32)) hx hb dX6_readsItem_3 (by decide) ?_
  obtain ⟨v1, ev1, hf⟩ := xb hf
  obtain ⟨v2, h1, ev2, hf⟩ := xb2 hf
  refine xc_Vi (rest := []) ⟨hx, hb, hml, hown, hts⟩ (m_X6_reads l B0 G fu h h1 a0 (3 : Int32) (0 : Int32) (200 : Int32) v2 ev2) (cwV 3 hts gX6_readsItem_X6_reads rfl rfl rfl (by decide +kernel) ⟨Nat.le_of_ble_eq_true rfl, Nat.le_of_ble_eq_true rfl⟩) hKK hP hS ev1 rfl rfl hl.1 rfl (Nat.le_of_ble_eq_true rfl) dX6_readsItem_6 ⟨Nat.zero_le _, Nat.zero_le _⟩ (fun H locs hP hS => ?_)
  refine lv_if_ne (tgt := 14) hx hb dX6_readsItem_9 (by decide) (fun c1 => ?_) (fun c1 => ?_)
  · have hf := xif_f hf c1
    refine lv_aload_n hx hb dX6_readsItem_14 rfl (lv_at hl 0 rfl) ?_
    obtain ⟨v3, ev3, hf⟩ := xb hf
    refine xr_getI hx hb hts inX6 hown hKK hP ev3 rfl (by decide) w1 (fun _ h9 => h9) dX6_readsItem_15 ?_
    refine lv_istore_n (lv' := [(1, .int v3), (0, .ref a0)]) hx hb dX6_readsItem_18 rfl hl (by decide) rfl (fun ls hl => ?_)
    refine lv_iconst (v := (1 : Int32)) hx hb dX6_readsItem_19 (by decide) ?_
    refine lv_istore_n (lv' := [(2, .int (1 : Int32)), (1, .int v3), (0, .ref a0)]) hx hb dX6_readsItem_20 rfl hl (by decide) rfl (fun ls hl => ?_)
    refine lv_aload_n hx hb dX6_readsItem_21 rfl (lv_at hl 2 rfl) ?_
    refine lv_bipush (v := (120 : Int32)) hx hb dX6_readsItem_22 (by decide) ?_
    obtain ⟨v4, ev4, hf⟩ := xb hf
    obtain ⟨v5, h2, ev5, hf⟩ := xb2 hf
    refine xc_Vi (rest := []) ⟨hx, hb, hml, hown, hts⟩ (m_X6_passesByte l B0 G h1 h2 a0 (120 : Int32) v5 ev5) (cwV 1 hts gX6_readsItem_X6_passesByte rfl rfl rfl (by decide +kernel) ⟨Nat.le_of_ble_eq_true rfl, Nat.le_of_ble_eq_true rfl⟩) hKK hP hS ev4 rfl rfl hl.1 rfl (Nat.le_of_ble_eq_true rfl) dX6_readsItem_24 ⟨Nat.zero_le _, Nat.zero_le _⟩ (fun H locs hP hS => ?_)
    obtain ⟨k1, ek1, hf⟩ := xlk hf
    have J1 : ∀ (v6 : Int32) (h3 : XH), k1 v6 h3 = some (rE, hE) → ∀ (H : Heap) (locs : List Loc) (ls : Array Slot), xP B0 G h3 H → va_S (xA B0) s.heap H locs → lv_has ls 4 [(2, .int v6), (1, .int v3), (0, .ref a0)] → W p l e rmX6_readsItem s m args below meth c H locs 0 0 Q (F0 m 48 ls []) := by
      intro v6 h3 hf H locs ls hP hS hl
      have hf := xk2 ek1 hf
      clear ek1
      refine lv_aload_n hx hb dX6_readsItem_48 rfl (lv_at hl 2 rfl) ?_
      obtain ⟨v11, ev11, hf⟩ := xb hf
      refine xr_getI hx hb hts inX6 hown hKK hP ev11 rfl (by decide) w2 (fun _ h9 => h9) dX6_readsItem_49 ?_
      refine lv_aload_n hx hb dX6_readsItem_52 rfl (lv_at hl 2 rfl) ?_
      obtain ⟨v12, ev12, hf⟩ := xb hf
      refine xr_getI hx hb hts inX6 hown hKK hP ev12 rfl (by decide) w3 (fun _ h9 => h9) dX6_readsItem_53 ?_
      obtain ⟨v13, ej2, hf⟩ := xb1 hf
      have J2 : ∀ (H : Heap) (locs : List Loc) (ls : Array Slot), xP B0 G h3 H → va_S (xA B0) s.heap H locs → lv_has ls 4 [(2, .int v6), (1, .int v3), (0, .ref a0)] → W p l e rmX6_readsItem s m args below meth c H locs 0 0 Q (F0 m 92 ls [.int v13]) := by
        intro H locs ls hP hS hl
        clear ej2
        refine lv_istore_n (lv' := [(3, .int v13), (2, .int v6), (1, .int v3), (0, .ref a0)]) hx hb dX6_readsItem_92 rfl hl (by decide) rfl (fun ls hl => ?_)
        refine lv_iload_n hx hb dX6_readsItem_93 rfl (lv_at hl 0 rfl) ?_
        obtain ⟨h5, ej4, hf⟩ := xb1 hf
        have J4 : ∀ (H : Heap) (locs : List Loc) (ls : Array Slot), xP B0 G h5 H → va_S (xA B0) s.heap H locs → lv_has ls 4 [(3, .int v13)] → W p l e rmX6_readsItem s m args below meth c H locs 0 0 Q (F0 m 113 ls []) := by
          intro H locs ls hP hS hl
          clear ej4
          refine lv_iload_n hx hb dX6_readsItem_113 rfl (lv_at hl 0 rfl) ?_
          obtain ⟨v21, ev21, hf⟩ := xb hf
          obtain ⟨rfl, rfl⟩ := xinj2 hf
          subst hQ
          exact xe_z hx hb hr hlocks hKK hP hS ev21 dX6_readsItem_114
        have hf := ej4
        clear ej4
        refine lv_if_eq (tgt := 113) hx hb dX6_readsItem_94 (by decide) (fun c7 => ?_) (fun c7 => ?_)
        · have hf := xif_t hf c7
          obtain rfl := Option.some.inj hf
          exact J4 _ _ _ hP hS (lv_sub hl [0] rfl)
        · have hf := xif_f hf c7
          refine lv_aload_n hx hb dX6_readsItem_97 rfl (lv_at hl 3 rfl) ?_
          refine lv_dup hx hb dX6_readsItem_98 rfl ?_
          obtain ⟨v19, ev19, hf⟩ := xb hf
          refine xr_getI hx hb hts inX6 hown hKK hP ev19 rfl (by decide) w2 (fun _ h9 => h9) dX6_readsItem_99 ?_
          refine lv_iconst (v := (1 : Int32)) hx hb dX6_readsItem_102 (by decide) ?_
          refine lv_iadd hx hb dX6_readsItem_103 ?_
          obtain ⟨h6, eh6, hf⟩ := xb hf
          refine xr_put hx hb hts inX6 tyX6 tyX6_ok nmX6 hown hKK hP hS eh6 rfl (by decide) w2 (fun _ h9 => h9) rfl (tyX6_ok 11 (by decide)) rfl rfl dX6_readsItem_104 (fun H locs hP _ hS => ?_)
          refine lv_aload_n hx hb dX6_readsItem_107 rfl (lv_at hl 3 rfl) ?_
          refine lv_iload_n hx hb dX6_readsItem_108 rfl (lv_at hl 2 rfl) ?_
          refine lv_iload_n hx hb dX6_readsItem_109 rfl (lv_at hl 1 rfl) ?_
          obtain ⟨v20, ev20, hf⟩ := xb hf
          obtain ⟨h7, eh7, hf⟩ := xb1 hf
          refine xc_Vv (rest := []) ⟨hx, hb, hml, hown, hts⟩ (m_X6_rains l B0 G fu h6 h7 a0 v3 v6 eh7) (cwV 2 hts gX6_readsItem_X6_rains rfl rfl rfl (by decide +kernel) ⟨Nat.le_of_ble_eq_true rfl, Nat.le_of_ble_eq_true rfl⟩) hKK hP hS ev20 rfl rfl hl.1 rfl (Nat.le_of_ble_eq_true rfl) dX6_readsItem_110 ⟨Nat.zero_le _, Nat.zero_le _⟩ (fun H locs hP hS => ?_)
          obtain rfl := Option.some.inj hf
          exact J4 _ _ _ hP hS (lv_sub hl [0] rfl)
      have hf := ej2
      clear ej2
      obtain ⟨k3, ek3, hf⟩ := xlk hf
      have J3 : k3 = some v13 → ∀ (H : Heap) (locs : List Loc) (ls : Array Slot), xP B0 G h3 H → va_S (xA B0) s.heap H locs → lv_has ls 4 [(2, .int v6), (1, .int v3), (0, .ref a0)] → W p l e rmX6_readsItem s m args below meth c H locs 0 0 Q (F0 m 91 ls []) := by
        intro  hf H locs ls hP hS hl
        have hf := xk0 ek3 hf
        clear ek3
        refine lv_iconst (v := (0 : Int32)) hx hb dX6_readsItem_91 (by decide) ?_
        obtain rfl := Option.some.inj hf
        exact J2 _ _ _ hP hS (lv_sub hl [0, 1, 2] rfl)
      clear ek3
      refine lv_icmp_ge (tgt := 91) hx hb dX6_readsItem_56 (by decide) (fun c4 => ?_) (fun c4 => ?_)
      · have hf := xif_t hf c4
        exact J3  hf _ _ _ hP hS (lv_sub hl [0, 1, 2] rfl)
      · have hf := xif_f hf c4
        refine lv_aload_n hx hb dX6_readsItem_59 rfl (lv_at hl 2 rfl) ?_
        obtain ⟨v14, ev14, hf⟩ := xb hf
        refine xr_getR hx hb hts inX6 hown hKK hP ev14 rfl (by decide) w4 (fun _ h9 => h9) dX6_readsItem_60 ?_
        refine lv_aload_n hx hb dX6_readsItem_63 rfl (lv_at hl 2 rfl) ?_
        obtain ⟨v15, ev15, hf⟩ := xb hf
        refine xr_getI hx hb hts inX6 hown hKK hP ev15 rfl (by decide) w2 (fun _ h9 => h9) dX6_readsItem_64 ?_
        obtain ⟨v16, ev16, hf⟩ := xb hf
        refine xr_iald hx hb hKK hP ev16 dX6_readsItem_67 ?_
        refine lv_bipush (v := (59 : Int32)) hx hb dX6_readsItem_68 (by decide) ?_
        refine lv_icmp_ne (tgt := 91) hx hb dX6_readsItem_70 (by decide) (fun c5 => ?_) (fun c5 => ?_)
        · have hf := xif_f hf c5
          exact J3  hf _ _ _ hP hS (lv_sub hl [0, 1, 2] rfl)
        · have hf := xif_t hf c5
          refine lv_aload_n hx hb dX6_readsItem_73 rfl (lv_at hl 2 rfl) ?_
          obtain ⟨v17, ev17, hf⟩ := xb hf
          refine xr_getR hx hb hts inX6 hown hKK hP ev17 rfl (by decide) w5 (fun _ h9 => h9) dX6_readsItem_74 ?_
          refine lv_bipush (v := (8 : Int32)) hx hb dX6_readsItem_77 (by decide) ?_
          obtain ⟨v18, ev18, hf⟩ := xb hf
          refine xr_iald hx hb hKK hP ev18 dX6_readsItem_79 ?_
          refine lv_iload_n hx hb dX6_readsItem_80 rfl (lv_at hl 0 rfl) ?_
          refine lv_iadd hx hb dX6_readsItem_81 ?_
          refine lv_bipush (v := (100 : Int32)) hx hb dX6_readsItem_82 (by decide) ?_
          refine lv_icmp_gt (tgt := 91) hx hb dX6_readsItem_84 (by decide) (fun c6 => ?_) (fun c6 => ?_)
          · have hf := xif_t hf c6
            exact J3  hf _ _ _ hP hS (lv_sub hl [0, 1, 2] rfl)
          · have hf := xif_f hf c6
            refine lv_iconst (v := (1 : Int32)) hx hb dX6_readsItem_87 (by decide) ?_
            refine lv_goto (tgt := 92) hx hb dX6_readsItem_88 (by decide) ?_
            obtain rfl := Option.some.inj hf
            exact J2 _ _ _ hP hS (lv_sub hl [0, 1, 2] rfl)
    clear ek1
    refine lv_if_eq (tgt := 48) hx hb dX6_readsItem_27 (by decide) (fun c2 => ?_) (fun c2 => ?_)
    · have hf := xif_t hf c2
      exact J1 _ _ hf _ _ _ hP hS (lv_sub hl [0, 1, 2] rfl)
    · have hf := xif_f hf c2
      refine lv_aload_n hx hb dX6_readsItem_30 rfl (lv_at hl 2 rfl) ?_
      refine lv_iconst (v := (2 : Int32)) hx hb dX6_readsItem_31 (by decide) ?_
      refine lv_iconst (v := (1 : Int32)) hx hb dX6_readsItem_32 (by decide) ?_
      refine lv_bipush (v := (99 : Int32)) hx hb dX6_readsItem_33 (by decide) ?_
      obtain ⟨v7, ev7, hf⟩ := xb hf
      obtain ⟨v8, h4, ev8, hf⟩ := xb2 hf
      refine xc_Vi (rest := []) ⟨hx, hb, hml, hown, hts⟩ (m_X6_reads l B0 G fu h2 h4 a0 (2 : Int32) (1 : Int32) (99 : Int32) v8 ev8) (cwV 3 hts gX6_readsItem_X6_reads rfl rfl rfl (by decide +kernel) ⟨Nat.le_of_ble_eq_true rfl, Nat.le_of_ble_eq_true rfl⟩) hKK hP hS ev7 rfl rfl hl.1 rfl (Nat.le_of_ble_eq_true rfl) dX6_readsItem_35 ⟨Nat.zero_le _, Nat.zero_le _⟩ (fun H locs hP hS => ?_)
      refine lv_if_ne (tgt := 43) hx hb dX6_readsItem_38 (by decide) (fun c3 => ?_) (fun c3 => ?_)
      · have hf := xif_f hf c3
        refine lv_aload_n hx hb dX6_readsItem_43 rfl (lv_at hl 2 rfl) ?_
        obtain ⟨v9, ev9, hf⟩ := xb hf
        refine xr_getI hx hb hts inX6 hown hKK hP ev9 rfl (by decide) w1 (fun _ h9 => h9) dX6_readsItem_44 ?_
        refine lv_istore_n (lv' := [(2, .int v9), (1, .int v3), (0, .ref a0)]) hx hb dX6_readsItem_47 rfl hl (by decide) rfl (fun ls hl => ?_)
        exact J1 _ _ hf _ _ _ hP hS (lv_sub hl [0, 1, 2] rfl)
      · have hf := xif_t hf c3
        refine lv_iconst (v := (0 : Int32)) hx hb dX6_readsItem_41 (by decide) ?_
        obtain ⟨v10, ev10, hf⟩ := xb hf
        obtain ⟨rfl, rfl⟩ := xinj2 hf
        subst hQ
        exact xe_z hx hb hr hlocks hKK hP hS ev10 dX6_readsItem_42
  · have hf := xif_t hf c1
    refine lv_iconst (v := (0 : Int32)) hx hb dX6_readsItem_12 (by decide) ?_
    obtain ⟨v22, ev22, hf⟩ := xb hf
    obtain ⟨rfl, rfl⟩ := xinj2 hf
    subst hQ
    exact xe_z hx hb hr hlocks hKK hP hS ev22 dX6_readsItem_13
/-- RainReservoirModel.parse -/
def f_X6_parse (fu : Nat) (h : XH) (a0 : Nat) : Option (Int32 × XH) :=
  (xpV h a0 6 4 (.int (0 : Int32))).bind fun h1 =>
  (xis h1 a0 6).bind fun v1 =>
  obind1 (f_X6_lays fu h1 a0) fun h2 =>
  (xpV h2 a0 6 11 (.int (0 : Int32))).bind fun h3 =>
  oret1 (xloop (xf1 fun  (h4 : XH) =>
    (xgI h4 a0 6 11).bind fun v2 =>
    (xgI h4 a0 6 10).bind fun v3 =>
    if v3 ≤ v2 then
      some (.inr (.inl h4))
    else
      (xis h4 a0 6).bind fun v4 =>
      obind2 (f_X6_readsItem fu h4 a0) fun v5 h6 =>
      if v5 = (0 : Int32) then
        (xis h6 a0 6).bind fun v6 =>
        obind1 (f_X6_takesBack fu h6 a0) fun h7 =>
        (xgI h7 a0 6 11).bind fun v7 =>
        some (.inr (.inr (((-10 : Int32) - v7), h7)))
      else
        some (.inl h6)
  ) fu h3) fun h5 =>
  obind1 (xloop (xf2 fun (v8 : Int32) (h8 : XH) =>
    if (1163 : Int32) ≤ v8 then
      some (.inr h8)
    else
      (xgR h8 a0 6 0).bind fun v9 =>
      (xald h8 v9 0 v8).bind fun v10 =>
      (xgR h8 a0 6 0).bind fun v11 =>
      (xgR h8 a0 6 2).bind fun v12 =>
      (xald h8 v12 0 v8).bind fun v13 =>
      (xast h8 v11 0 v8 v13).bind fun h10 =>
      (xgR h10 a0 6 2).bind fun v14 =>
      (xast h10 v14 0 v8 v10).bind fun h11 =>
      olet (v8 + (1 : Int32)) fun v15 =>
      some (.inl (v15, h11))
  ) fu ((0 : Int32), h5)) fun h9 =>
  (xis h9 a0 6).bind fun v16 =>
  obind1 (f_X6_save fu h9 a0) fun h12 =>
  (xis h12 a0 6).bind fun v17 =>
  obind1 (f_X6_takesBack fu h12 a0) fun h13 =>
  (xgR h13 a0 6 0).bind fun v18 =>
  (xald h13 v18 0 (8 : Int32)).bind fun v19 =>
  some ((v19, h13))
abbrev rmX6_parse : Room := { frames := 4, cells := 0, slots := 0, locals := 93 }
set_option maxHeartbeats 4000000 in
set_option maxRecDepth 100000 in
theorem m_X6_parse (l : Launch) (B0 : Nat) (G : XG) (fu : Nat) (h hE : XH) (a0 : Nat) (rE : Int32) (hf : f_X6_parse fu h a0 = some (rE, hE)) : Met l yX6_parse wsX6_parse rmX6_parse (va_Pc [.ref a0] (xU B0 G h)) (xQi B0 G hE rE) 0 0 (xA B0) := by
  refine xMet (cc := cX6_parse) (maxL := 3) (by decide) rfl (Nat.le_of_ble_eq_true rfl) ?_
  intro p e s m args below meth c ls hx hb hr hml hown hlocks hnm hts hKK hP hl
  have hown : s.vm.findClass RX6 = some m.cls := hown
  have hl : lv_has ls 3 [(0, .ref a0)] := hl
  have hS : va_S (xA B0) s.heap s.heap [] := va_S.rf
  have inX6 : ∀ w ∈ wsX60, w ∈ wsX6_parse := by decide +kernel
  have w1 := hts (.fieldLink RX6 26 "RainReservoirModel" "thrown" "I") (by decide +kernel)
  have w2 := hts (.fieldLink RX6 182 "RainReservoirModel" "place" "I") (by decide +kernel)
  have w3 := hts (.fieldLink RX6 179 "RainReservoirModel" "textLong" "I") (by decide +kernel)
  have w4 := hts (.fieldLink RX6 7 "RainReservoirModel" "all" "[I") (by decide +kernel)
  have w5 := hts (.fieldLink RX6 16 "RainReservoirModel" "aside" "[I") (by decide +kernel)
  generalize hQ : MQ below (xQi B0 G hE rE) args s 0 0 (xA B0) = Q
  unfold f_X6_parse at hf
  refine lv_aload_n hx hb dX6_parse_0 rfl (lv_at hl 0 rfl) ?_
  refine lv_iconst (v := (0 : Int32)) hx hb dX6_parse_1 (by decide) ?_
  obtain ⟨h1, eh1, hf⟩ := xb hf
  refine xr_put hx hb hts inX6 tyX6 tyX6_ok nmX6 hown hKK hP hS eh1 rfl (by decide) w1 (fun _ h9 => h9) rfl (tyX6_ok 4 (by decide)) rfl rfl dX6_parse_2 (fun H locs hP _ hS => ?_)
  refine lv_aload_n hx hb dX6_parse_5 rfl (lv_at hl 0 rfl) ?_
  obtain ⟨v1, ev1, hf⟩ := xb hf
  obtain ⟨h2, eh2, hf⟩ := xb1 hf
  refine xc_Vv (rest := []) ⟨hx, hb, hml, hown, hts⟩ (m_X6_lays l B0 G fu h1 h2 a0 eh2) (cwV 0 hts gX6_parse_X6_lays rfl rfl rfl (by decide +kernel) ⟨Nat.le_of_ble_eq_true rfl, Nat.le_of_ble_eq_true rfl⟩) hKK hP hS ev1 rfl rfl hl.1 rfl (Nat.le_of_ble_eq_true rfl) dX6_parse_6 ⟨Nat.zero_le _, Nat.zero_le _⟩ (fun H locs hP hS => ?_)
  refine lv_aload_n hx hb dX6_parse_9 rfl (lv_at hl 0 rfl) ?_
  refine lv_iconst (v := (0 : Int32)) hx hb dX6_parse_10 (by decide) ?_
  obtain ⟨h3, eh3, hf⟩ := xb hf
  refine xr_put hx hb hts inX6 tyX6 tyX6_ok nmX6 hown hKK hP hS eh3 rfl (by decide) w2 (fun _ h9 => h9) rfl (tyX6_ok 11 (by decide)) rfl rfl dX6_parse_11 (fun H locs hP _ hS => ?_)
  obtain ⟨out, eL, hEL, hER⟩ := xr1 hf
  have J1 : ∀ (h5 : XH), out = .inl h5 → ∀ (H : Heap) (locs : List Loc) (ls : Array Slot), xP B0 G h5 H → va_S (xA B0) s.heap H locs → lv_has ls 3 [(0, .ref a0)] → W p l e rmX6_parse s m args below meth c H locs 0 0 Q (F0 m 44 ls []) := by
    intro h5 hf H locs ls hP hS hl
    have hf := hEL _ hf
    refine lv_iconst (v := (0 : Int32)) hx hb dX6_parse_44 (by decide) ?_
    refine lv_istore_n (lv' := [(1, .int (0 : Int32)), (0, .ref a0)]) hx hb dX6_parse_45 rfl hl (by decide) rfl (fun ls hl => ?_)
    obtain ⟨h9, eL, hf⟩ := xb1 hf
    have J2 : ∀ (H : Heap) (locs : List Loc) (ls : Array Slot), xP B0 G h9 H → va_S (xA B0) s.heap H locs → lv_has ls 3 [(0, .ref a0)] → W p l e rmX6_parse s m args below meth c H locs 0 0 Q (F0 m 85 ls []) := by
      intro H locs ls hP hS hl
      clear eL
      refine lv_aload_n hx hb dX6_parse_85 rfl (lv_at hl 0 rfl) ?_
      obtain ⟨v16, ev16, hf⟩ := xb hf
      obtain ⟨h12, eh12, hf⟩ := xb1 hf
      refine xc_Vv (rest := []) ⟨hx, hb, hml, hown, hts⟩ (m_X6_save l B0 G fu h9 h12 a0 eh12) (cwV 0 hts gX6_parse_X6_save rfl rfl rfl (by decide +kernel) ⟨Nat.le_of_ble_eq_true rfl, Nat.le_of_ble_eq_true rfl⟩) hKK hP hS ev16 rfl rfl hl.1 rfl (Nat.le_of_ble_eq_true rfl) dX6_parse_86 ⟨Nat.zero_le _, Nat.zero_le _⟩ (fun H locs hP hS => ?_)
      refine lv_aload_n hx hb dX6_parse_89 rfl (lv_at hl 0 rfl) ?_
      obtain ⟨v17, ev17, hf⟩ := xb hf
      obtain ⟨h13, eh13, hf⟩ := xb1 hf
      refine xc_Vv (rest := []) ⟨hx, hb, hml, hown, hts⟩ (m_X6_takesBack l B0 G fu h12 h13 a0 eh13) (cwV 0 hts gX6_parse_X6_takesBack rfl rfl rfl (by decide +kernel) ⟨Nat.le_of_ble_eq_true rfl, Nat.le_of_ble_eq_true rfl⟩) hKK hP hS ev17 rfl rfl hl.1 rfl (Nat.le_of_ble_eq_true rfl) dX6_parse_90 ⟨Nat.zero_le _, Nat.zero_le _⟩ (fun H locs hP hS => ?_)
      refine lv_aload_n hx hb dX6_parse_93 rfl (lv_at hl 0 rfl) ?_
      obtain ⟨v18, ev18, hf⟩ := xb hf
      refine xr_getR hx hb hts inX6 hown hKK hP ev18 rfl (by decide) w4 (fun _ h9 => h9) dX6_parse_94 ?_
      refine lv_bipush (v := (8 : Int32)) hx hb dX6_parse_97 (by decide) ?_
      obtain ⟨v19, ev19, hf⟩ := xb hf
      refine xr_iald hx hb hKK hP ev19 dX6_parse_99 ?_
      obtain ⟨rfl, rfl⟩ := xinj2 hf
      subst hQ
      exact xe_i hx hb hr hlocks hKK hP hS dX6_parse_100
    clear hf
    refine xloop_ind (P := fun z => ∀ (H : Heap) (locs : List Loc) (ls : Array Slot), xP B0 G z.2 H → va_S (xA B0) s.heap H locs → lv_has ls 3 [(1, .int z.1), (0, .ref a0)] → W p l e rmX6_parse s m args below meth c H locs 0 0 Q (F0 m 46 ls [])) ?_ eL _ _ _ hP hS (lv_sub hl [0, 1] rfl)
    rintro ⟨v8, h8⟩ o hf IH EX H locs ls hP hS hl
    have hf := xf2_e hf
    have hP : xP B0 G h8 H := hP
    have hl : lv_has ls 3 [(1, .int v8), (0, .ref a0)] := hl
    refine lv_iload_n hx hb dX6_parse_46 rfl (lv_at hl 0 rfl) ?_
    refine lv_sipush (v := (1163 : Int32)) hx hb dX6_parse_47 (by decide) ?_
    refine lv_icmp_ge (tgt := 85) hx hb dX6_parse_50 (by decide) (fun c3 => ?_) (fun c3 => ?_)
    · have hf := xif_t hf c3
      have hf := EX _ (Option.some.inj hf).symm
      obtain rfl := hf
      exact J2 _ _ _ hP hS (lv_sub hl [1] rfl)
    · have hf := xif_f hf c3
      refine lv_aload_n hx hb dX6_parse_53 rfl (lv_at hl 1 rfl) ?_
      obtain ⟨v9, ev9, hf⟩ := xb hf
      refine xr_getR hx hb hts inX6 hown hKK hP ev9 rfl (by decide) w4 (fun _ h9 => h9) dX6_parse_54 ?_
      refine lv_iload_n hx hb dX6_parse_57 rfl (lv_at hl 0 rfl) ?_
      obtain ⟨v10, ev10, hf⟩ := xb hf
      refine xr_iald hx hb hKK hP ev10 dX6_parse_58 ?_
      refine lv_istore_n (lv' := [(2, .int v10), (1, .int v8), (0, .ref a0)]) hx hb dX6_parse_59 rfl hl (by decide) rfl (fun ls hl => ?_)
      refine lv_aload_n hx hb dX6_parse_60 rfl (lv_at hl 2 rfl) ?_
      obtain ⟨v11, ev11, hf⟩ := xb hf
      refine xr_getR hx hb hts inX6 hown hKK hP ev11 rfl (by decide) w4 (fun _ h9 => h9) dX6_parse_61 ?_
      refine lv_iload_n hx hb dX6_parse_64 rfl (lv_at hl 1 rfl) ?_
      refine lv_aload_n hx hb dX6_parse_65 rfl (lv_at hl 2 rfl) ?_
      obtain ⟨v12, ev12, hf⟩ := xb hf
      refine xr_getR hx hb hts inX6 hown hKK hP ev12 rfl (by decide) w5 (fun _ h9 => h9) dX6_parse_66 ?_
      refine lv_iload_n hx hb dX6_parse_69 rfl (lv_at hl 1 rfl) ?_
      obtain ⟨v13, ev13, hf⟩ := xb hf
      refine xr_iald hx hb hKK hP ev13 dX6_parse_70 ?_
      obtain ⟨h10, eh10, hf⟩ := xb hf
      refine xr_iast hx hb hKK hP hS eh10 dX6_parse_71 (fun H locs hP _ hS => ?_)
      refine lv_aload_n hx hb dX6_parse_72 rfl (lv_at hl 2 rfl) ?_
      obtain ⟨v14, ev14, hf⟩ := xb hf
      refine xr_getR hx hb hts inX6 hown hKK hP ev14 rfl (by decide) w5 (fun _ h9 => h9) dX6_parse_73 ?_
      refine lv_iload_n hx hb dX6_parse_76 rfl (lv_at hl 1 rfl) ?_
      refine lv_iload_n hx hb dX6_parse_77 rfl (lv_at hl 0 rfl) ?_
      obtain ⟨h11, eh11, hf⟩ := xb hf
      refine xr_iast hx hb hKK hP hS eh11 dX6_parse_78 (fun H locs hP _ hS => ?_)
      obtain ⟨v15, ev15, hf⟩ := xl hf
      refine lv_iinc (v := v15) (lv' := [(1, .int v15), (2, .int v10), (0, .ref a0)]) hx hb dX6_parse_79 hl (k := 1) rfl (by rw [ev15]; rfl) (by decide) rfl (fun ls hl => ?_)
      refine lv_goto (tgt := 46) hx hb dX6_parse_82 (by decide) ?_
      exact IH _ (Option.some.inj hf).symm _ _ _ hP hS (lv_sub hl [0, 2] rfl)
  refine xloop_ind (P := fun z => ∀ (H : Heap) (locs : List Loc) (ls : Array Slot), xP B0 G z H → va_S (xA B0) s.heap H locs → lv_has ls 3 [(0, .ref a0)] → W p l e rmX6_parse s m args below meth c H locs 0 0 Q (F0 m 14 ls [])) ?_ eL _ _ _ hP hS (lv_sub hl [0] rfl)
  rintro h4 o hf IH EX H locs ls hP hS hl
  have EXL := fun r1 (e1 : o = .inr (.inl r1)) => (EX _ e1).symm
  have EXR := fun r1 (e1 : o = .inr (.inr r1)) => hER r1 (EX _ e1).symm
  have hf := xf1_e hf
  have hP : xP B0 G h4 H := hP
  have hl : lv_has ls 3 [(0, .ref a0)] := hl
  refine lv_aload_n hx hb dX6_parse_14 rfl (lv_at hl 0 rfl) ?_
  obtain ⟨v2, ev2, hf⟩ := xb hf
  refine xr_getI hx hb hts inX6 hown hKK hP ev2 rfl (by decide) w2 (fun _ h9 => h9) dX6_parse_15 ?_
  refine lv_aload_n hx hb dX6_parse_18 rfl (lv_at hl 0 rfl) ?_
  obtain ⟨v3, ev3, hf⟩ := xb hf
  refine xr_getI hx hb hts inX6 hown hKK hP ev3 rfl (by decide) w3 (fun _ h9 => h9) dX6_parse_19 ?_
  refine lv_icmp_ge (tgt := 44) hx hb dX6_parse_22 (by decide) (fun c1 => ?_) (fun c1 => ?_)
  · have hf := xif_t hf c1
    have hf := EXL _ (Option.some.inj hf).symm
    exact J1 _ hf _ _ _ hP hS (lv_sub hl [0] rfl)
  · have hf := xif_f hf c1
    refine lv_aload_n hx hb dX6_parse_25 rfl (lv_at hl 0 rfl) ?_
    obtain ⟨v4, ev4, hf⟩ := xb hf
    obtain ⟨v5, h6, ev5, hf⟩ := xb2 hf
    refine xc_Vi (rest := []) ⟨hx, hb, hml, hown, hts⟩ (m_X6_readsItem l B0 G fu h4 h6 a0 v5 ev5) (cwV 0 hts gX6_parse_X6_readsItem rfl rfl rfl (by decide +kernel) ⟨Nat.le_of_ble_eq_true rfl, Nat.le_of_ble_eq_true rfl⟩) hKK hP hS ev4 rfl rfl hl.1 rfl (Nat.le_of_ble_eq_true rfl) dX6_parse_26 ⟨Nat.zero_le _, Nat.zero_le _⟩ (fun H locs hP hS => ?_)
    refine lv_if_ne (tgt := 14) hx hb dX6_parse_29 (by decide) (fun c2 => ?_) (fun c2 => ?_)
    · have hf := xif_f hf c2
      exact IH _ (Option.some.inj hf).symm _ _ _ hP hS (lv_sub hl [0] rfl)
    · have hf := xif_t hf c2
      refine lv_aload_n hx hb dX6_parse_32 rfl (lv_at hl 0 rfl) ?_
      obtain ⟨v6, ev6, hf⟩ := xb hf
      obtain ⟨h7, eh7, hf⟩ := xb1 hf
      refine xc_Vv (rest := []) ⟨hx, hb, hml, hown, hts⟩ (m_X6_takesBack l B0 G fu h6 h7 a0 eh7) (cwV 0 hts gX6_parse_X6_takesBack rfl rfl rfl (by decide +kernel) ⟨Nat.le_of_ble_eq_true rfl, Nat.le_of_ble_eq_true rfl⟩) hKK hP hS ev6 rfl rfl hl.1 rfl (Nat.le_of_ble_eq_true rfl) dX6_parse_33 ⟨Nat.zero_le _, Nat.zero_le _⟩ (fun H locs hP hS => ?_)
      refine lv_bipush (v := (-10 : Int32)) hx hb dX6_parse_36 (by decide) ?_
      refine lv_aload_n hx hb dX6_parse_38 rfl (lv_at hl 0 rfl) ?_
      obtain ⟨v7, ev7, hf⟩ := xb hf
      refine xr_getI hx hb hts inX6 hown hKK hP ev7 rfl (by decide) w2 (fun _ h9 => h9) dX6_parse_39 ?_
      refine lv_isub hx hb dX6_parse_42 ?_
      have hf := EXR _ (Option.some.inj hf).symm
      obtain ⟨rfl, rfl⟩ := xpair2 hf
      subst hQ
      exact xe_i hx hb hr hlocks hKK hP hS dX6_parse_43
/-- RainReservoirModel.undo -/
def f_X6_undo (fu : Nat) (h : XH) (a0 : Nat) : Option (Int32 × XH) :=
  (xgI h a0 6 3).bind fun v1 =>
  obind1 (
    if v1 ≤ (0 : Int32) then
      some (0 : Int32)
    else
      some (1 : Int32)
  ) fun v2 =>
  (xis h a0 6).bind fun v3 =>
  obind2 (f_X6_goes h a0 v2 (1 : Int32)) fun v4 h1 =>
  if v4 = (0 : Int32) then
    some (((0 : Int32), h1))
  else
    (xgI h1 a0 6 3).bind fun v5 =>
    (xpV h1 a0 6 3 (.int (v5 - (1 : Int32)))).bind fun h2 =>
    obind1 (xloop (xf2 fun (v6 : Int32) (h3 : XH) =>
      if (1163 : Int32) ≤ v6 then
        some (.inr h3)
      else
        (xgR h3 a0 6 0).bind fun v7 =>
        (xgR h3 a0 6 1).bind fun v8 =>
        (xgI h3 a0 6 3).bind fun v9 =>
        (xald h3 v8 0 (((1163 : Int32) * v9) + v6)).bind fun v10 =>
        (xast h3 v7 0 v6 v10).bind fun h5 =>
        olet (v6 + (1 : Int32)) fun v11 =>
        some (.inl (v11, h5))
    ) fu ((0 : Int32), h2)) fun h4 =>
    (xgI h4 a0 6 3).bind fun v12 =>
    some ((v12, h4))
abbrev rmX6_undo : Room := { frames := 1, cells := 0, slots := 0, locals := 22 }
set_option maxHeartbeats 4000000 in
set_option maxRecDepth 100000 in
theorem m_X6_undo (l : Launch) (B0 : Nat) (G : XG) (fu : Nat) (h hE : XH) (a0 : Nat) (rE : Int32) (hf : f_X6_undo fu h a0 = some (rE, hE)) : Met l yX6_undo wsX6_undo rmX6_undo (va_Pc [.ref a0] (xU B0 G h)) (xQi B0 G hE rE) 0 0 (xA B0) := by
  refine xMet (cc := cX6_undo) (maxL := 2) (by decide) rfl (Nat.le_of_ble_eq_true rfl) ?_
  intro p e s m args below meth c ls hx hb hr hml hown hlocks hnm hts hKK hP hl
  have hown : s.vm.findClass RX6 = some m.cls := hown
  have hl : lv_has ls 2 [(0, .ref a0)] := hl
  have hS : va_S (xA B0) s.heap s.heap [] := va_S.rf
  have inX6 : ∀ w ∈ wsX60, w ∈ wsX6_undo := by decide +kernel
  have w1 := hts (.fieldLink RX6 30 "RainReservoirModel" "savedMany" "I") (by decide +kernel)
  have w2 := hts (.fieldLink RX6 7 "RainReservoirModel" "all" "[I") (by decide +kernel)
  have w3 := hts (.fieldLink RX6 13 "RainReservoirModel" "saved" "[I") (by decide +kernel)
  generalize hQ : MQ below (xQi B0 G hE rE) args s 0 0 (xA B0) = Q
  unfold f_X6_undo at hf
  refine lv_aload_n hx hb dX6_undo_0 rfl (lv_at hl 0 rfl) ?_
  refine lv_aload_n hx hb dX6_undo_1 rfl (lv_at hl 0 rfl) ?_
  obtain ⟨v1, ev1, hf⟩ := xb hf
  refine xr_getI hx hb hts inX6 hown hKK hP ev1 rfl (by decide) w1 (fun _ h9 => h9) dX6_undo_2 ?_
  obtain ⟨v2, ej1, hf⟩ := xb1 hf
  have J1 : ∀ (H : Heap) (locs : List Loc) (ls : Array Slot), xP B0 G h H → va_S (xA B0) s.heap H locs → lv_has ls 2 [(0, .ref a0)] → W p l e rmX6_undo s m args below meth c H locs 0 0 Q (F0 m 13 ls [.int v2, .ref a0]) := by
    intro H locs ls hP hS hl
    clear ej1
    refine lv_iconst (v := (1 : Int32)) hx hb dX6_undo_13 (by decide) ?_
    obtain ⟨v3, ev3, hf⟩ := xb hf
    obtain ⟨v4, h1, ev4, hf⟩ := xb2 hf
    refine xc_Vi (rest := []) ⟨hx, hb, hml, hown, hts⟩ (m_X6_goes l B0 G h h1 a0 v2 (1 : Int32) v4 ev4) (cwV 2 hts gX6_undo_X6_goes rfl rfl rfl (by decide +kernel) ⟨Nat.le_of_ble_eq_true rfl, Nat.le_of_ble_eq_true rfl⟩) hKK hP hS ev3 rfl rfl hl.1 rfl (Nat.le_of_ble_eq_true rfl) dX6_undo_14 ⟨Nat.zero_le _, Nat.zero_le _⟩ (fun H locs hP hS => ?_)
    refine lv_if_ne (tgt := 22) hx hb dX6_undo_17 (by decide) (fun c2 => ?_) (fun c2 => ?_)
    · have hf := xif_f hf c2
      refine lv_aload_n hx hb dX6_undo_22 rfl (lv_at hl 0 rfl) ?_
      refine lv_dup hx hb dX6_undo_23 rfl ?_
      obtain ⟨v5, ev5, hf⟩ := xb hf
      refine xr_getI hx hb hts inX6 hown hKK hP ev5 rfl (by decide) w1 (fun _ h9 => h9) dX6_undo_24 ?_
      refine lv_iconst (v := (1 : Int32)) hx hb dX6_undo_27 (by decide) ?_
      refine lv_isub hx hb dX6_undo_28 ?_
      obtain ⟨h2, eh2, hf⟩ := xb hf
      refine xr_put hx hb hts inX6 tyX6 tyX6_ok nmX6 hown hKK hP hS eh2 rfl (by decide) w1 (fun _ h9 => h9) rfl (tyX6_ok 3 (by decide)) rfl rfl dX6_undo_29 (fun H locs hP _ hS => ?_)
      refine lv_iconst (v := (0 : Int32)) hx hb dX6_undo_32 (by decide) ?_
      refine lv_istore_n (lv' := [(1, .int (0 : Int32)), (0, .ref a0)]) hx hb dX6_undo_33 rfl hl (by decide) rfl (fun ls hl => ?_)
      obtain ⟨h4, eL, hf⟩ := xb1 hf
      have J2 : ∀ (H : Heap) (locs : List Loc) (ls : Array Slot), xP B0 G h4 H → va_S (xA B0) s.heap H locs → lv_has ls 2 [(0, .ref a0)] → W p l e rmX6_undo s m args below meth c H locs 0 0 Q (F0 m 68 ls []) := by
        intro H locs ls hP hS hl
        clear eL
        refine lv_aload_n hx hb dX6_undo_68 rfl (lv_at hl 0 rfl) ?_
        obtain ⟨v12, ev12, hf⟩ := xb hf
        refine xr_getI hx hb hts inX6 hown hKK hP ev12 rfl (by decide) w1 (fun _ h9 => h9) dX6_undo_69 ?_
        obtain ⟨rfl, rfl⟩ := xinj2 hf
        subst hQ
        exact xe_i hx hb hr hlocks hKK hP hS dX6_undo_72
      clear hf
      refine xloop_ind (P := fun z => ∀ (H : Heap) (locs : List Loc) (ls : Array Slot), xP B0 G z.2 H → va_S (xA B0) s.heap H locs → lv_has ls 2 [(1, .int z.1), (0, .ref a0)] → W p l e rmX6_undo s m args below meth c H locs 0 0 Q (F0 m 34 ls [])) ?_ eL _ _ _ hP hS (lv_sub hl [0, 1] rfl)
      rintro ⟨v6, h3⟩ o hf IH EX H locs ls hP hS hl
      have hf := xf2_e hf
      have hP : xP B0 G h3 H := hP
      have hl : lv_has ls 2 [(1, .int v6), (0, .ref a0)] := hl
      refine lv_iload_n hx hb dX6_undo_34 rfl (lv_at hl 0 rfl) ?_
      refine lv_sipush (v := (1163 : Int32)) hx hb dX6_undo_35 (by decide) ?_
      refine lv_icmp_ge (tgt := 68) hx hb dX6_undo_38 (by decide) (fun c3 => ?_) (fun c3 => ?_)
      · have hf := xif_t hf c3
        have hf := EX _ (Option.some.inj hf).symm
        obtain rfl := hf
        exact J2 _ _ _ hP hS (lv_sub hl [1] rfl)
      · have hf := xif_f hf c3
        refine lv_aload_n hx hb dX6_undo_41 rfl (lv_at hl 1 rfl) ?_
        obtain ⟨v7, ev7, hf⟩ := xb hf
        refine xr_getR hx hb hts inX6 hown hKK hP ev7 rfl (by decide) w2 (fun _ h9 => h9) dX6_undo_42 ?_
        refine lv_iload_n hx hb dX6_undo_45 rfl (lv_at hl 0 rfl) ?_
        refine lv_aload_n hx hb dX6_undo_46 rfl (lv_at hl 1 rfl) ?_
        obtain ⟨v8, ev8, hf⟩ := xb hf
        refine xr_getR hx hb hts inX6 hown hKK hP ev8 rfl (by decide) w3 (fun _ h9 => h9) dX6_undo_47 ?_
        refine lv_sipush (v := (1163 : Int32)) hx hb dX6_undo_50 (by decide) ?_
        refine lv_aload_n hx hb dX6_undo_53 rfl (lv_at hl 1 rfl) ?_
        obtain ⟨v9, ev9, hf⟩ := xb hf
        refine xr_getI hx hb hts inX6 hown hKK hP ev9 rfl (by decide) w1 (fun _ h9 => h9) dX6_undo_54 ?_
        refine lv_imul hx hb dX6_undo_57 ?_
        refine lv_iload_n hx hb dX6_undo_58 rfl (lv_at hl 0 rfl) ?_
        refine lv_iadd hx hb dX6_undo_59 ?_
        obtain ⟨v10, ev10, hf⟩ := xb hf
        refine xr_iald hx hb hKK hP ev10 dX6_undo_60 ?_
        obtain ⟨h5, eh5, hf⟩ := xb hf
        refine xr_iast hx hb hKK hP hS eh5 dX6_undo_61 (fun H locs hP _ hS => ?_)
        obtain ⟨v11, ev11, hf⟩ := xl hf
        refine lv_iinc (v := v11) (lv' := [(1, .int v11), (0, .ref a0)]) hx hb dX6_undo_62 hl (k := 0) rfl (by rw [ev11]; rfl) (by decide) rfl (fun ls hl => ?_)
        refine lv_goto (tgt := 34) hx hb dX6_undo_65 (by decide) ?_
        exact IH _ (Option.some.inj hf).symm _ _ _ hP hS (lv_sub hl [0, 1] rfl)
    · have hf := xif_t hf c2
      refine lv_iconst (v := (0 : Int32)) hx hb dX6_undo_20 (by decide) ?_
      obtain ⟨rfl, rfl⟩ := xinj2 hf
      subst hQ
      exact xe_i hx hb hr hlocks hKK hP hS dX6_undo_21
  have hf := ej1
  clear ej1
  refine lv_if_le (tgt := 12) hx hb dX6_undo_5 (by decide) (fun c1 => ?_) (fun c1 => ?_)
  · have hf := xif_t hf c1
    refine lv_iconst (v := (0 : Int32)) hx hb dX6_undo_12 (by decide) ?_
    obtain rfl := Option.some.inj hf
    exact J1 _ _ _ hP hS (lv_sub hl [0] rfl)
  · have hf := xif_f hf c1
    refine lv_iconst (v := (1 : Int32)) hx hb dX6_undo_8 (by decide) ?_
    refine lv_goto (tgt := 13) hx hb dX6_undo_9 (by decide) ?_
    obtain rfl := Option.some.inj hf
    exact J1 _ _ _ hP hS (lv_sub hl [0] rfl)
/-- RainReservoirModel.sums -/
def f_X6_sums (p0 : Int64) (p1 : Int64) : Option (Int64) :=
  some ((((31 : Int64) * p0) + p1))
abbrev rmX6_sums : Room := { frames := 0, cells := 0, slots := 0, locals := 0 }
set_option maxHeartbeats 4000000 in
set_option maxRecDepth 100000 in
theorem m_X6_sums (l : Launch) (B0 : Nat) (G : XG) (h : XH) (p0 : Int64) (p1 : Int64) (rE : Int64) (hf : f_X6_sums p0 p1 = some rE) : Met l yX6_sums wsX6_sums rmX6_sums (va_Pc [.long p0, .long p1] (xU B0 G h)) (xQl B0 G h rE) 0 0 (xA B0) := by
  refine xMet (cc := cX6_sums) (maxL := 4) (by decide) rfl (Nat.le_of_ble_eq_true rfl) ?_
  intro p e s m args below meth c ls hx hb hr hml hown hlocks hnm hts hKK hP hl
  have hown : s.vm.findClass RX6 = some m.cls := hown
  have hl : lv_has ls 4 [(0, .long p0), (2, .long p1)] := hl
  have hS : va_S (xA B0) s.heap s.heap [] := va_S.rf
  have w1 := hts (.constantLong RX6 205 (31)) (by decide +kernel)
  generalize hQ : MQ below (xQl B0 G h rE) args s 0 0 (xA B0) = Q
  unfold f_X6_sums at hf
  refine lv_ldc2 (v := (31 : Int64)) hx hb hown w1 dX6_sums_0 ?_
  refine lv_lload_n hx hb dX6_sums_3 rfl (lv_at hl 0 rfl) ?_
  refine lv_lmul hx hb dX6_sums_4 ?_
  refine lv_lload_n hx hb dX6_sums_5 rfl (lv_at hl 1 rfl) ?_
  refine lv_ladd hx hb dX6_sums_6 ?_
  obtain rfl := Option.some.inj hf
  subst hQ
  exact xe_l hx hb hr hlocks hKK hP hS dX6_sums_7
/-- RainReservoirModel.withPlaces -/
def f_X6_withPlaces (fu : Nat) (h : XH) (a0 : Nat) (p0 : Int64) (p1 : Int32) (p2 : Int32) : Option (Int64) :=
  obind1 (xloop (xf2 fun (v1 : Int64) (v2 : Int32) =>
    if (p1 + p2) ≤ v2 then
      some (.inr v1)
    else
      (xgR h a0 6 0).bind fun v4 =>
      (xald h v4 0 v2).bind fun v5 =>
      obind1 (f_X6_sums v1 (Int32.toInt64 v5)) fun v6 =>
      olet (v2 + (1 : Int32)) fun v7 =>
      some (.inl (v6, v7))
  ) fu (p0, p1)) fun v3 =>
  some (v3)
abbrev rmX6_withPlaces : Room := { frames := 1, cells := 0, slots := 0, locals := 23 }
set_option maxHeartbeats 4000000 in
set_option maxRecDepth 100000 in
theorem m_X6_withPlaces (l : Launch) (B0 : Nat) (G : XG) (fu : Nat) (h : XH) (a0 : Nat) (p0 : Int64) (p1 : Int32) (p2 : Int32) (rE : Int64) (hf : f_X6_withPlaces fu h a0 p0 p1 p2 = some rE) : Met l yX6_withPlaces wsX6_withPlaces rmX6_withPlaces (va_Pc [.ref a0, .long p0, .int p1, .int p2] (xU B0 G h)) (xQl B0 G h rE) 0 0 (xA B0) := by
  refine xMet (cc := cX6_withPlaces) (maxL := 8) (by decide) rfl (Nat.le_of_ble_eq_true rfl) ?_
  intro p e s m args below meth c ls hx hb hr hml hown hlocks hnm hts hKK hP hl
  have hown : s.vm.findClass RX6 = some m.cls := hown
  have hl : lv_has ls 8 [(0, .ref a0), (1, .long p0), (3, .int p1), (4, .int p2)] := hl
  have hS : va_S (xA B0) s.heap s.heap [] := va_S.rf
  have inX6 : ∀ w ∈ wsX60, w ∈ wsX6_withPlaces := by decide +kernel
  have w1 := hts (.fieldLink RX6 7 "RainReservoirModel" "all" "[I") (by decide +kernel)
  generalize hQ : MQ below (xQl B0 G h rE) args s 0 0 (xA B0) = Q
  unfold f_X6_withPlaces at hf
  refine lv_lload_n hx hb dX6_withPlaces_0 rfl (lv_at hl 1 rfl) ?_
  refine lv_lstore (lv' := [(5, .long p0), (0, .ref a0), (1, .long p0), (3, .int p1), (4, .int p2)]) hx hb dX6_withPlaces_1 hl (by decide) rfl (fun ls hl => ?_)
  refine lv_iload_n hx hb dX6_withPlaces_3 rfl (lv_at hl 3 rfl) ?_
  refine lv_istore (lv' := [(7, .int p1), (5, .long p0), (0, .ref a0), (1, .long p0), (3, .int p1), (4, .int p2)]) hx hb dX6_withPlaces_4 hl (by decide) rfl (fun ls hl => ?_)
  obtain ⟨v3, eL, hf⟩ := xb1 hf
  have J1 : ∀ (H : Heap) (locs : List Loc) (ls : Array Slot), xP B0 G h H → va_S (xA B0) s.heap H locs → lv_has ls 8 [(5, .long v3)] → W p l e rmX6_withPlaces s m args below meth c H locs 0 0 Q (F0 m 36 ls []) := by
    intro H locs ls hP hS hl
    clear eL
    refine lv_lload hx hb dX6_withPlaces_36 (lv_at hl 0 rfl) ?_
    obtain rfl := Option.some.inj hf
    subst hQ
    exact xe_l hx hb hr hlocks hKK hP hS dX6_withPlaces_38
  clear hf
  refine xloop_ind (P := fun z => ∀ (H : Heap) (locs : List Loc) (ls : Array Slot), xP B0 G h H → va_S (xA B0) s.heap H locs → lv_has ls 8 [(5, .long z.1), (7, .int z.2), (0, .ref a0), (3, .int p1), (4, .int p2)] → W p l e rmX6_withPlaces s m args below meth c H locs 0 0 Q (F0 m 6 ls [])) ?_ eL _ _ _ hP hS (lv_sub hl [1, 0, 2, 4, 5] rfl)
  rintro ⟨v1, v2⟩ o hf IH EX H locs ls hP hS hl
  have hf := xf2_e hf
  have hl : lv_has ls 8 [(5, .long v1), (7, .int v2), (0, .ref a0), (3, .int p1), (4, .int p2)] := hl
  refine lv_iload hx hb dX6_withPlaces_6 (lv_at hl 1 rfl) ?_
  refine lv_iload_n hx hb dX6_withPlaces_8 rfl (lv_at hl 3 rfl) ?_
  refine lv_iload hx hb dX6_withPlaces_9 (lv_at hl 4 rfl) ?_
  refine lv_iadd hx hb dX6_withPlaces_11 ?_
  refine lv_icmp_ge (tgt := 36) hx hb dX6_withPlaces_12 (by decide) (fun c1 => ?_) (fun c1 => ?_)
  · have hf := xif_t hf c1
    have hf := EX _ (Option.some.inj hf).symm
    obtain rfl := hf
    exact J1 _ _ _ hP hS (lv_sub hl [0] rfl)
  · have hf := xif_f hf c1
    refine lv_lload hx hb dX6_withPlaces_15 (lv_at hl 0 rfl) ?_
    refine lv_aload_n hx hb dX6_withPlaces_17 rfl (lv_at hl 2 rfl) ?_
    obtain ⟨v4, ev4, hf⟩ := xb hf
    refine xr_getR hx hb hts inX6 hown hKK hP ev4 rfl (by decide) w1 (fun _ h9 => h9) dX6_withPlaces_18 ?_
    refine lv_iload hx hb dX6_withPlaces_21 (lv_at hl 1 rfl) ?_
    obtain ⟨v5, ev5, hf⟩ := xb hf
    refine xr_iald hx hb hKK hP ev5 dX6_withPlaces_23 ?_
    refine lv_i2l hx hb dX6_withPlaces_24 rfl ?_
    obtain ⟨v6, ev6, hf⟩ := xb1 hf
    refine xc_Sl (rest := []) ⟨hx, hb, hml, hown, hts⟩ (m_X6_sums l B0 G h v1 (Int32.toInt64 v5) v6 ev6) (va_cwS 2 hts gX6_withPlaces_X6_sums rfl rfl rfl (by decide +kernel) ⟨Nat.le_of_ble_eq_true rfl, Nat.le_of_ble_eq_true rfl⟩) hKK hP hS rfl hl.1 rfl (Nat.le_of_ble_eq_true rfl) dX6_withPlaces_25 ⟨Nat.zero_le _, Nat.zero_le _⟩ (fun H locs hP hS => ?_)
    refine lv_lstore (lv' := [(5, .long v6), (7, .int v2), (0, .ref a0), (3, .int p1), (4, .int p2)]) hx hb dX6_withPlaces_28 hl (by decide) rfl (fun ls hl => ?_)
    obtain ⟨v7, ev7, hf⟩ := xl hf
    refine lv_iinc (v := v7) (lv' := [(7, .int v7), (5, .long v6), (0, .ref a0), (3, .int p1), (4, .int p2)]) hx hb dX6_withPlaces_30 hl (k := 1) rfl (by rw [ev7]; rfl) (by decide) rfl (fun ls hl => ?_)
    refine lv_goto (tgt := 6) hx hb dX6_withPlaces_33 (by decide) ?_
    exact IH _ (Option.some.inj hf).symm _ _ _ hP hS (lv_sub hl [1, 0, 2, 3, 4] rfl)
/-- RainReservoirModel.digest -/
def f_X6_digest (fu : Nat) (h : XH) (a0 : Nat) : Option (Int64 × XH) :=
  (xpV h a0 6 4 (.int (0 : Int32))).bind fun h1 =>
  (xgI h1 a0 6 10).bind fun v1 =>
  obind1 (f_X6_sums (3203 : Int64) (Int32.toInt64 v1)) fun v2 =>
  (xis h1 a0 6).bind fun v3 =>
  obind1 (f_X6_withPlaces fu h1 a0 v2 (0 : Int32) (12 : Int32)) fun v4 =>
  (xgR h1 a0 6 0).bind fun v5 =>
  (xald h1 v5 0 (6 : Int32)).bind fun v6 =>
  (xis h1 a0 6).bind fun v7 =>
  obind1 (f_X6_withPlaces fu h1 a0 v4 (13 : Int32) ((5 : Int32) * v6)) fun v8 =>
  (xgR h1 a0 6 0).bind fun v9 =>
  (xald h1 v9 0 (7 : Int32)).bind fun v10 =>
  (xis h1 a0 6).bind fun v11 =>
  obind1 (f_X6_withPlaces fu h1 a0 v8 (43 : Int32) ((4 : Int32) * v10)) fun v12 =>
  (xgR h1 a0 6 0).bind fun v13 =>
  (xald h1 v13 0 (8 : Int32)).bind fun v14 =>
  (xis h1 a0 6).bind fun v15 =>
  obind1 (f_X6_withPlaces fu h1 a0 v12 (63 : Int32) v14) fun v16 =>
  (xgR h1 a0 6 0).bind fun v17 =>
  (xald h1 v17 0 (9 : Int32)).bind fun v18 =>
  (xis h1 a0 6).bind fun v19 =>
  obind1 (f_X6_withPlaces fu h1 a0 v16 (163 : Int32) ((10 : Int32) * v18)) fun v20 =>
  obind1 (xloop (xf2 fun (v21 : Int64) (v22 : Int32) =>
    if (10 : Int32) ≤ v22 then
      some (.inr v21)
    else
      (xis h1 a0 6).bind fun v24 =>
      obind1 (f_X6_sumOf fu h1 a0 v22) fun v25 =>
      obind1 (f_X6_sums v21 v25) fun v26 =>
      olet (v22 + (1 : Int32)) fun v27 =>
      some (.inl (v26, v27))
  ) fu (v20, (1 : Int32))) fun v23 =>
  (xgI h1 a0 6 3).bind fun v28 =>
  obind1 (f_X6_sums v23 (Int32.toInt64 v28)) fun v29 =>
  some ((v29, h1))
abbrev rmX6_digest : Room := { frames := 2, cells := 0, slots := 0, locals := 50 }
set_option maxHeartbeats 4000000 in
set_option maxRecDepth 100000 in
theorem m_X6_digest (l : Launch) (B0 : Nat) (G : XG) (fu : Nat) (h hE : XH) (a0 : Nat) (rE : Int64) (hf : f_X6_digest fu h a0 = some (rE, hE)) : Met l yX6_digest wsX6_digest rmX6_digest (va_Pc [.ref a0] (xU B0 G h)) (xQl B0 G hE rE) 0 0 (xA B0) := by
  refine xMet (cc := cX6_digest) (maxL := 4) (by decide) rfl (Nat.le_of_ble_eq_true rfl) ?_
  intro p e s m args below meth c ls hx hb hr hml hown hlocks hnm hts hKK hP hl
  have hown : s.vm.findClass RX6 = some m.cls := hown
  have hl : lv_has ls 4 [(0, .ref a0)] := hl
  have hS : va_S (xA B0) s.heap s.heap [] := va_S.rf
  have inX6 : ∀ w ∈ wsX60, w ∈ wsX6_digest := by decide +kernel
  have w1 := hts (.fieldLink RX6 26 "RainReservoirModel" "thrown" "I") (by decide +kernel)
  have w2 := hts (.constantLong RX6 211 (3203)) (by decide +kernel)
  have w3 := hts (.fieldLink RX6 179 "RainReservoirModel" "textLong" "I") (by decide +kernel)
  have w4 := hts (.fieldLink RX6 7 "RainReservoirModel" "all" "[I") (by decide +kernel)
  have w5 := hts (.fieldLink RX6 30 "RainReservoirModel" "savedMany" "I") (by decide +kernel)
  generalize hQ : MQ below (xQl B0 G hE rE) args s 0 0 (xA B0) = Q
  unfold f_X6_digest at hf
  refine lv_aload_n hx hb dX6_digest_0 rfl (lv_at hl 0 rfl) ?_
  refine lv_iconst (v := (0 : Int32)) hx hb dX6_digest_1 (by decide) ?_
  obtain ⟨h1, eh1, hf⟩ := xb hf
  refine xr_put hx hb hts inX6 tyX6 tyX6_ok nmX6 hown hKK hP hS eh1 rfl (by decide) w1 (fun _ h9 => h9) rfl (tyX6_ok 4 (by decide)) rfl rfl dX6_digest_2 (fun H locs hP _ hS => ?_)
  refine lv_aload_n hx hb dX6_digest_5 rfl (lv_at hl 0 rfl) ?_
  refine lv_ldc2 (v := (3203 : Int64)) hx hb hown w2 dX6_digest_6 ?_
  refine lv_aload_n hx hb dX6_digest_9 rfl (lv_at hl 0 rfl) ?_
  obtain ⟨v1, ev1, hf⟩ := xb hf
  refine xr_getI hx hb hts inX6 hown hKK hP ev1 rfl (by decide) w3 (fun _ h9 => h9) dX6_digest_10 ?_
  refine lv_i2l hx hb dX6_digest_13 rfl ?_
  obtain ⟨v2, ev2, hf⟩ := xb1 hf
  refine xc_Sl (rest := [.ref a0]) ⟨hx, hb, hml, hown, hts⟩ (m_X6_sums l B0 G h1 (3203 : Int64) (Int32.toInt64 v1) v2 ev2) (va_cwS 2 hts gX6_digest_X6_sums rfl rfl rfl (by decide +kernel) ⟨Nat.le_of_ble_eq_true rfl, Nat.le_of_ble_eq_true rfl⟩) hKK hP hS rfl hl.1 rfl (Nat.le_of_ble_eq_true rfl) dX6_digest_14 ⟨Nat.zero_le _, Nat.zero_le _⟩ (fun H locs hP hS => ?_)
  refine lv_iconst (v := (0 : Int32)) hx hb dX6_digest_17 (by decide) ?_
  refine lv_bipush (v := (12 : Int32)) hx hb dX6_digest_18 (by decide) ?_
  obtain ⟨v3, ev3, hf⟩ := xb hf
  obtain ⟨v4, ev4, hf⟩ := xb1 hf
  refine xc_Vl (rest := []) ⟨hx, hb, hml, hown, hts⟩ (m_X6_withPlaces l B0 G fu h1 a0 v2 (0 : Int32) (12 : Int32) v4 ev4) (cwV 3 hts gX6_digest_X6_withPlaces rfl rfl rfl (by decide +kernel) ⟨Nat.le_of_ble_eq_true rfl, Nat.le_of_ble_eq_true rfl⟩) hKK hP hS ev3 rfl rfl hl.1 rfl (Nat.le_of_ble_eq_true rfl) dX6_digest_20 ⟨Nat.zero_le _, Nat.zero_le _⟩ (fun H locs hP hS => ?_)
  refine lv_lstore_n (lv' := [(1, .long v4), (0, .ref a0)]) hx hb dX6_digest_23 rfl hl (by decide) rfl (fun ls hl => ?_)
  refine lv_aload_n hx hb dX6_digest_24 rfl (lv_at hl 1 rfl) ?_
  refine lv_lload_n hx hb dX6_digest_25 rfl (lv_at hl 0 rfl) ?_
  refine lv_bipush (v := (13 : Int32)) hx hb dX6_digest_26 (by decide) ?_
  refine lv_iconst (v := (5 : Int32)) hx hb dX6_digest_28 (by decide) ?_
  refine lv_aload_n hx hb dX6_digest_29 rfl (lv_at hl 1 rfl) ?_
  obtain ⟨v5, ev5, hf⟩ := xb hf
  refine xr_getR hx hb hts inX6 hown hKK hP ev5 rfl (by decide) w4 (fun _ h9 => h9) dX6_digest_30 ?_
  refine lv_bipush (v := (6 : Int32)) hx hb dX6_digest_33 (by decide) ?_
  obtain ⟨v6, ev6, hf⟩ := xb hf
  refine xr_iald hx hb hKK hP ev6 dX6_digest_35 ?_
  refine lv_imul hx hb dX6_digest_36 ?_
  obtain ⟨v7, ev7, hf⟩ := xb hf
  obtain ⟨v8, ev8, hf⟩ := xb1 hf
  refine xc_Vl (rest := []) ⟨hx, hb, hml, hown, hts⟩ (m_X6_withPlaces l B0 G fu h1 a0 v4 (13 : Int32) ((5 : Int32) * v6) v8 ev8) (cwV 3 hts gX6_digest_X6_withPlaces rfl rfl rfl (by decide +kernel) ⟨Nat.le_of_ble_eq_true rfl, Nat.le_of_ble_eq_true rfl⟩) hKK hP hS ev7 rfl rfl hl.1 rfl (Nat.le_of_ble_eq_true rfl) dX6_digest_37 ⟨Nat.zero_le _, Nat.zero_le _⟩ (fun H locs hP hS => ?_)
  refine lv_lstore_n (lv' := [(1, .long v8), (0, .ref a0)]) hx hb dX6_digest_40 rfl hl (by decide) rfl (fun ls hl => ?_)
  refine lv_aload_n hx hb dX6_digest_41 rfl (lv_at hl 1 rfl) ?_
  refine lv_lload_n hx hb dX6_digest_42 rfl (lv_at hl 0 rfl) ?_
  refine lv_bipush (v := (43 : Int32)) hx hb dX6_digest_43 (by decide) ?_
  refine lv_iconst (v := (4 : Int32)) hx hb dX6_digest_45 (by decide) ?_
  refine lv_aload_n hx hb dX6_digest_46 rfl (lv_at hl 1 rfl) ?_
  obtain ⟨v9, ev9, hf⟩ := xb hf
  refine xr_getR hx hb hts inX6 hown hKK hP ev9 rfl (by decide) w4 (fun _ h9 => h9) dX6_digest_47 ?_
  refine lv_bipush (v := (7 : Int32)) hx hb dX6_digest_50 (by decide) ?_
  obtain ⟨v10, ev10, hf⟩ := xb hf
  refine xr_iald hx hb hKK hP ev10 dX6_digest_52 ?_
  refine lv_imul hx hb dX6_digest_53 ?_
  obtain ⟨v11, ev11, hf⟩ := xb hf
  obtain ⟨v12, ev12, hf⟩ := xb1 hf
  refine xc_Vl (rest := []) ⟨hx, hb, hml, hown, hts⟩ (m_X6_withPlaces l B0 G fu h1 a0 v8 (43 : Int32) ((4 : Int32) * v10) v12 ev12) (cwV 3 hts gX6_digest_X6_withPlaces rfl rfl rfl (by decide +kernel) ⟨Nat.le_of_ble_eq_true rfl, Nat.le_of_ble_eq_true rfl⟩) hKK hP hS ev11 rfl rfl hl.1 rfl (Nat.le_of_ble_eq_true rfl) dX6_digest_54 ⟨Nat.zero_le _, Nat.zero_le _⟩ (fun H locs hP hS => ?_)
  refine lv_lstore_n (lv' := [(1, .long v12), (0, .ref a0)]) hx hb dX6_digest_57 rfl hl (by decide) rfl (fun ls hl => ?_)
  refine lv_aload_n hx hb dX6_digest_58 rfl (lv_at hl 1 rfl) ?_
  refine lv_lload_n hx hb dX6_digest_59 rfl (lv_at hl 0 rfl) ?_
  refine lv_bipush (v := (63 : Int32)) hx hb dX6_digest_60 (by decide) ?_
  refine lv_aload_n hx hb dX6_digest_62 rfl (lv_at hl 1 rfl) ?_
  obtain ⟨v13, ev13, hf⟩ := xb hf
  refine xr_getR hx hb hts inX6 hown hKK hP ev13 rfl (by decide) w4 (fun _ h9 => h9) dX6_digest_63 ?_
  refine lv_bipush (v := (8 : Int32)) hx hb dX6_digest_66 (by decide) ?_
  obtain ⟨v14, ev14, hf⟩ := xb hf
  refine xr_iald hx hb hKK hP ev14 dX6_digest_68 ?_
  obtain ⟨v15, ev15, hf⟩ := xb hf
  obtain ⟨v16, ev16, hf⟩ := xb1 hf
  refine xc_Vl (rest := []) ⟨hx, hb, hml, hown, hts⟩ (m_X6_withPlaces l B0 G fu h1 a0 v12 (63 : Int32) v14 v16 ev16) (cwV 3 hts gX6_digest_X6_withPlaces rfl rfl rfl (by decide +kernel) ⟨Nat.le_of_ble_eq_true rfl, Nat.le_of_ble_eq_true rfl⟩) hKK hP hS ev15 rfl rfl hl.1 rfl (Nat.le_of_ble_eq_true rfl) dX6_digest_69 ⟨Nat.zero_le _, Nat.zero_le _⟩ (fun H locs hP hS => ?_)
  refine lv_lstore_n (lv' := [(1, .long v16), (0, .ref a0)]) hx hb dX6_digest_72 rfl hl (by decide) rfl (fun ls hl => ?_)
  refine lv_aload_n hx hb dX6_digest_73 rfl (lv_at hl 1 rfl) ?_
  refine lv_lload_n hx hb dX6_digest_74 rfl (lv_at hl 0 rfl) ?_
  refine lv_sipush (v := (163 : Int32)) hx hb dX6_digest_75 (by decide) ?_
  refine lv_bipush (v := (10 : Int32)) hx hb dX6_digest_78 (by decide) ?_
  refine lv_aload_n hx hb dX6_digest_80 rfl (lv_at hl 1 rfl) ?_
  obtain ⟨v17, ev17, hf⟩ := xb hf
  refine xr_getR hx hb hts inX6 hown hKK hP ev17 rfl (by decide) w4 (fun _ h9 => h9) dX6_digest_81 ?_
  refine lv_bipush (v := (9 : Int32)) hx hb dX6_digest_84 (by decide) ?_
  obtain ⟨v18, ev18, hf⟩ := xb hf
  refine xr_iald hx hb hKK hP ev18 dX6_digest_86 ?_
  refine lv_imul hx hb dX6_digest_87 ?_
  obtain ⟨v19, ev19, hf⟩ := xb hf
  obtain ⟨v20, ev20, hf⟩ := xb1 hf
  refine xc_Vl (rest := []) ⟨hx, hb, hml, hown, hts⟩ (m_X6_withPlaces l B0 G fu h1 a0 v16 (163 : Int32) ((10 : Int32) * v18) v20 ev20) (cwV 3 hts gX6_digest_X6_withPlaces rfl rfl rfl (by decide +kernel) ⟨Nat.le_of_ble_eq_true rfl, Nat.le_of_ble_eq_true rfl⟩) hKK hP hS ev19 rfl rfl hl.1 rfl (Nat.le_of_ble_eq_true rfl) dX6_digest_88 ⟨Nat.zero_le _, Nat.zero_le _⟩ (fun H locs hP hS => ?_)
  refine lv_lstore_n (lv' := [(1, .long v20), (0, .ref a0)]) hx hb dX6_digest_91 rfl hl (by decide) rfl (fun ls hl => ?_)
  refine lv_iconst (v := (1 : Int32)) hx hb dX6_digest_92 (by decide) ?_
  refine lv_istore_n (lv' := [(3, .int (1 : Int32)), (1, .long v20), (0, .ref a0)]) hx hb dX6_digest_93 rfl hl (by decide) rfl (fun ls hl => ?_)
  obtain ⟨v23, eL, hf⟩ := xb1 hf
  have J1 : ∀ (H : Heap) (locs : List Loc) (ls : Array Slot), xP B0 G h1 H → va_S (xA B0) s.heap H locs → lv_has ls 4 [(1, .long v23), (0, .ref a0)] → W p l e rmX6_digest s m args below meth c H locs 0 0 Q (F0 m 116 ls []) := by
    intro H locs ls hP hS hl
    clear eL
    refine lv_lload_n hx hb dX6_digest_116 rfl (lv_at hl 0 rfl) ?_
    refine lv_aload_n hx hb dX6_digest_117 rfl (lv_at hl 1 rfl) ?_
    obtain ⟨v28, ev28, hf⟩ := xb hf
    refine xr_getI hx hb hts inX6 hown hKK hP ev28 rfl (by decide) w5 (fun _ h9 => h9) dX6_digest_118 ?_
    refine lv_i2l hx hb dX6_digest_121 rfl ?_
    obtain ⟨v29, ev29, hf⟩ := xb1 hf
    refine xc_Sl (rest := []) ⟨hx, hb, hml, hown, hts⟩ (m_X6_sums l B0 G h1 v23 (Int32.toInt64 v28) v29 ev29) (va_cwS 2 hts gX6_digest_X6_sums rfl rfl rfl (by decide +kernel) ⟨Nat.le_of_ble_eq_true rfl, Nat.le_of_ble_eq_true rfl⟩) hKK hP hS rfl hl.1 rfl (Nat.le_of_ble_eq_true rfl) dX6_digest_122 ⟨Nat.zero_le _, Nat.zero_le _⟩ (fun H locs hP hS => ?_)
    obtain ⟨rfl, rfl⟩ := xinj2 hf
    subst hQ
    exact xe_l hx hb hr hlocks hKK hP hS dX6_digest_125
  clear hf
  refine xloop_ind (P := fun z => ∀ (H : Heap) (locs : List Loc) (ls : Array Slot), xP B0 G h1 H → va_S (xA B0) s.heap H locs → lv_has ls 4 [(1, .long z.1), (3, .int z.2), (0, .ref a0)] → W p l e rmX6_digest s m args below meth c H locs 0 0 Q (F0 m 94 ls [])) ?_ eL _ _ _ hP hS (lv_sub hl [1, 0, 2] rfl)
  rintro ⟨v21, v22⟩ o hf IH EX H locs ls hP hS hl
  have hf := xf2_e hf
  have hl : lv_has ls 4 [(1, .long v21), (3, .int v22), (0, .ref a0)] := hl
  refine lv_iload_n hx hb dX6_digest_94 rfl (lv_at hl 1 rfl) ?_
  refine lv_bipush (v := (10 : Int32)) hx hb dX6_digest_95 (by decide) ?_
  refine lv_icmp_ge (tgt := 116) hx hb dX6_digest_97 (by decide) (fun c1 => ?_) (fun c1 => ?_)
  · have hf := xif_t hf c1
    have hf := EX _ (Option.some.inj hf).symm
    obtain rfl := hf
    exact J1 _ _ _ hP hS (lv_sub hl [0, 2] rfl)
  · have hf := xif_f hf c1
    refine lv_lload_n hx hb dX6_digest_100 rfl (lv_at hl 0 rfl) ?_
    refine lv_aload_n hx hb dX6_digest_101 rfl (lv_at hl 2 rfl) ?_
    refine lv_iload_n hx hb dX6_digest_102 rfl (lv_at hl 1 rfl) ?_
    obtain ⟨v24, ev24, hf⟩ := xb hf
    obtain ⟨v25, ev25, hf⟩ := xb1 hf
    refine xc_Vl (rest := [.long v21]) ⟨hx, hb, hml, hown, hts⟩ (m_X6_sumOf l B0 G fu h1 a0 v22 v25 ev25) (cwV 1 hts gX6_digest_X6_sumOf rfl rfl rfl (by decide +kernel) ⟨Nat.le_of_ble_eq_true rfl, Nat.le_of_ble_eq_true rfl⟩) hKK hP hS ev24 rfl rfl hl.1 rfl (Nat.le_of_ble_eq_true rfl) dX6_digest_103 ⟨Nat.zero_le _, Nat.zero_le _⟩ (fun H locs hP hS => ?_)
    obtain ⟨v26, ev26, hf⟩ := xb1 hf
    refine xc_Sl (rest := []) ⟨hx, hb, hml, hown, hts⟩ (m_X6_sums l B0 G h1 v21 v25 v26 ev26) (va_cwS 2 hts gX6_digest_X6_sums rfl rfl rfl (by decide +kernel) ⟨Nat.le_of_ble_eq_true rfl, Nat.le_of_ble_eq_true rfl⟩) hKK hP hS rfl hl.1 rfl (Nat.le_of_ble_eq_true rfl) dX6_digest_106 ⟨Nat.zero_le _, Nat.zero_le _⟩ (fun H locs hP hS => ?_)
    refine lv_lstore_n (lv' := [(1, .long v26), (3, .int v22), (0, .ref a0)]) hx hb dX6_digest_109 rfl hl (by decide) rfl (fun ls hl => ?_)
    obtain ⟨v27, ev27, hf⟩ := xl hf
    refine lv_iinc (v := v27) (lv' := [(3, .int v27), (1, .long v26), (0, .ref a0)]) hx hb dX6_digest_110 hl (k := 1) rfl (by rw [ev27]; rfl) (by decide) rfl (fun ls hl => ?_)
    refine lv_goto (tgt := 94) hx hb dX6_digest_113 (by decide) ?_
    exact IH _ (Option.some.inj hf).symm _ _ _ hP hS (lv_sub hl [1, 0, 2] rfl)
