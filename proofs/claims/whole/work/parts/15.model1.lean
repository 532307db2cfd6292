/-- RainReservoirModel.thrown -/
def f_X6_thrown (h : XH) (a0 : Nat) : Option (Int32) :=
  (xgI h a0 6 4).bind fun v1 =>
  some (v1)
abbrev rmX6_thrown : Room := { frames := 0, cells := 0, slots := 0, locals := 0 }
set_option maxHeartbeats 4000000 in
set_option maxRecDepth 100000 in
theorem m_X6_thrown (l : Launch) (B0 : Nat) (G : XG) (h : XH) (a0 : Nat) (rE : Int32) (hf : f_X6_thrown h a0 = some rE) : Met l yX6_thrown wsX6_thrown rmX6_thrown (va_Pc [.ref a0] (xU B0 G h)) (xQi B0 G h rE) 0 0 (xA B0) := by
  refine xMet (cc := cX6_thrown) (maxL := 1) (by decide) rfl (Nat.le_of_ble_eq_true rfl) ?_
  intro p e s m args below meth c ls hx hb hr hml hown hlocks hnm hts hKK hP hl
  have hown : s.vm.findClass RX6 = some m.cls := hown
  have hl : lv_has ls 1 [(0, .ref a0)] := hl
  have hS : va_S (xA B0) s.heap s.heap [] := va_S.rf
  have inX6 : ∀ w ∈ wsX60, w ∈ wsX6_thrown := by decide +kernel
  have w1 := hts (.fieldLink RX6 26 "RainReservoirModel" "thrown" "I") (by decide +kernel)
  generalize hQ : MQ below (xQi B0 G h rE) args s 0 0 (xA B0) = Q
  unfold f_X6_thrown at hf
  refine lv_aload_n hx hb dX6_thrown_0 rfl (lv_at hl 0 rfl) ?_
  obtain ⟨v1, ev1, hf⟩ := xb hf
  refine xr_getI hx hb hts inX6 hown hKK hP ev1 rfl (by decide) w1 (fun _ h9 => h9) dX6_thrown_1 ?_
  obtain rfl := Option.some.inj hf
  subst hQ
  exact xe_i hx hb hr hlocks hKK hP hS dX6_thrown_4
/-- RainReservoirModel.in -/
def f_X6_in (p0 : Int64) (p1 : Int64) (p2 : Int64) : Option (Int32) :=
  obind1 (
    oletk (
      some (0 : Int32)
    ) fun k2 =>
    if p0 < p1 then
      k2
    else
      if p2 < p0 then
        k2
      else
        some (1 : Int32)
  ) fun v1 =>
  (xbool v1).bind fun v2 =>
  some (v2)
abbrev rmX6_in : Room := { frames := 0, cells := 0, slots := 0, locals := 0 }
set_option maxHeartbeats 4000000 in
set_option maxRecDepth 100000 in
theorem m_X6_in (l : Launch) (B0 : Nat) (G : XG) (h : XH) (p0 : Int64) (p1 : Int64) (p2 : Int64) (rE : Int32) (hf : f_X6_in p0 p1 p2 = some rE) : Met l yX6_in wsX6_in rmX6_in (va_Pc [.long p0, .long p1, .long p2] (xU B0 G h)) (xQi B0 G h rE) 0 0 (xA B0) := by
  refine xMet (cc := cX6_in) (maxL := 6) (by decide) rfl (Nat.le_of_ble_eq_true rfl) ?_
  intro p e s m args below meth c ls hx hb hr hml hown hlocks hnm hts hKK hP hl
  have hown : s.vm.findClass RX6 = some m.cls := hown
  have hl : lv_has ls 6 [(0, .long p0), (2, .long p1), (4, .long p2)] := hl
  have hS : va_S (xA B0) s.heap s.heap [] := va_S.rf
  generalize hQ : MQ below (xQi B0 G h rE) args s 0 0 (xA B0) = Q
  unfold f_X6_in at hf
  refine lv_lload_n hx hb dX6_in_0 rfl (lv_at hl 0 rfl) ?_
  refine lv_lload_n hx hb dX6_in_1 rfl (lv_at hl 1 rfl) ?_
  obtain ⟨v1, ej1, hf⟩ := xb1 hf
  have J1 : ∀ (H : Heap) (locs : List Loc) (ls : Array Slot), xP B0 G h H → va_S (xA B0) s.heap H locs → lv_has ls 6 [] → W p l e rmX6_in s m args below meth c H locs 0 0 Q (F0 m 18 ls [.int v1]) := by
    intro H locs ls hP hS hl
    clear ej1
    obtain ⟨v2, ev2, hf⟩ := xb hf
    obtain rfl := Option.some.inj hf
    subst hQ
    exact xe_z hx hb hr hlocks hKK hP hS ev2 dX6_in_18
  have hf := ej1
  clear ej1
  obtain ⟨k2, ek2, hf⟩ := xlk hf
  have J2 : k2 = some v1 → ∀ (H : Heap) (locs : List Loc) (ls : Array Slot), xP B0 G h H → va_S (xA B0) s.heap H locs → lv_has ls 6 [] → W p l e rmX6_in s m args below meth c H locs 0 0 Q (F0 m 17 ls []) := by
    intro  hf H locs ls hP hS hl
    have hf := xk0 ek2 hf
    clear ek2
    refine lv_iconst (v := (0 : Int32)) hx hb dX6_in_17 (by decide) ?_
    obtain rfl := Option.some.inj hf
    exact J1 _ _ _ hP hS (lv_sub hl [] rfl)
  clear ek2
  refine xr_lcmp_lt (tgt := 17) hx hb dX6_in_2 dX6_in_3 (by decide) (fun c1 => ?_) (fun c1 => ?_)
  · have hf := xif_t hf c1
    exact J2  hf _ _ _ hP hS (lv_sub hl [] rfl)
  · have hf := xif_f hf c1
    refine lv_lload_n hx hb dX6_in_6 rfl (lv_at hl 0 rfl) ?_
    refine lv_lload hx hb dX6_in_7 (lv_at hl 2 rfl) ?_
    refine xr_lcmp_gt (tgt := 17) hx hb dX6_in_9 dX6_in_10 (by decide) (fun c2 => ?_) (fun c2 => ?_)
    · have hf := xif_t hf c2
      exact J2  hf _ _ _ hP hS (lv_sub hl [] rfl)
    · have hf := xif_f hf c2
      refine lv_iconst (v := (1 : Int32)) hx hb dX6_in_13 (by decide) ?_
      refine lv_goto (tgt := 18) hx hb dX6_in_14 (by decide) ?_
      obtain rfl := Option.some.inj hf
      exact J1 _ _ _ hP hS (lv_sub hl [] rfl)
/-- RainReservoirModel.goes -/
def f_X6_goes (h : XH) (a0 : Nat) (p0 : Int32) (p1 : Int32) : Option (Int32 × XH) :=
  obind1 (
    if p0 = (0 : Int32) then
      some (1 : Int32)
    else
      if p1 = (0 : Int32) then
        some (2 : Int32)
      else
        some (0 : Int32)
  ) fun v1 =>
  (xpV h a0 6 4 (.int v1)).bind fun h1 =>
  (xgI h1 a0 6 4).bind fun v2 =>
  obind1 (
    if v2 = (0 : Int32) then
      some (1 : Int32)
    else
      some (0 : Int32)
  ) fun v3 =>
  (xbool v3).bind fun v4 =>
  some ((v4, h1))
abbrev rmX6_goes : Room := { frames := 0, cells := 0, slots := 0, locals := 0 }
set_option maxHeartbeats 4000000 in
set_option maxRecDepth 100000 in
theorem m_X6_goes (l : Launch) (B0 : Nat) (G : XG) (h hE : XH) (a0 : Nat) (p0 : Int32) (p1 : Int32) (rE : Int32) (hf : f_X6_goes h a0 p0 p1 = some (rE, hE)) : Met l yX6_goes wsX6_goes rmX6_goes (va_Pc [.ref a0, .int p0, .int p1] (xU B0 G h)) (xQi B0 G hE rE) 0 0 (xA B0) := by
  refine xMet (cc := cX6_goes) (maxL := 3) (by decide) rfl (Nat.le_of_ble_eq_true rfl) ?_
  intro p e s m args below meth c ls hx hb hr hml hown hlocks hnm hts hKK hP hl
  have hown : s.vm.findClass RX6 = some m.cls := hown
  have hl : lv_has ls 3 [(0, .ref a0), (1, .int p0), (2, .int p1)] := hl
  have hS : va_S (xA B0) s.heap s.heap [] := va_S.rf
  have inX6 : ∀ w ∈ wsX60, w ∈ wsX6_goes := by decide +kernel
  have w1 := hts (.fieldLink RX6 26 "RainReservoirModel" "thrown" "I") (by decide +kernel)
  generalize hQ : MQ below (xQi B0 G hE rE) args s 0 0 (xA B0) = Q
  unfold f_X6_goes at hf
  refine lv_aload_n hx hb dX6_goes_0 rfl (lv_at hl 0 rfl) ?_
  refine lv_iload_n hx hb dX6_goes_1 rfl (lv_at hl 1 rfl) ?_
  obtain ⟨v1, ej1, hf⟩ := xb1 hf
  have J1 : ∀ (H : Heap) (locs : List Loc) (ls : Array Slot), xP B0 G h H → va_S (xA B0) s.heap H locs → lv_has ls 3 [(0, .ref a0)] → W p l e rmX6_goes s m args below meth c H locs 0 0 Q (F0 m 18 ls [.int v1, .ref a0]) := by
    intro H locs ls hP hS hl
    clear ej1
    obtain ⟨h1, eh1, hf⟩ := xb hf
    refine xr_put hx hb hts inX6 tyX6 tyX6_ok nmX6 hown hKK hP hS eh1 rfl (by decide) w1 (fun _ h9 => h9) rfl (tyX6_ok 4 (by decide)) rfl rfl dX6_goes_18 (fun H locs hP _ hS => ?_)
    refine lv_aload_n hx hb dX6_goes_21 rfl (lv_at hl 0 rfl) ?_
    obtain ⟨v2, ev2, hf⟩ := xb hf
    refine xr_getI hx hb hts inX6 hown hKK hP ev2 rfl (by decide) w1 (fun _ h9 => h9) dX6_goes_22 ?_
    obtain ⟨v3, ej2, hf⟩ := xb1 hf
    have J2 : ∀ (H : Heap) (locs : List Loc) (ls : Array Slot), xP B0 G h1 H → va_S (xA B0) s.heap H locs → lv_has ls 3 [] → W p l e rmX6_goes s m args below meth c H locs 0 0 Q (F0 m 33 ls [.int v3]) := by
      intro H locs ls hP hS hl
      clear ej2
      obtain ⟨v4, ev4, hf⟩ := xb hf
      obtain ⟨rfl, rfl⟩ := xinj2 hf
      subst hQ
      exact xe_z hx hb hr hlocks hKK hP hS ev4 dX6_goes_33
    have hf := ej2
    clear ej2
    refine lv_if_ne (tgt := 32) hx hb dX6_goes_25 (by decide) (fun c3 => ?_) (fun c3 => ?_)
    · have hf := xif_f hf c3
      refine lv_iconst (v := (0 : Int32)) hx hb dX6_goes_32 (by decide) ?_
      obtain rfl := Option.some.inj hf
      exact J2 _ _ _ hP hS (lv_sub hl [] rfl)
    · have hf := xif_t hf c3
      refine lv_iconst (v := (1 : Int32)) hx hb dX6_goes_28 (by decide) ?_
      refine lv_goto (tgt := 33) hx hb dX6_goes_29 (by decide) ?_
      obtain rfl := Option.some.inj hf
      exact J2 _ _ _ hP hS (lv_sub hl [] rfl)
  have hf := ej1
  clear ej1
  refine lv_if_ne (tgt := 9) hx hb dX6_goes_2 (by decide) (fun c1 => ?_) (fun c1 => ?_)
  · have hf := xif_f hf c1
    refine lv_iload_n hx hb dX6_goes_9 rfl (lv_at hl 2 rfl) ?_
    refine lv_if_ne (tgt := 17) hx hb dX6_goes_10 (by decide) (fun c2 => ?_) (fun c2 => ?_)
    · have hf := xif_f hf c2
      refine lv_iconst (v := (0 : Int32)) hx hb dX6_goes_17 (by decide) ?_
      obtain rfl := Option.some.inj hf
      exact J1 _ _ _ hP hS (lv_sub hl [0] rfl)
    · have hf := xif_t hf c2
      refine lv_iconst (v := (2 : Int32)) hx hb dX6_goes_13 (by decide) ?_
      refine lv_goto (tgt := 18) hx hb dX6_goes_14 (by decide) ?_
      obtain rfl := Option.some.inj hf
      exact J1 _ _ _ hP hS (lv_sub hl [0] rfl)
  · have hf := xif_t hf c1
    refine lv_iconst (v := (1 : Int32)) hx hb dX6_goes_5 (by decide) ?_
    refine lv_goto (tgt := 18) hx hb dX6_goes_6 (by decide) ?_
    obtain rfl := Option.some.inj hf
    exact J1 _ _ _ hP hS (lv_sub hl [0] rfl)
/-- RainReservoirModel.save -/
def f_X6_save (fu : Nat) (h : XH) (a0 : Nat) : Option (XH) :=
  (xgI h a0 6 3).bind fun v1 =>
  obind1 (
    if v1 = (4 : Int32) then
      obind1 (xloop (xf2 fun (v2 : Int32) (h2 : XH) =>
        if (3489 : Int32) ≤ v2 then
          some (.inr h2)
        else
          (xgR h2 a0 6 1).bind fun v3 =>
          (xgR h2 a0 6 1).bind fun v4 =>
          (xald h2 v4 0 (v2 + (1163 : Int32))).bind fun v5 =>
          (xast h2 v3 0 v2 v5).bind fun h4 =>
          olet (v2 + (1 : Int32)) fun v6 =>
          some (.inl (v6, h4))
      ) fu ((0 : Int32), h)) fun h3 =>
      (xgI h3 a0 6 3).bind fun v7 =>
      (xpV h3 a0 6 3 (.int (v7 - (1 : Int32)))).bind fun h5 =>
      some h5
    else
      some h
  ) fun h1 =>
  obind1 (xloop (xf2 fun (v8 : Int32) (h6 : XH) =>
    if (1163 : Int32) ≤ v8 then
      some (.inr h6)
    else
      (xgR h6 a0 6 1).bind fun v9 =>
      (xgI h6 a0 6 3).bind fun v10 =>
      (xgR h6 a0 6 0).bind fun v11 =>
      (xald h6 v11 0 v8).bind fun v12 =>
      (xast h6 v9 0 (((1163 : Int32) * v10) + v8) v12).bind fun h8 =>
      olet (v8 + (1 : Int32)) fun v13 =>
      some (.inl (v13, h8))
  ) fu ((0 : Int32), h1)) fun h7 =>
  (xgI h7 a0 6 3).bind fun v14 =>
  (xpV h7 a0 6 3 (.int (v14 + (1 : Int32)))).bind fun h9 =>
  some (h9)
abbrev rmX6_save : Room := { frames := 0, cells := 0, slots := 0, locals := 0 }
set_option maxHeartbeats 4000000 in
set_option maxRecDepth 100000 in
theorem m_X6_save (l : Launch) (B0 : Nat) (G : XG) (fu : Nat) (h hE : XH) (a0 : Nat) (hf : f_X6_save fu h a0 = some hE) : Met l yX6_save wsX6_save rmX6_save (va_Pc [.ref a0] (xU B0 G h)) (xQv B0 G hE) 0 0 (xA B0) := by
  refine xMet (cc := cX6_save) (maxL := 2) (by decide) rfl (Nat.le_of_ble_eq_true rfl) ?_
  intro p e s m args below meth c ls hx hb hr hml hown hlocks hnm hts hKK hP hl
  have hown : s.vm.findClass RX6 = some m.cls := hown
  have hl : lv_has ls 2 [(0, .ref a0)] := hl
  have hS : va_S (xA B0) s.heap s.heap [] := va_S.rf
  have inX6 : ∀ w ∈ wsX60, w ∈ wsX6_save := by decide +kernel
  have w1 := hts (.fieldLink RX6 30 "RainReservoirModel" "savedMany" "I") (by decide +kernel)
  have w2 := hts (.fieldLink RX6 13 "RainReservoirModel" "saved" "[I") (by decide +kernel)
  have w3 := hts (.fieldLink RX6 7 "RainReservoirModel" "all" "[I") (by decide +kernel)
  generalize hQ : MQ below (xQv B0 G hE) args s 0 0 (xA B0) = Q
  unfold f_X6_save at hf
  refine lv_aload_n hx hb dX6_save_0 rfl (lv_at hl 0 rfl) ?_
  obtain ⟨v1, ev1, hf⟩ := xb hf
  refine xr_getI hx hb hts inX6 hown hKK hP ev1 rfl (by decide) w1 (fun _ h9 => h9) dX6_save_1 ?_
  refine lv_iconst (v := (4 : Int32)) hx hb dX6_save_4 (by decide) ?_
  obtain ⟨h1, ej1, hf⟩ := xb1 hf
  have J1 : ∀ (H : Heap) (locs : List Loc) (ls : Array Slot), xP B0 G h1 H → va_S (xA B0) s.heap H locs → lv_has ls 2 [(0, .ref a0)] → W p l e rmX6_save s m args below meth c H locs 0 0 Q (F0 m 49 ls []) := by
    intro H locs ls hP hS hl
    clear ej1
    refine lv_iconst (v := (0 : Int32)) hx hb dX6_save_49 (by decide) ?_
    refine lv_istore_n (lv' := [(1, .int (0 : Int32)), (0, .ref a0)]) hx hb dX6_save_50 rfl hl (by decide) rfl (fun ls hl => ?_)
    obtain ⟨h7, eL, hf⟩ := xb1 hf
    have J3 : ∀ (H : Heap) (locs : List Loc) (ls : Array Slot), xP B0 G h7 H → va_S (xA B0) s.heap H locs → lv_has ls 2 [(0, .ref a0)] → W p l e rmX6_save s m args below meth c H locs 0 0 Q (F0 m 85 ls []) := by
      intro H locs ls hP hS hl
      clear eL
      refine lv_aload_n hx hb dX6_save_85 rfl (lv_at hl 0 rfl) ?_
      refine lv_dup hx hb dX6_save_86 rfl ?_
      obtain ⟨v14, ev14, hf⟩ := xb hf
      refine xr_getI hx hb hts inX6 hown hKK hP ev14 rfl (by decide) w1 (fun _ h9 => h9) dX6_save_87 ?_
      refine lv_iconst (v := (1 : Int32)) hx hb dX6_save_90 (by decide) ?_
      refine lv_iadd hx hb dX6_save_91 ?_
      obtain ⟨h9, eh9, hf⟩ := xb hf
      refine xr_put hx hb hts inX6 tyX6 tyX6_ok nmX6 hown hKK hP hS eh9 rfl (by decide) w1 (fun _ h9 => h9) rfl (tyX6_ok 3 (by decide)) rfl rfl dX6_save_92 (fun H locs hP _ hS => ?_)
      obtain rfl := Option.some.inj hf
      subst hQ
      exact xe_v hx hb hr hlocks hKK hP hS dX6_save_95
    clear hf
    refine xloop_ind (P := fun z => ∀ (H : Heap) (locs : List Loc) (ls : Array Slot), xP B0 G z.2 H → va_S (xA B0) s.heap H locs → lv_has ls 2 [(1, .int z.1), (0, .ref a0)] → W p l e rmX6_save s m args below meth c H locs 0 0 Q (F0 m 51 ls [])) ?_ eL _ _ _ hP hS (lv_sub hl [0, 1] rfl)
    rintro ⟨v8, h6⟩ o hf IH EX H locs ls hP hS hl
    have hf := xf2_e hf
    have hP : xP B0 G h6 H := hP
    have hl : lv_has ls 2 [(1, .int v8), (0, .ref a0)] := hl
    refine lv_iload_n hx hb dX6_save_51 rfl (lv_at hl 0 rfl) ?_
    refine lv_sipush (v := (1163 : Int32)) hx hb dX6_save_52 (by decide) ?_
    refine lv_icmp_ge (tgt := 85) hx hb dX6_save_55 (by decide) (fun c3 => ?_) (fun c3 => ?_)
    · have hf := xif_t hf c3
      have hf := EX _ (Option.some.inj hf).symm
      obtain rfl := hf
      exact J3 _ _ _ hP hS (lv_sub hl [1] rfl)
    · have hf := xif_f hf c3
      refine lv_aload_n hx hb dX6_save_58 rfl (lv_at hl 1 rfl) ?_
      obtain ⟨v9, ev9, hf⟩ := xb hf
      refine xr_getR hx hb hts inX6 hown hKK hP ev9 rfl (by decide) w2 (fun _ h9 => h9) dX6_save_59 ?_
      refine lv_sipush (v := (1163 : Int32)) hx hb dX6_save_62 (by decide) ?_
      refine lv_aload_n hx hb dX6_save_65 rfl (lv_at hl 1 rfl) ?_
      obtain ⟨v10, ev10, hf⟩ := xb hf
      refine xr_getI hx hb hts inX6 hown hKK hP ev10 rfl (by decide) w1 (fun _ h9 => h9) dX6_save_66 ?_
      refine lv_imul hx hb dX6_save_69 ?_
      refine lv_iload_n hx hb dX6_save_70 rfl (lv_at hl 0 rfl) ?_
      refine lv_iadd hx hb dX6_save_71 ?_
      refine lv_aload_n hx hb dX6_save_72 rfl (lv_at hl 1 rfl) ?_
      obtain ⟨v11, ev11, hf⟩ := xb hf
      refine xr_getR hx hb hts inX6 hown hKK hP ev11 rfl (by decide) w3 (fun _ h9 => h9) dX6_save_73 ?_
      refine lv_iload_n hx hb dX6_save_76 rfl (lv_at hl 0 rfl) ?_
      obtain ⟨v12, ev12, hf⟩ := xb hf
      refine xr_iald hx hb hKK hP ev12 dX6_save_77 ?_
      obtain ⟨h8, eh8, hf⟩ := xb hf
      refine xr_iast hx hb hKK hP hS eh8 dX6_save_78 (fun H locs hP _ hS => ?_)
      obtain ⟨v13, ev13, hf⟩ := xl hf
      refine lv_iinc (v := v13) (lv' := [(1, .int v13), (0, .ref a0)]) hx hb dX6_save_79 hl (k := 0) rfl (by rw [ev13]; rfl) (by decide) rfl (fun ls hl => ?_)
      refine lv_goto (tgt := 51) hx hb dX6_save_82 (by decide) ?_
      exact IH _ (Option.some.inj hf).symm _ _ _ hP hS (lv_sub hl [0, 1] rfl)
  have hf := ej1
  clear ej1
  refine lv_icmp_ne (tgt := 49) hx hb dX6_save_5 (by decide) (fun c1 => ?_) (fun c1 => ?_)
  · have hf := xif_f hf c1
    obtain rfl := Option.some.inj hf
    exact J1 _ _ _ hP hS (lv_sub hl [0] rfl)
  · have hf := xif_t hf c1
    refine lv_iconst (v := (0 : Int32)) hx hb dX6_save_8 (by decide) ?_
    refine lv_istore_n (lv' := [(1, .int (0 : Int32)), (0, .ref a0)]) hx hb dX6_save_9 rfl hl (by decide) rfl (fun ls hl => ?_)
    obtain ⟨h3, eL, hf⟩ := xb1 hf
    have J2 : ∀ (H : Heap) (locs : List Loc) (ls : Array Slot), xP B0 G h3 H → va_S (xA B0) s.heap H locs → lv_has ls 2 [(0, .ref a0)] → W p l e rmX6_save s m args below meth c H locs 0 0 Q (F0 m 39 ls []) := by
      intro H locs ls hP hS hl
      clear eL
      refine lv_aload_n hx hb dX6_save_39 rfl (lv_at hl 0 rfl) ?_
      refine lv_dup hx hb dX6_save_40 rfl ?_
      obtain ⟨v7, ev7, hf⟩ := xb hf
      refine xr_getI hx hb hts inX6 hown hKK hP ev7 rfl (by decide) w1 (fun _ h9 => h9) dX6_save_41 ?_
      refine lv_iconst (v := (1 : Int32)) hx hb dX6_save_44 (by decide) ?_
      refine lv_isub hx hb dX6_save_45 ?_
      obtain ⟨h5, eh5, hf⟩ := xb hf
      refine xr_put hx hb hts inX6 tyX6 tyX6_ok nmX6 hown hKK hP hS eh5 rfl (by decide) w1 (fun _ h9 => h9) rfl (tyX6_ok 3 (by decide)) rfl rfl dX6_save_46 (fun H locs hP _ hS => ?_)
      obtain rfl := Option.some.inj hf
      exact J1 _ _ _ hP hS (lv_sub hl [0] rfl)
    clear hf
    refine xloop_ind (P := fun z => ∀ (H : Heap) (locs : List Loc) (ls : Array Slot), xP B0 G z.2 H → va_S (xA B0) s.heap H locs → lv_has ls 2 [(1, .int z.1), (0, .ref a0)] → W p l e rmX6_save s m args below meth c H locs 0 0 Q (F0 m 10 ls [])) ?_ eL _ _ _ hP hS (lv_sub hl [0, 1] rfl)
    rintro ⟨v2, h2⟩ o hf IH EX H locs ls hP hS hl
    have hf := xf2_e hf
    have hP : xP B0 G h2 H := hP
    have hl : lv_has ls 2 [(1, .int v2), (0, .ref a0)] := hl
    refine lv_iload_n hx hb dX6_save_10 rfl (lv_at hl 0 rfl) ?_
    refine lv_sipush (v := (3489 : Int32)) hx hb dX6_save_11 (by decide) ?_
    refine lv_icmp_ge (tgt := 39) hx hb dX6_save_14 (by decide) (fun c2 => ?_) (fun c2 => ?_)
    · have hf := xif_t hf c2
      have hf := EX _ (Option.some.inj hf).symm
      obtain rfl := hf
      exact J2 _ _ _ hP hS (lv_sub hl [1] rfl)
    · have hf := xif_f hf c2
      refine lv_aload_n hx hb dX6_save_17 rfl (lv_at hl 1 rfl) ?_
      obtain ⟨v3, ev3, hf⟩ := xb hf
      refine xr_getR hx hb hts inX6 hown hKK hP ev3 rfl (by decide) w2 (fun _ h9 => h9) dX6_save_18 ?_
      refine lv_iload_n hx hb dX6_save_21 rfl (lv_at hl 0 rfl) ?_
      refine lv_aload_n hx hb dX6_save_22 rfl (lv_at hl 1 rfl) ?_
      obtain ⟨v4, ev4, hf⟩ := xb hf
      refine xr_getR hx hb hts inX6 hown hKK hP ev4 rfl (by decide) w2 (fun _ h9 => h9) dX6_save_23 ?_
      refine lv_iload_n hx hb dX6_save_26 rfl (lv_at hl 0 rfl) ?_
      refine lv_sipush (v := (1163 : Int32)) hx hb dX6_save_27 (by decide) ?_
      refine lv_iadd hx hb dX6_save_30 ?_
      obtain ⟨v5, ev5, hf⟩ := xb hf
      refine xr_iald hx hb hKK hP ev5 dX6_save_31 ?_
      obtain ⟨h4, eh4, hf⟩ := xb hf
      refine xr_iast hx hb hKK hP hS eh4 dX6_save_32 (fun H locs hP _ hS => ?_)
      obtain ⟨v6, ev6, hf⟩ := xl hf
      refine lv_iinc (v := v6) (lv' := [(1, .int v6), (0, .ref a0)]) hx hb dX6_save_33 hl (k := 0) rfl (by rw [ev6]; rfl) (by decide) rfl (fun ls hl => ?_)
      refine lv_goto (tgt := 10) hx hb dX6_save_36 (by decide) ?_
      exact IH _ (Option.some.inj hf).symm _ _ _ hP hS (lv_sub hl [0, 1] rfl)
/-- RainReservoirModel.lays -/
def f_X6_lays (fu : Nat) (h : XH) (a0 : Nat) : Option (XH) :=
  obind1 (xloop (xf2 fun (v1 : Int32) (h1 : XH) =>
    if (1163 : Int32) ≤ v1 then
      some (.inr h1)
    else
      (xgR h1 a0 6 2).bind fun v2 =>
      (xgR h1 a0 6 0).bind fun v3 =>
      (xald h1 v3 0 v1).bind fun v4 =>
      (xast h1 v2 0 v1 v4).bind fun h3 =>
      olet (v1 + (1 : Int32)) fun v5 =>
      some (.inl (v5, h3))
  ) fu ((0 : Int32), h)) fun h2 =>
  some (h2)
abbrev rmX6_lays : Room := { frames := 0, cells := 0, slots := 0, locals := 0 }
set_option maxHeartbeats 4000000 in
set_option maxRecDepth 100000 in
theorem m_X6_lays (l : Launch) (B0 : Nat) (G : XG) (fu : Nat) (h hE : XH) (a0 : Nat) (hf : f_X6_lays fu h a0 = some hE) : Met l yX6_lays wsX6_lays rmX6_lays (va_Pc [.ref a0] (xU B0 G h)) (xQv B0 G hE) 0 0 (xA B0) := by
  refine xMet (cc := cX6_lays) (maxL := 2) (by decide) rfl (Nat.le_of_ble_eq_true rfl) ?_
  intro p e s m args below meth c ls hx hb hr hml hown hlocks hnm hts hKK hP hl
  have hown : s.vm.findClass RX6 = some m.cls := hown
  have hl : lv_has ls 2 [(0, .ref a0)] := hl
  have hS : va_S (xA B0) s.heap s.heap [] := va_S.rf
  have inX6 : ∀ w ∈ wsX60, w ∈ wsX6_lays := by decide +kernel
  have w1 := hts (.fieldLink RX6 16 "RainReservoirModel" "aside" "[I") (by decide +kernel)
  have w2 := hts (.fieldLink RX6 7 "RainReservoirModel" "all" "[I") (by decide +kernel)
  generalize hQ : MQ below (xQv B0 G hE) args s 0 0 (xA B0) = Q
  unfold f_X6_lays at hf
  refine lv_iconst (v := (0 : Int32)) hx hb dX6_lays_0 (by decide) ?_
  refine lv_istore_n (lv' := [(1, .int (0 : Int32)), (0, .ref a0)]) hx hb dX6_lays_1 rfl hl (by decide) rfl (fun ls hl => ?_)
  obtain ⟨h2, eL, hf⟩ := xb1 hf
  have J1 : ∀ (H : Heap) (locs : List Loc) (ls : Array Slot), xP B0 G h2 H → va_S (xA B0) s.heap H locs → lv_has ls 2 [] → W p l e rmX6_lays s m args below meth c H locs 0 0 Q (F0 m 27 ls []) := by
    intro H locs ls hP hS hl
    clear eL
    obtain rfl := Option.some.inj hf
    subst hQ
    exact xe_v hx hb hr hlocks hKK hP hS dX6_lays_27
  clear hf
  refine xloop_ind (P := fun z => ∀ (H : Heap) (locs : List Loc) (ls : Array Slot), xP B0 G z.2 H → va_S (xA B0) s.heap H locs → lv_has ls 2 [(1, .int z.1), (0, .ref a0)] → W p l e rmX6_lays s m args below meth c H locs 0 0 Q (F0 m 2 ls [])) ?_ eL _ _ _ hP hS (lv_sub hl [0, 1] rfl)
  rintro ⟨v1, h1⟩ o hf IH EX H locs ls hP hS hl
  have hf := xf2_e hf
  have hP : xP B0 G h1 H := hP
  have hl : lv_has ls 2 [(1, .int v1), (0, .ref a0)] := hl
  refine lv_iload_n hx hb dX6_lays_2 rfl (lv_at hl 0 rfl) ?_
  refine lv_sipush (v := (1163 : Int32)) hx hb dX6_lays_3 (by decide) ?_
  refine lv_icmp_ge (tgt := 27) hx hb dX6_lays_6 (by decide) (fun c1 => ?_) (fun c1 => ?_)
  · have hf := xif_t hf c1
    have hf := EX _ (Option.some.inj hf).symm
    obtain rfl := hf
    exact J1 _ _ _ hP hS (lv_sub hl [] rfl)
  · have hf := xif_f hf c1
    refine lv_aload_n hx hb dX6_lays_9 rfl (lv_at hl 1 rfl) ?_
    obtain ⟨v2, ev2, hf⟩ := xb hf
    refine xr_getR hx hb hts inX6 hown hKK hP ev2 rfl (by decide) w1 (fun _ h9 => h9) dX6_lays_10 ?_
    refine lv_iload_n hx hb dX6_lays_13 rfl (lv_at hl 0 rfl) ?_
    refine lv_aload_n hx hb dX6_lays_14 rfl (lv_at hl 1 rfl) ?_
    obtain ⟨v3, ev3, hf⟩ := xb hf
    refine xr_getR hx hb hts inX6 hown hKK hP ev3 rfl (by decide) w2 (fun _ h9 => h9) dX6_lays_15 ?_
    refine lv_iload_n hx hb dX6_lays_18 rfl (lv_at hl 0 rfl) ?_
    obtain ⟨v4, ev4, hf⟩ := xb hf
    refine xr_iald hx hb hKK hP ev4 dX6_lays_19 ?_
    obtain ⟨h3, eh3, hf⟩ := xb hf
    refine xr_iast hx hb hKK hP hS eh3 dX6_lays_20 (fun H locs hP _ hS => ?_)
    obtain ⟨v5, ev5, hf⟩ := xl hf
    refine lv_iinc (v := v5) (lv' := [(1, .int v5), (0, .ref a0)]) hx hb dX6_lays_21 hl (k := 0) rfl (by rw [ev5]; rfl) (by decide) rfl (fun ls hl => ?_)
    refine lv_goto (tgt := 2) hx hb dX6_lays_24 (by decide) ?_
    exact IH _ (Option.some.inj hf).symm _ _ _ hP hS (lv_sub hl [0, 1] rfl)
/-- RainReservoirModel.takesBack -/
def f_X6_takesBack (fu : Nat) (h : XH) (a0 : Nat) : Option (XH) :=
  obind1 (xloop (xf2 fun (v1 : Int32) (h1 : XH) =>
    if (1163 : Int32) ≤ v1 then
      some (.inr h1)
    else
      (xgR h1 a0 6 0).bind fun v2 =>
      (xgR h1 a0 6 2).bind fun v3 =>
      (xald h1 v3 0 v1).bind fun v4 =>
      (xast h1 v2 0 v1 v4).bind fun h3 =>
      olet (v1 + (1 : Int32)) fun v5 =>
      some (.inl (v5, h3))
  ) fu ((0 : Int32), h)) fun h2 =>
  some (h2)
abbrev rmX6_takesBack : Room := { frames := 0, cells := 0, slots := 0, locals := 0 }
set_option maxHeartbeats 4000000 in
set_option maxRecDepth 100000 in
theorem m_X6_takesBack (l : Launch) (B0 : Nat) (G : XG) (fu : Nat) (h hE : XH) (a0 : Nat) (hf : f_X6_takesBack fu h a0 = some hE) : Met l yX6_takesBack wsX6_takesBack rmX6_takesBack (va_Pc [.ref a0] (xU B0 G h)) (xQv B0 G hE) 0 0 (xA B0) := by
  refine xMet (cc := cX6_takesBack) (maxL := 2) (by decide) rfl (Nat.le_of_ble_eq_true rfl) ?_
  intro p e s m args below meth c ls hx hb hr hml hown hlocks hnm hts hKK hP hl
  have hown : s.vm.findClass RX6 = some m.cls := hown
  have hl : lv_has ls 2 [(0, .ref a0)] := hl
  have hS : va_S (xA B0) s.heap s.heap [] := va_S.rf
  have inX6 : ∀ w ∈ wsX60, w ∈ wsX6_takesBack := by decide +kernel
  have w1 := hts (.fieldLink RX6 7 "RainReservoirModel" "all" "[I") (by decide +kernel)
  have w2 := hts (.fieldLink RX6 16 "RainReservoirModel" "aside" "[I") (by decide +kernel)
  generalize hQ : MQ below (xQv B0 G hE) args s 0 0 (xA B0) = Q
  unfold f_X6_takesBack at hf
  refine lv_iconst (v := (0 : Int32)) hx hb dX6_takesBack_0 (by decide) ?_
  refine lv_istore_n (lv' := [(1, .int (0 : Int32)), (0, .ref a0)]) hx hb dX6_takesBack_1 rfl hl (by decide) rfl (fun ls hl => ?_)
  obtain ⟨h2, eL, hf⟩ := xb1 hf
  have J1 : ∀ (H : Heap) (locs : List Loc) (ls : Array Slot), xP B0 G h2 H → va_S (xA B0) s.heap H locs → lv_has ls 2 [] → W p l e rmX6_takesBack s m args below meth c H locs 0 0 Q (F0 m 27 ls []) := by
    intro H locs ls hP hS hl
    clear eL
    obtain rfl := Option.some.inj hf
    subst hQ
    exact xe_v hx hb hr hlocks hKK hP hS dX6_takesBack_27
  clear hf
  refine xloop_ind (P := fun z => ∀ (H : Heap) (locs : List Loc) (ls : Array Slot), xP B0 G z.2 H → va_S (xA B0) s.heap H locs → lv_has ls 2 [(1, .int z.1), (0, .ref a0)] → W p l e rmX6_takesBack s m args below meth c H locs 0 0 Q (F0 m 2 ls [])) ?_ eL _ _ _ hP hS (lv_sub hl [0, 1] rfl)
  rintro ⟨v1, h1⟩ o hf IH EX H locs ls hP hS hl
  have hf := xf2_e hf
  have hP : xP B0 G h1 H := hP
  have hl : lv_has ls 2 [(1, .int v1), (0, .ref a0)] := hl
  refine lv_iload_n hx hb dX6_takesBack_2 rfl (lv_at hl 0 rfl) ?_
  refine lv_sipush (v := (1163 : Int32)) hx hb dX6_takesBack_3 (by decide) ?_
  refine lv_icmp_ge (tgt := 27) hx hb dX6_takesBack_6 (by decide) (fun c1 => ?_) (fun c1 => ?_)
  · have hf := xif_t hf c1
    have hf := EX _ (Option.some.inj hf).symm
    obtain rfl := hf
    exact J1 _ _ _ hP hS (lv_sub hl [] rfl)
  · have hf := xif_f hf c1
    refine lv_aload_n hx hb dX6_takesBack_9 rfl (lv_at hl 1 rfl) ?_
    obtain ⟨v2, ev2, hf⟩ := xb hf
    refine xr_getR hx hb hts inX6 hown hKK hP ev2 rfl (by decide) w1 (fun _ h9 => h9) dX6_takesBack_10 ?_
    refine lv_iload_n hx hb dX6_takesBack_13 rfl (lv_at hl 0 rfl) ?_
    refine lv_aload_n hx hb dX6_takesBack_14 rfl (lv_at hl 1 rfl) ?_
    obtain ⟨v3, ev3, hf⟩ := xb hf
    refine xr_getR hx hb hts inX6 hown hKK hP ev3 rfl (by decide) w2 (fun _ h9 => h9) dX6_takesBack_15 ?_
    refine lv_iload_n hx hb dX6_takesBack_18 rfl (lv_at hl 0 rfl) ?_
    obtain ⟨v4, ev4, hf⟩ := xb hf
    refine xr_iald hx hb hKK hP ev4 dX6_takesBack_19 ?_
    obtain ⟨h3, eh3, hf⟩ := xb hf
    refine xr_iast hx hb hKK hP hS eh3 dX6_takesBack_20 (fun H locs hP _ hS => ?_)
    obtain ⟨v5, ev5, hf⟩ := xl hf
    refine lv_iinc (v := v5) (lv' := [(1, .int v5), (0, .ref a0)]) hx hb dX6_takesBack_21 hl (k := 0) rfl (by rw [ev5]; rfl) (by decide) rfl (fun ls hl => ?_)
    refine lv_goto (tgt := 2) hx hb dX6_takesBack_24 (by decide) ?_
    exact IH _ (Option.some.inj hf).symm _ _ _ hP hS (lv_sub hl [0, 1] rfl)
/-- RainReservoirModel.roofAt -/
def f_X6_roofAt (p0 : Int32) (p1 : Int32) : Option (Int32) :=
  some ((((13 : Int32) + ((5 : Int32) * p0)) + p1))
abbrev rmX6_roofAt : Room := { frames := 0, cells := 0, slots := 0, locals := 0 }
set_option maxHeartbeats 4000000 in
set_option maxRecDepth 100000 in
theorem m_X6_roofAt (l : Launch) (B0 : Nat) (G : XG) (h : XH) (p0 : Int32) (p1 : Int32) (rE : Int32) (hf : f_X6_roofAt p0 p1 = some rE) : Met l yX6_roofAt wsX6_roofAt rmX6_roofAt (va_Pc [.int p0, .int p1] (xU B0 G h)) (xQi B0 G h rE) 0 0 (xA B0) := by
  refine xMet (cc := cX6_roofAt) (maxL := 2) (by decide) rfl (Nat.le_of_ble_eq_true rfl) ?_
  intro p e s m args below meth c ls hx hb hr hml hown hlocks hnm hts hKK hP hl
  have hown : s.vm.findClass RX6 = some m.cls := hown
  have hl : lv_has ls 2 [(0, .int p0), (1, .int p1)] := hl
  have hS : va_S (xA B0) s.heap s.heap [] := va_S.rf
  generalize hQ : MQ below (xQi B0 G h rE) args s 0 0 (xA B0) = Q
  unfold f_X6_roofAt at hf
  refine lv_bipush (v := (13 : Int32)) hx hb dX6_roofAt_0 (by decide) ?_
  refine lv_iconst (v := (5 : Int32)) hx hb dX6_roofAt_2 (by decide) ?_
  refine lv_iload_n hx hb dX6_roofAt_3 rfl (lv_at hl 0 rfl) ?_
  refine lv_imul hx hb dX6_roofAt_4 ?_
  refine lv_iadd hx hb dX6_roofAt_5 ?_
  refine lv_iload_n hx hb dX6_roofAt_6 rfl (lv_at hl 1 rfl) ?_
  refine lv_iadd hx hb dX6_roofAt_7 ?_
  obtain rfl := Option.some.inj hf
  subst hQ
  exact xe_i hx hb hr hlocks hKK hP hS dX6_roofAt_8
/-- RainReservoirModel.ofRoof -/
def f_X6_ofRoof (h : XH) (a0 : Nat) (p0 : Int32) (p1 : Int32) : Option (Int32) :=
  (xgR h a0 6 0).bind fun v1 =>
  obind1 (f_X6_roofAt p0 p1) fun v2 =>
  (xald h v1 0 v2).bind fun v3 =>
  some (v3)
abbrev rmX6_ofRoof : Room := { frames := 1, cells := 0, slots := 0, locals := 21 }
set_option maxHeartbeats 4000000 in
set_option maxRecDepth 100000 in
theorem m_X6_ofRoof (l : Launch) (B0 : Nat) (G : XG) (h : XH) (a0 : Nat) (p0 : Int32) (p1 : Int32) (rE : Int32) (hf : f_X6_ofRoof h a0 p0 p1 = some rE) : Met l yX6_ofRoof wsX6_ofRoof rmX6_ofRoof (va_Pc [.ref a0, .int p0, .int p1] (xU B0 G h)) (xQi B0 G h rE) 0 0 (xA B0) := by
  refine xMet (cc := cX6_ofRoof) (maxL := 3) (by decide) rfl (Nat.le_of_ble_eq_true rfl) ?_
  intro p e s m args below meth c ls hx hb hr hml hown hlocks hnm hts hKK hP hl
  have hown : s.vm.findClass RX6 = some m.cls := hown
  have hl : lv_has ls 3 [(0, .ref a0), (1, .int p0), (2, .int p1)] := hl
  have hS : va_S (xA B0) s.heap s.heap [] := va_S.rf
  have inX6 : ∀ w ∈ wsX60, w ∈ wsX6_ofRoof := by decide +kernel
  have w1 := hts (.fieldLink RX6 7 "RainReservoirModel" "all" "[I") (by decide +kernel)
  generalize hQ : MQ below (xQi B0 G h rE) args s 0 0 (xA B0) = Q
  unfold f_X6_ofRoof at hf
  refine lv_aload_n hx hb dX6_ofRoof_0 rfl (lv_at hl 0 rfl) ?_
  obtain ⟨v1, ev1, hf⟩ := xb hf
  refine xr_getR hx hb hts inX6 hown hKK hP ev1 rfl (by decide) w1 (fun _ h9 => h9) dX6_ofRoof_1 ?_
  refine lv_iload_n hx hb dX6_ofRoof_4 rfl (lv_at hl 1 rfl) ?_
  refine lv_iload_n hx hb dX6_ofRoof_5 rfl (lv_at hl 2 rfl) ?_
  obtain ⟨v2, ev2, hf⟩ := xb1 hf
  refine xc_Si (rest := [.ref v1]) ⟨hx, hb, hml, hown, hts⟩ (m_X6_roofAt l B0 G h p0 p1 v2 ev2) (va_cwS 2 hts gX6_ofRoof_X6_roofAt rfl rfl rfl (by decide +kernel) ⟨Nat.le_of_ble_eq_true rfl, Nat.le_of_ble_eq_true rfl⟩) hKK hP hS rfl hl.1 rfl (Nat.le_of_ble_eq_true rfl) dX6_ofRoof_6 ⟨Nat.zero_le _, Nat.zero_le _⟩ (fun H locs hP hS => ?_)
  obtain ⟨v3, ev3, hf⟩ := xb hf
  refine xr_iald hx hb hKK hP ev3 dX6_ofRoof_9 ?_
  obtain rfl := Option.some.inj hf
  subst hQ
  exact xe_i hx hb hr hlocks hKK hP hS dX6_ofRoof_10
/-- RainReservoirModel.userAt -/
def f_X6_userAt (p0 : Int32) (p1 : Int32) : Option (Int32) :=
  some ((((43 : Int32) + ((4 : Int32) * p0)) + p1))
abbrev rmX6_userAt : Room := { frames := 0, cells := 0, slots := 0, locals := 0 }
set_option maxHeartbeats 4000000 in
set_option maxRecDepth 100000 in
theorem m_X6_userAt (l : Launch) (B0 : Nat) (G : XG) (h : XH) (p0 : Int32) (p1 : Int32) (rE : Int32) (hf : f_X6_userAt p0 p1 = some rE) : Met l yX6_userAt wsX6_userAt rmX6_userAt (va_Pc [.int p0, .int p1] (xU B0 G h)) (xQi B0 G h rE) 0 0 (xA B0) := by
  refine xMet (cc := cX6_userAt) (maxL := 2) (by decide) rfl (Nat.le_of_ble_eq_true rfl) ?_
  intro p e s m args below meth c ls hx hb hr hml hown hlocks hnm hts hKK hP hl
  have hown : s.vm.findClass RX6 = some m.cls := hown
  have hl : lv_has ls 2 [(0, .int p0), (1, .int p1)] := hl
  have hS : va_S (xA B0) s.heap s.heap [] := va_S.rf
  generalize hQ : MQ below (xQi B0 G h rE) args s 0 0 (xA B0) = Q
  unfold f_X6_userAt at hf
  refine lv_bipush (v := (43 : Int32)) hx hb dX6_userAt_0 (by decide) ?_
  refine lv_iconst (v := (4 : Int32)) hx hb dX6_userAt_2 (by decide) ?_
  refine lv_iload_n hx hb dX6_userAt_3 rfl (lv_at hl 0 rfl) ?_
  refine lv_imul hx hb dX6_userAt_4 ?_
  refine lv_iadd hx hb dX6_userAt_5 ?_
  refine lv_iload_n hx hb dX6_userAt_6 rfl (lv_at hl 1 rfl) ?_
  refine lv_iadd hx hb dX6_userAt_7 ?_
  obtain rfl := Option.some.inj hf
  subst hQ
  exact xe_i hx hb hr hlocks hKK hP hS dX6_userAt_8
/-- RainReservoirModel.ofUser -/
def f_X6_ofUser (h : XH) (a0 : Nat) (p0 : Int32) (p1 : Int32) : Option (Int32) :=
  (xgR h a0 6 0).bind fun v1 =>
  obind1 (f_X6_userAt p0 p1) fun v2 =>
  (xald h v1 0 v2).bind fun v3 =>
  some (v3)
abbrev rmX6_ofUser : Room := { frames := 1, cells := 0, slots := 0, locals := 21 }
set_option maxHeartbeats 4000000 in
set_option maxRecDepth 100000 in
theorem m_X6_ofUser (l : Launch) (B0 : Nat) (G : XG) (h : XH) (a0 : Nat) (p0 : Int32) (p1 : Int32) (rE : Int32) (hf : f_X6_ofUser h a0 p0 p1 = some rE) : Met l yX6_ofUser wsX6_ofUser rmX6_ofUser (va_Pc [.ref a0, .int p0, .int p1] (xU B0 G h)) (xQi B0 G h rE) 0 0 (xA B0) := by
  refine xMet (cc := cX6_ofUser) (maxL := 3) (by decide) rfl (Nat.le_of_ble_eq_true rfl) ?_
  intro p e s m args below meth c ls hx hb hr hml hown hlocks hnm hts hKK hP hl
  have hown : s.vm.findClass RX6 = some m.cls := hown
  have hl : lv_has ls 3 [(0, .ref a0), (1, .int p0), (2, .int p1)] := hl
  have hS : va_S (xA B0) s.heap s.heap [] := va_S.rf
  have inX6 : ∀ w ∈ wsX60, w ∈ wsX6_ofUser := by decide +kernel
  have w1 := hts (.fieldLink RX6 7 "RainReservoirModel" "all" "[I") (by decide +kernel)
  generalize hQ : MQ below (xQi B0 G h rE) args s 0 0 (xA B0) = Q
  unfold f_X6_ofUser at hf
  refine lv_aload_n hx hb dX6_ofUser_0 rfl (lv_at hl 0 rfl) ?_
  obtain ⟨v1, ev1, hf⟩ := xb hf
  refine xr_getR hx hb hts inX6 hown hKK hP ev1 rfl (by decide) w1 (fun _ h9 => h9) dX6_ofUser_1 ?_
  refine lv_iload_n hx hb dX6_ofUser_4 rfl (lv_at hl 1 rfl) ?_
  refine lv_iload_n hx hb dX6_ofUser_5 rfl (lv_at hl 2 rfl) ?_
  obtain ⟨v2, ev2, hf⟩ := xb1 hf
  refine xc_Si (rest := [.ref v1]) ⟨hx, hb, hml, hown, hts⟩ (m_X6_userAt l B0 G h p0 p1 v2 ev2) (va_cwS 2 hts gX6_ofUser_X6_userAt rfl rfl rfl (by decide +kernel) ⟨Nat.le_of_ble_eq_true rfl, Nat.le_of_ble_eq_true rfl⟩) hKK hP hS rfl hl.1 rfl (Nat.le_of_ble_eq_true rfl) dX6_ofUser_6 ⟨Nat.zero_le _, Nat.zero_le _⟩ (fun H locs hP hS => ?_)
  obtain ⟨v3, ev3, hf⟩ := xb hf
  refine xr_iald hx hb hKK hP ev3 dX6_ofUser_9 ?_
  obtain rfl := Option.some.inj hf
  subst hQ
  exact xe_i hx hb hr hlocks hKK hP hS dX6_ofUser_10
/-- RainReservoirModel.isRoof -/
def f_X6_isRoof (h : XH) (a0 : Nat) (p0 : Int32) : Option (Int32) :=
  (xgR h a0 6 0).bind fun v1 =>
  (xald h v1 0 (6 : Int32)).bind fun v2 =>
  obind1 (f_X6_in (Int32.toInt64 p0) (0 : Int64) ((Int32.toInt64 v2) - (1 : Int64))) fun v3 =>
  (xbool v3).bind fun v4 =>
  some (v4)
abbrev rmX6_isRoof : Room := { frames := 1, cells := 0, slots := 0, locals := 25 }
set_option maxHeartbeats 4000000 in
set_option maxRecDepth 100000 in
theorem m_X6_isRoof (l : Launch) (B0 : Nat) (G : XG) (h : XH) (a0 : Nat) (p0 : Int32) (rE : Int32) (hf : f_X6_isRoof h a0 p0 = some rE) : Met l yX6_isRoof wsX6_isRoof rmX6_isRoof (va_Pc [.ref a0, .int p0] (xU B0 G h)) (xQi B0 G h rE) 0 0 (xA B0) := by
  refine xMet (cc := cX6_isRoof) (maxL := 2) (by decide) rfl (Nat.le_of_ble_eq_true rfl) ?_
  intro p e s m args below meth c ls hx hb hr hml hown hlocks hnm hts hKK hP hl
  have hown : s.vm.findClass RX6 = some m.cls := hown
  have hl : lv_has ls 2 [(0, .ref a0), (1, .int p0)] := hl
  have hS : va_S (xA B0) s.heap s.heap [] := va_S.rf
  have inX6 : ∀ w ∈ wsX60, w ∈ wsX6_isRoof := by decide +kernel
  have w1 := hts (.fieldLink RX6 7 "RainReservoirModel" "all" "[I") (by decide +kernel)
  generalize hQ : MQ below (xQi B0 G h rE) args s 0 0 (xA B0) = Q
  unfold f_X6_isRoof at hf
  refine lv_iload_n hx hb dX6_isRoof_0 rfl (lv_at hl 1 rfl) ?_
  refine lv_i2l hx hb dX6_isRoof_1 rfl ?_
  refine lv_lconst (v := (0 : Int64)) hx hb dX6_isRoof_2 (by decide) ?_
  refine lv_aload_n hx hb dX6_isRoof_3 rfl (lv_at hl 0 rfl) ?_
  obtain ⟨v1, ev1, hf⟩ := xb hf
  refine xr_getR hx hb hts inX6 hown hKK hP ev1 rfl (by decide) w1 (fun _ h9 => h9) dX6_isRoof_4 ?_
  refine lv_bipush (v := (6 : Int32)) hx hb dX6_isRoof_7 (by decide) ?_
  obtain ⟨v2, ev2, hf⟩ := xb hf
  refine xr_iald hx hb hKK hP ev2 dX6_isRoof_9 ?_
  refine lv_i2l hx hb dX6_isRoof_10 rfl ?_
  refine lv_lconst (v := (1 : Int64)) hx hb dX6_isRoof_11 (by decide) ?_
  refine lv_lsub hx hb dX6_isRoof_12 ?_
  obtain ⟨v3, ev3, hf⟩ := xb1 hf
  refine xc_Si (rest := []) ⟨hx, hb, hml, hown, hts⟩ (m_X6_in l B0 G h (Int32.toInt64 p0) (0 : Int64) ((Int32.toInt64 v2) - (1 : Int64)) v3 ev3) (va_cwS 3 hts gX6_isRoof_X6_in rfl rfl rfl (by decide +kernel) ⟨Nat.le_of_ble_eq_true rfl, Nat.le_of_ble_eq_true rfl⟩) hKK hP hS rfl hl.1 rfl (Nat.le_of_ble_eq_true rfl) dX6_isRoof_13 ⟨Nat.zero_le _, Nat.zero_le _⟩ (fun H locs hP hS => ?_)
  obtain ⟨v4, ev4, hf⟩ := xb hf
  obtain rfl := Option.some.inj hf
  subst hQ
  exact xe_z hx hb hr hlocks hKK hP hS ev4 dX6_isRoof_16
/-- RainReservoirModel.isUser -/
def f_X6_isUser (h : XH) (a0 : Nat) (p0 : Int32) : Option (Int32) :=
  (xgR h a0 6 0).bind fun v1 =>
  (xald h v1 0 (7 : Int32)).bind fun v2 =>
  obind1 (f_X6_in (Int32.toInt64 p0) (0 : Int64) ((Int32.toInt64 v2) - (1 : Int64))) fun v3 =>
  (xbool v3).bind fun v4 =>
  some (v4)
abbrev rmX6_isUser : Room := { frames := 1, cells := 0, slots := 0, locals := 25 }
set_option maxHeartbeats 4000000 in
set_option maxRecDepth 100000 in
theorem m_X6_isUser (l : Launch) (B0 : Nat) (G : XG) (h : XH) (a0 : Nat) (p0 : Int32) (rE : Int32) (hf : f_X6_isUser h a0 p0 = some rE) : Met l yX6_isUser wsX6_isUser rmX6_isUser (va_Pc [.ref a0, .int p0] (xU B0 G h)) (xQi B0 G h rE) 0 0 (xA B0) := by
  refine xMet (cc := cX6_isUser) (maxL := 2) (by decide) rfl (Nat.le_of_ble_eq_true rfl) ?_
  intro p e s m args below meth c ls hx hb hr hml hown hlocks hnm hts hKK hP hl
  have hown : s.vm.findClass RX6 = some m.cls := hown
  have hl : lv_has ls 2 [(0, .ref a0), (1, .int p0)] := hl
  have hS : va_S (xA B0) s.heap s.heap [] := va_S.rf
  have inX6 : ∀ w ∈ wsX60, w ∈ wsX6_isUser := by decide +kernel
  have w1 := hts (.fieldLink RX6 7 "RainReservoirModel" "all" "[I") (by decide +kernel)
  generalize hQ : MQ below (xQi B0 G h rE) args s 0 0 (xA B0) = Q
  unfold f_X6_isUser at hf
  refine lv_iload_n hx hb dX6_isUser_0 rfl (lv_at hl 1 rfl) ?_
  refine lv_i2l hx hb dX6_isUser_1 rfl ?_
  refine lv_lconst (v := (0 : Int64)) hx hb dX6_isUser_2 (by decide) ?_
  refine lv_aload_n hx hb dX6_isUser_3 rfl (lv_at hl 0 rfl) ?_
  obtain ⟨v1, ev1, hf⟩ := xb hf
  refine xr_getR hx hb hts inX6 hown hKK hP ev1 rfl (by decide) w1 (fun _ h9 => h9) dX6_isUser_4 ?_
  refine lv_bipush (v := (7 : Int32)) hx hb dX6_isUser_7 (by decide) ?_
  obtain ⟨v2, ev2, hf⟩ := xb hf
  refine xr_iald hx hb hKK hP ev2 dX6_isUser_9 ?_
  refine lv_i2l hx hb dX6_isUser_10 rfl ?_
  refine lv_lconst (v := (1 : Int64)) hx hb dX6_isUser_11 (by decide) ?_
  refine lv_lsub hx hb dX6_isUser_12 ?_
  obtain ⟨v3, ev3, hf⟩ := xb1 hf
  refine xc_Si (rest := []) ⟨hx, hb, hml, hown, hts⟩ (m_X6_in l B0 G h (Int32.toInt64 p0) (0 : Int64) ((Int32.toInt64 v2) - (1 : Int64)) v3 ev3) (va_cwS 3 hts gX6_isUser_X6_in rfl rfl rfl (by decide +kernel) ⟨Nat.le_of_ble_eq_true rfl, Nat.le_of_ble_eq_true rfl⟩) hKK hP hS rfl hl.1 rfl (Nat.le_of_ble_eq_true rfl) dX6_isUser_13 ⟨Nat.zero_le _, Nat.zero_le _⟩ (fun H locs hP hS => ?_)
  obtain ⟨v4, ev4, hf⟩ := xb hf
  obtain rfl := Option.some.inj hf
  subst hQ
  exact xe_z hx hb hr hlocks hKK hP hS ev4 dX6_isUser_16
/-- RainReservoirModel.addRoof -/
def f_X6_addRoof (fu : Nat) (h : XH) (a0 : Nat) (p0 : Int32) (p1 : Int32) (p2 : Int32) (p3 : Int32) : Option (Int32 × XH) :=
  obind1 (f_X6_in (Int32.toInt64 p0) (1 : Int64) (500 : Int64)) fun v1 =>
  obind1 (
    oletk (
      some (0 : Int32)
    ) fun k2 =>
    if v1 = (0 : Int32) then
      k2
    else
      obind1 (f_X6_in (Int32.toInt64 p1) (1 : Int64) (100 : Int64)) fun v3 =>
      if v3 = (0 : Int32) then
        k2
      else
        obind1 (f_X6_in (Int32.toInt64 p2) (0 : Int64) (999 : Int64)) fun v4 =>
        if v4 = (0 : Int32) then
          k2
        else
          obind1 (f_X6_in (Int32.toInt64 p3) (1 : Int64) (50000 : Int64)) fun v5 =>
          if v5 = (0 : Int32) then
            k2
          else
            some (1 : Int32)
  ) fun v2 =>
  (xgR h a0 6 0).bind fun v6 =>
  (xald h v6 0 (6 : Int32)).bind fun v7 =>
  obind1 (
    if (6 : Int32) ≤ v7 then
      some (0 : Int32)
    else
      some (1 : Int32)
  ) fun v8 =>
  (xis h a0 6).bind fun v9 =>
  obind2 (f_X6_goes h a0 v2 v8) fun v10 h1 =>
  if v10 = (0 : Int32) then
    some (((0 : Int32), h1))
  else
    (xis h1 a0 6).bind fun v11 =>
    obind1 (f_X6_save fu h1 a0) fun h2 =>
    (xgR h2 a0 6 0).bind fun v12 =>
    (xald h2 v12 0 (6 : Int32)).bind fun v13 =>
    (xgR h2 a0 6 0).bind fun v14 =>
    obind1 (f_X6_roofAt v13 (0 : Int32)) fun v15 =>
    (xast h2 v14 0 v15 p0).bind fun h3 =>
    (xgR h3 a0 6 0).bind fun v16 =>
    obind1 (f_X6_roofAt v13 (1 : Int32)) fun v17 =>
    (xast h3 v16 0 v17 p1).bind fun h4 =>
    (xgR h4 a0 6 0).bind fun v18 =>
    obind1 (f_X6_roofAt v13 (2 : Int32)) fun v19 =>
    (xast h4 v18 0 v19 p2).bind fun h5 =>
    (xgR h5 a0 6 0).bind fun v20 =>
    obind1 (f_X6_roofAt v13 (3 : Int32)) fun v21 =>
    (xast h5 v20 0 v21 p3).bind fun h6 =>
    (xgR h6 a0 6 0).bind fun v22 =>
    obind1 (f_X6_roofAt v13 (4 : Int32)) fun v23 =>
    (xast h6 v22 0 v23 (0 : Int32)).bind fun h7 =>
    (xgR h7 a0 6 0).bind fun v24 =>
    (xald h7 v24 0 (6 : Int32)).bind fun v25 =>
    (xast h7 v24 0 (6 : Int32) (v25 + (1 : Int32))).bind fun h8 =>
    some ((v13, h8))
abbrev rmX6_addRoof : Room := { frames := 1, cells := 0, slots := 0, locals := 25 }
set_option maxHeartbeats 4000000 in
set_option maxRecDepth 100000 in
theorem m_X6_addRoof (l : Launch) (B0 : Nat) (G : XG) (fu : Nat) (h hE : XH) (a0 : Nat) (p0 : Int32) (p1 : Int32) (p2 : Int32) (p3 : Int32) (rE : Int32) (hf : f_X6_addRoof fu h a0 p0 p1 p2 p3 = some (rE, hE)) : Met l yX6_addRoof wsX6_addRoof rmX6_addRoof (va_Pc [.ref a0, .int p0, .int p1, .int p2, .int p3] (xU B0 G h)) (xQi B0 G hE rE) 0 0 (xA B0) := by
  refine xMet (cc := cX6_addRoof) (maxL := 7) (by decide) rfl (Nat.le_of_ble_eq_true rfl) ?_
  intro p e s m args below meth c ls hx hb hr hml hown hlocks hnm hts hKK hP hl
  have hown : s.vm.findClass RX6 = some m.cls := hown
  have hl : lv_has ls 7 [(0, .ref a0), (1, .int p0), (2, .int p1), (3, .int p2), (4, .int p3)] := hl
  have hS : va_S (xA B0) s.heap s.heap [] := va_S.rf
  have inX6 : ∀ w ∈ wsX60, w ∈ wsX6_addRoof := by decide +kernel
  have w1 := hts (.constantLong RX6 44 (500)) (by decide +kernel)
  have w2 := hts (.constantLong RX6 46 (100)) (by decide +kernel)
  have w3 := hts (.constantLong RX6 48 (999)) (by decide +kernel)
  have w4 := hts (.constantLong RX6 50 (50000)) (by decide +kernel)
  have w5 := hts (.fieldLink RX6 7 "RainReservoirModel" "all" "[I") (by decide +kernel)
  generalize hQ : MQ below (xQi B0 G hE rE) args s 0 0 (xA B0) = Q
  unfold f_X6_addRoof at hf
  refine lv_iload_n hx hb dX6_addRoof_0 rfl (lv_at hl 1 rfl) ?_
  refine lv_i2l hx hb dX6_addRoof_1 rfl ?_
  refine lv_lconst (v := (1 : Int64)) hx hb dX6_addRoof_2 (by decide) ?_
  refine lv_ldc2 (v := (500 : Int64)) hx hb hown w1 dX6_addRoof_3 ?_
  obtain ⟨v1, ev1, hf⟩ := xb1 hf
  refine xc_Si (rest := []) ⟨hx, hb, hml, hown, hts⟩ (m_X6_in l B0 G h (Int32.toInt64 p0) (1 : Int64) (500 : Int64) v1 ev1) (va_cwS 3 hts gX6_addRoof_X6_in rfl rfl rfl (by decide +kernel) ⟨Nat.le_of_ble_eq_true rfl, Nat.le_of_ble_eq_true rfl⟩) hKK hP hS rfl hl.1 rfl (Nat.le_of_ble_eq_true rfl) dX6_addRoof_6 ⟨Nat.zero_le _, Nat.zero_le _⟩ (fun H locs hP hS => ?_)
  obtain ⟨v2, ej1, hf⟩ := xb1 hf
  have J1 : ∀ (H : Heap) (locs : List Loc) (ls : Array Slot), xP B0 G h H → va_S (xA B0) s.heap H locs → lv_has ls 7 [(0, .ref a0), (1, .int p0), (2, .int p1), (3, .int p2), (4, .int p3)] → W p l e rmX6_addRoof s m args below meth c H locs 0 0 Q (F0 m 54 ls [.int v2]) := by
    intro H locs ls hP hS hl
    clear ej1
    refine lv_istore (lv' := [(5, .int v2), (0, .ref a0), (1, .int p0), (2, .int p1), (3, .int p2), (4, .int p3)]) hx hb dX6_addRoof_54 hl (by decide) rfl (fun ls hl => ?_)
    refine lv_aload_n hx hb dX6_addRoof_56 rfl (lv_at hl 1 rfl) ?_
    refine lv_iload hx hb dX6_addRoof_57 (lv_at hl 0 rfl) ?_
    refine lv_aload_n hx hb dX6_addRoof_59 rfl (lv_at hl 1 rfl) ?_
    obtain ⟨v6, ev6, hf⟩ := xb hf
    refine xr_getR hx hb hts inX6 hown hKK hP ev6 rfl (by decide) w5 (fun _ h9 => h9) dX6_addRoof_60 ?_
    refine lv_bipush (v := (6 : Int32)) hx hb dX6_addRoof_63 (by decide) ?_
    obtain ⟨v7, ev7, hf⟩ := xb hf
    refine xr_iald hx hb hKK hP ev7 dX6_addRoof_65 ?_
    refine lv_bipush (v := (6 : Int32)) hx hb dX6_addRoof_66 (by decide) ?_
    obtain ⟨v8, ej3, hf⟩ := xb1 hf
    have J3 : ∀ (H : Heap) (locs : List Loc) (ls : Array Slot), xP B0 G h H → va_S (xA B0) s.heap H locs → lv_has ls 7 [(0, .ref a0), (1, .int p0), (2, .int p1), (3, .int p2), (4, .int p3)] → W p l e rmX6_addRoof s m args below meth c H locs 0 0 Q (F0 m 76 ls [.int v8, .int v2, .ref a0]) := by
      intro H locs ls hP hS hl
      clear ej3
      obtain ⟨v9, ev9, hf⟩ := xb hf
      obtain ⟨v10, h1, ev10, hf⟩ := xb2 hf
      refine xc_Vi (rest := []) ⟨hx, hb, hml, hown, hts⟩ (m_X6_goes l B0 G h h1 a0 v2 v8 v10 ev10) (cwV 2 hts gX6_addRoof_X6_goes rfl rfl rfl (by decide +kernel) ⟨Nat.le_of_ble_eq_true rfl, Nat.le_of_ble_eq_true rfl⟩) hKK hP hS ev9 rfl rfl hl.1 rfl (Nat.le_of_ble_eq_true rfl) dX6_addRoof_76 ⟨Nat.zero_le _, Nat.zero_le _⟩ (fun H locs hP hS => ?_)
      refine lv_if_ne (tgt := 84) hx hb dX6_addRoof_79 (by decide) (fun c6 => ?_) (fun c6 => ?_)
      · have hf := xif_f hf c6
        refine lv_aload_n hx hb dX6_addRoof_84 rfl (lv_at hl 0 rfl) ?_
        obtain ⟨v11, ev11, hf⟩ := xb hf
        obtain ⟨h2, eh2, hf⟩ := xb1 hf
        refine xc_Vv (rest := []) ⟨hx, hb, hml, hown, hts⟩ (m_X6_save l B0 G fu h1 h2 a0 eh2) (cwV 0 hts gX6_addRoof_X6_save rfl rfl rfl (by decide +kernel) ⟨Nat.le_of_ble_eq_true rfl, Nat.le_of_ble_eq_true rfl⟩) hKK hP hS ev11 rfl rfl hl.1 rfl (Nat.le_of_ble_eq_true rfl) dX6_addRoof_85 ⟨Nat.zero_le _, Nat.zero_le _⟩ (fun H locs hP hS => ?_)
        refine lv_aload_n hx hb dX6_addRoof_88 rfl (lv_at hl 0 rfl) ?_
        obtain ⟨v12, ev12, hf⟩ := xb hf
        refine xr_getR hx hb hts inX6 hown hKK hP ev12 rfl (by decide) w5 (fun _ h9 => h9) dX6_addRoof_89 ?_
        refine lv_bipush (v := (6 : Int32)) hx hb dX6_addRoof_92 (by decide) ?_
        obtain ⟨v13, ev13, hf⟩ := xb hf
        refine xr_iald hx hb hKK hP ev13 dX6_addRoof_94 ?_
        refine lv_istore (lv' := [(6, .int v13), (0, .ref a0), (1, .int p0), (2, .int p1), (3, .int p2), (4, .int p3)]) hx hb dX6_addRoof_95 hl (by decide) rfl (fun ls hl => ?_)
        refine lv_aload_n hx hb dX6_addRoof_97 rfl (lv_at hl 1 rfl) ?_
        obtain ⟨v14, ev14, hf⟩ := xb hf
        refine xr_getR hx hb hts inX6 hown hKK hP ev14 rfl (by decide) w5 (fun _ h9 => h9) dX6_addRoof_98 ?_
        refine lv_iload hx hb dX6_addRoof_101 (lv_at hl 0 rfl) ?_
        refine lv_iconst (v := (0 : Int32)) hx hb dX6_addRoof_103 (by decide) ?_
        obtain ⟨v15, ev15, hf⟩ := xb1 hf
        refine xc_Si (rest := [.ref v14]) ⟨hx, hb, hml, hown, hts⟩ (m_X6_roofAt l B0 G h2 v13 (0 : Int32) v15 ev15) (va_cwS 2 hts gX6_addRoof_X6_roofAt rfl rfl rfl (by decide +kernel) ⟨Nat.le_of_ble_eq_true rfl, Nat.le_of_ble_eq_true rfl⟩) hKK hP hS rfl hl.1 rfl (Nat.le_of_ble_eq_true rfl) dX6_addRoof_104 ⟨Nat.zero_le _, Nat.zero_le _⟩ (fun H locs hP hS => ?_)
        refine lv_iload_n hx hb dX6_addRoof_107 rfl (lv_at hl 2 rfl) ?_
        obtain ⟨h3, eh3, hf⟩ := xb hf
        refine xr_iast hx hb hKK hP hS eh3 dX6_addRoof_108 (fun H locs hP _ hS => ?_)
        refine lv_aload_n hx hb dX6_addRoof_109 rfl (lv_at hl 1 rfl) ?_
        obtain ⟨v16, ev16, hf⟩ := xb hf
        refine xr_getR hx hb hts inX6 hown hKK hP ev16 rfl (by decide) w5 (fun _ h9 => h9) dX6_addRoof_110 ?_
        refine lv_iload hx hb dX6_addRoof_113 (lv_at hl 0 rfl) ?_
        refine lv_iconst (v := (1 : Int32)) hx hb dX6_addRoof_115 (by decide) ?_
        obtain ⟨v17, ev17, hf⟩ := xb1 hf
        refine xc_Si (rest := [.ref v16]) ⟨hx, hb, hml, hown, hts⟩ (m_X6_roofAt l B0 G h3 v13 (1 : Int32) v17 ev17) (va_cwS 2 hts gX6_addRoof_X6_roofAt rfl rfl rfl (by decide +kernel) ⟨Nat.le_of_ble_eq_true rfl, Nat.le_of_ble_eq_true rfl⟩) hKK hP hS rfl hl.1 rfl (Nat.le_of_ble_eq_true rfl) dX6_addRoof_116 ⟨Nat.zero_le _, Nat.zero_le _⟩ (fun H locs hP hS => ?_)
        refine lv_iload_n hx hb dX6_addRoof_119 rfl (lv_at hl 3 rfl) ?_
        obtain ⟨h4, eh4, hf⟩ := xb hf
        refine xr_iast hx hb hKK hP hS eh4 dX6_addRoof_120 (fun H locs hP _ hS => ?_)
        refine lv_aload_n hx hb dX6_addRoof_121 rfl (lv_at hl 1 rfl) ?_
        obtain ⟨v18, ev18, hf⟩ := xb hf
        refine xr_getR hx hb hts inX6 hown hKK hP ev18 rfl (by decide) w5 (fun _ h9 => h9) dX6_addRoof_122 ?_
        refine lv_iload hx hb dX6_addRoof_125 (lv_at hl 0 rfl) ?_
        refine lv_iconst (v := (2 : Int32)) hx hb dX6_addRoof_127 (by decide) ?_
        obtain ⟨v19, ev19, hf⟩ := xb1 hf
        refine xc_Si (rest := [.ref v18]) ⟨hx, hb, hml, hown, hts⟩ (m_X6_roofAt l B0 G h4 v13 (2 : Int32) v19 ev19) (va_cwS 2 hts gX6_addRoof_X6_roofAt rfl rfl rfl (by decide +kernel) ⟨Nat.le_of_ble_eq_true rfl, Nat.le_of_ble_eq_true rfl⟩) hKK hP hS rfl hl.1 rfl (Nat.le_of_ble_eq_true rfl) dX6_addRoof_128 ⟨Nat.zero_le _, Nat.zero_le _⟩ (fun H locs hP hS => ?_)
        refine lv_iload_n hx hb dX6_addRoof_131 rfl (lv_at hl 4 rfl) ?_
        obtain ⟨h5, eh5, hf⟩ := xb hf
        refine xr_iast hx hb hKK hP hS eh5 dX6_addRoof_132 (fun H locs hP _ hS => ?_)
        refine lv_aload_n hx hb dX6_addRoof_133 rfl (lv_at hl 1 rfl) ?_
        obtain ⟨v20, ev20, hf⟩ := xb hf
        refine xr_getR hx hb hts inX6 hown hKK hP ev20 rfl (by decide) w5 (fun _ h9 => h9) dX6_addRoof_134 ?_
        refine lv_iload hx hb dX6_addRoof_137 (lv_at hl 0 rfl) ?_
        refine lv_iconst (v := (3 : Int32)) hx hb dX6_addRoof_139 (by decide) ?_
        obtain ⟨v21, ev21, hf⟩ := xb1 hf
        refine xc_Si (rest := [.ref v20]) ⟨hx, hb, hml, hown, hts⟩ (m_X6_roofAt l B0 G h5 v13 (3 : Int32) v21 ev21) (va_cwS 2 hts gX6_addRoof_X6_roofAt rfl rfl rfl (by decide +kernel) ⟨Nat.le_of_ble_eq_true rfl, Nat.le_of_ble_eq_true rfl⟩) hKK hP hS rfl hl.1 rfl (Nat.le_of_ble_eq_true rfl) dX6_addRoof_140 ⟨Nat.zero_le _, Nat.zero_le _⟩ (fun H locs hP hS => ?_)
        refine lv_iload hx hb dX6_addRoof_143 (lv_at hl 5 rfl) ?_
        obtain ⟨h6, eh6, hf⟩ := xb hf
        refine xr_iast hx hb hKK hP hS eh6 dX6_addRoof_145 (fun H locs hP _ hS => ?_)
        refine lv_aload_n hx hb dX6_addRoof_146 rfl (lv_at hl 1 rfl) ?_
        obtain ⟨v22, ev22, hf⟩ := xb hf
        refine xr_getR hx hb hts inX6 hown hKK hP ev22 rfl (by decide) w5 (fun _ h9 => h9) dX6_addRoof_147 ?_
        refine lv_iload hx hb dX6_addRoof_150 (lv_at hl 0 rfl) ?_
        refine lv_iconst (v := (4 : Int32)) hx hb dX6_addRoof_152 (by decide) ?_
        obtain ⟨v23, ev23, hf⟩ := xb1 hf
        refine xc_Si (rest := [.ref v22]) ⟨hx, hb, hml, hown, hts⟩ (m_X6_roofAt l B0 G h6 v13 (4 : Int32) v23 ev23) (va_cwS 2 hts gX6_addRoof_X6_roofAt rfl rfl rfl (by decide +kernel) ⟨Nat.le_of_ble_eq_true rfl, Nat.le_of_ble_eq_true rfl⟩) hKK hP hS rfl hl.1 rfl (Nat.le_of_ble_eq_true rfl) dX6_addRoof_153 ⟨Nat.zero_le _, Nat.zero_le _⟩ (fun H locs hP hS => ?_)
        refine lv_iconst (v := (0 : Int32)) hx hb dX6_addRoof_156 (by decide) ?_
        obtain ⟨h7, eh7, hf⟩ := xb hf
        refine xr_iast hx hb hKK hP hS eh7 dX6_addRoof_157 (fun H locs hP _ hS => ?_)
        refine lv_aload_n hx hb dX6_addRoof_158 rfl (lv_at hl 1 rfl) ?_
        obtain ⟨v24, ev24, hf⟩ := xb hf
        refine xr_getR hx hb hts inX6 hown hKK hP ev24 rfl (by decide) w5 (fun _ h9 => h9) dX6_addRoof_159 ?_
        refine lv_bipush (v := (6 : Int32)) hx hb dX6_addRoof_162 (by decide) ?_
        refine lv_dup2_11 hx hb dX6_addRoof_164 rfl rfl ?_
        obtain ⟨v25, ev25, hf⟩ := xb hf
        refine xr_iald hx hb hKK hP ev25 dX6_addRoof_165 ?_
        refine lv_iconst (v := (1 : Int32)) hx hb dX6_addRoof_166 (by decide) ?_
        refine lv_iadd hx hb dX6_addRoof_167 ?_
        obtain ⟨h8, eh8, hf⟩ := xb hf
        refine xr_iast hx hb hKK hP hS eh8 dX6_addRoof_168 (fun H locs hP _ hS => ?_)
        refine lv_iload hx hb dX6_addRoof_169 (lv_at hl 0 rfl) ?_
        obtain ⟨rfl, rfl⟩ := xinj2 hf
        subst hQ
        exact xe_i hx hb hr hlocks hKK hP hS dX6_addRoof_171
      · have hf := xif_t hf c6
        refine lv_iconst (v := (0 : Int32)) hx hb dX6_addRoof_82 (by decide) ?_
        obtain ⟨rfl, rfl⟩ := xinj2 hf
        subst hQ
        exact xe_i hx hb hr hlocks hKK hP hS dX6_addRoof_83
    have hf := ej3
    clear ej3
    refine lv_icmp_ge (tgt := 75) hx hb dX6_addRoof_68 (by decide) (fun c5 => ?_) (fun c5 => ?_)
    · have hf := xif_t hf c5
      refine lv_iconst (v := (0 : Int32)) hx hb dX6_addRoof_75 (by decide) ?_
      obtain rfl := Option.some.inj hf
      exact J3 _ _ _ hP hS (lv_sub hl [1, 2, 3, 4, 5] rfl)
    · have hf := xif_f hf c5
      refine lv_iconst (v := (1 : Int32)) hx hb dX6_addRoof_71 (by decide) ?_
      refine lv_goto (tgt := 76) hx hb dX6_addRoof_72 (by decide) ?_
      obtain rfl := Option.some.inj hf
      exact J3 _ _ _ hP hS (lv_sub hl [1, 2, 3, 4, 5] rfl)
  have hf := ej1
  clear ej1
  obtain ⟨k2, ek2, hf⟩ := xlk hf
  have J2 : k2 = some v2 → ∀ (H : Heap) (locs : List Loc) (ls : Array Slot), xP B0 G h H → va_S (xA B0) s.heap H locs → lv_has ls 7 [(0, .ref a0), (1, .int p0), (2, .int p1), (3, .int p2), (4, .int p3)] → W p l e rmX6_addRoof s m args below meth c H locs 0 0 Q (F0 m 53 ls []) := by
    intro  hf H locs ls hP hS hl
    have hf := xk0 ek2 hf
    clear ek2
    refine lv_iconst (v := (0 : Int32)) hx hb dX6_addRoof_53 (by decide) ?_
    obtain rfl := Option.some.inj hf
    exact J1 _ _ _ hP hS (lv_sub hl [0, 1, 2, 3, 4] rfl)
  clear ek2
  refine lv_if_eq (tgt := 53) hx hb dX6_addRoof_9 (by decide) (fun c1 => ?_) (fun c1 => ?_)
  · have hf := xif_t hf c1
    exact J2  hf _ _ _ hP hS (lv_sub hl [0, 1, 2, 3, 4] rfl)
  · have hf := xif_f hf c1
    refine lv_iload_n hx hb dX6_addRoof_12 rfl (lv_at hl 2 rfl) ?_
    refine lv_i2l hx hb dX6_addRoof_13 rfl ?_
    refine lv_lconst (v := (1 : Int64)) hx hb dX6_addRoof_14 (by decide) ?_
    refine lv_ldc2 (v := (100 : Int64)) hx hb hown w2 dX6_addRoof_15 ?_
    obtain ⟨v3, ev3, hf⟩ := xb1 hf
    refine xc_Si (rest := []) ⟨hx, hb, hml, hown, hts⟩ (m_X6_in l B0 G h (Int32.toInt64 p1) (1 : Int64) (100 : Int64) v3 ev3) (va_cwS 3 hts gX6_addRoof_X6_in rfl rfl rfl (by decide +kernel) ⟨Nat.le_of_ble_eq_true rfl, Nat.le_of_ble_eq_true rfl⟩) hKK hP hS rfl hl.1 rfl (Nat.le_of_ble_eq_true rfl) dX6_addRoof_18 ⟨Nat.zero_le _, Nat.zero_le _⟩ (fun H locs hP hS => ?_)
    refine lv_if_eq (tgt := 53) hx hb dX6_addRoof_21 (by decide) (fun c2 => ?_) (fun c2 => ?_)
    · have hf := xif_t hf c2
      exact J2  hf _ _ _ hP hS (lv_sub hl [0, 1, 2, 3, 4] rfl)
    · have hf := xif_f hf c2
      refine lv_iload_n hx hb dX6_addRoof_24 rfl (lv_at hl 3 rfl) ?_
      refine lv_i2l hx hb dX6_addRoof_25 rfl ?_
      refine lv_lconst (v := (0 : Int64)) hx hb dX6_addRoof_26 (by decide) ?_
      refine lv_ldc2 (v := (999 : Int64)) hx hb hown w3 dX6_addRoof_27 ?_
      obtain ⟨v4, ev4, hf⟩ := xb1 hf
      refine xc_Si (rest := []) ⟨hx, hb, hml, hown, hts⟩ (m_X6_in l B0 G h (Int32.toInt64 p2) (0 : Int64) (999 : Int64) v4 ev4) (va_cwS 3 hts gX6_addRoof_X6_in rfl rfl rfl (by decide +kernel) ⟨Nat.le_of_ble_eq_true rfl, Nat.le_of_ble_eq_true rfl⟩) hKK hP hS rfl hl.1 rfl (Nat.le_of_ble_eq_true rfl) dX6_addRoof_30 ⟨Nat.zero_le _, Nat.zero_le _⟩ (fun H locs hP hS => ?_)
      refine lv_if_eq (tgt := 53) hx hb dX6_addRoof_33 (by decide) (fun c3 => ?_) (fun c3 => ?_)
      · have hf := xif_t hf c3
        exact J2  hf _ _ _ hP hS (lv_sub hl [0, 1, 2, 3, 4] rfl)
      · have hf := xif_f hf c3
        refine lv_iload hx hb dX6_addRoof_36 (lv_at hl 4 rfl) ?_
        refine lv_i2l hx hb dX6_addRoof_38 rfl ?_
        refine lv_lconst (v := (1 : Int64)) hx hb dX6_addRoof_39 (by decide) ?_
        refine lv_ldc2 (v := (50000 : Int64)) hx hb hown w4 dX6_addRoof_40 ?_
        obtain ⟨v5, ev5, hf⟩ := xb1 hf
        refine xc_Si (rest := []) ⟨hx, hb, hml, hown, hts⟩ (m_X6_in l B0 G h (Int32.toInt64 p3) (1 : Int64) (50000 : Int64) v5 ev5) (va_cwS 3 hts gX6_addRoof_X6_in rfl rfl rfl (by decide +kernel) ⟨Nat.le_of_ble_eq_true rfl, Nat.le_of_ble_eq_true rfl⟩) hKK hP hS rfl hl.1 rfl (Nat.le_of_ble_eq_true rfl) dX6_addRoof_43 ⟨Nat.zero_le _, Nat.zero_le _⟩ (fun H locs hP hS => ?_)
        refine lv_if_eq (tgt := 53) hx hb dX6_addRoof_46 (by decide) (fun c4 => ?_) (fun c4 => ?_)
        · have hf := xif_t hf c4
          exact J2  hf _ _ _ hP hS (lv_sub hl [0, 1, 2, 3, 4] rfl)
        · have hf := xif_f hf c4
          refine lv_iconst (v := (1 : Int32)) hx hb dX6_addRoof_49 (by decide) ?_
          refine lv_goto (tgt := 54) hx hb dX6_addRoof_50 (by decide) ?_
          obtain rfl := Option.some.inj hf
          exact J1 _ _ _ hP hS (lv_sub hl [0, 1, 2, 3, 4] rfl)
/-- RainReservoirModel.addUser -/
def f_X6_addUser (fu : Nat) (h : XH) (a0 : Nat) (p0 : Int32) (p1 : Int32) : Option (Int32 × XH) :=
  obind1 (f_X6_in (Int32.toInt64 p0) (0 : Int64) (9999 : Int64)) fun v1 =>
  obind1 (
    oletk (
      some (0 : Int32)
    ) fun k2 =>
    if v1 = (0 : Int32) then
      k2
    else
      obind1 (f_X6_in (Int32.toInt64 p1) (1 : Int64) (9 : Int64)) fun v3 =>
      if v3 = (0 : Int32) then
        k2
      else
        some (1 : Int32)
  ) fun v2 =>
  (xgR h a0 6 0).bind fun v4 =>
  (xald h v4 0 (7 : Int32)).bind fun v5 =>
  obind1 (
    if (5 : Int32) ≤ v5 then
      some (0 : Int32)
    else
      some (1 : Int32)
  ) fun v6 =>
  (xis h a0 6).bind fun v7 =>
  obind2 (f_X6_goes h a0 v2 v6) fun v8 h1 =>
  if v8 = (0 : Int32) then
    some (((0 : Int32), h1))
  else
    (xis h1 a0 6).bind fun v9 =>
    obind1 (f_X6_save fu h1 a0) fun h2 =>
    (xgR h2 a0 6 0).bind fun v10 =>
    (xald h2 v10 0 (7 : Int32)).bind fun v11 =>
    (xgR h2 a0 6 0).bind fun v12 =>
    obind1 (f_X6_userAt v11 (0 : Int32)) fun v13 =>
    (xast h2 v12 0 v13 p0).bind fun h3 =>
    (xgR h3 a0 6 0).bind fun v14 =>
    obind1 (f_X6_userAt v11 (1 : Int32)) fun v15 =>
    (xast h3 v14 0 v15 p1).bind fun h4 =>
    (xgR h4 a0 6 0).bind fun v16 =>
    obind1 (f_X6_userAt v11 (2 : Int32)) fun v17 =>
    (xast h4 v16 0 v17 (0 : Int32)).bind fun h5 =>
    (xgR h5 a0 6 0).bind fun v18 =>
    obind1 (f_X6_userAt v11 (3 : Int32)) fun v19 =>
    (xast h5 v18 0 v19 (0 : Int32)).bind fun h6 =>
    (xgR h6 a0 6 0).bind fun v20 =>
    (xald h6 v20 0 (7 : Int32)).bind fun v21 =>
    (xast h6 v20 0 (7 : Int32) (v21 + (1 : Int32))).bind fun h7 =>
    some ((v11, h7))
abbrev rmX6_addUser : Room := { frames := 1, cells := 0, slots := 0, locals := 25 }
set_option maxHeartbeats 4000000 in
set_option maxRecDepth 100000 in
theorem m_X6_addUser (l : Launch) (B0 : Nat) (G : XG) (fu : Nat) (h hE : XH) (a0 : Nat) (p0 : Int32) (p1 : Int32) (rE : Int32) (hf : f_X6_addUser fu h a0 p0 p1 = some (rE, hE)) : Met l yX6_addUser wsX6_addUser rmX6_addUser (va_Pc [.ref a0, .int p0, .int p1] (xU B0 G h)) (xQi B0 G hE rE) 0 0 (xA B0) := by
  refine xMet (cc := cX6_addUser) (maxL := 4) (by decide) rfl (Nat.le_of_ble_eq_true rfl) ?_
  intro p e s m args below meth c ls hx hb hr hml hown hlocks hnm hts hKK hP hl
  have hown : s.vm.findClass RX6 = some m.cls := hown
  have hl : lv_has ls 4 [(0, .ref a0), (1, .int p0), (2, .int p1)] := hl
  have hS : va_S (xA B0) s.heap s.heap [] := va_S.rf
  have inX6 : ∀ w ∈ wsX60, w ∈ wsX6_addUser := by decide +kernel
  have w1 := hts (.constantLong RX6 59 (9999)) (by decide +kernel)
  have w2 := hts (.constantLong RX6 61 (9)) (by decide +kernel)
  have w3 := hts (.fieldLink RX6 7 "RainReservoirModel" "all" "[I") (by decide +kernel)
  generalize hQ : MQ below (xQi B0 G hE rE) args s 0 0 (xA B0) = Q
  unfold f_X6_addUser at hf
  refine lv_aload_n hx hb dX6_addUser_0 rfl (lv_at hl 0 rfl) ?_
  refine lv_iload_n hx hb dX6_addUser_1 rfl (lv_at hl 1 rfl) ?_
  refine lv_i2l hx hb dX6_addUser_2 rfl ?_
  refine lv_lconst (v := (0 : Int64)) hx hb dX6_addUser_3 (by decide) ?_
  refine lv_ldc2 (v := (9999 : Int64)) hx hb hown w1 dX6_addUser_4 ?_
  obtain ⟨v1, ev1, hf⟩ := xb1 hf
  refine xc_Si (rest := [.ref a0]) ⟨hx, hb, hml, hown, hts⟩ (m_X6_in l B0 G h (Int32.toInt64 p0) (0 : Int64) (9999 : Int64) v1 ev1) (va_cwS 3 hts gX6_addUser_X6_in rfl rfl rfl (by decide +kernel) ⟨Nat.le_of_ble_eq_true rfl, Nat.le_of_ble_eq_true rfl⟩) hKK hP hS rfl hl.1 rfl (Nat.le_of_ble_eq_true rfl) dX6_addUser_7 ⟨Nat.zero_le _, Nat.zero_le _⟩ (fun H locs hP hS => ?_)
  obtain ⟨v2, ej1, hf⟩ := xb1 hf
  have J1 : ∀ (H : Heap) (locs : List Loc) (ls : Array Slot), xP B0 G h H → va_S (xA B0) s.heap H locs → lv_has ls 4 [(0, .ref a0), (1, .int p0), (2, .int p1)] → W p l e rmX6_addUser s m args below meth c H locs 0 0 Q (F0 m 30 ls [.int v2, .ref a0]) := by
    intro H locs ls hP hS hl
    clear ej1
    refine lv_aload_n hx hb dX6_addUser_30 rfl (lv_at hl 0 rfl) ?_
    obtain ⟨v4, ev4, hf⟩ := xb hf
    refine xr_getR hx hb hts inX6 hown hKK hP ev4 rfl (by decide) w3 (fun _ h9 => h9) dX6_addUser_31 ?_
    refine lv_bipush (v := (7 : Int32)) hx hb dX6_addUser_34 (by decide) ?_
    obtain ⟨v5, ev5, hf⟩ := xb hf
    refine xr_iald hx hb hKK hP ev5 dX6_addUser_36 ?_
    refine lv_iconst (v := (5 : Int32)) hx hb dX6_addUser_37 (by decide) ?_
    obtain ⟨v6, ej3, hf⟩ := xb1 hf
    have J3 : ∀ (H : Heap) (locs : List Loc) (ls : Array Slot), xP B0 G h H → va_S (xA B0) s.heap H locs → lv_has ls 4 [(0, .ref a0), (1, .int p0), (2, .int p1)] → W p l e rmX6_addUser s m args below meth c H locs 0 0 Q (F0 m 46 ls [.int v6, .int v2, .ref a0]) := by
      intro H locs ls hP hS hl
      clear ej3
      obtain ⟨v7, ev7, hf⟩ := xb hf
      obtain ⟨v8, h1, ev8, hf⟩ := xb2 hf
      refine xc_Vi (rest := []) ⟨hx, hb, hml, hown, hts⟩ (m_X6_goes l B0 G h h1 a0 v2 v6 v8 ev8) (cwV 2 hts gX6_addUser_X6_goes rfl rfl rfl (by decide +kernel) ⟨Nat.le_of_ble_eq_true rfl, Nat.le_of_ble_eq_true rfl⟩) hKK hP hS ev7 rfl rfl hl.1 rfl (Nat.le_of_ble_eq_true rfl) dX6_addUser_46 ⟨Nat.zero_le _, Nat.zero_le _⟩ (fun H locs hP hS => ?_)
      refine lv_if_ne (tgt := 54) hx hb dX6_addUser_49 (by decide) (fun c4 => ?_) (fun c4 => ?_)
      · have hf := xif_f hf c4
        refine lv_aload_n hx hb dX6_addUser_54 rfl (lv_at hl 0 rfl) ?_
        obtain ⟨v9, ev9, hf⟩ := xb hf
        obtain ⟨h2, eh2, hf⟩ := xb1 hf
        refine xc_Vv (rest := []) ⟨hx, hb, hml, hown, hts⟩ (m_X6_save l B0 G fu h1 h2 a0 eh2) (cwV 0 hts gX6_addUser_X6_save rfl rfl rfl (by decide +kernel) ⟨Nat.le_of_ble_eq_true rfl, Nat.le_of_ble_eq_true rfl⟩) hKK hP hS ev9 rfl rfl hl.1 rfl (Nat.le_of_ble_eq_true rfl) dX6_addUser_55 ⟨Nat.zero_le _, Nat.zero_le _⟩ (fun H locs hP hS => ?_)
        refine lv_aload_n hx hb dX6_addUser_58 rfl (lv_at hl 0 rfl) ?_
        obtain ⟨v10, ev10, hf⟩ := xb hf
        refine xr_getR hx hb hts inX6 hown hKK hP ev10 rfl (by decide) w3 (fun _ h9 => h9) dX6_addUser_59 ?_
        refine lv_bipush (v := (7 : Int32)) hx hb dX6_addUser_62 (by decide) ?_
        obtain ⟨v11, ev11, hf⟩ := xb hf
        refine xr_iald hx hb hKK hP ev11 dX6_addUser_64 ?_
        refine lv_istore_n (lv' := [(3, .int v11), (0, .ref a0), (1, .int p0), (2, .int p1)]) hx hb dX6_addUser_65 rfl hl (by decide) rfl (fun ls hl => ?_)
        refine lv_aload_n hx hb dX6_addUser_66 rfl (lv_at hl 1 rfl) ?_
        obtain ⟨v12, ev12, hf⟩ := xb hf
        refine xr_getR hx hb hts inX6 hown hKK hP ev12 rfl (by decide) w3 (fun _ h9 => h9) dX6_addUser_67 ?_
        refine lv_iload_n hx hb dX6_addUser_70 rfl (lv_at hl 0 rfl) ?_
        refine lv_iconst (v := (0 : Int32)) hx hb dX6_addUser_71 (by decide) ?_
        obtain ⟨v13, ev13, hf⟩ := xb1 hf
        refine xc_Si (rest := [.ref v12]) ⟨hx, hb, hml, hown, hts⟩ (m_X6_userAt l B0 G h2 v11 (0 : Int32) v13 ev13) (va_cwS 2 hts gX6_addUser_X6_userAt rfl rfl rfl (by decide +kernel) ⟨Nat.le_of_ble_eq_true rfl, Nat.le_of_ble_eq_true rfl⟩) hKK hP hS rfl hl.1 rfl (Nat.le_of_ble_eq_true rfl) dX6_addUser_72 ⟨Nat.zero_le _, Nat.zero_le _⟩ (fun H locs hP hS => ?_)
        refine lv_iload_n hx hb dX6_addUser_75 rfl (lv_at hl 2 rfl) ?_
        obtain ⟨h3, eh3, hf⟩ := xb hf
        refine xr_iast hx hb hKK hP hS eh3 dX6_addUser_76 (fun H locs hP _ hS => ?_)
        refine lv_aload_n hx hb dX6_addUser_77 rfl (lv_at hl 1 rfl) ?_
        obtain ⟨v14, ev14, hf⟩ := xb hf
        refine xr_getR hx hb hts inX6 hown hKK hP ev14 rfl (by decide) w3 (fun _ h9 => h9) dX6_addUser_78 ?_
        refine lv_iload_n hx hb dX6_addUser_81 rfl (lv_at hl 0 rfl) ?_
        refine lv_iconst (v := (1 : Int32)) hx hb dX6_addUser_82 (by decide) ?_
        obtain ⟨v15, ev15, hf⟩ := xb1 hf
        refine xc_Si (rest := [.ref v14]) ⟨hx, hb, hml, hown, hts⟩ (m_X6_userAt l B0 G h3 v11 (1 : Int32) v15 ev15) (va_cwS 2 hts gX6_addUser_X6_userAt rfl rfl rfl (by decide +kernel) ⟨Nat.le_of_ble_eq_true rfl, Nat.le_of_ble_eq_true rfl⟩) hKK hP hS rfl hl.1 rfl (Nat.le_of_ble_eq_true rfl) dX6_addUser_83 ⟨Nat.zero_le _, Nat.zero_le _⟩ (fun H locs hP hS => ?_)
        refine lv_iload_n hx hb dX6_addUser_86 rfl (lv_at hl 3 rfl) ?_
        obtain ⟨h4, eh4, hf⟩ := xb hf
        refine xr_iast hx hb hKK hP hS eh4 dX6_addUser_87 (fun H locs hP _ hS => ?_)
        refine lv_aload_n hx hb dX6_addUser_88 rfl (lv_at hl 1 rfl) ?_
        obtain ⟨v16, ev16, hf⟩ := xb hf
        refine xr_getR hx hb hts inX6 hown hKK hP ev16 rfl (by decide) w3 (fun _ h9 => h9) dX6_addUser_89 ?_
        refine lv_iload_n hx hb dX6_addUser_92 rfl (lv_at hl 0 rfl) ?_
        refine lv_iconst (v := (2 : Int32)) hx hb dX6_addUser_93 (by decide) ?_
        obtain ⟨v17, ev17, hf⟩ := xb1 hf
        refine xc_Si (rest := [.ref v16]) ⟨hx, hb, hml, hown, hts⟩ (m_X6_userAt l B0 G h4 v11 (2 : Int32) v17 ev17) (va_cwS 2 hts gX6_addUser_X6_userAt rfl rfl rfl (by decide +kernel) ⟨Nat.le_of_ble_eq_true rfl, Nat.le_of_ble_eq_true rfl⟩) hKK hP hS rfl hl.1 rfl (Nat.le_of_ble_eq_true rfl) dX6_addUser_94 ⟨Nat.zero_le _, Nat.zero_le _⟩ (fun H locs hP hS => ?_)
        refine lv_iconst (v := (0 : Int32)) hx hb dX6_addUser_97 (by decide) ?_
        obtain ⟨h5, eh5, hf⟩ := xb hf
        refine xr_iast hx hb hKK hP hS eh5 dX6_addUser_98 (fun H locs hP _ hS => ?_)
        refine lv_aload_n hx hb dX6_addUser_99 rfl (lv_at hl 1 rfl) ?_
        obtain ⟨v18, ev18, hf⟩ := xb hf
        refine xr_getR hx hb hts inX6 hown hKK hP ev18 rfl (by decide) w3 (fun _ h9 => h9) dX6_addUser_100 ?_
        refine lv_iload_n hx hb dX6_addUser_103 rfl (lv_at hl 0 rfl) ?_
        refine lv_iconst (v := (3 : Int32)) hx hb dX6_addUser_104 (by decide) ?_
        obtain ⟨v19, ev19, hf⟩ := xb1 hf
        refine xc_Si (rest := [.ref v18]) ⟨hx, hb, hml, hown, hts⟩ (m_X6_userAt l B0 G h5 v11 (3 : Int32) v19 ev19) (va_cwS 2 hts gX6_addUser_X6_userAt rfl rfl rfl (by decide +kernel) ⟨Nat.le_of_ble_eq_true rfl, Nat.le_of_ble_eq_true rfl⟩) hKK hP hS rfl hl.1 rfl (Nat.le_of_ble_eq_true rfl) dX6_addUser_105 ⟨Nat.zero_le _, Nat.zero_le _⟩ (fun H locs hP hS => ?_)
        refine lv_iconst (v := (0 : Int32)) hx hb dX6_addUser_108 (by decide) ?_
        obtain ⟨h6, eh6, hf⟩ := xb hf
        refine xr_iast hx hb hKK hP hS eh6 dX6_addUser_109 (fun H locs hP _ hS => ?_)
        refine lv_aload_n hx hb dX6_addUser_110 rfl (lv_at hl 1 rfl) ?_
        obtain ⟨v20, ev20, hf⟩ := xb hf
        refine xr_getR hx hb hts inX6 hown hKK hP ev20 rfl (by decide) w3 (fun _ h9 => h9) dX6_addUser_111 ?_
        refine lv_bipush (v := (7 : Int32)) hx hb dX6_addUser_114 (by decide) ?_
        refine lv_dup2_11 hx hb dX6_addUser_116 rfl rfl ?_
        obtain ⟨v21, ev21, hf⟩ := xb hf
        refine xr_iald hx hb hKK hP ev21 dX6_addUser_117 ?_
        refine lv_iconst (v := (1 : Int32)) hx hb dX6_addUser_118 (by decide) ?_
        refine lv_iadd hx hb dX6_addUser_119 ?_
        obtain ⟨h7, eh7, hf⟩ := xb hf
        refine xr_iast hx hb hKK hP hS eh7 dX6_addUser_120 (fun H locs hP _ hS => ?_)
        refine lv_iload_n hx hb dX6_addUser_121 rfl (lv_at hl 0 rfl) ?_
        obtain ⟨rfl, rfl⟩ := xinj2 hf
        subst hQ
        exact xe_i hx hb hr hlocks hKK hP hS dX6_addUser_122
      · have hf := xif_t hf c4
        refine lv_iconst (v := (0 : Int32)) hx hb dX6_addUser_52 (by decide) ?_
        obtain ⟨rfl, rfl⟩ := xinj2 hf
        subst hQ
        exact xe_i hx hb hr hlocks hKK hP hS dX6_addUser_53
    have hf := ej3
    clear ej3
    refine lv_icmp_ge (tgt := 45) hx hb dX6_addUser_38 (by decide) (fun c3 => ?_) (fun c3 => ?_)
    · have hf := xif_t hf c3
      refine lv_iconst (v := (0 : Int32)) hx hb dX6_addUser_45 (by decide) ?_
      obtain rfl := Option.some.inj hf
      exact J3 _ _ _ hP hS (lv_sub hl [0, 1, 2] rfl)
    · have hf := xif_f hf c3
      refine lv_iconst (v := (1 : Int32)) hx hb dX6_addUser_41 (by decide) ?_
      refine lv_goto (tgt := 46) hx hb dX6_addUser_42 (by decide) ?_
      obtain rfl := Option.some.inj hf
      exact J3 _ _ _ hP hS (lv_sub hl [0, 1, 2] rfl)
  have hf := ej1
  clear ej1
  obtain ⟨k2, ek2, hf⟩ := xlk hf
  have J2 : k2 = some v2 → ∀ (H : Heap) (locs : List Loc) (ls : Array Slot), xP B0 G h H → va_S (xA B0) s.heap H locs → lv_has ls 4 [(0, .ref a0), (1, .int p0), (2, .int p1)] → W p l e rmX6_addUser s m args below meth c H locs 0 0 Q (F0 m 29 ls [.ref a0]) := by
    intro  hf H locs ls hP hS hl
    have hf := xk0 ek2 hf
    clear ek2
    refine lv_iconst (v := (0 : Int32)) hx hb dX6_addUser_29 (by decide) ?_
    obtain rfl := Option.some.inj hf
    exact J1 _ _ _ hP hS (lv_sub hl [0, 1, 2] rfl)
  clear ek2
  refine lv_if_eq (tgt := 29) hx hb dX6_addUser_10 (by decide) (fun c1 => ?_) (fun c1 => ?_)
  · have hf := xif_t hf c1
    exact J2  hf _ _ _ hP hS (lv_sub hl [0, 1, 2] rfl)
  · have hf := xif_f hf c1
    refine lv_iload_n hx hb dX6_addUser_13 rfl (lv_at hl 2 rfl) ?_
    refine lv_i2l hx hb dX6_addUser_14 rfl ?_
    refine lv_lconst (v := (1 : Int64)) hx hb dX6_addUser_15 (by decide) ?_
    refine lv_ldc2 (v := (9 : Int64)) hx hb hown w2 dX6_addUser_16 ?_
    obtain ⟨v3, ev3, hf⟩ := xb1 hf
    refine xc_Si (rest := [.ref a0]) ⟨hx, hb, hml, hown, hts⟩ (m_X6_in l B0 G h (Int32.toInt64 p1) (1 : Int64) (9 : Int64) v3 ev3) (va_cwS 3 hts gX6_addUser_X6_in rfl rfl rfl (by decide +kernel) ⟨Nat.le_of_ble_eq_true rfl, Nat.le_of_ble_eq_true rfl⟩) hKK hP hS rfl hl.1 rfl (Nat.le_of_ble_eq_true rfl) dX6_addUser_19 ⟨Nat.zero_le _, Nat.zero_le _⟩ (fun H locs hP hS => ?_)
    refine lv_if_eq (tgt := 29) hx hb dX6_addUser_22 (by decide) (fun c2 => ?_) (fun c2 => ?_)
    · have hf := xif_t hf c2
      exact J2  hf _ _ _ hP hS (lv_sub hl [0, 1, 2] rfl)
    · have hf := xif_f hf c2
      refine lv_iconst (v := (1 : Int32)) hx hb dX6_addUser_25 (by decide) ?_
      refine lv_goto (tgt := 30) hx hb dX6_addUser_26 (by decide) ?_
      obtain rfl := Option.some.inj hf
      exact J1 _ _ _ hP hS (lv_sub hl [0, 1, 2] rfl)
/-- RainReservoirModel.setDemand -/
def f_X6_setDemand (fu : Nat) (h : XH) (a0 : Nat) (p0 : Int32) (p1 : Int32) : Option (Int32 × XH) :=
  (xis h a0 6).bind fun v1 =>
  obind1 (f_X6_isUser h a0 p0) fun v2 =>
  obind1 (f_X6_in (Int32.toInt64 p1) (0 : Int64) (9999 : Int64)) fun v3 =>
  (xis h a0 6).bind fun v4 =>
  obind2 (f_X6_goes h a0 v2 v3) fun v5 h1 =>
  if v5 = (0 : Int32) then
    some (((0 : Int32), h1))
  else
    (xis h1 a0 6).bind fun v6 =>
    obind1 (f_X6_save fu h1 a0) fun h2 =>
    (xis h2 a0 6).bind fun v7 =>
    obind1 (f_X6_ofUser h2 a0 p0 (0 : Int32)) fun v8 =>
    (xgR h2 a0 6 0).bind fun v9 =>
    obind1 (f_X6_userAt p0 (0 : Int32)) fun v10 =>
    (xast h2 v9 0 v10 p1).bind fun h3 =>
    some ((v8, h3))
abbrev rmX6_setDemand : Room := { frames := 2, cells := 0, slots := 0, locals := 46 }
set_option maxHeartbeats 4000000 in
set_option maxRecDepth 100000 in
theorem m_X6_setDemand (l : Launch) (B0 : Nat) (G : XG) (fu : Nat) (h hE : XH) (a0 : Nat) (p0 : Int32) (p1 : Int32) (rE : Int32) (hf : f_X6_setDemand fu h a0 p0 p1 = some (rE, hE)) : Met l yX6_setDemand wsX6_setDemand rmX6_setDemand (va_Pc [.ref a0, .int p0, .int p1] (xU B0 G h)) (xQi B0 G hE rE) 0 0 (xA B0) := by
  refine xMet (cc := cX6_setDemand) (maxL := 4) (by decide) rfl (Nat.le_of_ble_eq_true rfl) ?_
  intro p e s m args below meth c ls hx hb hr hml hown hlocks hnm hts hKK hP hl
  have hown : s.vm.findClass RX6 = some m.cls := hown
  have hl : lv_has ls 4 [(0, .ref a0), (1, .int p0), (2, .int p1)] := hl
  have hS : va_S (xA B0) s.heap s.heap [] := va_S.rf
  have inX6 : ∀ w ∈ wsX60, w ∈ wsX6_setDemand := by decide +kernel
  have w1 := hts (.constantLong RX6 59 (9999)) (by decide +kernel)
  have w2 := hts (.fieldLink RX6 7 "RainReservoirModel" "all" "[I") (by decide +kernel)
  generalize hQ : MQ below (xQi B0 G hE rE) args s 0 0 (xA B0) = Q
  unfold f_X6_setDemand at hf
  refine lv_aload_n hx hb dX6_setDemand_0 rfl (lv_at hl 0 rfl) ?_
  refine lv_aload_n hx hb dX6_setDemand_1 rfl (lv_at hl 0 rfl) ?_
  refine lv_iload_n hx hb dX6_setDemand_2 rfl (lv_at hl 1 rfl) ?_
  obtain ⟨v1, ev1, hf⟩ := xb hf
  obtain ⟨v2, ev2, hf⟩ := xb1 hf
  refine xc_Vi (rest := [.ref a0]) ⟨hx, hb, hml, hown, hts⟩ (m_X6_isUser l B0 G h a0 p0 v2 ev2) (cwV 1 hts gX6_setDemand_X6_isUser rfl rfl rfl (by decide +kernel) ⟨Nat.le_of_ble_eq_true rfl, Nat.le_of_ble_eq_true rfl⟩) hKK hP hS ev1 rfl rfl hl.1 rfl (Nat.le_of_ble_eq_true rfl) dX6_setDemand_3 ⟨Nat.zero_le _, Nat.zero_le _⟩ (fun H locs hP hS => ?_)
  refine lv_iload_n hx hb dX6_setDemand_6 rfl (lv_at hl 2 rfl) ?_
  refine lv_i2l hx hb dX6_setDemand_7 rfl ?_
  refine lv_lconst (v := (0 : Int64)) hx hb dX6_setDemand_8 (by decide) ?_
  refine lv_ldc2 (v := (9999 : Int64)) hx hb hown w1 dX6_setDemand_9 ?_
  obtain ⟨v3, ev3, hf⟩ := xb1 hf
  refine xc_Si (rest := [.int v2, .ref a0]) ⟨hx, hb, hml, hown, hts⟩ (m_X6_in l B0 G h (Int32.toInt64 p1) (0 : Int64) (9999 : Int64) v3 ev3) (va_cwS 3 hts gX6_setDemand_X6_in rfl rfl rfl (by decide +kernel) ⟨Nat.le_of_ble_eq_true rfl, Nat.le_of_ble_eq_true rfl⟩) hKK hP hS rfl hl.1 rfl (Nat.le_of_ble_eq_true rfl) dX6_setDemand_12 ⟨Nat.zero_le _, Nat.zero_le _⟩ (fun H locs hP hS => ?_)
  obtain ⟨v4, ev4, hf⟩ := xb hf
  obtain ⟨v5, h1, ev5, hf⟩ := xb2 hf
  refine xc_Vi (rest := []) ⟨hx, hb, hml, hown, hts⟩ (m_X6_goes l B0 G h h1 a0 v2 v3 v5 ev5) (cwV 2 hts gX6_setDemand_X6_goes rfl rfl rfl (by decide +kernel) ⟨Nat.le_of_ble_eq_true rfl, Nat.le_of_ble_eq_true rfl⟩) hKK hP hS ev4 rfl rfl hl.1 rfl (Nat.le_of_ble_eq_true rfl) dX6_setDemand_15 ⟨Nat.zero_le _, Nat.zero_le _⟩ (fun H locs hP hS => ?_)
  refine lv_if_ne (tgt := 23) hx hb dX6_setDemand_18 (by decide) (fun c1 => ?_) (fun c1 => ?_)
  · have hf := xif_f hf c1
    refine lv_aload_n hx hb dX6_setDemand_23 rfl (lv_at hl 0 rfl) ?_
    obtain ⟨v6, ev6, hf⟩ := xb hf
    obtain ⟨h2, eh2, hf⟩ := xb1 hf
    refine xc_Vv (rest := []) ⟨hx, hb, hml, hown, hts⟩ (m_X6_save l B0 G fu h1 h2 a0 eh2) (cwV 0 hts gX6_setDemand_X6_save rfl rfl rfl (by decide +kernel) ⟨Nat.le_of_ble_eq_true rfl, Nat.le_of_ble_eq_true rfl⟩) hKK hP hS ev6 rfl rfl hl.1 rfl (Nat.le_of_ble_eq_true rfl) dX6_setDemand_24 ⟨Nat.zero_le _, Nat.zero_le _⟩ (fun H locs hP hS => ?_)
    refine lv_aload_n hx hb dX6_setDemand_27 rfl (lv_at hl 0 rfl) ?_
    refine lv_iload_n hx hb dX6_setDemand_28 rfl (lv_at hl 1 rfl) ?_
    refine lv_iconst (v := (0 : Int32)) hx hb dX6_setDemand_29 (by decide) ?_
    obtain ⟨v7, ev7, hf⟩ := xb hf
    obtain ⟨v8, ev8, hf⟩ := xb1 hf
    refine xc_Vi (rest := []) ⟨hx, hb, hml, hown, hts⟩ (m_X6_ofUser l B0 G h2 a0 p0 (0 : Int32) v8 ev8) (cwV 2 hts gX6_setDemand_X6_ofUser rfl rfl rfl (by decide +kernel) ⟨Nat.le_of_ble_eq_true rfl, Nat.le_of_ble_eq_true rfl⟩) hKK hP hS ev7 rfl rfl hl.1 rfl (Nat.le_of_ble_eq_true rfl) dX6_setDemand_30 ⟨Nat.zero_le _, Nat.zero_le _⟩ (fun H locs hP hS => ?_)
    refine lv_istore_n (lv' := [(3, .int v8), (0, .ref a0), (1, .int p0), (2, .int p1)]) hx hb dX6_setDemand_33 rfl hl (by decide) rfl (fun ls hl => ?_)
    refine lv_aload_n hx hb dX6_setDemand_34 rfl (lv_at hl 1 rfl) ?_
    obtain ⟨v9, ev9, hf⟩ := xb hf
    refine xr_getR hx hb hts inX6 hown hKK hP ev9 rfl (by decide) w2 (fun _ h9 => h9) dX6_setDemand_35 ?_
    refine lv_iload_n hx hb dX6_setDemand_38 rfl (lv_at hl 2 rfl) ?_
    refine lv_iconst (v := (0 : Int32)) hx hb dX6_setDemand_39 (by decide) ?_
    obtain ⟨v10, ev10, hf⟩ := xb1 hf
    refine xc_Si (rest := [.ref v9]) ⟨hx, hb, hml, hown, hts⟩ (m_X6_userAt l B0 G h2 p0 (0 : Int32) v10 ev10) (va_cwS 2 hts gX6_setDemand_X6_userAt rfl rfl rfl (by decide +kernel) ⟨Nat.le_of_ble_eq_true rfl, Nat.le_of_ble_eq_true rfl⟩) hKK hP hS rfl hl.1 rfl (Nat.le_of_ble_eq_true rfl) dX6_setDemand_40 ⟨Nat.zero_le _, Nat.zero_le _⟩ (fun H locs hP hS => ?_)
    refine lv_iload_n hx hb dX6_setDemand_43 rfl (lv_at hl 3 rfl) ?_
    obtain ⟨h3, eh3, hf⟩ := xb hf
    refine xr_iast hx hb hKK hP hS eh3 dX6_setDemand_44 (fun H locs hP _ hS => ?_)
    refine lv_iload_n hx hb dX6_setDemand_45 rfl (lv_at hl 0 rfl) ?_
    obtain ⟨rfl, rfl⟩ := xinj2 hf
    subst hQ
    exact xe_i hx hb hr hlocks hKK hP hS dX6_setDemand_46
  · have hf := xif_t hf c1
    refine lv_iconst (v := (0 : Int32)) hx hb dX6_setDemand_21 (by decide) ?_
    obtain ⟨rfl, rfl⟩ := xinj2 hf
    subst hQ
    exact xe_i hx hb hr hlocks hKK hP hS dX6_setDemand_22
/-- RainReservoirModel.setReservoir -/
def f_X6_setReservoir (fu : Nat) (h : XH) (a0 : Nat) (p0 : Int32) (p1 : Int32) (p2 : Int32) : Option (Int32 × XH) :=
  obind1 (f_X6_in (Int32.toInt64 p0) (100 : Int64) (60000 : Int64)) fun v1 =>
  obind1 (
    oletk (
      some (0 : Int32)
    ) fun k2 =>
    if v1 = (0 : Int32) then
      k2
    else
      obind1 (f_X6_in (Int32.toInt64 p1) (0 : Int64) (Int32.toInt64 p0)) fun v3 =>
      if v3 = (0 : Int32) then
        k2
      else
        obind1 (f_X6_in (Int32.toInt64 p2) (0 : Int64) (Int32.toInt64 p0)) fun v4 =>
        if v4 = (0 : Int32) then
          k2
        else
          some (1 : Int32)
  ) fun v2 =>
  (xis h a0 6).bind fun v5 =>
  obind2 (f_X6_goes h a0 v2 (1 : Int32)) fun v6 h1 =>
  if v6 = (0 : Int32) then
    some (((0 : Int32), h1))
  else
    (xis h1 a0 6).bind fun v7 =>
    obind1 (f_X6_save fu h1 a0) fun h2 =>
    (xgR h2 a0 6 0).bind fun v8 =>
    (xald h2 v8 0 (0 : Int32)).bind fun v9 =>
    (xgR h2 a0 6 0).bind fun v10 =>
    (xast h2 v10 0 (0 : Int32) p0).bind fun h3 =>
    (xgR h3 a0 6 0).bind fun v11 =>
    (xast h3 v11 0 (1 : Int32) p1).bind fun h4 =>
    (xgR h4 a0 6 0).bind fun v12 =>
    (xast h4 v12 0 (2 : Int32) p2).bind fun h5 =>
    (xgR h5 a0 6 0).bind fun v13 =>
    (xald h5 v13 0 (10 : Int32)).bind fun v14 =>
    obind1 (
      if v14 ≤ p0 then
        some h5
      else
        (xgR h5 a0 6 0).bind fun v15 =>
        (xald h5 v15 0 (12 : Int32)).bind fun v16 =>
        (xgR h5 a0 6 0).bind fun v17 =>
        (xald h5 v17 0 (10 : Int32)).bind fun v18 =>
        (xast h5 v15 0 (12 : Int32) (v16 + (v18 - p0))).bind fun h7 =>
        (xgR h7 a0 6 0).bind fun v19 =>
        (xast h7 v19 0 (10 : Int32) p0).bind fun h8 =>
        some h8
    ) fun h6 =>
    some ((v9, h6))
abbrev rmX6_setReservoir : Room := { frames := 1, cells := 0, slots := 0, locals := 25 }
set_option maxHeartbeats 4000000 in
set_option maxRecDepth 100000 in
theorem m_X6_setReservoir (l : Launch) (B0 : Nat) (G : XG) (fu : Nat) (h hE : XH) (a0 : Nat) (p0 : Int32) (p1 : Int32) (p2 : Int32) (rE : Int32) (hf : f_X6_setReservoir fu h a0 p0 p1 p2 = some (rE, hE)) : Met l yX6_setReservoir wsX6_setReservoir rmX6_setReservoir (va_Pc [.ref a0, .int p0, .int p1, .int p2] (xU B0 G h)) (xQi B0 G hE rE) 0 0 (xA B0) := by
  refine xMet (cc := cX6_setReservoir) (maxL := 5) (by decide) rfl (Nat.le_of_ble_eq_true rfl) ?_
  intro p e s m args below meth c ls hx hb hr hml hown hlocks hnm hts hKK hP hl
  have hown : s.vm.findClass RX6 = some m.cls := hown
  have hl : lv_has ls 5 [(0, .ref a0), (1, .int p0), (2, .int p1), (3, .int p2)] := hl
  have hS : va_S (xA B0) s.heap s.heap [] := va_S.rf
  have inX6 : ∀ w ∈ wsX60, w ∈ wsX6_setReservoir := by decide +kernel
  have w1 := hts (.constantLong RX6 46 (100)) (by decide +kernel)
  have w2 := hts (.constantLong RX6 70 (60000)) (by decide +kernel)
  have w3 := hts (.fieldLink RX6 7 "RainReservoirModel" "all" "[I") (by decide +kernel)
  generalize hQ : MQ below (xQi B0 G hE rE) args s 0 0 (xA B0) = Q
  unfold f_X6_setReservoir at hf
  refine lv_aload_n hx hb dX6_setReservoir_0 rfl (lv_at hl 0 rfl) ?_
  refine lv_iload_n hx hb dX6_setReservoir_1 rfl (lv_at hl 1 rfl) ?_
  refine lv_i2l hx hb dX6_setReservoir_2 rfl ?_
  refine lv_ldc2 (v := (100 : Int64)) hx hb hown w1 dX6_setReservoir_3 ?_
  refine lv_ldc2 (v := (60000 : Int64)) hx hb hown w2 dX6_setReservoir_6 ?_
  obtain ⟨v1, ev1, hf⟩ := xb1 hf
  refine xc_Si (rest := [.ref a0]) ⟨hx, hb, hml, hown, hts⟩ (m_X6_in l B0 G h (Int32.toInt64 p0) (100 : Int64) (60000 : Int64) v1 ev1) (va_cwS 3 hts gX6_setReservoir_X6_in rfl rfl rfl (by decide +kernel) ⟨Nat.le_of_ble_eq_true rfl, Nat.le_of_ble_eq_true rfl⟩) hKK hP hS rfl hl.1 rfl (Nat.le_of_ble_eq_true rfl) dX6_setReservoir_9 ⟨Nat.zero_le _, Nat.zero_le _⟩ (fun H locs hP hS => ?_)
  obtain ⟨v2, ej1, hf⟩ := xb1 hf
  have J1 : ∀ (H : Heap) (locs : List Loc) (ls : Array Slot), xP B0 G h H → va_S (xA B0) s.heap H locs → lv_has ls 5 [(0, .ref a0), (1, .int p0), (2, .int p1), (3, .int p2)] → W p l e rmX6_setReservoir s m args below meth c H locs 0 0 Q (F0 m 42 ls [.int v2, .ref a0]) := by
    intro H locs ls hP hS hl
    clear ej1
    refine lv_iconst (v := (1 : Int32)) hx hb dX6_setReservoir_42 (by decide) ?_
    obtain ⟨v5, ev5, hf⟩ := xb hf
    obtain ⟨v6, h1, ev6, hf⟩ := xb2 hf
    refine xc_Vi (rest := []) ⟨hx, hb, hml, hown, hts⟩ (m_X6_goes l B0 G h h1 a0 v2 (1 : Int32) v6 ev6) (cwV 2 hts gX6_setReservoir_X6_goes rfl rfl rfl (by decide +kernel) ⟨Nat.le_of_ble_eq_true rfl, Nat.le_of_ble_eq_true rfl⟩) hKK hP hS ev5 rfl rfl hl.1 rfl (Nat.le_of_ble_eq_true rfl) dX6_setReservoir_43 ⟨Nat.zero_le _, Nat.zero_le _⟩ (fun H locs hP hS => ?_)
    refine lv_if_ne (tgt := 51) hx hb dX6_setReservoir_46 (by decide) (fun c4 => ?_) (fun c4 => ?_)
    · have hf := xif_f hf c4
      refine lv_aload_n hx hb dX6_setReservoir_51 rfl (lv_at hl 0 rfl) ?_
      obtain ⟨v7, ev7, hf⟩ := xb hf
      obtain ⟨h2, eh2, hf⟩ := xb1 hf
      refine xc_Vv (rest := []) ⟨hx, hb, hml, hown, hts⟩ (m_X6_save l B0 G fu h1 h2 a0 eh2) (cwV 0 hts gX6_setReservoir_X6_save rfl rfl rfl (by decide +kernel) ⟨Nat.le_of_ble_eq_true rfl, Nat.le_of_ble_eq_true rfl⟩) hKK hP hS ev7 rfl rfl hl.1 rfl (Nat.le_of_ble_eq_true rfl) dX6_setReservoir_52 ⟨Nat.zero_le _, Nat.zero_le _⟩ (fun H locs hP hS => ?_)
      refine lv_aload_n hx hb dX6_setReservoir_55 rfl (lv_at hl 0 rfl) ?_
      obtain ⟨v8, ev8, hf⟩ := xb hf
      refine xr_getR hx hb hts inX6 hown hKK hP ev8 rfl (by decide) w3 (fun _ h9 => h9) dX6_setReservoir_56 ?_
      refine lv_iconst (v := (0 : Int32)) hx hb dX6_setReservoir_59 (by decide) ?_
      obtain ⟨v9, ev9, hf⟩ := xb hf
      refine xr_iald hx hb hKK hP ev9 dX6_setReservoir_60 ?_
      refine lv_istore (lv' := [(4, .int v9), (0, .ref a0), (1, .int p0), (2, .int p1), (3, .int p2)]) hx hb dX6_setReservoir_61 hl (by decide) rfl (fun ls hl => ?_)
      refine lv_aload_n hx hb dX6_setReservoir_63 rfl (lv_at hl 1 rfl) ?_
      obtain ⟨v10, ev10, hf⟩ := xb hf
      refine xr_getR hx hb hts inX6 hown hKK hP ev10 rfl (by decide) w3 (fun _ h9 => h9) dX6_setReservoir_64 ?_
      refine lv_iconst (v := (0 : Int32)) hx hb dX6_setReservoir_67 (by decide) ?_
      refine lv_iload_n hx hb dX6_setReservoir_68 rfl (lv_at hl 2 rfl) ?_
      obtain ⟨h3, eh3, hf⟩ := xb hf
      refine xr_iast hx hb hKK hP hS eh3 dX6_setReservoir_69 (fun H locs hP _ hS => ?_)
      refine lv_aload_n hx hb dX6_setReservoir_70 rfl (lv_at hl 1 rfl) ?_
      obtain ⟨v11, ev11, hf⟩ := xb hf
      refine xr_getR hx hb hts inX6 hown hKK hP ev11 rfl (by decide) w3 (fun _ h9 => h9) dX6_setReservoir_71 ?_
      refine lv_iconst (v := (1 : Int32)) hx hb dX6_setReservoir_74 (by decide) ?_
      refine lv_iload_n hx hb dX6_setReservoir_75 rfl (lv_at hl 3 rfl) ?_
      obtain ⟨h4, eh4, hf⟩ := xb hf
      refine xr_iast hx hb hKK hP hS eh4 dX6_setReservoir_76 (fun H locs hP _ hS => ?_)
      refine lv_aload_n hx hb dX6_setReservoir_77 rfl (lv_at hl 1 rfl) ?_
      obtain ⟨v12, ev12, hf⟩ := xb hf
      refine xr_getR hx hb hts inX6 hown hKK hP ev12 rfl (by decide) w3 (fun _ h9 => h9) dX6_setReservoir_78 ?_
      refine lv_iconst (v := (2 : Int32)) hx hb dX6_setReservoir_81 (by decide) ?_
      refine lv_iload_n hx hb dX6_setReservoir_82 rfl (lv_at hl 4 rfl) ?_
      obtain ⟨h5, eh5, hf⟩ := xb hf
      refine xr_iast hx hb hKK hP hS eh5 dX6_setReservoir_83 (fun H locs hP _ hS => ?_)
      refine lv_aload_n hx hb dX6_setReservoir_84 rfl (lv_at hl 1 rfl) ?_
      obtain ⟨v13, ev13, hf⟩ := xb hf
      refine xr_getR hx hb hts inX6 hown hKK hP ev13 rfl (by decide) w3 (fun _ h9 => h9) dX6_setReservoir_85 ?_
      refine lv_bipush (v := (10 : Int32)) hx hb dX6_setReservoir_88 (by decide) ?_
      obtain ⟨v14, ev14, hf⟩ := xb hf
      refine xr_iald hx hb hKK hP ev14 dX6_setReservoir_90 ?_
      refine lv_iload_n hx hb dX6_setReservoir_91 rfl (lv_at hl 2 rfl) ?_
      obtain ⟨h6, ej3, hf⟩ := xb1 hf
      have J3 : ∀ (H : Heap) (locs : List Loc) (ls : Array Slot), xP B0 G h6 H → va_S (xA B0) s.heap H locs → lv_has ls 5 [(4, .int v9)] → W p l e rmX6_setReservoir s m args below meth c H locs 0 0 Q (F0 m 122 ls []) := by
        intro H locs ls hP hS hl
        clear ej3
        refine lv_iload hx hb dX6_setReservoir_122 (lv_at hl 0 rfl) ?_
        obtain ⟨rfl, rfl⟩ := xinj2 hf
        subst hQ
        exact xe_i hx hb hr hlocks hKK hP hS dX6_setReservoir_124
      have hf := ej3
      clear ej3
      refine lv_icmp_le (tgt := 122) hx hb dX6_setReservoir_92 (by decide) (fun c5 => ?_) (fun c5 => ?_)
      · have hf := xif_t hf c5
        obtain rfl := Option.some.inj hf
        exact J3 _ _ _ hP hS (lv_sub hl [0] rfl)
      · have hf := xif_f hf c5
        refine lv_aload_n hx hb dX6_setReservoir_95 rfl (lv_at hl 1 rfl) ?_
        obtain ⟨v15, ev15, hf⟩ := xb hf
        refine xr_getR hx hb hts inX6 hown hKK hP ev15 rfl (by decide) w3 (fun _ h9 => h9) dX6_setReservoir_96 ?_
        refine lv_bipush (v := (12 : Int32)) hx hb dX6_setReservoir_99 (by decide) ?_
        refine lv_dup2_11 hx hb dX6_setReservoir_101 rfl rfl ?_
        obtain ⟨v16, ev16, hf⟩ := xb hf
        refine xr_iald hx hb hKK hP ev16 dX6_setReservoir_102 ?_
        refine lv_aload_n hx hb dX6_setReservoir_103 rfl (lv_at hl 1 rfl) ?_
        obtain ⟨v17, ev17, hf⟩ := xb hf
        refine xr_getR hx hb hts inX6 hown hKK hP ev17 rfl (by decide) w3 (fun _ h9 => h9) dX6_setReservoir_104 ?_
        refine lv_bipush (v := (10 : Int32)) hx hb dX6_setReservoir_107 (by decide) ?_
        obtain ⟨v18, ev18, hf⟩ := xb hf
        refine xr_iald hx hb hKK hP ev18 dX6_setReservoir_109 ?_
        refine lv_iload_n hx hb dX6_setReservoir_110 rfl (lv_at hl 2 rfl) ?_
        refine lv_isub hx hb dX6_setReservoir_111 ?_
        refine lv_iadd hx hb dX6_setReservoir_112 ?_
        obtain ⟨h7, eh7, hf⟩ := xb hf
        refine xr_iast hx hb hKK hP hS eh7 dX6_setReservoir_113 (fun H locs hP _ hS => ?_)
        refine lv_aload_n hx hb dX6_setReservoir_114 rfl (lv_at hl 1 rfl) ?_
        obtain ⟨v19, ev19, hf⟩ := xb hf
        refine xr_getR hx hb hts inX6 hown hKK hP ev19 rfl (by decide) w3 (fun _ h9 => h9) dX6_setReservoir_115 ?_
        refine lv_bipush (v := (10 : Int32)) hx hb dX6_setReservoir_118 (by decide) ?_
        refine lv_iload_n hx hb dX6_setReservoir_120 rfl (lv_at hl 2 rfl) ?_
        obtain ⟨h8, eh8, hf⟩ := xb hf
        refine xr_iast hx hb hKK hP hS eh8 dX6_setReservoir_121 (fun H locs hP _ hS => ?_)
        obtain rfl := Option.some.inj hf
        exact J3 _ _ _ hP hS (lv_sub hl [0] rfl)
    · have hf := xif_t hf c4
      refine lv_iconst (v := (0 : Int32)) hx hb dX6_setReservoir_49 (by decide) ?_
      obtain ⟨rfl, rfl⟩ := xinj2 hf
      subst hQ
      exact xe_i hx hb hr hlocks hKK hP hS dX6_setReservoir_50
  have hf := ej1
  clear ej1
  obtain ⟨k2, ek2, hf⟩ := xlk hf
  have J2 : k2 = some v2 → ∀ (H : Heap) (locs : List Loc) (ls : Array Slot), xP B0 G h H → va_S (xA B0) s.heap H locs → lv_has ls 5 [(0, .ref a0), (1, .int p0), (2, .int p1), (3, .int p2)] → W p l e rmX6_setReservoir s m args below meth c H locs 0 0 Q (F0 m 41 ls [.ref a0]) := by
    intro  hf H locs ls hP hS hl
    have hf := xk0 ek2 hf
    clear ek2
    refine lv_iconst (v := (0 : Int32)) hx hb dX6_setReservoir_41 (by decide) ?_
    obtain rfl := Option.some.inj hf
    exact J1 _ _ _ hP hS (lv_sub hl [0, 1, 2, 3] rfl)
  clear ek2
  refine lv_if_eq (tgt := 41) hx hb dX6_setReservoir_12 (by decide) (fun c1 => ?_) (fun c1 => ?_)
  · have hf := xif_t hf c1
    exact J2  hf _ _ _ hP hS (lv_sub hl [0, 1, 2, 3] rfl)
  · have hf := xif_f hf c1
    refine lv_iload_n hx hb dX6_setReservoir_15 rfl (lv_at hl 2 rfl) ?_
    refine lv_i2l hx hb dX6_setReservoir_16 rfl ?_
    refine lv_lconst (v := (0 : Int64)) hx hb dX6_setReservoir_17 (by decide) ?_
    refine lv_iload_n hx hb dX6_setReservoir_18 rfl (lv_at hl 1 rfl) ?_
    refine lv_i2l hx hb dX6_setReservoir_19 rfl ?_
    obtain ⟨v3, ev3, hf⟩ := xb1 hf
    refine xc_Si (rest := [.ref a0]) ⟨hx, hb, hml, hown, hts⟩ (m_X6_in l B0 G h (Int32.toInt64 p1) (0 : Int64) (Int32.toInt64 p0) v3 ev3) (va_cwS 3 hts gX6_setReservoir_X6_in rfl rfl rfl (by decide +kernel) ⟨Nat.le_of_ble_eq_true rfl, Nat.le_of_ble_eq_true rfl⟩) hKK hP hS rfl hl.1 rfl (Nat.le_of_ble_eq_true rfl) dX6_setReservoir_20 ⟨Nat.zero_le _, Nat.zero_le _⟩ (fun H locs hP hS => ?_)
    refine lv_if_eq (tgt := 41) hx hb dX6_setReservoir_23 (by decide) (fun c2 => ?_) (fun c2 => ?_)
    · have hf := xif_t hf c2
      exact J2  hf _ _ _ hP hS (lv_sub hl [0, 1, 2, 3] rfl)
    · have hf := xif_f hf c2
      refine lv_iload_n hx hb dX6_setReservoir_26 rfl (lv_at hl 3 rfl) ?_
      refine lv_i2l hx hb dX6_setReservoir_27 rfl ?_
      refine lv_lconst (v := (0 : Int64)) hx hb dX6_setReservoir_28 (by decide) ?_
      refine lv_iload_n hx hb dX6_setReservoir_29 rfl (lv_at hl 1 rfl) ?_
      refine lv_i2l hx hb dX6_setReservoir_30 rfl ?_
      obtain ⟨v4, ev4, hf⟩ := xb1 hf
      refine xc_Si (rest := [.ref a0]) ⟨hx, hb, hml, hown, hts⟩ (m_X6_in l B0 G h (Int32.toInt64 p2) (0 : Int64) (Int32.toInt64 p0) v4 ev4) (va_cwS 3 hts gX6_setReservoir_X6_in rfl rfl rfl (by decide +kernel) ⟨Nat.le_of_ble_eq_true rfl, Nat.le_of_ble_eq_true rfl⟩) hKK hP hS rfl hl.1 rfl (Nat.le_of_ble_eq_true rfl) dX6_setReservoir_31 ⟨Nat.zero_le _, Nat.zero_le _⟩ (fun H locs hP hS => ?_)
      refine lv_if_eq (tgt := 41) hx hb dX6_setReservoir_34 (by decide) (fun c3 => ?_) (fun c3 => ?_)
      · have hf := xif_t hf c3
        exact J2  hf _ _ _ hP hS (lv_sub hl [0, 1, 2, 3] rfl)
      · have hf := xif_f hf c3
        refine lv_iconst (v := (1 : Int32)) hx hb dX6_setReservoir_37 (by decide) ?_
        refine lv_goto (tgt := 42) hx hb dX6_setReservoir_38 (by decide) ?_
        obtain rfl := Option.some.inj hf
        exact J1 _ _ _ hP hS (lv_sub hl [0, 1, 2, 3] rfl)
/-- RainReservoirModel.setWays -/
def f_X6_setWays (fu : Nat) (h : XH) (a0 : Nat) (p0 : Int32) (p1 : Int32) (p2 : Int32) : Option (Int32 × XH) :=
  obind1 (f_X6_in (Int32.toInt64 p0) (0 : Int64) (100 : Int64)) fun v1 =>
  obind1 (
    oletk (
      some (0 : Int32)
    ) fun k2 =>
    if v1 = (0 : Int32) then
      k2
    else
      obind1 (f_X6_in (Int32.toInt64 p1) (1 : Int64) (20 : Int64)) fun v3 =>
      if v3 = (0 : Int32) then
        k2
      else
        obind1 (f_X6_in (Int32.toInt64 p2) (0 : Int64) (3 : Int64)) fun v4 =>
        if v4 = (0 : Int32) then
          k2
        else
          some (1 : Int32)
  ) fun v2 =>
  (xis h a0 6).bind fun v5 =>
  obind2 (f_X6_goes h a0 v2 (1 : Int32)) fun v6 h1 =>
  if v6 = (0 : Int32) then
    some (((0 : Int32), h1))
  else
    (xis h1 a0 6).bind fun v7 =>
    obind1 (f_X6_save fu h1 a0) fun h2 =>
    (xgR h2 a0 6 0).bind fun v8 =>
    (xald h2 v8 0 (5 : Int32)).bind fun v9 =>
    (xgR h2 a0 6 0).bind fun v10 =>
    (xast h2 v10 0 (3 : Int32) p0).bind fun h3 =>
    (xgR h3 a0 6 0).bind fun v11 =>
    (xast h3 v11 0 (4 : Int32) p1).bind fun h4 =>
    (xgR h4 a0 6 0).bind fun v12 =>
    (xast h4 v12 0 (5 : Int32) p2).bind fun h5 =>
    some ((v9, h5))
abbrev rmX6_setWays : Room := { frames := 1, cells := 0, slots := 0, locals := 25 }
set_option maxHeartbeats 4000000 in
set_option maxRecDepth 100000 in
theorem m_X6_setWays (l : Launch) (B0 : Nat) (G : XG) (fu : Nat) (h hE : XH) (a0 : Nat) (p0 : Int32) (p1 : Int32) (p2 : Int32) (rE : Int32) (hf : f_X6_setWays fu h a0 p0 p1 p2 = some (rE, hE)) : Met l yX6_setWays wsX6_setWays rmX6_setWays (va_Pc [.ref a0, .int p0, .int p1, .int p2] (xU B0 G h)) (xQi B0 G hE rE) 0 0 (xA B0) := by
  refine xMet (cc := cX6_setWays) (maxL := 5) (by decide) rfl (Nat.le_of_ble_eq_true rfl) ?_
  intro p e s m args below meth c ls hx hb hr hml hown hlocks hnm hts hKK hP hl
  have hown : s.vm.findClass RX6 = some m.cls := hown
  have hl : lv_has ls 5 [(0, .ref a0), (1, .int p0), (2, .int p1), (3, .int p2)] := hl
  have hS : va_S (xA B0) s.heap s.heap [] := va_S.rf
  have inX6 : ∀ w ∈ wsX60, w ∈ wsX6_setWays := by decide +kernel
  have w1 := hts (.constantLong RX6 46 (100)) (by decide +kernel)
  have w2 := hts (.constantLong RX6 72 (20)) (by decide +kernel)
  have w3 := hts (.constantLong RX6 74 (3)) (by decide +kernel)
  have w4 := hts (.fieldLink RX6 7 "RainReservoirModel" "all" "[I") (by decide +kernel)
  generalize hQ : MQ below (xQi B0 G hE rE) args s 0 0 (xA B0) = Q
  unfold f_X6_setWays at hf
  refine lv_aload_n hx hb dX6_setWays_0 rfl (lv_at hl 0 rfl) ?_
  refine lv_iload_n hx hb dX6_setWays_1 rfl (lv_at hl 1 rfl) ?_
  refine lv_i2l hx hb dX6_setWays_2 rfl ?_
  refine lv_lconst (v := (0 : Int64)) hx hb dX6_setWays_3 (by decide) ?_
  refine lv_ldc2 (v := (100 : Int64)) hx hb hown w1 dX6_setWays_4 ?_
  obtain ⟨v1, ev1, hf⟩ := xb1 hf
  refine xc_Si (rest := [.ref a0]) ⟨hx, hb, hml, hown, hts⟩ (m_X6_in l B0 G h (Int32.toInt64 p0) (0 : Int64) (100 : Int64) v1 ev1) (va_cwS 3 hts gX6_setWays_X6_in rfl rfl rfl (by decide +kernel) ⟨Nat.le_of_ble_eq_true rfl, Nat.le_of_ble_eq_true rfl⟩) hKK hP hS rfl hl.1 rfl (Nat.le_of_ble_eq_true rfl) dX6_setWays_7 ⟨Nat.zero_le _, Nat.zero_le _⟩ (fun H locs hP hS => ?_)
  obtain ⟨v2, ej1, hf⟩ := xb1 hf
  have J1 : ∀ (H : Heap) (locs : List Loc) (ls : Array Slot), xP B0 G h H → va_S (xA B0) s.heap H locs → lv_has ls 5 [(0, .ref a0), (1, .int p0), (2, .int p1), (3, .int p2)] → W p l e rmX6_setWays s m args below meth c H locs 0 0 Q (F0 m 42 ls [.int v2, .ref a0]) := by
    intro H locs ls hP hS hl
    clear ej1
    refine lv_iconst (v := (1 : Int32)) hx hb dX6_setWays_42 (by decide) ?_
    obtain ⟨v5, ev5, hf⟩ := xb hf
    obtain ⟨v6, h1, ev6, hf⟩ := xb2 hf
    refine xc_Vi (rest := []) ⟨hx, hb, hml, hown, hts⟩ (m_X6_goes l B0 G h h1 a0 v2 (1 : Int32) v6 ev6) (cwV 2 hts gX6_setWays_X6_goes rfl rfl rfl (by decide +kernel) ⟨Nat.le_of_ble_eq_true rfl, Nat.le_of_ble_eq_true rfl⟩) hKK hP hS ev5 rfl rfl hl.1 rfl (Nat.le_of_ble_eq_true rfl) dX6_setWays_43 ⟨Nat.zero_le _, Nat.zero_le _⟩ (fun H locs hP hS => ?_)
    refine lv_if_ne (tgt := 51) hx hb dX6_setWays_46 (by decide) (fun c4 => ?_) (fun c4 => ?_)
    · have hf := xif_f hf c4
      refine lv_aload_n hx hb dX6_setWays_51 rfl (lv_at hl 0 rfl) ?_
      obtain ⟨v7, ev7, hf⟩ := xb hf
      obtain ⟨h2, eh2, hf⟩ := xb1 hf
      refine xc_Vv (rest := []) ⟨hx, hb, hml, hown, hts⟩ (m_X6_save l B0 G fu h1 h2 a0 eh2) (cwV 0 hts gX6_setWays_X6_save rfl rfl rfl (by decide +kernel) ⟨Nat.le_of_ble_eq_true rfl, Nat.le_of_ble_eq_true rfl⟩) hKK hP hS ev7 rfl rfl hl.1 rfl (Nat.le_of_ble_eq_true rfl) dX6_setWays_52 ⟨Nat.zero_le _, Nat.zero_le _⟩ (fun H locs hP hS => ?_)
      refine lv_aload_n hx hb dX6_setWays_55 rfl (lv_at hl 0 rfl) ?_
      obtain ⟨v8, ev8, hf⟩ := xb hf
      refine xr_getR hx hb hts inX6 hown hKK hP ev8 rfl (by decide) w4 (fun _ h9 => h9) dX6_setWays_56 ?_
      refine lv_iconst (v := (5 : Int32)) hx hb dX6_setWays_59 (by decide) ?_
      obtain ⟨v9, ev9, hf⟩ := xb hf
      refine xr_iald hx hb hKK hP ev9 dX6_setWays_60 ?_
      refine lv_istore (lv' := [(4, .int v9), (0, .ref a0), (1, .int p0), (2, .int p1), (3, .int p2)]) hx hb dX6_setWays_61 hl (by decide) rfl (fun ls hl => ?_)
      refine lv_aload_n hx hb dX6_setWays_63 rfl (lv_at hl 1 rfl) ?_
      obtain ⟨v10, ev10, hf⟩ := xb hf
      refine xr_getR hx hb hts inX6 hown hKK hP ev10 rfl (by decide) w4 (fun _ h9 => h9) dX6_setWays_64 ?_
      refine lv_iconst (v := (3 : Int32)) hx hb dX6_setWays_67 (by decide) ?_
      refine lv_iload_n hx hb dX6_setWays_68 rfl (lv_at hl 2 rfl) ?_
      obtain ⟨h3, eh3, hf⟩ := xb hf
      refine xr_iast hx hb hKK hP hS eh3 dX6_setWays_69 (fun H locs hP _ hS => ?_)
      refine lv_aload_n hx hb dX6_setWays_70 rfl (lv_at hl 1 rfl) ?_
      obtain ⟨v11, ev11, hf⟩ := xb hf
      refine xr_getR hx hb hts inX6 hown hKK hP ev11 rfl (by decide) w4 (fun _ h9 => h9) dX6_setWays_71 ?_
      refine lv_iconst (v := (4 : Int32)) hx hb dX6_setWays_74 (by decide) ?_
      refine lv_iload_n hx hb dX6_setWays_75 rfl (lv_at hl 3 rfl) ?_
      obtain ⟨h4, eh4, hf⟩ := xb hf
      refine xr_iast hx hb hKK hP hS eh4 dX6_setWays_76 (fun H locs hP _ hS => ?_)
      refine lv_aload_n hx hb dX6_setWays_77 rfl (lv_at hl 1 rfl) ?_
      obtain ⟨v12, ev12, hf⟩ := xb hf
      refine xr_getR hx hb hts inX6 hown hKK hP ev12 rfl (by decide) w4 (fun _ h9 => h9) dX6_setWays_78 ?_
      refine lv_iconst (v := (5 : Int32)) hx hb dX6_setWays_81 (by decide) ?_
      refine lv_iload_n hx hb dX6_setWays_82 rfl (lv_at hl 4 rfl) ?_
      obtain ⟨h5, eh5, hf⟩ := xb hf
      refine xr_iast hx hb hKK hP hS eh5 dX6_setWays_83 (fun H locs hP _ hS => ?_)
      refine lv_iload hx hb dX6_setWays_84 (lv_at hl 0 rfl) ?_
      obtain ⟨rfl, rfl⟩ := xinj2 hf
      subst hQ
      exact xe_i hx hb hr hlocks hKK hP hS dX6_setWays_86
    · have hf := xif_t hf c4
      refine lv_iconst (v := (0 : Int32)) hx hb dX6_setWays_49 (by decide) ?_
      obtain ⟨rfl, rfl⟩ := xinj2 hf
      subst hQ
      exact xe_i hx hb hr hlocks hKK hP hS dX6_setWays_50
  have hf := ej1
  clear ej1
  obtain ⟨k2, ek2, hf⟩ := xlk hf
  have J2 : k2 = some v2 → ∀ (H : Heap) (locs : List Loc) (ls : Array Slot), xP B0 G h H → va_S (xA B0) s.heap H locs → lv_has ls 5 [(0, .ref a0), (1, .int p0), (2, .int p1), (3, .int p2)] → W p l e rmX6_setWays s m args below meth c H locs 0 0 Q (F0 m 41 ls [.ref a0]) := by
    intro  hf H locs ls hP hS hl
    have hf := xk0 ek2 hf
    clear ek2
    refine lv_iconst (v := (0 : Int32)) hx hb dX6_setWays_41 (by decide) ?_
    obtain rfl := Option.some.inj hf
    exact J1 _ _ _ hP hS (lv_sub hl [0, 1, 2, 3] rfl)
  clear ek2
  refine lv_if_eq (tgt := 41) hx hb dX6_setWays_10 (by decide) (fun c1 => ?_) (fun c1 => ?_)
  · have hf := xif_t hf c1
    exact J2  hf _ _ _ hP hS (lv_sub hl [0, 1, 2, 3] rfl)
  · have hf := xif_f hf c1
    refine lv_iload_n hx hb dX6_setWays_13 rfl (lv_at hl 2 rfl) ?_
    refine lv_i2l hx hb dX6_setWays_14 rfl ?_
    refine lv_lconst (v := (1 : Int64)) hx hb dX6_setWays_15 (by decide) ?_
    refine lv_ldc2 (v := (20 : Int64)) hx hb hown w2 dX6_setWays_16 ?_
    obtain ⟨v3, ev3, hf⟩ := xb1 hf
    refine xc_Si (rest := [.ref a0]) ⟨hx, hb, hml, hown, hts⟩ (m_X6_in l B0 G h (Int32.toInt64 p1) (1 : Int64) (20 : Int64) v3 ev3) (va_cwS 3 hts gX6_setWays_X6_in rfl rfl rfl (by decide +kernel) ⟨Nat.le_of_ble_eq_true rfl, Nat.le_of_ble_eq_true rfl⟩) hKK hP hS rfl hl.1 rfl (Nat.le_of_ble_eq_true rfl) dX6_setWays_19 ⟨Nat.zero_le _, Nat.zero_le _⟩ (fun H locs hP hS => ?_)
    refine lv_if_eq (tgt := 41) hx hb dX6_setWays_22 (by decide) (fun c2 => ?_) (fun c2 => ?_)
    · have hf := xif_t hf c2
      exact J2  hf _ _ _ hP hS (lv_sub hl [0, 1, 2, 3] rfl)
    · have hf := xif_f hf c2
      refine lv_iload_n hx hb dX6_setWays_25 rfl (lv_at hl 3 rfl) ?_
      refine lv_i2l hx hb dX6_setWays_26 rfl ?_
      refine lv_lconst (v := (0 : Int64)) hx hb dX6_setWays_27 (by decide) ?_
      refine lv_ldc2 (v := (3 : Int64)) hx hb hown w3 dX6_setWays_28 ?_
      obtain ⟨v4, ev4, hf⟩ := xb1 hf
      refine xc_Si (rest := [.ref a0]) ⟨hx, hb, hml, hown, hts⟩ (m_X6_in l B0 G h (Int32.toInt64 p2) (0 : Int64) (3 : Int64) v4 ev4) (va_cwS 3 hts gX6_setWays_X6_in rfl rfl rfl (by decide +kernel) ⟨Nat.le_of_ble_eq_true rfl, Nat.le_of_ble_eq_true rfl⟩) hKK hP hS rfl hl.1 rfl (Nat.le_of_ble_eq_true rfl) dX6_setWays_31 ⟨Nat.zero_le _, Nat.zero_le _⟩ (fun H locs hP hS => ?_)
      refine lv_if_eq (tgt := 41) hx hb dX6_setWays_34 (by decide) (fun c3 => ?_) (fun c3 => ?_)
      · have hf := xif_t hf c3
        exact J2  hf _ _ _ hP hS (lv_sub hl [0, 1, 2, 3] rfl)
      · have hf := xif_f hf c3
        refine lv_iconst (v := (1 : Int32)) hx hb dX6_setWays_37 (by decide) ?_
        refine lv_goto (tgt := 42) hx hb dX6_setWays_38 (by decide) ?_
        obtain rfl := Option.some.inj hf
        exact J1 _ _ _ hP hS (lv_sub hl [0, 1, 2, 3] rfl)
/-- RainReservoirModel.setting -/
def f_X6_setting (h : XH) (a0 : Nat) (p0 : Int32) : Option (Int32 × XH) :=
  obind1 (f_X6_in (Int32.toInt64 p0) (0 : Int64) (11 : Int64)) fun v1 =>
  (xis h a0 6).bind fun v2 =>
  obind2 (f_X6_goes h a0 v1 (1 : Int32)) fun v3 h1 =>
  obind1 (
    if v3 = (0 : Int32) then
      some (0 : Int32)
    else
      (xgR h1 a0 6 0).bind fun v5 =>
      (xald h1 v5 0 p0).bind fun v6 =>
      some v6
  ) fun v4 =>
  some ((v4, h1))
abbrev rmX6_setting : Room := { frames := 1, cells := 0, slots := 0, locals := 25 }
set_option maxHeartbeats 4000000 in
set_option maxRecDepth 100000 in
theorem m_X6_setting (l : Launch) (B0 : Nat) (G : XG) (h hE : XH) (a0 : Nat) (p0 : Int32) (rE : Int32) (hf : f_X6_setting h a0 p0 = some (rE, hE)) : Met l yX6_setting wsX6_setting rmX6_setting (va_Pc [.ref a0, .int p0] (xU B0 G h)) (xQi B0 G hE rE) 0 0 (xA B0) := by
  refine xMet (cc := cX6_setting) (maxL := 2) (by decide) rfl (Nat.le_of_ble_eq_true rfl) ?_
  intro p e s m args below meth c ls hx hb hr hml hown hlocks hnm hts hKK hP hl
  have hown : s.vm.findClass RX6 = some m.cls := hown
  have hl : lv_has ls 2 [(0, .ref a0), (1, .int p0)] := hl
  have hS : va_S (xA B0) s.heap s.heap [] := va_S.rf
  have inX6 : ∀ w ∈ wsX60, w ∈ wsX6_setting := by decide +kernel
  have w1 := hts (.constantLong RX6 76 (11)) (by decide +kernel)
  have w2 := hts (.fieldLink RX6 7 "RainReservoirModel" "all" "[I") (by decide +kernel)
  generalize hQ : MQ below (xQi B0 G hE rE) args s 0 0 (xA B0) = Q
  unfold f_X6_setting at hf
  refine lv_aload_n hx hb dX6_setting_0 rfl (lv_at hl 0 rfl) ?_
  refine lv_iload_n hx hb dX6_setting_1 rfl (lv_at hl 1 rfl) ?_
  refine lv_i2l hx hb dX6_setting_2 rfl ?_
  refine lv_lconst (v := (0 : Int64)) hx hb dX6_setting_3 (by decide) ?_
  refine lv_ldc2 (v := (11 : Int64)) hx hb hown w1 dX6_setting_4 ?_
  obtain ⟨v1, ev1, hf⟩ := xb1 hf
  refine xc_Si (rest := [.ref a0]) ⟨hx, hb, hml, hown, hts⟩ (m_X6_in l B0 G h (Int32.toInt64 p0) (0 : Int64) (11 : Int64) v1 ev1) (va_cwS 3 hts gX6_setting_X6_in rfl rfl rfl (by decide +kernel) ⟨Nat.le_of_ble_eq_true rfl, Nat.le_of_ble_eq_true rfl⟩) hKK hP hS rfl hl.1 rfl (Nat.le_of_ble_eq_true rfl) dX6_setting_7 ⟨Nat.zero_le _, Nat.zero_le _⟩ (fun H locs hP hS => ?_)
  refine lv_iconst (v := (1 : Int32)) hx hb dX6_setting_10 (by decide) ?_
  obtain ⟨v2, ev2, hf⟩ := xb hf
  obtain ⟨v3, h1, ev3, hf⟩ := xb2 hf
  refine xc_Vi (rest := []) ⟨hx, hb, hml, hown, hts⟩ (m_X6_goes l B0 G h h1 a0 v1 (1 : Int32) v3 ev3) (cwV 2 hts gX6_setting_X6_goes rfl rfl rfl (by decide +kernel) ⟨Nat.le_of_ble_eq_true rfl, Nat.le_of_ble_eq_true rfl⟩) hKK hP hS ev2 rfl rfl hl.1 rfl (Nat.le_of_ble_eq_true rfl) dX6_setting_11 ⟨Nat.zero_le _, Nat.zero_le _⟩ (fun H locs hP hS => ?_)
  obtain ⟨v4, ej1, hf⟩ := xb1 hf
  have J1 : ∀ (H : Heap) (locs : List Loc) (ls : Array Slot), xP B0 G h1 H → va_S (xA B0) s.heap H locs → lv_has ls 2 [] → W p l e rmX6_setting s m args below meth c H locs 0 0 Q (F0 m 27 ls [.int v4]) := by
    intro H locs ls hP hS hl
    clear ej1
    obtain ⟨rfl, rfl⟩ := xinj2 hf
    subst hQ
    exact xe_i hx hb hr hlocks hKK hP hS dX6_setting_27
  have hf := ej1
  clear ej1
  refine lv_if_eq (tgt := 26) hx hb dX6_setting_14 (by decide) (fun c1 => ?_) (fun c1 => ?_)
  · have hf := xif_t hf c1
    refine lv_iconst (v := (0 : Int32)) hx hb dX6_setting_26 (by decide) ?_
    obtain rfl := Option.some.inj hf
    exact J1 _ _ _ hP hS (lv_sub hl [] rfl)
  · have hf := xif_f hf c1
    refine lv_aload_n hx hb dX6_setting_17 rfl (lv_at hl 0 rfl) ?_
    obtain ⟨v5, ev5, hf⟩ := xb hf
    refine xr_getR hx hb hts inX6 hown hKK hP ev5 rfl (by decide) w2 (fun _ h9 => h9) dX6_setting_18 ?_
    refine lv_iload_n hx hb dX6_setting_21 rfl (lv_at hl 1 rfl) ?_
    obtain ⟨v6, ev6, hf⟩ := xb hf
    refine xr_iald hx hb hKK hP ev6 dX6_setting_22 ?_
    refine lv_goto (tgt := 27) hx hb dX6_setting_23 (by decide) ?_
    obtain rfl := Option.some.inj hf
    exact J1 _ _ _ hP hS (lv_sub hl [] rfl)
/-- RainReservoirModel.roof -/
def f_X6_roof (h : XH) (a0 : Nat) (p0 : Int32) (p1 : Int32) : Option (Int32 × XH) :=
  (xis h a0 6).bind fun v1 =>
  obind1 (f_X6_isRoof h a0 p0) fun v2 =>
  obind1 (f_X6_in (Int32.toInt64 p1) (0 : Int64) (4 : Int64)) fun v3 =>
  (xis h a0 6).bind fun v4 =>
  obind2 (f_X6_goes h a0 v2 v3) fun v5 h1 =>
  obind1 (
    if v5 = (0 : Int32) then
      some (0 : Int32)
    else
      (xis h1 a0 6).bind fun v7 =>
      obind1 (f_X6_ofRoof h1 a0 p0 p1) fun v8 =>
      some v8
  ) fun v6 =>
  some ((v6, h1))
abbrev rmX6_roof : Room := { frames := 2, cells := 0, slots := 0, locals := 46 }
set_option maxHeartbeats 4000000 in
set_option maxRecDepth 100000 in
theorem m_X6_roof (l : Launch) (B0 : Nat) (G : XG) (h hE : XH) (a0 : Nat) (p0 : Int32) (p1 : Int32) (rE : Int32) (hf : f_X6_roof h a0 p0 p1 = some (rE, hE)) : Met l yX6_roof wsX6_roof rmX6_roof (va_Pc [.ref a0, .int p0, .int p1] (xU B0 G h)) (xQi B0 G hE rE) 0 0 (xA B0) := by
  refine xMet (cc := cX6_roof) (maxL := 3) (by decide) rfl (Nat.le_of_ble_eq_true rfl) ?_
  intro p e s m args below meth c ls hx hb hr hml hown hlocks hnm hts hKK hP hl
  have hown : s.vm.findClass RX6 = some m.cls := hown
  have hl : lv_has ls 3 [(0, .ref a0), (1, .int p0), (2, .int p1)] := hl
  have hS : va_S (xA B0) s.heap s.heap [] := va_S.rf
  have w1 := hts (.constantLong RX6 81 (4)) (by decide +kernel)
  generalize hQ : MQ below (xQi B0 G hE rE) args s 0 0 (xA B0) = Q
  unfold f_X6_roof at hf
  refine lv_aload_n hx hb dX6_roof_0 rfl (lv_at hl 0 rfl) ?_
  refine lv_aload_n hx hb dX6_roof_1 rfl (lv_at hl 0 rfl) ?_
  refine lv_iload_n hx hb dX6_roof_2 rfl (lv_at hl 1 rfl) ?_
  obtain ⟨v1, ev1, hf⟩ := xb hf
  obtain ⟨v2, ev2, hf⟩ := xb1 hf
  refine xc_Vi (rest := [.ref a0]) ⟨hx, hb, hml, hown, hts⟩ (m_X6_isRoof l B0 G h a0 p0 v2 ev2) (cwV 1 hts gX6_roof_X6_isRoof rfl rfl rfl (by decide +kernel) ⟨Nat.le_of_ble_eq_true rfl, Nat.le_of_ble_eq_true rfl⟩) hKK hP hS ev1 rfl rfl hl.1 rfl (Nat.le_of_ble_eq_true rfl) dX6_roof_3 ⟨Nat.zero_le _, Nat.zero_le _⟩ (fun H locs hP hS => ?_)
  refine lv_iload_n hx hb dX6_roof_6 rfl (lv_at hl 2 rfl) ?_
  refine lv_i2l hx hb dX6_roof_7 rfl ?_
  refine lv_lconst (v := (0 : Int64)) hx hb dX6_roof_8 (by decide) ?_
  refine lv_ldc2 (v := (4 : Int64)) hx hb hown w1 dX6_roof_9 ?_
  obtain ⟨v3, ev3, hf⟩ := xb1 hf
  refine xc_Si (rest := [.int v2, .ref a0]) ⟨hx, hb, hml, hown, hts⟩ (m_X6_in l B0 G h (Int32.toInt64 p1) (0 : Int64) (4 : Int64) v3 ev3) (va_cwS 3 hts gX6_roof_X6_in rfl rfl rfl (by decide +kernel) ⟨Nat.le_of_ble_eq_true rfl, Nat.le_of_ble_eq_true rfl⟩) hKK hP hS rfl hl.1 rfl (Nat.le_of_ble_eq_true rfl) dX6_roof_12 ⟨Nat.zero_le _, Nat.zero_le _⟩ (fun H locs hP hS => ?_)
  obtain ⟨v4, ev4, hf⟩ := xb hf
  obtain ⟨v5, h1, ev5, hf⟩ := xb2 hf
  refine xc_Vi (rest := []) ⟨hx, hb, hml, hown, hts⟩ (m_X6_goes l B0 G h h1 a0 v2 v3 v5 ev5) (cwV 2 hts gX6_roof_X6_goes rfl rfl rfl (by decide +kernel) ⟨Nat.le_of_ble_eq_true rfl, Nat.le_of_ble_eq_true rfl⟩) hKK hP hS ev4 rfl rfl hl.1 rfl (Nat.le_of_ble_eq_true rfl) dX6_roof_15 ⟨Nat.zero_le _, Nat.zero_le _⟩ (fun H locs hP hS => ?_)
  obtain ⟨v6, ej1, hf⟩ := xb1 hf
  have J1 : ∀ (H : Heap) (locs : List Loc) (ls : Array Slot), xP B0 G h1 H → va_S (xA B0) s.heap H locs → lv_has ls 3 [] → W p l e rmX6_roof s m args below meth c H locs 0 0 Q (F0 m 31 ls [.int v6]) := by
    intro H locs ls hP hS hl
    clear ej1
    obtain ⟨rfl, rfl⟩ := xinj2 hf
    subst hQ
    exact xe_i hx hb hr hlocks hKK hP hS dX6_roof_31
  have hf := ej1
  clear ej1
  refine lv_if_eq (tgt := 30) hx hb dX6_roof_18 (by decide) (fun c1 => ?_) (fun c1 => ?_)
  · have hf := xif_t hf c1
    refine lv_iconst (v := (0 : Int32)) hx hb dX6_roof_30 (by decide) ?_
    obtain rfl := Option.some.inj hf
    exact J1 _ _ _ hP hS (lv_sub hl [] rfl)
  · have hf := xif_f hf c1
    refine lv_aload_n hx hb dX6_roof_21 rfl (lv_at hl 0 rfl) ?_
    refine lv_iload_n hx hb dX6_roof_22 rfl (lv_at hl 1 rfl) ?_
    refine lv_iload_n hx hb dX6_roof_23 rfl (lv_at hl 2 rfl) ?_
    obtain ⟨v7, ev7, hf⟩ := xb hf
    obtain ⟨v8, ev8, hf⟩ := xb1 hf
    refine xc_Vi (rest := []) ⟨hx, hb, hml, hown, hts⟩ (m_X6_ofRoof l B0 G h1 a0 p0 p1 v8 ev8) (cwV 2 hts gX6_roof_X6_ofRoof rfl rfl rfl (by decide +kernel) ⟨Nat.le_of_ble_eq_true rfl, Nat.le_of_ble_eq_true rfl⟩) hKK hP hS ev7 rfl rfl hl.1 rfl (Nat.le_of_ble_eq_true rfl) dX6_roof_24 ⟨Nat.zero_le _, Nat.zero_le _⟩ (fun H locs hP hS => ?_)
    refine lv_goto (tgt := 31) hx hb dX6_roof_27 (by decide) ?_
    obtain rfl := Option.some.inj hf
    exact J1 _ _ _ hP hS (lv_sub hl [] rfl)
/-- RainReservoirModel.user -/
def f_X6_user (h : XH) (a0 : Nat) (p0 : Int32) (p1 : Int32) : Option (Int32 × XH) :=
  (xis h a0 6).bind fun v1 =>
  obind1 (f_X6_isUser h a0 p0) fun v2 =>
  obind1 (f_X6_in (Int32.toInt64 p1) (0 : Int64) (3 : Int64)) fun v3 =>
  (xis h a0 6).bind fun v4 =>
  obind2 (f_X6_goes h a0 v2 v3) fun v5 h1 =>
  obind1 (
    if v5 = (0 : Int32) then
      some (0 : Int32)
    else
      (xis h1 a0 6).bind fun v7 =>
      obind1 (f_X6_ofUser h1 a0 p0 p1) fun v8 =>
      some v8
  ) fun v6 =>
  some ((v6, h1))
abbrev rmX6_user : Room := { frames := 2, cells := 0, slots := 0, locals := 46 }
set_option maxHeartbeats 4000000 in
set_option maxRecDepth 100000 in
theorem m_X6_user (l : Launch) (B0 : Nat) (G : XG) (h hE : XH) (a0 : Nat) (p0 : Int32) (p1 : Int32) (rE : Int32) (hf : f_X6_user h a0 p0 p1 = some (rE, hE)) : Met l yX6_user wsX6_user rmX6_user (va_Pc [.ref a0, .int p0, .int p1] (xU B0 G h)) (xQi B0 G hE rE) 0 0 (xA B0) := by
  refine xMet (cc := cX6_user) (maxL := 3) (by decide) rfl (Nat.le_of_ble_eq_true rfl) ?_
  intro p e s m args below meth c ls hx hb hr hml hown hlocks hnm hts hKK hP hl
  have hown : s.vm.findClass RX6 = some m.cls := hown
  have hl : lv_has ls 3 [(0, .ref a0), (1, .int p0), (2, .int p1)] := hl
  have hS : va_S (xA B0) s.heap s.heap [] := va_S.rf
  have w1 := hts (.constantLong RX6 74 (3)) (by decide +kernel)
  generalize hQ : MQ below (xQi B0 G hE rE) args s 0 0 (xA B0) = Q
  unfold f_X6_user at hf
  refine lv_aload_n hx hb dX6_user_0 rfl (lv_at hl 0 rfl) ?_
  refine lv_aload_n hx hb dX6_user_1 rfl (lv_at hl 0 rfl) ?_
  refine lv_iload_n hx hb dX6_user_2 rfl (lv_at hl 1 rfl) ?_
  obtain ⟨v1, ev1, hf⟩ := xb hf
  obtain ⟨v2, ev2, hf⟩ := xb1 hf
  refine xc_Vi (rest := [.ref a0]) ⟨hx, hb, hml, hown, hts⟩ (m_X6_isUser l B0 G h a0 p0 v2 ev2) (cwV 1 hts gX6_user_X6_isUser rfl rfl rfl (by decide +kernel) ⟨Nat.le_of_ble_eq_true rfl, Nat.le_of_ble_eq_true rfl⟩) hKK hP hS ev1 rfl rfl hl.1 rfl (Nat.le_of_ble_eq_true rfl) dX6_user_3 ⟨Nat.zero_le _, Nat.zero_le _⟩ (fun H locs hP hS => ?_)
  refine lv_iload_n hx hb dX6_user_6 rfl (lv_at hl 2 rfl) ?_
  refine lv_i2l hx hb dX6_user_7 rfl ?_
  refine lv_lconst (v := (0 : Int64)) hx hb dX6_user_8 (by decide) ?_
  refine lv_ldc2 (v := (3 : Int64)) hx hb hown w1 dX6_user_9 ?_
  obtain ⟨v3, ev3, hf⟩ := xb1 hf
  refine xc_Si (rest := [.int v2, .ref a0]) ⟨hx, hb, hml, hown, hts⟩ (m_X6_in l B0 G h (Int32.toInt64 p1) (0 : Int64) (3 : Int64) v3 ev3) (va_cwS 3 hts gX6_user_X6_in rfl rfl rfl (by decide +kernel) ⟨Nat.le_of_ble_eq_true rfl, Nat.le_of_ble_eq_true rfl⟩) hKK hP hS rfl hl.1 rfl (Nat.le_of_ble_eq_true rfl) dX6_user_12 ⟨Nat.zero_le _, Nat.zero_le _⟩ (fun H locs hP hS => ?_)
  obtain ⟨v4, ev4, hf⟩ := xb hf
  obtain ⟨v5, h1, ev5, hf⟩ := xb2 hf
  refine xc_Vi (rest := []) ⟨hx, hb, hml, hown, hts⟩ (m_X6_goes l B0 G h h1 a0 v2 v3 v5 ev5) (cwV 2 hts gX6_user_X6_goes rfl rfl rfl (by decide +kernel) ⟨Nat.le_of_ble_eq_true rfl, Nat.le_of_ble_eq_true rfl⟩) hKK hP hS ev4 rfl rfl hl.1 rfl (Nat.le_of_ble_eq_true rfl) dX6_user_15 ⟨Nat.zero_le _, Nat.zero_le _⟩ (fun H locs hP hS => ?_)
  obtain ⟨v6, ej1, hf⟩ := xb1 hf
  have J1 : ∀ (H : Heap) (locs : List Loc) (ls : Array Slot), xP B0 G h1 H → va_S (xA B0) s.heap H locs → lv_has ls 3 [] → W p l e rmX6_user s m args below meth c H locs 0 0 Q (F0 m 31 ls [.int v6]) := by
    intro H locs ls hP hS hl
    clear ej1
    obtain ⟨rfl, rfl⟩ := xinj2 hf
    subst hQ
    exact xe_i hx hb hr hlocks hKK hP hS dX6_user_31
  have hf := ej1
  clear ej1
  refine lv_if_eq (tgt := 30) hx hb dX6_user_18 (by decide) (fun c1 => ?_) (fun c1 => ?_)
  · have hf := xif_t hf c1
    refine lv_iconst (v := (0 : Int32)) hx hb dX6_user_30 (by decide) ?_
    obtain rfl := Option.some.inj hf
    exact J1 _ _ _ hP hS (lv_sub hl [] rfl)
  · have hf := xif_f hf c1
    refine lv_aload_n hx hb dX6_user_21 rfl (lv_at hl 0 rfl) ?_
    refine lv_iload_n hx hb dX6_user_22 rfl (lv_at hl 1 rfl) ?_
    refine lv_iload_n hx hb dX6_user_23 rfl (lv_at hl 2 rfl) ?_
    obtain ⟨v7, ev7, hf⟩ := xb hf
    obtain ⟨v8, ev8, hf⟩ := xb1 hf
    refine xc_Vi (rest := []) ⟨hx, hb, hml, hown, hts⟩ (m_X6_ofUser l B0 G h1 a0 p0 p1 v8 ev8) (cwV 2 hts gX6_user_X6_ofUser rfl rfl rfl (by decide +kernel) ⟨Nat.le_of_ble_eq_true rfl, Nat.le_of_ble_eq_true rfl⟩) hKK hP hS ev7 rfl rfl hl.1 rfl (Nat.le_of_ble_eq_true rfl) dX6_user_24 ⟨Nat.zero_le _, Nat.zero_le _⟩ (fun H locs hP hS => ?_)
    refine lv_goto (tgt := 31) hx hb dX6_user_27 (by decide) ?_
    obtain rfl := Option.some.inj hf
    exact J1 _ _ _ hP hS (lv_sub hl [] rfl)
/-- RainReservoirModel.rains -/
def f_X6_rains (fu : Nat) (h : XH) (a0 : Nat) (p0 : Int32) (p1 : Int32) : Option (XH) :=
  obind1 (xloop (xf2 fun (v1 : Int32) (h1 : XH) =>
    if p1 ≤ v1 then
      some (.inr h1)
    else
      (xgR h1 a0 6 0).bind fun v2 =>
      (xgR h1 a0 6 0).bind fun v3 =>
      (xald h1 v3 0 (8 : Int32)).bind fun v4 =>
      (xast h1 v2 0 ((63 : Int32) + v4) p0).bind fun h3 =>
      (xgR h3 a0 6 0).bind fun v5 =>
      (xald h3 v5 0 (8 : Int32)).bind fun v6 =>
      (xast h3 v5 0 (8 : Int32) (v6 + (1 : Int32))).bind fun h4 =>
      olet (v1 + (1 : Int32)) fun v7 =>
      some (.inl (v7, h4))
  ) fu ((0 : Int32), h)) fun h2 =>
  some (h2)
abbrev rmX6_rains : Room := { frames := 0, cells := 0, slots := 0, locals := 0 }
set_option maxHeartbeats 4000000 in
set_option maxRecDepth 100000 in
theorem m_X6_rains (l : Launch) (B0 : Nat) (G : XG) (fu : Nat) (h hE : XH) (a0 : Nat) (p0 : Int32) (p1 : Int32) (hf : f_X6_rains fu h a0 p0 p1 = some hE) : Met l yX6_rains wsX6_rains rmX6_rains (va_Pc [.ref a0, .int p0, .int p1] (xU B0 G h)) (xQv B0 G hE) 0 0 (xA B0) := by
  refine xMet (cc := cX6_rains) (maxL := 4) (by decide) rfl (Nat.le_of_ble_eq_true rfl) ?_
  intro p e s m args below meth c ls hx hb hr hml hown hlocks hnm hts hKK hP hl
  have hown : s.vm.findClass RX6 = some m.cls := hown
  have hl : lv_has ls 4 [(0, .ref a0), (1, .int p0), (2, .int p1)] := hl
  have hS : va_S (xA B0) s.heap s.heap [] := va_S.rf
  have inX6 : ∀ w ∈ wsX60, w ∈ wsX6_rains := by decide +kernel
  have w1 := hts (.fieldLink RX6 7 "RainReservoirModel" "all" "[I") (by decide +kernel)
  generalize hQ : MQ below (xQv B0 G hE) args s 0 0 (xA B0) = Q
  unfold f_X6_rains at hf
  refine lv_iconst (v := (0 : Int32)) hx hb dX6_rains_0 (by decide) ?_
  refine lv_istore_n (lv' := [(3, .int (0 : Int32)), (0, .ref a0), (1, .int p0), (2, .int p1)]) hx hb dX6_rains_1 rfl hl (by decide) rfl (fun ls hl => ?_)
  obtain ⟨h2, eL, hf⟩ := xb1 hf
  have J1 : ∀ (H : Heap) (locs : List Loc) (ls : Array Slot), xP B0 G h2 H → va_S (xA B0) s.heap H locs → lv_has ls 4 [] → W p l e rmX6_rains s m args below meth c H locs 0 0 Q (F0 m 40 ls []) := by
    intro H locs ls hP hS hl
    clear eL
    obtain rfl := Option.some.inj hf
    subst hQ
    exact xe_v hx hb hr hlocks hKK hP hS dX6_rains_40
  clear hf
  refine xloop_ind (P := fun z => ∀ (H : Heap) (locs : List Loc) (ls : Array Slot), xP B0 G z.2 H → va_S (xA B0) s.heap H locs → lv_has ls 4 [(3, .int z.1), (0, .ref a0), (1, .int p0), (2, .int p1)] → W p l e rmX6_rains s m args below meth c H locs 0 0 Q (F0 m 2 ls [])) ?_ eL _ _ _ hP hS (lv_sub hl [0, 1, 2, 3] rfl)
  rintro ⟨v1, h1⟩ o hf IH EX H locs ls hP hS hl
  have hf := xf2_e hf
  have hP : xP B0 G h1 H := hP
  have hl : lv_has ls 4 [(3, .int v1), (0, .ref a0), (1, .int p0), (2, .int p1)] := hl
  refine lv_iload_n hx hb dX6_rains_2 rfl (lv_at hl 0 rfl) ?_
  refine lv_iload_n hx hb dX6_rains_3 rfl (lv_at hl 3 rfl) ?_
  refine lv_icmp_ge (tgt := 40) hx hb dX6_rains_4 (by decide) (fun c1 => ?_) (fun c1 => ?_)
  · have hf := xif_t hf c1
    have hf := EX _ (Option.some.inj hf).symm
    obtain rfl := hf
    exact J1 _ _ _ hP hS (lv_sub hl [] rfl)
  · have hf := xif_f hf c1
    refine lv_aload_n hx hb dX6_rains_7 rfl (lv_at hl 1 rfl) ?_
    obtain ⟨v2, ev2, hf⟩ := xb hf
    refine xr_getR hx hb hts inX6 hown hKK hP ev2 rfl (by decide) w1 (fun _ h9 => h9) dX6_rains_8 ?_
    refine lv_bipush (v := (63 : Int32)) hx hb dX6_rains_11 (by decide) ?_
    refine lv_aload_n hx hb dX6_rains_13 rfl (lv_at hl 1 rfl) ?_
    obtain ⟨v3, ev3, hf⟩ := xb hf
    refine xr_getR hx hb hts inX6 hown hKK hP ev3 rfl (by decide) w1 (fun _ h9 => h9) dX6_rains_14 ?_
    refine lv_bipush (v := (8 : Int32)) hx hb dX6_rains_17 (by decide) ?_
    obtain ⟨v4, ev4, hf⟩ := xb hf
    refine xr_iald hx hb hKK hP ev4 dX6_rains_19 ?_
    refine lv_iadd hx hb dX6_rains_20 ?_
    refine lv_iload_n hx hb dX6_rains_21 rfl (lv_at hl 2 rfl) ?_
    obtain ⟨h3, eh3, hf⟩ := xb hf
    refine xr_iast hx hb hKK hP hS eh3 dX6_rains_22 (fun H locs hP _ hS => ?_)
    refine lv_aload_n hx hb dX6_rains_23 rfl (lv_at hl 1 rfl) ?_
    obtain ⟨v5, ev5, hf⟩ := xb hf
    refine xr_getR hx hb hts inX6 hown hKK hP ev5 rfl (by decide) w1 (fun _ h9 => h9) dX6_rains_24 ?_
    refine lv_bipush (v := (8 : Int32)) hx hb dX6_rains_27 (by decide) ?_
    refine lv_dup2_11 hx hb dX6_rains_29 rfl rfl ?_
    obtain ⟨v6, ev6, hf⟩ := xb hf
    refine xr_iald hx hb hKK hP ev6 dX6_rains_30 ?_
    refine lv_iconst (v := (1 : Int32)) hx hb dX6_rains_31 (by decide) ?_
    refine lv_iadd hx hb dX6_rains_32 ?_
    obtain ⟨h4, eh4, hf⟩ := xb hf
    refine xr_iast hx hb hKK hP hS eh4 dX6_rains_33 (fun H locs hP _ hS => ?_)
    obtain ⟨v7, ev7, hf⟩ := xl hf
    refine lv_iinc (v := v7) (lv' := [(3, .int v7), (0, .ref a0), (1, .int p0), (2, .int p1)]) hx hb dX6_rains_34 hl (k := 0) rfl (by rw [ev7]; rfl) (by decide) rfl (fun ls hl => ?_)
    refine lv_goto (tgt := 2) hx hb dX6_rains_37 (by decide) ?_
    exact IH _ (Option.some.inj hf).symm _ _ _ hP hS (lv_sub hl [0, 1, 2, 3] rfl)
/-- RainReservoirModel.addRain -/
def f_X6_addRain (fu : Nat) (h : XH) (a0 : Nat) (p0 : Int32) (p1 : Int32) : Option (Int32 × XH) :=
  obind1 (f_X6_in (Int32.toInt64 p0) (0 : Int64) (200 : Int64)) fun v1 =>
  obind1 (
    oletk (
      some (0 : Int32)
    ) fun k2 =>
    if v1 = (0 : Int32) then
      k2
    else
      obind1 (f_X6_in (Int32.toInt64 p1) (1 : Int64) (100 : Int64)) fun v3 =>
      if v3 = (0 : Int32) then
        k2
      else
        some (1 : Int32)
  ) fun v2 =>
  obind1 (
    oletk (
      some (0 : Int32)
    ) fun k4 =>
    if v2 = (0 : Int32) then
      k4
    else
      (xgR h a0 6 0).bind fun v5 =>
      (xald h v5 0 (8 : Int32)).bind fun v6 =>
      if (100 : Int32) < (v6 + p1) then
        k4
      else
        some (1 : Int32)
  ) fun v4 =>
  (xis h a0 6).bind fun v7 =>
  obind2 (f_X6_goes h a0 v2 v4) fun v8 h1 =>
  if v8 = (0 : Int32) then
    some (((0 : Int32), h1))
  else
    (xis h1 a0 6).bind fun v9 =>
    obind1 (f_X6_save fu h1 a0) fun h2 =>
    (xis h2 a0 6).bind fun v10 =>
    obind1 (f_X6_rains fu h2 a0 p0 p1) fun h3 =>
    (xgR h3 a0 6 0).bind fun v11 =>
    (xald h3 v11 0 (8 : Int32)).bind fun v12 =>
    some ((v12, h3))
abbrev rmX6_addRain : Room := { frames := 1, cells := 0, slots := 0, locals := 25 }
set_option maxHeartbeats 4000000 in
set_option maxRecDepth 100000 in
theorem m_X6_addRain (l : Launch) (B0 : Nat) (G : XG) (fu : Nat) (h hE : XH) (a0 : Nat) (p0 : Int32) (p1 : Int32) (rE : Int32) (hf : f_X6_addRain fu h a0 p0 p1 = some (rE, hE)) : Met l yX6_addRain wsX6_addRain rmX6_addRain (va_Pc [.ref a0, .int p0, .int p1] (xU B0 G h)) (xQi B0 G hE rE) 0 0 (xA B0) := by
  refine xMet (cc := cX6_addRain) (maxL := 4) (by decide) rfl (Nat.le_of_ble_eq_true rfl) ?_
  intro p e s m args below meth c ls hx hb hr hml hown hlocks hnm hts hKK hP hl
  have hown : s.vm.findClass RX6 = some m.cls := hown
  have hl : lv_has ls 4 [(0, .ref a0), (1, .int p0), (2, .int p1)] := hl
  have hS : va_S (xA B0) s.heap s.heap [] := va_S.rf
  have inX6 : ∀ w ∈ wsX60, w ∈ wsX6_addRain := by decide +kernel
  have w1 := hts (.constantLong RX6 86 (200)) (by decide +kernel)
  have w2 := hts (.constantLong RX6 46 (100)) (by decide +kernel)
  have w3 := hts (.fieldLink RX6 7 "RainReservoirModel" "all" "[I") (by decide +kernel)
  generalize hQ : MQ below (xQi B0 G hE rE) args s 0 0 (xA B0) = Q
  unfold f_X6_addRain at hf
  refine lv_iload_n hx hb dX6_addRain_0 rfl (lv_at hl 1 rfl) ?_
  refine lv_i2l hx hb dX6_addRain_1 rfl ?_
  refine lv_lconst (v := (0 : Int64)) hx hb dX6_addRain_2 (by decide) ?_
  refine lv_ldc2 (v := (200 : Int64)) hx hb hown w1 dX6_addRain_3 ?_
  obtain ⟨v1, ev1, hf⟩ := xb1 hf
  refine xc_Si (rest := []) ⟨hx, hb, hml, hown, hts⟩ (m_X6_in l B0 G h (Int32.toInt64 p0) (0 : Int64) (200 : Int64) v1 ev1) (va_cwS 3 hts gX6_addRain_X6_in rfl rfl rfl (by decide +kernel) ⟨Nat.le_of_ble_eq_true rfl, Nat.le_of_ble_eq_true rfl⟩) hKK hP hS rfl hl.1 rfl (Nat.le_of_ble_eq_true rfl) dX6_addRain_6 ⟨Nat.zero_le _, Nat.zero_le _⟩ (fun H locs hP hS => ?_)
  obtain ⟨v2, ej1, hf⟩ := xb1 hf
  have J1 : ∀ (H : Heap) (locs : List Loc) (ls : Array Slot), xP B0 G h H → va_S (xA B0) s.heap H locs → lv_has ls 4 [(0, .ref a0), (1, .int p0), (2, .int p1)] → W p l e rmX6_addRain s m args below meth c H locs 0 0 Q (F0 m 29 ls [.int v2]) := by
    intro H locs ls hP hS hl
    clear ej1
    refine lv_istore_n (lv' := [(3, .int v2), (0, .ref a0), (1, .int p0), (2, .int p1)]) hx hb dX6_addRain_29 rfl hl (by decide) rfl (fun ls hl => ?_)
    refine lv_aload_n hx hb dX6_addRain_30 rfl (lv_at hl 1 rfl) ?_
    refine lv_iload_n hx hb dX6_addRain_31 rfl (lv_at hl 0 rfl) ?_
    refine lv_iload_n hx hb dX6_addRain_32 rfl (lv_at hl 0 rfl) ?_
    obtain ⟨v4, ej3, hf⟩ := xb1 hf
    have J3 : ∀ (H : Heap) (locs : List Loc) (ls : Array Slot), xP B0 G h H → va_S (xA B0) s.heap H locs → lv_has ls 4 [(0, .ref a0), (1, .int p0), (2, .int p1)] → W p l e rmX6_addRain s m args below meth c H locs 0 0 Q (F0 m 55 ls [.int v4, .int v2, .ref a0]) := by
      intro H locs ls hP hS hl
      clear ej3
      obtain ⟨v7, ev7, hf⟩ := xb hf
      obtain ⟨v8, h1, ev8, hf⟩ := xb2 hf
      refine xc_Vi (rest := []) ⟨hx, hb, hml, hown, hts⟩ (m_X6_goes l B0 G h h1 a0 v2 v4 v8 ev8) (cwV 2 hts gX6_addRain_X6_goes rfl rfl rfl (by decide +kernel) ⟨Nat.le_of_ble_eq_true rfl, Nat.le_of_ble_eq_true rfl⟩) hKK hP hS ev7 rfl rfl hl.1 rfl (Nat.le_of_ble_eq_true rfl) dX6_addRain_55 ⟨Nat.zero_le _, Nat.zero_le _⟩ (fun H locs hP hS => ?_)
      refine lv_if_ne (tgt := 63) hx hb dX6_addRain_58 (by decide) (fun c5 => ?_) (fun c5 => ?_)
      · have hf := xif_f hf c5
        refine lv_aload_n hx hb dX6_addRain_63 rfl (lv_at hl 0 rfl) ?_
        obtain ⟨v9, ev9, hf⟩ := xb hf
        obtain ⟨h2, eh2, hf⟩ := xb1 hf
        refine xc_Vv (rest := []) ⟨hx, hb, hml, hown, hts⟩ (m_X6_save l B0 G fu h1 h2 a0 eh2) (cwV 0 hts gX6_addRain_X6_save rfl rfl rfl (by decide +kernel) ⟨Nat.le_of_ble_eq_true rfl, Nat.le_of_ble_eq_true rfl⟩) hKK hP hS ev9 rfl rfl hl.1 rfl (Nat.le_of_ble_eq_true rfl) dX6_addRain_64 ⟨Nat.zero_le _, Nat.zero_le _⟩ (fun H locs hP hS => ?_)
        refine lv_aload_n hx hb dX6_addRain_67 rfl (lv_at hl 0 rfl) ?_
        refine lv_iload_n hx hb dX6_addRain_68 rfl (lv_at hl 1 rfl) ?_
        refine lv_iload_n hx hb dX6_addRain_69 rfl (lv_at hl 2 rfl) ?_
        obtain ⟨v10, ev10, hf⟩ := xb hf
        obtain ⟨h3, eh3, hf⟩ := xb1 hf
        refine xc_Vv (rest := []) ⟨hx, hb, hml, hown, hts⟩ (m_X6_rains l B0 G fu h2 h3 a0 p0 p1 eh3) (cwV 2 hts gX6_addRain_X6_rains rfl rfl rfl (by decide +kernel) ⟨Nat.le_of_ble_eq_true rfl, Nat.le_of_ble_eq_true rfl⟩) hKK hP hS ev10 rfl rfl hl.1 rfl (Nat.le_of_ble_eq_true rfl) dX6_addRain_70 ⟨Nat.zero_le _, Nat.zero_le _⟩ (fun H locs hP hS => ?_)
        refine lv_aload_n hx hb dX6_addRain_73 rfl (lv_at hl 0 rfl) ?_
        obtain ⟨v11, ev11, hf⟩ := xb hf
        refine xr_getR hx hb hts inX6 hown hKK hP ev11 rfl (by decide) w3 (fun _ h9 => h9) dX6_addRain_74 ?_
        refine lv_bipush (v := (8 : Int32)) hx hb dX6_addRain_77 (by decide) ?_
        obtain ⟨v12, ev12, hf⟩ := xb hf
        refine xr_iald hx hb hKK hP ev12 dX6_addRain_79 ?_
        obtain ⟨rfl, rfl⟩ := xinj2 hf
        subst hQ
        exact xe_i hx hb hr hlocks hKK hP hS dX6_addRain_80
      · have hf := xif_t hf c5
        refine lv_iconst (v := (0 : Int32)) hx hb dX6_addRain_61 (by decide) ?_
        obtain ⟨rfl, rfl⟩ := xinj2 hf
        subst hQ
        exact xe_i hx hb hr hlocks hKK hP hS dX6_addRain_62
    have hf := ej3
    clear ej3
    obtain ⟨k4, ek4, hf⟩ := xlk hf
    have J4 : k4 = some v4 → ∀ (H : Heap) (locs : List Loc) (ls : Array Slot), xP B0 G h H → va_S (xA B0) s.heap H locs → lv_has ls 4 [(0, .ref a0), (1, .int p0), (2, .int p1)] → W p l e rmX6_addRain s m args below meth c H locs 0 0 Q (F0 m 54 ls [.int v2, .ref a0]) := by
      intro  hf H locs ls hP hS hl
      have hf := xk0 ek4 hf
      clear ek4
      refine lv_iconst (v := (0 : Int32)) hx hb dX6_addRain_54 (by decide) ?_
      obtain rfl := Option.some.inj hf
      exact J3 _ _ _ hP hS (lv_sub hl [0, 1, 2] rfl)
    clear ek4
    refine lv_if_eq (tgt := 54) hx hb dX6_addRain_33 (by decide) (fun c3 => ?_) (fun c3 => ?_)
    · have hf := xif_t hf c3
      exact J4  hf _ _ _ hP hS (lv_sub hl [1, 2, 3] rfl)
    · have hf := xif_f hf c3
      refine lv_aload_n hx hb dX6_addRain_36 rfl (lv_at hl 1 rfl) ?_
      obtain ⟨v5, ev5, hf⟩ := xb hf
      refine xr_getR hx hb hts inX6 hown hKK hP ev5 rfl (by decide) w3 (fun _ h9 => h9) dX6_addRain_37 ?_
      refine lv_bipush (v := (8 : Int32)) hx hb dX6_addRain_40 (by decide) ?_
      obtain ⟨v6, ev6, hf⟩ := xb hf
      refine xr_iald hx hb hKK hP ev6 dX6_addRain_42 ?_
      refine lv_iload_n hx hb dX6_addRain_43 rfl (lv_at hl 3 rfl) ?_
      refine lv_iadd hx hb dX6_addRain_44 ?_
      refine lv_bipush (v := (100 : Int32)) hx hb dX6_addRain_45 (by decide) ?_
      refine lv_icmp_gt (tgt := 54) hx hb dX6_addRain_47 (by decide) (fun c4 => ?_) (fun c4 => ?_)
      · have hf := xif_t hf c4
        exact J4  hf _ _ _ hP hS (lv_sub hl [1, 2, 3] rfl)
      · have hf := xif_f hf c4
        refine lv_iconst (v := (1 : Int32)) hx hb dX6_addRain_50 (by decide) ?_
        refine lv_goto (tgt := 55) hx hb dX6_addRain_51 (by decide) ?_
        obtain rfl := Option.some.inj hf
        exact J3 _ _ _ hP hS (lv_sub hl [1, 2, 3] rfl)
  have hf := ej1
  clear ej1
  obtain ⟨k2, ek2, hf⟩ := xlk hf
  have J2 : k2 = some v2 → ∀ (H : Heap) (locs : List Loc) (ls : Array Slot), xP B0 G h H → va_S (xA B0) s.heap H locs → lv_has ls 4 [(0, .ref a0), (1, .int p0), (2, .int p1)] → W p l e rmX6_addRain s m args below meth c H locs 0 0 Q (F0 m 28 ls []) := by
    intro  hf H locs ls hP hS hl
    have hf := xk0 ek2 hf
    clear ek2
    refine lv_iconst (v := (0 : Int32)) hx hb dX6_addRain_28 (by decide) ?_
    obtain rfl := Option.some.inj hf
    exact J1 _ _ _ hP hS (lv_sub hl [0, 1, 2] rfl)
  clear ek2
  refine lv_if_eq (tgt := 28) hx hb dX6_addRain_9 (by decide) (fun c1 => ?_) (fun c1 => ?_)
  · have hf := xif_t hf c1
    exact J2  hf _ _ _ hP hS (lv_sub hl [0, 1, 2] rfl)
  · have hf := xif_f hf c1
    refine lv_iload_n hx hb dX6_addRain_12 rfl (lv_at hl 2 rfl) ?_
    refine lv_i2l hx hb dX6_addRain_13 rfl ?_
    refine lv_lconst (v := (1 : Int64)) hx hb dX6_addRain_14 (by decide) ?_
    refine lv_ldc2 (v := (100 : Int64)) hx hb hown w2 dX6_addRain_15 ?_
    obtain ⟨v3, ev3, hf⟩ := xb1 hf
    refine xc_Si (rest := []) ⟨hx, hb, hml, hown, hts⟩ (m_X6_in l B0 G h (Int32.toInt64 p1) (1 : Int64) (100 : Int64) v3 ev3) (va_cwS 3 hts gX6_addRain_X6_in rfl rfl rfl (by decide +kernel) ⟨Nat.le_of_ble_eq_true rfl, Nat.le_of_ble_eq_true rfl⟩) hKK hP hS rfl hl.1 rfl (Nat.le_of_ble_eq_true rfl) dX6_addRain_18 ⟨Nat.zero_le _, Nat.zero_le _⟩ (fun H locs hP hS => ?_)
    refine lv_if_eq (tgt := 28) hx hb dX6_addRain_21 (by decide) (fun c2 => ?_) (fun c2 => ?_)
    · have hf := xif_t hf c2
      exact J2  hf _ _ _ hP hS (lv_sub hl [0, 1, 2] rfl)
    · have hf := xif_f hf c2
      refine lv_iconst (v := (1 : Int32)) hx hb dX6_addRain_24 (by decide) ?_
      refine lv_goto (tgt := 29) hx hb dX6_addRain_25 (by decide) ?_
      obtain rfl := Option.some.inj hf
      exact J1 _ _ _ hP hS (lv_sub hl [0, 1, 2] rfl)
/-- RainReservoirModel.draws -/
def f_X6_draws (h : XH) (a0 : Nat) (p0 : Int32) : Option (Int32 × XH) :=
  (xgL h a0 6 5).bind fun v1 =>
  (xpV h a0 6 5 (.long (xremL (((1103515245 : Int64) * v1) + (12345 : Int64)) (2147483648 : Int64)))).bind fun h1 =>
  (xgL h1 a0 6 5).bind fun v2 =>
  (xnzL (Int32.toInt64 p0)).bind fun v3 =>
  some (((Int64.toInt32 (xremL (v2 / (65536 : Int64)) (Int32.toInt64 p0))), h1))
abbrev rmX6_draws : Room := { frames := 0, cells := 0, slots := 0, locals := 0 }
set_option maxHeartbeats 4000000 in
set_option maxRecDepth 100000 in
theorem m_X6_draws (l : Launch) (B0 : Nat) (G : XG) (h hE : XH) (a0 : Nat) (p0 : Int32) (rE : Int32) (hf : f_X6_draws h a0 p0 = some (rE, hE)) : Met l yX6_draws wsX6_draws rmX6_draws (va_Pc [.ref a0, .int p0] (xU B0 G h)) (xQi B0 G hE rE) 0 0 (xA B0) := by
  refine xMet (cc := cX6_draws) (maxL := 2) (by decide) rfl (Nat.le_of_ble_eq_true rfl) ?_
  intro p e s m args below meth c ls hx hb hr hml hown hlocks hnm hts hKK hP hl
  have hown : s.vm.findClass RX6 = some m.cls := hown
  have hl : lv_has ls 2 [(0, .ref a0), (1, .int p0)] := hl
  have hS : va_S (xA B0) s.heap s.heap [] := va_S.rf
  have inX6 : ∀ w ∈ wsX60, w ∈ wsX6_draws := by decide +kernel
  have w1 := hts (.constantLong RX6 92 (1103515245)) (by decide +kernel)
  have w2 := hts (.fieldLink RX6 94 "RainReservoirModel" "s" "J") (by decide +kernel)
  have w3 := hts (.constantLong RX6 98 (12345)) (by decide +kernel)
  have w4 := hts (.constantLong RX6 100 (2147483648)) (by decide +kernel)
  have w5 := hts (.constantLong RX6 102 (65536)) (by decide +kernel)
  generalize hQ : MQ below (xQi B0 G hE rE) args s 0 0 (xA B0) = Q
  unfold f_X6_draws at hf
  refine lv_aload_n hx hb dX6_draws_0 rfl (lv_at hl 0 rfl) ?_
  refine lv_ldc2 (v := (1103515245 : Int64)) hx hb hown w1 dX6_draws_1 ?_
  refine lv_aload_n hx hb dX6_draws_4 rfl (lv_at hl 0 rfl) ?_
  obtain ⟨v1, ev1, hf⟩ := xb hf
  refine xr_getL hx hb hts inX6 hown hKK hP ev1 rfl (by decide) w2 (fun _ h9 => h9) dX6_draws_5 ?_
  refine lv_lmul hx hb dX6_draws_8 ?_
  refine lv_ldc2 (v := (12345 : Int64)) hx hb hown w3 dX6_draws_9 ?_
  refine lv_ladd hx hb dX6_draws_12 ?_
  refine lv_ldc2 (v := (2147483648 : Int64)) hx hb hown w4 dX6_draws_13 ?_
  refine xr_lrem hx hb dX6_draws_16 (by decide) ?_
  obtain ⟨h1, eh1, hf⟩ := xb hf
  refine xr_put hx hb hts inX6 tyX6 tyX6_ok nmX6 hown hKK hP hS eh1 rfl (by decide) w2 (fun _ h9 => h9) rfl (tyX6_ok 5 (by decide)) rfl rfl dX6_draws_17 (fun H locs hP _ hS => ?_)
  refine lv_aload_n hx hb dX6_draws_20 rfl (lv_at hl 0 rfl) ?_
  obtain ⟨v2, ev2, hf⟩ := xb hf
  refine xr_getL hx hb hts inX6 hown hKK hP ev2 rfl (by decide) w2 (fun _ h9 => h9) dX6_draws_21 ?_
  refine lv_ldc2 (v := (65536 : Int64)) hx hb hown w5 dX6_draws_24 ?_
  refine lv_ldiv hx hb dX6_draws_27 (by decide) ?_
  refine lv_iload_n hx hb dX6_draws_28 rfl (lv_at hl 1 rfl) ?_
  refine lv_i2l hx hb dX6_draws_29 rfl ?_
  obtain ⟨v3, ev3, hf⟩ := xb hf
  refine xr_lrem hx hb dX6_draws_30 (xnzL_spec ev3) ?_
  refine lv_l2i hx hb dX6_draws_31 rfl ?_
  obtain ⟨rfl, rfl⟩ := xinj2 hf
  subst hQ
  exact xe_i hx hb hr hlocks hKK hP hS dX6_draws_32
/-- RainReservoirModel.addRandomRain -/
def f_X6_addRandomRain (fu : Nat) (h : XH) (a0 : Nat) (p0 : Int32) (p1 : Int32) (p2 : Int32) (p3 : Int32) : Option (Int32 × XH) :=
  obind1 (f_X6_in (Int32.toInt64 p0) (0 : Int64) (999999 : Int64)) fun v1 =>
  obind1 (
    oletk (
      some (0 : Int32)
    ) fun k2 =>
    if v1 = (0 : Int32) then
      k2
    else
      obind1 (f_X6_in (Int32.toInt64 p1) (1 : Int64) (100 : Int64)) fun v3 =>
      if v3 = (0 : Int32) then
        k2
      else
        obind1 (f_X6_in (Int32.toInt64 p2) (0 : Int64) (100 : Int64)) fun v4 =>
        if v4 = (0 : Int32) then
          k2
        else
          obind1 (f_X6_in (Int32.toInt64 p3) (1 : Int64) (200 : Int64)) fun v5 =>
          if v5 = (0 : Int32) then
            k2
          else
            some (1 : Int32)
  ) fun v2 =>
  obind1 (
    oletk (
      some (0 : Int32)
    ) fun k4 =>
    if v2 = (0 : Int32) then
      k4
    else
      (xgR h a0 6 0).bind fun v7 =>
      (xald h v7 0 (8 : Int32)).bind fun v8 =>
      if (100 : Int32) < (v8 + p1) then
        k4
      else
        some (1 : Int32)
  ) fun v6 =>
  (xis h a0 6).bind fun v9 =>
  obind2 (f_X6_goes h a0 v2 v6) fun v10 h1 =>
  if v10 = (0 : Int32) then
    some (((0 : Int32), h1))
  else
    (xis h1 a0 6).bind fun v11 =>
    obind1 (f_X6_save fu h1 a0) fun h2 =>
    (xpV h2 a0 6 5 (.long (Int32.toInt64 p0))).bind fun h3 =>
    obind1 (xloop (xf2 fun (v12 : Int32) (h4 : XH) =>
      if p1 ≤ v12 then
        some (.inr h4)
      else
        (xis h4 a0 6).bind fun v13 =>
        obind2 (f_X6_draws h4 a0 (100 : Int32)) fun v14 h6 =>
        obind1 (
          if p2 ≤ v14 then
            some (0 : Int32)
          else
            some (1 : Int32)
        ) fun v15 =>
        obind2 (
          if v15 = (0 : Int32) then
            some ((0 : Int32), h6)
          else
            (xis h6 a0 6).bind fun v17 =>
            obind2 (f_X6_draws h6 a0 p3) fun v18 h8 =>
            some (((1 : Int32) + v18), h8)
        ) fun v16 h7 =>
        (xis h7 a0 6).bind fun v19 =>
        obind1 (f_X6_rains fu h7 a0 v16 (1 : Int32)) fun h9 =>
        olet (v12 + (1 : Int32)) fun v20 =>
        some (.inl (v20, h9))
    ) fu ((0 : Int32), h3)) fun h5 =>
    (xgR h5 a0 6 0).bind fun v21 =>
    (xald h5 v21 0 (8 : Int32)).bind fun v22 =>
    some ((v22, h5))
abbrev rmX6_addRandomRain : Room := { frames := 1, cells := 0, slots := 0, locals := 25 }
set_option maxHeartbeats 4000000 in
set_option maxRecDepth 100000 in
theorem m_X6_addRandomRain (l : Launch) (B0 : Nat) (G : XG) (fu : Nat) (h hE : XH) (a0 : Nat) (p0 : Int32) (p1 : Int32) (p2 : Int32) (p3 : Int32) (rE : Int32) (hf : f_X6_addRandomRain fu h a0 p0 p1 p2 p3 = some (rE, hE)) : Met l yX6_addRandomRain wsX6_addRandomRain rmX6_addRandomRain (va_Pc [.ref a0, .int p0, .int p1, .int p2, .int p3] (xU B0 G h)) (xQi B0 G hE rE) 0 0 (xA B0) := by
  refine xMet (cc := cX6_addRandomRain) (maxL := 8) (by decide) rfl (Nat.le_of_ble_eq_true rfl) ?_
  intro p e s m args below meth c ls hx hb hr hml hown hlocks hnm hts hKK hP hl
  have hown : s.vm.findClass RX6 = some m.cls := hown
  have hl : lv_has ls 8 [(0, .ref a0), (1, .int p0), (2, .int p1), (3, .int p2), (4, .int p3)] := hl
  have hS : va_S (xA B0) s.heap s.heap [] := va_S.rf
  have inX6 : ∀ w ∈ wsX60, w ∈ wsX6_addRandomRain := by decide +kernel
  have w1 := hts (.constantLong RX6 104 (999999)) (by decide +kernel)
  have w2 := hts (.constantLong RX6 46 (100)) (by decide +kernel)
  have w3 := hts (.constantLong RX6 86 (200)) (by decide +kernel)
  have w4 := hts (.fieldLink RX6 7 "RainReservoirModel" "all" "[I") (by decide +kernel)
  have w5 := hts (.fieldLink RX6 94 "RainReservoirModel" "s" "J") (by decide +kernel)
  generalize hQ : MQ below (xQi B0 G hE rE) args s 0 0 (xA B0) = Q
  unfold f_X6_addRandomRain at hf
  refine lv_iload_n hx hb dX6_addRandomRain_0 rfl (lv_at hl 1 rfl) ?_
  refine lv_i2l hx hb dX6_addRandomRain_1 rfl ?_
  refine lv_lconst (v := (0 : Int64)) hx hb dX6_addRandomRain_2 (by decide) ?_
  refine lv_ldc2 (v := (999999 : Int64)) hx hb hown w1 dX6_addRandomRain_3 ?_
  obtain ⟨v1, ev1, hf⟩ := xb1 hf
  refine xc_Si (rest := []) ⟨hx, hb, hml, hown, hts⟩ (m_X6_in l B0 G h (Int32.toInt64 p0) (0 : Int64) (999999 : Int64) v1 ev1) (va_cwS 3 hts gX6_addRandomRain_X6_in rfl rfl rfl (by decide +kernel) ⟨Nat.le_of_ble_eq_true rfl, Nat.le_of_ble_eq_true rfl⟩) hKK hP hS rfl hl.1 rfl (Nat.le_of_ble_eq_true rfl) dX6_addRandomRain_6 ⟨Nat.zero_le _, Nat.zero_le _⟩ (fun H locs hP hS => ?_)
  obtain ⟨v2, ej1, hf⟩ := xb1 hf
  have J1 : ∀ (H : Heap) (locs : List Loc) (ls : Array Slot), xP B0 G h H → va_S (xA B0) s.heap H locs → lv_has ls 8 [(0, .ref a0), (1, .int p0), (2, .int p1), (3, .int p2), (4, .int p3)] → W p l e rmX6_addRandomRain s m args below meth c H locs 0 0 Q (F0 m 54 ls [.int v2]) := by
    intro H locs ls hP hS hl
    clear ej1
    refine lv_istore (lv' := [(5, .int v2), (0, .ref a0), (1, .int p0), (2, .int p1), (3, .int p2), (4, .int p3)]) hx hb dX6_addRandomRain_54 hl (by decide) rfl (fun ls hl => ?_)
    refine lv_aload_n hx hb dX6_addRandomRain_56 rfl (lv_at hl 1 rfl) ?_
    refine lv_iload hx hb dX6_addRandomRain_57 (lv_at hl 0 rfl) ?_
    refine lv_iload hx hb dX6_addRandomRain_59 (lv_at hl 0 rfl) ?_
    obtain ⟨v6, ej3, hf⟩ := xb1 hf
    have J3 : ∀ (H : Heap) (locs : List Loc) (ls : Array Slot), xP B0 G h H → va_S (xA B0) s.heap H locs → lv_has ls 8 [(0, .ref a0), (1, .int p0), (2, .int p1), (3, .int p2), (4, .int p3)] → W p l e rmX6_addRandomRain s m args below meth c H locs 0 0 Q (F0 m 83 ls [.int v6, .int v2, .ref a0]) := by
      intro H locs ls hP hS hl
      clear ej3
      obtain ⟨v9, ev9, hf⟩ := xb hf
      obtain ⟨v10, h1, ev10, hf⟩ := xb2 hf
      refine xc_Vi (rest := []) ⟨hx, hb, hml, hown, hts⟩ (m_X6_goes l B0 G h h1 a0 v2 v6 v10 ev10) (cwV 2 hts gX6_addRandomRain_X6_goes rfl rfl rfl (by decide +kernel) ⟨Nat.le_of_ble_eq_true rfl, Nat.le_of_ble_eq_true rfl⟩) hKK hP hS ev9 rfl rfl hl.1 rfl (Nat.le_of_ble_eq_true rfl) dX6_addRandomRain_83 ⟨Nat.zero_le _, Nat.zero_le _⟩ (fun H locs hP hS => ?_)
      refine lv_if_ne (tgt := 91) hx hb dX6_addRandomRain_86 (by decide) (fun c7 => ?_) (fun c7 => ?_)
      · have hf := xif_f hf c7
        refine lv_aload_n hx hb dX6_addRandomRain_91 rfl (lv_at hl 0 rfl) ?_
        obtain ⟨v11, ev11, hf⟩ := xb hf
        obtain ⟨h2, eh2, hf⟩ := xb1 hf
        refine xc_Vv (rest := []) ⟨hx, hb, hml, hown, hts⟩ (m_X6_save l B0 G fu h1 h2 a0 eh2) (cwV 0 hts gX6_addRandomRain_X6_save rfl rfl rfl (by decide +kernel) ⟨Nat.le_of_ble_eq_true rfl, Nat.le_of_ble_eq_true rfl⟩) hKK hP hS ev11 rfl rfl hl.1 rfl (Nat.le_of_ble_eq_true rfl) dX6_addRandomRain_92 ⟨Nat.zero_le _, Nat.zero_le _⟩ (fun H locs hP hS => ?_)
        refine lv_aload_n hx hb dX6_addRandomRain_95 rfl (lv_at hl 0 rfl) ?_
        refine lv_iload_n hx hb dX6_addRandomRain_96 rfl (lv_at hl 1 rfl) ?_
        refine lv_i2l hx hb dX6_addRandomRain_97 rfl ?_
        obtain ⟨h3, eh3, hf⟩ := xb hf
        refine xr_put hx hb hts inX6 tyX6 tyX6_ok nmX6 hown hKK hP hS eh3 rfl (by decide) w5 (fun _ h9 => h9) rfl (tyX6_ok 5 (by decide)) rfl rfl dX6_addRandomRain_98 (fun H locs hP _ hS => ?_)
        refine lv_iconst (v := (0 : Int32)) hx hb dX6_addRandomRain_101 (by decide) ?_
        refine lv_istore (lv' := [(6, .int (0 : Int32)), (0, .ref a0), (1, .int p0), (2, .int p1), (3, .int p2), (4, .int p3)]) hx hb dX6_addRandomRain_102 hl (by decide) rfl (fun ls hl => ?_)
        obtain ⟨h5, eL, hf⟩ := xb1 hf
        have J5 : ∀ (H : Heap) (locs : List Loc) (ls : Array Slot), xP B0 G h5 H → va_S (xA B0) s.heap H locs → lv_has ls 8 [(0, .ref a0)] → W p l e rmX6_addRandomRain s m args below meth c H locs 0 0 Q (F0 m 155 ls []) := by
          intro H locs ls hP hS hl
          clear eL
          refine lv_aload_n hx hb dX6_addRandomRain_155 rfl (lv_at hl 0 rfl) ?_
          obtain ⟨v21, ev21, hf⟩ := xb hf
          refine xr_getR hx hb hts inX6 hown hKK hP ev21 rfl (by decide) w4 (fun _ h9 => h9) dX6_addRandomRain_156 ?_
          refine lv_bipush (v := (8 : Int32)) hx hb dX6_addRandomRain_159 (by decide) ?_
          obtain ⟨v22, ev22, hf⟩ := xb hf
          refine xr_iald hx hb hKK hP ev22 dX6_addRandomRain_161 ?_
          obtain ⟨rfl, rfl⟩ := xinj2 hf
          subst hQ
          exact xe_i hx hb hr hlocks hKK hP hS dX6_addRandomRain_162
        clear hf
        refine xloop_ind (P := fun z => ∀ (H : Heap) (locs : List Loc) (ls : Array Slot), xP B0 G z.2 H → va_S (xA B0) s.heap H locs → lv_has ls 8 [(6, .int z.1), (0, .ref a0), (2, .int p1), (3, .int p2), (4, .int p3)] → W p l e rmX6_addRandomRain s m args below meth c H locs 0 0 Q (F0 m 104 ls [])) ?_ eL _ _ _ hP hS (lv_sub hl [0, 1, 3, 4, 5] rfl)
        rintro ⟨v12, h4⟩ o hf IH EX H locs ls hP hS hl
        have hf := xf2_e hf
        have hP : xP B0 G h4 H := hP
        have hl : lv_has ls 8 [(6, .int v12), (0, .ref a0), (2, .int p1), (3, .int p2), (4, .int p3)] := hl
        refine lv_iload hx hb dX6_addRandomRain_104 (lv_at hl 0 rfl) ?_
        refine lv_iload_n hx hb dX6_addRandomRain_106 rfl (lv_at hl 2 rfl) ?_
        refine lv_icmp_ge (tgt := 155) hx hb dX6_addRandomRain_107 (by decide) (fun c8 => ?_) (fun c8 => ?_)
        · have hf := xif_t hf c8
          have hf := EX _ (Option.some.inj hf).symm
          obtain rfl := hf
          exact J5 _ _ _ hP hS (lv_sub hl [1] rfl)
        · have hf := xif_f hf c8
          refine lv_aload_n hx hb dX6_addRandomRain_110 rfl (lv_at hl 1 rfl) ?_
          refine lv_bipush (v := (100 : Int32)) hx hb dX6_addRandomRain_111 (by decide) ?_
          obtain ⟨v13, ev13, hf⟩ := xb hf
          obtain ⟨v14, h6, ev14, hf⟩ := xb2 hf
          refine xc_Vi (rest := []) ⟨hx, hb, hml, hown, hts⟩ (m_X6_draws l B0 G h4 h6 a0 (100 : Int32) v14 ev14) (cwV 1 hts gX6_addRandomRain_X6_draws rfl rfl rfl (by decide +kernel) ⟨Nat.le_of_ble_eq_true rfl, Nat.le_of_ble_eq_true rfl⟩) hKK hP hS ev13 rfl rfl hl.1 rfl (Nat.le_of_ble_eq_true rfl) dX6_addRandomRain_113 ⟨Nat.zero_le _, Nat.zero_le _⟩ (fun H locs hP hS => ?_)
          refine lv_iload_n hx hb dX6_addRandomRain_116 rfl (lv_at hl 3 rfl) ?_
          obtain ⟨v15, ej6, hf⟩ := xb1 hf
          have J6 : ∀ (H : Heap) (locs : List Loc) (ls : Array Slot), xP B0 G h6 H → va_S (xA B0) s.heap H locs → lv_has ls 8 [(6, .int v12), (0, .ref a0), (2, .int p1), (3, .int p2), (4, .int p3)] → W p l e rmX6_addRandomRain s m args below meth c H locs 0 0 Q (F0 m 125 ls [.int v15]) := by
            intro H locs ls hP hS hl
            clear ej6
            refine lv_istore (lv' := [(7, .int v15), (6, .int v12), (0, .ref a0), (2, .int p1), (3, .int p2), (4, .int p3)]) hx hb dX6_addRandomRain_125 hl (by decide) rfl (fun ls hl => ?_)
            refine lv_aload_n hx hb dX6_addRandomRain_127 rfl (lv_at hl 2 rfl) ?_
            refine lv_iload hx hb dX6_addRandomRain_128 (lv_at hl 0 rfl) ?_
            obtain ⟨v16, h7, ej7, hf⟩ := xb2 hf
            have J7 : ∀ (H : Heap) (locs : List Loc) (ls : Array Slot), xP B0 G h7 H → va_S (xA B0) s.heap H locs → lv_has ls 8 [(6, .int v12), (0, .ref a0), (2, .int p1), (3, .int p2), (4, .int p3)] → W p l e rmX6_addRandomRain s m args below meth c H locs 0 0 Q (F0 m 145 ls [.int v16, .ref a0]) := by
              intro H locs ls hP hS hl
              clear ej7
              refine lv_iconst (v := (1 : Int32)) hx hb dX6_addRandomRain_145 (by decide) ?_
              obtain ⟨v19, ev19, hf⟩ := xb hf
              obtain ⟨h9, eh9, hf⟩ := xb1 hf
              refine xc_Vv (rest := []) ⟨hx, hb, hml, hown, hts⟩ (m_X6_rains l B0 G fu h7 h9 a0 v16 (1 : Int32) eh9) (cwV 2 hts gX6_addRandomRain_X6_rains rfl rfl rfl (by decide +kernel) ⟨Nat.le_of_ble_eq_true rfl, Nat.le_of_ble_eq_true rfl⟩) hKK hP hS ev19 rfl rfl hl.1 rfl (Nat.le_of_ble_eq_true rfl) dX6_addRandomRain_146 ⟨Nat.zero_le _, Nat.zero_le _⟩ (fun H locs hP hS => ?_)
              obtain ⟨v20, ev20, hf⟩ := xl hf
              refine lv_iinc (v := v20) (lv' := [(6, .int v20), (0, .ref a0), (2, .int p1), (3, .int p2), (4, .int p3)]) hx hb dX6_addRandomRain_149 hl (k := 0) rfl (by rw [ev20]; rfl) (by decide) rfl (fun ls hl => ?_)
              refine lv_goto (tgt := 104) hx hb dX6_addRandomRain_152 (by decide) ?_
              exact IH _ (Option.some.inj hf).symm _ _ _ hP hS (lv_sub hl [0, 1, 2, 3, 4] rfl)
            have hf := ej7
            clear ej7
            refine lv_if_eq (tgt := 144) hx hb dX6_addRandomRain_130 (by decide) (fun c10 => ?_) (fun c10 => ?_)
            · have hf := xif_t hf c10
              refine lv_iconst (v := (0 : Int32)) hx hb dX6_addRandomRain_144 (by decide) ?_
              obtain ⟨rfl, rfl⟩ := xinj2 hf
              exact J7 _ _ _ hP hS (lv_sub hl [1, 2, 3, 4, 5] rfl)
            · have hf := xif_f hf c10
              refine lv_iconst (v := (1 : Int32)) hx hb dX6_addRandomRain_133 (by decide) ?_
              refine lv_aload_n hx hb dX6_addRandomRain_134 rfl (lv_at hl 2 rfl) ?_
              refine lv_iload hx hb dX6_addRandomRain_135 (lv_at hl 5 rfl) ?_
              obtain ⟨v17, ev17, hf⟩ := xb hf
              obtain ⟨v18, h8, ev18, hf⟩ := xb2 hf
              refine xc_Vi (rest := [.int (1 : Int32), .ref a0]) ⟨hx, hb, hml, hown, hts⟩ (m_X6_draws l B0 G h6 h8 a0 p3 v18 ev18) (cwV 1 hts gX6_addRandomRain_X6_draws rfl rfl rfl (by decide +kernel) ⟨Nat.le_of_ble_eq_true rfl, Nat.le_of_ble_eq_true rfl⟩) hKK hP hS ev17 rfl rfl hl.1 rfl (Nat.le_of_ble_eq_true rfl) dX6_addRandomRain_137 ⟨Nat.zero_le _, Nat.zero_le _⟩ (fun H locs hP hS => ?_)
              refine lv_iadd hx hb dX6_addRandomRain_140 ?_
              refine lv_goto (tgt := 145) hx hb dX6_addRandomRain_141 (by decide) ?_
              obtain ⟨rfl, rfl⟩ := xinj2 hf
              exact J7 _ _ _ hP hS (lv_sub hl [1, 2, 3, 4, 5] rfl)
          have hf := ej6
          clear ej6
          refine lv_icmp_ge (tgt := 124) hx hb dX6_addRandomRain_117 (by decide) (fun c9 => ?_) (fun c9 => ?_)
          · have hf := xif_t hf c9
            refine lv_iconst (v := (0 : Int32)) hx hb dX6_addRandomRain_124 (by decide) ?_
            obtain rfl := Option.some.inj hf
            exact J6 _ _ _ hP hS (lv_sub hl [0, 1, 2, 3, 4] rfl)
          · have hf := xif_f hf c9
            refine lv_iconst (v := (1 : Int32)) hx hb dX6_addRandomRain_120 (by decide) ?_
            refine lv_goto (tgt := 125) hx hb dX6_addRandomRain_121 (by decide) ?_
            obtain rfl := Option.some.inj hf
            exact J6 _ _ _ hP hS (lv_sub hl [0, 1, 2, 3, 4] rfl)
      · have hf := xif_t hf c7
        refine lv_iconst (v := (0 : Int32)) hx hb dX6_addRandomRain_89 (by decide) ?_
        obtain ⟨rfl, rfl⟩ := xinj2 hf
        subst hQ
        exact xe_i hx hb hr hlocks hKK hP hS dX6_addRandomRain_90
    have hf := ej3
    clear ej3
    obtain ⟨k4, ek4, hf⟩ := xlk hf
    have J4 : k4 = some v6 → ∀ (H : Heap) (locs : List Loc) (ls : Array Slot), xP B0 G h H → va_S (xA B0) s.heap H locs → lv_has ls 8 [(0, .ref a0), (1, .int p0), (2, .int p1), (3, .int p2), (4, .int p3)] → W p l e rmX6_addRandomRain s m args below meth c H locs 0 0 Q (F0 m 82 ls [.int v2, .ref a0]) := by
      intro  hf H locs ls hP hS hl
      have hf := xk0 ek4 hf
      clear ek4
      refine lv_iconst (v := (0 : Int32)) hx hb dX6_addRandomRain_82 (by decide) ?_
      obtain rfl := Option.some.inj hf
      exact J3 _ _ _ hP hS (lv_sub hl [0, 1, 2, 3, 4] rfl)
    clear ek4
    refine lv_if_eq (tgt := 82) hx hb dX6_addRandomRain_61 (by decide) (fun c5 => ?_) (fun c5 => ?_)
    · have hf := xif_t hf c5
      exact J4  hf _ _ _ hP hS (lv_sub hl [1, 2, 3, 4, 5] rfl)
    · have hf := xif_f hf c5
      refine lv_aload_n hx hb dX6_addRandomRain_64 rfl (lv_at hl 1 rfl) ?_
      obtain ⟨v7, ev7, hf⟩ := xb hf
      refine xr_getR hx hb hts inX6 hown hKK hP ev7 rfl (by decide) w4 (fun _ h9 => h9) dX6_addRandomRain_65 ?_
      refine lv_bipush (v := (8 : Int32)) hx hb dX6_addRandomRain_68 (by decide) ?_
      obtain ⟨v8, ev8, hf⟩ := xb hf
      refine xr_iald hx hb hKK hP ev8 dX6_addRandomRain_70 ?_
      refine lv_iload_n hx hb dX6_addRandomRain_71 rfl (lv_at hl 3 rfl) ?_
      refine lv_iadd hx hb dX6_addRandomRain_72 ?_
      refine lv_bipush (v := (100 : Int32)) hx hb dX6_addRandomRain_73 (by decide) ?_
      refine lv_icmp_gt (tgt := 82) hx hb dX6_addRandomRain_75 (by decide) (fun c6 => ?_) (fun c6 => ?_)
      · have hf := xif_t hf c6
        exact J4  hf _ _ _ hP hS (lv_sub hl [1, 2, 3, 4, 5] rfl)
      · have hf := xif_f hf c6
        refine lv_iconst (v := (1 : Int32)) hx hb dX6_addRandomRain_78 (by decide) ?_
        refine lv_goto (tgt := 83) hx hb dX6_addRandomRain_79 (by decide) ?_
        obtain rfl := Option.some.inj hf
        exact J3 _ _ _ hP hS (lv_sub hl [1, 2, 3, 4, 5] rfl)
  have hf := ej1
  clear ej1
  obtain ⟨k2, ek2, hf⟩ := xlk hf
  have J2 : k2 = some v2 → ∀ (H : Heap) (locs : List Loc) (ls : Array Slot), xP B0 G h H → va_S (xA B0) s.heap H locs → lv_has ls 8 [(0, .ref a0), (1, .int p0), (2, .int p1), (3, .int p2), (4, .int p3)] → W p l e rmX6_addRandomRain s m args below meth c H locs 0 0 Q (F0 m 53 ls []) := by
    intro  hf H locs ls hP hS hl
    have hf := xk0 ek2 hf
    clear ek2
    refine lv_iconst (v := (0 : Int32)) hx hb dX6_addRandomRain_53 (by decide) ?_
    obtain rfl := Option.some.inj hf
    exact J1 _ _ _ hP hS (lv_sub hl [0, 1, 2, 3, 4] rfl)
  clear ek2
  refine lv_if_eq (tgt := 53) hx hb dX6_addRandomRain_9 (by decide) (fun c1 => ?_) (fun c1 => ?_)
  · have hf := xif_t hf c1
    exact J2  hf _ _ _ hP hS (lv_sub hl [0, 1, 2, 3, 4] rfl)
  · have hf := xif_f hf c1
    refine lv_iload_n hx hb dX6_addRandomRain_12 rfl (lv_at hl 2 rfl) ?_
    refine lv_i2l hx hb dX6_addRandomRain_13 rfl ?_
    refine lv_lconst (v := (1 : Int64)) hx hb dX6_addRandomRain_14 (by decide) ?_
    refine lv_ldc2 (v := (100 : Int64)) hx hb hown w2 dX6_addRandomRain_15 ?_
    obtain ⟨v3, ev3, hf⟩ := xb1 hf
    refine xc_Si (rest := []) ⟨hx, hb, hml, hown, hts⟩ (m_X6_in l B0 G h (Int32.toInt64 p1) (1 : Int64) (100 : Int64) v3 ev3) (va_cwS 3 hts gX6_addRandomRain_X6_in rfl rfl rfl (by decide +kernel) ⟨Nat.le_of_ble_eq_true rfl, Nat.le_of_ble_eq_true rfl⟩) hKK hP hS rfl hl.1 rfl (Nat.le_of_ble_eq_true rfl) dX6_addRandomRain_18 ⟨Nat.zero_le _, Nat.zero_le _⟩ (fun H locs hP hS => ?_)
    refine lv_if_eq (tgt := 53) hx hb dX6_addRandomRain_21 (by decide) (fun c2 => ?_) (fun c2 => ?_)
    · have hf := xif_t hf c2
      exact J2  hf _ _ _ hP hS (lv_sub hl [0, 1, 2, 3, 4] rfl)
    · have hf := xif_f hf c2
      refine lv_iload_n hx hb dX6_addRandomRain_24 rfl (lv_at hl 3 rfl) ?_
      refine lv_i2l hx hb dX6_addRandomRain_25 rfl ?_
      refine lv_lconst (v := (0 : Int64)) hx hb dX6_addRandomRain_26 (by decide) ?_
      refine lv_ldc2 (v := (100 : Int64)) hx hb hown w2 dX6_addRandomRain_27 ?_
      obtain ⟨v4, ev4, hf⟩ := xb1 hf
      refine xc_Si (rest := []) ⟨hx, hb, hml, hown, hts⟩ (m_X6_in l B0 G h (Int32.toInt64 p2) (0 : Int64) (100 : Int64) v4 ev4) (va_cwS 3 hts gX6_addRandomRain_X6_in rfl rfl rfl (by decide +kernel) ⟨Nat.le_of_ble_eq_true rfl, Nat.le_of_ble_eq_true rfl⟩) hKK hP hS rfl hl.1 rfl (Nat.le_of_ble_eq_true rfl) dX6_addRandomRain_30 ⟨Nat.zero_le _, Nat.zero_le _⟩ (fun H locs hP hS => ?_)
      refine lv_if_eq (tgt := 53) hx hb dX6_addRandomRain_33 (by decide) (fun c3 => ?_) (fun c3 => ?_)
      · have hf := xif_t hf c3
        exact J2  hf _ _ _ hP hS (lv_sub hl [0, 1, 2, 3, 4] rfl)
      · have hf := xif_f hf c3
        refine lv_iload hx hb dX6_addRandomRain_36 (lv_at hl 4 rfl) ?_
        refine lv_i2l hx hb dX6_addRandomRain_38 rfl ?_
        refine lv_lconst (v := (1 : Int64)) hx hb dX6_addRandomRain_39 (by decide) ?_
        refine lv_ldc2 (v := (200 : Int64)) hx hb hown w3 dX6_addRandomRain_40 ?_
        obtain ⟨v5, ev5, hf⟩ := xb1 hf
        refine xc_Si (rest := []) ⟨hx, hb, hml, hown, hts⟩ (m_X6_in l B0 G h (Int32.toInt64 p3) (1 : Int64) (200 : Int64) v5 ev5) (va_cwS 3 hts gX6_addRandomRain_X6_in rfl rfl rfl (by decide +kernel) ⟨Nat.le_of_ble_eq_true rfl, Nat.le_of_ble_eq_true rfl⟩) hKK hP hS rfl hl.1 rfl (Nat.le_of_ble_eq_true rfl) dX6_addRandomRain_43 ⟨Nat.zero_le _, Nat.zero_le _⟩ (fun H locs hP hS => ?_)
        refine lv_if_eq (tgt := 53) hx hb dX6_addRandomRain_46 (by decide) (fun c4 => ?_) (fun c4 => ?_)
        · have hf := xif_t hf c4
          exact J2  hf _ _ _ hP hS (lv_sub hl [0, 1, 2, 3, 4] rfl)
        · have hf := xif_f hf c4
          refine lv_iconst (v := (1 : Int32)) hx hb dX6_addRandomRain_49 (by decide) ?_
          refine lv_goto (tgt := 54) hx hb dX6_addRandomRain_50 (by decide) ?_
          obtain rfl := Option.some.inj hf
          exact J1 _ _ _ hP hS (lv_sub hl [0, 1, 2, 3, 4] rfl)
/-- RainReservoirModel.rain -/
def f_X6_rain (h : XH) (a0 : Nat) (p0 : Int32) : Option (Int32 × XH) :=
  (xgR h a0 6 0).bind fun v1 =>
  (xald h v1 0 (8 : Int32)).bind fun v2 =>
  obind1 (f_X6_in (Int32.toInt64 p0) (0 : Int64) ((Int32.toInt64 v2) - (1 : Int64))) fun v3 =>
  (xis h a0 6).bind fun v4 =>
  obind2 (f_X6_goes h a0 v3 (1 : Int32)) fun v5 h1 =>
  obind1 (
    if v5 = (0 : Int32) then
      some (0 : Int32)
    else
      (xgR h1 a0 6 0).bind fun v7 =>
      (xald h1 v7 0 ((63 : Int32) + p0)).bind fun v8 =>
      some v8
  ) fun v6 =>
  some ((v6, h1))
abbrev rmX6_rain : Room := { frames := 1, cells := 0, slots := 0, locals := 25 }
set_option maxHeartbeats 4000000 in
set_option maxRecDepth 100000 in
theorem m_X6_rain (l : Launch) (B0 : Nat) (G : XG) (h hE : XH) (a0 : Nat) (p0 : Int32) (rE : Int32) (hf : f_X6_rain h a0 p0 = some (rE, hE)) : Met l yX6_rain wsX6_rain rmX6_rain (va_Pc [.ref a0, .int p0] (xU B0 G h)) (xQi B0 G hE rE) 0 0 (xA B0) := by
  refine xMet (cc := cX6_rain) (maxL := 2) (by decide) rfl (Nat.le_of_ble_eq_true rfl) ?_
  intro p e s m args below meth c ls hx hb hr hml hown hlocks hnm hts hKK hP hl
  have hown : s.vm.findClass RX6 = some m.cls := hown
  have hl : lv_has ls 2 [(0, .ref a0), (1, .int p0)] := hl
  have hS : va_S (xA B0) s.heap s.heap [] := va_S.rf
  have inX6 : ∀ w ∈ wsX60, w ∈ wsX6_rain := by decide +kernel
  have w1 := hts (.fieldLink RX6 7 "RainReservoirModel" "all" "[I") (by decide +kernel)
  generalize hQ : MQ below (xQi B0 G hE rE) args s 0 0 (xA B0) = Q
  unfold f_X6_rain at hf
  refine lv_aload_n hx hb dX6_rain_0 rfl (lv_at hl 0 rfl) ?_
  refine lv_iload_n hx hb dX6_rain_1 rfl (lv_at hl 1 rfl) ?_
  refine lv_i2l hx hb dX6_rain_2 rfl ?_
  refine lv_lconst (v := (0 : Int64)) hx hb dX6_rain_3 (by decide) ?_
  refine lv_aload_n hx hb dX6_rain_4 rfl (lv_at hl 0 rfl) ?_
  obtain ⟨v1, ev1, hf⟩ := xb hf
  refine xr_getR hx hb hts inX6 hown hKK hP ev1 rfl (by decide) w1 (fun _ h9 => h9) dX6_rain_5 ?_
  refine lv_bipush (v := (8 : Int32)) hx hb dX6_rain_8 (by decide) ?_
  obtain ⟨v2, ev2, hf⟩ := xb hf
  refine xr_iald hx hb hKK hP ev2 dX6_rain_10 ?_
  refine lv_i2l hx hb dX6_rain_11 rfl ?_
  refine lv_lconst (v := (1 : Int64)) hx hb dX6_rain_12 (by decide) ?_
  refine lv_lsub hx hb dX6_rain_13 ?_
  obtain ⟨v3, ev3, hf⟩ := xb1 hf
  refine xc_Si (rest := [.ref a0]) ⟨hx, hb, hml, hown, hts⟩ (m_X6_in l B0 G h (Int32.toInt64 p0) (0 : Int64) ((Int32.toInt64 v2) - (1 : Int64)) v3 ev3) (va_cwS 3 hts gX6_rain_X6_in rfl rfl rfl (by decide +kernel) ⟨Nat.le_of_ble_eq_true rfl, Nat.le_of_ble_eq_true rfl⟩) hKK hP hS rfl hl.1 rfl (Nat.le_of_ble_eq_true rfl) dX6_rain_14 ⟨Nat.zero_le _, Nat.zero_le _⟩ (fun H locs hP hS => ?_)
  refine lv_iconst (v := (1 : Int32)) hx hb dX6_rain_17 (by decide) ?_
  obtain ⟨v4, ev4, hf⟩ := xb hf
  obtain ⟨v5, h1, ev5, hf⟩ := xb2 hf
  refine xc_Vi (rest := []) ⟨hx, hb, hml, hown, hts⟩ (m_X6_goes l B0 G h h1 a0 v3 (1 : Int32) v5 ev5) (cwV 2 hts gX6_rain_X6_goes rfl rfl rfl (by decide +kernel) ⟨Nat.le_of_ble_eq_true rfl, Nat.le_of_ble_eq_true rfl⟩) hKK hP hS ev4 rfl rfl hl.1 rfl (Nat.le_of_ble_eq_true rfl) dX6_rain_18 ⟨Nat.zero_le _, Nat.zero_le _⟩ (fun H locs hP hS => ?_)
  obtain ⟨v6, ej1, hf⟩ := xb1 hf
  have J1 : ∀ (H : Heap) (locs : List Loc) (ls : Array Slot), xP B0 G h1 H → va_S (xA B0) s.heap H locs → lv_has ls 2 [] → W p l e rmX6_rain s m args below meth c H locs 0 0 Q (F0 m 37 ls [.int v6]) := by
    intro H locs ls hP hS hl
    clear ej1
    obtain ⟨rfl, rfl⟩ := xinj2 hf
    subst hQ
    exact xe_i hx hb hr hlocks hKK hP hS dX6_rain_37
  have hf := ej1
  clear ej1
  refine lv_if_eq (tgt := 36) hx hb dX6_rain_21 (by decide) (fun c1 => ?_) (fun c1 => ?_)
  · have hf := xif_t hf c1
    refine lv_iconst (v := (0 : Int32)) hx hb dX6_rain_36 (by decide) ?_
    obtain rfl := Option.some.inj hf
    exact J1 _ _ _ hP hS (lv_sub hl [] rfl)
  · have hf := xif_f hf c1
    refine lv_aload_n hx hb dX6_rain_24 rfl (lv_at hl 0 rfl) ?_
    obtain ⟨v7, ev7, hf⟩ := xb hf
    refine xr_getR hx hb hts inX6 hown hKK hP ev7 rfl (by decide) w1 (fun _ h9 => h9) dX6_rain_25 ?_
    refine lv_bipush (v := (63 : Int32)) hx hb dX6_rain_28 (by decide) ?_
    refine lv_iload_n hx hb dX6_rain_30 rfl (lv_at hl 1 rfl) ?_
    refine lv_iadd hx hb dX6_rain_31 ?_
    obtain ⟨v8, ev8, hf⟩ := xb hf
    refine xr_iald hx hb hKK hP ev8 dX6_rain_32 ?_
    refine lv_goto (tgt := 37) hx hb dX6_rain_33 (by decide) ?_
    obtain rfl := Option.some.inj hf
    exact J1 _ _ _ hP hS (lv_sub hl [] rfl)
/-- RainReservoirModel.tells -/
def f_X6_tells (h : XH) (a0 : Nat) (p0 : Int32) (p1 : Int32) : Option (XH) :=
  (xgR h a0 6 0).bind fun v1 =>
  (xgI h a0 6 6).bind fun v2 =>
  (xald h v1 0 (((163 : Int32) + ((10 : Int32) * v2)) + p0)).bind fun v3 =>
  (xast h v1 0 (((163 : Int32) + ((10 : Int32) * v2)) + p0) (v3 + p1)).bind fun h1 =>
  some (h1)
abbrev rmX6_tells : Room := { frames := 0, cells := 0, slots := 0, locals := 0 }
set_option maxHeartbeats 4000000 in
set_option maxRecDepth 100000 in
theorem m_X6_tells (l : Launch) (B0 : Nat) (G : XG) (h hE : XH) (a0 : Nat) (p0 : Int32) (p1 : Int32) (hf : f_X6_tells h a0 p0 p1 = some hE) : Met l yX6_tells wsX6_tells rmX6_tells (va_Pc [.ref a0, .int p0, .int p1] (xU B0 G h)) (xQv B0 G hE) 0 0 (xA B0) := by
  refine xMet (cc := cX6_tells) (maxL := 3) (by decide) rfl (Nat.le_of_ble_eq_true rfl) ?_
  intro p e s m args below meth c ls hx hb hr hml hown hlocks hnm hts hKK hP hl
  have hown : s.vm.findClass RX6 = some m.cls := hown
  have hl : lv_has ls 3 [(0, .ref a0), (1, .int p0), (2, .int p1)] := hl
  have hS : va_S (xA B0) s.heap s.heap [] := va_S.rf
  have inX6 : ∀ w ∈ wsX60, w ∈ wsX6_tells := by decide +kernel
  have w1 := hts (.fieldLink RX6 7 "RainReservoirModel" "all" "[I") (by decide +kernel)
  have w2 := hts (.fieldLink RX6 110 "RainReservoirModel" "today" "I") (by decide +kernel)
  generalize hQ : MQ below (xQv B0 G hE) args s 0 0 (xA B0) = Q
  unfold f_X6_tells at hf
  refine lv_aload_n hx hb dX6_tells_0 rfl (lv_at hl 0 rfl) ?_
  obtain ⟨v1, ev1, hf⟩ := xb hf
  refine xr_getR hx hb hts inX6 hown hKK hP ev1 rfl (by decide) w1 (fun _ h9 => h9) dX6_tells_1 ?_
  refine lv_sipush (v := (163 : Int32)) hx hb dX6_tells_4 (by decide) ?_
  refine lv_bipush (v := (10 : Int32)) hx hb dX6_tells_7 (by decide) ?_
  refine lv_aload_n hx hb dX6_tells_9 rfl (lv_at hl 0 rfl) ?_
  obtain ⟨v2, ev2, hf⟩ := xb hf
  refine xr_getI hx hb hts inX6 hown hKK hP ev2 rfl (by decide) w2 (fun _ h9 => h9) dX6_tells_10 ?_
  refine lv_imul hx hb dX6_tells_13 ?_
  refine lv_iadd hx hb dX6_tells_14 ?_
  refine lv_iload_n hx hb dX6_tells_15 rfl (lv_at hl 1 rfl) ?_
  refine lv_iadd hx hb dX6_tells_16 ?_
  refine lv_dup2_11 hx hb dX6_tells_17 rfl rfl ?_
  obtain ⟨v3, ev3, hf⟩ := xb hf
  refine xr_iald hx hb hKK hP ev3 dX6_tells_18 ?_
  refine lv_iload_n hx hb dX6_tells_19 rfl (lv_at hl 2 rfl) ?_
  refine lv_iadd hx hb dX6_tells_20 ?_
  obtain ⟨h1, eh1, hf⟩ := xb hf
  refine xr_iast hx hb hKK hP hS eh1 dX6_tells_21 (fun H locs hP _ hS => ?_)
  obtain rfl := Option.some.inj hf
  subst hQ
  exact xe_v hx hb hr hlocks hKK hP hS dX6_tells_22
/-- RainReservoirModel.drains -/
def f_X6_drains (fu : Nat) (h : XH) (a0 : Nat) : Option (XH) :=
  obind1 (xloop (xf2 fun (v1 : Int32) (h1 : XH) =>
    (xgR h1 a0 6 0).bind fun v2 =>
    (xald h1 v2 0 (6 : Int32)).bind fun v3 =>
    if v3 ≤ v1 then
      some (.inr h1)
    else
      (xis h1 a0 6).bind fun v4 =>
      obind1 (f_X6_ofRoof h1 a0 v1 (4 : Int32)) fun v5 =>
      (xis h1 a0 6).bind fun v6 =>
      obind1 (f_X6_tells h1 a0 (9 : Int32) v5) fun h3 =>
      (xgR h3 a0 6 0).bind fun v7 =>
      obind1 (f_X6_roofAt v1 (4 : Int32)) fun v8 =>
      (xast h3 v7 0 v8 (0 : Int32)).bind fun h4 =>
      olet (v1 + (1 : Int32)) fun v9 =>
      some (.inl (v9, h4))
  ) fu ((0 : Int32), h)) fun h2 =>
  some (h2)
abbrev rmX6_drains : Room := { frames := 2, cells := 0, slots := 0, locals := 43 }
set_option maxHeartbeats 4000000 in
set_option maxRecDepth 100000 in
theorem m_X6_drains (l : Launch) (B0 : Nat) (G : XG) (fu : Nat) (h hE : XH) (a0 : Nat) (hf : f_X6_drains fu h a0 = some hE) : Met l yX6_drains wsX6_drains rmX6_drains (va_Pc [.ref a0] (xU B0 G h)) (xQv B0 G hE) 0 0 (xA B0) := by
  refine xMet (cc := cX6_drains) (maxL := 2) (by decide) rfl (Nat.le_of_ble_eq_true rfl) ?_
  intro p e s m args below meth c ls hx hb hr hml hown hlocks hnm hts hKK hP hl
  have hown : s.vm.findClass RX6 = some m.cls := hown
  have hl : lv_has ls 2 [(0, .ref a0)] := hl
  have hS : va_S (xA B0) s.heap s.heap [] := va_S.rf
  have inX6 : ∀ w ∈ wsX60, w ∈ wsX6_drains := by decide +kernel
  have w1 := hts (.fieldLink RX6 7 "RainReservoirModel" "all" "[I") (by decide +kernel)
  generalize hQ : MQ below (xQv B0 G hE) args s 0 0 (xA B0) = Q
  unfold f_X6_drains at hf
  refine lv_iconst (v := (0 : Int32)) hx hb dX6_drains_0 (by decide) ?_
  refine lv_istore_n (lv' := [(1, .int (0 : Int32)), (0, .ref a0)]) hx hb dX6_drains_1 rfl hl (by decide) rfl (fun ls hl => ?_)
  obtain ⟨h2, eL, hf⟩ := xb1 hf
  have J1 : ∀ (H : Heap) (locs : List Loc) (ls : Array Slot), xP B0 G h2 H → va_S (xA B0) s.heap H locs → lv_has ls 2 [] → W p l e rmX6_drains s m args below meth c H locs 0 0 Q (F0 m 42 ls []) := by
    intro H locs ls hP hS hl
    clear eL
    obtain rfl := Option.some.inj hf
    subst hQ
    exact xe_v hx hb hr hlocks hKK hP hS dX6_drains_42
  clear hf
  refine xloop_ind (P := fun z => ∀ (H : Heap) (locs : List Loc) (ls : Array Slot), xP B0 G z.2 H → va_S (xA B0) s.heap H locs → lv_has ls 2 [(1, .int z.1), (0, .ref a0)] → W p l e rmX6_drains s m args below meth c H locs 0 0 Q (F0 m 2 ls [])) ?_ eL _ _ _ hP hS (lv_sub hl [0, 1] rfl)
  rintro ⟨v1, h1⟩ o hf IH EX H locs ls hP hS hl
  have hf := xf2_e hf
  have hP : xP B0 G h1 H := hP
  have hl : lv_has ls 2 [(1, .int v1), (0, .ref a0)] := hl
  refine lv_iload_n hx hb dX6_drains_2 rfl (lv_at hl 0 rfl) ?_
  refine lv_aload_n hx hb dX6_drains_3 rfl (lv_at hl 1 rfl) ?_
  obtain ⟨v2, ev2, hf⟩ := xb hf
  refine xr_getR hx hb hts inX6 hown hKK hP ev2 rfl (by decide) w1 (fun _ h9 => h9) dX6_drains_4 ?_
  refine lv_bipush (v := (6 : Int32)) hx hb dX6_drains_7 (by decide) ?_
  obtain ⟨v3, ev3, hf⟩ := xb hf
  refine xr_iald hx hb hKK hP ev3 dX6_drains_9 ?_
  refine lv_icmp_ge (tgt := 42) hx hb dX6_drains_10 (by decide) (fun c1 => ?_) (fun c1 => ?_)
  · have hf := xif_t hf c1
    have hf := EX _ (Option.some.inj hf).symm
    obtain rfl := hf
    exact J1 _ _ _ hP hS (lv_sub hl [] rfl)
  · have hf := xif_f hf c1
    refine lv_aload_n hx hb dX6_drains_13 rfl (lv_at hl 1 rfl) ?_
    refine lv_bipush (v := (9 : Int32)) hx hb dX6_drains_14 (by decide) ?_
    refine lv_aload_n hx hb dX6_drains_16 rfl (lv_at hl 1 rfl) ?_
    refine lv_iload_n hx hb dX6_drains_17 rfl (lv_at hl 0 rfl) ?_
    refine lv_iconst (v := (4 : Int32)) hx hb dX6_drains_18 (by decide) ?_
    obtain ⟨v4, ev4, hf⟩ := xb hf
    obtain ⟨v5, ev5, hf⟩ := xb1 hf
    refine xc_Vi (rest := [.int (9 : Int32), .ref a0]) ⟨hx, hb, hml, hown, hts⟩ (m_X6_ofRoof l B0 G h1 a0 v1 (4 : Int32) v5 ev5) (cwV 2 hts gX6_drains_X6_ofRoof rfl rfl rfl (by decide +kernel) ⟨Nat.le_of_ble_eq_true rfl, Nat.le_of_ble_eq_true rfl⟩) hKK hP hS ev4 rfl rfl hl.1 rfl (Nat.le_of_ble_eq_true rfl) dX6_drains_19 ⟨Nat.zero_le _, Nat.zero_le _⟩ (fun H locs hP hS => ?_)
    obtain ⟨v6, ev6, hf⟩ := xb hf
    obtain ⟨h3, eh3, hf⟩ := xb1 hf
    refine xc_Vv (rest := []) ⟨hx, hb, hml, hown, hts⟩ (m_X6_tells l B0 G h1 h3 a0 (9 : Int32) v5 eh3) (cwV 2 hts gX6_drains_X6_tells rfl rfl rfl (by decide +kernel) ⟨Nat.le_of_ble_eq_true rfl, Nat.le_of_ble_eq_true rfl⟩) hKK hP hS ev6 rfl rfl hl.1 rfl (Nat.le_of_ble_eq_true rfl) dX6_drains_22 ⟨Nat.zero_le _, Nat.zero_le _⟩ (fun H locs hP hS => ?_)
    refine lv_aload_n hx hb dX6_drains_25 rfl (lv_at hl 1 rfl) ?_
    obtain ⟨v7, ev7, hf⟩ := xb hf
    refine xr_getR hx hb hts inX6 hown hKK hP ev7 rfl (by decide) w1 (fun _ h9 => h9) dX6_drains_26 ?_
    refine lv_iload_n hx hb dX6_drains_29 rfl (lv_at hl 0 rfl) ?_
    refine lv_iconst (v := (4 : Int32)) hx hb dX6_drains_30 (by decide) ?_
    obtain ⟨v8, ev8, hf⟩ := xb1 hf
    refine xc_Si (rest := [.ref v7]) ⟨hx, hb, hml, hown, hts⟩ (m_X6_roofAt l B0 G h3 v1 (4 : Int32) v8 ev8) (va_cwS 2 hts gX6_drains_X6_roofAt rfl rfl rfl (by decide +kernel) ⟨Nat.le_of_ble_eq_true rfl, Nat.le_of_ble_eq_true rfl⟩) hKK hP hS rfl hl.1 rfl (Nat.le_of_ble_eq_true rfl) dX6_drains_31 ⟨Nat.zero_le _, Nat.zero_le _⟩ (fun H locs hP hS => ?_)
    refine lv_iconst (v := (0 : Int32)) hx hb dX6_drains_34 (by decide) ?_
    obtain ⟨h4, eh4, hf⟩ := xb hf
    refine xr_iast hx hb hKK hP hS eh4 dX6_drains_35 (fun H locs hP _ hS => ?_)
    obtain ⟨v9, ev9, hf⟩ := xl hf
    refine lv_iinc (v := v9) (lv' := [(1, .int v9), (0, .ref a0)]) hx hb dX6_drains_36 hl (k := 0) rfl (by rw [ev9]; rfl) (by decide) rfl (fun ls hl => ?_)
    refine lv_goto (tgt := 2) hx hb dX6_drains_39 (by decide) ?_
    exact IH _ (Option.some.inj hf).symm _ _ _ hP hS (lv_sub hl [0, 1] rfl)
/-- RainReservoirModel.flows -/
def f_X6_flows (h : XH) (a0 : Nat) (p0 : Int32) (p1 : Int32) : Option (Int32 × XH) :=
  (xis h a0 6).bind fun v1 =>
  obind1 (f_X6_ofRoof h a0 p0 (0 : Int32)) fun v2 =>
  (xis h a0 6).bind fun v3 =>
  obind1 (f_X6_ofRoof h a0 p0 (1 : Int32)) fun v4 =>
  olet ((((v2 * p1) * v4) / (100 : Int32))) fun v5 =>
  (xis h a0 6).bind fun v6 =>
  obind1 (f_X6_ofRoof h a0 p0 (2 : Int32)) fun v7 =>
  (xis h a0 6).bind fun v8 =>
  obind1 (f_X6_ofRoof h a0 p0 (4 : Int32)) fun v9 =>
  olet ((v7 - v9)) fun v10 =>
  obind1 (
    if v10 ≤ v5 then
      some v10
    else
      some v5
  ) fun v11 =>
  (xgR h a0 6 0).bind fun v12 =>
  obind1 (f_X6_roofAt p0 (4 : Int32)) fun v13 =>
  (xald h v12 0 v13).bind fun v14 =>
  (xast h v12 0 v13 (v14 + v11)).bind fun h1 =>
  (xis h1 a0 6).bind fun v15 =>
  obind1 (f_X6_tells h1 a0 (2 : Int32) v11) fun h2 =>
  olet ((v5 - v11)) fun v16 =>
  (xis h2 a0 6).bind fun v17 =>
  obind1 (f_X6_ofRoof h2 a0 p0 (3 : Int32)) fun v18 =>
  obind1 (
    if v16 ≤ v18 then
      some (0 : Int32)
    else
      (xis h2 a0 6).bind fun v20 =>
      obind1 (f_X6_ofRoof h2 a0 p0 (3 : Int32)) fun v21 =>
      some (v16 - v21)
  ) fun v19 =>
  (xis h2 a0 6).bind fun v22 =>
  obind1 (f_X6_tells h2 a0 (3 : Int32) v19) fun h3 =>
  (xgR h3 a0 6 7).bind fun v23 =>
  (xaldL h3 v23 p0).bind fun v24 =>
  (xastL h3 v23 p0 (v24 + (Int32.toInt64 v19))).bind fun h4 =>
  some (((v16 - v19), h4))
abbrev rmX6_flows : Room := { frames := 2, cells := 0, slots := 0, locals := 43 }
set_option maxHeartbeats 4000000 in
set_option maxRecDepth 100000 in
theorem m_X6_flows (l : Launch) (B0 : Nat) (G : XG) (h hE : XH) (a0 : Nat) (p0 : Int32) (p1 : Int32) (rE : Int32) (hf : f_X6_flows h a0 p0 p1 = some (rE, hE)) : Met l yX6_flows wsX6_flows rmX6_flows (va_Pc [.ref a0, .int p0, .int p1] (xU B0 G h)) (xQi B0 G hE rE) 0 0 (xA B0) := by
  refine xMet (cc := cX6_flows) (maxL := 7) (by decide) rfl (Nat.le_of_ble_eq_true rfl) ?_
  intro p e s m args below meth c ls hx hb hr hml hown hlocks hnm hts hKK hP hl
  have hown : s.vm.findClass RX6 = some m.cls := hown
  have hl : lv_has ls 7 [(0, .ref a0), (1, .int p0), (2, .int p1)] := hl
  have hS : va_S (xA B0) s.heap s.heap [] := va_S.rf
  have inX6 : ∀ w ∈ wsX60, w ∈ wsX6_flows := by decide +kernel
  have w1 := hts (.fieldLink RX6 7 "RainReservoirModel" "all" "[I") (by decide +kernel)
  have w2 := hts (.fieldLink RX6 19 "RainReservoirModel" "spiltAt" "[J") (by decide +kernel)
  generalize hQ : MQ below (xQi B0 G hE rE) args s 0 0 (xA B0) = Q
  unfold f_X6_flows at hf
  refine lv_aload_n hx hb dX6_flows_0 rfl (lv_at hl 0 rfl) ?_
  refine lv_iload_n hx hb dX6_flows_1 rfl (lv_at hl 1 rfl) ?_
  refine lv_iconst (v := (0 : Int32)) hx hb dX6_flows_2 (by decide) ?_
  obtain ⟨v1, ev1, hf⟩ := xb hf
  obtain ⟨v2, ev2, hf⟩ := xb1 hf
  refine xc_Vi (rest := []) ⟨hx, hb, hml, hown, hts⟩ (m_X6_ofRoof l B0 G h a0 p0 (0 : Int32) v2 ev2) (cwV 2 hts gX6_flows_X6_ofRoof rfl rfl rfl (by decide +kernel) ⟨Nat.le_of_ble_eq_true rfl, Nat.le_of_ble_eq_true rfl⟩) hKK hP hS ev1 rfl rfl hl.1 rfl (Nat.le_of_ble_eq_true rfl) dX6_flows_3 ⟨Nat.zero_le _, Nat.zero_le _⟩ (fun H locs hP hS => ?_)
  refine lv_iload_n hx hb dX6_flows_6 rfl (lv_at hl 2 rfl) ?_
  refine lv_imul hx hb dX6_flows_7 ?_
  refine lv_aload_n hx hb dX6_flows_8 rfl (lv_at hl 0 rfl) ?_
  refine lv_iload_n hx hb dX6_flows_9 rfl (lv_at hl 1 rfl) ?_
  refine lv_iconst (v := (1 : Int32)) hx hb dX6_flows_10 (by decide) ?_
  obtain ⟨v3, ev3, hf⟩ := xb hf
  obtain ⟨v4, ev4, hf⟩ := xb1 hf
  refine xc_Vi (rest := [.int (v2 * p1)]) ⟨hx, hb, hml, hown, hts⟩ (m_X6_ofRoof l B0 G h a0 p0 (1 : Int32) v4 ev4) (cwV 2 hts gX6_flows_X6_ofRoof rfl rfl rfl (by decide +kernel) ⟨Nat.le_of_ble_eq_true rfl, Nat.le_of_ble_eq_true rfl⟩) hKK hP hS ev3 rfl rfl hl.1 rfl (Nat.le_of_ble_eq_true rfl) dX6_flows_11 ⟨Nat.zero_le _, Nat.zero_le _⟩ (fun H locs hP hS => ?_)
  refine lv_imul hx hb dX6_flows_14 ?_
  refine lv_bipush (v := (100 : Int32)) hx hb dX6_flows_15 (by decide) ?_
  refine lv_idiv hx hb dX6_flows_17 (by decide) ?_
  obtain ⟨v5, ev5, hf⟩ := xl hf
  refine xtopi ev5 ?_
  refine lv_istore_n (lv' := [(3, .int v5), (0, .ref a0), (1, .int p0), (2, .int p1)]) hx hb dX6_flows_18 rfl hl (by decide) rfl (fun ls hl => ?_)
  refine lv_aload_n hx hb dX6_flows_19 rfl (lv_at hl 1 rfl) ?_
  refine lv_iload_n hx hb dX6_flows_20 rfl (lv_at hl 2 rfl) ?_
  refine lv_iconst (v := (2 : Int32)) hx hb dX6_flows_21 (by decide) ?_
  obtain ⟨v6, ev6, hf⟩ := xb hf
  obtain ⟨v7, ev7, hf⟩ := xb1 hf
  refine xc_Vi (rest := []) ⟨hx, hb, hml, hown, hts⟩ (m_X6_ofRoof l B0 G h a0 p0 (2 : Int32) v7 ev7) (cwV 2 hts gX6_flows_X6_ofRoof rfl rfl rfl (by decide +kernel) ⟨Nat.le_of_ble_eq_true rfl, Nat.le_of_ble_eq_true rfl⟩) hKK hP hS ev6 rfl rfl hl.1 rfl (Nat.le_of_ble_eq_true rfl) dX6_flows_22 ⟨Nat.zero_le _, Nat.zero_le _⟩ (fun H locs hP hS => ?_)
  refine lv_aload_n hx hb dX6_flows_25 rfl (lv_at hl 1 rfl) ?_
  refine lv_iload_n hx hb dX6_flows_26 rfl (lv_at hl 2 rfl) ?_
  refine lv_iconst (v := (4 : Int32)) hx hb dX6_flows_27 (by decide) ?_
  obtain ⟨v8, ev8, hf⟩ := xb hf
  obtain ⟨v9, ev9, hf⟩ := xb1 hf
  refine xc_Vi (rest := [.int v7]) ⟨hx, hb, hml, hown, hts⟩ (m_X6_ofRoof l B0 G h a0 p0 (4 : Int32) v9 ev9) (cwV 2 hts gX6_flows_X6_ofRoof rfl rfl rfl (by decide +kernel) ⟨Nat.le_of_ble_eq_true rfl, Nat.le_of_ble_eq_true rfl⟩) hKK hP hS ev8 rfl rfl hl.1 rfl (Nat.le_of_ble_eq_true rfl) dX6_flows_28 ⟨Nat.zero_le _, Nat.zero_le _⟩ (fun H locs hP hS => ?_)
  refine lv_isub hx hb dX6_flows_31 ?_
  obtain ⟨v10, ev10, hf⟩ := xl hf
  refine xtopi ev10 ?_
  refine lv_istore (lv' := [(4, .int v10), (3, .int v5), (0, .ref a0), (1, .int p0), (2, .int p1)]) hx hb dX6_flows_32 hl (by decide) rfl (fun ls hl => ?_)
  refine lv_iload_n hx hb dX6_flows_34 rfl (lv_at hl 1 rfl) ?_
  refine lv_iload hx hb dX6_flows_35 (lv_at hl 0 rfl) ?_
  obtain ⟨v11, ej1, hf⟩ := xb1 hf
  have J1 : ∀ (H : Heap) (locs : List Loc) (ls : Array Slot), xP B0 G h H → va_S (xA B0) s.heap H locs → lv_has ls 7 [(3, .int v5), (0, .ref a0), (1, .int p0)] → W p l e rmX6_flows s m args below meth c H locs 0 0 Q (F0 m 46 ls [.int v11]) := by
    intro H locs ls hP hS hl
    clear ej1
    refine lv_istore (lv' := [(5, .int v11), (3, .int v5), (0, .ref a0), (1, .int p0)]) hx hb dX6_flows_46 hl (by decide) rfl (fun ls hl => ?_)
    refine lv_aload_n hx hb dX6_flows_48 rfl (lv_at hl 2 rfl) ?_
    obtain ⟨v12, ev12, hf⟩ := xb hf
    refine xr_getR hx hb hts inX6 hown hKK hP ev12 rfl (by decide) w1 (fun _ h9 => h9) dX6_flows_49 ?_
    refine lv_iload_n hx hb dX6_flows_52 rfl (lv_at hl 3 rfl) ?_
    refine lv_iconst (v := (4 : Int32)) hx hb dX6_flows_53 (by decide) ?_
    obtain ⟨v13, ev13, hf⟩ := xb1 hf
    refine xc_Si (rest := [.ref v12]) ⟨hx, hb, hml, hown, hts⟩ (m_X6_roofAt l B0 G h p0 (4 : Int32) v13 ev13) (va_cwS 2 hts gX6_flows_X6_roofAt rfl rfl rfl (by decide +kernel) ⟨Nat.le_of_ble_eq_true rfl, Nat.le_of_ble_eq_true rfl⟩) hKK hP hS rfl hl.1 rfl (Nat.le_of_ble_eq_true rfl) dX6_flows_54 ⟨Nat.zero_le _, Nat.zero_le _⟩ (fun H locs hP hS => ?_)
    refine lv_dup2_11 hx hb dX6_flows_57 rfl rfl ?_
    obtain ⟨v14, ev14, hf⟩ := xb hf
    refine xr_iald hx hb hKK hP ev14 dX6_flows_58 ?_
    refine lv_iload hx hb dX6_flows_59 (lv_at hl 0 rfl) ?_
    refine lv_iadd hx hb dX6_flows_61 ?_
    obtain ⟨h1, eh1, hf⟩ := xb hf
    refine xr_iast hx hb hKK hP hS eh1 dX6_flows_62 (fun H locs hP _ hS => ?_)
    refine lv_aload_n hx hb dX6_flows_63 rfl (lv_at hl 2 rfl) ?_
    refine lv_iconst (v := (2 : Int32)) hx hb dX6_flows_64 (by decide) ?_
    refine lv_iload hx hb dX6_flows_65 (lv_at hl 0 rfl) ?_
    obtain ⟨v15, ev15, hf⟩ := xb hf
    obtain ⟨h2, eh2, hf⟩ := xb1 hf
    refine xc_Vv (rest := []) ⟨hx, hb, hml, hown, hts⟩ (m_X6_tells l B0 G h1 h2 a0 (2 : Int32) v11 eh2) (cwV 2 hts gX6_flows_X6_tells rfl rfl rfl (by decide +kernel) ⟨Nat.le_of_ble_eq_true rfl, Nat.le_of_ble_eq_true rfl⟩) hKK hP hS ev15 rfl rfl hl.1 rfl (Nat.le_of_ble_eq_true rfl) dX6_flows_67 ⟨Nat.zero_le _, Nat.zero_le _⟩ (fun H locs hP hS => ?_)
    refine lv_iload_n hx hb dX6_flows_70 rfl (lv_at hl 1 rfl) ?_
    refine lv_iload hx hb dX6_flows_71 (lv_at hl 0 rfl) ?_
    refine lv_isub hx hb dX6_flows_73 ?_
    obtain ⟨v16, ev16, hf⟩ := xl hf
    refine xtopi ev16 ?_
    refine lv_istore_n (lv' := [(3, .int v16), (5, .int v11), (0, .ref a0), (1, .int p0)]) hx hb dX6_flows_74 rfl hl (by decide) rfl (fun ls hl => ?_)
    refine lv_iload_n hx hb dX6_flows_75 rfl (lv_at hl 0 rfl) ?_
    refine lv_aload_n hx hb dX6_flows_76 rfl (lv_at hl 2 rfl) ?_
    refine lv_iload_n hx hb dX6_flows_77 rfl (lv_at hl 3 rfl) ?_
    refine lv_iconst (v := (3 : Int32)) hx hb dX6_flows_78 (by decide) ?_
    obtain ⟨v17, ev17, hf⟩ := xb hf
    obtain ⟨v18, ev18, hf⟩ := xb1 hf
    refine xc_Vi (rest := [.int v16]) ⟨hx, hb, hml, hown, hts⟩ (m_X6_ofRoof l B0 G h2 a0 p0 (3 : Int32) v18 ev18) (cwV 2 hts gX6_flows_X6_ofRoof rfl rfl rfl (by decide +kernel) ⟨Nat.le_of_ble_eq_true rfl, Nat.le_of_ble_eq_true rfl⟩) hKK hP hS ev17 rfl rfl hl.1 rfl (Nat.le_of_ble_eq_true rfl) dX6_flows_79 ⟨Nat.zero_le _, Nat.zero_le _⟩ (fun H locs hP hS => ?_)
    obtain ⟨v19, ej2, hf⟩ := xb1 hf
    have J2 : ∀ (H : Heap) (locs : List Loc) (ls : Array Slot), xP B0 G h2 H → va_S (xA B0) s.heap H locs → lv_has ls 7 [(3, .int v16), (0, .ref a0), (1, .int p0)] → W p l e rmX6_flows s m args below meth c H locs 0 0 Q (F0 m 97 ls [.int v19]) := by
      intro H locs ls hP hS hl
      clear ej2
      refine lv_istore (lv' := [(6, .int v19), (3, .int v16), (0, .ref a0), (1, .int p0)]) hx hb dX6_flows_97 hl (by decide) rfl (fun ls hl => ?_)
      refine lv_aload_n hx hb dX6_flows_99 rfl (lv_at hl 2 rfl) ?_
      refine lv_iconst (v := (3 : Int32)) hx hb dX6_flows_100 (by decide) ?_
      refine lv_iload hx hb dX6_flows_101 (lv_at hl 0 rfl) ?_
      obtain ⟨v22, ev22, hf⟩ := xb hf
      obtain ⟨h3, eh3, hf⟩ := xb1 hf
      refine xc_Vv (rest := []) ⟨hx, hb, hml, hown, hts⟩ (m_X6_tells l B0 G h2 h3 a0 (3 : Int32) v19 eh3) (cwV 2 hts gX6_flows_X6_tells rfl rfl rfl (by decide +kernel) ⟨Nat.le_of_ble_eq_true rfl, Nat.le_of_ble_eq_true rfl⟩) hKK hP hS ev22 rfl rfl hl.1 rfl (Nat.le_of_ble_eq_true rfl) dX6_flows_103 ⟨Nat.zero_le _, Nat.zero_le _⟩ (fun H locs hP hS => ?_)
      refine lv_aload_n hx hb dX6_flows_106 rfl (lv_at hl 2 rfl) ?_
      obtain ⟨v23, ev23, hf⟩ := xb hf
      refine xr_getR hx hb hts inX6 hown hKK hP ev23 rfl (by decide) w2 (fun _ h9 => h9) dX6_flows_107 ?_
      refine lv_iload_n hx hb dX6_flows_110 rfl (lv_at hl 3 rfl) ?_
      refine lv_dup2_11 hx hb dX6_flows_111 rfl rfl ?_
      obtain ⟨v24, ev24, hf⟩ := xb hf
      refine xr_lald hx hb hKK hP ev24 dX6_flows_112 ?_
      refine lv_iload hx hb dX6_flows_113 (lv_at hl 0 rfl) ?_
      refine lv_i2l hx hb dX6_flows_115 rfl ?_
      refine lv_ladd hx hb dX6_flows_116 ?_
      obtain ⟨h4, eh4, hf⟩ := xb hf
      refine xr_last hx hb hKK hP hS eh4 dX6_flows_117 (fun H locs hP _ hS => ?_)
      refine lv_iload_n hx hb dX6_flows_118 rfl (lv_at hl 1 rfl) ?_
      refine lv_iload hx hb dX6_flows_119 (lv_at hl 0 rfl) ?_
      refine lv_isub hx hb dX6_flows_121 ?_
      obtain ⟨rfl, rfl⟩ := xinj2 hf
      subst hQ
      exact xe_i hx hb hr hlocks hKK hP hS dX6_flows_122
    have hf := ej2
    clear ej2
    refine lv_icmp_le (tgt := 96) hx hb dX6_flows_82 (by decide) (fun c2 => ?_) (fun c2 => ?_)
    · have hf := xif_t hf c2
      refine lv_iconst (v := (0 : Int32)) hx hb dX6_flows_96 (by decide) ?_
      obtain rfl := Option.some.inj hf
      exact J2 _ _ _ hP hS (lv_sub hl [0, 2, 3] rfl)
    · have hf := xif_f hf c2
      refine lv_iload_n hx hb dX6_flows_85 rfl (lv_at hl 0 rfl) ?_
      refine lv_aload_n hx hb dX6_flows_86 rfl (lv_at hl 2 rfl) ?_
      refine lv_iload_n hx hb dX6_flows_87 rfl (lv_at hl 3 rfl) ?_
      refine lv_iconst (v := (3 : Int32)) hx hb dX6_flows_88 (by decide) ?_
      obtain ⟨v20, ev20, hf⟩ := xb hf
      obtain ⟨v21, ev21, hf⟩ := xb1 hf
      refine xc_Vi (rest := [.int v16]) ⟨hx, hb, hml, hown, hts⟩ (m_X6_ofRoof l B0 G h2 a0 p0 (3 : Int32) v21 ev21) (cwV 2 hts gX6_flows_X6_ofRoof rfl rfl rfl (by decide +kernel) ⟨Nat.le_of_ble_eq_true rfl, Nat.le_of_ble_eq_true rfl⟩) hKK hP hS ev20 rfl rfl hl.1 rfl (Nat.le_of_ble_eq_true rfl) dX6_flows_89 ⟨Nat.zero_le _, Nat.zero_le _⟩ (fun H locs hP hS => ?_)
      refine lv_isub hx hb dX6_flows_92 ?_
      refine lv_goto (tgt := 97) hx hb dX6_flows_93 (by decide) ?_
      obtain rfl := Option.some.inj hf
      exact J2 _ _ _ hP hS (lv_sub hl [0, 2, 3] rfl)
  have hf := ej1
  clear ej1
  refine lv_icmp_ge (tgt := 44) hx hb dX6_flows_37 (by decide) (fun c1 => ?_) (fun c1 => ?_)
  · have hf := xif_t hf c1
    refine lv_iload hx hb dX6_flows_44 (lv_at hl 0 rfl) ?_
    obtain rfl := Option.some.inj hf
    exact J1 _ _ _ hP hS (lv_sub hl [1, 2, 3] rfl)
  · have hf := xif_f hf c1
    refine lv_iload_n hx hb dX6_flows_40 rfl (lv_at hl 1 rfl) ?_
    refine lv_goto (tgt := 46) hx hb dX6_flows_41 (by decide) ?_
    obtain rfl := Option.some.inj hf
    exact J1 _ _ _ hP hS (lv_sub hl [1, 2, 3] rfl)
/-- RainReservoirModel.demands -/
def f_X6_demands (fu : Nat) (h : XH) (a0 : Nat) : Option (Int32) :=
  obind1 (xloop (xf2 fun (v1 : Int32) (v2 : Int32) =>
    (xgR h a0 6 0).bind fun v4 =>
    (xald h v4 0 (7 : Int32)).bind fun v5 =>
    if v5 ≤ v2 then
      some (.inr v1)
    else
      (xis h a0 6).bind fun v6 =>
      obind1 (f_X6_ofUser h a0 v2 (0 : Int32)) fun v7 =>
      olet ((v1 + v7)) fun v8 =>
      olet (v2 + (1 : Int32)) fun v9 =>
      some (.inl (v8, v9))
  ) fu ((0 : Int32), (0 : Int32))) fun v3 =>
  some (v3)
abbrev rmX6_demands : Room := { frames := 2, cells := 0, slots := 0, locals := 43 }
set_option maxHeartbeats 4000000 in
set_option maxRecDepth 100000 in
theorem m_X6_demands (l : Launch) (B0 : Nat) (G : XG) (fu : Nat) (h : XH) (a0 : Nat) (rE : Int32) (hf : f_X6_demands fu h a0 = some rE) : Met l yX6_demands wsX6_demands rmX6_demands (va_Pc [.ref a0] (xU B0 G h)) (xQi B0 G h rE) 0 0 (xA B0) := by
  refine xMet (cc := cX6_demands) (maxL := 3) (by decide) rfl (Nat.le_of_ble_eq_true rfl) ?_
  intro p e s m args below meth c ls hx hb hr hml hown hlocks hnm hts hKK hP hl
  have hown : s.vm.findClass RX6 = some m.cls := hown
  have hl : lv_has ls 3 [(0, .ref a0)] := hl
  have hS : va_S (xA B0) s.heap s.heap [] := va_S.rf
  have inX6 : ∀ w ∈ wsX60, w ∈ wsX6_demands := by decide +kernel
  have w1 := hts (.fieldLink RX6 7 "RainReservoirModel" "all" "[I") (by decide +kernel)
  generalize hQ : MQ below (xQi B0 G h rE) args s 0 0 (xA B0) = Q
  unfold f_X6_demands at hf
  refine lv_iconst (v := (0 : Int32)) hx hb dX6_demands_0 (by decide) ?_
  refine lv_istore_n (lv' := [(1, .int (0 : Int32)), (0, .ref a0)]) hx hb dX6_demands_1 rfl hl (by decide) rfl (fun ls hl => ?_)
  refine lv_iconst (v := (0 : Int32)) hx hb dX6_demands_2 (by decide) ?_
  refine lv_istore_n (lv' := [(2, .int (0 : Int32)), (1, .int (0 : Int32)), (0, .ref a0)]) hx hb dX6_demands_3 rfl hl (by decide) rfl (fun ls hl => ?_)
  obtain ⟨v3, eL, hf⟩ := xb1 hf
  have J1 : ∀ (H : Heap) (locs : List Loc) (ls : Array Slot), xP B0 G h H → va_S (xA B0) s.heap H locs → lv_has ls 3 [(1, .int v3)] → W p l e rmX6_demands s m args below meth c H locs 0 0 Q (F0 m 30 ls []) := by
    intro H locs ls hP hS hl
    clear eL
    refine lv_iload_n hx hb dX6_demands_30 rfl (lv_at hl 0 rfl) ?_
    obtain rfl := Option.some.inj hf
    subst hQ
    exact xe_i hx hb hr hlocks hKK hP hS dX6_demands_31
  clear hf
  refine xloop_ind (P := fun z => ∀ (H : Heap) (locs : List Loc) (ls : Array Slot), xP B0 G h H → va_S (xA B0) s.heap H locs → lv_has ls 3 [(1, .int z.1), (2, .int z.2), (0, .ref a0)] → W p l e rmX6_demands s m args below meth c H locs 0 0 Q (F0 m 4 ls [])) ?_ eL _ _ _ hP hS (lv_sub hl [1, 0, 2] rfl)
  rintro ⟨v1, v2⟩ o hf IH EX H locs ls hP hS hl
  have hf := xf2_e hf
  have hl : lv_has ls 3 [(1, .int v1), (2, .int v2), (0, .ref a0)] := hl
  refine lv_iload_n hx hb dX6_demands_4 rfl (lv_at hl 1 rfl) ?_
  refine lv_aload_n hx hb dX6_demands_5 rfl (lv_at hl 2 rfl) ?_
  obtain ⟨v4, ev4, hf⟩ := xb hf
  refine xr_getR hx hb hts inX6 hown hKK hP ev4 rfl (by decide) w1 (fun _ h9 => h9) dX6_demands_6 ?_
  refine lv_bipush (v := (7 : Int32)) hx hb dX6_demands_9 (by decide) ?_
  obtain ⟨v5, ev5, hf⟩ := xb hf
  refine xr_iald hx hb hKK hP ev5 dX6_demands_11 ?_
  refine lv_icmp_ge (tgt := 30) hx hb dX6_demands_12 (by decide) (fun c1 => ?_) (fun c1 => ?_)
  · have hf := xif_t hf c1
    have hf := EX _ (Option.some.inj hf).symm
    obtain rfl := hf
    exact J1 _ _ _ hP hS (lv_sub hl [0] rfl)
  · have hf := xif_f hf c1
    refine lv_iload_n hx hb dX6_demands_15 rfl (lv_at hl 0 rfl) ?_
    refine lv_aload_n hx hb dX6_demands_16 rfl (lv_at hl 2 rfl) ?_
    refine lv_iload_n hx hb dX6_demands_17 rfl (lv_at hl 1 rfl) ?_
    refine lv_iconst (v := (0 : Int32)) hx hb dX6_demands_18 (by decide) ?_
    obtain ⟨v6, ev6, hf⟩ := xb hf
    obtain ⟨v7, ev7, hf⟩ := xb1 hf
    refine xc_Vi (rest := [.int v1]) ⟨hx, hb, hml, hown, hts⟩ (m_X6_ofUser l B0 G h a0 v2 (0 : Int32) v7 ev7) (cwV 2 hts gX6_demands_X6_ofUser rfl rfl rfl (by decide +kernel) ⟨Nat.le_of_ble_eq_true rfl, Nat.le_of_ble_eq_true rfl⟩) hKK hP hS ev6 rfl rfl hl.1 rfl (Nat.le_of_ble_eq_true rfl) dX6_demands_19 ⟨Nat.zero_le _, Nat.zero_le _⟩ (fun H locs hP hS => ?_)
    refine lv_iadd hx hb dX6_demands_22 ?_
    obtain ⟨v8, ev8, hf⟩ := xl hf
    refine xtopi ev8 ?_
    refine lv_istore_n (lv' := [(1, .int v8), (2, .int v2), (0, .ref a0)]) hx hb dX6_demands_23 rfl hl (by decide) rfl (fun ls hl => ?_)
    obtain ⟨v9, ev9, hf⟩ := xl hf
    refine lv_iinc (v := v9) (lv' := [(2, .int v9), (1, .int v8), (0, .ref a0)]) hx hb dX6_demands_24 hl (k := 1) rfl (by rw [ev9]; rfl) (by decide) rfl (fun ls hl => ?_)
    refine lv_goto (tgt := 4) hx hb dX6_demands_27 (by decide) ?_
    exact IH _ (Option.some.inj hf).symm _ _ _ hP hS (lv_sub hl [1, 0, 2] rfl)
/-- RainReservoirModel.gives -/
def f_X6_gives (h : XH) (a0 : Nat) (p0 : Int32) (p1 : Int32) : Option (XH) :=
  (xis h a0 6).bind fun v1 =>
  obind1 (f_X6_ofUser h a0 p0 (0 : Int32)) fun v2 =>
  (xis h a0 6).bind fun v3 =>
  obind1 (f_X6_ofUser h a0 p0 (2 : Int32)) fun v4 =>
  olet ((v2 - v4)) fun v5 =>
  obind1 (
    if v5 ≤ p1 then
      some v5
    else
      some p1
  ) fun v6 =>
  (xgI h a0 6 8).bind fun v7 =>
  obind1 (
    if v7 ≤ v6 then
      (xgI h a0 6 8).bind fun v9 =>
      some v9
    else
      some v6
  ) fun v8 =>
  (xgR h a0 6 0).bind fun v10 =>
  obind1 (f_X6_userAt p0 (2 : Int32)) fun v11 =>
  (xald h v10 0 v11).bind fun v12 =>
  (xast h v10 0 v11 (v12 + v8)).bind fun h1 =>
  (xgI h1 a0 6 8).bind fun v13 =>
  (xpV h1 a0 6 8 (.int (v13 - v8))).bind fun h2 =>
  some (h2)
abbrev rmX6_gives : Room := { frames := 2, cells := 0, slots := 0, locals := 43 }
set_option maxHeartbeats 4000000 in
set_option maxRecDepth 100000 in
theorem m_X6_gives (l : Launch) (B0 : Nat) (G : XG) (h hE : XH) (a0 : Nat) (p0 : Int32) (p1 : Int32) (hf : f_X6_gives h a0 p0 p1 = some hE) : Met l yX6_gives wsX6_gives rmX6_gives (va_Pc [.ref a0, .int p0, .int p1] (xU B0 G h)) (xQv B0 G hE) 0 0 (xA B0) := by
  refine xMet (cc := cX6_gives) (maxL := 5) (by decide) rfl (Nat.le_of_ble_eq_true rfl) ?_
  intro p e s m args below meth c ls hx hb hr hml hown hlocks hnm hts hKK hP hl
  have hown : s.vm.findClass RX6 = some m.cls := hown
  have hl : lv_has ls 5 [(0, .ref a0), (1, .int p0), (2, .int p1)] := hl
  have hS : va_S (xA B0) s.heap s.heap [] := va_S.rf
  have inX6 : ∀ w ∈ wsX60, w ∈ wsX6_gives := by decide +kernel
  have w1 := hts (.fieldLink RX6 125 "RainReservoirModel" "left" "I") (by decide +kernel)
  have w2 := hts (.fieldLink RX6 7 "RainReservoirModel" "all" "[I") (by decide +kernel)
  generalize hQ : MQ below (xQv B0 G hE) args s 0 0 (xA B0) = Q
  unfold f_X6_gives at hf
  refine lv_aload_n hx hb dX6_gives_0 rfl (lv_at hl 0 rfl) ?_
  refine lv_iload_n hx hb dX6_gives_1 rfl (lv_at hl 1 rfl) ?_
  refine lv_iconst (v := (0 : Int32)) hx hb dX6_gives_2 (by decide) ?_
  obtain ⟨v1, ev1, hf⟩ := xb hf
  obtain ⟨v2, ev2, hf⟩ := xb1 hf
  refine xc_Vi (rest := []) ⟨hx, hb, hml, hown, hts⟩ (m_X6_ofUser l B0 G h a0 p0 (0 : Int32) v2 ev2) (cwV 2 hts gX6_gives_X6_ofUser rfl rfl rfl (by decide +kernel) ⟨Nat.le_of_ble_eq_true rfl, Nat.le_of_ble_eq_true rfl⟩) hKK hP hS ev1 rfl rfl hl.1 rfl (Nat.le_of_ble_eq_true rfl) dX6_gives_3 ⟨Nat.zero_le _, Nat.zero_le _⟩ (fun H locs hP hS => ?_)
  refine lv_aload_n hx hb dX6_gives_6 rfl (lv_at hl 0 rfl) ?_
  refine lv_iload_n hx hb dX6_gives_7 rfl (lv_at hl 1 rfl) ?_
  refine lv_iconst (v := (2 : Int32)) hx hb dX6_gives_8 (by decide) ?_
  obtain ⟨v3, ev3, hf⟩ := xb hf
  obtain ⟨v4, ev4, hf⟩ := xb1 hf
  refine xc_Vi (rest := [.int v2]) ⟨hx, hb, hml, hown, hts⟩ (m_X6_ofUser l B0 G h a0 p0 (2 : Int32) v4 ev4) (cwV 2 hts gX6_gives_X6_ofUser rfl rfl rfl (by decide +kernel) ⟨Nat.le_of_ble_eq_true rfl, Nat.le_of_ble_eq_true rfl⟩) hKK hP hS ev3 rfl rfl hl.1 rfl (Nat.le_of_ble_eq_true rfl) dX6_gives_9 ⟨Nat.zero_le _, Nat.zero_le _⟩ (fun H locs hP hS => ?_)
  refine lv_isub hx hb dX6_gives_12 ?_
  obtain ⟨v5, ev5, hf⟩ := xl hf
  refine xtopi ev5 ?_
  refine lv_istore_n (lv' := [(3, .int v5), (0, .ref a0), (1, .int p0), (2, .int p1)]) hx hb dX6_gives_13 rfl hl (by decide) rfl (fun ls hl => ?_)
  refine lv_iload_n hx hb dX6_gives_14 rfl (lv_at hl 3 rfl) ?_
  refine lv_iload_n hx hb dX6_gives_15 rfl (lv_at hl 0 rfl) ?_
  obtain ⟨v6, ej1, hf⟩ := xb1 hf
  have J1 : ∀ (H : Heap) (locs : List Loc) (ls : Array Slot), xP B0 G h H → va_S (xA B0) s.heap H locs → lv_has ls 5 [(0, .ref a0), (1, .int p0)] → W p l e rmX6_gives s m args below meth c H locs 0 0 Q (F0 m 24 ls [.int v6]) := by
    intro H locs ls hP hS hl
    clear ej1
    refine lv_istore (lv' := [(4, .int v6), (0, .ref a0), (1, .int p0)]) hx hb dX6_gives_24 hl (by decide) rfl (fun ls hl => ?_)
    refine lv_iload hx hb dX6_gives_26 (lv_at hl 0 rfl) ?_
    refine lv_aload_n hx hb dX6_gives_28 rfl (lv_at hl 1 rfl) ?_
    obtain ⟨v7, ev7, hf⟩ := xb hf
    refine xr_getI hx hb hts inX6 hown hKK hP ev7 rfl (by decide) w1 (fun _ h9 => h9) dX6_gives_29 ?_
    obtain ⟨v8, ej2, hf⟩ := xb1 hf
    have J2 : ∀ (H : Heap) (locs : List Loc) (ls : Array Slot), xP B0 G h H → va_S (xA B0) s.heap H locs → lv_has ls 5 [(0, .ref a0), (1, .int p0)] → W p l e rmX6_gives s m args below meth c H locs 0 0 Q (F0 m 44 ls [.int v8]) := by
      intro H locs ls hP hS hl
      clear ej2
      refine lv_istore (lv' := [(4, .int v8), (0, .ref a0), (1, .int p0)]) hx hb dX6_gives_44 hl (by decide) rfl (fun ls hl => ?_)
      refine lv_aload_n hx hb dX6_gives_46 rfl (lv_at hl 1 rfl) ?_
      obtain ⟨v10, ev10, hf⟩ := xb hf
      refine xr_getR hx hb hts inX6 hown hKK hP ev10 rfl (by decide) w2 (fun _ h9 => h9) dX6_gives_47 ?_
      refine lv_iload_n hx hb dX6_gives_50 rfl (lv_at hl 2 rfl) ?_
      refine lv_iconst (v := (2 : Int32)) hx hb dX6_gives_51 (by decide) ?_
      obtain ⟨v11, ev11, hf⟩ := xb1 hf
      refine xc_Si (rest := [.ref v10]) ⟨hx, hb, hml, hown, hts⟩ (m_X6_userAt l B0 G h p0 (2 : Int32) v11 ev11) (va_cwS 2 hts gX6_gives_X6_userAt rfl rfl rfl (by decide +kernel) ⟨Nat.le_of_ble_eq_true rfl, Nat.le_of_ble_eq_true rfl⟩) hKK hP hS rfl hl.1 rfl (Nat.le_of_ble_eq_true rfl) dX6_gives_52 ⟨Nat.zero_le _, Nat.zero_le _⟩ (fun H locs hP hS => ?_)
      refine lv_dup2_11 hx hb dX6_gives_55 rfl rfl ?_
      obtain ⟨v12, ev12, hf⟩ := xb hf
      refine xr_iald hx hb hKK hP ev12 dX6_gives_56 ?_
      refine lv_iload hx hb dX6_gives_57 (lv_at hl 0 rfl) ?_
      refine lv_iadd hx hb dX6_gives_59 ?_
      obtain ⟨h1, eh1, hf⟩ := xb hf
      refine xr_iast hx hb hKK hP hS eh1 dX6_gives_60 (fun H locs hP _ hS => ?_)
      refine lv_aload_n hx hb dX6_gives_61 rfl (lv_at hl 1 rfl) ?_
      refine lv_dup hx hb dX6_gives_62 rfl ?_
      obtain ⟨v13, ev13, hf⟩ := xb hf
      refine xr_getI hx hb hts inX6 hown hKK hP ev13 rfl (by decide) w1 (fun _ h9 => h9) dX6_gives_63 ?_
      refine lv_iload hx hb dX6_gives_66 (lv_at hl 0 rfl) ?_
      refine lv_isub hx hb dX6_gives_68 ?_
      obtain ⟨h2, eh2, hf⟩ := xb hf
      refine xr_put hx hb hts inX6 tyX6 tyX6_ok nmX6 hown hKK hP hS eh2 rfl (by decide) w1 (fun _ h9 => h9) rfl (tyX6_ok 8 (by decide)) rfl rfl dX6_gives_69 (fun H locs hP _ hS => ?_)
      obtain rfl := Option.some.inj hf
      subst hQ
      exact xe_v hx hb hr hlocks hKK hP hS dX6_gives_72
    have hf := ej2
    clear ej2
    refine lv_icmp_ge (tgt := 40) hx hb dX6_gives_32 (by decide) (fun c2 => ?_) (fun c2 => ?_)
    · have hf := xif_t hf c2
      refine lv_aload_n hx hb dX6_gives_40 rfl (lv_at hl 1 rfl) ?_
      obtain ⟨v9, ev9, hf⟩ := xb hf
      refine xr_getI hx hb hts inX6 hown hKK hP ev9 rfl (by decide) w1 (fun _ h9 => h9) dX6_gives_41 ?_
      obtain rfl := Option.some.inj hf
      exact J2 _ _ _ hP hS (lv_sub hl [1, 2] rfl)
    · have hf := xif_f hf c2
      refine lv_iload hx hb dX6_gives_35 (lv_at hl 0 rfl) ?_
      refine lv_goto (tgt := 44) hx hb dX6_gives_37 (by decide) ?_
      obtain rfl := Option.some.inj hf
      exact J2 _ _ _ hP hS (lv_sub hl [1, 2] rfl)
  have hf := ej1
  clear ej1
  refine lv_icmp_ge (tgt := 23) hx hb dX6_gives_16 (by decide) (fun c1 => ?_) (fun c1 => ?_)
  · have hf := xif_t hf c1
    refine lv_iload_n hx hb dX6_gives_23 rfl (lv_at hl 0 rfl) ?_
    obtain rfl := Option.some.inj hf
    exact J1 _ _ _ hP hS (lv_sub hl [1, 2] rfl)
  · have hf := xif_f hf c1
    refine lv_iload_n hx hb dX6_gives_19 rfl (lv_at hl 3 rfl) ?_
    refine lv_goto (tgt := 24) hx hb dX6_gives_20 (by decide) ?_
    obtain rfl := Option.some.inj hf
    exact J1 _ _ _ hP hS (lv_sub hl [1, 2] rfl)
