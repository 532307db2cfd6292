/-- RainReservoir$RainText.readNumber -/
def f_X0_readNumber (fu : Nat) (h : XH) (a0 : Nat) (p0 : Int32) (p1 : Int32) (p2 : Int32) : Option (Int32 × XH) :=
  (xgI h a0 0 4).bind fun v1 =>
  (xpV h a0 0 5 (.int (0 : Int32))).bind fun h1 =>
  oret1 (xloop (xf1 fun  (h2 : XH) =>
    (xgI h2 a0 0 4).bind fun v2 =>
    (xgI h2 a0 0 1).bind fun v3 =>
    if v3 ≤ v2 then
      some (.inr (.inl h2))
    else
      (xgR h2 a0 0 0).bind fun v4 =>
      (xgI h2 a0 0 4).bind fun v5 =>
      (xald h2 v4 1 v5).bind fun v6 =>
      if v6 < (48 : Int32) then
        some (.inr (.inl h2))
      else
        (xgR h2 a0 0 0).bind fun v7 =>
        (xgI h2 a0 0 4).bind fun v8 =>
        (xald h2 v7 1 v8).bind fun v9 =>
        if (57 : Int32) < v9 then
          some (.inr (.inl h2))
        else
          (xgI h2 a0 0 4).bind fun v10 =>
          if (v10 - v1) < p0 then
            (xgI h2 a0 0 5).bind fun v11 =>
            (xgR h2 a0 0 0).bind fun v12 =>
            (xgI h2 a0 0 4).bind fun v13 =>
            (xald h2 v12 1 v13).bind fun v14 =>
            (xpV h2 a0 0 5 (.int (((v11 * (10 : Int32)) + v14) - (48 : Int32)))).bind fun h4 =>
            (xgI h4 a0 0 4).bind fun v15 =>
            (xpV h4 a0 0 4 (.int (v15 + (1 : Int32)))).bind fun h5 =>
            some (.inl h5)
          else
            (xgI h2 a0 0 4).bind fun v16 =>
            some (.inr (.inr (v16, h2)))
  ) fu h1) fun h3 =>
  (xgI h3 a0 0 4).bind fun v17 =>
  oletk (
    some ((v1, h3))
  ) fun k2 =>
  if v17 = v1 then
    k2
  else
    (xgI h3 a0 0 5).bind fun v18 =>
    if v18 < p1 then
      k2
    else
      (xgI h3 a0 0 5).bind fun v19 =>
      if v19 ≤ p2 then
        some (((-1 : Int32), h3))
      else
        k2
abbrev rmX0_readNumber : Room := { frames := 0, cells := 0, slots := 0, locals := 0 }
set_option maxHeartbeats 4000000 in
set_option maxRecDepth 100000 in
theorem m_X0_readNumber (l : Launch) (B0 : Nat) (G : XG) (fu : Nat) (h hE : XH) (a0 : Nat) (p0 : Int32) (p1 : Int32) (p2 : Int32) (rE : Int32) (hf : f_X0_readNumber fu h a0 p0 p1 p2 = some (rE, hE)) : Met l yX0_readNumber wsX0_readNumber rmX0_readNumber (va_Pc [.ref a0, .int p0, .int p1, .int p2] (xU B0 G h)) (xQi B0 G hE rE) 0 0 (xA B0) := by
  refine xMet (cc := cX0_readNumber) (maxL := 5) (by decide) rfl (Nat.le_of_ble_eq_true rfl) ?_
  intro p e s m args below meth c ls hx hb hr hml hown hlocks hnm hts hKK hP hl
  have hown : s.vm.findClass RX0 = some m.cls := hown
  have hl : lv_has ls 5 [(0, .ref a0), (1, .int p0), (2, .int p1), (3, .int p2)] := hl
  have hS : va_S (xA B0) s.heap s.heap [] := va_S.rf
  have inX0 : ∀ w ∈ wsX00, w ∈ wsX0_readNumber := by decide +kernel
  have w1 := hts (.fieldLink RX0 19 "RainReservoir$RainText" "at" "I") (by decide +kernel)
  have w2 := hts (.fieldLink RX0 37 "RainReservoir$RainText" "number" "I") (by decide +kernel)
  have w3 := hts (.fieldLink RX0 26 "RainReservoir$RainText" "length" "I") (by decide +kernel)
  have w4 := hts (.fieldLink RX0 9 "RainReservoir$RainText" "bytes" "[B") (by decide +kernel)
  generalize hQ : MQ below (xQi B0 G hE rE) args s 0 0 (xA B0) = Q
  unfold f_X0_readNumber at hf
  refine lv_aload_n hx hb dX0_readNumber_0 rfl (lv_at hl 0 rfl) ?_
  obtain ⟨v1, ev1, hf⟩ := xb hf
  refine xr_getI hx hb hts inX0 hown hKK hP ev1 rfl (by decide) w1 (fun _ h9 => h9) dX0_readNumber_1 ?_
  refine lv_istore (lv' := [(4, .int v1), (0, .ref a0), (1, .int p0), (2, .int p1), (3, .int p2)]) hx hb dX0_readNumber_4 hl (by decide) rfl (fun ls hl => ?_)
  refine lv_aload_n hx hb dX0_readNumber_6 rfl (lv_at hl 1 rfl) ?_
  refine lv_iconst (v := (0 : Int32)) hx hb dX0_readNumber_7 (by decide) ?_
  obtain ⟨h1, eh1, hf⟩ := xb hf
  refine xr_put hx hb hts inX0 tyX0 tyX0_ok nmX0 hown hKK hP hS eh1 rfl (by decide) w2 (fun _ h9 => h9) rfl (tyX0_ok 5 (by decide)) rfl rfl dX0_readNumber_8 (fun H locs hP _ hS => ?_)
  obtain ⟨out, eL, hEL, hER⟩ := xr1 hf
  have J1 : ∀ (h3 : XH), out = .inl h3 → ∀ (H : Heap) (locs : List Loc) (ls : Array Slot), xP B0 G h3 H → va_S (xA B0) s.heap H locs → lv_has ls 5 [(4, .int v1), (0, .ref a0), (2, .int p1), (3, .int p2)] → W p l e rmX0_readNumber s m args below meth c H locs 0 0 Q (F0 m 103 ls []) := by
    intro h3 hf H locs ls hP hS hl
    have hf := hEL _ hf
    refine lv_aload_n hx hb dX0_readNumber_103 rfl (lv_at hl 1 rfl) ?_
    obtain ⟨v17, ev17, hf⟩ := xb hf
    refine xr_getI hx hb hts inX0 hown hKK hP ev17 rfl (by decide) w1 (fun _ h9 => h9) dX0_readNumber_104 ?_
    refine lv_iload hx hb dX0_readNumber_107 (lv_at hl 0 rfl) ?_
    obtain ⟨k2, ek2, hf⟩ := xlk hf
    have J2 : k2 = some (rE, hE) → ∀ (H : Heap) (locs : List Loc) (ls : Array Slot), xP B0 G h3 H → va_S (xA B0) s.heap H locs → lv_has ls 5 [(4, .int v1)] → W p l e rmX0_readNumber s m args below meth c H locs 0 0 Q (F0 m 128 ls []) := by
      intro  hf H locs ls hP hS hl
      have hf := xk0 ek2 hf
      clear ek2
      refine lv_iload hx hb dX0_readNumber_128 (lv_at hl 0 rfl) ?_
      obtain ⟨rfl, rfl⟩ := xinj2 hf
      subst hQ
      exact xe_i hx hb hr hlocks hKK hP hS dX0_readNumber_130
    clear ek2
    refine lv_icmp_eq (tgt := 128) hx hb dX0_readNumber_109 (by decide) (fun c5 => ?_) (fun c5 => ?_)
    · have hf := xif_t hf c5
      exact J2  hf _ _ _ hP hS (lv_sub hl [0] rfl)
    · have hf := xif_f hf c5
      refine lv_aload_n hx hb dX0_readNumber_112 rfl (lv_at hl 1 rfl) ?_
      obtain ⟨v18, ev18, hf⟩ := xb hf
      refine xr_getI hx hb hts inX0 hown hKK hP ev18 rfl (by decide) w2 (fun _ h9 => h9) dX0_readNumber_113 ?_
      refine lv_iload_n hx hb dX0_readNumber_116 rfl (lv_at hl 2 rfl) ?_
      refine lv_icmp_lt (tgt := 128) hx hb dX0_readNumber_117 (by decide) (fun c6 => ?_) (fun c6 => ?_)
      · have hf := xif_t hf c6
        exact J2  hf _ _ _ hP hS (lv_sub hl [0] rfl)
      · have hf := xif_f hf c6
        refine lv_aload_n hx hb dX0_readNumber_120 rfl (lv_at hl 1 rfl) ?_
        obtain ⟨v19, ev19, hf⟩ := xb hf
        refine xr_getI hx hb hts inX0 hown hKK hP ev19 rfl (by decide) w2 (fun _ h9 => h9) dX0_readNumber_121 ?_
        refine lv_iload_n hx hb dX0_readNumber_124 rfl (lv_at hl 3 rfl) ?_
        refine lv_icmp_le (tgt := 131) hx hb dX0_readNumber_125 (by decide) (fun c7 => ?_) (fun c7 => ?_)
        · have hf := xif_t hf c7
          refine lv_iconst (v := (-1 : Int32)) hx hb dX0_readNumber_131 (by decide) ?_
          obtain ⟨rfl, rfl⟩ := xinj2 hf
          subst hQ
          exact xe_i hx hb hr hlocks hKK hP hS dX0_readNumber_132
        · have hf := xif_f hf c7
          exact J2  hf _ _ _ hP hS (lv_sub hl [0] rfl)
  refine xloop_ind (P := fun z => ∀ (H : Heap) (locs : List Loc) (ls : Array Slot), xP B0 G z H → va_S (xA B0) s.heap H locs → lv_has ls 5 [(4, .int v1), (0, .ref a0), (1, .int p0), (2, .int p1), (3, .int p2)] → W p l e rmX0_readNumber s m args below meth c H locs 0 0 Q (F0 m 11 ls [])) ?_ eL _ _ _ hP hS (lv_sub hl [0, 1, 2, 3, 4] rfl)
  rintro h2 o hf IH EX H locs ls hP hS hl
  have EXL := fun r1 (e1 : o = .inr (.inl r1)) => (EX _ e1).symm
  have EXR := fun r1 (e1 : o = .inr (.inr r1)) => hER r1 (EX _ e1).symm
  have hf := xf1_e hf
  have hP : xP B0 G h2 H := hP
  have hl : lv_has ls 5 [(4, .int v1), (0, .ref a0), (1, .int p0), (2, .int p1), (3, .int p2)] := hl
  refine lv_aload_n hx hb dX0_readNumber_11 rfl (lv_at hl 1 rfl) ?_
  obtain ⟨v2, ev2, hf⟩ := xb hf
  refine xr_getI hx hb hts inX0 hown hKK hP ev2 rfl (by decide) w1 (fun _ h9 => h9) dX0_readNumber_12 ?_
  refine lv_aload_n hx hb dX0_readNumber_15 rfl (lv_at hl 1 rfl) ?_
  obtain ⟨v3, ev3, hf⟩ := xb hf
  refine xr_getI hx hb hts inX0 hown hKK hP ev3 rfl (by decide) w3 (fun _ h9 => h9) dX0_readNumber_16 ?_
  refine lv_icmp_ge (tgt := 103) hx hb dX0_readNumber_19 (by decide) (fun c1 => ?_) (fun c1 => ?_)
  · have hf := xif_t hf c1
    have hf := EXL _ (Option.some.inj hf).symm
    exact J1 _ hf _ _ _ hP hS (lv_sub hl [0, 1, 3, 4] rfl)
  · have hf := xif_f hf c1
    refine lv_aload_n hx hb dX0_readNumber_22 rfl (lv_at hl 1 rfl) ?_
    obtain ⟨v4, ev4, hf⟩ := xb hf
    refine xr_getR hx hb hts inX0 hown hKK hP ev4 rfl (by decide) w4 (fun _ h9 => h9) dX0_readNumber_23 ?_
    refine lv_aload_n hx hb dX0_readNumber_26 rfl (lv_at hl 1 rfl) ?_
    obtain ⟨v5, ev5, hf⟩ := xb hf
    refine xr_getI hx hb hts inX0 hown hKK hP ev5 rfl (by decide) w1 (fun _ h9 => h9) dX0_readNumber_27 ?_
    obtain ⟨v6, ev6, hf⟩ := xb hf
    refine xr_bald hx hb hKK hP ev6 dX0_readNumber_30 ?_
    refine lv_bipush (v := (48 : Int32)) hx hb dX0_readNumber_31 (by decide) ?_
    refine lv_icmp_lt (tgt := 103) hx hb dX0_readNumber_33 (by decide) (fun c2 => ?_) (fun c2 => ?_)
    · have hf := xif_t hf c2
      have hf := EXL _ (Option.some.inj hf).symm
      exact J1 _ hf _ _ _ hP hS (lv_sub hl [0, 1, 3, 4] rfl)
    · have hf := xif_f hf c2
      refine lv_aload_n hx hb dX0_readNumber_36 rfl (lv_at hl 1 rfl) ?_
      obtain ⟨v7, ev7, hf⟩ := xb hf
      refine xr_getR hx hb hts inX0 hown hKK hP ev7 rfl (by decide) w4 (fun _ h9 => h9) dX0_readNumber_37 ?_
      refine lv_aload_n hx hb dX0_readNumber_40 rfl (lv_at hl 1 rfl) ?_
      obtain ⟨v8, ev8, hf⟩ := xb hf
      refine xr_getI hx hb hts inX0 hown hKK hP ev8 rfl (by decide) w1 (fun _ h9 => h9) dX0_readNumber_41 ?_
      obtain ⟨v9, ev9, hf⟩ := xb hf
      refine xr_bald hx hb hKK hP ev9 dX0_readNumber_44 ?_
      refine lv_bipush (v := (57 : Int32)) hx hb dX0_readNumber_45 (by decide) ?_
      refine lv_icmp_gt (tgt := 103) hx hb dX0_readNumber_47 (by decide) (fun c3 => ?_) (fun c3 => ?_)
      · have hf := xif_t hf c3
        have hf := EXL _ (Option.some.inj hf).symm
        exact J1 _ hf _ _ _ hP hS (lv_sub hl [0, 1, 3, 4] rfl)
      · have hf := xif_f hf c3
        refine lv_aload_n hx hb dX0_readNumber_50 rfl (lv_at hl 1 rfl) ?_
        obtain ⟨v10, ev10, hf⟩ := xb hf
        refine xr_getI hx hb hts inX0 hown hKK hP ev10 rfl (by decide) w1 (fun _ h9 => h9) dX0_readNumber_51 ?_
        refine lv_iload hx hb dX0_readNumber_54 (lv_at hl 0 rfl) ?_
        refine lv_isub hx hb dX0_readNumber_56 ?_
        refine lv_iload_n hx hb dX0_readNumber_57 rfl (lv_at hl 2 rfl) ?_
        refine lv_icmp_lt (tgt := 66) hx hb dX0_readNumber_58 (by decide) (fun c4 => ?_) (fun c4 => ?_)
        · have hf := xif_t hf c4
          refine lv_aload_n hx hb dX0_readNumber_66 rfl (lv_at hl 1 rfl) ?_
          refine lv_aload_n hx hb dX0_readNumber_67 rfl (lv_at hl 1 rfl) ?_
          obtain ⟨v11, ev11, hf⟩ := xb hf
          refine xr_getI hx hb hts inX0 hown hKK hP ev11 rfl (by decide) w2 (fun _ h9 => h9) dX0_readNumber_68 ?_
          refine lv_bipush (v := (10 : Int32)) hx hb dX0_readNumber_71 (by decide) ?_
          refine lv_imul hx hb dX0_readNumber_73 ?_
          refine lv_aload_n hx hb dX0_readNumber_74 rfl (lv_at hl 1 rfl) ?_
          obtain ⟨v12, ev12, hf⟩ := xb hf
          refine xr_getR hx hb hts inX0 hown hKK hP ev12 rfl (by decide) w4 (fun _ h9 => h9) dX0_readNumber_75 ?_
          refine lv_aload_n hx hb dX0_readNumber_78 rfl (lv_at hl 1 rfl) ?_
          obtain ⟨v13, ev13, hf⟩ := xb hf
          refine xr_getI hx hb hts inX0 hown hKK hP ev13 rfl (by decide) w1 (fun _ h9 => h9) dX0_readNumber_79 ?_
          obtain ⟨v14, ev14, hf⟩ := xb hf
          refine xr_bald hx hb hKK hP ev14 dX0_readNumber_82 ?_
          refine lv_iadd hx hb dX0_readNumber_83 ?_
          refine lv_bipush (v := (48 : Int32)) hx hb dX0_readNumber_84 (by decide) ?_
          refine lv_isub hx hb dX0_readNumber_86 ?_
          obtain ⟨h4, eh4, hf⟩ := xb hf
          refine xr_put hx hb hts inX0 tyX0 tyX0_ok nmX0 hown hKK hP hS eh4 rfl (by decide) w2 (fun _ h9 => h9) rfl (tyX0_ok 5 (by decide)) rfl rfl dX0_readNumber_87 (fun H locs hP _ hS => ?_)
          refine lv_aload_n hx hb dX0_readNumber_90 rfl (lv_at hl 1 rfl) ?_
          refine lv_dup hx hb dX0_readNumber_91 rfl ?_
          obtain ⟨v15, ev15, hf⟩ := xb hf
          refine xr_getI hx hb hts inX0 hown hKK hP ev15 rfl (by decide) w1 (fun _ h9 => h9) dX0_readNumber_92 ?_
          refine lv_iconst (v := (1 : Int32)) hx hb dX0_readNumber_95 (by decide) ?_
          refine lv_iadd hx hb dX0_readNumber_96 ?_
          obtain ⟨h5, eh5, hf⟩ := xb hf
          refine xr_put hx hb hts inX0 tyX0 tyX0_ok nmX0 hown hKK hP hS eh5 rfl (by decide) w1 (fun _ h9 => h9) rfl (tyX0_ok 4 (by decide)) rfl rfl dX0_readNumber_97 (fun H locs hP _ hS => ?_)
          refine lv_goto (tgt := 11) hx hb dX0_readNumber_100 (by decide) ?_
          exact IH _ (Option.some.inj hf).symm _ _ _ hP hS (lv_sub hl [0, 1, 2, 3, 4] rfl)
        · have hf := xif_f hf c4
          refine lv_aload_n hx hb dX0_readNumber_61 rfl (lv_at hl 1 rfl) ?_
          obtain ⟨v16, ev16, hf⟩ := xb hf
          refine xr_getI hx hb hts inX0 hown hKK hP ev16 rfl (by decide) w1 (fun _ h9 => h9) dX0_readNumber_62 ?_
          have hf := EXR _ (Option.some.inj hf).symm
          obtain ⟨rfl, rfl⟩ := xpair2 hf
          subst hQ
          exact xe_i hx hb hr hlocks hKK hP hS dX0_readNumber_65
/-- RainReservoir$RainText.isNext -/
def f_X0_isNext (h : XH) (a0 : Nat) (p0 : Int32) : Option (Int32) :=
  (xgI h a0 0 4).bind fun v1 =>
  (xgI h a0 0 1).bind fun v2 =>
  obind1 (
    oletk (
      some (0 : Int32)
    ) fun k2 =>
    if v2 ≤ v1 then
      k2
    else
      (xgR h a0 0 0).bind fun v4 =>
      (xgI h a0 0 4).bind fun v5 =>
      (xald h v4 1 v5).bind fun v6 =>
      if v6 = p0 then
        some (1 : Int32)
      else
        k2
  ) fun v3 =>
  (xbool v3).bind fun v7 =>
  some (v7)
abbrev rmX0_isNext : Room := { frames := 0, cells := 0, slots := 0, locals := 0 }
set_option maxHeartbeats 4000000 in
set_option maxRecDepth 100000 in
theorem m_X0_isNext (l : Launch) (B0 : Nat) (G : XG) (h : XH) (a0 : Nat) (p0 : Int32) (rE : Int32) (hf : f_X0_isNext h a0 p0 = some rE) : Met l yX0_isNext wsX0_isNext rmX0_isNext (va_Pc [.ref a0, .int p0] (xU B0 G h)) (xQi B0 G h rE) 0 0 (xA B0) := by
  refine xMet (cc := cX0_isNext) (maxL := 2) (by decide) rfl (Nat.le_of_ble_eq_true rfl) ?_
  intro p e s m args below meth c ls hx hb hr hml hown hlocks hnm hts hKK hP hl
  have hown : s.vm.findClass RX0 = some m.cls := hown
  have hl : lv_has ls 2 [(0, .ref a0), (1, .int p0)] := hl
  have hS : va_S (xA B0) s.heap s.heap [] := va_S.rf
  have inX0 : ∀ w ∈ wsX00, w ∈ wsX0_isNext := by decide +kernel
  have w1 := hts (.fieldLink RX0 19 "RainReservoir$RainText" "at" "I") (by decide +kernel)
  have w2 := hts (.fieldLink RX0 26 "RainReservoir$RainText" "length" "I") (by decide +kernel)
  have w3 := hts (.fieldLink RX0 9 "RainReservoir$RainText" "bytes" "[B") (by decide +kernel)
  generalize hQ : MQ below (xQi B0 G h rE) args s 0 0 (xA B0) = Q
  unfold f_X0_isNext at hf
  refine lv_aload_n hx hb dX0_isNext_0 rfl (lv_at hl 0 rfl) ?_
  obtain ⟨v1, ev1, hf⟩ := xb hf
  refine xr_getI hx hb hts inX0 hown hKK hP ev1 rfl (by decide) w1 (fun _ h9 => h9) dX0_isNext_1 ?_
  refine lv_aload_n hx hb dX0_isNext_4 rfl (lv_at hl 0 rfl) ?_
  obtain ⟨v2, ev2, hf⟩ := xb hf
  refine xr_getI hx hb hts inX0 hown hKK hP ev2 rfl (by decide) w2 (fun _ h9 => h9) dX0_isNext_5 ?_
  obtain ⟨v3, ej1, hf⟩ := xb1 hf
  have J1 : ∀ (H : Heap) (locs : List Loc) (ls : Array Slot), xP B0 G h H → va_S (xA B0) s.heap H locs → lv_has ls 2 [] → W p l e rmX0_isNext s m args below meth c H locs 0 0 Q (F0 m 29 ls [.int v3]) := by
    intro H locs ls hP hS hl
    clear ej1
    obtain ⟨v7, ev7, hf⟩ := xb hf
    obtain rfl := Option.some.inj hf
    subst hQ
    exact xe_z hx hb hr hlocks hKK hP hS ev7 dX0_isNext_29
  have hf := ej1
  clear ej1
  obtain ⟨k2, ek2, hf⟩ := xlk hf
  have J2 : k2 = some v3 → ∀ (H : Heap) (locs : List Loc) (ls : Array Slot), xP B0 G h H → va_S (xA B0) s.heap H locs → lv_has ls 2 [] → W p l e rmX0_isNext s m args below meth c H locs 0 0 Q (F0 m 28 ls []) := by
    intro  hf H locs ls hP hS hl
    have hf := xk0 ek2 hf
    clear ek2
    refine lv_iconst (v := (0 : Int32)) hx hb dX0_isNext_28 (by decide) ?_
    obtain rfl := Option.some.inj hf
    exact J1 _ _ _ hP hS (lv_sub hl [] rfl)
  clear ek2
  refine lv_icmp_ge (tgt := 28) hx hb dX0_isNext_8 (by decide) (fun c1 => ?_) (fun c1 => ?_)
  · have hf := xif_t hf c1
    exact J2  hf _ _ _ hP hS (lv_sub hl [] rfl)
  · have hf := xif_f hf c1
    refine lv_aload_n hx hb dX0_isNext_11 rfl (lv_at hl 0 rfl) ?_
    obtain ⟨v4, ev4, hf⟩ := xb hf
    refine xr_getR hx hb hts inX0 hown hKK hP ev4 rfl (by decide) w3 (fun _ h9 => h9) dX0_isNext_12 ?_
    refine lv_aload_n hx hb dX0_isNext_15 rfl (lv_at hl 0 rfl) ?_
    obtain ⟨v5, ev5, hf⟩ := xb hf
    refine xr_getI hx hb hts inX0 hown hKK hP ev5 rfl (by decide) w1 (fun _ h9 => h9) dX0_isNext_16 ?_
    obtain ⟨v6, ev6, hf⟩ := xb hf
    refine xr_bald hx hb hKK hP ev6 dX0_isNext_19 ?_
    refine lv_iload_n hx hb dX0_isNext_20 rfl (lv_at hl 1 rfl) ?_
    refine lv_icmp_ne (tgt := 28) hx hb dX0_isNext_21 (by decide) (fun c2 => ?_) (fun c2 => ?_)
    · have hf := xif_f hf c2
      exact J2  hf _ _ _ hP hS (lv_sub hl [] rfl)
    · have hf := xif_t hf c2
      refine lv_iconst (v := (1 : Int32)) hx hb dX0_isNext_24 (by decide) ?_
      refine lv_goto (tgt := 29) hx hb dX0_isNext_25 (by decide) ?_
      obtain rfl := Option.some.inj hf
      exact J1 _ _ _ hP hS (lv_sub hl [] rfl)
/-- RainReservoir$RainText.readItem -/
def f_X0_readItem (fu : Nat) (h : XH) (a0 : Nat) (p0 : Int32) : Option (Int32 × XH) :=
  (xis h a0 0).bind fun v1 =>
  obind2 (f_X0_readNumber fu h a0 (3 : Int32) (0 : Int32) (200 : Int32)) fun v2 h1 =>
  if v2 = (-1 : Int32) then
    (xgI h1 a0 0 5).bind fun v3 =>
    (xis h1 a0 0).bind fun v4 =>
    obind1 (f_X0_isNext h1 a0 (120 : Int32)) fun v5 =>
    oletk (
      fun (v6 : Int32) (h2 : XH) =>
      (xis h2 a0 0).bind fun v11 =>
      obind1 (f_X0_isNext h2 a0 (59 : Int32)) fun v12 =>
      oletk (
        (xgI h2 a0 0 4).bind fun v20 =>
        some ((v20, h2))
      ) fun k2 =>
      if v12 = (0 : Int32) then
        k2
      else
        (xgI h2 a0 0 3).bind fun v13 =>
        if (v13 + v6) ≤ p0 then
          (xgI h2 a0 0 4).bind fun v14 =>
          (xpV h2 a0 0 4 (.int (v14 + (1 : Int32)))).bind fun h5 =>
          obind1 (xloop (xf2 fun (v15 : Int32) (h6 : XH) =>
            if v6 ≤ v15 then
              some (.inr h6)
            else
              (xgR h6 a0 0 2).bind fun v16 =>
              (xgI h6 a0 0 3).bind fun v17 =>
              (xast h6 v16 0 v17 v3).bind fun h8 =>
              (xgI h8 a0 0 3).bind fun v18 =>
              (xpV h8 a0 0 3 (.int (v18 + (1 : Int32)))).bind fun h9 =>
              olet (v15 + (1 : Int32)) fun v19 =>
              some (.inl (v19, h9))
          ) fu ((0 : Int32), h5)) fun h7 =>
          some (((-1 : Int32), h7))
        else
          k2
    ) fun k1 =>
    if v5 = (0 : Int32) then
      k1 (1 : Int32) h1
    else
      (xgI h1 a0 0 4).bind fun v7 =>
      (xpV h1 a0 0 4 (.int (v7 + (1 : Int32)))).bind fun h3 =>
      (xis h3 a0 0).bind fun v8 =>
      obind2 (f_X0_readNumber fu h3 a0 (2 : Int32) (1 : Int32) (99 : Int32)) fun v9 h4 =>
      if v9 = (-1 : Int32) then
        (xgI h4 a0 0 5).bind fun v10 =>
        k1 v10 h4
      else
        some ((v9, h4))
  else
    some ((v2, h1))
abbrev rmX0_readItem : Room := { frames := 1, cells := 0, slots := 0, locals := 24 }
set_option maxHeartbeats 4000000 in
set_option maxRecDepth 100000 in
theorem m_X0_readItem (l : Launch) (B0 : Nat) (G : XG) (fu : Nat) (h hE : XH) (a0 : Nat) (p0 : Int32) (rE : Int32) (hf : f_X0_readItem fu h a0 p0 = some (rE, hE)) : Met l yX0_readItem wsX0_readItem rmX0_readItem (va_Pc [.ref a0, .int p0] (xU B0 G h)) (xQi B0 G hE rE) 0 0 (xA B0) := by
  refine xMet (cc := cX0_readItem) (maxL := 6) (by decide) rfl (Nat.le_of_ble_eq_true rfl) ?_
  intro p e s m args below meth c ls hx hb hr hml hown hlocks hnm hts hKK hP hl
  have hown : s.vm.findClass RX0 = some m.cls := hown
  have hl : lv_has ls 6 [(0, .ref a0), (1, .int p0)] := hl
  have hS : va_S (xA B0) s.heap s.heap [] := va_S.rf
  have inX0 : ∀ w ∈ wsX00, w ∈ wsX0_readItem := by decide +kernel
  have w1 := hts (.fieldLink RX0 37 "RainReservoir$RainText" "number" "I") (by decide +kernel)
  have w2 := hts (.fieldLink RX0 19 "RainReservoir$RainText" "at" "I") (by decide +kernel)
  have w3 := hts (.fieldLink RX0 23 "RainReservoir$RainText" "foundCount" "I") (by decide +kernel)
  have w4 := hts (.fieldLink RX0 15 "RainReservoir$RainText" "found" "[I") (by decide +kernel)
  generalize hQ : MQ below (xQi B0 G hE rE) args s 0 0 (xA B0) = Q
  unfold f_X0_readItem at hf
  refine lv_aload_n hx hb dX0_readItem_0 rfl (lv_at hl 0 rfl) ?_
  refine lv_iconst (v := (3 : Int32)) hx hb dX0_readItem_1 (by decide) ?_
  refine lv_iconst (v := (0 : Int32)) hx hb dX0_readItem_2 (by decide) ?_
  refine lv_sipush (v := (200 : Int32)) hx hb dX0_readItem_3 (by decide) ?_
  obtain ⟨v1, ev1, hf⟩ := xb hf
  obtain ⟨v2, h1, ev2, hf⟩ := xb2 hf
  refine xc_Vi (rest := []) ⟨hx, hb, hml, hown, hts⟩ (m_X0_readNumber l B0 G fu h h1 a0 (3 : Int32) (0 : Int32) (200 : Int32) v2 ev2) (cwV 3 hts gX0_readItem_X0_readNumber rfl rfl rfl (by decide +kernel) ⟨Nat.le_of_ble_eq_true rfl, Nat.le_of_ble_eq_true rfl⟩) hKK hP hS ev1 rfl rfl hl.1 rfl (Nat.le_of_ble_eq_true rfl) dX0_readItem_6 ⟨Nat.zero_le _, Nat.zero_le _⟩ (fun H locs hP hS => ?_)
  refine lv_istore_n (lv' := [(2, .int v2), (0, .ref a0), (1, .int p0)]) hx hb dX0_readItem_9 rfl hl (by decide) rfl (fun ls hl => ?_)
  refine lv_iload_n hx hb dX0_readItem_10 rfl (lv_at hl 0 rfl) ?_
  refine lv_iconst (v := (-1 : Int32)) hx hb dX0_readItem_11 (by decide) ?_
  refine lv_icmp_eq (tgt := 17) hx hb dX0_readItem_12 (by decide) (fun c1 => ?_) (fun c1 => ?_)
  · have hf := xif_t hf c1
    refine lv_aload_n hx hb dX0_readItem_17 rfl (lv_at hl 1 rfl) ?_
    obtain ⟨v3, ev3, hf⟩ := xb hf
    refine xr_getI hx hb hts inX0 hown hKK hP ev3 rfl (by decide) w1 (fun _ h9 => h9) dX0_readItem_18 ?_
    refine lv_istore_n (lv' := [(3, .int v3), (2, .int v2), (0, .ref a0), (1, .int p0)]) hx hb dX0_readItem_21 rfl hl (by decide) rfl (fun ls hl => ?_)
    refine lv_iconst (v := (1 : Int32)) hx hb dX0_readItem_22 (by decide) ?_
    refine lv_istore (lv' := [(4, .int (1 : Int32)), (3, .int v3), (2, .int v2), (0, .ref a0), (1, .int p0)]) hx hb dX0_readItem_23 hl (by decide) rfl (fun ls hl => ?_)
    refine lv_aload_n hx hb dX0_readItem_25 rfl (lv_at hl 3 rfl) ?_
    refine lv_bipush (v := (120 : Int32)) hx hb dX0_readItem_26 (by decide) ?_
    obtain ⟨v4, ev4, hf⟩ := xb hf
    obtain ⟨v5, ev5, hf⟩ := xb1 hf
    refine xc_Vi (rest := []) ⟨hx, hb, hml, hown, hts⟩ (m_X0_isNext l B0 G h1 a0 (120 : Int32) v5 ev5) (cwV 1 hts gX0_readItem_X0_isNext rfl rfl rfl (by decide +kernel) ⟨Nat.le_of_ble_eq_true rfl, Nat.le_of_ble_eq_true rfl⟩) hKK hP hS ev4 rfl rfl hl.1 rfl (Nat.le_of_ble_eq_true rfl) dX0_readItem_28 ⟨Nat.zero_le _, Nat.zero_le _⟩ (fun H locs hP hS => ?_)
    obtain ⟨k1, ek1, hf⟩ := xlk hf
    have J1 : ∀ (v6 : Int32) (h2 : XH), k1 v6 h2 = some (rE, hE) → ∀ (H : Heap) (locs : List Loc) (ls : Array Slot), xP B0 G h2 H → va_S (xA B0) s.heap H locs → lv_has ls 6 [(4, .int v6), (3, .int v3), (0, .ref a0), (1, .int p0)] → W p l e rmX0_readItem s m args below meth c H locs 0 0 Q (F0 m 66 ls []) := by
      intro v6 h2 hf H locs ls hP hS hl
      have hf := xk2 ek1 hf
      clear ek1
      refine lv_aload_n hx hb dX0_readItem_66 rfl (lv_at hl 2 rfl) ?_
      refine lv_bipush (v := (59 : Int32)) hx hb dX0_readItem_67 (by decide) ?_
      obtain ⟨v11, ev11, hf⟩ := xb hf
      obtain ⟨v12, ev12, hf⟩ := xb1 hf
      refine xc_Vi (rest := []) ⟨hx, hb, hml, hown, hts⟩ (m_X0_isNext l B0 G h2 a0 (59 : Int32) v12 ev12) (cwV 1 hts gX0_readItem_X0_isNext rfl rfl rfl (by decide +kernel) ⟨Nat.le_of_ble_eq_true rfl, Nat.le_of_ble_eq_true rfl⟩) hKK hP hS ev11 rfl rfl hl.1 rfl (Nat.le_of_ble_eq_true rfl) dX0_readItem_69 ⟨Nat.zero_le _, Nat.zero_le _⟩ (fun H locs hP hS => ?_)
      obtain ⟨k2, ek2, hf⟩ := xlk hf
      have J2 : k2 = some (rE, hE) → ∀ (H : Heap) (locs : List Loc) (ls : Array Slot), xP B0 G h2 H → va_S (xA B0) s.heap H locs → lv_has ls 6 [(0, .ref a0)] → W p l e rmX0_readItem s m args below meth c H locs 0 0 Q (F0 m 86 ls []) := by
        intro  hf H locs ls hP hS hl
        have hf := xk0 ek2 hf
        clear ek2
        refine lv_aload_n hx hb dX0_readItem_86 rfl (lv_at hl 0 rfl) ?_
        obtain ⟨v20, ev20, hf⟩ := xb hf
        refine xr_getI hx hb hts inX0 hown hKK hP ev20 rfl (by decide) w2 (fun _ h9 => h9) dX0_readItem_87 ?_
        obtain ⟨rfl, rfl⟩ := xinj2 hf
        subst hQ
        exact xe_i hx hb hr hlocks hKK hP hS dX0_readItem_90
      clear ek2
      refine lv_if_eq (tgt := 86) hx hb dX0_readItem_72 (by decide) (fun c4 => ?_) (fun c4 => ?_)
      · have hf := xif_t hf c4
        exact J2  hf _ _ _ hP hS (lv_sub hl [2] rfl)
      · have hf := xif_f hf c4
        refine lv_aload_n hx hb dX0_readItem_75 rfl (lv_at hl 2 rfl) ?_
        obtain ⟨v13, ev13, hf⟩ := xb hf
        refine xr_getI hx hb hts inX0 hown hKK hP ev13 rfl (by decide) w3 (fun _ h9 => h9) dX0_readItem_76 ?_
        refine lv_iload hx hb dX0_readItem_79 (lv_at hl 0 rfl) ?_
        refine lv_iadd hx hb dX0_readItem_81 ?_
        refine lv_iload_n hx hb dX0_readItem_82 rfl (lv_at hl 3 rfl) ?_
        refine lv_icmp_le (tgt := 91) hx hb dX0_readItem_83 (by decide) (fun c5 => ?_) (fun c5 => ?_)
        · have hf := xif_t hf c5
          refine lv_aload_n hx hb dX0_readItem_91 rfl (lv_at hl 2 rfl) ?_
          refine lv_dup hx hb dX0_readItem_92 rfl ?_
          obtain ⟨v14, ev14, hf⟩ := xb hf
          refine xr_getI hx hb hts inX0 hown hKK hP ev14 rfl (by decide) w2 (fun _ h9 => h9) dX0_readItem_93 ?_
          refine lv_iconst (v := (1 : Int32)) hx hb dX0_readItem_96 (by decide) ?_
          refine lv_iadd hx hb dX0_readItem_97 ?_
          obtain ⟨h5, eh5, hf⟩ := xb hf
          refine xr_put hx hb hts inX0 tyX0 tyX0_ok nmX0 hown hKK hP hS eh5 rfl (by decide) w2 (fun _ h9 => h9) rfl (tyX0_ok 4 (by decide)) rfl rfl dX0_readItem_98 (fun H locs hP _ hS => ?_)
          refine lv_iconst (v := (0 : Int32)) hx hb dX0_readItem_101 (by decide) ?_
          refine lv_istore (lv' := [(5, .int (0 : Int32)), (4, .int v6), (3, .int v3), (0, .ref a0), (1, .int p0)]) hx hb dX0_readItem_102 hl (by decide) rfl (fun ls hl => ?_)
          obtain ⟨h7, eL, hf⟩ := xb1 hf
          have J3 : ∀ (H : Heap) (locs : List Loc) (ls : Array Slot), xP B0 G h7 H → va_S (xA B0) s.heap H locs → lv_has ls 6 [] → W p l e rmX0_readItem s m args below meth c H locs 0 0 Q (F0 m 137 ls []) := by
            intro H locs ls hP hS hl
            clear eL
            refine lv_iconst (v := (-1 : Int32)) hx hb dX0_readItem_137 (by decide) ?_
            obtain ⟨rfl, rfl⟩ := xinj2 hf
            subst hQ
            exact xe_i hx hb hr hlocks hKK hP hS dX0_readItem_138
          clear hf
          refine xloop_ind (P := fun z => ∀ (H : Heap) (locs : List Loc) (ls : Array Slot), xP B0 G z.2 H → va_S (xA B0) s.heap H locs → lv_has ls 6 [(5, .int z.1), (4, .int v6), (3, .int v3), (0, .ref a0)] → W p l e rmX0_readItem s m args below meth c H locs 0 0 Q (F0 m 104 ls [])) ?_ eL _ _ _ hP hS (lv_sub hl [0, 1, 2, 3] rfl)
          rintro ⟨v15, h6⟩ o hf IH EX H locs ls hP hS hl
          have hf := xf2_e hf
          have hP : xP B0 G h6 H := hP
          have hl : lv_has ls 6 [(5, .int v15), (4, .int v6), (3, .int v3), (0, .ref a0)] := hl
          refine lv_iload hx hb dX0_readItem_104 (lv_at hl 0 rfl) ?_
          refine lv_iload hx hb dX0_readItem_106 (lv_at hl 1 rfl) ?_
          refine lv_icmp_ge (tgt := 137) hx hb dX0_readItem_108 (by decide) (fun c6 => ?_) (fun c6 => ?_)
          · have hf := xif_t hf c6
            have hf := EX _ (Option.some.inj hf).symm
            obtain rfl := hf
            exact J3 _ _ _ hP hS (lv_sub hl [] rfl)
          · have hf := xif_f hf c6
            refine lv_aload_n hx hb dX0_readItem_111 rfl (lv_at hl 3 rfl) ?_
            obtain ⟨v16, ev16, hf⟩ := xb hf
            refine xr_getR hx hb hts inX0 hown hKK hP ev16 rfl (by decide) w4 (fun _ h9 => h9) dX0_readItem_112 ?_
            refine lv_aload_n hx hb dX0_readItem_115 rfl (lv_at hl 3 rfl) ?_
            obtain ⟨v17, ev17, hf⟩ := xb hf
            refine xr_getI hx hb hts inX0 hown hKK hP ev17 rfl (by decide) w3 (fun _ h9 => h9) dX0_readItem_116 ?_
            refine lv_iload_n hx hb dX0_readItem_119 rfl (lv_at hl 2 rfl) ?_
            obtain ⟨h8, eh8, hf⟩ := xb hf
            refine xr_iast hx hb hKK hP hS eh8 dX0_readItem_120 (fun H locs hP _ hS => ?_)
            refine lv_aload_n hx hb dX0_readItem_121 rfl (lv_at hl 3 rfl) ?_
            refine lv_dup hx hb dX0_readItem_122 rfl ?_
            obtain ⟨v18, ev18, hf⟩ := xb hf
            refine xr_getI hx hb hts inX0 hown hKK hP ev18 rfl (by decide) w3 (fun _ h9 => h9) dX0_readItem_123 ?_
            refine lv_iconst (v := (1 : Int32)) hx hb dX0_readItem_126 (by decide) ?_
            refine lv_iadd hx hb dX0_readItem_127 ?_
            obtain ⟨h9, eh9, hf⟩ := xb hf
            refine xr_put hx hb hts inX0 tyX0 tyX0_ok nmX0 hown hKK hP hS eh9 rfl (by decide) w3 (fun _ h9 => h9) rfl (tyX0_ok 3 (by decide)) rfl rfl dX0_readItem_128 (fun H locs hP _ hS => ?_)
            obtain ⟨v19, ev19, hf⟩ := xl hf
            refine lv_iinc (v := v19) (lv' := [(5, .int v19), (4, .int v6), (3, .int v3), (0, .ref a0)]) hx hb dX0_readItem_131 hl (k := 0) rfl (by rw [ev19]; rfl) (by decide) rfl (fun ls hl => ?_)
            refine lv_goto (tgt := 104) hx hb dX0_readItem_134 (by decide) ?_
            exact IH _ (Option.some.inj hf).symm _ _ _ hP hS (lv_sub hl [0, 1, 2, 3] rfl)
        · have hf := xif_f hf c5
          exact J2  hf _ _ _ hP hS (lv_sub hl [2] rfl)
    clear ek1
    refine lv_if_eq (tgt := 66) hx hb dX0_readItem_31 (by decide) (fun c2 => ?_) (fun c2 => ?_)
    · have hf := xif_t hf c2
      exact J1 _ _ hf _ _ _ hP hS (lv_sub hl [0, 1, 3, 4] rfl)
    · have hf := xif_f hf c2
      refine lv_aload_n hx hb dX0_readItem_34 rfl (lv_at hl 3 rfl) ?_
      refine lv_dup hx hb dX0_readItem_35 rfl ?_
      obtain ⟨v7, ev7, hf⟩ := xb hf
      refine xr_getI hx hb hts inX0 hown hKK hP ev7 rfl (by decide) w2 (fun _ h9 => h9) dX0_readItem_36 ?_
      refine lv_iconst (v := (1 : Int32)) hx hb dX0_readItem_39 (by decide) ?_
      refine lv_iadd hx hb dX0_readItem_40 ?_
      obtain ⟨h3, eh3, hf⟩ := xb hf
      refine xr_put hx hb hts inX0 tyX0 tyX0_ok nmX0 hown hKK hP hS eh3 rfl (by decide) w2 (fun _ h9 => h9) rfl (tyX0_ok 4 (by decide)) rfl rfl dX0_readItem_41 (fun H locs hP _ hS => ?_)
      refine lv_aload_n hx hb dX0_readItem_44 rfl (lv_at hl 3 rfl) ?_
      refine lv_iconst (v := (2 : Int32)) hx hb dX0_readItem_45 (by decide) ?_
      refine lv_iconst (v := (1 : Int32)) hx hb dX0_readItem_46 (by decide) ?_
      refine lv_bipush (v := (99 : Int32)) hx hb dX0_readItem_47 (by decide) ?_
      obtain ⟨v8, ev8, hf⟩ := xb hf
      obtain ⟨v9, h4, ev9, hf⟩ := xb2 hf
      refine xc_Vi (rest := []) ⟨hx, hb, hml, hown, hts⟩ (m_X0_readNumber l B0 G fu h3 h4 a0 (2 : Int32) (1 : Int32) (99 : Int32) v9 ev9) (cwV 3 hts gX0_readItem_X0_readNumber rfl rfl rfl (by decide +kernel) ⟨Nat.le_of_ble_eq_true rfl, Nat.le_of_ble_eq_true rfl⟩) hKK hP hS ev8 rfl rfl hl.1 rfl (Nat.le_of_ble_eq_true rfl) dX0_readItem_49 ⟨Nat.zero_le _, Nat.zero_le _⟩ (fun H locs hP hS => ?_)
      refine lv_istore_n (lv' := [(2, .int v9), (4, .int (1 : Int32)), (3, .int v3), (0, .ref a0), (1, .int p0)]) hx hb dX0_readItem_52 rfl hl (by decide) rfl (fun ls hl => ?_)
      refine lv_iload_n hx hb dX0_readItem_53 rfl (lv_at hl 0 rfl) ?_
      refine lv_iconst (v := (-1 : Int32)) hx hb dX0_readItem_54 (by decide) ?_
      refine lv_icmp_eq (tgt := 60) hx hb dX0_readItem_55 (by decide) (fun c3 => ?_) (fun c3 => ?_)
      · have hf := xif_t hf c3
        refine lv_aload_n hx hb dX0_readItem_60 rfl (lv_at hl 3 rfl) ?_
        obtain ⟨v10, ev10, hf⟩ := xb hf
        refine xr_getI hx hb hts inX0 hown hKK hP ev10 rfl (by decide) w1 (fun _ h9 => h9) dX0_readItem_61 ?_
        refine lv_istore (lv' := [(4, .int v10), (2, .int v9), (3, .int v3), (0, .ref a0), (1, .int p0)]) hx hb dX0_readItem_64 hl (by decide) rfl (fun ls hl => ?_)
        exact J1 _ _ hf _ _ _ hP hS (lv_sub hl [0, 2, 3, 4] rfl)
      · have hf := xif_f hf c3
        refine lv_iload_n hx hb dX0_readItem_58 rfl (lv_at hl 0 rfl) ?_
        obtain ⟨rfl, rfl⟩ := xinj2 hf
        subst hQ
        exact xe_i hx hb hr hlocks hKK hP hS dX0_readItem_59
  · have hf := xif_f hf c1
    refine lv_iload_n hx hb dX0_readItem_15 rfl (lv_at hl 0 rfl) ?_
    obtain ⟨rfl, rfl⟩ := xinj2 hf
    subst hQ
    exact xe_i hx hb hr hlocks hKK hP hS dX0_readItem_16
/-- RainReservoir$RainText.readItems -/
def f_X0_readItems (fu : Nat) (h : XH) (a0 : Nat) (p0 : Int32) : Option (Int32 × XH) :=
  (xpV h a0 0 4 (.int (0 : Int32))).bind fun h1 =>
  (xpV h1 a0 0 3 (.int (0 : Int32))).bind fun h2 =>
  obind2 (xloop (xf3 fun (v1 : Int32) (v2 : Int32) (h3 : XH) =>
    if (120 : Int32) ≤ v2 then
      some (.inr (v1, h3))
    else
      (xgI h3 a0 0 4).bind fun v4 =>
      (xgI h3 a0 0 1).bind fun v5 =>
      if v5 ≤ v4 then
        some (.inr (v1, h3))
      else
        if v1 = (-1 : Int32) then
          (xis h3 a0 0).bind fun v6 =>
          obind2 (f_X0_readItem fu h3 a0 ((100 : Int32) - p0)) fun v7 h5 =>
          olet (v2 + (1 : Int32)) fun v8 =>
          some (.inl (v7, v8, h5))
        else
          some (.inr (v1, h3))
  ) fu ((-1 : Int32), (0 : Int32), h2)) fun v3 h4 =>
  some ((v3, h4))
abbrev rmX0_readItems : Room := { frames := 2, cells := 0, slots := 0, locals := 49 }
set_option maxHeartbeats 4000000 in
set_option maxRecDepth 100000 in
theorem m_X0_readItems (l : Launch) (B0 : Nat) (G : XG) (fu : Nat) (h hE : XH) (a0 : Nat) (p0 : Int32) (rE : Int32) (hf : f_X0_readItems fu h a0 p0 = some (rE, hE)) : Met l yX0_readItems wsX0_readItems rmX0_readItems (va_Pc [.ref a0, .int p0] (xU B0 G h)) (xQi B0 G hE rE) 0 0 (xA B0) := by
  refine xMet (cc := cX0_readItems) (maxL := 4) (by decide) rfl (Nat.le_of_ble_eq_true rfl) ?_
  intro p e s m args below meth c ls hx hb hr hml hown hlocks hnm hts hKK hP hl
  have hown : s.vm.findClass RX0 = some m.cls := hown
  have hl : lv_has ls 4 [(0, .ref a0), (1, .int p0)] := hl
  have hS : va_S (xA B0) s.heap s.heap [] := va_S.rf
  have inX0 : ∀ w ∈ wsX00, w ∈ wsX0_readItems := by decide +kernel
  have w1 := hts (.fieldLink RX0 19 "RainReservoir$RainText" "at" "I") (by decide +kernel)
  have w2 := hts (.fieldLink RX0 23 "RainReservoir$RainText" "foundCount" "I") (by decide +kernel)
  have w3 := hts (.fieldLink RX0 26 "RainReservoir$RainText" "length" "I") (by decide +kernel)
  generalize hQ : MQ below (xQi B0 G hE rE) args s 0 0 (xA B0) = Q
  unfold f_X0_readItems at hf
  refine lv_aload_n hx hb dX0_readItems_0 rfl (lv_at hl 0 rfl) ?_
  refine lv_iconst (v := (0 : Int32)) hx hb dX0_readItems_1 (by decide) ?_
  obtain ⟨h1, eh1, hf⟩ := xb hf
  refine xr_put hx hb hts inX0 tyX0 tyX0_ok nmX0 hown hKK hP hS eh1 rfl (by decide) w1 (fun _ h9 => h9) rfl (tyX0_ok 4 (by decide)) rfl rfl dX0_readItems_2 (fun H locs hP _ hS => ?_)
  refine lv_aload_n hx hb dX0_readItems_5 rfl (lv_at hl 0 rfl) ?_
  refine lv_iconst (v := (0 : Int32)) hx hb dX0_readItems_6 (by decide) ?_
  obtain ⟨h2, eh2, hf⟩ := xb hf
  refine xr_put hx hb hts inX0 tyX0 tyX0_ok nmX0 hown hKK hP hS eh2 rfl (by decide) w2 (fun _ h9 => h9) rfl (tyX0_ok 3 (by decide)) rfl rfl dX0_readItems_7 (fun H locs hP _ hS => ?_)
  refine lv_iconst (v := (-1 : Int32)) hx hb dX0_readItems_10 (by decide) ?_
  refine lv_istore_n (lv' := [(2, .int (-1 : Int32)), (0, .ref a0), (1, .int p0)]) hx hb dX0_readItems_11 rfl hl (by decide) rfl (fun ls hl => ?_)
  refine lv_iconst (v := (0 : Int32)) hx hb dX0_readItems_12 (by decide) ?_
  refine lv_istore_n (lv' := [(3, .int (0 : Int32)), (2, .int (-1 : Int32)), (0, .ref a0), (1, .int p0)]) hx hb dX0_readItems_13 rfl hl (by decide) rfl (fun ls hl => ?_)
  obtain ⟨v3, h4, eL, hf⟩ := xb2 hf
  have J1 : ∀ (H : Heap) (locs : List Loc) (ls : Array Slot), xP B0 G h4 H → va_S (xA B0) s.heap H locs → lv_has ls 4 [(2, .int v3)] → W p l e rmX0_readItems s m args below meth c H locs 0 0 Q (F0 m 51 ls []) := by
    intro H locs ls hP hS hl
    clear eL
    refine lv_iload_n hx hb dX0_readItems_51 rfl (lv_at hl 0 rfl) ?_
    obtain ⟨rfl, rfl⟩ := xinj2 hf
    subst hQ
    exact xe_i hx hb hr hlocks hKK hP hS dX0_readItems_52
  clear hf
  refine xloop_ind (P := fun z => ∀ (H : Heap) (locs : List Loc) (ls : Array Slot), xP B0 G z.2.2 H → va_S (xA B0) s.heap H locs → lv_has ls 4 [(2, .int z.1), (3, .int z.2.1), (0, .ref a0), (1, .int p0)] → W p l e rmX0_readItems s m args below meth c H locs 0 0 Q (F0 m 14 ls [])) ?_ eL _ _ _ hP hS (lv_sub hl [1, 0, 2, 3] rfl)
  rintro ⟨v1, v2, h3⟩ o hf IH EX H locs ls hP hS hl
  have hf := xf3_e hf
  have hP : xP B0 G h3 H := hP
  have hl : lv_has ls 4 [(2, .int v1), (3, .int v2), (0, .ref a0), (1, .int p0)] := hl
  refine lv_iload_n hx hb dX0_readItems_14 rfl (lv_at hl 1 rfl) ?_
  refine lv_bipush (v := (120 : Int32)) hx hb dX0_readItems_15 (by decide) ?_
  refine lv_icmp_ge (tgt := 51) hx hb dX0_readItems_17 (by decide) (fun c1 => ?_) (fun c1 => ?_)
  · have hf := xif_t hf c1
    have hf := EX _ (Option.some.inj hf).symm
    obtain ⟨rfl, rfl⟩ := xpair2 hf
    exact J1 _ _ _ hP hS (lv_sub hl [0] rfl)
  · have hf := xif_f hf c1
    refine lv_aload_n hx hb dX0_readItems_20 rfl (lv_at hl 2 rfl) ?_
    obtain ⟨v4, ev4, hf⟩ := xb hf
    refine xr_getI hx hb hts inX0 hown hKK hP ev4 rfl (by decide) w1 (fun _ h9 => h9) dX0_readItems_21 ?_
    refine lv_aload_n hx hb dX0_readItems_24 rfl (lv_at hl 2 rfl) ?_
    obtain ⟨v5, ev5, hf⟩ := xb hf
    refine xr_getI hx hb hts inX0 hown hKK hP ev5 rfl (by decide) w3 (fun _ h9 => h9) dX0_readItems_25 ?_
    refine lv_icmp_ge (tgt := 51) hx hb dX0_readItems_28 (by decide) (fun c2 => ?_) (fun c2 => ?_)
    · have hf := xif_t hf c2
      have hf := EX _ (Option.some.inj hf).symm
      obtain ⟨rfl, rfl⟩ := xpair2 hf
      exact J1 _ _ _ hP hS (lv_sub hl [0] rfl)
    · have hf := xif_f hf c2
      refine lv_iload_n hx hb dX0_readItems_31 rfl (lv_at hl 0 rfl) ?_
      refine lv_iconst (v := (-1 : Int32)) hx hb dX0_readItems_32 (by decide) ?_
      refine lv_icmp_ne (tgt := 51) hx hb dX0_readItems_33 (by decide) (fun c3 => ?_) (fun c3 => ?_)
      · have hf := xif_f hf c3
        have hf := EX _ (Option.some.inj hf).symm
        obtain ⟨rfl, rfl⟩ := xpair2 hf
        exact J1 _ _ _ hP hS (lv_sub hl [0] rfl)
      · have hf := xif_t hf c3
        refine lv_aload_n hx hb dX0_readItems_36 rfl (lv_at hl 2 rfl) ?_
        refine lv_bipush (v := (100 : Int32)) hx hb dX0_readItems_37 (by decide) ?_
        refine lv_iload_n hx hb dX0_readItems_39 rfl (lv_at hl 3 rfl) ?_
        refine lv_isub hx hb dX0_readItems_40 ?_
        obtain ⟨v6, ev6, hf⟩ := xb hf
        obtain ⟨v7, h5, ev7, hf⟩ := xb2 hf
        refine xc_Vi (rest := []) ⟨hx, hb, hml, hown, hts⟩ (m_X0_readItem l B0 G fu h3 h5 a0 ((100 : Int32) - p0) v7 ev7) (cwV 1 hts gX0_readItems_X0_readItem rfl rfl rfl (by decide +kernel) ⟨Nat.le_of_ble_eq_true rfl, Nat.le_of_ble_eq_true rfl⟩) hKK hP hS ev6 rfl rfl hl.1 rfl (Nat.le_of_ble_eq_true rfl) dX0_readItems_41 ⟨Nat.zero_le _, Nat.zero_le _⟩ (fun H locs hP hS => ?_)
        refine lv_istore_n (lv' := [(2, .int v7), (3, .int v2), (0, .ref a0), (1, .int p0)]) hx hb dX0_readItems_44 rfl hl (by decide) rfl (fun ls hl => ?_)
        obtain ⟨v8, ev8, hf⟩ := xl hf
        refine lv_iinc (v := v8) (lv' := [(3, .int v8), (2, .int v7), (0, .ref a0), (1, .int p0)]) hx hb dX0_readItems_45 hl (k := 1) rfl (by rw [ev8]; rfl) (by decide) rfl (fun ls hl => ?_)
        refine lv_goto (tgt := 14) hx hb dX0_readItems_48 (by decide) ?_
        exact IH _ (Option.some.inj hf).symm _ _ _ hP hS (lv_sub hl [1, 0, 2, 3] rfl)
