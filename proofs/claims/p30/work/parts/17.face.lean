/-- RainReservoir.checkRange -/
def f_X5_checkRange (p0 : Int32) (p1 : Int32) (p2 : Int32) : Option ((Unit) ⊕ Nat) :=
  oletk (
    some (.inr 0)
  ) fun k1 =>
  if p0 < p1 then
    k1
  else
    if p0 ≤ p2 then
      olift (
        some (())
      )
    else
      k1
abbrev rmX5_checkRange : Room := { frames := 6, cells := 0, slots := 0, locals := 100 }
set_option maxHeartbeats 4000000 in
set_option maxRecDepth 100000 in
theorem m_X5_checkRange (l : Launch) (B0 : Nat) (G : XG) (h : XH) (p0 : Int32) (p1 : Int32) (p2 : Int32) (hf : f_X5_checkRange p0 p1 p2 = some (.inl ())) : Met l yX5_checkRange wsX5_checkRange rmX5_checkRange (va_Pc [.int p0, .int p1, .int p2] (xU B0 G h)) (xQv B0 G h) 0 0 (xA B0) := by
  refine xMet (cc := cX5_checkRange) (maxL := 3) (by decide) rfl (Nat.le_of_ble_eq_true rfl) ?_
  intro p e s m args below meth c ls hx hb hr hml hown hlocks hnm hts hKK hP hl
  have hown : s.vm.findClass RX5 = some m.cls := hown
  have hl : lv_has ls 3 [(0, .int p0), (1, .int p1), (2, .int p2)] := hl
  have hS : va_S (xA B0) s.heap s.heap [] := va_S.rf
  generalize hQ : MQ below (xQv B0 G h) args s 0 0 (xA B0) = Q
  unfold f_X5_checkRange at hf
  refine lv_iload_n hx hb dX5_checkRange_0 rfl (lv_at hl 0 rfl) ?_
  refine lv_iload_n hx hb dX5_checkRange_1 rfl (lv_at hl 1 rfl) ?_
  obtain ⟨k1, ek1, hf⟩ := xlk hf
  have J1 : k1 = some (.inl ()) → ∀ (H : Heap) (locs : List Loc) (ls : Array Slot), xP B0 G h H → va_S (xA B0) s.heap H locs → lv_has ls 3 [] → W p l e rmX5_checkRange s m args below meth c H locs 0 0 Q (F0 m 10 ls []) := by
    intro  hf H locs ls hP hS hl
    have hf := xk0 ek1 hf
    clear ek1
    cases hf
  clear ek1
  refine lv_icmp_lt (tgt := 10) hx hb dX5_checkRange_2 (by decide) (fun c1 => ?_) (fun c1 => ?_)
  · have hf := xif_t hf c1
    exact J1  hf _ _ _ hP hS (lv_sub hl [] rfl)
  · have hf := xif_f hf c1
    refine lv_iload_n hx hb dX5_checkRange_5 rfl (lv_at hl 0 rfl) ?_
    refine lv_iload_n hx hb dX5_checkRange_6 rfl (lv_at hl 2 rfl) ?_
    refine lv_icmp_le (tgt := 20) hx hb dX5_checkRange_7 (by decide) (fun c2 => ?_) (fun c2 => ?_)
    · have hf := xif_t hf c2
      have hf := olift_l hf
      subst hQ
      exact xe_v hx hb hr hlocks hKK hP hS dX5_checkRange_20
    · have hf := xif_f hf c2
      exact J1  hf _ _ _ hP hS (lv_sub hl [] rfl)
/-- RainReservoir.addRoof -/
def f_X5_addRoof (fu : Nat) (h : XH) (a0 : Nat) (p0 : Int32) (p1 : Int32) (p2 : Int32) (p3 : Int32) : Option ((Int32 × XH) ⊕ Nat) :=
  oexc (f_X5_checkRange p0 (1 : Int32) (500 : Int32)) fun u1 =>
  oexc (f_X5_checkRange p1 (1 : Int32) (100 : Int32)) fun u2 =>
  oexc (f_X5_checkRange p2 (0 : Int32) (999 : Int32)) fun u3 =>
  oexc (f_X5_checkRange p3 (1 : Int32) (50000 : Int32)) fun u4 =>
  (xgR h a0 5 0).bind fun v5 =>
  (xgI h v5 2 7).bind fun v6 =>
  if v6 < (6 : Int32) then
    olift (
      (xis h a0 5).bind fun v7 =>
      obind1 (f_X5_save fu h a0) fun h1 =>
      (xgR h1 a0 5 0).bind fun v8 =>
      (xgR h1 v8 2 6).bind fun v9 =>
      (xgR h1 a0 5 0).bind fun v10 =>
      (xgI h1 v10 2 7).bind fun v11 =>
      (xaldR h1 v9 3 v11).bind fun v12 =>
      (xis h1 v12 1).bind fun v13 =>
      obind1 (f_X1_set h1 v12 p0 p1 p2 p3) fun h2 =>
      (xgR h2 a0 5 0).bind fun v14 =>
      (xgI h2 v14 2 7).bind fun v15 =>
      (xpV h2 v14 2 7 (.int (v15 + (1 : Int32)))).bind fun h3 =>
      (xgR h3 a0 5 0).bind fun v16 =>
      (xgI h3 v16 2 7).bind fun v17 =>
      some (((v17 - (1 : Int32)), h3))
    )
  else
    some (.inr 1)
abbrev rmX5_addRoof : Room := { frames := 7, cells := 0, slots := 0, locals := 129 }
set_option maxHeartbeats 4000000 in
set_option maxRecDepth 100000 in
theorem m_X5_addRoof (l : Launch) (B0 : Nat) (G : XG) (fu : Nat) (h hE : XH) (a0 : Nat) (p0 : Int32) (p1 : Int32) (p2 : Int32) (p3 : Int32) (rE : Int32) (hf : f_X5_addRoof fu h a0 p0 p1 p2 p3 = some (.inl (rE, hE))) : Met l yX5_addRoof wsX5_addRoof rmX5_addRoof (va_Pc [.ref a0, .int p0, .int p1, .int p2, .int p3] (xU B0 G h)) (xQi B0 G hE rE) 0 0 (xA B0) := by
  refine xMet (cc := cX5_addRoof) (maxL := 5) (by decide) rfl (Nat.le_of_ble_eq_true rfl) ?_
  intro p e s m args below meth c ls hx hb hr hml hown hlocks hnm hts hKK hP hl
  have hown : s.vm.findClass RX5 = some m.cls := hown
  have hl : lv_has ls 5 [(0, .ref a0), (1, .int p0), (2, .int p1), (3, .int p2), (4, .int p3)] := hl
  have hS : va_S (xA B0) s.heap s.heap [] := va_S.rf
  have inX2 : ∀ w ∈ wsX20, w ∈ wsX5_addRoof := by decide +kernel
  have inX5 : ∀ w ∈ wsX50, w ∈ wsX5_addRoof := by decide +kernel
  have w1 := hts (.constant RX5 34 (50000)) (by decide +kernel)
  have w2 := hts (.fieldLink RX5 10 "RainReservoir" "now" "LRainReservoir$State;") (by decide +kernel)
  have w3 := hts (.fieldLink RX5 35 "RainReservoir$State" "roofCount" "I") (by decide +kernel)
  have w4 := hts (.fieldLink RX5 49 "RainReservoir$State" "roofs" "[LRainReservoir$Roof;") (by decide +kernel)
  generalize hQ : MQ below (xQi B0 G hE rE) args s 0 0 (xA B0) = Q
  unfold f_X5_addRoof at hf
  refine lv_iload_n hx hb dX5_addRoof_0 rfl (lv_at hl 1 rfl) ?_
  refine lv_iconst (v := (1 : Int32)) hx hb dX5_addRoof_1 (by decide) ?_
  refine lv_sipush (v := (500 : Int32)) hx hb dX5_addRoof_2 (by decide) ?_
  obtain ⟨u1, ev1, hf⟩ := oexc_l hf
  refine xc_Sv (rest := []) ⟨hx, hb, hml, hown, hts⟩ (m_X5_checkRange l B0 G h p0 (1 : Int32) (500 : Int32) ev1) (va_cwS 3 hts gX5_addRoof_X5_checkRange rfl rfl rfl (by decide +kernel) ⟨Nat.le_of_ble_eq_true rfl, Nat.le_of_ble_eq_true rfl⟩) hKK hP hS rfl hl.1 rfl (Nat.le_of_ble_eq_true rfl) dX5_addRoof_5 ⟨Nat.zero_le _, Nat.zero_le _⟩ (fun H locs hP hS => ?_)
  refine lv_iload_n hx hb dX5_addRoof_8 rfl (lv_at hl 2 rfl) ?_
  refine lv_iconst (v := (1 : Int32)) hx hb dX5_addRoof_9 (by decide) ?_
  refine lv_bipush (v := (100 : Int32)) hx hb dX5_addRoof_10 (by decide) ?_
  obtain ⟨u2, ev2, hf⟩ := oexc_l hf
  refine xc_Sv (rest := []) ⟨hx, hb, hml, hown, hts⟩ (m_X5_checkRange l B0 G h p1 (1 : Int32) (100 : Int32) ev2) (va_cwS 3 hts gX5_addRoof_X5_checkRange rfl rfl rfl (by decide +kernel) ⟨Nat.le_of_ble_eq_true rfl, Nat.le_of_ble_eq_true rfl⟩) hKK hP hS rfl hl.1 rfl (Nat.le_of_ble_eq_true rfl) dX5_addRoof_12 ⟨Nat.zero_le _, Nat.zero_le _⟩ (fun H locs hP hS => ?_)
  refine lv_iload_n hx hb dX5_addRoof_15 rfl (lv_at hl 3 rfl) ?_
  refine lv_iconst (v := (0 : Int32)) hx hb dX5_addRoof_16 (by decide) ?_
  refine lv_sipush (v := (999 : Int32)) hx hb dX5_addRoof_17 (by decide) ?_
  obtain ⟨u3, ev3, hf⟩ := oexc_l hf
  refine xc_Sv (rest := []) ⟨hx, hb, hml, hown, hts⟩ (m_X5_checkRange l B0 G h p2 (0 : Int32) (999 : Int32) ev3) (va_cwS 3 hts gX5_addRoof_X5_checkRange rfl rfl rfl (by decide +kernel) ⟨Nat.le_of_ble_eq_true rfl, Nat.le_of_ble_eq_true rfl⟩) hKK hP hS rfl hl.1 rfl (Nat.le_of_ble_eq_true rfl) dX5_addRoof_20 ⟨Nat.zero_le _, Nat.zero_le _⟩ (fun H locs hP hS => ?_)
  refine lv_iload hx hb dX5_addRoof_23 (lv_at hl 4 rfl) ?_
  refine lv_iconst (v := (1 : Int32)) hx hb dX5_addRoof_25 (by decide) ?_
  refine lv_ldc (v := (50000 : Int32)) hx hb hown w1 dX5_addRoof_26 ?_
  obtain ⟨u4, ev4, hf⟩ := oexc_l hf
  refine xc_Sv (rest := []) ⟨hx, hb, hml, hown, hts⟩ (m_X5_checkRange l B0 G h p3 (1 : Int32) (50000 : Int32) ev4) (va_cwS 3 hts gX5_addRoof_X5_checkRange rfl rfl rfl (by decide +kernel) ⟨Nat.le_of_ble_eq_true rfl, Nat.le_of_ble_eq_true rfl⟩) hKK hP hS rfl hl.1 rfl (Nat.le_of_ble_eq_true rfl) dX5_addRoof_28 ⟨Nat.zero_le _, Nat.zero_le _⟩ (fun H locs hP hS => ?_)
  refine lv_aload_n hx hb dX5_addRoof_31 rfl (lv_at hl 0 rfl) ?_
  obtain ⟨v5, ev5, hf⟩ := xb hf
  refine xr_getR hx hb hts inX5 hown hKK hP ev5 rfl (by decide) w2 (fun _ h9 => h9) dX5_addRoof_32 ?_
  obtain ⟨v6, ev6, hf⟩ := xb hf
  refine xr_getI hx hb hts inX2 hown hKK hP ev6 rfl (by decide) w3 (fun _ h9 => h9) dX5_addRoof_35 ?_
  refine lv_bipush (v := (6 : Int32)) hx hb dX5_addRoof_38 (by decide) ?_
  refine lv_icmp_lt (tgt := 53) hx hb dX5_addRoof_40 (by decide) (fun c1 => ?_) (fun c1 => ?_)
  · have hf := xif_t hf c1
    have hf := olift_l hf
    refine lv_aload_n hx hb dX5_addRoof_53 rfl (lv_at hl 0 rfl) ?_
    obtain ⟨v7, ev7, hf⟩ := xb hf
    obtain ⟨h1, eh1, hf⟩ := xb1 hf
    refine xc_Vv (rest := []) ⟨hx, hb, hml, hown, hts⟩ (m_X5_save l B0 G fu h h1 a0 eh1) (cwV 0 hts gX5_addRoof_X5_save rfl rfl rfl (by decide +kernel) ⟨Nat.le_of_ble_eq_true rfl, Nat.le_of_ble_eq_true rfl⟩) hKK hP hS ev7 rfl rfl hl.1 rfl (Nat.le_of_ble_eq_true rfl) dX5_addRoof_54 ⟨Nat.zero_le _, Nat.zero_le _⟩ (fun H locs hP hS => ?_)
    refine lv_aload_n hx hb dX5_addRoof_57 rfl (lv_at hl 0 rfl) ?_
    obtain ⟨v8, ev8, hf⟩ := xb hf
    refine xr_getR hx hb hts inX5 hown hKK hP ev8 rfl (by decide) w2 (fun _ h9 => h9) dX5_addRoof_58 ?_
    obtain ⟨v9, ev9, hf⟩ := xb hf
    refine xr_getR hx hb hts inX2 hown hKK hP ev9 rfl (by decide) w4 (fun _ h9 => h9) dX5_addRoof_61 ?_
    refine lv_aload_n hx hb dX5_addRoof_64 rfl (lv_at hl 0 rfl) ?_
    obtain ⟨v10, ev10, hf⟩ := xb hf
    refine xr_getR hx hb hts inX5 hown hKK hP ev10 rfl (by decide) w2 (fun _ h9 => h9) dX5_addRoof_65 ?_
    obtain ⟨v11, ev11, hf⟩ := xb hf
    refine xr_getI hx hb hts inX2 hown hKK hP ev11 rfl (by decide) w3 (fun _ h9 => h9) dX5_addRoof_68 ?_
    obtain ⟨v12, ev12, hf⟩ := xb hf
    refine xr_aald (fun _ => rfl) hx hb hKK hP ev12 dX5_addRoof_71 ?_
    refine lv_iload_n hx hb dX5_addRoof_72 rfl (lv_at hl 1 rfl) ?_
    refine lv_iload_n hx hb dX5_addRoof_73 rfl (lv_at hl 2 rfl) ?_
    refine lv_iload_n hx hb dX5_addRoof_74 rfl (lv_at hl 3 rfl) ?_
    refine lv_iload hx hb dX5_addRoof_75 (lv_at hl 4 rfl) ?_
    obtain ⟨v13, ev13, hf⟩ := xb hf
    obtain ⟨h2, eh2, hf⟩ := xb1 hf
    refine xc_Vv (rest := []) ⟨hx, hb, hml, hown, hts⟩ (m_X1_set l B0 G h1 h2 v12 p0 p1 p2 p3 eh2) (cwV 4 hts gX5_addRoof_X1_set rfl rfl rfl (by decide +kernel) ⟨Nat.le_of_ble_eq_true rfl, Nat.le_of_ble_eq_true rfl⟩) hKK hP hS ev13 rfl rfl hl.1 rfl (Nat.le_of_ble_eq_true rfl) dX5_addRoof_77 ⟨Nat.zero_le _, Nat.zero_le _⟩ (fun H locs hP hS => ?_)
    refine lv_aload_n hx hb dX5_addRoof_80 rfl (lv_at hl 0 rfl) ?_
    obtain ⟨v14, ev14, hf⟩ := xb hf
    refine xr_getR hx hb hts inX5 hown hKK hP ev14 rfl (by decide) w2 (fun _ h9 => h9) dX5_addRoof_81 ?_
    refine lv_dup hx hb dX5_addRoof_84 rfl ?_
    obtain ⟨v15, ev15, hf⟩ := xb hf
    refine xr_getI hx hb hts inX2 hown hKK hP ev15 rfl (by decide) w3 (fun _ h9 => h9) dX5_addRoof_85 ?_
    refine lv_iconst (v := (1 : Int32)) hx hb dX5_addRoof_88 (by decide) ?_
    refine lv_iadd hx hb dX5_addRoof_89 ?_
    obtain ⟨h3, eh3, hf⟩ := xb hf
    refine xr_put hx hb hts inX2 tyX2 tyX2_ok nmX2 hown hKK hP hS eh3 rfl (by decide) w3 (fun _ h9 => h9) rfl (tyX2_ok 7 (by decide)) rfl rfl dX5_addRoof_90 (fun H locs hP _ hS => ?_)
    refine lv_aload_n hx hb dX5_addRoof_93 rfl (lv_at hl 0 rfl) ?_
    obtain ⟨v16, ev16, hf⟩ := xb hf
    refine xr_getR hx hb hts inX5 hown hKK hP ev16 rfl (by decide) w2 (fun _ h9 => h9) dX5_addRoof_94 ?_
    obtain ⟨v17, ev17, hf⟩ := xb hf
    refine xr_getI hx hb hts inX2 hown hKK hP ev17 rfl (by decide) w3 (fun _ h9 => h9) dX5_addRoof_97 ?_
    refine lv_iconst (v := (1 : Int32)) hx hb dX5_addRoof_100 (by decide) ?_
    refine lv_isub hx hb dX5_addRoof_101 ?_
    obtain ⟨rfl, rfl⟩ := xinj2 hf
    subst hQ
    exact xe_i hx hb hr hlocks hKK hP hS dX5_addRoof_102
  · have hf := xif_f hf c1
    cases hf
/-- RainReservoir.addUser -/
def f_X5_addUser (fu : Nat) (h : XH) (a0 : Nat) (p0 : Int32) (p1 : Int32) : Option ((Int32 × XH) ⊕ Nat) :=
  oexc (f_X5_checkRange p0 (0 : Int32) (9999 : Int32)) fun u1 =>
  oexc (f_X5_checkRange p1 (1 : Int32) (9 : Int32)) fun u2 =>
  (xgR h a0 5 0).bind fun v3 =>
  (xgR h v3 2 8).bind fun v4 =>
  (xgI h v4 4 1).bind fun v5 =>
  if v5 < (5 : Int32) then
    olift (
      (xis h a0 5).bind fun v6 =>
      obind1 (f_X5_save fu h a0) fun h1 =>
      (xgR h1 a0 5 0).bind fun v7 =>
      (xgR h1 v7 2 8).bind fun v8 =>
      (xgR h1 v8 4 0).bind fun v9 =>
      (xgR h1 a0 5 0).bind fun v10 =>
      (xgR h1 v10 2 8).bind fun v11 =>
      (xgI h1 v11 4 1).bind fun v12 =>
      (xaldR h1 v9 5 v12).bind fun v13 =>
      (xis h1 v13 3).bind fun v14 =>
      obind1 (f_X3_set h1 v13 p0 p1) fun h2 =>
      (xgR h2 a0 5 0).bind fun v15 =>
      (xgR h2 v15 2 8).bind fun v16 =>
      (xgI h2 v16 4 1).bind fun v17 =>
      (xpV h2 v16 4 1 (.int (v17 + (1 : Int32)))).bind fun h3 =>
      (xgR h3 a0 5 0).bind fun v18 =>
      (xgR h3 v18 2 8).bind fun v19 =>
      (xgI h3 v19 4 1).bind fun v20 =>
      some (((v20 - (1 : Int32)), h3))
    )
  else
    some (.inr 1)
abbrev rmX5_addUser : Room := { frames := 7, cells := 0, slots := 0, locals := 129 }
set_option maxHeartbeats 4000000 in
set_option maxRecDepth 100000 in
theorem m_X5_addUser (l : Launch) (B0 : Nat) (G : XG) (fu : Nat) (h hE : XH) (a0 : Nat) (p0 : Int32) (p1 : Int32) (rE : Int32) (hf : f_X5_addUser fu h a0 p0 p1 = some (.inl (rE, hE))) : Met l yX5_addUser wsX5_addUser rmX5_addUser (va_Pc [.ref a0, .int p0, .int p1] (xU B0 G h)) (xQi B0 G hE rE) 0 0 (xA B0) := by
  refine xMet (cc := cX5_addUser) (maxL := 3) (by decide) rfl (Nat.le_of_ble_eq_true rfl) ?_
  intro p e s m args below meth c ls hx hb hr hml hown hlocks hnm hts hKK hP hl
  have hown : s.vm.findClass RX5 = some m.cls := hown
  have hl : lv_has ls 3 [(0, .ref a0), (1, .int p0), (2, .int p1)] := hl
  have hS : va_S (xA B0) s.heap s.heap [] := va_S.rf
  have inX2 : ∀ w ∈ wsX20, w ∈ wsX5_addUser := by decide +kernel
  have inX4 : ∀ w ∈ wsX40, w ∈ wsX5_addUser := by decide +kernel
  have inX5 : ∀ w ∈ wsX50, w ∈ wsX5_addUser := by decide +kernel
  have w1 := hts (.fieldLink RX5 10 "RainReservoir" "now" "LRainReservoir$State;") (by decide +kernel)
  have w2 := hts (.fieldLink RX5 59 "RainReservoir$State" "users" "LRainReservoir$Users;") (by decide +kernel)
  have w3 := hts (.fieldLink RX5 63 "RainReservoir$Users" "count" "I") (by decide +kernel)
  have w4 := hts (.fieldLink RX5 70 "RainReservoir$Users" "rows" "[LRainReservoir$User;") (by decide +kernel)
  generalize hQ : MQ below (xQi B0 G hE rE) args s 0 0 (xA B0) = Q
  unfold f_X5_addUser at hf
  refine lv_iload_n hx hb dX5_addUser_0 rfl (lv_at hl 1 rfl) ?_
  refine lv_iconst (v := (0 : Int32)) hx hb dX5_addUser_1 (by decide) ?_
  refine lv_sipush (v := (9999 : Int32)) hx hb dX5_addUser_2 (by decide) ?_
  obtain ⟨u1, ev1, hf⟩ := oexc_l hf
  refine xc_Sv (rest := []) ⟨hx, hb, hml, hown, hts⟩ (m_X5_checkRange l B0 G h p0 (0 : Int32) (9999 : Int32) ev1) (va_cwS 3 hts gX5_addUser_X5_checkRange rfl rfl rfl (by decide +kernel) ⟨Nat.le_of_ble_eq_true rfl, Nat.le_of_ble_eq_true rfl⟩) hKK hP hS rfl hl.1 rfl (Nat.le_of_ble_eq_true rfl) dX5_addUser_5 ⟨Nat.zero_le _, Nat.zero_le _⟩ (fun H locs hP hS => ?_)
  refine lv_iload_n hx hb dX5_addUser_8 rfl (lv_at hl 2 rfl) ?_
  refine lv_iconst (v := (1 : Int32)) hx hb dX5_addUser_9 (by decide) ?_
  refine lv_bipush (v := (9 : Int32)) hx hb dX5_addUser_10 (by decide) ?_
  obtain ⟨u2, ev2, hf⟩ := oexc_l hf
  refine xc_Sv (rest := []) ⟨hx, hb, hml, hown, hts⟩ (m_X5_checkRange l B0 G h p1 (1 : Int32) (9 : Int32) ev2) (va_cwS 3 hts gX5_addUser_X5_checkRange rfl rfl rfl (by decide +kernel) ⟨Nat.le_of_ble_eq_true rfl, Nat.le_of_ble_eq_true rfl⟩) hKK hP hS rfl hl.1 rfl (Nat.le_of_ble_eq_true rfl) dX5_addUser_12 ⟨Nat.zero_le _, Nat.zero_le _⟩ (fun H locs hP hS => ?_)
  refine lv_aload_n hx hb dX5_addUser_15 rfl (lv_at hl 0 rfl) ?_
  obtain ⟨v3, ev3, hf⟩ := xb hf
  refine xr_getR hx hb hts inX5 hown hKK hP ev3 rfl (by decide) w1 (fun _ h9 => h9) dX5_addUser_16 ?_
  obtain ⟨v4, ev4, hf⟩ := xb hf
  refine xr_getR hx hb hts inX2 hown hKK hP ev4 rfl (by decide) w2 (fun _ h9 => h9) dX5_addUser_19 ?_
  obtain ⟨v5, ev5, hf⟩ := xb hf
  refine xr_getI hx hb hts inX4 hown hKK hP ev5 rfl (by decide) w3 (fun _ h9 => h9) dX5_addUser_22 ?_
  refine lv_iconst (v := (5 : Int32)) hx hb dX5_addUser_25 (by decide) ?_
  refine lv_icmp_lt (tgt := 39) hx hb dX5_addUser_26 (by decide) (fun c1 => ?_) (fun c1 => ?_)
  · have hf := xif_t hf c1
    have hf := olift_l hf
    refine lv_aload_n hx hb dX5_addUser_39 rfl (lv_at hl 0 rfl) ?_
    obtain ⟨v6, ev6, hf⟩ := xb hf
    obtain ⟨h1, eh1, hf⟩ := xb1 hf
    refine xc_Vv (rest := []) ⟨hx, hb, hml, hown, hts⟩ (m_X5_save l B0 G fu h h1 a0 eh1) (cwV 0 hts gX5_addUser_X5_save rfl rfl rfl (by decide +kernel) ⟨Nat.le_of_ble_eq_true rfl, Nat.le_of_ble_eq_true rfl⟩) hKK hP hS ev6 rfl rfl hl.1 rfl (Nat.le_of_ble_eq_true rfl) dX5_addUser_40 ⟨Nat.zero_le _, Nat.zero_le _⟩ (fun H locs hP hS => ?_)
    refine lv_aload_n hx hb dX5_addUser_43 rfl (lv_at hl 0 rfl) ?_
    obtain ⟨v7, ev7, hf⟩ := xb hf
    refine xr_getR hx hb hts inX5 hown hKK hP ev7 rfl (by decide) w1 (fun _ h9 => h9) dX5_addUser_44 ?_
    obtain ⟨v8, ev8, hf⟩ := xb hf
    refine xr_getR hx hb hts inX2 hown hKK hP ev8 rfl (by decide) w2 (fun _ h9 => h9) dX5_addUser_47 ?_
    obtain ⟨v9, ev9, hf⟩ := xb hf
    refine xr_getR hx hb hts inX4 hown hKK hP ev9 rfl (by decide) w4 (fun _ h9 => h9) dX5_addUser_50 ?_
    refine lv_aload_n hx hb dX5_addUser_53 rfl (lv_at hl 0 rfl) ?_
    obtain ⟨v10, ev10, hf⟩ := xb hf
    refine xr_getR hx hb hts inX5 hown hKK hP ev10 rfl (by decide) w1 (fun _ h9 => h9) dX5_addUser_54 ?_
    obtain ⟨v11, ev11, hf⟩ := xb hf
    refine xr_getR hx hb hts inX2 hown hKK hP ev11 rfl (by decide) w2 (fun _ h9 => h9) dX5_addUser_57 ?_
    obtain ⟨v12, ev12, hf⟩ := xb hf
    refine xr_getI hx hb hts inX4 hown hKK hP ev12 rfl (by decide) w3 (fun _ h9 => h9) dX5_addUser_60 ?_
    obtain ⟨v13, ev13, hf⟩ := xb hf
    refine xr_aald (fun _ => rfl) hx hb hKK hP ev13 dX5_addUser_63 ?_
    refine lv_iload_n hx hb dX5_addUser_64 rfl (lv_at hl 1 rfl) ?_
    refine lv_iload_n hx hb dX5_addUser_65 rfl (lv_at hl 2 rfl) ?_
    obtain ⟨v14, ev14, hf⟩ := xb hf
    obtain ⟨h2, eh2, hf⟩ := xb1 hf
    refine xc_Vv (rest := []) ⟨hx, hb, hml, hown, hts⟩ (m_X3_set l B0 G h1 h2 v13 p0 p1 eh2) (cwV 2 hts gX5_addUser_X3_set rfl rfl rfl (by decide +kernel) ⟨Nat.le_of_ble_eq_true rfl, Nat.le_of_ble_eq_true rfl⟩) hKK hP hS ev14 rfl rfl hl.1 rfl (Nat.le_of_ble_eq_true rfl) dX5_addUser_66 ⟨Nat.zero_le _, Nat.zero_le _⟩ (fun H locs hP hS => ?_)
    refine lv_aload_n hx hb dX5_addUser_69 rfl (lv_at hl 0 rfl) ?_
    obtain ⟨v15, ev15, hf⟩ := xb hf
    refine xr_getR hx hb hts inX5 hown hKK hP ev15 rfl (by decide) w1 (fun _ h9 => h9) dX5_addUser_70 ?_
    obtain ⟨v16, ev16, hf⟩ := xb hf
    refine xr_getR hx hb hts inX2 hown hKK hP ev16 rfl (by decide) w2 (fun _ h9 => h9) dX5_addUser_73 ?_
    refine lv_dup hx hb dX5_addUser_76 rfl ?_
    obtain ⟨v17, ev17, hf⟩ := xb hf
    refine xr_getI hx hb hts inX4 hown hKK hP ev17 rfl (by decide) w3 (fun _ h9 => h9) dX5_addUser_77 ?_
    refine lv_iconst (v := (1 : Int32)) hx hb dX5_addUser_80 (by decide) ?_
    refine lv_iadd hx hb dX5_addUser_81 ?_
    obtain ⟨h3, eh3, hf⟩ := xb hf
    refine xr_put hx hb hts inX4 tyX4 tyX4_ok nmX4 hown hKK hP hS eh3 rfl (by decide) w3 (fun _ h9 => h9) rfl (tyX4_ok 1 (by decide)) rfl rfl dX5_addUser_82 (fun H locs hP _ hS => ?_)
    refine lv_aload_n hx hb dX5_addUser_85 rfl (lv_at hl 0 rfl) ?_
    obtain ⟨v18, ev18, hf⟩ := xb hf
    refine xr_getR hx hb hts inX5 hown hKK hP ev18 rfl (by decide) w1 (fun _ h9 => h9) dX5_addUser_86 ?_
    obtain ⟨v19, ev19, hf⟩ := xb hf
    refine xr_getR hx hb hts inX2 hown hKK hP ev19 rfl (by decide) w2 (fun _ h9 => h9) dX5_addUser_89 ?_
    obtain ⟨v20, ev20, hf⟩ := xb hf
    refine xr_getI hx hb hts inX4 hown hKK hP ev20 rfl (by decide) w3 (fun _ h9 => h9) dX5_addUser_92 ?_
    refine lv_iconst (v := (1 : Int32)) hx hb dX5_addUser_95 (by decide) ?_
    refine lv_isub hx hb dX5_addUser_96 ?_
    obtain ⟨rfl, rfl⟩ := xinj2 hf
    subst hQ
    exact xe_i hx hb hr hlocks hKK hP hS dX5_addUser_97
  · have hf := xif_f hf c1
    cases hf
/-- RainReservoir.setReservoir -/
def f_X5_setReservoir (fu : Nat) (h : XH) (a0 : Nat) (p0 : Int32) (p1 : Int32) (p2 : Int32) : Option ((Int32 × XH) ⊕ Nat) :=
  oexc (f_X5_checkRange p0 (100 : Int32) (60000 : Int32)) fun u1 =>
  oexc (f_X5_checkRange p1 (0 : Int32) p0) fun u2 =>
  oexc (f_X5_checkRange p2 (0 : Int32) p0) fun u3 =>
  olift (
    (xis h a0 5).bind fun v4 =>
    obind1 (f_X5_save fu h a0) fun h1 =>
    (xgR h1 a0 5 0).bind fun v5 =>
    (xgI h1 v5 2 0).bind fun v6 =>
    (xgR h1 a0 5 0).bind fun v7 =>
    (xpV h1 v7 2 0 (.int p0)).bind fun h2 =>
    (xgR h2 a0 5 0).bind fun v8 =>
    (xpV h2 v8 2 1 (.int p1)).bind fun h3 =>
    (xgR h3 a0 5 0).bind fun v9 =>
    (xpV h3 v9 2 2 (.int p2)).bind fun h4 =>
    (xgR h4 a0 5 0).bind fun v10 =>
    (xgL h4 v10 2 14).bind fun v11 =>
    (xgR h4 a0 5 0).bind fun v12 =>
    (xis h4 v12 2).bind fun v13 =>
    obind2 (f_X2_dropAboveCapacity h4 v12) fun v14 h5 =>
    (xpV h5 v10 2 14 (.long (v11 + (Int32.toInt64 v14)))).bind fun h6 =>
    some ((v6, h6))
  )
abbrev rmX5_setReservoir : Room := { frames := 7, cells := 0, slots := 0, locals := 129 }
set_option maxHeartbeats 4000000 in
set_option maxRecDepth 100000 in
theorem m_X5_setReservoir (l : Launch) (B0 : Nat) (G : XG) (fu : Nat) (h hE : XH) (a0 : Nat) (p0 : Int32) (p1 : Int32) (p2 : Int32) (rE : Int32) (hf : f_X5_setReservoir fu h a0 p0 p1 p2 = some (.inl (rE, hE))) : Met l yX5_setReservoir wsX5_setReservoir rmX5_setReservoir (va_Pc [.ref a0, .int p0, .int p1, .int p2] (xU B0 G h)) (xQi B0 G hE rE) 0 0 (xA B0) := by
  refine xMet (cc := cX5_setReservoir) (maxL := 5) (by decide) rfl (Nat.le_of_ble_eq_true rfl) ?_
  intro p e s m args below meth c ls hx hb hr hml hown hlocks hnm hts hKK hP hl
  have hown : s.vm.findClass RX5 = some m.cls := hown
  have hl : lv_has ls 5 [(0, .ref a0), (1, .int p0), (2, .int p1), (3, .int p2)] := hl
  have hS : va_S (xA B0) s.heap s.heap [] := va_S.rf
  have inX2 : ∀ w ∈ wsX20, w ∈ wsX5_setReservoir := by decide +kernel
  have inX5 : ∀ w ∈ wsX50, w ∈ wsX5_setReservoir := by decide +kernel
  have w1 := hts (.constant RX5 85 (60000)) (by decide +kernel)
  have w2 := hts (.fieldLink RX5 10 "RainReservoir" "now" "LRainReservoir$State;") (by decide +kernel)
  have w3 := hts (.fieldLink RX5 86 "RainReservoir$State" "capacity" "I") (by decide +kernel)
  have w4 := hts (.fieldLink RX5 89 "RainReservoir$State" "floor" "I") (by decide +kernel)
  have w5 := hts (.fieldLink RX5 92 "RainReservoir$State" "topUp" "I") (by decide +kernel)
  have w6 := hts (.fieldLink RX5 95 "RainReservoir$State" "looseOverflow" "J") (by decide +kernel)
  generalize hQ : MQ below (xQi B0 G hE rE) args s 0 0 (xA B0) = Q
  unfold f_X5_setReservoir at hf
  refine lv_iload_n hx hb dX5_setReservoir_0 rfl (lv_at hl 1 rfl) ?_
  refine lv_bipush (v := (100 : Int32)) hx hb dX5_setReservoir_1 (by decide) ?_
  refine lv_ldc (v := (60000 : Int32)) hx hb hown w1 dX5_setReservoir_3 ?_
  obtain ⟨u1, ev1, hf⟩ := oexc_l hf
  refine xc_Sv (rest := []) ⟨hx, hb, hml, hown, hts⟩ (m_X5_checkRange l B0 G h p0 (100 : Int32) (60000 : Int32) ev1) (va_cwS 3 hts gX5_setReservoir_X5_checkRange rfl rfl rfl (by decide +kernel) ⟨Nat.le_of_ble_eq_true rfl, Nat.le_of_ble_eq_true rfl⟩) hKK hP hS rfl hl.1 rfl (Nat.le_of_ble_eq_true rfl) dX5_setReservoir_5 ⟨Nat.zero_le _, Nat.zero_le _⟩ (fun H locs hP hS => ?_)
  refine lv_iload_n hx hb dX5_setReservoir_8 rfl (lv_at hl 2 rfl) ?_
  refine lv_iconst (v := (0 : Int32)) hx hb dX5_setReservoir_9 (by decide) ?_
  refine lv_iload_n hx hb dX5_setReservoir_10 rfl (lv_at hl 1 rfl) ?_
  obtain ⟨u2, ev2, hf⟩ := oexc_l hf
  refine xc_Sv (rest := []) ⟨hx, hb, hml, hown, hts⟩ (m_X5_checkRange l B0 G h p1 (0 : Int32) p0 ev2) (va_cwS 3 hts gX5_setReservoir_X5_checkRange rfl rfl rfl (by decide +kernel) ⟨Nat.le_of_ble_eq_true rfl, Nat.le_of_ble_eq_true rfl⟩) hKK hP hS rfl hl.1 rfl (Nat.le_of_ble_eq_true rfl) dX5_setReservoir_11 ⟨Nat.zero_le _, Nat.zero_le _⟩ (fun H locs hP hS => ?_)
  refine lv_iload_n hx hb dX5_setReservoir_14 rfl (lv_at hl 3 rfl) ?_
  refine lv_iconst (v := (0 : Int32)) hx hb dX5_setReservoir_15 (by decide) ?_
  refine lv_iload_n hx hb dX5_setReservoir_16 rfl (lv_at hl 1 rfl) ?_
  obtain ⟨u3, ev3, hf⟩ := oexc_l hf
  refine xc_Sv (rest := []) ⟨hx, hb, hml, hown, hts⟩ (m_X5_checkRange l B0 G h p2 (0 : Int32) p0 ev3) (va_cwS 3 hts gX5_setReservoir_X5_checkRange rfl rfl rfl (by decide +kernel) ⟨Nat.le_of_ble_eq_true rfl, Nat.le_of_ble_eq_true rfl⟩) hKK hP hS rfl hl.1 rfl (Nat.le_of_ble_eq_true rfl) dX5_setReservoir_17 ⟨Nat.zero_le _, Nat.zero_le _⟩ (fun H locs hP hS => ?_)
  have hf := olift_l hf
  refine lv_aload_n hx hb dX5_setReservoir_20 rfl (lv_at hl 0 rfl) ?_
  obtain ⟨v4, ev4, hf⟩ := xb hf
  obtain ⟨h1, eh1, hf⟩ := xb1 hf
  refine xc_Vv (rest := []) ⟨hx, hb, hml, hown, hts⟩ (m_X5_save l B0 G fu h h1 a0 eh1) (cwV 0 hts gX5_setReservoir_X5_save rfl rfl rfl (by decide +kernel) ⟨Nat.le_of_ble_eq_true rfl, Nat.le_of_ble_eq_true rfl⟩) hKK hP hS ev4 rfl rfl hl.1 rfl (Nat.le_of_ble_eq_true rfl) dX5_setReservoir_21 ⟨Nat.zero_le _, Nat.zero_le _⟩ (fun H locs hP hS => ?_)
  refine lv_aload_n hx hb dX5_setReservoir_24 rfl (lv_at hl 0 rfl) ?_
  obtain ⟨v5, ev5, hf⟩ := xb hf
  refine xr_getR hx hb hts inX5 hown hKK hP ev5 rfl (by decide) w2 (fun _ h9 => h9) dX5_setReservoir_25 ?_
  obtain ⟨v6, ev6, hf⟩ := xb hf
  refine xr_getI hx hb hts inX2 hown hKK hP ev6 rfl (by decide) w3 (fun _ h9 => h9) dX5_setReservoir_28 ?_
  refine lv_istore (lv' := [(4, .int v6), (0, .ref a0), (1, .int p0), (2, .int p1), (3, .int p2)]) hx hb dX5_setReservoir_31 hl (by decide) rfl (fun ls hl => ?_)
  refine lv_aload_n hx hb dX5_setReservoir_33 rfl (lv_at hl 1 rfl) ?_
  obtain ⟨v7, ev7, hf⟩ := xb hf
  refine xr_getR hx hb hts inX5 hown hKK hP ev7 rfl (by decide) w2 (fun _ h9 => h9) dX5_setReservoir_34 ?_
  refine lv_iload_n hx hb dX5_setReservoir_37 rfl (lv_at hl 2 rfl) ?_
  obtain ⟨h2, eh2, hf⟩ := xb hf
  refine xr_put hx hb hts inX2 tyX2 tyX2_ok nmX2 hown hKK hP hS eh2 rfl (by decide) w3 (fun _ h9 => h9) rfl (tyX2_ok 0 (by decide)) rfl rfl dX5_setReservoir_38 (fun H locs hP _ hS => ?_)
  refine lv_aload_n hx hb dX5_setReservoir_41 rfl (lv_at hl 1 rfl) ?_
  obtain ⟨v8, ev8, hf⟩ := xb hf
  refine xr_getR hx hb hts inX5 hown hKK hP ev8 rfl (by decide) w2 (fun _ h9 => h9) dX5_setReservoir_42 ?_
  refine lv_iload_n hx hb dX5_setReservoir_45 rfl (lv_at hl 3 rfl) ?_
  obtain ⟨h3, eh3, hf⟩ := xb hf
  refine xr_put hx hb hts inX2 tyX2 tyX2_ok nmX2 hown hKK hP hS eh3 rfl (by decide) w4 (fun _ h9 => h9) rfl (tyX2_ok 1 (by decide)) rfl rfl dX5_setReservoir_46 (fun H locs hP _ hS => ?_)
  refine lv_aload_n hx hb dX5_setReservoir_49 rfl (lv_at hl 1 rfl) ?_
  obtain ⟨v9, ev9, hf⟩ := xb hf
  refine xr_getR hx hb hts inX5 hown hKK hP ev9 rfl (by decide) w2 (fun _ h9 => h9) dX5_setReservoir_50 ?_
  refine lv_iload_n hx hb dX5_setReservoir_53 rfl (lv_at hl 4 rfl) ?_
  obtain ⟨h4, eh4, hf⟩ := xb hf
  refine xr_put hx hb hts inX2 tyX2 tyX2_ok nmX2 hown hKK hP hS eh4 rfl (by decide) w5 (fun _ h9 => h9) rfl (tyX2_ok 2 (by decide)) rfl rfl dX5_setReservoir_54 (fun H locs hP _ hS => ?_)
  refine lv_aload_n hx hb dX5_setReservoir_57 rfl (lv_at hl 1 rfl) ?_
  obtain ⟨v10, ev10, hf⟩ := xb hf
  refine xr_getR hx hb hts inX5 hown hKK hP ev10 rfl (by decide) w2 (fun _ h9 => h9) dX5_setReservoir_58 ?_
  refine lv_dup hx hb dX5_setReservoir_61 rfl ?_
  obtain ⟨v11, ev11, hf⟩ := xb hf
  refine xr_getL hx hb hts inX2 hown hKK hP ev11 rfl (by decide) w6 (fun _ h9 => h9) dX5_setReservoir_62 ?_
  refine lv_aload_n hx hb dX5_setReservoir_65 rfl (lv_at hl 1 rfl) ?_
  obtain ⟨v12, ev12, hf⟩ := xb hf
  refine xr_getR hx hb hts inX5 hown hKK hP ev12 rfl (by decide) w2 (fun _ h9 => h9) dX5_setReservoir_66 ?_
  obtain ⟨v13, ev13, hf⟩ := xb hf
  obtain ⟨v14, h5, ev14, hf⟩ := xb2 hf
  refine xc_Vi (rest := [.long v11, .ref v10]) ⟨hx, hb, hml, hown, hts⟩ (m_X2_dropAboveCapacity l B0 G h4 h5 v12 v14 ev14) (cwV 0 hts gX5_setReservoir_X2_dropAboveCapacity rfl rfl rfl (by decide +kernel) ⟨Nat.le_of_ble_eq_true rfl, Nat.le_of_ble_eq_true rfl⟩) hKK hP hS ev13 rfl rfl hl.1 rfl (Nat.le_of_ble_eq_true rfl) dX5_setReservoir_69 ⟨Nat.zero_le _, Nat.zero_le _⟩ (fun H locs hP hS => ?_)
  refine lv_i2l hx hb dX5_setReservoir_72 rfl ?_
  refine lv_ladd hx hb dX5_setReservoir_73 ?_
  obtain ⟨h6, eh6, hf⟩ := xb hf
  refine xr_put hx hb hts inX2 tyX2 tyX2_ok nmX2 hown hKK hP hS eh6 rfl (by decide) w6 (fun _ h9 => h9) rfl (tyX2_ok 14 (by decide)) rfl rfl dX5_setReservoir_74 (fun H locs hP _ hS => ?_)
  refine lv_iload hx hb dX5_setReservoir_77 (lv_at hl 0 rfl) ?_
  obtain ⟨rfl, rfl⟩ := xinj2 hf
  subst hQ
  exact xe_i hx hb hr hlocks hKK hP hS dX5_setReservoir_79
/-- RainReservoir.setWays -/
def f_X5_setWays (fu : Nat) (h : XH) (a0 : Nat) (p0 : Int32) (p1 : Int32) (p2 : Int32) : Option ((Int32 × XH) ⊕ Nat) :=
  oexc (f_X5_checkRange p0 (0 : Int32) (100 : Int32)) fun u1 =>
  oexc (f_X5_checkRange p1 (1 : Int32) (20 : Int32)) fun u2 =>
  oexc (f_X5_checkRange p2 (0 : Int32) (3 : Int32)) fun u3 =>
  olift (
    (xis h a0 5).bind fun v4 =>
    obind1 (f_X5_save fu h a0) fun h1 =>
    (xgR h1 a0 5 0).bind fun v5 =>
    (xgI h1 v5 2 5).bind fun v6 =>
    (xgR h1 a0 5 0).bind fun v7 =>
    (xpV h1 v7 2 3 (.int p0)).bind fun h2 =>
    (xgR h2 a0 5 0).bind fun v8 =>
    (xpV h2 v8 2 4 (.int p1)).bind fun h3 =>
    (xgR h3 a0 5 0).bind fun v9 =>
    (xpV h3 v9 2 5 (.int p2)).bind fun h4 =>
    some ((v6, h4))
  )
abbrev rmX5_setWays : Room := { frames := 7, cells := 0, slots := 0, locals := 129 }
set_option maxHeartbeats 4000000 in
set_option maxRecDepth 100000 in
theorem m_X5_setWays (l : Launch) (B0 : Nat) (G : XG) (fu : Nat) (h hE : XH) (a0 : Nat) (p0 : Int32) (p1 : Int32) (p2 : Int32) (rE : Int32) (hf : f_X5_setWays fu h a0 p0 p1 p2 = some (.inl (rE, hE))) : Met l yX5_setWays wsX5_setWays rmX5_setWays (va_Pc [.ref a0, .int p0, .int p1, .int p2] (xU B0 G h)) (xQi B0 G hE rE) 0 0 (xA B0) := by
  refine xMet (cc := cX5_setWays) (maxL := 5) (by decide) rfl (Nat.le_of_ble_eq_true rfl) ?_
  intro p e s m args below meth c ls hx hb hr hml hown hlocks hnm hts hKK hP hl
  have hown : s.vm.findClass RX5 = some m.cls := hown
  have hl : lv_has ls 5 [(0, .ref a0), (1, .int p0), (2, .int p1), (3, .int p2)] := hl
  have hS : va_S (xA B0) s.heap s.heap [] := va_S.rf
  have inX2 : ∀ w ∈ wsX20, w ∈ wsX5_setWays := by decide +kernel
  have inX5 : ∀ w ∈ wsX50, w ∈ wsX5_setWays := by decide +kernel
  have w1 := hts (.fieldLink RX5 10 "RainReservoir" "now" "LRainReservoir$State;") (by decide +kernel)
  have w2 := hts (.fieldLink RX5 103 "RainReservoir$State" "rule" "I") (by decide +kernel)
  have w3 := hts (.fieldLink RX5 106 "RainReservoir$State" "evaporation" "I") (by decide +kernel)
  have w4 := hts (.fieldLink RX5 109 "RainReservoir$State" "dryLimit" "I") (by decide +kernel)
  generalize hQ : MQ below (xQi B0 G hE rE) args s 0 0 (xA B0) = Q
  unfold f_X5_setWays at hf
  refine lv_iload_n hx hb dX5_setWays_0 rfl (lv_at hl 1 rfl) ?_
  refine lv_iconst (v := (0 : Int32)) hx hb dX5_setWays_1 (by decide) ?_
  refine lv_bipush (v := (100 : Int32)) hx hb dX5_setWays_2 (by decide) ?_
  obtain ⟨u1, ev1, hf⟩ := oexc_l hf
  refine xc_Sv (rest := []) ⟨hx, hb, hml, hown, hts⟩ (m_X5_checkRange l B0 G h p0 (0 : Int32) (100 : Int32) ev1) (va_cwS 3 hts gX5_setWays_X5_checkRange rfl rfl rfl (by decide +kernel) ⟨Nat.le_of_ble_eq_true rfl, Nat.le_of_ble_eq_true rfl⟩) hKK hP hS rfl hl.1 rfl (Nat.le_of_ble_eq_true rfl) dX5_setWays_4 ⟨Nat.zero_le _, Nat.zero_le _⟩ (fun H locs hP hS => ?_)
  refine lv_iload_n hx hb dX5_setWays_7 rfl (lv_at hl 2 rfl) ?_
  refine lv_iconst (v := (1 : Int32)) hx hb dX5_setWays_8 (by decide) ?_
  refine lv_bipush (v := (20 : Int32)) hx hb dX5_setWays_9 (by decide) ?_
  obtain ⟨u2, ev2, hf⟩ := oexc_l hf
  refine xc_Sv (rest := []) ⟨hx, hb, hml, hown, hts⟩ (m_X5_checkRange l B0 G h p1 (1 : Int32) (20 : Int32) ev2) (va_cwS 3 hts gX5_setWays_X5_checkRange rfl rfl rfl (by decide +kernel) ⟨Nat.le_of_ble_eq_true rfl, Nat.le_of_ble_eq_true rfl⟩) hKK hP hS rfl hl.1 rfl (Nat.le_of_ble_eq_true rfl) dX5_setWays_11 ⟨Nat.zero_le _, Nat.zero_le _⟩ (fun H locs hP hS => ?_)
  refine lv_iload_n hx hb dX5_setWays_14 rfl (lv_at hl 3 rfl) ?_
  refine lv_iconst (v := (0 : Int32)) hx hb dX5_setWays_15 (by decide) ?_
  refine lv_iconst (v := (3 : Int32)) hx hb dX5_setWays_16 (by decide) ?_
  obtain ⟨u3, ev3, hf⟩ := oexc_l hf
  refine xc_Sv (rest := []) ⟨hx, hb, hml, hown, hts⟩ (m_X5_checkRange l B0 G h p2 (0 : Int32) (3 : Int32) ev3) (va_cwS 3 hts gX5_setWays_X5_checkRange rfl rfl rfl (by decide +kernel) ⟨Nat.le_of_ble_eq_true rfl, Nat.le_of_ble_eq_true rfl⟩) hKK hP hS rfl hl.1 rfl (Nat.le_of_ble_eq_true rfl) dX5_setWays_17 ⟨Nat.zero_le _, Nat.zero_le _⟩ (fun H locs hP hS => ?_)
  have hf := olift_l hf
  refine lv_aload_n hx hb dX5_setWays_20 rfl (lv_at hl 0 rfl) ?_
  obtain ⟨v4, ev4, hf⟩ := xb hf
  obtain ⟨h1, eh1, hf⟩ := xb1 hf
  refine xc_Vv (rest := []) ⟨hx, hb, hml, hown, hts⟩ (m_X5_save l B0 G fu h h1 a0 eh1) (cwV 0 hts gX5_setWays_X5_save rfl rfl rfl (by decide +kernel) ⟨Nat.le_of_ble_eq_true rfl, Nat.le_of_ble_eq_true rfl⟩) hKK hP hS ev4 rfl rfl hl.1 rfl (Nat.le_of_ble_eq_true rfl) dX5_setWays_21 ⟨Nat.zero_le _, Nat.zero_le _⟩ (fun H locs hP hS => ?_)
  refine lv_aload_n hx hb dX5_setWays_24 rfl (lv_at hl 0 rfl) ?_
  obtain ⟨v5, ev5, hf⟩ := xb hf
  refine xr_getR hx hb hts inX5 hown hKK hP ev5 rfl (by decide) w1 (fun _ h9 => h9) dX5_setWays_25 ?_
  obtain ⟨v6, ev6, hf⟩ := xb hf
  refine xr_getI hx hb hts inX2 hown hKK hP ev6 rfl (by decide) w2 (fun _ h9 => h9) dX5_setWays_28 ?_
  refine lv_istore (lv' := [(4, .int v6), (0, .ref a0), (1, .int p0), (2, .int p1), (3, .int p2)]) hx hb dX5_setWays_31 hl (by decide) rfl (fun ls hl => ?_)
  refine lv_aload_n hx hb dX5_setWays_33 rfl (lv_at hl 1 rfl) ?_
  obtain ⟨v7, ev7, hf⟩ := xb hf
  refine xr_getR hx hb hts inX5 hown hKK hP ev7 rfl (by decide) w1 (fun _ h9 => h9) dX5_setWays_34 ?_
  refine lv_iload_n hx hb dX5_setWays_37 rfl (lv_at hl 2 rfl) ?_
  obtain ⟨h2, eh2, hf⟩ := xb hf
  refine xr_put hx hb hts inX2 tyX2 tyX2_ok nmX2 hown hKK hP hS eh2 rfl (by decide) w3 (fun _ h9 => h9) rfl (tyX2_ok 3 (by decide)) rfl rfl dX5_setWays_38 (fun H locs hP _ hS => ?_)
  refine lv_aload_n hx hb dX5_setWays_41 rfl (lv_at hl 1 rfl) ?_
  obtain ⟨v8, ev8, hf⟩ := xb hf
  refine xr_getR hx hb hts inX5 hown hKK hP ev8 rfl (by decide) w1 (fun _ h9 => h9) dX5_setWays_42 ?_
  refine lv_iload_n hx hb dX5_setWays_45 rfl (lv_at hl 3 rfl) ?_
  obtain ⟨h3, eh3, hf⟩ := xb hf
  refine xr_put hx hb hts inX2 tyX2 tyX2_ok nmX2 hown hKK hP hS eh3 rfl (by decide) w4 (fun _ h9 => h9) rfl (tyX2_ok 4 (by decide)) rfl rfl dX5_setWays_46 (fun H locs hP _ hS => ?_)
  refine lv_aload_n hx hb dX5_setWays_49 rfl (lv_at hl 1 rfl) ?_
  obtain ⟨v9, ev9, hf⟩ := xb hf
  refine xr_getR hx hb hts inX5 hown hKK hP ev9 rfl (by decide) w1 (fun _ h9 => h9) dX5_setWays_50 ?_
  refine lv_iload_n hx hb dX5_setWays_53 rfl (lv_at hl 4 rfl) ?_
  obtain ⟨h4, eh4, hf⟩ := xb hf
  refine xr_put hx hb hts inX2 tyX2 tyX2_ok nmX2 hown hKK hP hS eh4 rfl (by decide) w2 (fun _ h9 => h9) rfl (tyX2_ok 5 (by decide)) rfl rfl dX5_setWays_54 (fun H locs hP _ hS => ?_)
  refine lv_iload hx hb dX5_setWays_57 (lv_at hl 0 rfl) ?_
  obtain ⟨rfl, rfl⟩ := xinj2 hf
  subst hQ
  exact xe_i hx hb hr hlocks hKK hP hS dX5_setWays_59
/-- RainReservoir.setting -/
def f_X5_setting (h : XH) (a0 : Nat) (p0 : Int32) : Option ((Int32) ⊕ Nat) :=
  oexc (f_X5_checkRange p0 (0 : Int32) (11 : Int32)) fun u1 =>
  olift (
    (xgR h a0 5 0).bind fun v2 =>
    (xis h v2 2).bind fun v3 =>
    obind1 (f_X2_settingValue h v2 p0) fun v4 =>
    some (v4)
  )
abbrev rmX5_setting : Room := { frames := 7, cells := 0, slots := 0, locals := 122 }
set_option maxHeartbeats 4000000 in
set_option maxRecDepth 100000 in
theorem m_X5_setting (l : Launch) (B0 : Nat) (G : XG) (h : XH) (a0 : Nat) (p0 : Int32) (rE : Int32) (hf : f_X5_setting h a0 p0 = some (.inl rE)) : Met l yX5_setting wsX5_setting rmX5_setting (va_Pc [.ref a0, .int p0] (xU B0 G h)) (xQi B0 G h rE) 0 0 (xA B0) := by
  refine xMet (cc := cX5_setting) (maxL := 2) (by decide) rfl (Nat.le_of_ble_eq_true rfl) ?_
  intro p e s m args below meth c ls hx hb hr hml hown hlocks hnm hts hKK hP hl
  have hown : s.vm.findClass RX5 = some m.cls := hown
  have hl : lv_has ls 2 [(0, .ref a0), (1, .int p0)] := hl
  have hS : va_S (xA B0) s.heap s.heap [] := va_S.rf
  have inX5 : ∀ w ∈ wsX50, w ∈ wsX5_setting := by decide +kernel
  have w1 := hts (.fieldLink RX5 10 "RainReservoir" "now" "LRainReservoir$State;") (by decide +kernel)
  generalize hQ : MQ below (xQi B0 G h rE) args s 0 0 (xA B0) = Q
  unfold f_X5_setting at hf
  refine lv_iload_n hx hb dX5_setting_0 rfl (lv_at hl 1 rfl) ?_
  refine lv_iconst (v := (0 : Int32)) hx hb dX5_setting_1 (by decide) ?_
  refine lv_bipush (v := (11 : Int32)) hx hb dX5_setting_2 (by decide) ?_
  obtain ⟨u1, ev1, hf⟩ := oexc_l hf
  refine xc_Sv (rest := []) ⟨hx, hb, hml, hown, hts⟩ (m_X5_checkRange l B0 G h p0 (0 : Int32) (11 : Int32) ev1) (va_cwS 3 hts gX5_setting_X5_checkRange rfl rfl rfl (by decide +kernel) ⟨Nat.le_of_ble_eq_true rfl, Nat.le_of_ble_eq_true rfl⟩) hKK hP hS rfl hl.1 rfl (Nat.le_of_ble_eq_true rfl) dX5_setting_4 ⟨Nat.zero_le _, Nat.zero_le _⟩ (fun H locs hP hS => ?_)
  have hf := olift_l hf
  refine lv_aload_n hx hb dX5_setting_7 rfl (lv_at hl 0 rfl) ?_
  obtain ⟨v2, ev2, hf⟩ := xb hf
  refine xr_getR hx hb hts inX5 hown hKK hP ev2 rfl (by decide) w1 (fun _ h9 => h9) dX5_setting_8 ?_
  refine lv_iload_n hx hb dX5_setting_11 rfl (lv_at hl 1 rfl) ?_
  obtain ⟨v3, ev3, hf⟩ := xb hf
  obtain ⟨v4, ev4, hf⟩ := xb1 hf
  refine xc_Vi (rest := []) ⟨hx, hb, hml, hown, hts⟩ (m_X2_settingValue l B0 G h v2 p0 v4 ev4) (cwV 1 hts gX5_setting_X2_settingValue rfl rfl rfl (by decide +kernel) ⟨Nat.le_of_ble_eq_true rfl, Nat.le_of_ble_eq_true rfl⟩) hKK hP hS ev3 rfl rfl hl.1 rfl (Nat.le_of_ble_eq_true rfl) dX5_setting_12 ⟨Nat.zero_le _, Nat.zero_le _⟩ (fun H locs hP hS => ?_)
  obtain rfl := Option.some.inj hf
  subst hQ
  exact xe_i hx hb hr hlocks hKK hP hS dX5_setting_15
/-- RainReservoir.checkIndex -/
def f_X5_checkIndex (p0 : Int32) (p1 : Int32) : Option ((Unit) ⊕ Nat) :=
  oletk (
    some (.inr 2)
  ) fun k1 =>
  if p0 < (0 : Int32) then
    k1
  else
    if p0 < p1 then
      olift (
        some (())
      )
    else
      k1
abbrev rmX5_checkIndex : Room := { frames := 6, cells := 0, slots := 0, locals := 100 }
set_option maxHeartbeats 4000000 in
set_option maxRecDepth 100000 in
theorem m_X5_checkIndex (l : Launch) (B0 : Nat) (G : XG) (h : XH) (p0 : Int32) (p1 : Int32) (hf : f_X5_checkIndex p0 p1 = some (.inl ())) : Met l yX5_checkIndex wsX5_checkIndex rmX5_checkIndex (va_Pc [.int p0, .int p1] (xU B0 G h)) (xQv B0 G h) 0 0 (xA B0) := by
  refine xMet (cc := cX5_checkIndex) (maxL := 2) (by decide) rfl (Nat.le_of_ble_eq_true rfl) ?_
  intro p e s m args below meth c ls hx hb hr hml hown hlocks hnm hts hKK hP hl
  have hown : s.vm.findClass RX5 = some m.cls := hown
  have hl : lv_has ls 2 [(0, .int p0), (1, .int p1)] := hl
  have hS : va_S (xA B0) s.heap s.heap [] := va_S.rf
  generalize hQ : MQ below (xQv B0 G h) args s 0 0 (xA B0) = Q
  unfold f_X5_checkIndex at hf
  refine lv_iload_n hx hb dX5_checkIndex_0 rfl (lv_at hl 0 rfl) ?_
  obtain ⟨k1, ek1, hf⟩ := xlk hf
  have J1 : k1 = some (.inl ()) → ∀ (H : Heap) (locs : List Loc) (ls : Array Slot), xP B0 G h H → va_S (xA B0) s.heap H locs → lv_has ls 2 [] → W p l e rmX5_checkIndex s m args below meth c H locs 0 0 Q (F0 m 9 ls []) := by
    intro  hf H locs ls hP hS hl
    have hf := xk0 ek1 hf
    clear ek1
    cases hf
  clear ek1
  refine lv_if_lt (tgt := 9) hx hb dX5_checkIndex_1 (by decide) (fun c1 => ?_) (fun c1 => ?_)
  · have hf := xif_t hf c1
    exact J1  hf _ _ _ hP hS (lv_sub hl [] rfl)
  · have hf := xif_f hf c1
    refine lv_iload_n hx hb dX5_checkIndex_4 rfl (lv_at hl 0 rfl) ?_
    refine lv_iload_n hx hb dX5_checkIndex_5 rfl (lv_at hl 1 rfl) ?_
    refine lv_icmp_lt (tgt := 19) hx hb dX5_checkIndex_6 (by decide) (fun c2 => ?_) (fun c2 => ?_)
    · have hf := xif_t hf c2
      have hf := olift_l hf
      subst hQ
      exact xe_v hx hb hr hlocks hKK hP hS dX5_checkIndex_19
    · have hf := xif_f hf c2
      exact J1  hf _ _ _ hP hS (lv_sub hl [] rfl)
/-- RainReservoir.roof -/
def f_X5_roof (h : XH) (a0 : Nat) (p0 : Int32) (p1 : Int32) : Option ((Int32) ⊕ Nat) :=
  (xgR h a0 5 0).bind fun v1 =>
  (xgI h v1 2 7).bind fun v2 =>
  oexc (f_X5_checkIndex p0 v2) fun u1 =>
  oexc (f_X5_checkRange p1 (0 : Int32) (4 : Int32)) fun u2 =>
  olift (
    (xgR h a0 5 0).bind fun v5 =>
    (xgR h v5 2 6).bind fun v6 =>
    (xaldR h v6 3 p0).bind fun v7 =>
    (xis h v7 1).bind fun v8 =>
    obind1 (f_X1_value h v7 p1) fun v9 =>
    some (v9)
  )
abbrev rmX5_roof : Room := { frames := 7, cells := 0, slots := 0, locals := 122 }
set_option maxHeartbeats 4000000 in
set_option maxRecDepth 100000 in
theorem m_X5_roof (l : Launch) (B0 : Nat) (G : XG) (h : XH) (a0 : Nat) (p0 : Int32) (p1 : Int32) (rE : Int32) (hf : f_X5_roof h a0 p0 p1 = some (.inl rE)) : Met l yX5_roof wsX5_roof rmX5_roof (va_Pc [.ref a0, .int p0, .int p1] (xU B0 G h)) (xQi B0 G h rE) 0 0 (xA B0) := by
  refine xMet (cc := cX5_roof) (maxL := 3) (by decide) rfl (Nat.le_of_ble_eq_true rfl) ?_
  intro p e s m args below meth c ls hx hb hr hml hown hlocks hnm hts hKK hP hl
  have hown : s.vm.findClass RX5 = some m.cls := hown
  have hl : lv_has ls 3 [(0, .ref a0), (1, .int p0), (2, .int p1)] := hl
  have hS : va_S (xA B0) s.heap s.heap [] := va_S.rf
  have inX2 : ∀ w ∈ wsX20, w ∈ wsX5_roof := by decide +kernel
  have inX5 : ∀ w ∈ wsX50, w ∈ wsX5_roof := by decide +kernel
  have w1 := hts (.fieldLink RX5 10 "RainReservoir" "now" "LRainReservoir$State;") (by decide +kernel)
  have w2 := hts (.fieldLink RX5 35 "RainReservoir$State" "roofCount" "I") (by decide +kernel)
  have w3 := hts (.fieldLink RX5 49 "RainReservoir$State" "roofs" "[LRainReservoir$Roof;") (by decide +kernel)
  generalize hQ : MQ below (xQi B0 G h rE) args s 0 0 (xA B0) = Q
  unfold f_X5_roof at hf
  refine lv_iload_n hx hb dX5_roof_0 rfl (lv_at hl 1 rfl) ?_
  refine lv_aload_n hx hb dX5_roof_1 rfl (lv_at hl 0 rfl) ?_
  obtain ⟨v1, ev1, hf⟩ := xb hf
  refine xr_getR hx hb hts inX5 hown hKK hP ev1 rfl (by decide) w1 (fun _ h9 => h9) dX5_roof_2 ?_
  obtain ⟨v2, ev2, hf⟩ := xb hf
  refine xr_getI hx hb hts inX2 hown hKK hP ev2 rfl (by decide) w2 (fun _ h9 => h9) dX5_roof_5 ?_
  obtain ⟨u1, ev3, hf⟩ := oexc_l hf
  refine xc_Sv (rest := []) ⟨hx, hb, hml, hown, hts⟩ (m_X5_checkIndex l B0 G h p0 v2 ev3) (va_cwS 2 hts gX5_roof_X5_checkIndex rfl rfl rfl (by decide +kernel) ⟨Nat.le_of_ble_eq_true rfl, Nat.le_of_ble_eq_true rfl⟩) hKK hP hS rfl hl.1 rfl (Nat.le_of_ble_eq_true rfl) dX5_roof_8 ⟨Nat.zero_le _, Nat.zero_le _⟩ (fun H locs hP hS => ?_)
  refine lv_iload_n hx hb dX5_roof_11 rfl (lv_at hl 2 rfl) ?_
  refine lv_iconst (v := (0 : Int32)) hx hb dX5_roof_12 (by decide) ?_
  refine lv_iconst (v := (4 : Int32)) hx hb dX5_roof_13 (by decide) ?_
  obtain ⟨u2, ev4, hf⟩ := oexc_l hf
  refine xc_Sv (rest := []) ⟨hx, hb, hml, hown, hts⟩ (m_X5_checkRange l B0 G h p1 (0 : Int32) (4 : Int32) ev4) (va_cwS 3 hts gX5_roof_X5_checkRange rfl rfl rfl (by decide +kernel) ⟨Nat.le_of_ble_eq_true rfl, Nat.le_of_ble_eq_true rfl⟩) hKK hP hS rfl hl.1 rfl (Nat.le_of_ble_eq_true rfl) dX5_roof_14 ⟨Nat.zero_le _, Nat.zero_le _⟩ (fun H locs hP hS => ?_)
  have hf := olift_l hf
  refine lv_aload_n hx hb dX5_roof_17 rfl (lv_at hl 0 rfl) ?_
  obtain ⟨v5, ev5, hf⟩ := xb hf
  refine xr_getR hx hb hts inX5 hown hKK hP ev5 rfl (by decide) w1 (fun _ h9 => h9) dX5_roof_18 ?_
  obtain ⟨v6, ev6, hf⟩ := xb hf
  refine xr_getR hx hb hts inX2 hown hKK hP ev6 rfl (by decide) w3 (fun _ h9 => h9) dX5_roof_21 ?_
  refine lv_iload_n hx hb dX5_roof_24 rfl (lv_at hl 1 rfl) ?_
  obtain ⟨v7, ev7, hf⟩ := xb hf
  refine xr_aald (fun _ => rfl) hx hb hKK hP ev7 dX5_roof_25 ?_
  refine lv_iload_n hx hb dX5_roof_26 rfl (lv_at hl 2 rfl) ?_
  obtain ⟨v8, ev8, hf⟩ := xb hf
  obtain ⟨v9, ev9, hf⟩ := xb1 hf
  refine xc_Vi (rest := []) ⟨hx, hb, hml, hown, hts⟩ (m_X1_value l B0 G h v7 p1 v9 ev9) (cwV 1 hts gX5_roof_X1_value rfl rfl rfl (by decide +kernel) ⟨Nat.le_of_ble_eq_true rfl, Nat.le_of_ble_eq_true rfl⟩) hKK hP hS ev8 rfl rfl hl.1 rfl (Nat.le_of_ble_eq_true rfl) dX5_roof_27 ⟨Nat.zero_le _, Nat.zero_le _⟩ (fun H locs hP hS => ?_)
  obtain rfl := Option.some.inj hf
  subst hQ
  exact xe_i hx hb hr hlocks hKK hP hS dX5_roof_30
/-- RainReservoir.user -/
def f_X5_user (h : XH) (a0 : Nat) (p0 : Int32) (p1 : Int32) : Option ((Int32) ⊕ Nat) :=
  (xgR h a0 5 0).bind fun v1 =>
  (xgR h v1 2 8).bind fun v2 =>
  (xgI h v2 4 1).bind fun v3 =>
  oexc (f_X5_checkIndex p0 v3) fun u1 =>
  oexc (f_X5_checkRange p1 (0 : Int32) (3 : Int32)) fun u2 =>
  olift (
    (xgR h a0 5 0).bind fun v6 =>
    (xgR h v6 2 8).bind fun v7 =>
    (xgR h v7 4 0).bind fun v8 =>
    (xaldR h v8 5 p0).bind fun v9 =>
    (xis h v9 3).bind fun v10 =>
    obind1 (f_X3_value h v9 p1) fun v11 =>
    some (v11)
  )
abbrev rmX5_user : Room := { frames := 7, cells := 0, slots := 0, locals := 122 }
set_option maxHeartbeats 4000000 in
set_option maxRecDepth 100000 in
theorem m_X5_user (l : Launch) (B0 : Nat) (G : XG) (h : XH) (a0 : Nat) (p0 : Int32) (p1 : Int32) (rE : Int32) (hf : f_X5_user h a0 p0 p1 = some (.inl rE)) : Met l yX5_user wsX5_user rmX5_user (va_Pc [.ref a0, .int p0, .int p1] (xU B0 G h)) (xQi B0 G h rE) 0 0 (xA B0) := by
  refine xMet (cc := cX5_user) (maxL := 3) (by decide) rfl (Nat.le_of_ble_eq_true rfl) ?_
  intro p e s m args below meth c ls hx hb hr hml hown hlocks hnm hts hKK hP hl
  have hown : s.vm.findClass RX5 = some m.cls := hown
  have hl : lv_has ls 3 [(0, .ref a0), (1, .int p0), (2, .int p1)] := hl
  have hS : va_S (xA B0) s.heap s.heap [] := va_S.rf
  have inX2 : ∀ w ∈ wsX20, w ∈ wsX5_user := by decide +kernel
  have inX4 : ∀ w ∈ wsX40, w ∈ wsX5_user := by decide +kernel
  have inX5 : ∀ w ∈ wsX50, w ∈ wsX5_user := by decide +kernel
  have w1 := hts (.fieldLink RX5 10 "RainReservoir" "now" "LRainReservoir$State;") (by decide +kernel)
  have w2 := hts (.fieldLink RX5 59 "RainReservoir$State" "users" "LRainReservoir$Users;") (by decide +kernel)
  have w3 := hts (.fieldLink RX5 63 "RainReservoir$Users" "count" "I") (by decide +kernel)
  have w4 := hts (.fieldLink RX5 70 "RainReservoir$Users" "rows" "[LRainReservoir$User;") (by decide +kernel)
  generalize hQ : MQ below (xQi B0 G h rE) args s 0 0 (xA B0) = Q
  unfold f_X5_user at hf
  refine lv_iload_n hx hb dX5_user_0 rfl (lv_at hl 1 rfl) ?_
  refine lv_aload_n hx hb dX5_user_1 rfl (lv_at hl 0 rfl) ?_
  obtain ⟨v1, ev1, hf⟩ := xb hf
  refine xr_getR hx hb hts inX5 hown hKK hP ev1 rfl (by decide) w1 (fun _ h9 => h9) dX5_user_2 ?_
  obtain ⟨v2, ev2, hf⟩ := xb hf
  refine xr_getR hx hb hts inX2 hown hKK hP ev2 rfl (by decide) w2 (fun _ h9 => h9) dX5_user_5 ?_
  obtain ⟨v3, ev3, hf⟩ := xb hf
  refine xr_getI hx hb hts inX4 hown hKK hP ev3 rfl (by decide) w3 (fun _ h9 => h9) dX5_user_8 ?_
  obtain ⟨u1, ev4, hf⟩ := oexc_l hf
  refine xc_Sv (rest := []) ⟨hx, hb, hml, hown, hts⟩ (m_X5_checkIndex l B0 G h p0 v3 ev4) (va_cwS 2 hts gX5_user_X5_checkIndex rfl rfl rfl (by decide +kernel) ⟨Nat.le_of_ble_eq_true rfl, Nat.le_of_ble_eq_true rfl⟩) hKK hP hS rfl hl.1 rfl (Nat.le_of_ble_eq_true rfl) dX5_user_11 ⟨Nat.zero_le _, Nat.zero_le _⟩ (fun H locs hP hS => ?_)
  refine lv_iload_n hx hb dX5_user_14 rfl (lv_at hl 2 rfl) ?_
  refine lv_iconst (v := (0 : Int32)) hx hb dX5_user_15 (by decide) ?_
  refine lv_iconst (v := (3 : Int32)) hx hb dX5_user_16 (by decide) ?_
  obtain ⟨u2, ev5, hf⟩ := oexc_l hf
  refine xc_Sv (rest := []) ⟨hx, hb, hml, hown, hts⟩ (m_X5_checkRange l B0 G h p1 (0 : Int32) (3 : Int32) ev5) (va_cwS 3 hts gX5_user_X5_checkRange rfl rfl rfl (by decide +kernel) ⟨Nat.le_of_ble_eq_true rfl, Nat.le_of_ble_eq_true rfl⟩) hKK hP hS rfl hl.1 rfl (Nat.le_of_ble_eq_true rfl) dX5_user_17 ⟨Nat.zero_le _, Nat.zero_le _⟩ (fun H locs hP hS => ?_)
  have hf := olift_l hf
  refine lv_aload_n hx hb dX5_user_20 rfl (lv_at hl 0 rfl) ?_
  obtain ⟨v6, ev6, hf⟩ := xb hf
  refine xr_getR hx hb hts inX5 hown hKK hP ev6 rfl (by decide) w1 (fun _ h9 => h9) dX5_user_21 ?_
  obtain ⟨v7, ev7, hf⟩ := xb hf
  refine xr_getR hx hb hts inX2 hown hKK hP ev7 rfl (by decide) w2 (fun _ h9 => h9) dX5_user_24 ?_
  obtain ⟨v8, ev8, hf⟩ := xb hf
  refine xr_getR hx hb hts inX4 hown hKK hP ev8 rfl (by decide) w4 (fun _ h9 => h9) dX5_user_27 ?_
  refine lv_iload_n hx hb dX5_user_30 rfl (lv_at hl 1 rfl) ?_
  obtain ⟨v9, ev9, hf⟩ := xb hf
  refine xr_aald (fun _ => rfl) hx hb hKK hP ev9 dX5_user_31 ?_
  refine lv_iload_n hx hb dX5_user_32 rfl (lv_at hl 2 rfl) ?_
  obtain ⟨v10, ev10, hf⟩ := xb hf
  obtain ⟨v11, ev11, hf⟩ := xb1 hf
  refine xc_Vi (rest := []) ⟨hx, hb, hml, hown, hts⟩ (m_X3_value l B0 G h v9 p1 v11 ev11) (cwV 1 hts gX5_user_X3_value rfl rfl rfl (by decide +kernel) ⟨Nat.le_of_ble_eq_true rfl, Nat.le_of_ble_eq_true rfl⟩) hKK hP hS ev10 rfl rfl hl.1 rfl (Nat.le_of_ble_eq_true rfl) dX5_user_33 ⟨Nat.zero_le _, Nat.zero_le _⟩ (fun H locs hP hS => ?_)
  obtain rfl := Option.some.inj hf
  subst hQ
  exact xe_i hx hb hr hlocks hKK hP hS dX5_user_36
/-- RainReservoir.checkRoomForDays -/
def f_X5_checkRoomForDays (h : XH) (a0 : Nat) (p0 : Int32) : Option ((Unit) ⊕ Nat) :=
  (xgR h a0 5 0).bind fun v1 =>
  (xgI h v1 2 10).bind fun v2 =>
  if (v2 + p0) ≤ (100 : Int32) then
    olift (
      some (())
    )
  else
    some (.inr 1)
abbrev rmX5_checkRoomForDays : Room := { frames := 6, cells := 0, slots := 0, locals := 100 }
set_option maxHeartbeats 4000000 in
set_option maxRecDepth 100000 in
theorem m_X5_checkRoomForDays (l : Launch) (B0 : Nat) (G : XG) (h : XH) (a0 : Nat) (p0 : Int32) (hf : f_X5_checkRoomForDays h a0 p0 = some (.inl ())) : Met l yX5_checkRoomForDays wsX5_checkRoomForDays rmX5_checkRoomForDays (va_Pc [.ref a0, .int p0] (xU B0 G h)) (xQv B0 G h) 0 0 (xA B0) := by
  refine xMet (cc := cX5_checkRoomForDays) (maxL := 2) (by decide) rfl (Nat.le_of_ble_eq_true rfl) ?_
  intro p e s m args below meth c ls hx hb hr hml hown hlocks hnm hts hKK hP hl
  have hown : s.vm.findClass RX5 = some m.cls := hown
  have hl : lv_has ls 2 [(0, .ref a0), (1, .int p0)] := hl
  have hS : va_S (xA B0) s.heap s.heap [] := va_S.rf
  have inX2 : ∀ w ∈ wsX20, w ∈ wsX5_checkRoomForDays := by decide +kernel
  have inX5 : ∀ w ∈ wsX50, w ∈ wsX5_checkRoomForDays := by decide +kernel
  have w1 := hts (.fieldLink RX5 10 "RainReservoir" "now" "LRainReservoir$State;") (by decide +kernel)
  have w2 := hts (.fieldLink RX5 127 "RainReservoir$State" "rainCount" "I") (by decide +kernel)
  generalize hQ : MQ below (xQv B0 G h) args s 0 0 (xA B0) = Q
  unfold f_X5_checkRoomForDays at hf
  refine lv_aload_n hx hb dX5_checkRoomForDays_0 rfl (lv_at hl 0 rfl) ?_
  obtain ⟨v1, ev1, hf⟩ := xb hf
  refine xr_getR hx hb hts inX5 hown hKK hP ev1 rfl (by decide) w1 (fun _ h9 => h9) dX5_checkRoomForDays_1 ?_
  obtain ⟨v2, ev2, hf⟩ := xb hf
  refine xr_getI hx hb hts inX2 hown hKK hP ev2 rfl (by decide) w2 (fun _ h9 => h9) dX5_checkRoomForDays_4 ?_
  refine lv_iload_n hx hb dX5_checkRoomForDays_7 rfl (lv_at hl 1 rfl) ?_
  refine lv_iadd hx hb dX5_checkRoomForDays_8 ?_
  refine lv_bipush (v := (100 : Int32)) hx hb dX5_checkRoomForDays_9 (by decide) ?_
  refine lv_icmp_le (tgt := 24) hx hb dX5_checkRoomForDays_11 (by decide) (fun c1 => ?_) (fun c1 => ?_)
  · have hf := xif_t hf c1
    have hf := olift_l hf
    subst hQ
    exact xe_v hx hb hr hlocks hKK hP hS dX5_checkRoomForDays_24
  · have hf := xif_f hf c1
    cases hf
/-- RainReservoir.addRandomRain -/
def f_X5_addRandomRain (fu : Nat) (h : XH) (a0 : Nat) (p0 : Int32) (p1 : Int32) (p2 : Int32) (p3 : Int32) : Option ((Int32 × XH) ⊕ Nat) :=
  oexc (f_X5_checkRange p0 (0 : Int32) (999999 : Int32)) fun u1 =>
  oexc (f_X5_checkRange p1 (1 : Int32) (100 : Int32)) fun u2 =>
  oexc (f_X5_checkRange p2 (0 : Int32) (100 : Int32)) fun u3 =>
  oexc (f_X5_checkRange p3 (1 : Int32) (200 : Int32)) fun u4 =>
  (xis h a0 5).bind fun v5 =>
  oexc (f_X5_checkRoomForDays h a0 p1) fun u5 =>
  olift (
    (xis h a0 5).bind fun v7 =>
    obind1 (f_X5_save fu h a0) fun h1 =>
    olet ((Int32.toInt64 p0)) fun v8 =>
    obind1 (xloop (xf3 fun (v9 : Int64) (v10 : Int32) (h2 : XH) =>
      if p1 ≤ v10 then
        some (.inr h2)
      else
        obind1 (f_X5_nextRandom v9) fun v11 =>
        obind2 (
          if (Int32.toInt64 p2) ≤ (xremL (v11 / (65536 : Int64)) (100 : Int64)) then
            some (v11, (0 : Int32))
          else
            obind1 (f_X5_nextRandom v11) fun v14 =>
            (xnzL (Int32.toInt64 p3)).bind fun v15 =>
            olet (((1 : Int32) + (Int64.toInt32 (xremL (v14 / (65536 : Int64)) (Int32.toInt64 p3))))) fun v16 =>
            some (v14, v16)
        ) fun v12 v13 =>
        (xgR h2 a0 5 0).bind fun v17 =>
        (xis h2 v17 2).bind fun v18 =>
        obind1 (f_X2_putRain h2 v17 v13) fun h4 =>
        olet (v10 + (1 : Int32)) fun v19 =>
        some (.inl (v12, v19, h4))
    ) fu (v8, (0 : Int32), h1)) fun h3 =>
    (xgR h3 a0 5 0).bind fun v20 =>
    (xgI h3 v20 2 10).bind fun v21 =>
    some ((v21, h3))
  )
abbrev rmX5_addRandomRain : Room := { frames := 7, cells := 0, slots := 0, locals := 129 }
set_option maxHeartbeats 4000000 in
set_option maxRecDepth 100000 in
theorem m_X5_addRandomRain (l : Launch) (B0 : Nat) (G : XG) (fu : Nat) (h hE : XH) (a0 : Nat) (p0 : Int32) (p1 : Int32) (p2 : Int32) (p3 : Int32) (rE : Int32) (hf : f_X5_addRandomRain fu h a0 p0 p1 p2 p3 = some (.inl (rE, hE))) : Met l yX5_addRandomRain wsX5_addRandomRain rmX5_addRandomRain (va_Pc [.ref a0, .int p0, .int p1, .int p2, .int p3] (xU B0 G h)) (xQi B0 G hE rE) 0 0 (xA B0) := by
  refine xMet (cc := cX5_addRandomRain) (maxL := 9) (by decide) rfl (Nat.le_of_ble_eq_true rfl) ?_
  intro p e s m args below meth c ls hx hb hr hml hown hlocks hnm hts hKK hP hl
  have hown : s.vm.findClass RX5 = some m.cls := hown
  have hl : lv_has ls 9 [(0, .ref a0), (1, .int p0), (2, .int p1), (3, .int p2), (4, .int p3)] := hl
  have hS : va_S (xA B0) s.heap s.heap [] := va_S.rf
  have inX2 : ∀ w ∈ wsX20, w ∈ wsX5_addRandomRain := by decide +kernel
  have inX5 : ∀ w ∈ wsX50, w ∈ wsX5_addRandomRain := by decide +kernel
  have w1 := hts (.constant RX5 130 (999999)) (by decide +kernel)
  have w2 := hts (.constantLong RX5 135 (65536)) (by decide +kernel)
  have w3 := hts (.constantLong RX5 137 (100)) (by decide +kernel)
  have w4 := hts (.fieldLink RX5 10 "RainReservoir" "now" "LRainReservoir$State;") (by decide +kernel)
  have w5 := hts (.fieldLink RX5 127 "RainReservoir$State" "rainCount" "I") (by decide +kernel)
  generalize hQ : MQ below (xQi B0 G hE rE) args s 0 0 (xA B0) = Q
  unfold f_X5_addRandomRain at hf
  refine lv_iload_n hx hb dX5_addRandomRain_0 rfl (lv_at hl 1 rfl) ?_
  refine lv_iconst (v := (0 : Int32)) hx hb dX5_addRandomRain_1 (by decide) ?_
  refine lv_ldc (v := (999999 : Int32)) hx hb hown w1 dX5_addRandomRain_2 ?_
  obtain ⟨u1, ev1, hf⟩ := oexc_l hf
  refine xc_Sv (rest := []) ⟨hx, hb, hml, hown, hts⟩ (m_X5_checkRange l B0 G h p0 (0 : Int32) (999999 : Int32) ev1) (va_cwS 3 hts gX5_addRandomRain_X5_checkRange rfl rfl rfl (by decide +kernel) ⟨Nat.le_of_ble_eq_true rfl, Nat.le_of_ble_eq_true rfl⟩) hKK hP hS rfl hl.1 rfl (Nat.le_of_ble_eq_true rfl) dX5_addRandomRain_4 ⟨Nat.zero_le _, Nat.zero_le _⟩ (fun H locs hP hS => ?_)
  refine lv_iload_n hx hb dX5_addRandomRain_7 rfl (lv_at hl 2 rfl) ?_
  refine lv_iconst (v := (1 : Int32)) hx hb dX5_addRandomRain_8 (by decide) ?_
  refine lv_bipush (v := (100 : Int32)) hx hb dX5_addRandomRain_9 (by decide) ?_
  obtain ⟨u2, ev2, hf⟩ := oexc_l hf
  refine xc_Sv (rest := []) ⟨hx, hb, hml, hown, hts⟩ (m_X5_checkRange l B0 G h p1 (1 : Int32) (100 : Int32) ev2) (va_cwS 3 hts gX5_addRandomRain_X5_checkRange rfl rfl rfl (by decide +kernel) ⟨Nat.le_of_ble_eq_true rfl, Nat.le_of_ble_eq_true rfl⟩) hKK hP hS rfl hl.1 rfl (Nat.le_of_ble_eq_true rfl) dX5_addRandomRain_11 ⟨Nat.zero_le _, Nat.zero_le _⟩ (fun H locs hP hS => ?_)
  refine lv_iload_n hx hb dX5_addRandomRain_14 rfl (lv_at hl 3 rfl) ?_
  refine lv_iconst (v := (0 : Int32)) hx hb dX5_addRandomRain_15 (by decide) ?_
  refine lv_bipush (v := (100 : Int32)) hx hb dX5_addRandomRain_16 (by decide) ?_
  obtain ⟨u3, ev3, hf⟩ := oexc_l hf
  refine xc_Sv (rest := []) ⟨hx, hb, hml, hown, hts⟩ (m_X5_checkRange l B0 G h p2 (0 : Int32) (100 : Int32) ev3) (va_cwS 3 hts gX5_addRandomRain_X5_checkRange rfl rfl rfl (by decide +kernel) ⟨Nat.le_of_ble_eq_true rfl, Nat.le_of_ble_eq_true rfl⟩) hKK hP hS rfl hl.1 rfl (Nat.le_of_ble_eq_true rfl) dX5_addRandomRain_18 ⟨Nat.zero_le _, Nat.zero_le _⟩ (fun H locs hP hS => ?_)
  refine lv_iload hx hb dX5_addRandomRain_21 (lv_at hl 4 rfl) ?_
  refine lv_iconst (v := (1 : Int32)) hx hb dX5_addRandomRain_23 (by decide) ?_
  refine lv_sipush (v := (200 : Int32)) hx hb dX5_addRandomRain_24 (by decide) ?_
  obtain ⟨u4, ev4, hf⟩ := oexc_l hf
  refine xc_Sv (rest := []) ⟨hx, hb, hml, hown, hts⟩ (m_X5_checkRange l B0 G h p3 (1 : Int32) (200 : Int32) ev4) (va_cwS 3 hts gX5_addRandomRain_X5_checkRange rfl rfl rfl (by decide +kernel) ⟨Nat.le_of_ble_eq_true rfl, Nat.le_of_ble_eq_true rfl⟩) hKK hP hS rfl hl.1 rfl (Nat.le_of_ble_eq_true rfl) dX5_addRandomRain_27 ⟨Nat.zero_le _, Nat.zero_le _⟩ (fun H locs hP hS => ?_)
  refine lv_aload_n hx hb dX5_addRandomRain_30 rfl (lv_at hl 0 rfl) ?_
  refine lv_iload_n hx hb dX5_addRandomRain_31 rfl (lv_at hl 2 rfl) ?_
  obtain ⟨v5, ev5, hf⟩ := xb hf
  obtain ⟨u5, ev6, hf⟩ := oexc_l hf
  refine xc_Vv (rest := []) ⟨hx, hb, hml, hown, hts⟩ (m_X5_checkRoomForDays l B0 G h a0 p1 ev6) (cwV 1 hts gX5_addRandomRain_X5_checkRoomForDays rfl rfl rfl (by decide +kernel) ⟨Nat.le_of_ble_eq_true rfl, Nat.le_of_ble_eq_true rfl⟩) hKK hP hS ev5 rfl rfl hl.1 rfl (Nat.le_of_ble_eq_true rfl) dX5_addRandomRain_32 ⟨Nat.zero_le _, Nat.zero_le _⟩ (fun H locs hP hS => ?_)
  have hf := olift_l hf
  refine lv_aload_n hx hb dX5_addRandomRain_35 rfl (lv_at hl 0 rfl) ?_
  obtain ⟨v7, ev7, hf⟩ := xb hf
  obtain ⟨h1, eh1, hf⟩ := xb1 hf
  refine xc_Vv (rest := []) ⟨hx, hb, hml, hown, hts⟩ (m_X5_save l B0 G fu h h1 a0 eh1) (cwV 0 hts gX5_addRandomRain_X5_save rfl rfl rfl (by decide +kernel) ⟨Nat.le_of_ble_eq_true rfl, Nat.le_of_ble_eq_true rfl⟩) hKK hP hS ev7 rfl rfl hl.1 rfl (Nat.le_of_ble_eq_true rfl) dX5_addRandomRain_36 ⟨Nat.zero_le _, Nat.zero_le _⟩ (fun H locs hP hS => ?_)
  refine lv_iload_n hx hb dX5_addRandomRain_39 rfl (lv_at hl 1 rfl) ?_
  refine lv_i2l hx hb dX5_addRandomRain_40 rfl ?_
  obtain ⟨v8, ev8, hf⟩ := xl hf
  refine xtopl ev8 ?_
  refine lv_lstore (lv' := [(5, .long v8), (0, .ref a0), (1, .int p0), (2, .int p1), (3, .int p2), (4, .int p3)]) hx hb dX5_addRandomRain_41 hl (by decide) rfl (fun ls hl => ?_)
  refine lv_iconst (v := (0 : Int32)) hx hb dX5_addRandomRain_43 (by decide) ?_
  refine lv_istore (lv' := [(7, .int (0 : Int32)), (5, .long v8), (0, .ref a0), (1, .int p0), (2, .int p1), (3, .int p2), (4, .int p3)]) hx hb dX5_addRandomRain_44 hl (by decide) rfl (fun ls hl => ?_)
  obtain ⟨h3, eL, hf⟩ := xb1 hf
  have J1 : ∀ (H : Heap) (locs : List Loc) (ls : Array Slot), xP B0 G h3 H → va_S (xA B0) s.heap H locs → lv_has ls 9 [(0, .ref a0)] → W p l e rmX5_addRandomRain s m args below meth c H locs 0 0 Q (F0 m 115 ls []) := by
    intro H locs ls hP hS hl
    clear eL
    refine lv_aload_n hx hb dX5_addRandomRain_115 rfl (lv_at hl 0 rfl) ?_
    obtain ⟨v20, ev20, hf⟩ := xb hf
    refine xr_getR hx hb hts inX5 hown hKK hP ev20 rfl (by decide) w4 (fun _ h9 => h9) dX5_addRandomRain_116 ?_
    obtain ⟨v21, ev21, hf⟩ := xb hf
    refine xr_getI hx hb hts inX2 hown hKK hP ev21 rfl (by decide) w5 (fun _ h9 => h9) dX5_addRandomRain_119 ?_
    obtain ⟨rfl, rfl⟩ := xinj2 hf
    subst hQ
    exact xe_i hx hb hr hlocks hKK hP hS dX5_addRandomRain_122
  clear hf
  refine xloop_ind (P := fun z => ∀ (H : Heap) (locs : List Loc) (ls : Array Slot), xP B0 G z.2.2 H → va_S (xA B0) s.heap H locs → lv_has ls 9 [(5, .long z.1), (7, .int z.2.1), (0, .ref a0), (2, .int p1), (3, .int p2), (4, .int p3)] → W p l e rmX5_addRandomRain s m args below meth c H locs 0 0 Q (F0 m 46 ls [])) ?_ eL _ _ _ hP hS (lv_sub hl [1, 0, 2, 4, 5, 6] rfl)
  rintro ⟨v9, v10, h2⟩ o hf IH EX H locs ls hP hS hl
  have hf := xf3_e hf
  have hP : xP B0 G h2 H := hP
  have hl : lv_has ls 9 [(5, .long v9), (7, .int v10), (0, .ref a0), (2, .int p1), (3, .int p2), (4, .int p3)] := hl
  refine lv_iload hx hb dX5_addRandomRain_46 (lv_at hl 1 rfl) ?_
  refine lv_iload_n hx hb dX5_addRandomRain_48 rfl (lv_at hl 3 rfl) ?_
  refine lv_icmp_ge (tgt := 115) hx hb dX5_addRandomRain_49 (by decide) (fun c1 => ?_) (fun c1 => ?_)
  · have hf := xif_t hf c1
    have hf := EX _ (Option.some.inj hf).symm
    obtain rfl := hf
    exact J1 _ _ _ hP hS (lv_sub hl [2] rfl)
  · have hf := xif_f hf c1
    refine lv_iconst (v := (0 : Int32)) hx hb dX5_addRandomRain_52 (by decide) ?_
    refine lv_istore (lv' := [(8, .int (0 : Int32)), (5, .long v9), (7, .int v10), (0, .ref a0), (2, .int p1), (3, .int p2), (4, .int p3)]) hx hb dX5_addRandomRain_53 hl (by decide) rfl (fun ls hl => ?_)
    refine lv_lload hx hb dX5_addRandomRain_55 (lv_at hl 1 rfl) ?_
    obtain ⟨v11, ev11, hf⟩ := xb1 hf
    refine xc_Sl (rest := []) ⟨hx, hb, hml, hown, hts⟩ (m_X5_nextRandom l B0 G h2 v9 v11 ev11) (va_cwS 1 hts gX5_addRandomRain_X5_nextRandom rfl rfl rfl (by decide +kernel) ⟨Nat.le_of_ble_eq_true rfl, Nat.le_of_ble_eq_true rfl⟩) hKK hP hS rfl hl.1 rfl (Nat.le_of_ble_eq_true rfl) dX5_addRandomRain_57 ⟨Nat.zero_le _, Nat.zero_le _⟩ (fun H locs hP hS => ?_)
    refine lv_lstore (lv' := [(5, .long v11), (8, .int (0 : Int32)), (7, .int v10), (0, .ref a0), (2, .int p1), (3, .int p2), (4, .int p3)]) hx hb dX5_addRandomRain_60 hl (by decide) rfl (fun ls hl => ?_)
    refine lv_lload hx hb dX5_addRandomRain_62 (lv_at hl 0 rfl) ?_
    refine lv_ldc2 (v := (65536 : Int64)) hx hb hown w2 dX5_addRandomRain_64 ?_
    refine lv_ldiv hx hb dX5_addRandomRain_67 (by decide) ?_
    refine lv_ldc2 (v := (100 : Int64)) hx hb hown w3 dX5_addRandomRain_68 ?_
    refine xr_lrem hx hb dX5_addRandomRain_71 (by decide) ?_
    refine lv_iload_n hx hb dX5_addRandomRain_72 rfl (lv_at hl 5 rfl) ?_
    refine lv_i2l hx hb dX5_addRandomRain_73 rfl ?_
    obtain ⟨v12, v13, ej2, hf⟩ := xb2 hf
    have J2 : ∀ (H : Heap) (locs : List Loc) (ls : Array Slot), xP B0 G h2 H → va_S (xA B0) s.heap H locs → lv_has ls 9 [(5, .long v12), (8, .int v13), (7, .int v10), (0, .ref a0), (2, .int p1), (3, .int p2), (4, .int p3)] → W p l e rmX5_addRandomRain s m args below meth c H locs 0 0 Q (F0 m 100 ls []) := by
      intro H locs ls hP hS hl
      clear ej2
      refine lv_aload_n hx hb dX5_addRandomRain_100 rfl (lv_at hl 3 rfl) ?_
      obtain ⟨v17, ev17, hf⟩ := xb hf
      refine xr_getR hx hb hts inX5 hown hKK hP ev17 rfl (by decide) w4 (fun _ h9 => h9) dX5_addRandomRain_101 ?_
      refine lv_iload hx hb dX5_addRandomRain_104 (lv_at hl 1 rfl) ?_
      obtain ⟨v18, ev18, hf⟩ := xb hf
      obtain ⟨h4, eh4, hf⟩ := xb1 hf
      refine xc_Vv (rest := []) ⟨hx, hb, hml, hown, hts⟩ (m_X2_putRain l B0 G h2 h4 v17 v13 eh4) (cwV 1 hts gX5_addRandomRain_X2_putRain rfl rfl rfl (by decide +kernel) ⟨Nat.le_of_ble_eq_true rfl, Nat.le_of_ble_eq_true rfl⟩) hKK hP hS ev18 rfl rfl hl.1 rfl (Nat.le_of_ble_eq_true rfl) dX5_addRandomRain_106 ⟨Nat.zero_le _, Nat.zero_le _⟩ (fun H locs hP hS => ?_)
      obtain ⟨v19, ev19, hf⟩ := xl hf
      refine lv_iinc (v := v19) (lv' := [(7, .int v19), (5, .long v12), (8, .int v13), (0, .ref a0), (2, .int p1), (3, .int p2), (4, .int p3)]) hx hb dX5_addRandomRain_109 hl (k := 2) rfl (by rw [ev19]; rfl) (by decide) rfl (fun ls hl => ?_)
      refine lv_goto (tgt := 46) hx hb dX5_addRandomRain_112 (by decide) ?_
      exact IH _ (Option.some.inj hf).symm _ _ _ hP hS (lv_sub hl [1, 0, 3, 4, 5, 6] rfl)
    have hf := ej2
    clear ej2
    refine xr_lcmp_ge (tgt := 100) hx hb dX5_addRandomRain_74 dX5_addRandomRain_75 (by decide) (fun c2 => ?_) (fun c2 => ?_)
    · have hf := xif_t hf c2
      obtain ⟨rfl, rfl⟩ := xinj2 hf
      exact J2 _ _ _ hP hS (lv_sub hl [0, 1, 2, 3, 4, 5, 6] rfl)
    · have hf := xif_f hf c2
      refine lv_lload hx hb dX5_addRandomRain_78 (lv_at hl 0 rfl) ?_
      obtain ⟨v14, ev14, hf⟩ := xb1 hf
      refine xc_Sl (rest := []) ⟨hx, hb, hml, hown, hts⟩ (m_X5_nextRandom l B0 G h2 v11 v14 ev14) (va_cwS 1 hts gX5_addRandomRain_X5_nextRandom rfl rfl rfl (by decide +kernel) ⟨Nat.le_of_ble_eq_true rfl, Nat.le_of_ble_eq_true rfl⟩) hKK hP hS rfl hl.1 rfl (Nat.le_of_ble_eq_true rfl) dX5_addRandomRain_80 ⟨Nat.zero_le _, Nat.zero_le _⟩ (fun H locs hP hS => ?_)
      refine lv_lstore (lv' := [(5, .long v14), (8, .int (0 : Int32)), (7, .int v10), (0, .ref a0), (2, .int p1), (3, .int p2), (4, .int p3)]) hx hb dX5_addRandomRain_83 hl (by decide) rfl (fun ls hl => ?_)
      refine lv_iconst (v := (1 : Int32)) hx hb dX5_addRandomRain_85 (by decide) ?_
      refine lv_lload hx hb dX5_addRandomRain_86 (lv_at hl 0 rfl) ?_
      refine lv_ldc2 (v := (65536 : Int64)) hx hb hown w2 dX5_addRandomRain_88 ?_
      refine lv_ldiv hx hb dX5_addRandomRain_91 (by decide) ?_
      refine lv_iload hx hb dX5_addRandomRain_92 (lv_at hl 6 rfl) ?_
      refine lv_i2l hx hb dX5_addRandomRain_94 rfl ?_
      obtain ⟨v15, ev15, hf⟩ := xb hf
      refine xr_lrem hx hb dX5_addRandomRain_95 (xnzL_spec ev15) ?_
      refine lv_l2i hx hb dX5_addRandomRain_96 rfl ?_
      refine lv_iadd hx hb dX5_addRandomRain_97 ?_
      obtain ⟨v16, ev16, hf⟩ := xl hf
      refine xtopi ev16 ?_
      refine lv_istore (lv' := [(8, .int v16), (5, .long v14), (7, .int v10), (0, .ref a0), (2, .int p1), (3, .int p2), (4, .int p3)]) hx hb dX5_addRandomRain_98 hl (by decide) rfl (fun ls hl => ?_)
      obtain ⟨rfl, rfl⟩ := xinj2 hf
      exact J2 _ _ _ hP hS (lv_sub hl [1, 0, 2, 3, 4, 5, 6] rfl)
/-- RainReservoir.rain -/
def f_X5_rain (h : XH) (a0 : Nat) (p0 : Int32) : Option ((Int32) ⊕ Nat) :=
  (xgR h a0 5 0).bind fun v1 =>
  (xgI h v1 2 10).bind fun v2 =>
  oexc (f_X5_checkIndex p0 v2) fun u1 =>
  olift (
    (xgR h a0 5 0).bind fun v4 =>
    (xgR h v4 2 9).bind fun v5 =>
    (xald h v5 0 p0).bind fun v6 =>
    some (v6)
  )
abbrev rmX5_rain : Room := { frames := 7, cells := 0, slots := 0, locals := 121 }
set_option maxHeartbeats 4000000 in
set_option maxRecDepth 100000 in
theorem m_X5_rain (l : Launch) (B0 : Nat) (G : XG) (h : XH) (a0 : Nat) (p0 : Int32) (rE : Int32) (hf : f_X5_rain h a0 p0 = some (.inl rE)) : Met l yX5_rain wsX5_rain rmX5_rain (va_Pc [.ref a0, .int p0] (xU B0 G h)) (xQi B0 G h rE) 0 0 (xA B0) := by
  refine xMet (cc := cX5_rain) (maxL := 2) (by decide) rfl (Nat.le_of_ble_eq_true rfl) ?_
  intro p e s m args below meth c ls hx hb hr hml hown hlocks hnm hts hKK hP hl
  have hown : s.vm.findClass RX5 = some m.cls := hown
  have hl : lv_has ls 2 [(0, .ref a0), (1, .int p0)] := hl
  have hS : va_S (xA B0) s.heap s.heap [] := va_S.rf
  have inX2 : ∀ w ∈ wsX20, w ∈ wsX5_rain := by decide +kernel
  have inX5 : ∀ w ∈ wsX50, w ∈ wsX5_rain := by decide +kernel
  have w1 := hts (.fieldLink RX5 10 "RainReservoir" "now" "LRainReservoir$State;") (by decide +kernel)
  have w2 := hts (.fieldLink RX5 127 "RainReservoir$State" "rainCount" "I") (by decide +kernel)
  have w3 := hts (.fieldLink RX5 139 "RainReservoir$State" "rains" "[I") (by decide +kernel)
  generalize hQ : MQ below (xQi B0 G h rE) args s 0 0 (xA B0) = Q
  unfold f_X5_rain at hf
  refine lv_iload_n hx hb dX5_rain_0 rfl (lv_at hl 1 rfl) ?_
  refine lv_aload_n hx hb dX5_rain_1 rfl (lv_at hl 0 rfl) ?_
  obtain ⟨v1, ev1, hf⟩ := xb hf
  refine xr_getR hx hb hts inX5 hown hKK hP ev1 rfl (by decide) w1 (fun _ h9 => h9) dX5_rain_2 ?_
  obtain ⟨v2, ev2, hf⟩ := xb hf
  refine xr_getI hx hb hts inX2 hown hKK hP ev2 rfl (by decide) w2 (fun _ h9 => h9) dX5_rain_5 ?_
  obtain ⟨u1, ev3, hf⟩ := oexc_l hf
  refine xc_Sv (rest := []) ⟨hx, hb, hml, hown, hts⟩ (m_X5_checkIndex l B0 G h p0 v2 ev3) (va_cwS 2 hts gX5_rain_X5_checkIndex rfl rfl rfl (by decide +kernel) ⟨Nat.le_of_ble_eq_true rfl, Nat.le_of_ble_eq_true rfl⟩) hKK hP hS rfl hl.1 rfl (Nat.le_of_ble_eq_true rfl) dX5_rain_8 ⟨Nat.zero_le _, Nat.zero_le _⟩ (fun H locs hP hS => ?_)
  have hf := olift_l hf
  refine lv_aload_n hx hb dX5_rain_11 rfl (lv_at hl 0 rfl) ?_
  obtain ⟨v4, ev4, hf⟩ := xb hf
  refine xr_getR hx hb hts inX5 hown hKK hP ev4 rfl (by decide) w1 (fun _ h9 => h9) dX5_rain_12 ?_
  obtain ⟨v5, ev5, hf⟩ := xb hf
  refine xr_getR hx hb hts inX2 hown hKK hP ev5 rfl (by decide) w3 (fun _ h9 => h9) dX5_rain_15 ?_
  refine lv_iload_n hx hb dX5_rain_18 rfl (lv_at hl 1 rfl) ?_
  obtain ⟨v6, ev6, hf⟩ := xb hf
  refine xr_iald hx hb hKK hP ev6 dX5_rain_19 ?_
  obtain rfl := Option.some.inj hf
  subst hQ
  exact xe_i hx hb hr hlocks hKK hP hS dX5_rain_20
/-- RainReservoir.run -/
def f_X5_run (fu : Nat) (h : XH) (a0 : Nat) (p0 : Int32) : Option ((Int32 × XH) ⊕ Nat) :=
  oexc (f_X5_checkRange p0 (0 : Int32) (100 : Int32)) fun u1 =>
  (xgR h a0 5 0).bind fun v2 =>
  (xgI h v2 2 10).bind fun v3 =>
  (xgR h a0 5 0).bind fun v4 =>
  (xgI h v4 2 11).bind fun v5 =>
  if p0 ≤ (v3 - v5) then
    olift (
      (xis h a0 5).bind fun v6 =>
      obind1 (f_X5_save fu h a0) fun h1 =>
      obind2 (xloop (xf3 fun (v7 : Int32) (v8 : Int32) (h2 : XH) =>
        if p0 ≤ v8 then
          some (.inr (v7, h2))
        else
          (xgR h2 a0 5 0).bind fun v10 =>
          (xgI h2 v10 2 11).bind fun v11 =>
          (xgR h2 a0 5 0).bind fun v12 =>
          (xis h2 v12 2).bind fun v13 =>
          obind1 (f_X2_collect fu h2 v12 v11) fun h4 =>
          (xgR h4 a0 5 0).bind fun v14 =>
          (xis h4 v14 2).bind fun v15 =>
          obind1 (f_X2_serve fu h4 v14 v11) fun h5 =>
          (xgR h5 a0 5 0).bind fun v16 =>
          (xgI h5 v16 2 11).bind fun v17 =>
          (xpV h5 v16 2 11 (.int (v17 + (1 : Int32)))).bind fun h6 =>
          (xgR h6 a0 5 0).bind fun v18 =>
          (xis h6 v18 2).bind fun v19 =>
          obind1 (f_X2_isShort h6 v18 v11) fun v20 =>
          obind1 (
            if v20 = (0 : Int32) then
              some v7
            else
              olet (v7 + (1 : Int32)) fun v22 =>
              some v22
          ) fun v21 =>
          olet (v8 + (1 : Int32)) fun v23 =>
          some (.inl (v21, v23, h6))
      ) fu ((0 : Int32), (0 : Int32), h1)) fun v9 h3 =>
      some ((v9, h3))
    )
  else
    some (.inr 1)
abbrev rmX5_run : Room := { frames := 7, cells := 0, slots := 0, locals := 141 }
set_option maxHeartbeats 4000000 in
set_option maxRecDepth 100000 in
theorem m_X5_run (l : Launch) (B0 : Nat) (G : XG) (fu : Nat) (h hE : XH) (a0 : Nat) (p0 : Int32) (rE : Int32) (hf : f_X5_run fu h a0 p0 = some (.inl (rE, hE))) : Met l yX5_run wsX5_run rmX5_run (va_Pc [.ref a0, .int p0] (xU B0 G h)) (xQi B0 G hE rE) 0 0 (xA B0) := by
  refine xMet (cc := cX5_run) (maxL := 5) (by decide) rfl (Nat.le_of_ble_eq_true rfl) ?_
  intro p e s m args below meth c ls hx hb hr hml hown hlocks hnm hts hKK hP hl
  have hown : s.vm.findClass RX5 = some m.cls := hown
  have hl : lv_has ls 5 [(0, .ref a0), (1, .int p0)] := hl
  have hS : va_S (xA B0) s.heap s.heap [] := va_S.rf
  have inX2 : ∀ w ∈ wsX20, w ∈ wsX5_run := by decide +kernel
  have inX5 : ∀ w ∈ wsX50, w ∈ wsX5_run := by decide +kernel
  have w1 := hts (.fieldLink RX5 10 "RainReservoir" "now" "LRainReservoir$State;") (by decide +kernel)
  have w2 := hts (.fieldLink RX5 127 "RainReservoir$State" "rainCount" "I") (by decide +kernel)
  have w3 := hts (.fieldLink RX5 143 "RainReservoir$State" "doneCount" "I") (by decide +kernel)
  generalize hQ : MQ below (xQi B0 G hE rE) args s 0 0 (xA B0) = Q
  unfold f_X5_run at hf
  refine lv_iload_n hx hb dX5_run_0 rfl (lv_at hl 1 rfl) ?_
  refine lv_iconst (v := (0 : Int32)) hx hb dX5_run_1 (by decide) ?_
  refine lv_bipush (v := (100 : Int32)) hx hb dX5_run_2 (by decide) ?_
  obtain ⟨u1, ev1, hf⟩ := oexc_l hf
  refine xc_Sv (rest := []) ⟨hx, hb, hml, hown, hts⟩ (m_X5_checkRange l B0 G h p0 (0 : Int32) (100 : Int32) ev1) (va_cwS 3 hts gX5_run_X5_checkRange rfl rfl rfl (by decide +kernel) ⟨Nat.le_of_ble_eq_true rfl, Nat.le_of_ble_eq_true rfl⟩) hKK hP hS rfl hl.1 rfl (Nat.le_of_ble_eq_true rfl) dX5_run_4 ⟨Nat.zero_le _, Nat.zero_le _⟩ (fun H locs hP hS => ?_)
  refine lv_iload_n hx hb dX5_run_7 rfl (lv_at hl 1 rfl) ?_
  refine lv_aload_n hx hb dX5_run_8 rfl (lv_at hl 0 rfl) ?_
  obtain ⟨v2, ev2, hf⟩ := xb hf
  refine xr_getR hx hb hts inX5 hown hKK hP ev2 rfl (by decide) w1 (fun _ h9 => h9) dX5_run_9 ?_
  obtain ⟨v3, ev3, hf⟩ := xb hf
  refine xr_getI hx hb hts inX2 hown hKK hP ev3 rfl (by decide) w2 (fun _ h9 => h9) dX5_run_12 ?_
  refine lv_aload_n hx hb dX5_run_15 rfl (lv_at hl 0 rfl) ?_
  obtain ⟨v4, ev4, hf⟩ := xb hf
  refine xr_getR hx hb hts inX5 hown hKK hP ev4 rfl (by decide) w1 (fun _ h9 => h9) dX5_run_16 ?_
  obtain ⟨v5, ev5, hf⟩ := xb hf
  refine xr_getI hx hb hts inX2 hown hKK hP ev5 rfl (by decide) w3 (fun _ h9 => h9) dX5_run_19 ?_
  refine lv_isub hx hb dX5_run_22 ?_
  refine lv_icmp_le (tgt := 36) hx hb dX5_run_23 (by decide) (fun c1 => ?_) (fun c1 => ?_)
  · have hf := xif_t hf c1
    have hf := olift_l hf
    refine lv_aload_n hx hb dX5_run_36 rfl (lv_at hl 0 rfl) ?_
    obtain ⟨v6, ev6, hf⟩ := xb hf
    obtain ⟨h1, eh1, hf⟩ := xb1 hf
    refine xc_Vv (rest := []) ⟨hx, hb, hml, hown, hts⟩ (m_X5_save l B0 G fu h h1 a0 eh1) (cwV 0 hts gX5_run_X5_save rfl rfl rfl (by decide +kernel) ⟨Nat.le_of_ble_eq_true rfl, Nat.le_of_ble_eq_true rfl⟩) hKK hP hS ev6 rfl rfl hl.1 rfl (Nat.le_of_ble_eq_true rfl) dX5_run_37 ⟨Nat.zero_le _, Nat.zero_le _⟩ (fun H locs hP hS => ?_)
    refine lv_iconst (v := (0 : Int32)) hx hb dX5_run_40 (by decide) ?_
    refine lv_istore_n (lv' := [(2, .int (0 : Int32)), (0, .ref a0), (1, .int p0)]) hx hb dX5_run_41 rfl hl (by decide) rfl (fun ls hl => ?_)
    refine lv_iconst (v := (0 : Int32)) hx hb dX5_run_42 (by decide) ?_
    refine lv_istore_n (lv' := [(3, .int (0 : Int32)), (2, .int (0 : Int32)), (0, .ref a0), (1, .int p0)]) hx hb dX5_run_43 rfl hl (by decide) rfl (fun ls hl => ?_)
    obtain ⟨v9, h3, eL, hf⟩ := xb2 hf
    have J1 : ∀ (H : Heap) (locs : List Loc) (ls : Array Slot), xP B0 G h3 H → va_S (xA B0) s.heap H locs → lv_has ls 5 [(2, .int v9)] → W p l e rmX5_run s m args below meth c H locs 0 0 Q (F0 m 110 ls []) := by
      intro H locs ls hP hS hl
      clear eL
      refine lv_iload_n hx hb dX5_run_110 rfl (lv_at hl 0 rfl) ?_
      obtain ⟨rfl, rfl⟩ := xinj2 hf
      subst hQ
      exact xe_i hx hb hr hlocks hKK hP hS dX5_run_111
    clear hf
    refine xloop_ind (P := fun z => ∀ (H : Heap) (locs : List Loc) (ls : Array Slot), xP B0 G z.2.2 H → va_S (xA B0) s.heap H locs → lv_has ls 5 [(2, .int z.1), (3, .int z.2.1), (0, .ref a0), (1, .int p0)] → W p l e rmX5_run s m args below meth c H locs 0 0 Q (F0 m 44 ls [])) ?_ eL _ _ _ hP hS (lv_sub hl [1, 0, 2, 3] rfl)
    rintro ⟨v7, v8, h2⟩ o hf IH EX H locs ls hP hS hl
    have hf := xf3_e hf
    have hP : xP B0 G h2 H := hP
    have hl : lv_has ls 5 [(2, .int v7), (3, .int v8), (0, .ref a0), (1, .int p0)] := hl
    refine lv_iload_n hx hb dX5_run_44 rfl (lv_at hl 1 rfl) ?_
    refine lv_iload_n hx hb dX5_run_45 rfl (lv_at hl 3 rfl) ?_
    refine lv_icmp_ge (tgt := 110) hx hb dX5_run_46 (by decide) (fun c2 => ?_) (fun c2 => ?_)
    · have hf := xif_t hf c2
      have hf := EX _ (Option.some.inj hf).symm
      obtain ⟨rfl, rfl⟩ := xpair2 hf
      exact J1 _ _ _ hP hS (lv_sub hl [0] rfl)
    · have hf := xif_f hf c2
      refine lv_aload_n hx hb dX5_run_49 rfl (lv_at hl 2 rfl) ?_
      obtain ⟨v10, ev10, hf⟩ := xb hf
      refine xr_getR hx hb hts inX5 hown hKK hP ev10 rfl (by decide) w1 (fun _ h9 => h9) dX5_run_50 ?_
      obtain ⟨v11, ev11, hf⟩ := xb hf
      refine xr_getI hx hb hts inX2 hown hKK hP ev11 rfl (by decide) w3 (fun _ h9 => h9) dX5_run_53 ?_
      refine lv_istore (lv' := [(4, .int v11), (2, .int v7), (3, .int v8), (0, .ref a0), (1, .int p0)]) hx hb dX5_run_56 hl (by decide) rfl (fun ls hl => ?_)
      refine lv_aload_n hx hb dX5_run_58 rfl (lv_at hl 3 rfl) ?_
      obtain ⟨v12, ev12, hf⟩ := xb hf
      refine xr_getR hx hb hts inX5 hown hKK hP ev12 rfl (by decide) w1 (fun _ h9 => h9) dX5_run_59 ?_
      refine lv_iload hx hb dX5_run_62 (lv_at hl 0 rfl) ?_
      obtain ⟨v13, ev13, hf⟩ := xb hf
      obtain ⟨h4, eh4, hf⟩ := xb1 hf
      refine xc_Vv (rest := []) ⟨hx, hb, hml, hown, hts⟩ (m_X2_collect l B0 G fu h2 h4 v12 v11 eh4) (cwV 1 hts gX5_run_X2_collect rfl rfl rfl (by decide +kernel) ⟨Nat.le_of_ble_eq_true rfl, Nat.le_of_ble_eq_true rfl⟩) hKK hP hS ev13 rfl rfl hl.1 rfl (Nat.le_of_ble_eq_true rfl) dX5_run_64 ⟨Nat.zero_le _, Nat.zero_le _⟩ (fun H locs hP hS => ?_)
      refine lv_aload_n hx hb dX5_run_67 rfl (lv_at hl 3 rfl) ?_
      obtain ⟨v14, ev14, hf⟩ := xb hf
      refine xr_getR hx hb hts inX5 hown hKK hP ev14 rfl (by decide) w1 (fun _ h9 => h9) dX5_run_68 ?_
      refine lv_iload hx hb dX5_run_71 (lv_at hl 0 rfl) ?_
      obtain ⟨v15, ev15, hf⟩ := xb hf
      obtain ⟨h5, eh5, hf⟩ := xb1 hf
      refine xc_Vv (rest := []) ⟨hx, hb, hml, hown, hts⟩ (m_X2_serve l B0 G fu h4 h5 v14 v11 eh5) (cwV 1 hts gX5_run_X2_serve rfl rfl rfl (by decide +kernel) ⟨Nat.le_of_ble_eq_true rfl, Nat.le_of_ble_eq_true rfl⟩) hKK hP hS ev15 rfl rfl hl.1 rfl (Nat.le_of_ble_eq_true rfl) dX5_run_73 ⟨Nat.zero_le _, Nat.zero_le _⟩ (fun H locs hP hS => ?_)
      refine lv_aload_n hx hb dX5_run_76 rfl (lv_at hl 3 rfl) ?_
      obtain ⟨v16, ev16, hf⟩ := xb hf
      refine xr_getR hx hb hts inX5 hown hKK hP ev16 rfl (by decide) w1 (fun _ h9 => h9) dX5_run_77 ?_
      refine lv_dup hx hb dX5_run_80 rfl ?_
      obtain ⟨v17, ev17, hf⟩ := xb hf
      refine xr_getI hx hb hts inX2 hown hKK hP ev17 rfl (by decide) w3 (fun _ h9 => h9) dX5_run_81 ?_
      refine lv_iconst (v := (1 : Int32)) hx hb dX5_run_84 (by decide) ?_
      refine lv_iadd hx hb dX5_run_85 ?_
      obtain ⟨h6, eh6, hf⟩ := xb hf
      refine xr_put hx hb hts inX2 tyX2 tyX2_ok nmX2 hown hKK hP hS eh6 rfl (by decide) w3 (fun _ h9 => h9) rfl (tyX2_ok 11 (by decide)) rfl rfl dX5_run_86 (fun H locs hP _ hS => ?_)
      refine lv_aload_n hx hb dX5_run_89 rfl (lv_at hl 3 rfl) ?_
      obtain ⟨v18, ev18, hf⟩ := xb hf
      refine xr_getR hx hb hts inX5 hown hKK hP ev18 rfl (by decide) w1 (fun _ h9 => h9) dX5_run_90 ?_
      refine lv_iload hx hb dX5_run_93 (lv_at hl 0 rfl) ?_
      obtain ⟨v19, ev19, hf⟩ := xb hf
      obtain ⟨v20, ev20, hf⟩ := xb1 hf
      refine xc_Vi (rest := []) ⟨hx, hb, hml, hown, hts⟩ (m_X2_isShort l B0 G h6 v18 v11 v20 ev20) (cwV 1 hts gX5_run_X2_isShort rfl rfl rfl (by decide +kernel) ⟨Nat.le_of_ble_eq_true rfl, Nat.le_of_ble_eq_true rfl⟩) hKK hP hS ev19 rfl rfl hl.1 rfl (Nat.le_of_ble_eq_true rfl) dX5_run_95 ⟨Nat.zero_le _, Nat.zero_le _⟩ (fun H locs hP hS => ?_)
      obtain ⟨v21, ej2, hf⟩ := xb1 hf
      have J2 : ∀ (H : Heap) (locs : List Loc) (ls : Array Slot), xP B0 G h6 H → va_S (xA B0) s.heap H locs → lv_has ls 5 [(2, .int v21), (3, .int v8), (0, .ref a0), (1, .int p0)] → W p l e rmX5_run s m args below meth c H locs 0 0 Q (F0 m 104 ls []) := by
        intro H locs ls hP hS hl
        clear ej2
        obtain ⟨v23, ev23, hf⟩ := xl hf
        refine lv_iinc (v := v23) (lv' := [(3, .int v23), (2, .int v21), (0, .ref a0), (1, .int p0)]) hx hb dX5_run_104 hl (k := 1) rfl (by rw [ev23]; rfl) (by decide) rfl (fun ls hl => ?_)
        refine lv_goto (tgt := 44) hx hb dX5_run_107 (by decide) ?_
        exact IH _ (Option.some.inj hf).symm _ _ _ hP hS (lv_sub hl [1, 0, 2, 3] rfl)
      have hf := ej2
      clear ej2
      refine lv_if_eq (tgt := 104) hx hb dX5_run_98 (by decide) (fun c3 => ?_) (fun c3 => ?_)
      · have hf := xif_t hf c3
        obtain rfl := Option.some.inj hf
        exact J2 _ _ _ hP hS (lv_sub hl [1, 2, 3, 4] rfl)
      · have hf := xif_f hf c3
        obtain ⟨v22, ev22, hf⟩ := xl hf
        refine lv_iinc (v := v22) (lv' := [(2, .int v22), (4, .int v11), (3, .int v8), (0, .ref a0), (1, .int p0)]) hx hb dX5_run_101 hl (k := 1) rfl (by rw [ev22]; rfl) (by decide) rfl (fun ls hl => ?_)
        obtain rfl := Option.some.inj hf
        exact J2 _ _ _ hP hS (lv_sub hl [0, 2, 3, 4] rfl)
  · have hf := xif_f hf c1
    cases hf
/-- RainReservoir.day -/
def f_X5_day (h : XH) (a0 : Nat) (p0 : Int32) (p1 : Int32) : Option ((Int32) ⊕ Nat) :=
  (xgR h a0 5 0).bind fun v1 =>
  (xgI h v1 2 11).bind fun v2 =>
  oexc (f_X5_checkIndex p0 v2) fun u1 =>
  oexc (f_X5_checkRange p1 (0 : Int32) (9 : Int32)) fun u2 =>
  olift (
    (xgR h a0 5 0).bind fun v5 =>
    (xis h v5 2).bind fun v6 =>
    obind1 (f_X2_account h v5 p0 p1) fun v7 =>
    some (v7)
  )
abbrev rmX5_day : Room := { frames := 7, cells := 0, slots := 0, locals := 122 }
set_option maxHeartbeats 4000000 in
set_option maxRecDepth 100000 in
theorem m_X5_day (l : Launch) (B0 : Nat) (G : XG) (h : XH) (a0 : Nat) (p0 : Int32) (p1 : Int32) (rE : Int32) (hf : f_X5_day h a0 p0 p1 = some (.inl rE)) : Met l yX5_day wsX5_day rmX5_day (va_Pc [.ref a0, .int p0, .int p1] (xU B0 G h)) (xQi B0 G h rE) 0 0 (xA B0) := by
  refine xMet (cc := cX5_day) (maxL := 3) (by decide) rfl (Nat.le_of_ble_eq_true rfl) ?_
  intro p e s m args below meth c ls hx hb hr hml hown hlocks hnm hts hKK hP hl
  have hown : s.vm.findClass RX5 = some m.cls := hown
  have hl : lv_has ls 3 [(0, .ref a0), (1, .int p0), (2, .int p1)] := hl
  have hS : va_S (xA B0) s.heap s.heap [] := va_S.rf
  have inX2 : ∀ w ∈ wsX20, w ∈ wsX5_day := by decide +kernel
  have inX5 : ∀ w ∈ wsX50, w ∈ wsX5_day := by decide +kernel
  have w1 := hts (.fieldLink RX5 10 "RainReservoir" "now" "LRainReservoir$State;") (by decide +kernel)
  have w2 := hts (.fieldLink RX5 143 "RainReservoir$State" "doneCount" "I") (by decide +kernel)
  generalize hQ : MQ below (xQi B0 G h rE) args s 0 0 (xA B0) = Q
  unfold f_X5_day at hf
  refine lv_iload_n hx hb dX5_day_0 rfl (lv_at hl 1 rfl) ?_
  refine lv_aload_n hx hb dX5_day_1 rfl (lv_at hl 0 rfl) ?_
  obtain ⟨v1, ev1, hf⟩ := xb hf
  refine xr_getR hx hb hts inX5 hown hKK hP ev1 rfl (by decide) w1 (fun _ h9 => h9) dX5_day_2 ?_
  obtain ⟨v2, ev2, hf⟩ := xb hf
  refine xr_getI hx hb hts inX2 hown hKK hP ev2 rfl (by decide) w2 (fun _ h9 => h9) dX5_day_5 ?_
  obtain ⟨u1, ev3, hf⟩ := oexc_l hf
  refine xc_Sv (rest := []) ⟨hx, hb, hml, hown, hts⟩ (m_X5_checkIndex l B0 G h p0 v2 ev3) (va_cwS 2 hts gX5_day_X5_checkIndex rfl rfl rfl (by decide +kernel) ⟨Nat.le_of_ble_eq_true rfl, Nat.le_of_ble_eq_true rfl⟩) hKK hP hS rfl hl.1 rfl (Nat.le_of_ble_eq_true rfl) dX5_day_8 ⟨Nat.zero_le _, Nat.zero_le _⟩ (fun H locs hP hS => ?_)
  refine lv_iload_n hx hb dX5_day_11 rfl (lv_at hl 2 rfl) ?_
  refine lv_iconst (v := (0 : Int32)) hx hb dX5_day_12 (by decide) ?_
  refine lv_bipush (v := (9 : Int32)) hx hb dX5_day_13 (by decide) ?_
  obtain ⟨u2, ev4, hf⟩ := oexc_l hf
  refine xc_Sv (rest := []) ⟨hx, hb, hml, hown, hts⟩ (m_X5_checkRange l B0 G h p1 (0 : Int32) (9 : Int32) ev4) (va_cwS 3 hts gX5_day_X5_checkRange rfl rfl rfl (by decide +kernel) ⟨Nat.le_of_ble_eq_true rfl, Nat.le_of_ble_eq_true rfl⟩) hKK hP hS rfl hl.1 rfl (Nat.le_of_ble_eq_true rfl) dX5_day_15 ⟨Nat.zero_le _, Nat.zero_le _⟩ (fun H locs hP hS => ?_)
  have hf := olift_l hf
  refine lv_aload_n hx hb dX5_day_18 rfl (lv_at hl 0 rfl) ?_
  obtain ⟨v5, ev5, hf⟩ := xb hf
  refine xr_getR hx hb hts inX5 hown hKK hP ev5 rfl (by decide) w1 (fun _ h9 => h9) dX5_day_19 ?_
  refine lv_iload_n hx hb dX5_day_22 rfl (lv_at hl 1 rfl) ?_
  refine lv_iload_n hx hb dX5_day_23 rfl (lv_at hl 2 rfl) ?_
  obtain ⟨v6, ev6, hf⟩ := xb hf
  obtain ⟨v7, ev7, hf⟩ := xb1 hf
  refine xc_Vi (rest := []) ⟨hx, hb, hml, hown, hts⟩ (m_X2_account l B0 G h v5 p0 p1 v7 ev7) (cwV 2 hts gX5_day_X2_account rfl rfl rfl (by decide +kernel) ⟨Nat.le_of_ble_eq_true rfl, Nat.le_of_ble_eq_true rfl⟩) hKK hP hS ev6 rfl rfl hl.1 rfl (Nat.le_of_ble_eq_true rfl) dX5_day_24 ⟨Nat.zero_le _, Nat.zero_le _⟩ (fun H locs hP hS => ?_)
  obtain rfl := Option.some.inj hf
  subst hQ
  exact xe_i hx hb hr hlocks hKK hP hS dX5_day_27
/-- RainReservoir.sum -/
def f_X5_sum (fu : Nat) (h : XH) (a0 : Nat) (p0 : Int32) : Option ((Int64) ⊕ Nat) :=
  oexc (f_X5_checkRange p0 (1 : Int32) (9 : Int32)) fun u1 =>
  olift (
    obind1 (
      if p0 = (4 : Int32) then
        (xgR h a0 5 0).bind fun v3 =>
        (xgL h v3 2 14).bind fun v4 =>
        some v4
      else
        some (0 : Int64)
    ) fun v2 =>
    obind1 (xloop (xf2 fun (v5 : Int64) (v6 : Int32) =>
      (xgR h a0 5 0).bind fun v8 =>
      (xgI h v8 2 11).bind fun v9 =>
      if v9 ≤ v6 then
        some (.inr v5)
      else
        (xgR h a0 5 0).bind fun v10 =>
        (xis h v10 2).bind fun v11 =>
        obind1 (f_X2_account h v10 v6 p0) fun v12 =>
        olet ((v5 + (Int32.toInt64 v12))) fun v13 =>
        olet (v6 + (1 : Int32)) fun v14 =>
        some (.inl (v13, v14))
    ) fu (v2, (0 : Int32))) fun v7 =>
    some (v7)
  )
abbrev rmX5_sum : Room := { frames := 7, cells := 0, slots := 0, locals := 122 }
set_option maxHeartbeats 4000000 in
set_option maxRecDepth 100000 in
theorem m_X5_sum (l : Launch) (B0 : Nat) (G : XG) (fu : Nat) (h : XH) (a0 : Nat) (p0 : Int32) (rE : Int64) (hf : f_X5_sum fu h a0 p0 = some (.inl rE)) : Met l yX5_sum wsX5_sum rmX5_sum (va_Pc [.ref a0, .int p0] (xU B0 G h)) (xQl B0 G h rE) 0 0 (xA B0) := by
  refine xMet (cc := cX5_sum) (maxL := 5) (by decide) rfl (Nat.le_of_ble_eq_true rfl) ?_
  intro p e s m args below meth c ls hx hb hr hml hown hlocks hnm hts hKK hP hl
  have hown : s.vm.findClass RX5 = some m.cls := hown
  have hl : lv_has ls 5 [(0, .ref a0), (1, .int p0)] := hl
  have hS : va_S (xA B0) s.heap s.heap [] := va_S.rf
  have inX2 : ∀ w ∈ wsX20, w ∈ wsX5_sum := by decide +kernel
  have inX5 : ∀ w ∈ wsX50, w ∈ wsX5_sum := by decide +kernel
  have w1 := hts (.fieldLink RX5 10 "RainReservoir" "now" "LRainReservoir$State;") (by decide +kernel)
  have w2 := hts (.fieldLink RX5 95 "RainReservoir$State" "looseOverflow" "J") (by decide +kernel)
  have w3 := hts (.fieldLink RX5 143 "RainReservoir$State" "doneCount" "I") (by decide +kernel)
  generalize hQ : MQ below (xQl B0 G h rE) args s 0 0 (xA B0) = Q
  unfold f_X5_sum at hf
  refine lv_iload_n hx hb dX5_sum_0 rfl (lv_at hl 1 rfl) ?_
  refine lv_iconst (v := (1 : Int32)) hx hb dX5_sum_1 (by decide) ?_
  refine lv_bipush (v := (9 : Int32)) hx hb dX5_sum_2 (by decide) ?_
  obtain ⟨u1, ev1, hf⟩ := oexc_l hf
  refine xc_Sv (rest := []) ⟨hx, hb, hml, hown, hts⟩ (m_X5_checkRange l B0 G h p0 (1 : Int32) (9 : Int32) ev1) (va_cwS 3 hts gX5_sum_X5_checkRange rfl rfl rfl (by decide +kernel) ⟨Nat.le_of_ble_eq_true rfl, Nat.le_of_ble_eq_true rfl⟩) hKK hP hS rfl hl.1 rfl (Nat.le_of_ble_eq_true rfl) dX5_sum_4 ⟨Nat.zero_le _, Nat.zero_le _⟩ (fun H locs hP hS => ?_)
  have hf := olift_l hf
  refine lv_iload_n hx hb dX5_sum_7 rfl (lv_at hl 1 rfl) ?_
  refine lv_iconst (v := (4 : Int32)) hx hb dX5_sum_8 (by decide) ?_
  obtain ⟨v2, ej1, hf⟩ := xb1 hf
  have J1 : ∀ (H : Heap) (locs : List Loc) (ls : Array Slot), xP B0 G h H → va_S (xA B0) s.heap H locs → lv_has ls 5 [(0, .ref a0), (1, .int p0)] → W p l e rmX5_sum s m args below meth c H locs 0 0 Q (F0 m 23 ls [.long v2]) := by
    intro H locs ls hP hS hl
    clear ej1
    refine lv_lstore_n (lv' := [(2, .long v2), (0, .ref a0), (1, .int p0)]) hx hb dX5_sum_23 rfl hl (by decide) rfl (fun ls hl => ?_)
    refine lv_iconst (v := (0 : Int32)) hx hb dX5_sum_24 (by decide) ?_
    refine lv_istore (lv' := [(4, .int (0 : Int32)), (2, .long v2), (0, .ref a0), (1, .int p0)]) hx hb dX5_sum_25 hl (by decide) rfl (fun ls hl => ?_)
    obtain ⟨v7, eL, hf⟩ := xb1 hf
    have J2 : ∀ (H : Heap) (locs : List Loc) (ls : Array Slot), xP B0 G h H → va_S (xA B0) s.heap H locs → lv_has ls 5 [(2, .long v7)] → W p l e rmX5_sum s m args below meth c H locs 0 0 Q (F0 m 59 ls []) := by
      intro H locs ls hP hS hl
      clear eL
      refine lv_lload_n hx hb dX5_sum_59 rfl (lv_at hl 0 rfl) ?_
      obtain rfl := Option.some.inj hf
      subst hQ
      exact xe_l hx hb hr hlocks hKK hP hS dX5_sum_60
    clear hf
    refine xloop_ind (P := fun z => ∀ (H : Heap) (locs : List Loc) (ls : Array Slot), xP B0 G h H → va_S (xA B0) s.heap H locs → lv_has ls 5 [(2, .long z.1), (4, .int z.2), (0, .ref a0), (1, .int p0)] → W p l e rmX5_sum s m args below meth c H locs 0 0 Q (F0 m 27 ls [])) ?_ eL _ _ _ hP hS (lv_sub hl [1, 0, 2, 3] rfl)
    rintro ⟨v5, v6⟩ o hf IH EX H locs ls hP hS hl
    have hf := xf2_e hf
    have hl : lv_has ls 5 [(2, .long v5), (4, .int v6), (0, .ref a0), (1, .int p0)] := hl
    refine lv_iload hx hb dX5_sum_27 (lv_at hl 1 rfl) ?_
    refine lv_aload_n hx hb dX5_sum_29 rfl (lv_at hl 2 rfl) ?_
    obtain ⟨v8, ev8, hf⟩ := xb hf
    refine xr_getR hx hb hts inX5 hown hKK hP ev8 rfl (by decide) w1 (fun _ h9 => h9) dX5_sum_30 ?_
    obtain ⟨v9, ev9, hf⟩ := xb hf
    refine xr_getI hx hb hts inX2 hown hKK hP ev9 rfl (by decide) w3 (fun _ h9 => h9) dX5_sum_33 ?_
    refine lv_icmp_ge (tgt := 59) hx hb dX5_sum_36 (by decide) (fun c2 => ?_) (fun c2 => ?_)
    · have hf := xif_t hf c2
      have hf := EX _ (Option.some.inj hf).symm
      obtain rfl := hf
      exact J2 _ _ _ hP hS (lv_sub hl [0] rfl)
    · have hf := xif_f hf c2
      refine lv_lload_n hx hb dX5_sum_39 rfl (lv_at hl 0 rfl) ?_
      refine lv_aload_n hx hb dX5_sum_40 rfl (lv_at hl 2 rfl) ?_
      obtain ⟨v10, ev10, hf⟩ := xb hf
      refine xr_getR hx hb hts inX5 hown hKK hP ev10 rfl (by decide) w1 (fun _ h9 => h9) dX5_sum_41 ?_
      refine lv_iload hx hb dX5_sum_44 (lv_at hl 1 rfl) ?_
      refine lv_iload_n hx hb dX5_sum_46 rfl (lv_at hl 3 rfl) ?_
      obtain ⟨v11, ev11, hf⟩ := xb hf
      obtain ⟨v12, ev12, hf⟩ := xb1 hf
      refine xc_Vi (rest := [.long v5]) ⟨hx, hb, hml, hown, hts⟩ (m_X2_account l B0 G h v10 v6 p0 v12 ev12) (cwV 2 hts gX5_sum_X2_account rfl rfl rfl (by decide +kernel) ⟨Nat.le_of_ble_eq_true rfl, Nat.le_of_ble_eq_true rfl⟩) hKK hP hS ev11 rfl rfl hl.1 rfl (Nat.le_of_ble_eq_true rfl) dX5_sum_47 ⟨Nat.zero_le _, Nat.zero_le _⟩ (fun H locs hP hS => ?_)
      refine lv_i2l hx hb dX5_sum_50 rfl ?_
      refine lv_ladd hx hb dX5_sum_51 ?_
      obtain ⟨v13, ev13, hf⟩ := xl hf
      refine xtopl ev13 ?_
      refine lv_lstore_n (lv' := [(2, .long v13), (4, .int v6), (0, .ref a0), (1, .int p0)]) hx hb dX5_sum_52 rfl hl (by decide) rfl (fun ls hl => ?_)
      obtain ⟨v14, ev14, hf⟩ := xl hf
      refine lv_iinc (v := v14) (lv' := [(4, .int v14), (2, .long v13), (0, .ref a0), (1, .int p0)]) hx hb dX5_sum_53 hl (k := 1) rfl (by rw [ev14]; rfl) (by decide) rfl (fun ls hl => ?_)
      refine lv_goto (tgt := 27) hx hb dX5_sum_56 (by decide) ?_
      exact IH _ (Option.some.inj hf).symm _ _ _ hP hS (lv_sub hl [1, 0, 2, 3] rfl)
  have hf := ej1
  clear ej1
  refine lv_icmp_ne (tgt := 22) hx hb dX5_sum_9 (by decide) (fun c1 => ?_) (fun c1 => ?_)
  · have hf := xif_f hf c1
    refine lv_lconst (v := (0 : Int64)) hx hb dX5_sum_22 (by decide) ?_
    obtain rfl := Option.some.inj hf
    exact J1 _ _ _ hP hS (lv_sub hl [0, 1] rfl)
  · have hf := xif_t hf c1
    refine lv_aload_n hx hb dX5_sum_12 rfl (lv_at hl 0 rfl) ?_
    obtain ⟨v3, ev3, hf⟩ := xb hf
    refine xr_getR hx hb hts inX5 hown hKK hP ev3 rfl (by decide) w1 (fun _ h9 => h9) dX5_sum_13 ?_
    obtain ⟨v4, ev4, hf⟩ := xb hf
    refine xr_getL hx hb hts inX2 hown hKK hP ev4 rfl (by decide) w2 (fun _ h9 => h9) dX5_sum_16 ?_
    refine lv_goto (tgt := 23) hx hb dX5_sum_19 (by decide) ?_
    obtain rfl := Option.some.inj hf
    exact J1 _ _ _ hP hS (lv_sub hl [0, 1] rfl)
/-- RainReservoir.shortDaysWith -/
def f_X5_shortDaysWith (fu : Nat) (h : XH) (a0 : Nat) (p0 : Int32) : Option ((Int32 × XH) ⊕ Nat) :=
  oexc (f_X5_checkRange p0 (100 : Int32) (60000 : Int32)) fun u1 =>
  olift (
    (xis h a0 5).bind fun v2 =>
    obind1 (f_X5_prepareTrial fu h a0) fun h1 =>
    (xis h1 a0 5).bind fun v3 =>
    obind1 (f_X5_setTrialCapacity h1 a0 p0) fun h2 =>
    (xgR h2 a0 5 1).bind fun v4 =>
    (xis h2 v4 2).bind fun v5 =>
    obind2 (f_X2_serveAll fu h2 v4 (100 : Int32)) fun v6 h3 =>
    some ((v6, h3))
  )
abbrev rmX5_shortDaysWith : Room := { frames := 7, cells := 0, slots := 0, locals := 164 }
set_option maxHeartbeats 4000000 in
set_option maxRecDepth 100000 in
theorem m_X5_shortDaysWith (l : Launch) (B0 : Nat) (G : XG) (fu : Nat) (h hE : XH) (a0 : Nat) (p0 : Int32) (rE : Int32) (hf : f_X5_shortDaysWith fu h a0 p0 = some (.inl (rE, hE))) : Met l yX5_shortDaysWith wsX5_shortDaysWith rmX5_shortDaysWith (va_Pc [.ref a0, .int p0] (xU B0 G h)) (xQi B0 G hE rE) 0 0 (xA B0) := by
  refine xMet (cc := cX5_shortDaysWith) (maxL := 2) (by decide) rfl (Nat.le_of_ble_eq_true rfl) ?_
  intro p e s m args below meth c ls hx hb hr hml hown hlocks hnm hts hKK hP hl
  have hown : s.vm.findClass RX5 = some m.cls := hown
  have hl : lv_has ls 2 [(0, .ref a0), (1, .int p0)] := hl
  have hS : va_S (xA B0) s.heap s.heap [] := va_S.rf
  have inX5 : ∀ w ∈ wsX50, w ∈ wsX5_shortDaysWith := by decide +kernel
  have w1 := hts (.constant RX5 85 (60000)) (by decide +kernel)
  have w2 := hts (.fieldLink RX5 16 "RainReservoir" "trial" "LRainReservoir$State;") (by decide +kernel)
  generalize hQ : MQ below (xQi B0 G hE rE) args s 0 0 (xA B0) = Q
  unfold f_X5_shortDaysWith at hf
  refine lv_iload_n hx hb dX5_shortDaysWith_0 rfl (lv_at hl 1 rfl) ?_
  refine lv_bipush (v := (100 : Int32)) hx hb dX5_shortDaysWith_1 (by decide) ?_
  refine lv_ldc (v := (60000 : Int32)) hx hb hown w1 dX5_shortDaysWith_3 ?_
  obtain ⟨u1, ev1, hf⟩ := oexc_l hf
  refine xc_Sv (rest := []) ⟨hx, hb, hml, hown, hts⟩ (m_X5_checkRange l B0 G h p0 (100 : Int32) (60000 : Int32) ev1) (va_cwS 3 hts gX5_shortDaysWith_X5_checkRange rfl rfl rfl (by decide +kernel) ⟨Nat.le_of_ble_eq_true rfl, Nat.le_of_ble_eq_true rfl⟩) hKK hP hS rfl hl.1 rfl (Nat.le_of_ble_eq_true rfl) dX5_shortDaysWith_5 ⟨Nat.zero_le _, Nat.zero_le _⟩ (fun H locs hP hS => ?_)
  have hf := olift_l hf
  refine lv_aload_n hx hb dX5_shortDaysWith_8 rfl (lv_at hl 0 rfl) ?_
  obtain ⟨v2, ev2, hf⟩ := xb hf
  obtain ⟨h1, eh1, hf⟩ := xb1 hf
  refine xc_Vv (rest := []) ⟨hx, hb, hml, hown, hts⟩ (m_X5_prepareTrial l B0 G fu h h1 a0 eh1) (cwV 0 hts gX5_shortDaysWith_X5_prepareTrial rfl rfl rfl (by decide +kernel) ⟨Nat.le_of_ble_eq_true rfl, Nat.le_of_ble_eq_true rfl⟩) hKK hP hS ev2 rfl rfl hl.1 rfl (Nat.le_of_ble_eq_true rfl) dX5_shortDaysWith_9 ⟨Nat.zero_le _, Nat.zero_le _⟩ (fun H locs hP hS => ?_)
  refine lv_aload_n hx hb dX5_shortDaysWith_12 rfl (lv_at hl 0 rfl) ?_
  refine lv_iload_n hx hb dX5_shortDaysWith_13 rfl (lv_at hl 1 rfl) ?_
  obtain ⟨v3, ev3, hf⟩ := xb hf
  obtain ⟨h2, eh2, hf⟩ := xb1 hf
  refine xc_Vv (rest := []) ⟨hx, hb, hml, hown, hts⟩ (m_X5_setTrialCapacity l B0 G h1 h2 a0 p0 eh2) (cwV 1 hts gX5_shortDaysWith_X5_setTrialCapacity rfl rfl rfl (by decide +kernel) ⟨Nat.le_of_ble_eq_true rfl, Nat.le_of_ble_eq_true rfl⟩) hKK hP hS ev3 rfl rfl hl.1 rfl (Nat.le_of_ble_eq_true rfl) dX5_shortDaysWith_14 ⟨Nat.zero_le _, Nat.zero_le _⟩ (fun H locs hP hS => ?_)
  refine lv_aload_n hx hb dX5_shortDaysWith_17 rfl (lv_at hl 0 rfl) ?_
  obtain ⟨v4, ev4, hf⟩ := xb hf
  refine xr_getR hx hb hts inX5 hown hKK hP ev4 rfl (by decide) w2 (fun _ h9 => h9) dX5_shortDaysWith_18 ?_
  refine lv_bipush (v := (100 : Int32)) hx hb dX5_shortDaysWith_21 (by decide) ?_
  obtain ⟨v5, ev5, hf⟩ := xb hf
  obtain ⟨v6, h3, ev6, hf⟩ := xb2 hf
  refine xc_Vi (rest := []) ⟨hx, hb, hml, hown, hts⟩ (m_X2_serveAll l B0 G fu h2 h3 v4 (100 : Int32) v6 ev6) (cwV 1 hts gX5_shortDaysWith_X2_serveAll rfl rfl rfl (by decide +kernel) ⟨Nat.le_of_ble_eq_true rfl, Nat.le_of_ble_eq_true rfl⟩) hKK hP hS ev5 rfl rfl hl.1 rfl (Nat.le_of_ble_eq_true rfl) dX5_shortDaysWith_23 ⟨Nat.zero_le _, Nat.zero_le _⟩ (fun H locs hP hS => ?_)
  obtain ⟨rfl, rfl⟩ := xinj2 hf
  subst hQ
  exact xe_i hx hb hr hlocks hKK hP hS dX5_shortDaysWith_26
/-- RainReservoir.capacityFor -/
def f_X5_capacityFor (fu : Nat) (h : XH) (a0 : Nat) (p0 : Int32) : Option ((Int32 × XH) ⊕ Nat) :=
  oexc (f_X5_checkRange p0 (0 : Int32) (100 : Int32)) fun u1 =>
  olift (
    (xis h a0 5).bind fun v2 =>
    obind1 (f_X5_prepareTrial fu h a0) fun h1 =>
    oret1 (xloop (xf2 fun (v3 : Int32) (h2 : XH) =>
      if (60000 : Int32) < v3 then
        some (.inr (.inl h2))
      else
        (xis h2 a0 5).bind fun v4 =>
        obind1 (f_X5_setTrialCapacity h2 a0 v3) fun h4 =>
        (xgR h4 a0 5 1).bind fun v5 =>
        (xis h4 v5 2).bind fun v6 =>
        obind2 (f_X2_serveAll fu h4 v5 p0) fun v7 h5 =>
        if p0 < v7 then
          olet (v3 + (500 : Int32)) fun v8 =>
          some (.inl (v8, h5))
        else
          some (.inr (.inr (v3, h5)))
    ) fu ((500 : Int32), h1)) fun h3 =>
    some (((-1 : Int32), h3))
  )
abbrev rmX5_capacityFor : Room := { frames := 7, cells := 0, slots := 0, locals := 164 }
set_option maxHeartbeats 4000000 in
set_option maxRecDepth 100000 in
theorem m_X5_capacityFor (l : Launch) (B0 : Nat) (G : XG) (fu : Nat) (h hE : XH) (a0 : Nat) (p0 : Int32) (rE : Int32) (hf : f_X5_capacityFor fu h a0 p0 = some (.inl (rE, hE))) : Met l yX5_capacityFor wsX5_capacityFor rmX5_capacityFor (va_Pc [.ref a0, .int p0] (xU B0 G h)) (xQi B0 G hE rE) 0 0 (xA B0) := by
  refine xMet (cc := cX5_capacityFor) (maxL := 3) (by decide) rfl (Nat.le_of_ble_eq_true rfl) ?_
  intro p e s m args below meth c ls hx hb hr hml hown hlocks hnm hts hKK hP hl
  have hown : s.vm.findClass RX5 = some m.cls := hown
  have hl : lv_has ls 3 [(0, .ref a0), (1, .int p0)] := hl
  have hS : va_S (xA B0) s.heap s.heap [] := va_S.rf
  have inX5 : ∀ w ∈ wsX50, w ∈ wsX5_capacityFor := by decide +kernel
  have w1 := hts (.constant RX5 85 (60000)) (by decide +kernel)
  have w2 := hts (.fieldLink RX5 16 "RainReservoir" "trial" "LRainReservoir$State;") (by decide +kernel)
  generalize hQ : MQ below (xQi B0 G hE rE) args s 0 0 (xA B0) = Q
  unfold f_X5_capacityFor at hf
  refine lv_iload_n hx hb dX5_capacityFor_0 rfl (lv_at hl 1 rfl) ?_
  refine lv_iconst (v := (0 : Int32)) hx hb dX5_capacityFor_1 (by decide) ?_
  refine lv_bipush (v := (100 : Int32)) hx hb dX5_capacityFor_2 (by decide) ?_
  obtain ⟨u1, ev1, hf⟩ := oexc_l hf
  refine xc_Sv (rest := []) ⟨hx, hb, hml, hown, hts⟩ (m_X5_checkRange l B0 G h p0 (0 : Int32) (100 : Int32) ev1) (va_cwS 3 hts gX5_capacityFor_X5_checkRange rfl rfl rfl (by decide +kernel) ⟨Nat.le_of_ble_eq_true rfl, Nat.le_of_ble_eq_true rfl⟩) hKK hP hS rfl hl.1 rfl (Nat.le_of_ble_eq_true rfl) dX5_capacityFor_4 ⟨Nat.zero_le _, Nat.zero_le _⟩ (fun H locs hP hS => ?_)
  have hf := olift_l hf
  refine lv_aload_n hx hb dX5_capacityFor_7 rfl (lv_at hl 0 rfl) ?_
  obtain ⟨v2, ev2, hf⟩ := xb hf
  obtain ⟨h1, eh1, hf⟩ := xb1 hf
  refine xc_Vv (rest := []) ⟨hx, hb, hml, hown, hts⟩ (m_X5_prepareTrial l B0 G fu h h1 a0 eh1) (cwV 0 hts gX5_capacityFor_X5_prepareTrial rfl rfl rfl (by decide +kernel) ⟨Nat.le_of_ble_eq_true rfl, Nat.le_of_ble_eq_true rfl⟩) hKK hP hS ev2 rfl rfl hl.1 rfl (Nat.le_of_ble_eq_true rfl) dX5_capacityFor_8 ⟨Nat.zero_le _, Nat.zero_le _⟩ (fun H locs hP hS => ?_)
  refine lv_sipush (v := (500 : Int32)) hx hb dX5_capacityFor_11 (by decide) ?_
  refine lv_istore_n (lv' := [(2, .int (500 : Int32)), (0, .ref a0), (1, .int p0)]) hx hb dX5_capacityFor_14 rfl hl (by decide) rfl (fun ls hl => ?_)
  obtain ⟨out, eL, hEL, hER⟩ := xr1 hf
  have J1 : ∀ (h3 : XH), out = .inl h3 → ∀ (H : Heap) (locs : List Loc) (ls : Array Slot), xP B0 G h3 H → va_S (xA B0) s.heap H locs → lv_has ls 3 [] → W p l e rmX5_capacityFor s m args below meth c H locs 0 0 Q (F0 m 49 ls []) := by
    intro h3 hf H locs ls hP hS hl
    have hf := hEL _ hf
    refine lv_iconst (v := (-1 : Int32)) hx hb dX5_capacityFor_49 (by decide) ?_
    obtain ⟨rfl, rfl⟩ := xinj2 hf
    subst hQ
    exact xe_i hx hb hr hlocks hKK hP hS dX5_capacityFor_50
  refine xloop_ind (P := fun z => ∀ (H : Heap) (locs : List Loc) (ls : Array Slot), xP B0 G z.2 H → va_S (xA B0) s.heap H locs → lv_has ls 3 [(2, .int z.1), (0, .ref a0), (1, .int p0)] → W p l e rmX5_capacityFor s m args below meth c H locs 0 0 Q (F0 m 15 ls [])) ?_ eL _ _ _ hP hS (lv_sub hl [0, 1, 2] rfl)
  rintro ⟨v3, h2⟩ o hf IH EX H locs ls hP hS hl
  have EXL := fun r1 (e1 : o = .inr (.inl r1)) => (EX _ e1).symm
  have EXR := fun r1 (e1 : o = .inr (.inr r1)) => hER r1 (EX _ e1).symm
  have hf := xf2_e hf
  have hP : xP B0 G h2 H := hP
  have hl : lv_has ls 3 [(2, .int v3), (0, .ref a0), (1, .int p0)] := hl
  refine lv_iload_n hx hb dX5_capacityFor_15 rfl (lv_at hl 0 rfl) ?_
  refine lv_ldc (v := (60000 : Int32)) hx hb hown w1 dX5_capacityFor_16 ?_
  refine lv_icmp_gt (tgt := 49) hx hb dX5_capacityFor_18 (by decide) (fun c1 => ?_) (fun c1 => ?_)
  · have hf := xif_t hf c1
    have hf := EXL _ (Option.some.inj hf).symm
    exact J1 _ hf _ _ _ hP hS (lv_sub hl [] rfl)
  · have hf := xif_f hf c1
    refine lv_aload_n hx hb dX5_capacityFor_21 rfl (lv_at hl 1 rfl) ?_
    refine lv_iload_n hx hb dX5_capacityFor_22 rfl (lv_at hl 0 rfl) ?_
    obtain ⟨v4, ev4, hf⟩ := xb hf
    obtain ⟨h4, eh4, hf⟩ := xb1 hf
    refine xc_Vv (rest := []) ⟨hx, hb, hml, hown, hts⟩ (m_X5_setTrialCapacity l B0 G h2 h4 a0 v3 eh4) (cwV 1 hts gX5_capacityFor_X5_setTrialCapacity rfl rfl rfl (by decide +kernel) ⟨Nat.le_of_ble_eq_true rfl, Nat.le_of_ble_eq_true rfl⟩) hKK hP hS ev4 rfl rfl hl.1 rfl (Nat.le_of_ble_eq_true rfl) dX5_capacityFor_23 ⟨Nat.zero_le _, Nat.zero_le _⟩ (fun H locs hP hS => ?_)
    refine lv_aload_n hx hb dX5_capacityFor_26 rfl (lv_at hl 1 rfl) ?_
    obtain ⟨v5, ev5, hf⟩ := xb hf
    refine xr_getR hx hb hts inX5 hown hKK hP ev5 rfl (by decide) w2 (fun _ h9 => h9) dX5_capacityFor_27 ?_
    refine lv_iload_n hx hb dX5_capacityFor_30 rfl (lv_at hl 2 rfl) ?_
    obtain ⟨v6, ev6, hf⟩ := xb hf
    obtain ⟨v7, h5, ev7, hf⟩ := xb2 hf
    refine xc_Vi (rest := []) ⟨hx, hb, hml, hown, hts⟩ (m_X2_serveAll l B0 G fu h4 h5 v5 p0 v7 ev7) (cwV 1 hts gX5_capacityFor_X2_serveAll rfl rfl rfl (by decide +kernel) ⟨Nat.le_of_ble_eq_true rfl, Nat.le_of_ble_eq_true rfl⟩) hKK hP hS ev6 rfl rfl hl.1 rfl (Nat.le_of_ble_eq_true rfl) dX5_capacityFor_31 ⟨Nat.zero_le _, Nat.zero_le _⟩ (fun H locs hP hS => ?_)
    refine lv_iload_n hx hb dX5_capacityFor_34 rfl (lv_at hl 2 rfl) ?_
    refine lv_icmp_gt (tgt := 40) hx hb dX5_capacityFor_35 (by decide) (fun c2 => ?_) (fun c2 => ?_)
    · have hf := xif_t hf c2
      obtain ⟨v8, ev8, hf⟩ := xl hf
      refine lv_iincW (v := v8) (lv' := [(2, .int v8), (0, .ref a0), (1, .int p0)]) hx hb dX5_capacityFor_40 hl (k := 0) rfl (by rw [ev8]; rfl) (by decide) rfl (fun ls hl => ?_)
      refine lv_goto (tgt := 15) hx hb dX5_capacityFor_46 (by decide) ?_
      exact IH _ (Option.some.inj hf).symm _ _ _ hP hS (lv_sub hl [0, 1, 2] rfl)
    · have hf := xif_f hf c2
      refine lv_iload_n hx hb dX5_capacityFor_38 rfl (lv_at hl 0 rfl) ?_
      have hf := EXR _ (Option.some.inj hf).symm
      obtain ⟨rfl, rfl⟩ := xpair2 hf
      subst hQ
      exact xe_i hx hb hr hlocks hKK hP hS dX5_capacityFor_39
/-- RainReservoir.gutterLoss -/
def f_X5_gutterLoss (fu : Nat) (h : XH) (a0 : Nat) (p0 : Int32) : Option ((Int64 × XH) ⊕ Nat) :=
  (xgR h a0 5 0).bind fun v1 =>
  (xgI h v1 2 7).bind fun v2 =>
  oexc (f_X5_checkIndex p0 v2) fun u1 =>
  olift (
    (xis h a0 5).bind fun v4 =>
    obind1 (f_X5_prepareTrial fu h a0) fun h1 =>
    (xgR h1 a0 5 1).bind fun v5 =>
    (xgR h1 v5 2 6).bind fun v6 =>
    (xaldR h1 v6 3 p0).bind fun v7 =>
    (xgI h1 v7 1 5).bind fun v8 =>
    some (((Int32.toInt64 v8), h1))
  )
abbrev rmX5_gutterLoss : Room := { frames := 7, cells := 0, slots := 0, locals := 128 }
set_option maxHeartbeats 4000000 in
set_option maxRecDepth 100000 in
theorem m_X5_gutterLoss (l : Launch) (B0 : Nat) (G : XG) (fu : Nat) (h hE : XH) (a0 : Nat) (p0 : Int32) (rE : Int64) (hf : f_X5_gutterLoss fu h a0 p0 = some (.inl (rE, hE))) : Met l yX5_gutterLoss wsX5_gutterLoss rmX5_gutterLoss (va_Pc [.ref a0, .int p0] (xU B0 G h)) (xQl B0 G hE rE) 0 0 (xA B0) := by
  refine xMet (cc := cX5_gutterLoss) (maxL := 2) (by decide) rfl (Nat.le_of_ble_eq_true rfl) ?_
  intro p e s m args below meth c ls hx hb hr hml hown hlocks hnm hts hKK hP hl
  have hown : s.vm.findClass RX5 = some m.cls := hown
  have hl : lv_has ls 2 [(0, .ref a0), (1, .int p0)] := hl
  have hS : va_S (xA B0) s.heap s.heap [] := va_S.rf
  have inX1 : ∀ w ∈ wsX10, w ∈ wsX5_gutterLoss := by decide +kernel
  have inX2 : ∀ w ∈ wsX20, w ∈ wsX5_gutterLoss := by decide +kernel
  have inX5 : ∀ w ∈ wsX50, w ∈ wsX5_gutterLoss := by decide +kernel
  have w1 := hts (.fieldLink RX5 10 "RainReservoir" "now" "LRainReservoir$State;") (by decide +kernel)
  have w2 := hts (.fieldLink RX5 35 "RainReservoir$State" "roofCount" "I") (by decide +kernel)
  have w3 := hts (.fieldLink RX5 16 "RainReservoir" "trial" "LRainReservoir$State;") (by decide +kernel)
  have w4 := hts (.fieldLink RX5 49 "RainReservoir$State" "roofs" "[LRainReservoir$Roof;") (by decide +kernel)
  have w5 := hts (.fieldLink RX5 186 "RainReservoir$Roof" "spilledInAll" "I") (by decide +kernel)
  generalize hQ : MQ below (xQl B0 G hE rE) args s 0 0 (xA B0) = Q
  unfold f_X5_gutterLoss at hf
  refine lv_iload_n hx hb dX5_gutterLoss_0 rfl (lv_at hl 1 rfl) ?_
  refine lv_aload_n hx hb dX5_gutterLoss_1 rfl (lv_at hl 0 rfl) ?_
  obtain ⟨v1, ev1, hf⟩ := xb hf
  refine xr_getR hx hb hts inX5 hown hKK hP ev1 rfl (by decide) w1 (fun _ h9 => h9) dX5_gutterLoss_2 ?_
  obtain ⟨v2, ev2, hf⟩ := xb hf
  refine xr_getI hx hb hts inX2 hown hKK hP ev2 rfl (by decide) w2 (fun _ h9 => h9) dX5_gutterLoss_5 ?_
  obtain ⟨u1, ev3, hf⟩ := oexc_l hf
  refine xc_Sv (rest := []) ⟨hx, hb, hml, hown, hts⟩ (m_X5_checkIndex l B0 G h p0 v2 ev3) (va_cwS 2 hts gX5_gutterLoss_X5_checkIndex rfl rfl rfl (by decide +kernel) ⟨Nat.le_of_ble_eq_true rfl, Nat.le_of_ble_eq_true rfl⟩) hKK hP hS rfl hl.1 rfl (Nat.le_of_ble_eq_true rfl) dX5_gutterLoss_8 ⟨Nat.zero_le _, Nat.zero_le _⟩ (fun H locs hP hS => ?_)
  have hf := olift_l hf
  refine lv_aload_n hx hb dX5_gutterLoss_11 rfl (lv_at hl 0 rfl) ?_
  obtain ⟨v4, ev4, hf⟩ := xb hf
  obtain ⟨h1, eh1, hf⟩ := xb1 hf
  refine xc_Vv (rest := []) ⟨hx, hb, hml, hown, hts⟩ (m_X5_prepareTrial l B0 G fu h h1 a0 eh1) (cwV 0 hts gX5_gutterLoss_X5_prepareTrial rfl rfl rfl (by decide +kernel) ⟨Nat.le_of_ble_eq_true rfl, Nat.le_of_ble_eq_true rfl⟩) hKK hP hS ev4 rfl rfl hl.1 rfl (Nat.le_of_ble_eq_true rfl) dX5_gutterLoss_12 ⟨Nat.zero_le _, Nat.zero_le _⟩ (fun H locs hP hS => ?_)
  refine lv_aload_n hx hb dX5_gutterLoss_15 rfl (lv_at hl 0 rfl) ?_
  obtain ⟨v5, ev5, hf⟩ := xb hf
  refine xr_getR hx hb hts inX5 hown hKK hP ev5 rfl (by decide) w3 (fun _ h9 => h9) dX5_gutterLoss_16 ?_
  obtain ⟨v6, ev6, hf⟩ := xb hf
  refine xr_getR hx hb hts inX2 hown hKK hP ev6 rfl (by decide) w4 (fun _ h9 => h9) dX5_gutterLoss_19 ?_
  refine lv_iload_n hx hb dX5_gutterLoss_22 rfl (lv_at hl 1 rfl) ?_
  obtain ⟨v7, ev7, hf⟩ := xb hf
  refine xr_aald (fun _ => rfl) hx hb hKK hP ev7 dX5_gutterLoss_23 ?_
  obtain ⟨v8, ev8, hf⟩ := xb hf
  refine xr_getI hx hb hts inX1 hown hKK hP ev8 rfl (by decide) w5 (fun _ h9 => h9) dX5_gutterLoss_24 ?_
  refine lv_i2l hx hb dX5_gutterLoss_27 rfl ?_
  obtain ⟨rfl, rfl⟩ := xinj2 hf
  subst hQ
  exact xe_l hx hb hr hlocks hKK hP hS dX5_gutterLoss_28
/-- RainReservoir.undo -/
def f_X5_undo (fu : Nat) (h : XH) (a0 : Nat) : Option ((Int32 × XH) ⊕ Nat) :=
  (xgI h a0 5 3).bind fun v1 =>
  if (1 : Int32) ≤ v1 then
    olift (
      (xgI h a0 5 3).bind fun v2 =>
      (xpV h a0 5 3 (.int (v2 - (1 : Int32)))).bind fun h1 =>
      (xgR h1 a0 5 0).bind fun v3 =>
      (xgR h1 a0 5 2).bind fun v4 =>
      (xgI h1 a0 5 3).bind fun v5 =>
      (xaldR h1 v4 4 v5).bind fun v6 =>
      (xis h1 v3 2).bind fun v7 =>
      obind1 (f_X2_copyFrom fu h1 v3 v6) fun h2 =>
      (xgI h2 a0 5 3).bind fun v8 =>
      some ((v8, h2))
    )
  else
    some (.inr 1)
abbrev rmX5_undo : Room := { frames := 6, cells := 0, slots := 0, locals := 107 }
set_option maxHeartbeats 4000000 in
set_option maxRecDepth 100000 in
theorem m_X5_undo (l : Launch) (B0 : Nat) (G : XG) (fu : Nat) (h hE : XH) (a0 : Nat) (rE : Int32) (hf : f_X5_undo fu h a0 = some (.inl (rE, hE))) : Met l yX5_undo wsX5_undo rmX5_undo (va_Pc [.ref a0] (xU B0 G h)) (xQi B0 G hE rE) 0 0 (xA B0) := by
  refine xMet (cc := cX5_undo) (maxL := 1) (by decide) rfl (Nat.le_of_ble_eq_true rfl) ?_
  intro p e s m args below meth c ls hx hb hr hml hown hlocks hnm hts hKK hP hl
  have hown : s.vm.findClass RX5 = some m.cls := hown
  have hl : lv_has ls 1 [(0, .ref a0)] := hl
  have hS : va_S (xA B0) s.heap s.heap [] := va_S.rf
  have inX5 : ∀ w ∈ wsX50, w ∈ wsX5_undo := by decide +kernel
  have w1 := hts (.fieldLink RX5 207 "RainReservoir" "savedCount" "I") (by decide +kernel)
  have w2 := hts (.fieldLink RX5 10 "RainReservoir" "now" "LRainReservoir$State;") (by decide +kernel)
  have w3 := hts (.fieldLink RX5 19 "RainReservoir" "saved" "[LRainReservoir$State;") (by decide +kernel)
  generalize hQ : MQ below (xQi B0 G hE rE) args s 0 0 (xA B0) = Q
  unfold f_X5_undo at hf
  refine lv_aload_n hx hb dX5_undo_0 rfl (lv_at hl 0 rfl) ?_
  obtain ⟨v1, ev1, hf⟩ := xb hf
  refine xr_getI hx hb hts inX5 hown hKK hP ev1 rfl (by decide) w1 (fun _ h9 => h9) dX5_undo_1 ?_
  refine lv_iconst (v := (1 : Int32)) hx hb dX5_undo_4 (by decide) ?_
  refine lv_icmp_ge (tgt := 18) hx hb dX5_undo_5 (by decide) (fun c1 => ?_) (fun c1 => ?_)
  · have hf := xif_t hf c1
    have hf := olift_l hf
    refine lv_aload_n hx hb dX5_undo_18 rfl (lv_at hl 0 rfl) ?_
    refine lv_dup hx hb dX5_undo_19 rfl ?_
    obtain ⟨v2, ev2, hf⟩ := xb hf
    refine xr_getI hx hb hts inX5 hown hKK hP ev2 rfl (by decide) w1 (fun _ h9 => h9) dX5_undo_20 ?_
    refine lv_iconst (v := (1 : Int32)) hx hb dX5_undo_23 (by decide) ?_
    refine lv_isub hx hb dX5_undo_24 ?_
    obtain ⟨h1, eh1, hf⟩ := xb hf
    refine xr_put hx hb hts inX5 tyX5 tyX5_ok nmX5 hown hKK hP hS eh1 rfl (by decide) w1 (fun _ h9 => h9) rfl (tyX5_ok 3 (by decide)) rfl rfl dX5_undo_25 (fun H locs hP _ hS => ?_)
    refine lv_aload_n hx hb dX5_undo_28 rfl (lv_at hl 0 rfl) ?_
    obtain ⟨v3, ev3, hf⟩ := xb hf
    refine xr_getR hx hb hts inX5 hown hKK hP ev3 rfl (by decide) w2 (fun _ h9 => h9) dX5_undo_29 ?_
    refine lv_aload_n hx hb dX5_undo_32 rfl (lv_at hl 0 rfl) ?_
    obtain ⟨v4, ev4, hf⟩ := xb hf
    refine xr_getR hx hb hts inX5 hown hKK hP ev4 rfl (by decide) w3 (fun _ h9 => h9) dX5_undo_33 ?_
    refine lv_aload_n hx hb dX5_undo_36 rfl (lv_at hl 0 rfl) ?_
    obtain ⟨v5, ev5, hf⟩ := xb hf
    refine xr_getI hx hb hts inX5 hown hKK hP ev5 rfl (by decide) w1 (fun _ h9 => h9) dX5_undo_37 ?_
    obtain ⟨v6, ev6, hf⟩ := xb hf
    refine xr_aald (fun _ => rfl) hx hb hKK hP ev6 dX5_undo_40 ?_
    obtain ⟨v7, ev7, hf⟩ := xb hf
    obtain ⟨h2, eh2, hf⟩ := xb1 hf
    refine xc_Vv (rest := []) ⟨hx, hb, hml, hown, hts⟩ (m_X2_copyFrom l B0 G fu h1 h2 v3 v6 eh2) (cwV 1 hts gX5_undo_X2_copyFrom rfl rfl rfl (by decide +kernel) ⟨Nat.le_of_ble_eq_true rfl, Nat.le_of_ble_eq_true rfl⟩) hKK hP hS ev7 rfl rfl hl.1 rfl (Nat.le_of_ble_eq_true rfl) dX5_undo_41 ⟨Nat.zero_le _, Nat.zero_le _⟩ (fun H locs hP hS => ?_)
    refine lv_aload_n hx hb dX5_undo_44 rfl (lv_at hl 0 rfl) ?_
    obtain ⟨v8, ev8, hf⟩ := xb hf
    refine xr_getI hx hb hts inX5 hown hKK hP ev8 rfl (by decide) w1 (fun _ h9 => h9) dX5_undo_45 ?_
    obtain ⟨rfl, rfl⟩ := xinj2 hf
    subst hQ
    exact xe_i hx hb hr hlocks hKK hP hS dX5_undo_48
  · have hf := xif_f hf c1
    cases hf
