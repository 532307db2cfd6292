/-- the law: addRoof -/
def f_L_addRoof (fu : Nat) (h : XH) (q0 : Nat) (p1 : Int32) (p2 : Int32) (p3 : Int32) (p4 : Int32) (q5 : Nat) : Option (Int32 × XH) :=
  (xis h q0 5).bind fun u =>
  xcatch (f_X5_addRoof fu h q0 p1 p2 p3 p4) (fun z => (xastL z.2 q5 (0 : Int32) (Int32.toInt64 z.1)).bind fun h2 => some ((0 : Int32), h2)) fun n =>
    if n = 0 then some ((1 : Int32), h) else if n = 1 then some ((2 : Int32), h) else none
abbrev rmL_addRoof : Room := { frames := 8, cells := 1, slots := 6, locals := 153 }
set_option maxHeartbeats 4000000 in
set_option maxRecDepth 100000 in
theorem m_L_addRoof (l : Launch) (htr : l.stackTraces = false) (B0 : Nat) (G : XG) (fu : Nat) (h hE : XH) (q0 : Nat) (p1 : Int32) (p2 : Int32) (p3 : Int32) (p4 : Int32) (q5 : Nat) (rE : Int32) (hf : f_L_addRoof fu h q0 p1 p2 p3 p4 q5 = some (rE, hE)) : Met l yL_addRoof wsL_addRoof rmL_addRoof (va_Pc [.ref q0, .int p1, .int p2, .int p3, .int p4, .ref q5] (xUL B0 G h)) (xQi B0 G hE rE) 1 6 (xA B0) := by
  refine xMetW (cc := cL_addRoof) (maxL := 7) (hh := [(0, 14, 17, 13), (0, 14, 21, 15)]) (by decide) rfl (Nat.le_of_ble_eq_true rfl) ?_
  intro p e s m args below meth c ls hx hb hr hml hown hlocks htab hts hKK hP hZ hX hC hl
  have hown : s.vm.findClass RL = some m.cls := hown
  have hl : lv_has ls 7 [(0, .ref q0), (1, .int p1), (2, .int p2), (3, .int p3), (4, .int p4), (5, .ref q5)] := hl
  have hS : va_S (xA B0) s.heap s.heap [] := va_S.rf
  have hng := hX.2.2.2.2.2.2.2.2
  generalize hQ : MQ below (xQi B0 G hE rE) args s 1 6 (xA B0) = Q
  unfold f_L_addRoof at hf
  obtain ⟨u, eu, hf⟩ := xb hf
  refine lv_aload hx hb dL_addRoof_0 (lv_at hl 5 rfl) ?_
  refine lv_iconst (v := (0 : Int32)) hx hb dL_addRoof_2 (by decide) ?_
  refine lv_aload_n hx hb dL_addRoof_3 rfl (lv_at hl 0 rfl) ?_
  refine lv_iload_n hx hb dL_addRoof_4 rfl (lv_at hl 1 rfl) ?_
  refine lv_iload_n hx hb dL_addRoof_5 rfl (lv_at hl 2 rfl) ?_
  refine lv_iload_n hx hb dL_addRoof_6 rfl (lv_at hl 3 rfl) ?_
  refine lv_iload hx hb dL_addRoof_7 (lv_at hl 4 rfl) ?_
  rcases xcatch_e hf with ⟨⟨v1, h1⟩, e1, hf⟩ | ⟨n1, e1, hf⟩
  · refine xc_Vi (rest := [.int (0 : Int32), .ref q5]) ⟨hx, hb, hml, hown, hts⟩ (m_X5_addRoof l B0 G fu h h1 q0 p1 p2 p3 p4 v1 e1) (cwV 4 hts gL_addRoof_X5_addRoof rfl rfl rfl (by decide +kernel) ⟨Nat.le_of_ble_eq_true rfl, Nat.le_of_ble_eq_true rfl⟩) hKK hP hS eu rfl rfl hl.1 rfl (Nat.le_of_ble_eq_true rfl) dL_addRoof_9 ⟨Nat.zero_le _, Nat.zero_le _⟩ (fun H locs hP hS => ?_)
    refine lv_i2l hx hb dL_addRoof_12 rfl ?_
    obtain ⟨h2, eh2, hf⟩ := xb hf
    refine xr_last hx hb hKK hP hS eh2 dL_addRoof_13 (fun H locs hP _ hS => ?_)
    refine lv_goto (tgt := 25) hx hb dL_addRoof_14 (by decide) ?_
    refine lv_iconst (v := (0 : Int32)) hx hb dL_addRoof_25 (by decide) ?_
    refine W.widen (k := 1) (n := 6) (by omega) (by omega) ?_
    obtain ⟨rfl, rfl⟩ := xinj2 hf
    subst hQ
    exact xe_i hx hb hr hlocks hKK hP hS dL_addRoof_26
  · refine xc_Vx (rest := [.int (0 : Int32), .ref q5]) ⟨hx, hb, hml, hown, hts⟩ (mx_X5_addRoof l htr B0 G fu h q0 p1 p2 p3 p4 n1 e1) (cwV 4 hts gL_addRoof_X5_addRoof rfl rfl rfl (by decide +kernel) ⟨Nat.le_of_ble_eq_true rfl, Nat.le_of_ble_eq_true rfl⟩) hKK hZ hX hP hS eu rfl rfl hl.1 rfl (Nat.le_of_ble_eq_true rfl) dL_addRoof_9 ⟨Nat.le_of_ble_eq_true rfl, Nat.le_of_ble_eq_true rfl⟩ (fun q9 ce H locs hP hS hce hcv hcl => ?_)
    by_cases c0 : n1 = 0
    · have hf := xif_t hf c0
      subst c0
      refine vx_catch (own := RL) (name := xEx 0) (E := xEx 0) hown [] ⟨0, 14, 17, 13⟩ [⟨0, 14, 21, 15⟩] (htab.trans rfl) (fun z hz => absurd hz List.not_mem_nil) rfl (by decide) (hts (.classLink RL 13 "java/lang/IllegalArgumentException") (by decide +kernel)) (hng.at _ (List.mem_of_getElem? (i := 3) rfl)) hce hcv hcl ?_
      refine lv_astore (lv' := [(6, .ref q9), (0, .ref q0), (1, .int p1), (2, .int p2), (3, .int p3), (4, .int p4), (5, .ref q5)]) hx hb dL_addRoof_17 hl (by decide) rfl (fun ls hl => ?_)
      refine lv_iconst (v := (1 : Int32)) hx hb dL_addRoof_19 (by decide) ?_
      obtain ⟨rfl, rfl⟩ := xinj2 hf
      subst hQ
      exact xe_i hx hb hr hlocks hKK hP hS dL_addRoof_20
    have hf := xif_f hf c0
    by_cases c1 : n1 = 1
    · have hf := xif_t hf c1
      subst c1
      refine vx_catch (own := RL) (name := xEx 1) (E := xEx 1) hown [⟨0, 14, 17, 13⟩] ⟨0, 14, 21, 15⟩ [] (htab.trans rfl) (fun z hz => by rw [List.mem_singleton] at hz; subst hz; exact Or.inr ⟨by decide, _, hts (.classLink RL 13 "java/lang/IllegalArgumentException") (by decide +kernel), hC.2.2.1⟩) rfl (by decide) (hts (.classLink RL 15 "java/lang/IllegalStateException") (by decide +kernel)) (hng.at _ (List.mem_of_getElem? (i := 4) rfl)) hce hcv hcl ?_
      refine lv_astore (lv' := [(6, .ref q9), (0, .ref q0), (1, .int p1), (2, .int p2), (3, .int p3), (4, .int p4), (5, .ref q5)]) hx hb dL_addRoof_21 hl (by decide) rfl (fun ls hl => ?_)
      refine lv_iconst (v := (2 : Int32)) hx hb dL_addRoof_23 (by decide) ?_
      obtain ⟨rfl, rfl⟩ := xinj2 hf
      subst hQ
      exact xe_i hx hb hr hlocks hKK hP hS dL_addRoof_24
    have hf := xif_f hf c1
    cases hf
/-- the law: addUser -/
def f_L_addUser (fu : Nat) (h : XH) (q0 : Nat) (p1 : Int32) (p2 : Int32) (q3 : Nat) : Option (Int32 × XH) :=
  (xis h q0 5).bind fun u =>
  xcatch (f_X5_addUser fu h q0 p1 p2) (fun z => (xastL z.2 q3 (0 : Int32) (Int32.toInt64 z.1)).bind fun h2 => some ((0 : Int32), h2)) fun n =>
    if n = 0 then some ((1 : Int32), h) else if n = 1 then some ((2 : Int32), h) else none
abbrev rmL_addUser : Room := { frames := 8, cells := 1, slots := 6, locals := 151 }
set_option maxHeartbeats 4000000 in
set_option maxRecDepth 100000 in
theorem m_L_addUser (l : Launch) (htr : l.stackTraces = false) (B0 : Nat) (G : XG) (fu : Nat) (h hE : XH) (q0 : Nat) (p1 : Int32) (p2 : Int32) (q3 : Nat) (rE : Int32) (hf : f_L_addUser fu h q0 p1 p2 q3 = some (rE, hE)) : Met l yL_addUser wsL_addUser rmL_addUser (va_Pc [.ref q0, .int p1, .int p2, .ref q3] (xUL B0 G h)) (xQi B0 G hE rE) 1 6 (xA B0) := by
  refine xMetW (cc := cL_addUser) (maxL := 5) (hh := [(0, 10, 13, 13), (0, 10, 17, 15)]) (by decide) rfl (Nat.le_of_ble_eq_true rfl) ?_
  intro p e s m args below meth c ls hx hb hr hml hown hlocks htab hts hKK hP hZ hX hC hl
  have hown : s.vm.findClass RL = some m.cls := hown
  have hl : lv_has ls 5 [(0, .ref q0), (1, .int p1), (2, .int p2), (3, .ref q3)] := hl
  have hS : va_S (xA B0) s.heap s.heap [] := va_S.rf
  have hng := hX.2.2.2.2.2.2.2.2
  generalize hQ : MQ below (xQi B0 G hE rE) args s 1 6 (xA B0) = Q
  unfold f_L_addUser at hf
  obtain ⟨u, eu, hf⟩ := xb hf
  refine lv_aload_n hx hb dL_addUser_0 rfl (lv_at hl 3 rfl) ?_
  refine lv_iconst (v := (0 : Int32)) hx hb dL_addUser_1 (by decide) ?_
  refine lv_aload_n hx hb dL_addUser_2 rfl (lv_at hl 0 rfl) ?_
  refine lv_iload_n hx hb dL_addUser_3 rfl (lv_at hl 1 rfl) ?_
  refine lv_iload_n hx hb dL_addUser_4 rfl (lv_at hl 2 rfl) ?_
  rcases xcatch_e hf with ⟨⟨v1, h1⟩, e1, hf⟩ | ⟨n1, e1, hf⟩
  · refine xc_Vi (rest := [.int (0 : Int32), .ref q3]) ⟨hx, hb, hml, hown, hts⟩ (m_X5_addUser l B0 G fu h h1 q0 p1 p2 v1 e1) (cwV 2 hts gL_addUser_X5_addUser rfl rfl rfl (by decide +kernel) ⟨Nat.le_of_ble_eq_true rfl, Nat.le_of_ble_eq_true rfl⟩) hKK hP hS eu rfl rfl hl.1 rfl (Nat.le_of_ble_eq_true rfl) dL_addUser_5 ⟨Nat.zero_le _, Nat.zero_le _⟩ (fun H locs hP hS => ?_)
    refine lv_i2l hx hb dL_addUser_8 rfl ?_
    obtain ⟨h2, eh2, hf⟩ := xb hf
    refine xr_last hx hb hKK hP hS eh2 dL_addUser_9 (fun H locs hP _ hS => ?_)
    refine lv_goto (tgt := 21) hx hb dL_addUser_10 (by decide) ?_
    refine lv_iconst (v := (0 : Int32)) hx hb dL_addUser_21 (by decide) ?_
    refine W.widen (k := 1) (n := 6) (by omega) (by omega) ?_
    obtain ⟨rfl, rfl⟩ := xinj2 hf
    subst hQ
    exact xe_i hx hb hr hlocks hKK hP hS dL_addUser_22
  · refine xc_Vx (rest := [.int (0 : Int32), .ref q3]) ⟨hx, hb, hml, hown, hts⟩ (mx_X5_addUser l htr B0 G fu h q0 p1 p2 n1 e1) (cwV 2 hts gL_addUser_X5_addUser rfl rfl rfl (by decide +kernel) ⟨Nat.le_of_ble_eq_true rfl, Nat.le_of_ble_eq_true rfl⟩) hKK hZ hX hP hS eu rfl rfl hl.1 rfl (Nat.le_of_ble_eq_true rfl) dL_addUser_5 ⟨Nat.le_of_ble_eq_true rfl, Nat.le_of_ble_eq_true rfl⟩ (fun q9 ce H locs hP hS hce hcv hcl => ?_)
    by_cases c0 : n1 = 0
    · have hf := xif_t hf c0
      subst c0
      refine vx_catch (own := RL) (name := xEx 0) (E := xEx 0) hown [] ⟨0, 10, 13, 13⟩ [⟨0, 10, 17, 15⟩] (htab.trans rfl) (fun z hz => absurd hz List.not_mem_nil) rfl (by decide) (hts (.classLink RL 13 "java/lang/IllegalArgumentException") (by decide +kernel)) (hng.at _ (List.mem_of_getElem? (i := 3) rfl)) hce hcv hcl ?_
      refine lv_astore (lv' := [(4, .ref q9), (0, .ref q0), (1, .int p1), (2, .int p2), (3, .ref q3)]) hx hb dL_addUser_13 hl (by decide) rfl (fun ls hl => ?_)
      refine lv_iconst (v := (1 : Int32)) hx hb dL_addUser_15 (by decide) ?_
      obtain ⟨rfl, rfl⟩ := xinj2 hf
      subst hQ
      exact xe_i hx hb hr hlocks hKK hP hS dL_addUser_16
    have hf := xif_f hf c0
    by_cases c1 : n1 = 1
    · have hf := xif_t hf c1
      subst c1
      refine vx_catch (own := RL) (name := xEx 1) (E := xEx 1) hown [⟨0, 10, 13, 13⟩] ⟨0, 10, 17, 15⟩ [] (htab.trans rfl) (fun z hz => by rw [List.mem_singleton] at hz; subst hz; exact Or.inr ⟨by decide, _, hts (.classLink RL 13 "java/lang/IllegalArgumentException") (by decide +kernel), hC.2.2.1⟩) rfl (by decide) (hts (.classLink RL 15 "java/lang/IllegalStateException") (by decide +kernel)) (hng.at _ (List.mem_of_getElem? (i := 4) rfl)) hce hcv hcl ?_
      refine lv_astore (lv' := [(4, .ref q9), (0, .ref q0), (1, .int p1), (2, .int p2), (3, .ref q3)]) hx hb dL_addUser_17 hl (by decide) rfl (fun ls hl => ?_)
      refine lv_iconst (v := (2 : Int32)) hx hb dL_addUser_19 (by decide) ?_
      obtain ⟨rfl, rfl⟩ := xinj2 hf
      subst hQ
      exact xe_i hx hb hr hlocks hKK hP hS dL_addUser_20
    have hf := xif_f hf c1
    cases hf
/-- the law: setDemand -/
def f_L_setDemand (fu : Nat) (h : XH) (q0 : Nat) (p1 : Int32) (p2 : Int32) (q3 : Nat) : Option (Int32 × XH) :=
  (xis h q0 5).bind fun u =>
  xcatch (f_X5_setDemand fu h q0 p1 p2) (fun z => (xastL z.2 q3 (0 : Int32) (Int32.toInt64 z.1)).bind fun h2 => some ((0 : Int32), h2)) fun n =>
    if n = 2 then some ((1 : Int32), h) else if n = 0 then some ((2 : Int32), h) else none
abbrev rmL_setDemand : Room := { frames := 8, cells := 1, slots := 6, locals := 153 }
set_option maxHeartbeats 4000000 in
set_option maxRecDepth 100000 in
theorem m_L_setDemand (l : Launch) (htr : l.stackTraces = false) (B0 : Nat) (G : XG) (fu : Nat) (h hE : XH) (q0 : Nat) (p1 : Int32) (p2 : Int32) (q3 : Nat) (rE : Int32) (hf : f_L_setDemand fu h q0 p1 p2 q3 = some (rE, hE)) : Met l yL_setDemand wsL_setDemand rmL_setDemand (va_Pc [.ref q0, .int p1, .int p2, .ref q3] (xUL B0 G h)) (xQi B0 G hE rE) 1 6 (xA B0) := by
  refine xMetW (cc := cL_setDemand) (maxL := 5) (hh := [(0, 10, 13, 24), (0, 10, 17, 13)]) (by decide) rfl (Nat.le_of_ble_eq_true rfl) ?_
  intro p e s m args below meth c ls hx hb hr hml hown hlocks htab hts hKK hP hZ hX hC hl
  have hown : s.vm.findClass RL = some m.cls := hown
  have hl : lv_has ls 5 [(0, .ref q0), (1, .int p1), (2, .int p2), (3, .ref q3)] := hl
  have hS : va_S (xA B0) s.heap s.heap [] := va_S.rf
  have hng := hX.2.2.2.2.2.2.2.2
  generalize hQ : MQ below (xQi B0 G hE rE) args s 1 6 (xA B0) = Q
  unfold f_L_setDemand at hf
  obtain ⟨u, eu, hf⟩ := xb hf
  refine lv_aload_n hx hb dL_setDemand_0 rfl (lv_at hl 3 rfl) ?_
  refine lv_iconst (v := (0 : Int32)) hx hb dL_setDemand_1 (by decide) ?_
  refine lv_aload_n hx hb dL_setDemand_2 rfl (lv_at hl 0 rfl) ?_
  refine lv_iload_n hx hb dL_setDemand_3 rfl (lv_at hl 1 rfl) ?_
  refine lv_iload_n hx hb dL_setDemand_4 rfl (lv_at hl 2 rfl) ?_
  rcases xcatch_e hf with ⟨⟨v1, h1⟩, e1, hf⟩ | ⟨n1, e1, hf⟩
  · refine xc_Vi (rest := [.int (0 : Int32), .ref q3]) ⟨hx, hb, hml, hown, hts⟩ (m_X5_setDemand l B0 G fu h h1 q0 p1 p2 v1 e1) (cwV 2 hts gL_setDemand_X5_setDemand rfl rfl rfl (by decide +kernel) ⟨Nat.le_of_ble_eq_true rfl, Nat.le_of_ble_eq_true rfl⟩) hKK hP hS eu rfl rfl hl.1 rfl (Nat.le_of_ble_eq_true rfl) dL_setDemand_5 ⟨Nat.zero_le _, Nat.zero_le _⟩ (fun H locs hP hS => ?_)
    refine lv_i2l hx hb dL_setDemand_8 rfl ?_
    obtain ⟨h2, eh2, hf⟩ := xb hf
    refine xr_last hx hb hKK hP hS eh2 dL_setDemand_9 (fun H locs hP _ hS => ?_)
    refine lv_goto (tgt := 21) hx hb dL_setDemand_10 (by decide) ?_
    refine lv_iconst (v := (0 : Int32)) hx hb dL_setDemand_21 (by decide) ?_
    refine W.widen (k := 1) (n := 6) (by omega) (by omega) ?_
    obtain ⟨rfl, rfl⟩ := xinj2 hf
    subst hQ
    exact xe_i hx hb hr hlocks hKK hP hS dL_setDemand_22
  · refine xc_Vx (rest := [.int (0 : Int32), .ref q3]) ⟨hx, hb, hml, hown, hts⟩ (mx_X5_setDemand l htr B0 G fu h q0 p1 p2 n1 e1) (cwV 2 hts gL_setDemand_X5_setDemand rfl rfl rfl (by decide +kernel) ⟨Nat.le_of_ble_eq_true rfl, Nat.le_of_ble_eq_true rfl⟩) hKK hZ hX hP hS eu rfl rfl hl.1 rfl (Nat.le_of_ble_eq_true rfl) dL_setDemand_5 ⟨Nat.le_of_ble_eq_true rfl, Nat.le_of_ble_eq_true rfl⟩ (fun q9 ce H locs hP hS hce hcv hcl => ?_)
    by_cases c0 : n1 = 2
    · have hf := xif_t hf c0
      subst c0
      refine vx_catch (own := RL) (name := xEx 2) (E := xEx 2) hown [] ⟨0, 10, 13, 24⟩ [⟨0, 10, 17, 13⟩] (htab.trans rfl) (fun z hz => absurd hz List.not_mem_nil) rfl (by decide) (hts (.classLink RL 24 "java/lang/IndexOutOfBoundsException") (by decide +kernel)) (hng.at _ (List.mem_of_getElem? (i := 5) rfl)) hce hcv hcl ?_
      refine lv_astore (lv' := [(4, .ref q9), (0, .ref q0), (1, .int p1), (2, .int p2), (3, .ref q3)]) hx hb dL_setDemand_13 hl (by decide) rfl (fun ls hl => ?_)
      refine lv_iconst (v := (1 : Int32)) hx hb dL_setDemand_15 (by decide) ?_
      obtain ⟨rfl, rfl⟩ := xinj2 hf
      subst hQ
      exact xe_i hx hb hr hlocks hKK hP hS dL_setDemand_16
    have hf := xif_f hf c0
    by_cases c1 : n1 = 0
    · have hf := xif_t hf c1
      subst c1
      refine vx_catch (own := RL) (name := xEx 0) (E := xEx 0) hown [⟨0, 10, 13, 24⟩] ⟨0, 10, 17, 13⟩ [] (htab.trans rfl) (fun z hz => by rw [List.mem_singleton] at hz; subst hz; exact Or.inr ⟨by decide, _, hts (.classLink RL 24 "java/lang/IndexOutOfBoundsException") (by decide +kernel), hC.2.1⟩) rfl (by decide) (hts (.classLink RL 13 "java/lang/IllegalArgumentException") (by decide +kernel)) (hng.at _ (List.mem_of_getElem? (i := 3) rfl)) hce hcv hcl ?_
      refine lv_astore (lv' := [(4, .ref q9), (0, .ref q0), (1, .int p1), (2, .int p2), (3, .ref q3)]) hx hb dL_setDemand_17 hl (by decide) rfl (fun ls hl => ?_)
      refine lv_iconst (v := (2 : Int32)) hx hb dL_setDemand_19 (by decide) ?_
      obtain ⟨rfl, rfl⟩ := xinj2 hf
      subst hQ
      exact xe_i hx hb hr hlocks hKK hP hS dL_setDemand_20
    have hf := xif_f hf c1
    cases hf
/-- the law: setReservoir -/
def f_L_setReservoir (fu : Nat) (h : XH) (q0 : Nat) (p1 : Int32) (p2 : Int32) (p3 : Int32) (q4 : Nat) : Option (Int32 × XH) :=
  (xis h q0 5).bind fun u =>
  xcatch (f_X5_setReservoir fu h q0 p1 p2 p3) (fun z => (xastL z.2 q4 (0 : Int32) (Int32.toInt64 z.1)).bind fun h2 => some ((0 : Int32), h2)) fun n =>
    if n = 0 then some ((1 : Int32), h) else none
abbrev rmL_setReservoir : Room := { frames := 8, cells := 1, slots := 6, locals := 153 }
set_option maxHeartbeats 4000000 in
set_option maxRecDepth 100000 in
theorem m_L_setReservoir (l : Launch) (htr : l.stackTraces = false) (B0 : Nat) (G : XG) (fu : Nat) (h hE : XH) (q0 : Nat) (p1 : Int32) (p2 : Int32) (p3 : Int32) (q4 : Nat) (rE : Int32) (hf : f_L_setReservoir fu h q0 p1 p2 p3 q4 = some (rE, hE)) : Met l yL_setReservoir wsL_setReservoir rmL_setReservoir (va_Pc [.ref q0, .int p1, .int p2, .int p3, .ref q4] (xUL B0 G h)) (xQi B0 G hE rE) 1 6 (xA B0) := by
  refine xMetW (cc := cL_setReservoir) (maxL := 6) (hh := [(0, 12, 15, 13)]) (by decide) rfl (Nat.le_of_ble_eq_true rfl) ?_
  intro p e s m args below meth c ls hx hb hr hml hown hlocks htab hts hKK hP hZ hX hC hl
  have hown : s.vm.findClass RL = some m.cls := hown
  have hl : lv_has ls 6 [(0, .ref q0), (1, .int p1), (2, .int p2), (3, .int p3), (4, .ref q4)] := hl
  have hS : va_S (xA B0) s.heap s.heap [] := va_S.rf
  have hng := hX.2.2.2.2.2.2.2.2
  generalize hQ : MQ below (xQi B0 G hE rE) args s 1 6 (xA B0) = Q
  unfold f_L_setReservoir at hf
  obtain ⟨u, eu, hf⟩ := xb hf
  refine lv_aload hx hb dL_setReservoir_0 (lv_at hl 4 rfl) ?_
  refine lv_iconst (v := (0 : Int32)) hx hb dL_setReservoir_2 (by decide) ?_
  refine lv_aload_n hx hb dL_setReservoir_3 rfl (lv_at hl 0 rfl) ?_
  refine lv_iload_n hx hb dL_setReservoir_4 rfl (lv_at hl 1 rfl) ?_
  refine lv_iload_n hx hb dL_setReservoir_5 rfl (lv_at hl 2 rfl) ?_
  refine lv_iload_n hx hb dL_setReservoir_6 rfl (lv_at hl 3 rfl) ?_
  rcases xcatch_e hf with ⟨⟨v1, h1⟩, e1, hf⟩ | ⟨n1, e1, hf⟩
  · refine xc_Vi (rest := [.int (0 : Int32), .ref q4]) ⟨hx, hb, hml, hown, hts⟩ (m_X5_setReservoir l B0 G fu h h1 q0 p1 p2 p3 v1 e1) (cwV 3 hts gL_setReservoir_X5_setReservoir rfl rfl rfl (by decide +kernel) ⟨Nat.le_of_ble_eq_true rfl, Nat.le_of_ble_eq_true rfl⟩) hKK hP hS eu rfl rfl hl.1 rfl (Nat.le_of_ble_eq_true rfl) dL_setReservoir_7 ⟨Nat.zero_le _, Nat.zero_le _⟩ (fun H locs hP hS => ?_)
    refine lv_i2l hx hb dL_setReservoir_10 rfl ?_
    obtain ⟨h2, eh2, hf⟩ := xb hf
    refine xr_last hx hb hKK hP hS eh2 dL_setReservoir_11 (fun H locs hP _ hS => ?_)
    refine lv_goto (tgt := 19) hx hb dL_setReservoir_12 (by decide) ?_
    refine lv_iconst (v := (0 : Int32)) hx hb dL_setReservoir_19 (by decide) ?_
    refine W.widen (k := 1) (n := 6) (by omega) (by omega) ?_
    obtain ⟨rfl, rfl⟩ := xinj2 hf
    subst hQ
    exact xe_i hx hb hr hlocks hKK hP hS dL_setReservoir_20
  · refine xc_Vx (rest := [.int (0 : Int32), .ref q4]) ⟨hx, hb, hml, hown, hts⟩ (mx_X5_setReservoir l htr B0 G fu h q0 p1 p2 p3 n1 e1) (cwV 3 hts gL_setReservoir_X5_setReservoir rfl rfl rfl (by decide +kernel) ⟨Nat.le_of_ble_eq_true rfl, Nat.le_of_ble_eq_true rfl⟩) hKK hZ hX hP hS eu rfl rfl hl.1 rfl (Nat.le_of_ble_eq_true rfl) dL_setReservoir_7 ⟨Nat.le_of_ble_eq_true rfl, Nat.le_of_ble_eq_true rfl⟩ (fun q9 ce H locs hP hS hce hcv hcl => ?_)
    by_cases c0 : n1 = 0
    · have hf := xif_t hf c0
      subst c0
      refine vx_catch (own := RL) (name := xEx 0) (E := xEx 0) hown [] ⟨0, 12, 15, 13⟩ [] (htab.trans rfl) (fun z hz => absurd hz List.not_mem_nil) rfl (by decide) (hts (.classLink RL 13 "java/lang/IllegalArgumentException") (by decide +kernel)) (hng.at _ (List.mem_of_getElem? (i := 3) rfl)) hce hcv hcl ?_
      refine lv_astore (lv' := [(5, .ref q9), (0, .ref q0), (1, .int p1), (2, .int p2), (3, .int p3), (4, .ref q4)]) hx hb dL_setReservoir_15 hl (by decide) rfl (fun ls hl => ?_)
      refine lv_iconst (v := (1 : Int32)) hx hb dL_setReservoir_17 (by decide) ?_
      obtain ⟨rfl, rfl⟩ := xinj2 hf
      subst hQ
      exact xe_i hx hb hr hlocks hKK hP hS dL_setReservoir_18
    have hf := xif_f hf c0
    cases hf
/-- the law: setWays -/
def f_L_setWays (fu : Nat) (h : XH) (q0 : Nat) (p1 : Int32) (p2 : Int32) (p3 : Int32) (q4 : Nat) : Option (Int32 × XH) :=
  (xis h q0 5).bind fun u =>
  xcatch (f_X5_setWays fu h q0 p1 p2 p3) (fun z => (xastL z.2 q4 (0 : Int32) (Int32.toInt64 z.1)).bind fun h2 => some ((0 : Int32), h2)) fun n =>
    if n = 0 then some ((1 : Int32), h) else none
abbrev rmL_setWays : Room := { frames := 8, cells := 1, slots := 6, locals := 153 }
set_option maxHeartbeats 4000000 in
set_option maxRecDepth 100000 in
theorem m_L_setWays (l : Launch) (htr : l.stackTraces = false) (B0 : Nat) (G : XG) (fu : Nat) (h hE : XH) (q0 : Nat) (p1 : Int32) (p2 : Int32) (p3 : Int32) (q4 : Nat) (rE : Int32) (hf : f_L_setWays fu h q0 p1 p2 p3 q4 = some (rE, hE)) : Met l yL_setWays wsL_setWays rmL_setWays (va_Pc [.ref q0, .int p1, .int p2, .int p3, .ref q4] (xUL B0 G h)) (xQi B0 G hE rE) 1 6 (xA B0) := by
  refine xMetW (cc := cL_setWays) (maxL := 6) (hh := [(0, 12, 15, 13)]) (by decide) rfl (Nat.le_of_ble_eq_true rfl) ?_
  intro p e s m args below meth c ls hx hb hr hml hown hlocks htab hts hKK hP hZ hX hC hl
  have hown : s.vm.findClass RL = some m.cls := hown
  have hl : lv_has ls 6 [(0, .ref q0), (1, .int p1), (2, .int p2), (3, .int p3), (4, .ref q4)] := hl
  have hS : va_S (xA B0) s.heap s.heap [] := va_S.rf
  have hng := hX.2.2.2.2.2.2.2.2
  generalize hQ : MQ below (xQi B0 G hE rE) args s 1 6 (xA B0) = Q
  unfold f_L_setWays at hf
  obtain ⟨u, eu, hf⟩ := xb hf
  refine lv_aload hx hb dL_setWays_0 (lv_at hl 4 rfl) ?_
  refine lv_iconst (v := (0 : Int32)) hx hb dL_setWays_2 (by decide) ?_
  refine lv_aload_n hx hb dL_setWays_3 rfl (lv_at hl 0 rfl) ?_
  refine lv_iload_n hx hb dL_setWays_4 rfl (lv_at hl 1 rfl) ?_
  refine lv_iload_n hx hb dL_setWays_5 rfl (lv_at hl 2 rfl) ?_
  refine lv_iload_n hx hb dL_setWays_6 rfl (lv_at hl 3 rfl) ?_
  rcases xcatch_e hf with ⟨⟨v1, h1⟩, e1, hf⟩ | ⟨n1, e1, hf⟩
  · refine xc_Vi (rest := [.int (0 : Int32), .ref q4]) ⟨hx, hb, hml, hown, hts⟩ (m_X5_setWays l B0 G fu h h1 q0 p1 p2 p3 v1 e1) (cwV 3 hts gL_setWays_X5_setWays rfl rfl rfl (by decide +kernel) ⟨Nat.le_of_ble_eq_true rfl, Nat.le_of_ble_eq_true rfl⟩) hKK hP hS eu rfl rfl hl.1 rfl (Nat.le_of_ble_eq_true rfl) dL_setWays_7 ⟨Nat.zero_le _, Nat.zero_le _⟩ (fun H locs hP hS => ?_)
    refine lv_i2l hx hb dL_setWays_10 rfl ?_
    obtain ⟨h2, eh2, hf⟩ := xb hf
    refine xr_last hx hb hKK hP hS eh2 dL_setWays_11 (fun H locs hP _ hS => ?_)
    refine lv_goto (tgt := 19) hx hb dL_setWays_12 (by decide) ?_
    refine lv_iconst (v := (0 : Int32)) hx hb dL_setWays_19 (by decide) ?_
    refine W.widen (k := 1) (n := 6) (by omega) (by omega) ?_
    obtain ⟨rfl, rfl⟩ := xinj2 hf
    subst hQ
    exact xe_i hx hb hr hlocks hKK hP hS dL_setWays_20
  · refine xc_Vx (rest := [.int (0 : Int32), .ref q4]) ⟨hx, hb, hml, hown, hts⟩ (mx_X5_setWays l htr B0 G fu h q0 p1 p2 p3 n1 e1) (cwV 3 hts gL_setWays_X5_setWays rfl rfl rfl (by decide +kernel) ⟨Nat.le_of_ble_eq_true rfl, Nat.le_of_ble_eq_true rfl⟩) hKK hZ hX hP hS eu rfl rfl hl.1 rfl (Nat.le_of_ble_eq_true rfl) dL_setWays_7 ⟨Nat.le_of_ble_eq_true rfl, Nat.le_of_ble_eq_true rfl⟩ (fun q9 ce H locs hP hS hce hcv hcl => ?_)
    by_cases c0 : n1 = 0
    · have hf := xif_t hf c0
      subst c0
      refine vx_catch (own := RL) (name := xEx 0) (E := xEx 0) hown [] ⟨0, 12, 15, 13⟩ [] (htab.trans rfl) (fun z hz => absurd hz List.not_mem_nil) rfl (by decide) (hts (.classLink RL 13 "java/lang/IllegalArgumentException") (by decide +kernel)) (hng.at _ (List.mem_of_getElem? (i := 3) rfl)) hce hcv hcl ?_
      refine lv_astore (lv' := [(5, .ref q9), (0, .ref q0), (1, .int p1), (2, .int p2), (3, .int p3), (4, .ref q4)]) hx hb dL_setWays_15 hl (by decide) rfl (fun ls hl => ?_)
      refine lv_iconst (v := (1 : Int32)) hx hb dL_setWays_17 (by decide) ?_
      obtain ⟨rfl, rfl⟩ := xinj2 hf
      subst hQ
      exact xe_i hx hb hr hlocks hKK hP hS dL_setWays_18
    have hf := xif_f hf c0
    cases hf
/-- the law: setting -/
def f_L_setting (h : XH) (q0 : Nat) (p1 : Int32) (q2 : Nat) : Option (Int32 × XH) :=
  (xis h q0 5).bind fun u =>
  xcatch (f_X5_setting h q0 p1) (fun z => (xastL h q2 (0 : Int32) (Int32.toInt64 z)).bind fun h2 => some ((0 : Int32), h2)) fun n =>
    if n = 0 then some ((1 : Int32), h) else none
abbrev rmL_setting : Room := { frames := 8, cells := 1, slots := 6, locals := 143 }
set_option maxHeartbeats 4000000 in
set_option maxRecDepth 100000 in
theorem m_L_setting (l : Launch) (htr : l.stackTraces = false) (B0 : Nat) (G : XG) (h hE : XH) (q0 : Nat) (p1 : Int32) (q2 : Nat) (rE : Int32) (hf : f_L_setting h q0 p1 q2 = some (rE, hE)) : Met l yL_setting wsL_setting rmL_setting (va_Pc [.ref q0, .int p1, .ref q2] (xUL B0 G h)) (xQi B0 G hE rE) 1 6 (xA B0) := by
  refine xMetW (cc := cL_setting) (maxL := 4) (hh := [(0, 9, 12, 13)]) (by decide) rfl (Nat.le_of_ble_eq_true rfl) ?_
  intro p e s m args below meth c ls hx hb hr hml hown hlocks htab hts hKK hP hZ hX hC hl
  have hown : s.vm.findClass RL = some m.cls := hown
  have hl : lv_has ls 4 [(0, .ref q0), (1, .int p1), (2, .ref q2)] := hl
  have hS : va_S (xA B0) s.heap s.heap [] := va_S.rf
  have hng := hX.2.2.2.2.2.2.2.2
  generalize hQ : MQ below (xQi B0 G hE rE) args s 1 6 (xA B0) = Q
  unfold f_L_setting at hf
  obtain ⟨u, eu, hf⟩ := xb hf
  refine lv_aload_n hx hb dL_setting_0 rfl (lv_at hl 2 rfl) ?_
  refine lv_iconst (v := (0 : Int32)) hx hb dL_setting_1 (by decide) ?_
  refine lv_aload_n hx hb dL_setting_2 rfl (lv_at hl 0 rfl) ?_
  refine lv_iload_n hx hb dL_setting_3 rfl (lv_at hl 1 rfl) ?_
  rcases xcatch_e hf with ⟨v1, e1, hf⟩ | ⟨n1, e1, hf⟩
  · refine xc_Vi (rest := [.int (0 : Int32), .ref q2]) ⟨hx, hb, hml, hown, hts⟩ (m_X5_setting l B0 G h q0 p1 v1 e1) (cwV 1 hts gL_setting_X5_setting rfl rfl rfl (by decide +kernel) ⟨Nat.le_of_ble_eq_true rfl, Nat.le_of_ble_eq_true rfl⟩) hKK hP hS eu rfl rfl hl.1 rfl (Nat.le_of_ble_eq_true rfl) dL_setting_4 ⟨Nat.zero_le _, Nat.zero_le _⟩ (fun H locs hP hS => ?_)
    refine lv_i2l hx hb dL_setting_7 rfl ?_
    obtain ⟨h2, eh2, hf⟩ := xb hf
    refine xr_last hx hb hKK hP hS eh2 dL_setting_8 (fun H locs hP _ hS => ?_)
    refine lv_goto (tgt := 15) hx hb dL_setting_9 (by decide) ?_
    refine lv_iconst (v := (0 : Int32)) hx hb dL_setting_15 (by decide) ?_
    refine W.widen (k := 1) (n := 6) (by omega) (by omega) ?_
    obtain ⟨rfl, rfl⟩ := xinj2 hf
    subst hQ
    exact xe_i hx hb hr hlocks hKK hP hS dL_setting_16
  · refine xc_Vx (rest := [.int (0 : Int32), .ref q2]) ⟨hx, hb, hml, hown, hts⟩ (mx_X5_setting l htr B0 G h q0 p1 n1 e1) (cwV 1 hts gL_setting_X5_setting rfl rfl rfl (by decide +kernel) ⟨Nat.le_of_ble_eq_true rfl, Nat.le_of_ble_eq_true rfl⟩) hKK hZ hX hP hS eu rfl rfl hl.1 rfl (Nat.le_of_ble_eq_true rfl) dL_setting_4 ⟨Nat.le_of_ble_eq_true rfl, Nat.le_of_ble_eq_true rfl⟩ (fun q9 ce H locs hP hS hce hcv hcl => ?_)
    by_cases c0 : n1 = 0
    · have hf := xif_t hf c0
      subst c0
      refine vx_catch (own := RL) (name := xEx 0) (E := xEx 0) hown [] ⟨0, 9, 12, 13⟩ [] (htab.trans rfl) (fun z hz => absurd hz List.not_mem_nil) rfl (by decide) (hts (.classLink RL 13 "java/lang/IllegalArgumentException") (by decide +kernel)) (hng.at _ (List.mem_of_getElem? (i := 3) rfl)) hce hcv hcl ?_
      refine lv_astore_n (lv' := [(3, .ref q9), (0, .ref q0), (1, .int p1), (2, .ref q2)]) hx hb dL_setting_12 rfl hl (by decide) rfl (fun ls hl => ?_)
      refine lv_iconst (v := (1 : Int32)) hx hb dL_setting_13 (by decide) ?_
      obtain ⟨rfl, rfl⟩ := xinj2 hf
      subst hQ
      exact xe_i hx hb hr hlocks hKK hP hS dL_setting_14
    have hf := xif_f hf c0
    cases hf
/-- the law: roof -/
def f_L_roof (h : XH) (q0 : Nat) (p1 : Int32) (p2 : Int32) (q3 : Nat) : Option (Int32 × XH) :=
  (xis h q0 5).bind fun u =>
  xcatch (f_X5_roof h q0 p1 p2) (fun z => (xastL h q3 (0 : Int32) (Int32.toInt64 z)).bind fun h2 => some ((0 : Int32), h2)) fun n =>
    if n = 2 then some ((1 : Int32), h) else if n = 0 then some ((2 : Int32), h) else none
abbrev rmL_roof : Room := { frames := 8, cells := 1, slots := 6, locals := 144 }
set_option maxHeartbeats 4000000 in
set_option maxRecDepth 100000 in
theorem m_L_roof (l : Launch) (htr : l.stackTraces = false) (B0 : Nat) (G : XG) (h hE : XH) (q0 : Nat) (p1 : Int32) (p2 : Int32) (q3 : Nat) (rE : Int32) (hf : f_L_roof h q0 p1 p2 q3 = some (rE, hE)) : Met l yL_roof wsL_roof rmL_roof (va_Pc [.ref q0, .int p1, .int p2, .ref q3] (xUL B0 G h)) (xQi B0 G hE rE) 1 6 (xA B0) := by
  refine xMetW (cc := cL_roof) (maxL := 5) (hh := [(0, 10, 13, 24), (0, 10, 17, 13)]) (by decide) rfl (Nat.le_of_ble_eq_true rfl) ?_
  intro p e s m args below meth c ls hx hb hr hml hown hlocks htab hts hKK hP hZ hX hC hl
  have hown : s.vm.findClass RL = some m.cls := hown
  have hl : lv_has ls 5 [(0, .ref q0), (1, .int p1), (2, .int p2), (3, .ref q3)] := hl
  have hS : va_S (xA B0) s.heap s.heap [] := va_S.rf
  have hng := hX.2.2.2.2.2.2.2.2
  generalize hQ : MQ below (xQi B0 G hE rE) args s 1 6 (xA B0) = Q
  unfold f_L_roof at hf
  obtain ⟨u, eu, hf⟩ := xb hf
  refine lv_aload_n hx hb dL_roof_0 rfl (lv_at hl 3 rfl) ?_
  refine lv_iconst (v := (0 : Int32)) hx hb dL_roof_1 (by decide) ?_
  refine lv_aload_n hx hb dL_roof_2 rfl (lv_at hl 0 rfl) ?_
  refine lv_iload_n hx hb dL_roof_3 rfl (lv_at hl 1 rfl) ?_
  refine lv_iload_n hx hb dL_roof_4 rfl (lv_at hl 2 rfl) ?_
  rcases xcatch_e hf with ⟨v1, e1, hf⟩ | ⟨n1, e1, hf⟩
  · refine xc_Vi (rest := [.int (0 : Int32), .ref q3]) ⟨hx, hb, hml, hown, hts⟩ (m_X5_roof l B0 G h q0 p1 p2 v1 e1) (cwV 2 hts gL_roof_X5_roof rfl rfl rfl (by decide +kernel) ⟨Nat.le_of_ble_eq_true rfl, Nat.le_of_ble_eq_true rfl⟩) hKK hP hS eu rfl rfl hl.1 rfl (Nat.le_of_ble_eq_true rfl) dL_roof_5 ⟨Nat.zero_le _, Nat.zero_le _⟩ (fun H locs hP hS => ?_)
    refine lv_i2l hx hb dL_roof_8 rfl ?_
    obtain ⟨h2, eh2, hf⟩ := xb hf
    refine xr_last hx hb hKK hP hS eh2 dL_roof_9 (fun H locs hP _ hS => ?_)
    refine lv_goto (tgt := 21) hx hb dL_roof_10 (by decide) ?_
    refine lv_iconst (v := (0 : Int32)) hx hb dL_roof_21 (by decide) ?_
    refine W.widen (k := 1) (n := 6) (by omega) (by omega) ?_
    obtain ⟨rfl, rfl⟩ := xinj2 hf
    subst hQ
    exact xe_i hx hb hr hlocks hKK hP hS dL_roof_22
  · refine xc_Vx (rest := [.int (0 : Int32), .ref q3]) ⟨hx, hb, hml, hown, hts⟩ (mx_X5_roof l htr B0 G h q0 p1 p2 n1 e1) (cwV 2 hts gL_roof_X5_roof rfl rfl rfl (by decide +kernel) ⟨Nat.le_of_ble_eq_true rfl, Nat.le_of_ble_eq_true rfl⟩) hKK hZ hX hP hS eu rfl rfl hl.1 rfl (Nat.le_of_ble_eq_true rfl) dL_roof_5 ⟨Nat.le_of_ble_eq_true rfl, Nat.le_of_ble_eq_true rfl⟩ (fun q9 ce H locs hP hS hce hcv hcl => ?_)
    by_cases c0 : n1 = 2
    · have hf := xif_t hf c0
      subst c0
      refine vx_catch (own := RL) (name := xEx 2) (E := xEx 2) hown [] ⟨0, 10, 13, 24⟩ [⟨0, 10, 17, 13⟩] (htab.trans rfl) (fun z hz => absurd hz List.not_mem_nil) rfl (by decide) (hts (.classLink RL 24 "java/lang/IndexOutOfBoundsException") (by decide +kernel)) (hng.at _ (List.mem_of_getElem? (i := 5) rfl)) hce hcv hcl ?_
      refine lv_astore (lv' := [(4, .ref q9), (0, .ref q0), (1, .int p1), (2, .int p2), (3, .ref q3)]) hx hb dL_roof_13 hl (by decide) rfl (fun ls hl => ?_)
      refine lv_iconst (v := (1 : Int32)) hx hb dL_roof_15 (by decide) ?_
      obtain ⟨rfl, rfl⟩ := xinj2 hf
      subst hQ
      exact xe_i hx hb hr hlocks hKK hP hS dL_roof_16
    have hf := xif_f hf c0
    by_cases c1 : n1 = 0
    · have hf := xif_t hf c1
      subst c1
      refine vx_catch (own := RL) (name := xEx 0) (E := xEx 0) hown [⟨0, 10, 13, 24⟩] ⟨0, 10, 17, 13⟩ [] (htab.trans rfl) (fun z hz => by rw [List.mem_singleton] at hz; subst hz; exact Or.inr ⟨by decide, _, hts (.classLink RL 24 "java/lang/IndexOutOfBoundsException") (by decide +kernel), hC.2.1⟩) rfl (by decide) (hts (.classLink RL 13 "java/lang/IllegalArgumentException") (by decide +kernel)) (hng.at _ (List.mem_of_getElem? (i := 3) rfl)) hce hcv hcl ?_
      refine lv_astore (lv' := [(4, .ref q9), (0, .ref q0), (1, .int p1), (2, .int p2), (3, .ref q3)]) hx hb dL_roof_17 hl (by decide) rfl (fun ls hl => ?_)
      refine lv_iconst (v := (2 : Int32)) hx hb dL_roof_19 (by decide) ?_
      obtain ⟨rfl, rfl⟩ := xinj2 hf
      subst hQ
      exact xe_i hx hb hr hlocks hKK hP hS dL_roof_20
    have hf := xif_f hf c1
    cases hf
/-- the law: user -/
def f_L_user (h : XH) (q0 : Nat) (p1 : Int32) (p2 : Int32) (q3 : Nat) : Option (Int32 × XH) :=
  (xis h q0 5).bind fun u =>
  xcatch (f_X5_user h q0 p1 p2) (fun z => (xastL h q3 (0 : Int32) (Int32.toInt64 z)).bind fun h2 => some ((0 : Int32), h2)) fun n =>
    if n = 2 then some ((1 : Int32), h) else if n = 0 then some ((2 : Int32), h) else none
abbrev rmL_user : Room := { frames := 8, cells := 1, slots := 6, locals := 144 }
set_option maxHeartbeats 4000000 in
set_option maxRecDepth 100000 in
theorem m_L_user (l : Launch) (htr : l.stackTraces = false) (B0 : Nat) (G : XG) (h hE : XH) (q0 : Nat) (p1 : Int32) (p2 : Int32) (q3 : Nat) (rE : Int32) (hf : f_L_user h q0 p1 p2 q3 = some (rE, hE)) : Met l yL_user wsL_user rmL_user (va_Pc [.ref q0, .int p1, .int p2, .ref q3] (xUL B0 G h)) (xQi B0 G hE rE) 1 6 (xA B0) := by
  refine xMetW (cc := cL_user) (maxL := 5) (hh := [(0, 10, 13, 24), (0, 10, 17, 13)]) (by decide) rfl (Nat.le_of_ble_eq_true rfl) ?_
  intro p e s m args below meth c ls hx hb hr hml hown hlocks htab hts hKK hP hZ hX hC hl
  have hown : s.vm.findClass RL = some m.cls := hown
  have hl : lv_has ls 5 [(0, .ref q0), (1, .int p1), (2, .int p2), (3, .ref q3)] := hl
  have hS : va_S (xA B0) s.heap s.heap [] := va_S.rf
  have hng := hX.2.2.2.2.2.2.2.2
  generalize hQ : MQ below (xQi B0 G hE rE) args s 1 6 (xA B0) = Q
  unfold f_L_user at hf
  obtain ⟨u, eu, hf⟩ := xb hf
  refine lv_aload_n hx hb dL_user_0 rfl (lv_at hl 3 rfl) ?_
  refine lv_iconst (v := (0 : Int32)) hx hb dL_user_1 (by decide) ?_
  refine lv_aload_n hx hb dL_user_2 rfl (lv_at hl 0 rfl) ?_
  refine lv_iload_n hx hb dL_user_3 rfl (lv_at hl 1 rfl) ?_
  refine lv_iload_n hx hb dL_user_4 rfl (lv_at hl 2 rfl) ?_
  rcases xcatch_e hf with ⟨v1, e1, hf⟩ | ⟨n1, e1, hf⟩
  · refine xc_Vi (rest := [.int (0 : Int32), .ref q3]) ⟨hx, hb, hml, hown, hts⟩ (m_X5_user l B0 G h q0 p1 p2 v1 e1) (cwV 2 hts gL_user_X5_user rfl rfl rfl (by decide +kernel) ⟨Nat.le_of_ble_eq_true rfl, Nat.le_of_ble_eq_true rfl⟩) hKK hP hS eu rfl rfl hl.1 rfl (Nat.le_of_ble_eq_true rfl) dL_user_5 ⟨Nat.zero_le _, Nat.zero_le _⟩ (fun H locs hP hS => ?_)
    refine lv_i2l hx hb dL_user_8 rfl ?_
    obtain ⟨h2, eh2, hf⟩ := xb hf
    refine xr_last hx hb hKK hP hS eh2 dL_user_9 (fun H locs hP _ hS => ?_)
    refine lv_goto (tgt := 21) hx hb dL_user_10 (by decide) ?_
    refine lv_iconst (v := (0 : Int32)) hx hb dL_user_21 (by decide) ?_
    refine W.widen (k := 1) (n := 6) (by omega) (by omega) ?_
    obtain ⟨rfl, rfl⟩ := xinj2 hf
    subst hQ
    exact xe_i hx hb hr hlocks hKK hP hS dL_user_22
  · refine xc_Vx (rest := [.int (0 : Int32), .ref q3]) ⟨hx, hb, hml, hown, hts⟩ (mx_X5_user l htr B0 G h q0 p1 p2 n1 e1) (cwV 2 hts gL_user_X5_user rfl rfl rfl (by decide +kernel) ⟨Nat.le_of_ble_eq_true rfl, Nat.le_of_ble_eq_true rfl⟩) hKK hZ hX hP hS eu rfl rfl hl.1 rfl (Nat.le_of_ble_eq_true rfl) dL_user_5 ⟨Nat.le_of_ble_eq_true rfl, Nat.le_of_ble_eq_true rfl⟩ (fun q9 ce H locs hP hS hce hcv hcl => ?_)
    by_cases c0 : n1 = 2
    · have hf := xif_t hf c0
      subst c0
      refine vx_catch (own := RL) (name := xEx 2) (E := xEx 2) hown [] ⟨0, 10, 13, 24⟩ [⟨0, 10, 17, 13⟩] (htab.trans rfl) (fun z hz => absurd hz List.not_mem_nil) rfl (by decide) (hts (.classLink RL 24 "java/lang/IndexOutOfBoundsException") (by decide +kernel)) (hng.at _ (List.mem_of_getElem? (i := 5) rfl)) hce hcv hcl ?_
      refine lv_astore (lv' := [(4, .ref q9), (0, .ref q0), (1, .int p1), (2, .int p2), (3, .ref q3)]) hx hb dL_user_13 hl (by decide) rfl (fun ls hl => ?_)
      refine lv_iconst (v := (1 : Int32)) hx hb dL_user_15 (by decide) ?_
      obtain ⟨rfl, rfl⟩ := xinj2 hf
      subst hQ
      exact xe_i hx hb hr hlocks hKK hP hS dL_user_16
    have hf := xif_f hf c0
    by_cases c1 : n1 = 0
    · have hf := xif_t hf c1
      subst c1
      refine vx_catch (own := RL) (name := xEx 0) (E := xEx 0) hown [⟨0, 10, 13, 24⟩] ⟨0, 10, 17, 13⟩ [] (htab.trans rfl) (fun z hz => by rw [List.mem_singleton] at hz; subst hz; exact Or.inr ⟨by decide, _, hts (.classLink RL 24 "java/lang/IndexOutOfBoundsException") (by decide +kernel), hC.2.1⟩) rfl (by decide) (hts (.classLink RL 13 "java/lang/IllegalArgumentException") (by decide +kernel)) (hng.at _ (List.mem_of_getElem? (i := 3) rfl)) hce hcv hcl ?_
      refine lv_astore (lv' := [(4, .ref q9), (0, .ref q0), (1, .int p1), (2, .int p2), (3, .ref q3)]) hx hb dL_user_17 hl (by decide) rfl (fun ls hl => ?_)
      refine lv_iconst (v := (2 : Int32)) hx hb dL_user_19 (by decide) ?_
      obtain ⟨rfl, rfl⟩ := xinj2 hf
      subst hQ
      exact xe_i hx hb hr hlocks hKK hP hS dL_user_20
    have hf := xif_f hf c1
    cases hf
/-- the law: addRain -/
def f_L_addRain (fu : Nat) (h : XH) (q0 : Nat) (p1 : Int32) (p2 : Int32) (q3 : Nat) : Option (Int32 × XH) :=
  (xis h q0 5).bind fun u =>
  xcatch (f_X5_addRain fu h q0 p1 p2) (fun z => (xastL z.2 q3 (0 : Int32) (Int32.toInt64 z.1)).bind fun h2 => some ((0 : Int32), h2)) fun n =>
    if n = 0 then some ((1 : Int32), h) else if n = 1 then some ((2 : Int32), h) else none
abbrev rmL_addRain : Room := { frames := 8, cells := 1, slots := 6, locals := 152 }
set_option maxHeartbeats 4000000 in
set_option maxRecDepth 100000 in
theorem m_L_addRain (l : Launch) (htr : l.stackTraces = false) (B0 : Nat) (G : XG) (fu : Nat) (h hE : XH) (q0 : Nat) (p1 : Int32) (p2 : Int32) (q3 : Nat) (rE : Int32) (hf : f_L_addRain fu h q0 p1 p2 q3 = some (rE, hE)) : Met l yL_addRain wsL_addRain rmL_addRain (va_Pc [.ref q0, .int p1, .int p2, .ref q3] (xUL B0 G h)) (xQi B0 G hE rE) 1 6 (xA B0) := by
  refine xMetW (cc := cL_addRain) (maxL := 5) (hh := [(0, 10, 13, 13), (0, 10, 17, 15)]) (by decide) rfl (Nat.le_of_ble_eq_true rfl) ?_
  intro p e s m args below meth c ls hx hb hr hml hown hlocks htab hts hKK hP hZ hX hC hl
  have hown : s.vm.findClass RL = some m.cls := hown
  have hl : lv_has ls 5 [(0, .ref q0), (1, .int p1), (2, .int p2), (3, .ref q3)] := hl
  have hS : va_S (xA B0) s.heap s.heap [] := va_S.rf
  have hng := hX.2.2.2.2.2.2.2.2
  generalize hQ : MQ below (xQi B0 G hE rE) args s 1 6 (xA B0) = Q
  unfold f_L_addRain at hf
  obtain ⟨u, eu, hf⟩ := xb hf
  refine lv_aload_n hx hb dL_addRain_0 rfl (lv_at hl 3 rfl) ?_
  refine lv_iconst (v := (0 : Int32)) hx hb dL_addRain_1 (by decide) ?_
  refine lv_aload_n hx hb dL_addRain_2 rfl (lv_at hl 0 rfl) ?_
  refine lv_iload_n hx hb dL_addRain_3 rfl (lv_at hl 1 rfl) ?_
  refine lv_iload_n hx hb dL_addRain_4 rfl (lv_at hl 2 rfl) ?_
  rcases xcatch_e hf with ⟨⟨v1, h1⟩, e1, hf⟩ | ⟨n1, e1, hf⟩
  · refine xc_Vi (rest := [.int (0 : Int32), .ref q3]) ⟨hx, hb, hml, hown, hts⟩ (m_X5_addRain l B0 G fu h h1 q0 p1 p2 v1 e1) (cwV 2 hts gL_addRain_X5_addRain rfl rfl rfl (by decide +kernel) ⟨Nat.le_of_ble_eq_true rfl, Nat.le_of_ble_eq_true rfl⟩) hKK hP hS eu rfl rfl hl.1 rfl (Nat.le_of_ble_eq_true rfl) dL_addRain_5 ⟨Nat.zero_le _, Nat.zero_le _⟩ (fun H locs hP hS => ?_)
    refine lv_i2l hx hb dL_addRain_8 rfl ?_
    obtain ⟨h2, eh2, hf⟩ := xb hf
    refine xr_last hx hb hKK hP hS eh2 dL_addRain_9 (fun H locs hP _ hS => ?_)
    refine lv_goto (tgt := 21) hx hb dL_addRain_10 (by decide) ?_
    refine lv_iconst (v := (0 : Int32)) hx hb dL_addRain_21 (by decide) ?_
    refine W.widen (k := 1) (n := 6) (by omega) (by omega) ?_
    obtain ⟨rfl, rfl⟩ := xinj2 hf
    subst hQ
    exact xe_i hx hb hr hlocks hKK hP hS dL_addRain_22
  · refine xc_Vx (rest := [.int (0 : Int32), .ref q3]) ⟨hx, hb, hml, hown, hts⟩ (mx_X5_addRain l htr B0 G fu h q0 p1 p2 n1 e1) (cwV 2 hts gL_addRain_X5_addRain rfl rfl rfl (by decide +kernel) ⟨Nat.le_of_ble_eq_true rfl, Nat.le_of_ble_eq_true rfl⟩) hKK hZ hX hP hS eu rfl rfl hl.1 rfl (Nat.le_of_ble_eq_true rfl) dL_addRain_5 ⟨Nat.le_of_ble_eq_true rfl, Nat.le_of_ble_eq_true rfl⟩ (fun q9 ce H locs hP hS hce hcv hcl => ?_)
    by_cases c0 : n1 = 0
    · have hf := xif_t hf c0
      subst c0
      refine vx_catch (own := RL) (name := xEx 0) (E := xEx 0) hown [] ⟨0, 10, 13, 13⟩ [⟨0, 10, 17, 15⟩] (htab.trans rfl) (fun z hz => absurd hz List.not_mem_nil) rfl (by decide) (hts (.classLink RL 13 "java/lang/IllegalArgumentException") (by decide +kernel)) (hng.at _ (List.mem_of_getElem? (i := 3) rfl)) hce hcv hcl ?_
      refine lv_astore (lv' := [(4, .ref q9), (0, .ref q0), (1, .int p1), (2, .int p2), (3, .ref q3)]) hx hb dL_addRain_13 hl (by decide) rfl (fun ls hl => ?_)
      refine lv_iconst (v := (1 : Int32)) hx hb dL_addRain_15 (by decide) ?_
      obtain ⟨rfl, rfl⟩ := xinj2 hf
      subst hQ
      exact xe_i hx hb hr hlocks hKK hP hS dL_addRain_16
    have hf := xif_f hf c0
    by_cases c1 : n1 = 1
    · have hf := xif_t hf c1
      subst c1
      refine vx_catch (own := RL) (name := xEx 1) (E := xEx 1) hown [⟨0, 10, 13, 13⟩] ⟨0, 10, 17, 15⟩ [] (htab.trans rfl) (fun z hz => by rw [List.mem_singleton] at hz; subst hz; exact Or.inr ⟨by decide, _, hts (.classLink RL 13 "java/lang/IllegalArgumentException") (by decide +kernel), hC.2.2.1⟩) rfl (by decide) (hts (.classLink RL 15 "java/lang/IllegalStateException") (by decide +kernel)) (hng.at _ (List.mem_of_getElem? (i := 4) rfl)) hce hcv hcl ?_
      refine lv_astore (lv' := [(4, .ref q9), (0, .ref q0), (1, .int p1), (2, .int p2), (3, .ref q3)]) hx hb dL_addRain_17 hl (by decide) rfl (fun ls hl => ?_)
      refine lv_iconst (v := (2 : Int32)) hx hb dL_addRain_19 (by decide) ?_
      obtain ⟨rfl, rfl⟩ := xinj2 hf
      subst hQ
      exact xe_i hx hb hr hlocks hKK hP hS dL_addRain_20
    have hf := xif_f hf c1
    cases hf
/-- the law: addRandomRain -/
def f_L_addRandomRain (fu : Nat) (h : XH) (q0 : Nat) (p1 : Int32) (p2 : Int32) (p3 : Int32) (p4 : Int32) (q5 : Nat) : Option (Int32 × XH) :=
  (xis h q0 5).bind fun u =>
  xcatch (f_X5_addRandomRain fu h q0 p1 p2 p3 p4) (fun z => (xastL z.2 q5 (0 : Int32) (Int32.toInt64 z.1)).bind fun h2 => some ((0 : Int32), h2)) fun n =>
    if n = 0 then some ((1 : Int32), h) else if n = 1 then some ((2 : Int32), h) else none
abbrev rmL_addRandomRain : Room := { frames := 8, cells := 1, slots := 6, locals := 157 }
set_option maxHeartbeats 4000000 in
set_option maxRecDepth 100000 in
theorem m_L_addRandomRain (l : Launch) (htr : l.stackTraces = false) (B0 : Nat) (G : XG) (fu : Nat) (h hE : XH) (q0 : Nat) (p1 : Int32) (p2 : Int32) (p3 : Int32) (p4 : Int32) (q5 : Nat) (rE : Int32) (hf : f_L_addRandomRain fu h q0 p1 p2 p3 p4 q5 = some (rE, hE)) : Met l yL_addRandomRain wsL_addRandomRain rmL_addRandomRain (va_Pc [.ref q0, .int p1, .int p2, .int p3, .int p4, .ref q5] (xUL B0 G h)) (xQi B0 G hE rE) 1 6 (xA B0) := by
  refine xMetW (cc := cL_addRandomRain) (maxL := 7) (hh := [(0, 14, 17, 13), (0, 14, 21, 15)]) (by decide) rfl (Nat.le_of_ble_eq_true rfl) ?_
  intro p e s m args below meth c ls hx hb hr hml hown hlocks htab hts hKK hP hZ hX hC hl
  have hown : s.vm.findClass RL = some m.cls := hown
  have hl : lv_has ls 7 [(0, .ref q0), (1, .int p1), (2, .int p2), (3, .int p3), (4, .int p4), (5, .ref q5)] := hl
  have hS : va_S (xA B0) s.heap s.heap [] := va_S.rf
  have hng := hX.2.2.2.2.2.2.2.2
  generalize hQ : MQ below (xQi B0 G hE rE) args s 1 6 (xA B0) = Q
  unfold f_L_addRandomRain at hf
  obtain ⟨u, eu, hf⟩ := xb hf
  refine lv_aload hx hb dL_addRandomRain_0 (lv_at hl 5 rfl) ?_
  refine lv_iconst (v := (0 : Int32)) hx hb dL_addRandomRain_2 (by decide) ?_
  refine lv_aload_n hx hb dL_addRandomRain_3 rfl (lv_at hl 0 rfl) ?_
  refine lv_iload_n hx hb dL_addRandomRain_4 rfl (lv_at hl 1 rfl) ?_
  refine lv_iload_n hx hb dL_addRandomRain_5 rfl (lv_at hl 2 rfl) ?_
  refine lv_iload_n hx hb dL_addRandomRain_6 rfl (lv_at hl 3 rfl) ?_
  refine lv_iload hx hb dL_addRandomRain_7 (lv_at hl 4 rfl) ?_
  rcases xcatch_e hf with ⟨⟨v1, h1⟩, e1, hf⟩ | ⟨n1, e1, hf⟩
  · refine xc_Vi (rest := [.int (0 : Int32), .ref q5]) ⟨hx, hb, hml, hown, hts⟩ (m_X5_addRandomRain l B0 G fu h h1 q0 p1 p2 p3 p4 v1 e1) (cwV 4 hts gL_addRandomRain_X5_addRandomRain rfl rfl rfl (by decide +kernel) ⟨Nat.le_of_ble_eq_true rfl, Nat.le_of_ble_eq_true rfl⟩) hKK hP hS eu rfl rfl hl.1 rfl (Nat.le_of_ble_eq_true rfl) dL_addRandomRain_9 ⟨Nat.zero_le _, Nat.zero_le _⟩ (fun H locs hP hS => ?_)
    refine lv_i2l hx hb dL_addRandomRain_12 rfl ?_
    obtain ⟨h2, eh2, hf⟩ := xb hf
    refine xr_last hx hb hKK hP hS eh2 dL_addRandomRain_13 (fun H locs hP _ hS => ?_)
    refine lv_goto (tgt := 25) hx hb dL_addRandomRain_14 (by decide) ?_
    refine lv_iconst (v := (0 : Int32)) hx hb dL_addRandomRain_25 (by decide) ?_
    refine W.widen (k := 1) (n := 6) (by omega) (by omega) ?_
    obtain ⟨rfl, rfl⟩ := xinj2 hf
    subst hQ
    exact xe_i hx hb hr hlocks hKK hP hS dL_addRandomRain_26
  · refine xc_Vx (rest := [.int (0 : Int32), .ref q5]) ⟨hx, hb, hml, hown, hts⟩ (mx_X5_addRandomRain l htr B0 G fu h q0 p1 p2 p3 p4 n1 e1) (cwV 4 hts gL_addRandomRain_X5_addRandomRain rfl rfl rfl (by decide +kernel) ⟨Nat.le_of_ble_eq_true rfl, Nat.le_of_ble_eq_true rfl⟩) hKK hZ hX hP hS eu rfl rfl hl.1 rfl (Nat.le_of_ble_eq_true rfl) dL_addRandomRain_9 ⟨Nat.le_of_ble_eq_true rfl, Nat.le_of_ble_eq_true rfl⟩ (fun q9 ce H locs hP hS hce hcv hcl => ?_)
    by_cases c0 : n1 = 0
    · have hf := xif_t hf c0
      subst c0
      refine vx_catch (own := RL) (name := xEx 0) (E := xEx 0) hown [] ⟨0, 14, 17, 13⟩ [⟨0, 14, 21, 15⟩] (htab.trans rfl) (fun z hz => absurd hz List.not_mem_nil) rfl (by decide) (hts (.classLink RL 13 "java/lang/IllegalArgumentException") (by decide +kernel)) (hng.at _ (List.mem_of_getElem? (i := 3) rfl)) hce hcv hcl ?_
      refine lv_astore (lv' := [(6, .ref q9), (0, .ref q0), (1, .int p1), (2, .int p2), (3, .int p3), (4, .int p4), (5, .ref q5)]) hx hb dL_addRandomRain_17 hl (by decide) rfl (fun ls hl => ?_)
      refine lv_iconst (v := (1 : Int32)) hx hb dL_addRandomRain_19 (by decide) ?_
      obtain ⟨rfl, rfl⟩ := xinj2 hf
      subst hQ
      exact xe_i hx hb hr hlocks hKK hP hS dL_addRandomRain_20
    have hf := xif_f hf c0
    by_cases c1 : n1 = 1
    · have hf := xif_t hf c1
      subst c1
      refine vx_catch (own := RL) (name := xEx 1) (E := xEx 1) hown [⟨0, 14, 17, 13⟩] ⟨0, 14, 21, 15⟩ [] (htab.trans rfl) (fun z hz => by rw [List.mem_singleton] at hz; subst hz; exact Or.inr ⟨by decide, _, hts (.classLink RL 13 "java/lang/IllegalArgumentException") (by decide +kernel), hC.2.2.1⟩) rfl (by decide) (hts (.classLink RL 15 "java/lang/IllegalStateException") (by decide +kernel)) (hng.at _ (List.mem_of_getElem? (i := 4) rfl)) hce hcv hcl ?_
      refine lv_astore (lv' := [(6, .ref q9), (0, .ref q0), (1, .int p1), (2, .int p2), (3, .int p3), (4, .int p4), (5, .ref q5)]) hx hb dL_addRandomRain_21 hl (by decide) rfl (fun ls hl => ?_)
      refine lv_iconst (v := (2 : Int32)) hx hb dL_addRandomRain_23 (by decide) ?_
      obtain ⟨rfl, rfl⟩ := xinj2 hf
      subst hQ
      exact xe_i hx hb hr hlocks hKK hP hS dL_addRandomRain_24
    have hf := xif_f hf c1
    cases hf
/-- the law: rain -/
def f_L_rain (h : XH) (q0 : Nat) (p1 : Int32) (q2 : Nat) : Option (Int32 × XH) :=
  (xis h q0 5).bind fun u =>
  xcatch (f_X5_rain h q0 p1) (fun z => (xastL h q2 (0 : Int32) (Int32.toInt64 z)).bind fun h2 => some ((0 : Int32), h2)) fun n =>
    if n = 2 then some ((1 : Int32), h) else none
abbrev rmL_rain : Room := { frames := 8, cells := 1, slots := 6, locals := 142 }
set_option maxHeartbeats 4000000 in
set_option maxRecDepth 100000 in
theorem m_L_rain (l : Launch) (htr : l.stackTraces = false) (B0 : Nat) (G : XG) (h hE : XH) (q0 : Nat) (p1 : Int32) (q2 : Nat) (rE : Int32) (hf : f_L_rain h q0 p1 q2 = some (rE, hE)) : Met l yL_rain wsL_rain rmL_rain (va_Pc [.ref q0, .int p1, .ref q2] (xUL B0 G h)) (xQi B0 G hE rE) 1 6 (xA B0) := by
  refine xMetW (cc := cL_rain) (maxL := 4) (hh := [(0, 9, 12, 24)]) (by decide) rfl (Nat.le_of_ble_eq_true rfl) ?_
  intro p e s m args below meth c ls hx hb hr hml hown hlocks htab hts hKK hP hZ hX hC hl
  have hown : s.vm.findClass RL = some m.cls := hown
  have hl : lv_has ls 4 [(0, .ref q0), (1, .int p1), (2, .ref q2)] := hl
  have hS : va_S (xA B0) s.heap s.heap [] := va_S.rf
  have hng := hX.2.2.2.2.2.2.2.2
  generalize hQ : MQ below (xQi B0 G hE rE) args s 1 6 (xA B0) = Q
  unfold f_L_rain at hf
  obtain ⟨u, eu, hf⟩ := xb hf
  refine lv_aload_n hx hb dL_rain_0 rfl (lv_at hl 2 rfl) ?_
  refine lv_iconst (v := (0 : Int32)) hx hb dL_rain_1 (by decide) ?_
  refine lv_aload_n hx hb dL_rain_2 rfl (lv_at hl 0 rfl) ?_
  refine lv_iload_n hx hb dL_rain_3 rfl (lv_at hl 1 rfl) ?_
  rcases xcatch_e hf with ⟨v1, e1, hf⟩ | ⟨n1, e1, hf⟩
  · refine xc_Vi (rest := [.int (0 : Int32), .ref q2]) ⟨hx, hb, hml, hown, hts⟩ (m_X5_rain l B0 G h q0 p1 v1 e1) (cwV 1 hts gL_rain_X5_rain rfl rfl rfl (by decide +kernel) ⟨Nat.le_of_ble_eq_true rfl, Nat.le_of_ble_eq_true rfl⟩) hKK hP hS eu rfl rfl hl.1 rfl (Nat.le_of_ble_eq_true rfl) dL_rain_4 ⟨Nat.zero_le _, Nat.zero_le _⟩ (fun H locs hP hS => ?_)
    refine lv_i2l hx hb dL_rain_7 rfl ?_
    obtain ⟨h2, eh2, hf⟩ := xb hf
    refine xr_last hx hb hKK hP hS eh2 dL_rain_8 (fun H locs hP _ hS => ?_)
    refine lv_goto (tgt := 15) hx hb dL_rain_9 (by decide) ?_
    refine lv_iconst (v := (0 : Int32)) hx hb dL_rain_15 (by decide) ?_
    refine W.widen (k := 1) (n := 6) (by omega) (by omega) ?_
    obtain ⟨rfl, rfl⟩ := xinj2 hf
    subst hQ
    exact xe_i hx hb hr hlocks hKK hP hS dL_rain_16
  · refine xc_Vx (rest := [.int (0 : Int32), .ref q2]) ⟨hx, hb, hml, hown, hts⟩ (mx_X5_rain l htr B0 G h q0 p1 n1 e1) (cwV 1 hts gL_rain_X5_rain rfl rfl rfl (by decide +kernel) ⟨Nat.le_of_ble_eq_true rfl, Nat.le_of_ble_eq_true rfl⟩) hKK hZ hX hP hS eu rfl rfl hl.1 rfl (Nat.le_of_ble_eq_true rfl) dL_rain_4 ⟨Nat.le_of_ble_eq_true rfl, Nat.le_of_ble_eq_true rfl⟩ (fun q9 ce H locs hP hS hce hcv hcl => ?_)
    by_cases c0 : n1 = 2
    · have hf := xif_t hf c0
      subst c0
      refine vx_catch (own := RL) (name := xEx 2) (E := xEx 2) hown [] ⟨0, 9, 12, 24⟩ [] (htab.trans rfl) (fun z hz => absurd hz List.not_mem_nil) rfl (by decide) (hts (.classLink RL 24 "java/lang/IndexOutOfBoundsException") (by decide +kernel)) (hng.at _ (List.mem_of_getElem? (i := 5) rfl)) hce hcv hcl ?_
      refine lv_astore_n (lv' := [(3, .ref q9), (0, .ref q0), (1, .int p1), (2, .ref q2)]) hx hb dL_rain_12 rfl hl (by decide) rfl (fun ls hl => ?_)
      refine lv_iconst (v := (1 : Int32)) hx hb dL_rain_13 (by decide) ?_
      obtain ⟨rfl, rfl⟩ := xinj2 hf
      subst hQ
      exact xe_i hx hb hr hlocks hKK hP hS dL_rain_14
    have hf := xif_f hf c0
    cases hf
/-- the law: run -/
def f_L_run (fu : Nat) (h : XH) (q0 : Nat) (p1 : Int32) (q2 : Nat) : Option (Int32 × XH) :=
  (xis h q0 5).bind fun u =>
  xcatch (f_X5_run fu h q0 p1) (fun z => (xastL z.2 q2 (0 : Int32) (Int32.toInt64 z.1)).bind fun h2 => some ((0 : Int32), h2)) fun n =>
    if n = 0 then some ((1 : Int32), h) else if n = 1 then some ((2 : Int32), h) else none
abbrev rmL_run : Room := { frames := 8, cells := 1, slots := 6, locals := 165 }
set_option maxHeartbeats 4000000 in
set_option maxRecDepth 100000 in
theorem m_L_run (l : Launch) (htr : l.stackTraces = false) (B0 : Nat) (G : XG) (fu : Nat) (h hE : XH) (q0 : Nat) (p1 : Int32) (q2 : Nat) (rE : Int32) (hf : f_L_run fu h q0 p1 q2 = some (rE, hE)) : Met l yL_run wsL_run rmL_run (va_Pc [.ref q0, .int p1, .ref q2] (xUL B0 G h)) (xQi B0 G hE rE) 1 6 (xA B0) := by
  refine xMetW (cc := cL_run) (maxL := 4) (hh := [(0, 9, 12, 13), (0, 9, 15, 15)]) (by decide) rfl (Nat.le_of_ble_eq_true rfl) ?_
  intro p e s m args below meth c ls hx hb hr hml hown hlocks htab hts hKK hP hZ hX hC hl
  have hown : s.vm.findClass RL = some m.cls := hown
  have hl : lv_has ls 4 [(0, .ref q0), (1, .int p1), (2, .ref q2)] := hl
  have hS : va_S (xA B0) s.heap s.heap [] := va_S.rf
  have hng := hX.2.2.2.2.2.2.2.2
  generalize hQ : MQ below (xQi B0 G hE rE) args s 1 6 (xA B0) = Q
  unfold f_L_run at hf
  obtain ⟨u, eu, hf⟩ := xb hf
  refine lv_aload_n hx hb dL_run_0 rfl (lv_at hl 2 rfl) ?_
  refine lv_iconst (v := (0 : Int32)) hx hb dL_run_1 (by decide) ?_
  refine lv_aload_n hx hb dL_run_2 rfl (lv_at hl 0 rfl) ?_
  refine lv_iload_n hx hb dL_run_3 rfl (lv_at hl 1 rfl) ?_
  rcases xcatch_e hf with ⟨⟨v1, h1⟩, e1, hf⟩ | ⟨n1, e1, hf⟩
  · refine xc_Vi (rest := [.int (0 : Int32), .ref q2]) ⟨hx, hb, hml, hown, hts⟩ (m_X5_run l B0 G fu h h1 q0 p1 v1 e1) (cwV 1 hts gL_run_X5_run rfl rfl rfl (by decide +kernel) ⟨Nat.le_of_ble_eq_true rfl, Nat.le_of_ble_eq_true rfl⟩) hKK hP hS eu rfl rfl hl.1 rfl (Nat.le_of_ble_eq_true rfl) dL_run_4 ⟨Nat.zero_le _, Nat.zero_le _⟩ (fun H locs hP hS => ?_)
    refine lv_i2l hx hb dL_run_7 rfl ?_
    obtain ⟨h2, eh2, hf⟩ := xb hf
    refine xr_last hx hb hKK hP hS eh2 dL_run_8 (fun H locs hP _ hS => ?_)
    refine lv_goto (tgt := 18) hx hb dL_run_9 (by decide) ?_
    refine lv_iconst (v := (0 : Int32)) hx hb dL_run_18 (by decide) ?_
    refine W.widen (k := 1) (n := 6) (by omega) (by omega) ?_
    obtain ⟨rfl, rfl⟩ := xinj2 hf
    subst hQ
    exact xe_i hx hb hr hlocks hKK hP hS dL_run_19
  · refine xc_Vx (rest := [.int (0 : Int32), .ref q2]) ⟨hx, hb, hml, hown, hts⟩ (mx_X5_run l htr B0 G fu h q0 p1 n1 e1) (cwV 1 hts gL_run_X5_run rfl rfl rfl (by decide +kernel) ⟨Nat.le_of_ble_eq_true rfl, Nat.le_of_ble_eq_true rfl⟩) hKK hZ hX hP hS eu rfl rfl hl.1 rfl (Nat.le_of_ble_eq_true rfl) dL_run_4 ⟨Nat.le_of_ble_eq_true rfl, Nat.le_of_ble_eq_true rfl⟩ (fun q9 ce H locs hP hS hce hcv hcl => ?_)
    by_cases c0 : n1 = 0
    · have hf := xif_t hf c0
      subst c0
      refine vx_catch (own := RL) (name := xEx 0) (E := xEx 0) hown [] ⟨0, 9, 12, 13⟩ [⟨0, 9, 15, 15⟩] (htab.trans rfl) (fun z hz => absurd hz List.not_mem_nil) rfl (by decide) (hts (.classLink RL 13 "java/lang/IllegalArgumentException") (by decide +kernel)) (hng.at _ (List.mem_of_getElem? (i := 3) rfl)) hce hcv hcl ?_
      refine lv_astore_n (lv' := [(3, .ref q9), (0, .ref q0), (1, .int p1), (2, .ref q2)]) hx hb dL_run_12 rfl hl (by decide) rfl (fun ls hl => ?_)
      refine lv_iconst (v := (1 : Int32)) hx hb dL_run_13 (by decide) ?_
      obtain ⟨rfl, rfl⟩ := xinj2 hf
      subst hQ
      exact xe_i hx hb hr hlocks hKK hP hS dL_run_14
    have hf := xif_f hf c0
    by_cases c1 : n1 = 1
    · have hf := xif_t hf c1
      subst c1
      refine vx_catch (own := RL) (name := xEx 1) (E := xEx 1) hown [⟨0, 9, 12, 13⟩] ⟨0, 9, 15, 15⟩ [] (htab.trans rfl) (fun z hz => by rw [List.mem_singleton] at hz; subst hz; exact Or.inr ⟨by decide, _, hts (.classLink RL 13 "java/lang/IllegalArgumentException") (by decide +kernel), hC.2.2.1⟩) rfl (by decide) (hts (.classLink RL 15 "java/lang/IllegalStateException") (by decide +kernel)) (hng.at _ (List.mem_of_getElem? (i := 4) rfl)) hce hcv hcl ?_
      refine lv_astore_n (lv' := [(3, .ref q9), (0, .ref q0), (1, .int p1), (2, .ref q2)]) hx hb dL_run_15 rfl hl (by decide) rfl (fun ls hl => ?_)
      refine lv_iconst (v := (2 : Int32)) hx hb dL_run_16 (by decide) ?_
      obtain ⟨rfl, rfl⟩ := xinj2 hf
      subst hQ
      exact xe_i hx hb hr hlocks hKK hP hS dL_run_17
    have hf := xif_f hf c1
    cases hf
/-- the law: day -/
def f_L_day (h : XH) (q0 : Nat) (p1 : Int32) (p2 : Int32) (q3 : Nat) : Option (Int32 × XH) :=
  (xis h q0 5).bind fun u =>
  xcatch (f_X5_day h q0 p1 p2) (fun z => (xastL h q3 (0 : Int32) (Int32.toInt64 z)).bind fun h2 => some ((0 : Int32), h2)) fun n =>
    if n = 2 then some ((1 : Int32), h) else if n = 0 then some ((2 : Int32), h) else none
abbrev rmL_day : Room := { frames := 8, cells := 1, slots := 6, locals := 144 }
set_option maxHeartbeats 4000000 in
set_option maxRecDepth 100000 in
theorem m_L_day (l : Launch) (htr : l.stackTraces = false) (B0 : Nat) (G : XG) (h hE : XH) (q0 : Nat) (p1 : Int32) (p2 : Int32) (q3 : Nat) (rE : Int32) (hf : f_L_day h q0 p1 p2 q3 = some (rE, hE)) : Met l yL_day wsL_day rmL_day (va_Pc [.ref q0, .int p1, .int p2, .ref q3] (xUL B0 G h)) (xQi B0 G hE rE) 1 6 (xA B0) := by
  refine xMetW (cc := cL_day) (maxL := 5) (hh := [(0, 10, 13, 24), (0, 10, 17, 13)]) (by decide) rfl (Nat.le_of_ble_eq_true rfl) ?_
  intro p e s m args below meth c ls hx hb hr hml hown hlocks htab hts hKK hP hZ hX hC hl
  have hown : s.vm.findClass RL = some m.cls := hown
  have hl : lv_has ls 5 [(0, .ref q0), (1, .int p1), (2, .int p2), (3, .ref q3)] := hl
  have hS : va_S (xA B0) s.heap s.heap [] := va_S.rf
  have hng := hX.2.2.2.2.2.2.2.2
  generalize hQ : MQ below (xQi B0 G hE rE) args s 1 6 (xA B0) = Q
  unfold f_L_day at hf
  obtain ⟨u, eu, hf⟩ := xb hf
  refine lv_aload_n hx hb dL_day_0 rfl (lv_at hl 3 rfl) ?_
  refine lv_iconst (v := (0 : Int32)) hx hb dL_day_1 (by decide) ?_
  refine lv_aload_n hx hb dL_day_2 rfl (lv_at hl 0 rfl) ?_
  refine lv_iload_n hx hb dL_day_3 rfl (lv_at hl 1 rfl) ?_
  refine lv_iload_n hx hb dL_day_4 rfl (lv_at hl 2 rfl) ?_
  rcases xcatch_e hf with ⟨v1, e1, hf⟩ | ⟨n1, e1, hf⟩
  · refine xc_Vi (rest := [.int (0 : Int32), .ref q3]) ⟨hx, hb, hml, hown, hts⟩ (m_X5_day l B0 G h q0 p1 p2 v1 e1) (cwV 2 hts gL_day_X5_day rfl rfl rfl (by decide +kernel) ⟨Nat.le_of_ble_eq_true rfl, Nat.le_of_ble_eq_true rfl⟩) hKK hP hS eu rfl rfl hl.1 rfl (Nat.le_of_ble_eq_true rfl) dL_day_5 ⟨Nat.zero_le _, Nat.zero_le _⟩ (fun H locs hP hS => ?_)
    refine lv_i2l hx hb dL_day_8 rfl ?_
    obtain ⟨h2, eh2, hf⟩ := xb hf
    refine xr_last hx hb hKK hP hS eh2 dL_day_9 (fun H locs hP _ hS => ?_)
    refine lv_goto (tgt := 21) hx hb dL_day_10 (by decide) ?_
    refine lv_iconst (v := (0 : Int32)) hx hb dL_day_21 (by decide) ?_
    refine W.widen (k := 1) (n := 6) (by omega) (by omega) ?_
    obtain ⟨rfl, rfl⟩ := xinj2 hf
    subst hQ
    exact xe_i hx hb hr hlocks hKK hP hS dL_day_22
  · refine xc_Vx (rest := [.int (0 : Int32), .ref q3]) ⟨hx, hb, hml, hown, hts⟩ (mx_X5_day l htr B0 G h q0 p1 p2 n1 e1) (cwV 2 hts gL_day_X5_day rfl rfl rfl (by decide +kernel) ⟨Nat.le_of_ble_eq_true rfl, Nat.le_of_ble_eq_true rfl⟩) hKK hZ hX hP hS eu rfl rfl hl.1 rfl (Nat.le_of_ble_eq_true rfl) dL_day_5 ⟨Nat.le_of_ble_eq_true rfl, Nat.le_of_ble_eq_true rfl⟩ (fun q9 ce H locs hP hS hce hcv hcl => ?_)
    by_cases c0 : n1 = 2
    · have hf := xif_t hf c0
      subst c0
      refine vx_catch (own := RL) (name := xEx 2) (E := xEx 2) hown [] ⟨0, 10, 13, 24⟩ [⟨0, 10, 17, 13⟩] (htab.trans rfl) (fun z hz => absurd hz List.not_mem_nil) rfl (by decide) (hts (.classLink RL 24 "java/lang/IndexOutOfBoundsException") (by decide +kernel)) (hng.at _ (List.mem_of_getElem? (i := 5) rfl)) hce hcv hcl ?_
      refine lv_astore (lv' := [(4, .ref q9), (0, .ref q0), (1, .int p1), (2, .int p2), (3, .ref q3)]) hx hb dL_day_13 hl (by decide) rfl (fun ls hl => ?_)
      refine lv_iconst (v := (1 : Int32)) hx hb dL_day_15 (by decide) ?_
      obtain ⟨rfl, rfl⟩ := xinj2 hf
      subst hQ
      exact xe_i hx hb hr hlocks hKK hP hS dL_day_16
    have hf := xif_f hf c0
    by_cases c1 : n1 = 0
    · have hf := xif_t hf c1
      subst c1
      refine vx_catch (own := RL) (name := xEx 0) (E := xEx 0) hown [⟨0, 10, 13, 24⟩] ⟨0, 10, 17, 13⟩ [] (htab.trans rfl) (fun z hz => by rw [List.mem_singleton] at hz; subst hz; exact Or.inr ⟨by decide, _, hts (.classLink RL 24 "java/lang/IndexOutOfBoundsException") (by decide +kernel), hC.2.1⟩) rfl (by decide) (hts (.classLink RL 13 "java/lang/IllegalArgumentException") (by decide +kernel)) (hng.at _ (List.mem_of_getElem? (i := 3) rfl)) hce hcv hcl ?_
      refine lv_astore (lv' := [(4, .ref q9), (0, .ref q0), (1, .int p1), (2, .int p2), (3, .ref q3)]) hx hb dL_day_17 hl (by decide) rfl (fun ls hl => ?_)
      refine lv_iconst (v := (2 : Int32)) hx hb dL_day_19 (by decide) ?_
      obtain ⟨rfl, rfl⟩ := xinj2 hf
      subst hQ
      exact xe_i hx hb hr hlocks hKK hP hS dL_day_20
    have hf := xif_f hf c1
    cases hf
/-- the law: sum -/
def f_L_sum (fu : Nat) (h : XH) (q0 : Nat) (p1 : Int32) (q2 : Nat) : Option (Int32 × XH) :=
  (xis h q0 5).bind fun u =>
  xcatch (f_X5_sum fu h q0 p1) (fun z => (xastL h q2 (0 : Int32) z).bind fun h2 => some ((0 : Int32), h2)) fun n =>
    if n = 0 then some ((1 : Int32), h) else none
abbrev rmL_sum : Room := { frames := 8, cells := 1, slots := 6, locals := 146 }
set_option maxHeartbeats 4000000 in
set_option maxRecDepth 100000 in
theorem m_L_sum (l : Launch) (htr : l.stackTraces = false) (B0 : Nat) (G : XG) (fu : Nat) (h hE : XH) (q0 : Nat) (p1 : Int32) (q2 : Nat) (rE : Int32) (hf : f_L_sum fu h q0 p1 q2 = some (rE, hE)) : Met l yL_sum wsL_sum rmL_sum (va_Pc [.ref q0, .int p1, .ref q2] (xUL B0 G h)) (xQi B0 G hE rE) 1 6 (xA B0) := by
  refine xMetW (cc := cL_sum) (maxL := 4) (hh := [(0, 8, 11, 13)]) (by decide) rfl (Nat.le_of_ble_eq_true rfl) ?_
  intro p e s m args below meth c ls hx hb hr hml hown hlocks htab hts hKK hP hZ hX hC hl
  have hown : s.vm.findClass RL = some m.cls := hown
  have hl : lv_has ls 4 [(0, .ref q0), (1, .int p1), (2, .ref q2)] := hl
  have hS : va_S (xA B0) s.heap s.heap [] := va_S.rf
  have hng := hX.2.2.2.2.2.2.2.2
  generalize hQ : MQ below (xQi B0 G hE rE) args s 1 6 (xA B0) = Q
  unfold f_L_sum at hf
  obtain ⟨u, eu, hf⟩ := xb hf
  refine lv_aload_n hx hb dL_sum_0 rfl (lv_at hl 2 rfl) ?_
  refine lv_iconst (v := (0 : Int32)) hx hb dL_sum_1 (by decide) ?_
  refine lv_aload_n hx hb dL_sum_2 rfl (lv_at hl 0 rfl) ?_
  refine lv_iload_n hx hb dL_sum_3 rfl (lv_at hl 1 rfl) ?_
  rcases xcatch_e hf with ⟨v1, e1, hf⟩ | ⟨n1, e1, hf⟩
  · refine xc_Vl (rest := [.int (0 : Int32), .ref q2]) ⟨hx, hb, hml, hown, hts⟩ (m_X5_sum l B0 G fu h q0 p1 v1 e1) (cwV 1 hts gL_sum_X5_sum rfl rfl rfl (by decide +kernel) ⟨Nat.le_of_ble_eq_true rfl, Nat.le_of_ble_eq_true rfl⟩) hKK hP hS eu rfl rfl hl.1 rfl (Nat.le_of_ble_eq_true rfl) dL_sum_4 ⟨Nat.zero_le _, Nat.zero_le _⟩ (fun H locs hP hS => ?_)
    obtain ⟨h2, eh2, hf⟩ := xb hf
    refine xr_last hx hb hKK hP hS eh2 dL_sum_7 (fun H locs hP _ hS => ?_)
    refine lv_goto (tgt := 14) hx hb dL_sum_8 (by decide) ?_
    refine lv_iconst (v := (0 : Int32)) hx hb dL_sum_14 (by decide) ?_
    refine W.widen (k := 1) (n := 6) (by omega) (by omega) ?_
    obtain ⟨rfl, rfl⟩ := xinj2 hf
    subst hQ
    exact xe_i hx hb hr hlocks hKK hP hS dL_sum_15
  · refine xc_Vx (rest := [.int (0 : Int32), .ref q2]) ⟨hx, hb, hml, hown, hts⟩ (mx_X5_sum l htr B0 G fu h q0 p1 n1 e1) (cwV 1 hts gL_sum_X5_sum rfl rfl rfl (by decide +kernel) ⟨Nat.le_of_ble_eq_true rfl, Nat.le_of_ble_eq_true rfl⟩) hKK hZ hX hP hS eu rfl rfl hl.1 rfl (Nat.le_of_ble_eq_true rfl) dL_sum_4 ⟨Nat.le_of_ble_eq_true rfl, Nat.le_of_ble_eq_true rfl⟩ (fun q9 ce H locs hP hS hce hcv hcl => ?_)
    by_cases c0 : n1 = 0
    · have hf := xif_t hf c0
      subst c0
      refine vx_catch (own := RL) (name := xEx 0) (E := xEx 0) hown [] ⟨0, 8, 11, 13⟩ [] (htab.trans rfl) (fun z hz => absurd hz List.not_mem_nil) rfl (by decide) (hts (.classLink RL 13 "java/lang/IllegalArgumentException") (by decide +kernel)) (hng.at _ (List.mem_of_getElem? (i := 3) rfl)) hce hcv hcl ?_
      refine lv_astore_n (lv' := [(3, .ref q9), (0, .ref q0), (1, .int p1), (2, .ref q2)]) hx hb dL_sum_11 rfl hl (by decide) rfl (fun ls hl => ?_)
      refine lv_iconst (v := (1 : Int32)) hx hb dL_sum_12 (by decide) ?_
      obtain ⟨rfl, rfl⟩ := xinj2 hf
      subst hQ
      exact xe_i hx hb hr hlocks hKK hP hS dL_sum_13
    have hf := xif_f hf c0
    cases hf
/-- the law: shortDaysWith -/
def f_L_shortDaysWith (fu : Nat) (h : XH) (q0 : Nat) (p1 : Int32) (q2 : Nat) : Option (Int32 × XH) :=
  (xis h q0 5).bind fun u =>
  xcatch (f_X5_shortDaysWith fu h q0 p1) (fun z => (xastL z.2 q2 (0 : Int32) (Int32.toInt64 z.1)).bind fun h2 => some ((0 : Int32), h2)) fun n =>
    if n = 0 then some ((1 : Int32), h) else none
abbrev rmL_shortDaysWith : Room := { frames := 8, cells := 1, slots := 6, locals := 185 }
set_option maxHeartbeats 4000000 in
set_option maxRecDepth 100000 in
theorem m_L_shortDaysWith (l : Launch) (htr : l.stackTraces = false) (B0 : Nat) (G : XG) (fu : Nat) (h hE : XH) (q0 : Nat) (p1 : Int32) (q2 : Nat) (rE : Int32) (hf : f_L_shortDaysWith fu h q0 p1 q2 = some (rE, hE)) : Met l yL_shortDaysWith wsL_shortDaysWith rmL_shortDaysWith (va_Pc [.ref q0, .int p1, .ref q2] (xUL B0 G h)) (xQi B0 G hE rE) 1 6 (xA B0) := by
  refine xMetW (cc := cL_shortDaysWith) (maxL := 4) (hh := [(0, 9, 12, 13)]) (by decide) rfl (Nat.le_of_ble_eq_true rfl) ?_
  intro p e s m args below meth c ls hx hb hr hml hown hlocks htab hts hKK hP hZ hX hC hl
  have hown : s.vm.findClass RL = some m.cls := hown
  have hl : lv_has ls 4 [(0, .ref q0), (1, .int p1), (2, .ref q2)] := hl
  have hS : va_S (xA B0) s.heap s.heap [] := va_S.rf
  have hng := hX.2.2.2.2.2.2.2.2
  generalize hQ : MQ below (xQi B0 G hE rE) args s 1 6 (xA B0) = Q
  unfold f_L_shortDaysWith at hf
  obtain ⟨u, eu, hf⟩ := xb hf
  refine lv_aload_n hx hb dL_shortDaysWith_0 rfl (lv_at hl 2 rfl) ?_
  refine lv_iconst (v := (0 : Int32)) hx hb dL_shortDaysWith_1 (by decide) ?_
  refine lv_aload_n hx hb dL_shortDaysWith_2 rfl (lv_at hl 0 rfl) ?_
  refine lv_iload_n hx hb dL_shortDaysWith_3 rfl (lv_at hl 1 rfl) ?_
  rcases xcatch_e hf with ⟨⟨v1, h1⟩, e1, hf⟩ | ⟨n1, e1, hf⟩
  · refine xc_Vi (rest := [.int (0 : Int32), .ref q2]) ⟨hx, hb, hml, hown, hts⟩ (m_X5_shortDaysWith l B0 G fu h h1 q0 p1 v1 e1) (cwV 1 hts gL_shortDaysWith_X5_shortDaysWith rfl rfl rfl (by decide +kernel) ⟨Nat.le_of_ble_eq_true rfl, Nat.le_of_ble_eq_true rfl⟩) hKK hP hS eu rfl rfl hl.1 rfl (Nat.le_of_ble_eq_true rfl) dL_shortDaysWith_4 ⟨Nat.zero_le _, Nat.zero_le _⟩ (fun H locs hP hS => ?_)
    refine lv_i2l hx hb dL_shortDaysWith_7 rfl ?_
    obtain ⟨h2, eh2, hf⟩ := xb hf
    refine xr_last hx hb hKK hP hS eh2 dL_shortDaysWith_8 (fun H locs hP _ hS => ?_)
    refine lv_goto (tgt := 15) hx hb dL_shortDaysWith_9 (by decide) ?_
    refine lv_iconst (v := (0 : Int32)) hx hb dL_shortDaysWith_15 (by decide) ?_
    refine W.widen (k := 1) (n := 6) (by omega) (by omega) ?_
    obtain ⟨rfl, rfl⟩ := xinj2 hf
    subst hQ
    exact xe_i hx hb hr hlocks hKK hP hS dL_shortDaysWith_16
  · refine xc_Vx (rest := [.int (0 : Int32), .ref q2]) ⟨hx, hb, hml, hown, hts⟩ (mx_X5_shortDaysWith l htr B0 G fu h q0 p1 n1 e1) (cwV 1 hts gL_shortDaysWith_X5_shortDaysWith rfl rfl rfl (by decide +kernel) ⟨Nat.le_of_ble_eq_true rfl, Nat.le_of_ble_eq_true rfl⟩) hKK hZ hX hP hS eu rfl rfl hl.1 rfl (Nat.le_of_ble_eq_true rfl) dL_shortDaysWith_4 ⟨Nat.le_of_ble_eq_true rfl, Nat.le_of_ble_eq_true rfl⟩ (fun q9 ce H locs hP hS hce hcv hcl => ?_)
    by_cases c0 : n1 = 0
    · have hf := xif_t hf c0
      subst c0
      refine vx_catch (own := RL) (name := xEx 0) (E := xEx 0) hown [] ⟨0, 9, 12, 13⟩ [] (htab.trans rfl) (fun z hz => absurd hz List.not_mem_nil) rfl (by decide) (hts (.classLink RL 13 "java/lang/IllegalArgumentException") (by decide +kernel)) (hng.at _ (List.mem_of_getElem? (i := 3) rfl)) hce hcv hcl ?_
      refine lv_astore_n (lv' := [(3, .ref q9), (0, .ref q0), (1, .int p1), (2, .ref q2)]) hx hb dL_shortDaysWith_12 rfl hl (by decide) rfl (fun ls hl => ?_)
      refine lv_iconst (v := (1 : Int32)) hx hb dL_shortDaysWith_13 (by decide) ?_
      obtain ⟨rfl, rfl⟩ := xinj2 hf
      subst hQ
      exact xe_i hx hb hr hlocks hKK hP hS dL_shortDaysWith_14
    have hf := xif_f hf c0
    cases hf
/-- the law: capacityFor -/
def f_L_capacityFor (fu : Nat) (h : XH) (q0 : Nat) (p1 : Int32) (q2 : Nat) : Option (Int32 × XH) :=
  (xis h q0 5).bind fun u =>
  xcatch (f_X5_capacityFor fu h q0 p1) (fun z => (xastL z.2 q2 (0 : Int32) (Int32.toInt64 z.1)).bind fun h2 => some ((0 : Int32), h2)) fun n =>
    if n = 0 then some ((1 : Int32), h) else none
abbrev rmL_capacityFor : Room := { frames := 8, cells := 1, slots := 6, locals := 186 }
set_option maxHeartbeats 4000000 in
set_option maxRecDepth 100000 in
theorem m_L_capacityFor (l : Launch) (htr : l.stackTraces = false) (B0 : Nat) (G : XG) (fu : Nat) (h hE : XH) (q0 : Nat) (p1 : Int32) (q2 : Nat) (rE : Int32) (hf : f_L_capacityFor fu h q0 p1 q2 = some (rE, hE)) : Met l yL_capacityFor wsL_capacityFor rmL_capacityFor (va_Pc [.ref q0, .int p1, .ref q2] (xUL B0 G h)) (xQi B0 G hE rE) 1 6 (xA B0) := by
  refine xMetW (cc := cL_capacityFor) (maxL := 4) (hh := [(0, 9, 12, 13)]) (by decide) rfl (Nat.le_of_ble_eq_true rfl) ?_
  intro p e s m args below meth c ls hx hb hr hml hown hlocks htab hts hKK hP hZ hX hC hl
  have hown : s.vm.findClass RL = some m.cls := hown
  have hl : lv_has ls 4 [(0, .ref q0), (1, .int p1), (2, .ref q2)] := hl
  have hS : va_S (xA B0) s.heap s.heap [] := va_S.rf
  have hng := hX.2.2.2.2.2.2.2.2
  generalize hQ : MQ below (xQi B0 G hE rE) args s 1 6 (xA B0) = Q
  unfold f_L_capacityFor at hf
  obtain ⟨u, eu, hf⟩ := xb hf
  refine lv_aload_n hx hb dL_capacityFor_0 rfl (lv_at hl 2 rfl) ?_
  refine lv_iconst (v := (0 : Int32)) hx hb dL_capacityFor_1 (by decide) ?_
  refine lv_aload_n hx hb dL_capacityFor_2 rfl (lv_at hl 0 rfl) ?_
  refine lv_iload_n hx hb dL_capacityFor_3 rfl (lv_at hl 1 rfl) ?_
  rcases xcatch_e hf with ⟨⟨v1, h1⟩, e1, hf⟩ | ⟨n1, e1, hf⟩
  · refine xc_Vi (rest := [.int (0 : Int32), .ref q2]) ⟨hx, hb, hml, hown, hts⟩ (m_X5_capacityFor l B0 G fu h h1 q0 p1 v1 e1) (cwV 1 hts gL_capacityFor_X5_capacityFor rfl rfl rfl (by decide +kernel) ⟨Nat.le_of_ble_eq_true rfl, Nat.le_of_ble_eq_true rfl⟩) hKK hP hS eu rfl rfl hl.1 rfl (Nat.le_of_ble_eq_true rfl) dL_capacityFor_4 ⟨Nat.zero_le _, Nat.zero_le _⟩ (fun H locs hP hS => ?_)
    refine lv_i2l hx hb dL_capacityFor_7 rfl ?_
    obtain ⟨h2, eh2, hf⟩ := xb hf
    refine xr_last hx hb hKK hP hS eh2 dL_capacityFor_8 (fun H locs hP _ hS => ?_)
    refine lv_goto (tgt := 15) hx hb dL_capacityFor_9 (by decide) ?_
    refine lv_iconst (v := (0 : Int32)) hx hb dL_capacityFor_15 (by decide) ?_
    refine W.widen (k := 1) (n := 6) (by omega) (by omega) ?_
    obtain ⟨rfl, rfl⟩ := xinj2 hf
    subst hQ
    exact xe_i hx hb hr hlocks hKK hP hS dL_capacityFor_16
  · refine xc_Vx (rest := [.int (0 : Int32), .ref q2]) ⟨hx, hb, hml, hown, hts⟩ (mx_X5_capacityFor l htr B0 G fu h q0 p1 n1 e1) (cwV 1 hts gL_capacityFor_X5_capacityFor rfl rfl rfl (by decide +kernel) ⟨Nat.le_of_ble_eq_true rfl, Nat.le_of_ble_eq_true rfl⟩) hKK hZ hX hP hS eu rfl rfl hl.1 rfl (Nat.le_of_ble_eq_true rfl) dL_capacityFor_4 ⟨Nat.le_of_ble_eq_true rfl, Nat.le_of_ble_eq_true rfl⟩ (fun q9 ce H locs hP hS hce hcv hcl => ?_)
    by_cases c0 : n1 = 0
    · have hf := xif_t hf c0
      subst c0
      refine vx_catch (own := RL) (name := xEx 0) (E := xEx 0) hown [] ⟨0, 9, 12, 13⟩ [] (htab.trans rfl) (fun z hz => absurd hz List.not_mem_nil) rfl (by decide) (hts (.classLink RL 13 "java/lang/IllegalArgumentException") (by decide +kernel)) (hng.at _ (List.mem_of_getElem? (i := 3) rfl)) hce hcv hcl ?_
      refine lv_astore_n (lv' := [(3, .ref q9), (0, .ref q0), (1, .int p1), (2, .ref q2)]) hx hb dL_capacityFor_12 rfl hl (by decide) rfl (fun ls hl => ?_)
      refine lv_iconst (v := (1 : Int32)) hx hb dL_capacityFor_13 (by decide) ?_
      obtain ⟨rfl, rfl⟩ := xinj2 hf
      subst hQ
      exact xe_i hx hb hr hlocks hKK hP hS dL_capacityFor_14
    have hf := xif_f hf c0
    cases hf
/-- the law: gutterLoss -/
def f_L_gutterLoss (fu : Nat) (h : XH) (q0 : Nat) (p1 : Int32) (q2 : Nat) : Option (Int32 × XH) :=
  (xis h q0 5).bind fun u =>
  xcatch (f_X5_gutterLoss fu h q0 p1) (fun z => (xastL z.2 q2 (0 : Int32) z.1).bind fun h2 => some ((0 : Int32), h2)) fun n =>
    if n = 2 then some ((1 : Int32), h) else none
abbrev rmL_gutterLoss : Room := { frames := 8, cells := 1, slots := 6, locals := 149 }
set_option maxHeartbeats 4000000 in
set_option maxRecDepth 100000 in
theorem m_L_gutterLoss (l : Launch) (htr : l.stackTraces = false) (B0 : Nat) (G : XG) (fu : Nat) (h hE : XH) (q0 : Nat) (p1 : Int32) (q2 : Nat) (rE : Int32) (hf : f_L_gutterLoss fu h q0 p1 q2 = some (rE, hE)) : Met l yL_gutterLoss wsL_gutterLoss rmL_gutterLoss (va_Pc [.ref q0, .int p1, .ref q2] (xUL B0 G h)) (xQi B0 G hE rE) 1 6 (xA B0) := by
  refine xMetW (cc := cL_gutterLoss) (maxL := 4) (hh := [(0, 8, 11, 24)]) (by decide) rfl (Nat.le_of_ble_eq_true rfl) ?_
  intro p e s m args below meth c ls hx hb hr hml hown hlocks htab hts hKK hP hZ hX hC hl
  have hown : s.vm.findClass RL = some m.cls := hown
  have hl : lv_has ls 4 [(0, .ref q0), (1, .int p1), (2, .ref q2)] := hl
  have hS : va_S (xA B0) s.heap s.heap [] := va_S.rf
  have hng := hX.2.2.2.2.2.2.2.2
  generalize hQ : MQ below (xQi B0 G hE rE) args s 1 6 (xA B0) = Q
  unfold f_L_gutterLoss at hf
  obtain ⟨u, eu, hf⟩ := xb hf
  refine lv_aload_n hx hb dL_gutterLoss_0 rfl (lv_at hl 2 rfl) ?_
  refine lv_iconst (v := (0 : Int32)) hx hb dL_gutterLoss_1 (by decide) ?_
  refine lv_aload_n hx hb dL_gutterLoss_2 rfl (lv_at hl 0 rfl) ?_
  refine lv_iload_n hx hb dL_gutterLoss_3 rfl (lv_at hl 1 rfl) ?_
  rcases xcatch_e hf with ⟨⟨v1, h1⟩, e1, hf⟩ | ⟨n1, e1, hf⟩
  · refine xc_Vl (rest := [.int (0 : Int32), .ref q2]) ⟨hx, hb, hml, hown, hts⟩ (m_X5_gutterLoss l B0 G fu h h1 q0 p1 v1 e1) (cwV 1 hts gL_gutterLoss_X5_gutterLoss rfl rfl rfl (by decide +kernel) ⟨Nat.le_of_ble_eq_true rfl, Nat.le_of_ble_eq_true rfl⟩) hKK hP hS eu rfl rfl hl.1 rfl (Nat.le_of_ble_eq_true rfl) dL_gutterLoss_4 ⟨Nat.zero_le _, Nat.zero_le _⟩ (fun H locs hP hS => ?_)
    obtain ⟨h2, eh2, hf⟩ := xb hf
    refine xr_last hx hb hKK hP hS eh2 dL_gutterLoss_7 (fun H locs hP _ hS => ?_)
    refine lv_goto (tgt := 14) hx hb dL_gutterLoss_8 (by decide) ?_
    refine lv_iconst (v := (0 : Int32)) hx hb dL_gutterLoss_14 (by decide) ?_
    refine W.widen (k := 1) (n := 6) (by omega) (by omega) ?_
    obtain ⟨rfl, rfl⟩ := xinj2 hf
    subst hQ
    exact xe_i hx hb hr hlocks hKK hP hS dL_gutterLoss_15
  · refine xc_Vx (rest := [.int (0 : Int32), .ref q2]) ⟨hx, hb, hml, hown, hts⟩ (mx_X5_gutterLoss l htr B0 G fu h q0 p1 n1 e1) (cwV 1 hts gL_gutterLoss_X5_gutterLoss rfl rfl rfl (by decide +kernel) ⟨Nat.le_of_ble_eq_true rfl, Nat.le_of_ble_eq_true rfl⟩) hKK hZ hX hP hS eu rfl rfl hl.1 rfl (Nat.le_of_ble_eq_true rfl) dL_gutterLoss_4 ⟨Nat.le_of_ble_eq_true rfl, Nat.le_of_ble_eq_true rfl⟩ (fun q9 ce H locs hP hS hce hcv hcl => ?_)
    by_cases c0 : n1 = 2
    · have hf := xif_t hf c0
      subst c0
      refine vx_catch (own := RL) (name := xEx 2) (E := xEx 2) hown [] ⟨0, 8, 11, 24⟩ [] (htab.trans rfl) (fun z hz => absurd hz List.not_mem_nil) rfl (by decide) (hts (.classLink RL 24 "java/lang/IndexOutOfBoundsException") (by decide +kernel)) (hng.at _ (List.mem_of_getElem? (i := 5) rfl)) hce hcv hcl ?_
      refine lv_astore_n (lv' := [(3, .ref q9), (0, .ref q0), (1, .int p1), (2, .ref q2)]) hx hb dL_gutterLoss_11 rfl hl (by decide) rfl (fun ls hl => ?_)
      refine lv_iconst (v := (1 : Int32)) hx hb dL_gutterLoss_12 (by decide) ?_
      obtain ⟨rfl, rfl⟩ := xinj2 hf
      subst hQ
      exact xe_i hx hb hr hlocks hKK hP hS dL_gutterLoss_13
    have hf := xif_f hf c0
    cases hf
/-- the law: append -/
def f_L_append (h : XH) (q0 : Nat) (p1 : Int32) (q2 : Nat) : Option (Int32 × XH) :=
  (xis h q0 5).bind fun u =>
  xcatch (f_X5_append h q0 p1) (fun z => (xastL z.2 q2 (0 : Int32) (Int32.toInt64 z.1)).bind fun h2 => some ((0 : Int32), h2)) fun n =>
    if n = 0 then some ((1 : Int32), h) else if n = 1 then some ((2 : Int32), h) else none
abbrev rmL_append : Room := { frames := 8, cells := 1, slots := 6, locals := 143 }
set_option maxHeartbeats 4000000 in
set_option maxRecDepth 100000 in
theorem m_L_append (l : Launch) (htr : l.stackTraces = false) (B0 : Nat) (G : XG) (h hE : XH) (q0 : Nat) (p1 : Int32) (q2 : Nat) (rE : Int32) (hf : f_L_append h q0 p1 q2 = some (rE, hE)) : Met l yL_append wsL_append rmL_append (va_Pc [.ref q0, .int p1, .ref q2] (xUL B0 G h)) (xQi B0 G hE rE) 1 6 (xA B0) := by
  refine xMetW (cc := cL_append) (maxL := 4) (hh := [(0, 9, 12, 13), (0, 9, 15, 15)]) (by decide) rfl (Nat.le_of_ble_eq_true rfl) ?_
  intro p e s m args below meth c ls hx hb hr hml hown hlocks htab hts hKK hP hZ hX hC hl
  have hown : s.vm.findClass RL = some m.cls := hown
  have hl : lv_has ls 4 [(0, .ref q0), (1, .int p1), (2, .ref q2)] := hl
  have hS : va_S (xA B0) s.heap s.heap [] := va_S.rf
  have hng := hX.2.2.2.2.2.2.2.2
  generalize hQ : MQ below (xQi B0 G hE rE) args s 1 6 (xA B0) = Q
  unfold f_L_append at hf
  obtain ⟨u, eu, hf⟩ := xb hf
  refine lv_aload_n hx hb dL_append_0 rfl (lv_at hl 2 rfl) ?_
  refine lv_iconst (v := (0 : Int32)) hx hb dL_append_1 (by decide) ?_
  refine lv_aload_n hx hb dL_append_2 rfl (lv_at hl 0 rfl) ?_
  refine lv_iload_n hx hb dL_append_3 rfl (lv_at hl 1 rfl) ?_
  rcases xcatch_e hf with ⟨⟨v1, h1⟩, e1, hf⟩ | ⟨n1, e1, hf⟩
  · refine xc_Vi (rest := [.int (0 : Int32), .ref q2]) ⟨hx, hb, hml, hown, hts⟩ (m_X5_append l B0 G h h1 q0 p1 v1 e1) (cwV 1 hts gL_append_X5_append rfl rfl rfl (by decide +kernel) ⟨Nat.le_of_ble_eq_true rfl, Nat.le_of_ble_eq_true rfl⟩) hKK hP hS eu rfl rfl hl.1 rfl (Nat.le_of_ble_eq_true rfl) dL_append_4 ⟨Nat.zero_le _, Nat.zero_le _⟩ (fun H locs hP hS => ?_)
    refine lv_i2l hx hb dL_append_7 rfl ?_
    obtain ⟨h2, eh2, hf⟩ := xb hf
    refine xr_last hx hb hKK hP hS eh2 dL_append_8 (fun H locs hP _ hS => ?_)
    refine lv_goto (tgt := 18) hx hb dL_append_9 (by decide) ?_
    refine lv_iconst (v := (0 : Int32)) hx hb dL_append_18 (by decide) ?_
    refine W.widen (k := 1) (n := 6) (by omega) (by omega) ?_
    obtain ⟨rfl, rfl⟩ := xinj2 hf
    subst hQ
    exact xe_i hx hb hr hlocks hKK hP hS dL_append_19
  · refine xc_Vx (rest := [.int (0 : Int32), .ref q2]) ⟨hx, hb, hml, hown, hts⟩ (mx_X5_append l htr B0 G h q0 p1 n1 e1) (cwV 1 hts gL_append_X5_append rfl rfl rfl (by decide +kernel) ⟨Nat.le_of_ble_eq_true rfl, Nat.le_of_ble_eq_true rfl⟩) hKK hZ hX hP hS eu rfl rfl hl.1 rfl (Nat.le_of_ble_eq_true rfl) dL_append_4 ⟨Nat.le_of_ble_eq_true rfl, Nat.le_of_ble_eq_true rfl⟩ (fun q9 ce H locs hP hS hce hcv hcl => ?_)
    by_cases c0 : n1 = 0
    · have hf := xif_t hf c0
      subst c0
      refine vx_catch (own := RL) (name := xEx 0) (E := xEx 0) hown [] ⟨0, 9, 12, 13⟩ [⟨0, 9, 15, 15⟩] (htab.trans rfl) (fun z hz => absurd hz List.not_mem_nil) rfl (by decide) (hts (.classLink RL 13 "java/lang/IllegalArgumentException") (by decide +kernel)) (hng.at _ (List.mem_of_getElem? (i := 3) rfl)) hce hcv hcl ?_
      refine lv_astore_n (lv' := [(3, .ref q9), (0, .ref q0), (1, .int p1), (2, .ref q2)]) hx hb dL_append_12 rfl hl (by decide) rfl (fun ls hl => ?_)
      refine lv_iconst (v := (1 : Int32)) hx hb dL_append_13 (by decide) ?_
      obtain ⟨rfl, rfl⟩ := xinj2 hf
      subst hQ
      exact xe_i hx hb hr hlocks hKK hP hS dL_append_14
    have hf := xif_f hf c0
    by_cases c1 : n1 = 1
    · have hf := xif_t hf c1
      subst c1
      refine vx_catch (own := RL) (name := xEx 1) (E := xEx 1) hown [⟨0, 9, 12, 13⟩] ⟨0, 9, 15, 15⟩ [] (htab.trans rfl) (fun z hz => by rw [List.mem_singleton] at hz; subst hz; exact Or.inr ⟨by decide, _, hts (.classLink RL 13 "java/lang/IllegalArgumentException") (by decide +kernel), hC.2.2.1⟩) rfl (by decide) (hts (.classLink RL 15 "java/lang/IllegalStateException") (by decide +kernel)) (hng.at _ (List.mem_of_getElem? (i := 4) rfl)) hce hcv hcl ?_
      refine lv_astore_n (lv' := [(3, .ref q9), (0, .ref q0), (1, .int p1), (2, .ref q2)]) hx hb dL_append_15 rfl hl (by decide) rfl (fun ls hl => ?_)
      refine lv_iconst (v := (2 : Int32)) hx hb dL_append_16 (by decide) ?_
      obtain ⟨rfl, rfl⟩ := xinj2 hf
      subst hQ
      exact xe_i hx hb hr hlocks hKK hP hS dL_append_17
    have hf := xif_f hf c1
    cases hf
/-- the law: undo -/
def f_L_undo (fu : Nat) (h : XH) (q0 : Nat) (q1 : Nat) : Option (Int32 × XH) :=
  (xis h q0 5).bind fun u =>
  xcatch (f_X5_undo fu h q0) (fun z => (xastL z.2 q1 (0 : Int32) (Int32.toInt64 z.1)).bind fun h2 => some ((0 : Int32), h2)) fun n =>
    if n = 1 then some ((1 : Int32), h) else none
abbrev rmL_undo : Room := { frames := 7, cells := 1, slots := 6, locals := 127 }
set_option maxHeartbeats 4000000 in
set_option maxRecDepth 100000 in
theorem m_L_undo (l : Launch) (htr : l.stackTraces = false) (B0 : Nat) (G : XG) (fu : Nat) (h hE : XH) (q0 : Nat) (q1 : Nat) (rE : Int32) (hf : f_L_undo fu h q0 q1 = some (rE, hE)) : Met l yL_undo wsL_undo rmL_undo (va_Pc [.ref q0, .ref q1] (xUL B0 G h)) (xQi B0 G hE rE) 1 6 (xA B0) := by
  refine xMetW (cc := cL_undo) (maxL := 3) (hh := [(0, 8, 11, 15)]) (by decide) rfl (Nat.le_of_ble_eq_true rfl) ?_
  intro p e s m args below meth c ls hx hb hr hml hown hlocks htab hts hKK hP hZ hX hC hl
  have hown : s.vm.findClass RL = some m.cls := hown
  have hl : lv_has ls 3 [(0, .ref q0), (1, .ref q1)] := hl
  have hS : va_S (xA B0) s.heap s.heap [] := va_S.rf
  have hng := hX.2.2.2.2.2.2.2.2
  generalize hQ : MQ below (xQi B0 G hE rE) args s 1 6 (xA B0) = Q
  unfold f_L_undo at hf
  obtain ⟨u, eu, hf⟩ := xb hf
  refine lv_aload_n hx hb dL_undo_0 rfl (lv_at hl 1 rfl) ?_
  refine lv_iconst (v := (0 : Int32)) hx hb dL_undo_1 (by decide) ?_
  refine lv_aload_n hx hb dL_undo_2 rfl (lv_at hl 0 rfl) ?_
  rcases xcatch_e hf with ⟨⟨v1, h1⟩, e1, hf⟩ | ⟨n1, e1, hf⟩
  · refine xc_Vi (rest := [.int (0 : Int32), .ref q1]) ⟨hx, hb, hml, hown, hts⟩ (m_X5_undo l B0 G fu h h1 q0 v1 e1) (cwV 0 hts gL_undo_X5_undo rfl rfl rfl (by decide +kernel) ⟨Nat.le_of_ble_eq_true rfl, Nat.le_of_ble_eq_true rfl⟩) hKK hP hS eu rfl rfl hl.1 rfl (Nat.le_of_ble_eq_true rfl) dL_undo_3 ⟨Nat.zero_le _, Nat.zero_le _⟩ (fun H locs hP hS => ?_)
    refine lv_i2l hx hb dL_undo_6 rfl ?_
    obtain ⟨h2, eh2, hf⟩ := xb hf
    refine xr_last hx hb hKK hP hS eh2 dL_undo_7 (fun H locs hP _ hS => ?_)
    refine lv_goto (tgt := 14) hx hb dL_undo_8 (by decide) ?_
    refine lv_iconst (v := (0 : Int32)) hx hb dL_undo_14 (by decide) ?_
    refine W.widen (k := 1) (n := 6) (by omega) (by omega) ?_
    obtain ⟨rfl, rfl⟩ := xinj2 hf
    subst hQ
    exact xe_i hx hb hr hlocks hKK hP hS dL_undo_15
  · refine xc_Vx (rest := [.int (0 : Int32), .ref q1]) ⟨hx, hb, hml, hown, hts⟩ (mx_X5_undo l htr B0 G fu h q0 n1 e1) (cwV 0 hts gL_undo_X5_undo rfl rfl rfl (by decide +kernel) ⟨Nat.le_of_ble_eq_true rfl, Nat.le_of_ble_eq_true rfl⟩) hKK hZ hX hP hS eu rfl rfl hl.1 rfl (Nat.le_of_ble_eq_true rfl) dL_undo_3 ⟨Nat.le_of_ble_eq_true rfl, Nat.le_of_ble_eq_true rfl⟩ (fun q9 ce H locs hP hS hce hcv hcl => ?_)
    by_cases c0 : n1 = 1
    · have hf := xif_t hf c0
      subst c0
      refine vx_catch (own := RL) (name := xEx 1) (E := xEx 1) hown [] ⟨0, 8, 11, 15⟩ [] (htab.trans rfl) (fun z hz => absurd hz List.not_mem_nil) rfl (by decide) (hts (.classLink RL 15 "java/lang/IllegalStateException") (by decide +kernel)) (hng.at _ (List.mem_of_getElem? (i := 4) rfl)) hce hcv hcl ?_
      refine lv_astore_n (lv' := [(2, .ref q9), (0, .ref q0), (1, .ref q1)]) hx hb dL_undo_11 rfl hl (by decide) rfl (fun ls hl => ?_)
      refine lv_iconst (v := (1 : Int32)) hx hb dL_undo_12 (by decide) ?_
      obtain ⟨rfl, rfl⟩ := xinj2 hf
      subst hQ
      exact xe_i hx hb hr hlocks hKK hP hS dL_undo_13
    have hf := xif_f hf c0
    cases hf
