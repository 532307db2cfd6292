/-- the law: isStep -/
def f_L_isStep (fu : Nat) (h : XH) (q0 : Nat) (q1 : Nat) (p2 : Int32) : Option (Int32 × XH) :=
  obind1 (f_L_up p2 (7 : Int32)) fun v1 =>
  if v1 = (0 : Int32) then
    obind2 (f_L_sets fu h q0 q1 (p2 >>> ((3 : Int32) &&& (31 : Int32)))) fun v2 h1 =>
    (xbool v2).bind fun v3 =>
    some ((v3, h1))
  else
  if v1 = (1 : Int32) then
    obind1 (f_L_up (p2 >>> ((3 : Int32) &&& (31 : Int32))) (101 : Int32)) fun v4 =>
    obind1 (f_L_up (p2 >>> ((10 : Int32) &&& (31 : Int32))) (9 : Int32)) fun v5 =>
    obind1 (f_L_up (p2 >>> ((14 : Int32) &&& (31 : Int32))) (4 : Int32)) fun v6 =>
    (xis h q0 5).bind fun v7 =>
    obind2 (xinl (f_X5_setWays fu h q0 v4 ((1 : Int32) + v5) v6)) fun v8 h2 =>
    obind1 (f_L_up (p2 >>> ((3 : Int32) &&& (31 : Int32))) (101 : Int32)) fun v9 =>
    obind1 (f_L_up (p2 >>> ((10 : Int32) &&& (31 : Int32))) (9 : Int32)) fun v10 =>
    obind1 (f_L_up (p2 >>> ((14 : Int32) &&& (31 : Int32))) (4 : Int32)) fun v11 =>
    (xis h2 q1 5).bind fun v12 =>
    obind2 (xinl (f_X5_setWays fu h2 q1 v9 ((1 : Int32) + v10) v11)) fun v13 h3 =>
    obind1 (
      if v8 = v13 then
        some (1 : Int32)
      else
        some (0 : Int32)
    ) fun v14 =>
    (xbool v14).bind fun v15 =>
    some ((v15, h3))
  else
  if v1 = (2 : Int32) then
    (xis h q0 5).bind fun v16 =>
    obind1 (xinl (f_X5_setting h q0 (8 : Int32))) fun v17 =>
    obind2 (
      oletk (
        fun (h5 : XH) =>
        some ((1 : Int32), h5)
      ) fun k3 =>
      if (80 : Int32) < v17 then
        k3 h
      else
        obind1 (f_L_up (p2 >>> ((3 : Int32) &&& (31 : Int32))) (1000000 : Int32)) fun v19 =>
        obind1 (f_L_up (p2 >>> ((4 : Int32) &&& (31 : Int32))) (20 : Int32)) fun v20 =>
        obind1 (f_L_up (p2 >>> ((8 : Int32) &&& (31 : Int32))) (101 : Int32)) fun v21 =>
        obind1 (f_L_up (p2 >>> ((9 : Int32) &&& (31 : Int32))) (80 : Int32)) fun v22 =>
        (xis h q0 5).bind fun v23 =>
        obind2 (xinl (f_X5_addRandomRain fu h q0 v19 ((1 : Int32) + v20) v21 ((1 : Int32) + v22))) fun v24 h6 =>
        obind1 (f_L_up (p2 >>> ((3 : Int32) &&& (31 : Int32))) (1000000 : Int32)) fun v25 =>
        obind1 (f_L_up (p2 >>> ((4 : Int32) &&& (31 : Int32))) (20 : Int32)) fun v26 =>
        obind1 (f_L_up (p2 >>> ((8 : Int32) &&& (31 : Int32))) (101 : Int32)) fun v27 =>
        obind1 (f_L_up (p2 >>> ((9 : Int32) &&& (31 : Int32))) (80 : Int32)) fun v28 =>
        (xis h6 q1 5).bind fun v29 =>
        obind2 (xinl (f_X5_addRandomRain fu h6 q1 v25 ((1 : Int32) + v26) v27 ((1 : Int32) + v28))) fun v30 h7 =>
        if v24 = v30 then
          k3 h7
        else
          some ((0 : Int32), h7)
    ) fun v18 h4 =>
    (xbool v18).bind fun v31 =>
    some ((v31, h4))
  else
  if v1 = (3 : Int32) then
    obind1 (f_L_up (p2 >>> ((3 : Int32) &&& (31 : Int32))) (4 : Int32)) fun v32 =>
    obind2 (
      oletk (
        fun (h9 : XH) =>
        some ((1 : Int32), h9)
      ) fun k5 =>
      if (0 : Int32) < v32 then
        k5 h
      else
        (xis h q0 5).bind fun v34 =>
        obind2 (f_X5_restart fu h q0) fun v35 h10 =>
        (xis h10 q1 5).bind fun v36 =>
        obind2 (f_X5_restart fu h10 q1) fun v37 h11 =>
        if v35 = v37 then
          k5 h11
        else
          some ((0 : Int32), h11)
    ) fun v33 h8 =>
    (xbool v33).bind fun v38 =>
    some ((v38, h8))
  else
  (xis h q0 5).bind fun v39 =>
  obind1 (xinl (f_X5_setting h q0 (8 : Int32))) fun v40 =>
  (xis h q0 5).bind fun v41 =>
  obind1 (xinl (f_X5_setting h q0 (9 : Int32))) fun v42 =>
  olet ((v40 - v42)) fun v43 =>
  obind1 (
    if v43 = (0 : Int32) then
      some (0 : Int32)
    else
      obind1 (f_L_up (p2 >>> ((3 : Int32) &&& (31 : Int32))) (v43 + (1 : Int32))) fun v45 =>
      some v45
  ) fun v44 =>
  obind1 (
    if v44 = (0 : Int32) then
      some (0 : Int32)
    else
      obind1 (f_L_up (p2 >>> ((12 : Int32) &&& (31 : Int32))) v44) fun v47 =>
      some v47
  ) fun v46 =>
  (xis h q0 5).bind fun v48 =>
  obind2 (xinl (f_X5_run fu h q0 v44)) fun v49 h12 =>
  (xis h12 q1 5).bind fun v50 =>
  obind2 (xinl (f_X5_run fu h12 q1 v46)) fun v51 h13 =>
  (xis h13 q1 5).bind fun v52 =>
  obind2 (xinl (f_X5_run fu h13 q1 (v44 - v46))) fun v53 h14 =>
  obind1 (
    if v49 = (v51 + v53) then
      some (1 : Int32)
    else
      some (0 : Int32)
  ) fun v54 =>
  (xbool v54).bind fun v55 =>
  some ((v55, h14))
abbrev rmL_isStep : Room := { frames := 9, cells := 0, slots := 0, locals := 178 }
set_option maxHeartbeats 4000000 in
set_option maxRecDepth 100000 in
theorem m_L_isStep (l : Launch) (B0 : Nat) (G : XG) (fu : Nat) (h hE : XH) (q0 : Nat) (q1 : Nat) (p2 : Int32) (rE : Int32) (hf : f_L_isStep fu h q0 q1 p2 = some (rE, hE)) : Met l yL_isStep wsL_isStep rmL_isStep (va_Pc [.ref q0, .ref q1, .int p2] (xU B0 G h)) (xQi B0 G hE rE) 0 0 (xA B0) := by
  refine xMet (cc := cL_isStep) (maxL := 6) (by decide) rfl (Nat.le_of_ble_eq_true rfl) ?_
  intro p e s m args below meth c ls hx hb hr hml hown hlocks hnm hts hKK hP hl
  have hown : s.vm.findClass RL = some m.cls := hown
  have hl : lv_has ls 6 [(0, .ref q0), (1, .ref q1), (2, .int p2)] := hl
  have hS : va_S (xA B0) s.heap s.heap [] := va_S.rf
  have w1 := hts (.constant RL 43 (1000000)) (by decide +kernel)
  generalize hQ : MQ below (xQi B0 G hE rE) args s 0 0 (xA B0) = Q
  unfold f_L_isStep at hf
  refine lv_iload_n hx hb dL_isStep_0 rfl (lv_at hl 2 rfl) ?_
  refine lv_bipush (v := (7 : Int32)) hx hb dL_isStep_1 (by decide) ?_
  obtain ⟨v1, ev1, hf⟩ := xb1 hf
  refine xc_Si (rest := []) ⟨hx, hb, hml, hown, hts⟩ (m_L_up l B0 G h p2 (7 : Int32) v1 ev1) (va_cwS 2 hts gL_isStep_L_up rfl rfl rfl (by decide +kernel) ⟨Nat.le_of_ble_eq_true rfl, Nat.le_of_ble_eq_true rfl⟩) hKK hP hS rfl hl.1 rfl (Nat.le_of_ble_eq_true rfl) dL_isStep_3 ⟨Nat.zero_le _, Nat.zero_le _⟩ (fun H locs hP hS => ?_)
  by_cases c1 : v1 = (0 : Int32)
  · have hf := xif_t hf c1
    refine lv_tableIn (off := 30) (tgt := 36) hx hb dL_isStep_6 (by rw [c1]; decide) (by rw [c1]; decide) (by rw [c1]; rfl) (by decide) ?_
    refine lv_aload_n hx hb dL_isStep_36 rfl (lv_at hl 0 rfl) ?_
    refine lv_aload_n hx hb dL_isStep_37 rfl (lv_at hl 1 rfl) ?_
    refine lv_iload_n hx hb dL_isStep_38 rfl (lv_at hl 2 rfl) ?_
    refine lv_iconst (v := (3 : Int32)) hx hb dL_isStep_39 (by decide) ?_
    refine lv_ishr hx hb dL_isStep_40 ?_
    obtain ⟨v2, h1, ev2, hf⟩ := xb2 hf
    refine xc_Si (rest := []) ⟨hx, hb, hml, hown, hts⟩ (m_L_sets l B0 G fu h h1 q0 q1 (p2 >>> ((3 : Int32) &&& (31 : Int32))) v2 ev2) (va_cwS 3 hts gL_isStep_L_sets rfl rfl rfl (by decide +kernel) ⟨Nat.le_of_ble_eq_true rfl, Nat.le_of_ble_eq_true rfl⟩) hKK hP hS rfl hl.1 rfl (Nat.le_of_ble_eq_true rfl) dL_isStep_41 ⟨Nat.zero_le _, Nat.zero_le _⟩ (fun H locs hP hS => ?_)
    obtain ⟨v3, ev3, hf⟩ := xb hf
    obtain ⟨rfl, rfl⟩ := xinj2 hf
    subst hQ
    exact xe_z hx hb hr hlocks hKK hP hS ev3 dL_isStep_44
  have hf := xif_f hf c1
  by_cases c2 : v1 = (1 : Int32)
  · have hf := xif_t hf c2
    refine lv_tableIn (off := 39) (tgt := 45) hx hb dL_isStep_6 (by rw [c2]; decide) (by rw [c2]; decide) (by rw [c2]; rfl) (by decide) ?_
    refine lv_aload_n hx hb dL_isStep_45 rfl (lv_at hl 0 rfl) ?_
    refine lv_iload_n hx hb dL_isStep_46 rfl (lv_at hl 2 rfl) ?_
    refine lv_iconst (v := (3 : Int32)) hx hb dL_isStep_47 (by decide) ?_
    refine lv_ishr hx hb dL_isStep_48 ?_
    refine lv_bipush (v := (101 : Int32)) hx hb dL_isStep_49 (by decide) ?_
    obtain ⟨v4, ev4, hf⟩ := xb1 hf
    refine xc_Si (rest := [.ref q0]) ⟨hx, hb, hml, hown, hts⟩ (m_L_up l B0 G h (p2 >>> ((3 : Int32) &&& (31 : Int32))) (101 : Int32) v4 ev4) (va_cwS 2 hts gL_isStep_L_up rfl rfl rfl (by decide +kernel) ⟨Nat.le_of_ble_eq_true rfl, Nat.le_of_ble_eq_true rfl⟩) hKK hP hS rfl hl.1 rfl (Nat.le_of_ble_eq_true rfl) dL_isStep_51 ⟨Nat.zero_le _, Nat.zero_le _⟩ (fun H locs hP hS => ?_)
    refine lv_iconst (v := (1 : Int32)) hx hb dL_isStep_54 (by decide) ?_
    refine lv_iload_n hx hb dL_isStep_55 rfl (lv_at hl 2 rfl) ?_
    refine lv_bipush (v := (10 : Int32)) hx hb dL_isStep_56 (by decide) ?_
    refine lv_ishr hx hb dL_isStep_58 ?_
    refine lv_bipush (v := (9 : Int32)) hx hb dL_isStep_59 (by decide) ?_
    obtain ⟨v5, ev5, hf⟩ := xb1 hf
    refine xc_Si (rest := [.int (1 : Int32), .int v4, .ref q0]) ⟨hx, hb, hml, hown, hts⟩ (m_L_up l B0 G h (p2 >>> ((10 : Int32) &&& (31 : Int32))) (9 : Int32) v5 ev5) (va_cwS 2 hts gL_isStep_L_up rfl rfl rfl (by decide +kernel) ⟨Nat.le_of_ble_eq_true rfl, Nat.le_of_ble_eq_true rfl⟩) hKK hP hS rfl hl.1 rfl (Nat.le_of_ble_eq_true rfl) dL_isStep_61 ⟨Nat.zero_le _, Nat.zero_le _⟩ (fun H locs hP hS => ?_)
    refine lv_iadd hx hb dL_isStep_64 ?_
    refine lv_iload_n hx hb dL_isStep_65 rfl (lv_at hl 2 rfl) ?_
    refine lv_bipush (v := (14 : Int32)) hx hb dL_isStep_66 (by decide) ?_
    refine lv_ishr hx hb dL_isStep_68 ?_
    refine lv_iconst (v := (4 : Int32)) hx hb dL_isStep_69 (by decide) ?_
    obtain ⟨v6, ev6, hf⟩ := xb1 hf
    refine xc_Si (rest := [.int ((1 : Int32) + v5), .int v4, .ref q0]) ⟨hx, hb, hml, hown, hts⟩ (m_L_up l B0 G h (p2 >>> ((14 : Int32) &&& (31 : Int32))) (4 : Int32) v6 ev6) (va_cwS 2 hts gL_isStep_L_up rfl rfl rfl (by decide +kernel) ⟨Nat.le_of_ble_eq_true rfl, Nat.le_of_ble_eq_true rfl⟩) hKK hP hS rfl hl.1 rfl (Nat.le_of_ble_eq_true rfl) dL_isStep_70 ⟨Nat.zero_le _, Nat.zero_le _⟩ (fun H locs hP hS => ?_)
    obtain ⟨v7, ev7, hf⟩ := xb hf
    obtain ⟨v8, h2, ev8, hf⟩ := xb2 hf
    have ev8 := xinl_spec ev8
    refine xc_Vi (rest := []) ⟨hx, hb, hml, hown, hts⟩ (m_X5_setWays l B0 G fu h h2 q0 v4 ((1 : Int32) + v5) v6 v8 ev8) (cwV 3 hts gL_isStep_X5_setWays rfl rfl rfl (by decide +kernel) ⟨Nat.le_of_ble_eq_true rfl, Nat.le_of_ble_eq_true rfl⟩) hKK hP hS ev7 rfl rfl hl.1 rfl (Nat.le_of_ble_eq_true rfl) dL_isStep_73 ⟨Nat.zero_le _, Nat.zero_le _⟩ (fun H locs hP hS => ?_)
    refine lv_aload_n hx hb dL_isStep_76 rfl (lv_at hl 1 rfl) ?_
    refine lv_iload_n hx hb dL_isStep_77 rfl (lv_at hl 2 rfl) ?_
    refine lv_iconst (v := (3 : Int32)) hx hb dL_isStep_78 (by decide) ?_
    refine lv_ishr hx hb dL_isStep_79 ?_
    refine lv_bipush (v := (101 : Int32)) hx hb dL_isStep_80 (by decide) ?_
    obtain ⟨v9, ev9, hf⟩ := xb1 hf
    refine xc_Si (rest := [.ref q1, .int v8]) ⟨hx, hb, hml, hown, hts⟩ (m_L_up l B0 G h2 (p2 >>> ((3 : Int32) &&& (31 : Int32))) (101 : Int32) v9 ev9) (va_cwS 2 hts gL_isStep_L_up rfl rfl rfl (by decide +kernel) ⟨Nat.le_of_ble_eq_true rfl, Nat.le_of_ble_eq_true rfl⟩) hKK hP hS rfl hl.1 rfl (Nat.le_of_ble_eq_true rfl) dL_isStep_82 ⟨Nat.zero_le _, Nat.zero_le _⟩ (fun H locs hP hS => ?_)
    refine lv_iconst (v := (1 : Int32)) hx hb dL_isStep_85 (by decide) ?_
    refine lv_iload_n hx hb dL_isStep_86 rfl (lv_at hl 2 rfl) ?_
    refine lv_bipush (v := (10 : Int32)) hx hb dL_isStep_87 (by decide) ?_
    refine lv_ishr hx hb dL_isStep_89 ?_
    refine lv_bipush (v := (9 : Int32)) hx hb dL_isStep_90 (by decide) ?_
    obtain ⟨v10, ev10, hf⟩ := xb1 hf
    refine xc_Si (rest := [.int (1 : Int32), .int v9, .ref q1, .int v8]) ⟨hx, hb, hml, hown, hts⟩ (m_L_up l B0 G h2 (p2 >>> ((10 : Int32) &&& (31 : Int32))) (9 : Int32) v10 ev10) (va_cwS 2 hts gL_isStep_L_up rfl rfl rfl (by decide +kernel) ⟨Nat.le_of_ble_eq_true rfl, Nat.le_of_ble_eq_true rfl⟩) hKK hP hS rfl hl.1 rfl (Nat.le_of_ble_eq_true rfl) dL_isStep_92 ⟨Nat.zero_le _, Nat.zero_le _⟩ (fun H locs hP hS => ?_)
    refine lv_iadd hx hb dL_isStep_95 ?_
    refine lv_iload_n hx hb dL_isStep_96 rfl (lv_at hl 2 rfl) ?_
    refine lv_bipush (v := (14 : Int32)) hx hb dL_isStep_97 (by decide) ?_
    refine lv_ishr hx hb dL_isStep_99 ?_
    refine lv_iconst (v := (4 : Int32)) hx hb dL_isStep_100 (by decide) ?_
    obtain ⟨v11, ev11, hf⟩ := xb1 hf
    refine xc_Si (rest := [.int ((1 : Int32) + v10), .int v9, .ref q1, .int v8]) ⟨hx, hb, hml, hown, hts⟩ (m_L_up l B0 G h2 (p2 >>> ((14 : Int32) &&& (31 : Int32))) (4 : Int32) v11 ev11) (va_cwS 2 hts gL_isStep_L_up rfl rfl rfl (by decide +kernel) ⟨Nat.le_of_ble_eq_true rfl, Nat.le_of_ble_eq_true rfl⟩) hKK hP hS rfl hl.1 rfl (Nat.le_of_ble_eq_true rfl) dL_isStep_101 ⟨Nat.zero_le _, Nat.zero_le _⟩ (fun H locs hP hS => ?_)
    obtain ⟨v12, ev12, hf⟩ := xb hf
    obtain ⟨v13, h3, ev13, hf⟩ := xb2 hf
    have ev13 := xinl_spec ev13
    refine xc_Vi (rest := [.int v8]) ⟨hx, hb, hml, hown, hts⟩ (m_X5_setWays l B0 G fu h2 h3 q1 v9 ((1 : Int32) + v10) v11 v13 ev13) (cwV 3 hts gL_isStep_X5_setWays rfl rfl rfl (by decide +kernel) ⟨Nat.le_of_ble_eq_true rfl, Nat.le_of_ble_eq_true rfl⟩) hKK hP hS ev12 rfl rfl hl.1 rfl (Nat.le_of_ble_eq_true rfl) dL_isStep_104 ⟨Nat.zero_le _, Nat.zero_le _⟩ (fun H locs hP hS => ?_)
    obtain ⟨v14, ej1, hf⟩ := xb1 hf
    have J1 : ∀ (H : Heap) (locs : List Loc) (ls : Array Slot), xP B0 G h3 H → va_S (xA B0) s.heap H locs → lv_has ls 6 [] → W p l e rmL_isStep s m args below meth c H locs 0 0 Q (F0 m 115 ls [.int v14]) := by
      intro H locs ls hP hS hl
      clear ej1
      obtain ⟨v15, ev15, hf⟩ := xb hf
      obtain ⟨rfl, rfl⟩ := xinj2 hf
      subst hQ
      exact xe_z hx hb hr hlocks hKK hP hS ev15 dL_isStep_115
    have hf := ej1
    clear ej1
    refine lv_icmp_ne (tgt := 114) hx hb dL_isStep_107 (by decide) (fun c3 => ?_) (fun c3 => ?_)
    · have hf := xif_f hf c3
      refine lv_iconst (v := (0 : Int32)) hx hb dL_isStep_114 (by decide) ?_
      obtain rfl := Option.some.inj hf
      exact J1 _ _ _ hP hS (lv_sub hl [] rfl)
    · have hf := xif_t hf c3
      refine lv_iconst (v := (1 : Int32)) hx hb dL_isStep_110 (by decide) ?_
      refine lv_goto (tgt := 115) hx hb dL_isStep_111 (by decide) ?_
      obtain rfl := Option.some.inj hf
      exact J1 _ _ _ hP hS (lv_sub hl [] rfl)
  have hf := xif_f hf c2
  by_cases c4 : v1 = (2 : Int32)
  · have hf := xif_t hf c4
    refine lv_tableIn (off := 110) (tgt := 116) hx hb dL_isStep_6 (by rw [c4]; decide) (by rw [c4]; decide) (by rw [c4]; rfl) (by decide) ?_
    refine lv_aload_n hx hb dL_isStep_116 rfl (lv_at hl 0 rfl) ?_
    refine lv_bipush (v := (8 : Int32)) hx hb dL_isStep_117 (by decide) ?_
    obtain ⟨v16, ev16, hf⟩ := xb hf
    obtain ⟨v17, ev17, hf⟩ := xb1 hf
    have ev17 := xinl_spec ev17
    refine xc_Vi (rest := []) ⟨hx, hb, hml, hown, hts⟩ (m_X5_setting l B0 G h q0 (8 : Int32) v17 ev17) (cwV 1 hts gL_isStep_X5_setting rfl rfl rfl (by decide +kernel) ⟨Nat.le_of_ble_eq_true rfl, Nat.le_of_ble_eq_true rfl⟩) hKK hP hS ev16 rfl rfl hl.1 rfl (Nat.le_of_ble_eq_true rfl) dL_isStep_119 ⟨Nat.zero_le _, Nat.zero_le _⟩ (fun H locs hP hS => ?_)
    refine lv_bipush (v := (80 : Int32)) hx hb dL_isStep_122 (by decide) ?_
    obtain ⟨v18, h4, ej2, hf⟩ := xb2 hf
    have J2 : ∀ (H : Heap) (locs : List Loc) (ls : Array Slot), xP B0 G h4 H → va_S (xA B0) s.heap H locs → lv_has ls 6 [] → W p l e rmL_isStep s m args below meth c H locs 0 0 Q (F0 m 219 ls [.int v18]) := by
      intro H locs ls hP hS hl
      clear ej2
      obtain ⟨v31, ev31, hf⟩ := xb hf
      obtain ⟨rfl, rfl⟩ := xinj2 hf
      subst hQ
      exact xe_z hx hb hr hlocks hKK hP hS ev31 dL_isStep_219
    have hf := ej2
    clear ej2
    obtain ⟨k3, ek3, hf⟩ := xlk hf
    have J3 : ∀ (h5 : XH), k3 h5 = some (v18, h4) → ∀ (H : Heap) (locs : List Loc) (ls : Array Slot), xP B0 G h5 H → va_S (xA B0) s.heap H locs → lv_has ls 6 [] → W p l e rmL_isStep s m args below meth c H locs 0 0 Q (F0 m 214 ls []) := by
      intro h5 hf H locs ls hP hS hl
      have hf := xk1 ek3 hf
      clear ek3
      refine lv_iconst (v := (1 : Int32)) hx hb dL_isStep_214 (by decide) ?_
      refine lv_goto (tgt := 219) hx hb dL_isStep_215 (by decide) ?_
      obtain ⟨rfl, rfl⟩ := xinj2 hf
      exact J2 _ _ _ hP hS (lv_sub hl [] rfl)
    clear ek3
    refine lv_icmp_gt (tgt := 214) hx hb dL_isStep_124 (by decide) (fun c5 => ?_) (fun c5 => ?_)
    · have hf := xif_t hf c5
      exact J3 _ hf _ _ _ hP hS (lv_sub hl [] rfl)
    · have hf := xif_f hf c5
      refine lv_aload_n hx hb dL_isStep_127 rfl (lv_at hl 0 rfl) ?_
      refine lv_iload_n hx hb dL_isStep_128 rfl (lv_at hl 2 rfl) ?_
      refine lv_iconst (v := (3 : Int32)) hx hb dL_isStep_129 (by decide) ?_
      refine lv_ishr hx hb dL_isStep_130 ?_
      refine lv_ldc (v := (1000000 : Int32)) hx hb hown w1 dL_isStep_131 ?_
      obtain ⟨v19, ev19, hf⟩ := xb1 hf
      refine xc_Si (rest := [.ref q0]) ⟨hx, hb, hml, hown, hts⟩ (m_L_up l B0 G h (p2 >>> ((3 : Int32) &&& (31 : Int32))) (1000000 : Int32) v19 ev19) (va_cwS 2 hts gL_isStep_L_up rfl rfl rfl (by decide +kernel) ⟨Nat.le_of_ble_eq_true rfl, Nat.le_of_ble_eq_true rfl⟩) hKK hP hS rfl hl.1 rfl (Nat.le_of_ble_eq_true rfl) dL_isStep_133 ⟨Nat.zero_le _, Nat.zero_le _⟩ (fun H locs hP hS => ?_)
      refine lv_iconst (v := (1 : Int32)) hx hb dL_isStep_136 (by decide) ?_
      refine lv_iload_n hx hb dL_isStep_137 rfl (lv_at hl 2 rfl) ?_
      refine lv_iconst (v := (4 : Int32)) hx hb dL_isStep_138 (by decide) ?_
      refine lv_ishr hx hb dL_isStep_139 ?_
      refine lv_bipush (v := (20 : Int32)) hx hb dL_isStep_140 (by decide) ?_
      obtain ⟨v20, ev20, hf⟩ := xb1 hf
      refine xc_Si (rest := [.int (1 : Int32), .int v19, .ref q0]) ⟨hx, hb, hml, hown, hts⟩ (m_L_up l B0 G h (p2 >>> ((4 : Int32) &&& (31 : Int32))) (20 : Int32) v20 ev20) (va_cwS 2 hts gL_isStep_L_up rfl rfl rfl (by decide +kernel) ⟨Nat.le_of_ble_eq_true rfl, Nat.le_of_ble_eq_true rfl⟩) hKK hP hS rfl hl.1 rfl (Nat.le_of_ble_eq_true rfl) dL_isStep_142 ⟨Nat.zero_le _, Nat.zero_le _⟩ (fun H locs hP hS => ?_)
      refine lv_iadd hx hb dL_isStep_145 ?_
      refine lv_iload_n hx hb dL_isStep_146 rfl (lv_at hl 2 rfl) ?_
      refine lv_bipush (v := (8 : Int32)) hx hb dL_isStep_147 (by decide) ?_
      refine lv_ishr hx hb dL_isStep_149 ?_
      refine lv_bipush (v := (101 : Int32)) hx hb dL_isStep_150 (by decide) ?_
      obtain ⟨v21, ev21, hf⟩ := xb1 hf
      refine xc_Si (rest := [.int ((1 : Int32) + v20), .int v19, .ref q0]) ⟨hx, hb, hml, hown, hts⟩ (m_L_up l B0 G h (p2 >>> ((8 : Int32) &&& (31 : Int32))) (101 : Int32) v21 ev21) (va_cwS 2 hts gL_isStep_L_up rfl rfl rfl (by decide +kernel) ⟨Nat.le_of_ble_eq_true rfl, Nat.le_of_ble_eq_true rfl⟩) hKK hP hS rfl hl.1 rfl (Nat.le_of_ble_eq_true rfl) dL_isStep_152 ⟨Nat.zero_le _, Nat.zero_le _⟩ (fun H locs hP hS => ?_)
      refine lv_iconst (v := (1 : Int32)) hx hb dL_isStep_155 (by decide) ?_
      refine lv_iload_n hx hb dL_isStep_156 rfl (lv_at hl 2 rfl) ?_
      refine lv_bipush (v := (9 : Int32)) hx hb dL_isStep_157 (by decide) ?_
      refine lv_ishr hx hb dL_isStep_159 ?_
      refine lv_bipush (v := (80 : Int32)) hx hb dL_isStep_160 (by decide) ?_
      obtain ⟨v22, ev22, hf⟩ := xb1 hf
      refine xc_Si (rest := [.int (1 : Int32), .int v21, .int ((1 : Int32) + v20), .int v19, .ref q0]) ⟨hx, hb, hml, hown, hts⟩ (m_L_up l B0 G h (p2 >>> ((9 : Int32) &&& (31 : Int32))) (80 : Int32) v22 ev22) (va_cwS 2 hts gL_isStep_L_up rfl rfl rfl (by decide +kernel) ⟨Nat.le_of_ble_eq_true rfl, Nat.le_of_ble_eq_true rfl⟩) hKK hP hS rfl hl.1 rfl (Nat.le_of_ble_eq_true rfl) dL_isStep_162 ⟨Nat.zero_le _, Nat.zero_le _⟩ (fun H locs hP hS => ?_)
      refine lv_iadd hx hb dL_isStep_165 ?_
      obtain ⟨v23, ev23, hf⟩ := xb hf
      obtain ⟨v24, h6, ev24, hf⟩ := xb2 hf
      have ev24 := xinl_spec ev24
      refine xc_Vi (rest := []) ⟨hx, hb, hml, hown, hts⟩ (m_X5_addRandomRain l B0 G fu h h6 q0 v19 ((1 : Int32) + v20) v21 ((1 : Int32) + v22) v24 ev24) (cwV 4 hts gL_isStep_X5_addRandomRain rfl rfl rfl (by decide +kernel) ⟨Nat.le_of_ble_eq_true rfl, Nat.le_of_ble_eq_true rfl⟩) hKK hP hS ev23 rfl rfl hl.1 rfl (Nat.le_of_ble_eq_true rfl) dL_isStep_166 ⟨Nat.zero_le _, Nat.zero_le _⟩ (fun H locs hP hS => ?_)
      refine lv_aload_n hx hb dL_isStep_169 rfl (lv_at hl 1 rfl) ?_
      refine lv_iload_n hx hb dL_isStep_170 rfl (lv_at hl 2 rfl) ?_
      refine lv_iconst (v := (3 : Int32)) hx hb dL_isStep_171 (by decide) ?_
      refine lv_ishr hx hb dL_isStep_172 ?_
      refine lv_ldc (v := (1000000 : Int32)) hx hb hown w1 dL_isStep_173 ?_
      obtain ⟨v25, ev25, hf⟩ := xb1 hf
      refine xc_Si (rest := [.ref q1, .int v24]) ⟨hx, hb, hml, hown, hts⟩ (m_L_up l B0 G h6 (p2 >>> ((3 : Int32) &&& (31 : Int32))) (1000000 : Int32) v25 ev25) (va_cwS 2 hts gL_isStep_L_up rfl rfl rfl (by decide +kernel) ⟨Nat.le_of_ble_eq_true rfl, Nat.le_of_ble_eq_true rfl⟩) hKK hP hS rfl hl.1 rfl (Nat.le_of_ble_eq_true rfl) dL_isStep_175 ⟨Nat.zero_le _, Nat.zero_le _⟩ (fun H locs hP hS => ?_)
      refine lv_iconst (v := (1 : Int32)) hx hb dL_isStep_178 (by decide) ?_
      refine lv_iload_n hx hb dL_isStep_179 rfl (lv_at hl 2 rfl) ?_
      refine lv_iconst (v := (4 : Int32)) hx hb dL_isStep_180 (by decide) ?_
      refine lv_ishr hx hb dL_isStep_181 ?_
      refine lv_bipush (v := (20 : Int32)) hx hb dL_isStep_182 (by decide) ?_
      obtain ⟨v26, ev26, hf⟩ := xb1 hf
      refine xc_Si (rest := [.int (1 : Int32), .int v25, .ref q1, .int v24]) ⟨hx, hb, hml, hown, hts⟩ (m_L_up l B0 G h6 (p2 >>> ((4 : Int32) &&& (31 : Int32))) (20 : Int32) v26 ev26) (va_cwS 2 hts gL_isStep_L_up rfl rfl rfl (by decide +kernel) ⟨Nat.le_of_ble_eq_true rfl, Nat.le_of_ble_eq_true rfl⟩) hKK hP hS rfl hl.1 rfl (Nat.le_of_ble_eq_true rfl) dL_isStep_184 ⟨Nat.zero_le _, Nat.zero_le _⟩ (fun H locs hP hS => ?_)
      refine lv_iadd hx hb dL_isStep_187 ?_
      refine lv_iload_n hx hb dL_isStep_188 rfl (lv_at hl 2 rfl) ?_
      refine lv_bipush (v := (8 : Int32)) hx hb dL_isStep_189 (by decide) ?_
      refine lv_ishr hx hb dL_isStep_191 ?_
      refine lv_bipush (v := (101 : Int32)) hx hb dL_isStep_192 (by decide) ?_
      obtain ⟨v27, ev27, hf⟩ := xb1 hf
      refine xc_Si (rest := [.int ((1 : Int32) + v26), .int v25, .ref q1, .int v24]) ⟨hx, hb, hml, hown, hts⟩ (m_L_up l B0 G h6 (p2 >>> ((8 : Int32) &&& (31 : Int32))) (101 : Int32) v27 ev27) (va_cwS 2 hts gL_isStep_L_up rfl rfl rfl (by decide +kernel) ⟨Nat.le_of_ble_eq_true rfl, Nat.le_of_ble_eq_true rfl⟩) hKK hP hS rfl hl.1 rfl (Nat.le_of_ble_eq_true rfl) dL_isStep_194 ⟨Nat.zero_le _, Nat.zero_le _⟩ (fun H locs hP hS => ?_)
      refine lv_iconst (v := (1 : Int32)) hx hb dL_isStep_197 (by decide) ?_
      refine lv_iload_n hx hb dL_isStep_198 rfl (lv_at hl 2 rfl) ?_
      refine lv_bipush (v := (9 : Int32)) hx hb dL_isStep_199 (by decide) ?_
      refine lv_ishr hx hb dL_isStep_201 ?_
      refine lv_bipush (v := (80 : Int32)) hx hb dL_isStep_202 (by decide) ?_
      obtain ⟨v28, ev28, hf⟩ := xb1 hf
      refine xc_Si (rest := [.int (1 : Int32), .int v27, .int ((1 : Int32) + v26), .int v25, .ref q1, .int v24]) ⟨hx, hb, hml, hown, hts⟩ (m_L_up l B0 G h6 (p2 >>> ((9 : Int32) &&& (31 : Int32))) (80 : Int32) v28 ev28) (va_cwS 2 hts gL_isStep_L_up rfl rfl rfl (by decide +kernel) ⟨Nat.le_of_ble_eq_true rfl, Nat.le_of_ble_eq_true rfl⟩) hKK hP hS rfl hl.1 rfl (Nat.le_of_ble_eq_true rfl) dL_isStep_204 ⟨Nat.zero_le _, Nat.zero_le _⟩ (fun H locs hP hS => ?_)
      refine lv_iadd hx hb dL_isStep_207 ?_
      obtain ⟨v29, ev29, hf⟩ := xb hf
      obtain ⟨v30, h7, ev30, hf⟩ := xb2 hf
      have ev30 := xinl_spec ev30
      refine xc_Vi (rest := [.int v24]) ⟨hx, hb, hml, hown, hts⟩ (m_X5_addRandomRain l B0 G fu h6 h7 q1 v25 ((1 : Int32) + v26) v27 ((1 : Int32) + v28) v30 ev30) (cwV 4 hts gL_isStep_X5_addRandomRain rfl rfl rfl (by decide +kernel) ⟨Nat.le_of_ble_eq_true rfl, Nat.le_of_ble_eq_true rfl⟩) hKK hP hS ev29 rfl rfl hl.1 rfl (Nat.le_of_ble_eq_true rfl) dL_isStep_208 ⟨Nat.zero_le _, Nat.zero_le _⟩ (fun H locs hP hS => ?_)
      refine lv_icmp_ne (tgt := 218) hx hb dL_isStep_211 (by decide) (fun c6 => ?_) (fun c6 => ?_)
      · have hf := xif_f hf c6
        refine lv_iconst (v := (0 : Int32)) hx hb dL_isStep_218 (by decide) ?_
        obtain ⟨rfl, rfl⟩ := xinj2 hf
        exact J2 _ _ _ hP hS (lv_sub hl [] rfl)
      · have hf := xif_t hf c6
        exact J3 _ hf _ _ _ hP hS (lv_sub hl [] rfl)
  have hf := xif_f hf c4
  by_cases c7 : v1 = (3 : Int32)
  · have hf := xif_t hf c7
    refine lv_tableIn (off := 214) (tgt := 220) hx hb dL_isStep_6 (by rw [c7]; decide) (by rw [c7]; decide) (by rw [c7]; rfl) (by decide) ?_
    refine lv_iload_n hx hb dL_isStep_220 rfl (lv_at hl 2 rfl) ?_
    refine lv_iconst (v := (3 : Int32)) hx hb dL_isStep_221 (by decide) ?_
    refine lv_ishr hx hb dL_isStep_222 ?_
    refine lv_iconst (v := (4 : Int32)) hx hb dL_isStep_223 (by decide) ?_
    obtain ⟨v32, ev32, hf⟩ := xb1 hf
    refine xc_Si (rest := []) ⟨hx, hb, hml, hown, hts⟩ (m_L_up l B0 G h (p2 >>> ((3 : Int32) &&& (31 : Int32))) (4 : Int32) v32 ev32) (va_cwS 2 hts gL_isStep_L_up rfl rfl rfl (by decide +kernel) ⟨Nat.le_of_ble_eq_true rfl, Nat.le_of_ble_eq_true rfl⟩) hKK hP hS rfl hl.1 rfl (Nat.le_of_ble_eq_true rfl) dL_isStep_224 ⟨Nat.zero_le _, Nat.zero_le _⟩ (fun H locs hP hS => ?_)
    obtain ⟨v33, h8, ej4, hf⟩ := xb2 hf
    have J4 : ∀ (H : Heap) (locs : List Loc) (ls : Array Slot), xP B0 G h8 H → va_S (xA B0) s.heap H locs → lv_has ls 6 [] → W p l e rmL_isStep s m args below meth c H locs 0 0 Q (F0 m 246 ls [.int v33]) := by
      intro H locs ls hP hS hl
      clear ej4
      obtain ⟨v38, ev38, hf⟩ := xb hf
      obtain ⟨rfl, rfl⟩ := xinj2 hf
      subst hQ
      exact xe_z hx hb hr hlocks hKK hP hS ev38 dL_isStep_246
    have hf := ej4
    clear ej4
    obtain ⟨k5, ek5, hf⟩ := xlk hf
    have J5 : ∀ (h9 : XH), k5 h9 = some (v33, h8) → ∀ (H : Heap) (locs : List Loc) (ls : Array Slot), xP B0 G h9 H → va_S (xA B0) s.heap H locs → lv_has ls 6 [] → W p l e rmL_isStep s m args below meth c H locs 0 0 Q (F0 m 241 ls []) := by
      intro h9 hf H locs ls hP hS hl
      have hf := xk1 ek5 hf
      clear ek5
      refine lv_iconst (v := (1 : Int32)) hx hb dL_isStep_241 (by decide) ?_
      refine lv_goto (tgt := 246) hx hb dL_isStep_242 (by decide) ?_
      obtain ⟨rfl, rfl⟩ := xinj2 hf
      exact J4 _ _ _ hP hS (lv_sub hl [] rfl)
    clear ek5
    refine lv_if_gt (tgt := 241) hx hb dL_isStep_227 (by decide) (fun c8 => ?_) (fun c8 => ?_)
    · have hf := xif_t hf c8
      exact J5 _ hf _ _ _ hP hS (lv_sub hl [] rfl)
    · have hf := xif_f hf c8
      refine lv_aload_n hx hb dL_isStep_230 rfl (lv_at hl 0 rfl) ?_
      obtain ⟨v34, ev34, hf⟩ := xb hf
      obtain ⟨v35, h10, ev35, hf⟩ := xb2 hf
      refine xc_Vi (rest := []) ⟨hx, hb, hml, hown, hts⟩ (m_X5_restart l B0 G fu h h10 q0 v35 ev35) (cwV 0 hts gL_isStep_X5_restart rfl rfl rfl (by decide +kernel) ⟨Nat.le_of_ble_eq_true rfl, Nat.le_of_ble_eq_true rfl⟩) hKK hP hS ev34 rfl rfl hl.1 rfl (Nat.le_of_ble_eq_true rfl) dL_isStep_231 ⟨Nat.zero_le _, Nat.zero_le _⟩ (fun H locs hP hS => ?_)
      refine lv_aload_n hx hb dL_isStep_234 rfl (lv_at hl 1 rfl) ?_
      obtain ⟨v36, ev36, hf⟩ := xb hf
      obtain ⟨v37, h11, ev37, hf⟩ := xb2 hf
      refine xc_Vi (rest := [.int v35]) ⟨hx, hb, hml, hown, hts⟩ (m_X5_restart l B0 G fu h10 h11 q1 v37 ev37) (cwV 0 hts gL_isStep_X5_restart rfl rfl rfl (by decide +kernel) ⟨Nat.le_of_ble_eq_true rfl, Nat.le_of_ble_eq_true rfl⟩) hKK hP hS ev36 rfl rfl hl.1 rfl (Nat.le_of_ble_eq_true rfl) dL_isStep_235 ⟨Nat.zero_le _, Nat.zero_le _⟩ (fun H locs hP hS => ?_)
      refine lv_icmp_ne (tgt := 245) hx hb dL_isStep_238 (by decide) (fun c9 => ?_) (fun c9 => ?_)
      · have hf := xif_f hf c9
        refine lv_iconst (v := (0 : Int32)) hx hb dL_isStep_245 (by decide) ?_
        obtain ⟨rfl, rfl⟩ := xinj2 hf
        exact J4 _ _ _ hP hS (lv_sub hl [] rfl)
      · have hf := xif_t hf c9
        exact J5 _ hf _ _ _ hP hS (lv_sub hl [] rfl)
  have hf := xif_f hf c7
  have nc1 : v1.toInt ≠ 0 := fun q => c1 (Int32.toInt_inj.mp (q.trans (by decide)))
  have nc2 : v1.toInt ≠ 1 := fun q => c2 (Int32.toInt_inj.mp (q.trans (by decide)))
  have nc4 : v1.toInt ≠ 2 := fun q => c4 (Int32.toInt_inj.mp (q.trans (by decide)))
  have nc7 : v1.toInt ≠ 3 := fun q => c7 (Int32.toInt_inj.mp (q.trans (by decide)))
  refine lv_tableOut (tgt := 247) hx hb dL_isStep_6 (by omega) (by decide) ?_
  refine lv_aload_n hx hb dL_isStep_247 rfl (lv_at hl 0 rfl) ?_
  refine lv_bipush (v := (8 : Int32)) hx hb dL_isStep_248 (by decide) ?_
  obtain ⟨v39, ev39, hf⟩ := xb hf
  obtain ⟨v40, ev40, hf⟩ := xb1 hf
  have ev40 := xinl_spec ev40
  refine xc_Vi (rest := []) ⟨hx, hb, hml, hown, hts⟩ (m_X5_setting l B0 G h q0 (8 : Int32) v40 ev40) (cwV 1 hts gL_isStep_X5_setting rfl rfl rfl (by decide +kernel) ⟨Nat.le_of_ble_eq_true rfl, Nat.le_of_ble_eq_true rfl⟩) hKK hP hS ev39 rfl rfl hl.1 rfl (Nat.le_of_ble_eq_true rfl) dL_isStep_250 ⟨Nat.zero_le _, Nat.zero_le _⟩ (fun H locs hP hS => ?_)
  refine lv_aload_n hx hb dL_isStep_253 rfl (lv_at hl 0 rfl) ?_
  refine lv_bipush (v := (9 : Int32)) hx hb dL_isStep_254 (by decide) ?_
  obtain ⟨v41, ev41, hf⟩ := xb hf
  obtain ⟨v42, ev42, hf⟩ := xb1 hf
  have ev42 := xinl_spec ev42
  refine xc_Vi (rest := [.int v40]) ⟨hx, hb, hml, hown, hts⟩ (m_X5_setting l B0 G h q0 (9 : Int32) v42 ev42) (cwV 1 hts gL_isStep_X5_setting rfl rfl rfl (by decide +kernel) ⟨Nat.le_of_ble_eq_true rfl, Nat.le_of_ble_eq_true rfl⟩) hKK hP hS ev41 rfl rfl hl.1 rfl (Nat.le_of_ble_eq_true rfl) dL_isStep_256 ⟨Nat.zero_le _, Nat.zero_le _⟩ (fun H locs hP hS => ?_)
  refine lv_isub hx hb dL_isStep_259 ?_
  obtain ⟨v43, ev43, hf⟩ := xl hf
  refine xtopi ev43 ?_
  refine lv_istore_n (lv' := [(3, .int v43), (0, .ref q0), (1, .ref q1), (2, .int p2)]) hx hb dL_isStep_260 rfl hl (by decide) rfl (fun ls hl => ?_)
  refine lv_iload_n hx hb dL_isStep_261 rfl (lv_at hl 0 rfl) ?_
  obtain ⟨v44, ej6, hf⟩ := xb1 hf
  have J6 : ∀ (H : Heap) (locs : List Loc) (ls : Array Slot), xP B0 G h H → va_S (xA B0) s.heap H locs → lv_has ls 6 [(0, .ref q0), (1, .ref q1), (2, .int p2)] → W p l e rmL_isStep s m args below meth c H locs 0 0 Q (F0 m 278 ls [.int v44]) := by
    intro H locs ls hP hS hl
    clear ej6
    refine lv_istore (lv' := [(4, .int v44), (0, .ref q0), (1, .ref q1), (2, .int p2)]) hx hb dL_isStep_278 hl (by decide) rfl (fun ls hl => ?_)
    refine lv_iload hx hb dL_isStep_280 (lv_at hl 0 rfl) ?_
    obtain ⟨v46, ej7, hf⟩ := xb1 hf
    have J7 : ∀ (H : Heap) (locs : List Loc) (ls : Array Slot), xP B0 G h H → va_S (xA B0) s.heap H locs → lv_has ls 6 [(4, .int v44), (0, .ref q0), (1, .ref q1)] → W p l e rmL_isStep s m args below meth c H locs 0 0 Q (F0 m 298 ls [.int v46]) := by
      intro H locs ls hP hS hl
      clear ej7
      refine lv_istore (lv' := [(5, .int v46), (4, .int v44), (0, .ref q0), (1, .ref q1)]) hx hb dL_isStep_298 hl (by decide) rfl (fun ls hl => ?_)
      refine lv_aload_n hx hb dL_isStep_300 rfl (lv_at hl 2 rfl) ?_
      refine lv_iload hx hb dL_isStep_301 (lv_at hl 1 rfl) ?_
      obtain ⟨v48, ev48, hf⟩ := xb hf
      obtain ⟨v49, h12, ev49, hf⟩ := xb2 hf
      have ev49 := xinl_spec ev49
      refine xc_Vi (rest := []) ⟨hx, hb, hml, hown, hts⟩ (m_X5_run l B0 G fu h h12 q0 v44 v49 ev49) (cwV 1 hts gL_isStep_X5_run rfl rfl rfl (by decide +kernel) ⟨Nat.le_of_ble_eq_true rfl, Nat.le_of_ble_eq_true rfl⟩) hKK hP hS ev48 rfl rfl hl.1 rfl (Nat.le_of_ble_eq_true rfl) dL_isStep_303 ⟨Nat.zero_le _, Nat.zero_le _⟩ (fun H locs hP hS => ?_)
      refine lv_aload_n hx hb dL_isStep_306 rfl (lv_at hl 3 rfl) ?_
      refine lv_iload hx hb dL_isStep_307 (lv_at hl 0 rfl) ?_
      obtain ⟨v50, ev50, hf⟩ := xb hf
      obtain ⟨v51, h13, ev51, hf⟩ := xb2 hf
      have ev51 := xinl_spec ev51
      refine xc_Vi (rest := [.int v49]) ⟨hx, hb, hml, hown, hts⟩ (m_X5_run l B0 G fu h12 h13 q1 v46 v51 ev51) (cwV 1 hts gL_isStep_X5_run rfl rfl rfl (by decide +kernel) ⟨Nat.le_of_ble_eq_true rfl, Nat.le_of_ble_eq_true rfl⟩) hKK hP hS ev50 rfl rfl hl.1 rfl (Nat.le_of_ble_eq_true rfl) dL_isStep_309 ⟨Nat.zero_le _, Nat.zero_le _⟩ (fun H locs hP hS => ?_)
      refine lv_aload_n hx hb dL_isStep_312 rfl (lv_at hl 3 rfl) ?_
      refine lv_iload hx hb dL_isStep_313 (lv_at hl 1 rfl) ?_
      refine lv_iload hx hb dL_isStep_315 (lv_at hl 0 rfl) ?_
      refine lv_isub hx hb dL_isStep_317 ?_
      obtain ⟨v52, ev52, hf⟩ := xb hf
      obtain ⟨v53, h14, ev53, hf⟩ := xb2 hf
      have ev53 := xinl_spec ev53
      refine xc_Vi (rest := [.int v51, .int v49]) ⟨hx, hb, hml, hown, hts⟩ (m_X5_run l B0 G fu h13 h14 q1 (v44 - v46) v53 ev53) (cwV 1 hts gL_isStep_X5_run rfl rfl rfl (by decide +kernel) ⟨Nat.le_of_ble_eq_true rfl, Nat.le_of_ble_eq_true rfl⟩) hKK hP hS ev52 rfl rfl hl.1 rfl (Nat.le_of_ble_eq_true rfl) dL_isStep_318 ⟨Nat.zero_le _, Nat.zero_le _⟩ (fun H locs hP hS => ?_)
      refine lv_iadd hx hb dL_isStep_321 ?_
      obtain ⟨v54, ej8, hf⟩ := xb1 hf
      have J8 : ∀ (H : Heap) (locs : List Loc) (ls : Array Slot), xP B0 G h14 H → va_S (xA B0) s.heap H locs → lv_has ls 6 [] → W p l e rmL_isStep s m args below meth c H locs 0 0 Q (F0 m 330 ls [.int v54]) := by
        intro H locs ls hP hS hl
        clear ej8
        obtain ⟨v55, ev55, hf⟩ := xb hf
        obtain ⟨rfl, rfl⟩ := xinj2 hf
        subst hQ
        exact xe_z hx hb hr hlocks hKK hP hS ev55 dL_isStep_330
      have hf := ej8
      clear ej8
      refine lv_icmp_ne (tgt := 329) hx hb dL_isStep_322 (by decide) (fun c12 => ?_) (fun c12 => ?_)
      · have hf := xif_f hf c12
        refine lv_iconst (v := (0 : Int32)) hx hb dL_isStep_329 (by decide) ?_
        obtain rfl := Option.some.inj hf
        exact J8 _ _ _ hP hS (lv_sub hl [] rfl)
      · have hf := xif_t hf c12
        refine lv_iconst (v := (1 : Int32)) hx hb dL_isStep_325 (by decide) ?_
        refine lv_goto (tgt := 330) hx hb dL_isStep_326 (by decide) ?_
        obtain rfl := Option.some.inj hf
        exact J8 _ _ _ hP hS (lv_sub hl [] rfl)
    have hf := ej7
    clear ej7
    refine lv_if_ne (tgt := 289) hx hb dL_isStep_282 (by decide) (fun c11 => ?_) (fun c11 => ?_)
    · have hf := xif_f hf c11
      refine lv_iload_n hx hb dL_isStep_289 rfl (lv_at hl 3 rfl) ?_
      refine lv_bipush (v := (12 : Int32)) hx hb dL_isStep_290 (by decide) ?_
      refine lv_ishr hx hb dL_isStep_292 ?_
      refine lv_iload hx hb dL_isStep_293 (lv_at hl 0 rfl) ?_
      obtain ⟨v47, ev47, hf⟩ := xb1 hf
      refine xc_Si (rest := []) ⟨hx, hb, hml, hown, hts⟩ (m_L_up l B0 G h (p2 >>> ((12 : Int32) &&& (31 : Int32))) v44 v47 ev47) (va_cwS 2 hts gL_isStep_L_up rfl rfl rfl (by decide +kernel) ⟨Nat.le_of_ble_eq_true rfl, Nat.le_of_ble_eq_true rfl⟩) hKK hP hS rfl hl.1 rfl (Nat.le_of_ble_eq_true rfl) dL_isStep_295 ⟨Nat.zero_le _, Nat.zero_le _⟩ (fun H locs hP hS => ?_)
      obtain rfl := Option.some.inj hf
      exact J7 _ _ _ hP hS (lv_sub hl [0, 1, 2] rfl)
    · have hf := xif_t hf c11
      refine lv_iconst (v := (0 : Int32)) hx hb dL_isStep_285 (by decide) ?_
      refine lv_goto (tgt := 298) hx hb dL_isStep_286 (by decide) ?_
      obtain rfl := Option.some.inj hf
      exact J7 _ _ _ hP hS (lv_sub hl [0, 1, 2] rfl)
  have hf := ej6
  clear ej6
  refine lv_if_ne (tgt := 269) hx hb dL_isStep_262 (by decide) (fun c10 => ?_) (fun c10 => ?_)
  · have hf := xif_f hf c10
    refine lv_iload_n hx hb dL_isStep_269 rfl (lv_at hl 3 rfl) ?_
    refine lv_iconst (v := (3 : Int32)) hx hb dL_isStep_270 (by decide) ?_
    refine lv_ishr hx hb dL_isStep_271 ?_
    refine lv_iload_n hx hb dL_isStep_272 rfl (lv_at hl 0 rfl) ?_
    refine lv_iconst (v := (1 : Int32)) hx hb dL_isStep_273 (by decide) ?_
    refine lv_iadd hx hb dL_isStep_274 ?_
    obtain ⟨v45, ev45, hf⟩ := xb1 hf
    refine xc_Si (rest := []) ⟨hx, hb, hml, hown, hts⟩ (m_L_up l B0 G h (p2 >>> ((3 : Int32) &&& (31 : Int32))) (v43 + (1 : Int32)) v45 ev45) (va_cwS 2 hts gL_isStep_L_up rfl rfl rfl (by decide +kernel) ⟨Nat.le_of_ble_eq_true rfl, Nat.le_of_ble_eq_true rfl⟩) hKK hP hS rfl hl.1 rfl (Nat.le_of_ble_eq_true rfl) dL_isStep_275 ⟨Nat.zero_le _, Nat.zero_le _⟩ (fun H locs hP hS => ?_)
    obtain rfl := Option.some.inj hf
    exact J6 _ _ _ hP hS (lv_sub hl [1, 2, 3] rfl)
  · have hf := xif_t hf c10
    refine lv_iconst (v := (0 : Int32)) hx hb dL_isStep_265 (by decide) ?_
    refine lv_goto (tgt := 278) hx hb dL_isStep_266 (by decide) ?_
    obtain rfl := Option.some.inj hf
    exact J6 _ _ _ hP hS (lv_sub hl [1, 2, 3] rfl)
