/-- the law: areAlike -/
def f_L_areAlike (fu : Nat) (h : XH) (q0 : Nat) (q1 : Nat) : Option (Int32) :=
  obind1 (xloop (xf2 fun (v1 : Int32) (v2 : Int32) =>
    if (12 : Int32) ≤ v2 then
      some (.inr v1)
    else
      obind1 (
        oletk (
          some (0 : Int32)
        ) fun k3 =>
        if v1 = (0 : Int32) then
          k3
        else
          oletk (
            some (1 : Int32)
          ) fun k4 =>
          if v2 = (6 : Int32) then
            k4
          else
            (xis h q0 5).bind fun v5 =>
            obind1 (xinl (f_X5_setting h q0 v2)) fun v6 =>
            (xis h q1 5).bind fun v7 =>
            obind1 (xinl (f_X5_setting h q1 v2)) fun v8 =>
            if v6 = v8 then
              k4
            else
              k3
      ) fun v4 =>
      olet (v2 + (1 : Int32)) fun v9 =>
      some (.inl (v4, v9))
  ) fu ((1 : Int32), (0 : Int32))) fun v3 =>
  obind1 (xloop (xf2 fun (v10 : Int32) (v11 : Int32) =>
    if (10 : Int32) ≤ v11 then
      some (.inr v10)
    else
      obind1 (
        oletk (
          some (0 : Int32)
        ) fun k7 =>
        if v10 = (0 : Int32) then
          k7
        else
          (xis h q0 5).bind fun v14 =>
          obind1 (xinl (f_X5_sum fu h q0 v11)) fun v15 =>
          (xis h q1 5).bind fun v16 =>
          obind1 (xinl (f_X5_sum fu h q1 v11)) fun v17 =>
          if v15 = v17 then
            some (1 : Int32)
          else
            k7
      ) fun v13 =>
      olet (v11 + (1 : Int32)) fun v18 =>
      some (.inl (v13, v18))
  ) fu (v3, (1 : Int32))) fun v12 =>
  obind1 (xloop (xf2 fun (v19 : Int32) (v20 : Int32) =>
    (xis h q0 5).bind fun v22 =>
    obind1 (xinl (f_X5_setting h q0 (7 : Int32))) fun v23 =>
    if v23 ≤ v20 then
      some (.inr v19)
    else
      obind1 (
        oletk (
          some (0 : Int32)
        ) fun k10 =>
        if v19 = (0 : Int32) then
          k10
        else
          (xis h q0 5).bind fun v25 =>
          obind1 (xinl (f_X5_user h q0 v20 (2 : Int32))) fun v26 =>
          (xis h q1 5).bind fun v27 =>
          obind1 (xinl (f_X5_user h q1 v20 (2 : Int32))) fun v28 =>
          if v26 = v28 then
            (xis h q0 5).bind fun v29 =>
            obind1 (xinl (f_X5_user h q0 v20 (3 : Int32))) fun v30 =>
            (xis h q1 5).bind fun v31 =>
            obind1 (xinl (f_X5_user h q1 v20 (3 : Int32))) fun v32 =>
            if v30 = v32 then
              some (1 : Int32)
            else
              k10
          else
            k10
      ) fun v24 =>
      olet (v20 + (1 : Int32)) fun v33 =>
      some (.inl (v24, v33))
  ) fu (v12, (0 : Int32))) fun v21 =>
  obind1 (
    oletk (
      some (0 : Int32)
    ) fun k12 =>
    if v21 = (0 : Int32) then
      k12
    else
      (xis h q0 5).bind fun v35 =>
      obind1 (f_X5_reliability fu h q0) fun v36 =>
      (xis h q1 5).bind fun v37 =>
      obind1 (f_X5_reliability fu h q1) fun v38 =>
      if (xcmpl v36 v38) = (0 : Int32) then
        (xis h q0 5).bind fun v39 =>
        obind1 (f_X5_longestShortage fu h q0) fun v40 =>
        (xis h q1 5).bind fun v41 =>
        obind1 (f_X5_longestShortage fu h q1) fun v42 =>
        if v40 = v42 then
          some (1 : Int32)
        else
          k12
      else
        k12
  ) fun v34 =>
  (xbool v34).bind fun v43 =>
  some (v43)
abbrev rmL_areAlike : Room := { frames := 8, cells := 0, slots := 0, locals := 146 }
set_option maxHeartbeats 4000000 in
set_option maxRecDepth 100000 in
theorem m_L_areAlike (l : Launch) (B0 : Nat) (G : XG) (fu : Nat) (h : XH) (q0 : Nat) (q1 : Nat) (rE : Int32) (hf : f_L_areAlike fu h q0 q1 = some rE) : Met l yL_areAlike wsL_areAlike rmL_areAlike (va_Pc [.ref q0, .ref q1] (xU B0 G h)) (xQi B0 G h rE) 0 0 (xA B0) := by
  refine xMet (cc := cL_areAlike) (maxL := 4) (by decide) rfl (Nat.le_of_ble_eq_true rfl) ?_
  intro p e s m args below meth c ls hx hb hr hml hown hlocks hnm hts hKK hP hl
  have hown : s.vm.findClass RL = some m.cls := hown
  have hl : lv_has ls 4 [(0, .ref q0), (1, .ref q1)] := hl
  have hS : va_S (xA B0) s.heap s.heap [] := va_S.rf
  generalize hQ : MQ below (xQi B0 G h rE) args s 0 0 (xA B0) = Q
  unfold f_L_areAlike at hf
  refine lv_iconst (v := (1 : Int32)) hx hb dL_areAlike_0 (by decide) ?_
  refine lv_istore_n (lv' := [(2, .int (1 : Int32)), (0, .ref q0), (1, .ref q1)]) hx hb dL_areAlike_1 rfl hl (by decide) rfl (fun ls hl => ?_)
  refine lv_iconst (v := (0 : Int32)) hx hb dL_areAlike_2 (by decide) ?_
  refine lv_istore_n (lv' := [(3, .int (0 : Int32)), (2, .int (1 : Int32)), (0, .ref q0), (1, .ref q1)]) hx hb dL_areAlike_3 rfl hl (by decide) rfl (fun ls hl => ?_)
  obtain ⟨v3, eL, hf⟩ := xb1 hf
  have J1 : ∀ (H : Heap) (locs : List Loc) (ls : Array Slot), xP B0 G h H → va_S (xA B0) s.heap H locs → lv_has ls 4 [(2, .int v3), (0, .ref q0), (1, .ref q1)] → W p l e rmL_areAlike s m args below meth c H locs 0 0 Q (F0 m 45 ls []) := by
    intro H locs ls hP hS hl
    clear eL
    refine lv_iconst (v := (1 : Int32)) hx hb dL_areAlike_45 (by decide) ?_
    refine lv_istore_n (lv' := [(3, .int (1 : Int32)), (2, .int v3), (0, .ref q0), (1, .ref q1)]) hx hb dL_areAlike_46 rfl hl (by decide) rfl (fun ls hl => ?_)
    obtain ⟨v12, eL, hf⟩ := xb1 hf
    have J5 : ∀ (H : Heap) (locs : List Loc) (ls : Array Slot), xP B0 G h H → va_S (xA B0) s.heap H locs → lv_has ls 4 [(2, .int v12), (0, .ref q0), (1, .ref q1)] → W p l e rmL_areAlike s m args below meth c H locs 0 0 Q (F0 m 83 ls []) := by
      intro H locs ls hP hS hl
      clear eL
      refine lv_iconst (v := (0 : Int32)) hx hb dL_areAlike_83 (by decide) ?_
      refine lv_istore_n (lv' := [(3, .int (0 : Int32)), (2, .int v12), (0, .ref q0), (1, .ref q1)]) hx hb dL_areAlike_84 rfl hl (by decide) rfl (fun ls hl => ?_)
      obtain ⟨v21, eL, hf⟩ := xb1 hf
      have J8 : ∀ (H : Heap) (locs : List Loc) (ls : Array Slot), xP B0 G h H → va_S (xA B0) s.heap H locs → lv_has ls 4 [(2, .int v21), (0, .ref q0), (1, .ref q1)] → W p l e rmL_areAlike s m args below meth c H locs 0 0 Q (F0 m 141 ls []) := by
        intro H locs ls hP hS hl
        clear eL
        refine lv_iload_n hx hb dL_areAlike_141 rfl (lv_at hl 0 rfl) ?_
        obtain ⟨v34, ej11, hf⟩ := xb1 hf
        have J11 : ∀ (H : Heap) (locs : List Loc) (ls : Array Slot), xP B0 G h H → va_S (xA B0) s.heap H locs → lv_has ls 4 [] → W p l e rmL_areAlike s m args below meth c H locs 0 0 Q (F0 m 173 ls [.int v34]) := by
          intro H locs ls hP hS hl
          clear ej11
          obtain ⟨v43, ev43, hf⟩ := xb hf
          obtain rfl := Option.some.inj hf
          subst hQ
          exact xe_z hx hb hr hlocks hKK hP hS ev43 dL_areAlike_173
        have hf := ej11
        clear ej11
        obtain ⟨k12, ek12, hf⟩ := xlk hf
        have J12 : k12 = some v34 → ∀ (H : Heap) (locs : List Loc) (ls : Array Slot), xP B0 G h H → va_S (xA B0) s.heap H locs → lv_has ls 4 [] → W p l e rmL_areAlike s m args below meth c H locs 0 0 Q (F0 m 172 ls []) := by
          intro  hf H locs ls hP hS hl
          have hf := xk0 ek12 hf
          clear ek12
          refine lv_iconst (v := (0 : Int32)) hx hb dL_areAlike_172 (by decide) ?_
          obtain rfl := Option.some.inj hf
          exact J11 _ _ _ hP hS (lv_sub hl [] rfl)
        clear ek12
        refine lv_if_eq (tgt := 172) hx hb dL_areAlike_142 (by decide) (fun c12 => ?_) (fun c12 => ?_)
        · have hf := xif_t hf c12
          exact J12  hf _ _ _ hP hS (lv_sub hl [] rfl)
        · have hf := xif_f hf c12
          refine lv_aload_n hx hb dL_areAlike_145 rfl (lv_at hl 1 rfl) ?_
          obtain ⟨v35, ev35, hf⟩ := xb hf
          obtain ⟨v36, ev36, hf⟩ := xb1 hf
          refine xc_Vd (rest := []) ⟨hx, hb, hml, hown, hts⟩ (m_X5_reliability l B0 G fu h q0 v36 ev36) (cwV 0 hts gL_areAlike_X5_reliability rfl rfl rfl (by decide +kernel) ⟨Nat.le_of_ble_eq_true rfl, Nat.le_of_ble_eq_true rfl⟩) hKK hP hS ev35 rfl rfl hl.1 rfl (Nat.le_of_ble_eq_true rfl) dL_areAlike_146 ⟨Nat.zero_le _, Nat.zero_le _⟩ (fun H locs hP hS => ?_)
          refine lv_aload_n hx hb dL_areAlike_149 rfl (lv_at hl 2 rfl) ?_
          obtain ⟨v37, ev37, hf⟩ := xb hf
          obtain ⟨v38, ev38, hf⟩ := xb1 hf
          refine xc_Vd (rest := [.double v36]) ⟨hx, hb, hml, hown, hts⟩ (m_X5_reliability l B0 G fu h q1 v38 ev38) (cwV 0 hts gL_areAlike_X5_reliability rfl rfl rfl (by decide +kernel) ⟨Nat.le_of_ble_eq_true rfl, Nat.le_of_ble_eq_true rfl⟩) hKK hP hS ev37 rfl rfl hl.1 rfl (Nat.le_of_ble_eq_true rfl) dL_areAlike_150 ⟨Nat.zero_le _, Nat.zero_le _⟩ (fun H locs hP hS => ?_)
          refine lv_dcmp hx hb dL_areAlike_153 ?_
          refine lv_if_ne (tgt := 172) hx hb dL_areAlike_154 (by decide) (fun c13 => ?_) (fun c13 => ?_)
          · have hf := xif_f hf c13
            exact J12  hf _ _ _ hP hS (lv_sub hl [] rfl)
          · have hf := xif_t hf c13
            refine lv_aload_n hx hb dL_areAlike_157 rfl (lv_at hl 1 rfl) ?_
            obtain ⟨v39, ev39, hf⟩ := xb hf
            obtain ⟨v40, ev40, hf⟩ := xb1 hf
            refine xc_Vi (rest := []) ⟨hx, hb, hml, hown, hts⟩ (m_X5_longestShortage l B0 G fu h q0 v40 ev40) (cwV 0 hts gL_areAlike_X5_longestShortage rfl rfl rfl (by decide +kernel) ⟨Nat.le_of_ble_eq_true rfl, Nat.le_of_ble_eq_true rfl⟩) hKK hP hS ev39 rfl rfl hl.1 rfl (Nat.le_of_ble_eq_true rfl) dL_areAlike_158 ⟨Nat.zero_le _, Nat.zero_le _⟩ (fun H locs hP hS => ?_)
            refine lv_aload_n hx hb dL_areAlike_161 rfl (lv_at hl 2 rfl) ?_
            obtain ⟨v41, ev41, hf⟩ := xb hf
            obtain ⟨v42, ev42, hf⟩ := xb1 hf
            refine xc_Vi (rest := [.int v40]) ⟨hx, hb, hml, hown, hts⟩ (m_X5_longestShortage l B0 G fu h q1 v42 ev42) (cwV 0 hts gL_areAlike_X5_longestShortage rfl rfl rfl (by decide +kernel) ⟨Nat.le_of_ble_eq_true rfl, Nat.le_of_ble_eq_true rfl⟩) hKK hP hS ev41 rfl rfl hl.1 rfl (Nat.le_of_ble_eq_true rfl) dL_areAlike_162 ⟨Nat.zero_le _, Nat.zero_le _⟩ (fun H locs hP hS => ?_)
            refine lv_icmp_ne (tgt := 172) hx hb dL_areAlike_165 (by decide) (fun c14 => ?_) (fun c14 => ?_)
            · have hf := xif_f hf c14
              exact J12  hf _ _ _ hP hS (lv_sub hl [] rfl)
            · have hf := xif_t hf c14
              refine lv_iconst (v := (1 : Int32)) hx hb dL_areAlike_168 (by decide) ?_
              refine lv_goto (tgt := 173) hx hb dL_areAlike_169 (by decide) ?_
              obtain rfl := Option.some.inj hf
              exact J11 _ _ _ hP hS (lv_sub hl [] rfl)
      clear hf
      refine xloop_ind (P := fun z => ∀ (H : Heap) (locs : List Loc) (ls : Array Slot), xP B0 G h H → va_S (xA B0) s.heap H locs → lv_has ls 4 [(2, .int z.1), (3, .int z.2), (0, .ref q0), (1, .ref q1)] → W p l e rmL_areAlike s m args below meth c H locs 0 0 Q (F0 m 85 ls [])) ?_ eL _ _ _ hP hS (lv_sub hl [1, 0, 2, 3] rfl)
      rintro ⟨v19, v20⟩ o hf IH EX H locs ls hP hS hl
      have hf := xf2_e hf
      have hl : lv_has ls 4 [(2, .int v19), (3, .int v20), (0, .ref q0), (1, .ref q1)] := hl
      refine lv_iload_n hx hb dL_areAlike_85 rfl (lv_at hl 1 rfl) ?_
      refine lv_aload_n hx hb dL_areAlike_86 rfl (lv_at hl 2 rfl) ?_
      refine lv_bipush (v := (7 : Int32)) hx hb dL_areAlike_87 (by decide) ?_
      obtain ⟨v22, ev22, hf⟩ := xb hf
      obtain ⟨v23, ev23, hf⟩ := xb1 hf
      have ev23 := xinl_spec ev23
      refine xc_Vi (rest := [.int v20]) ⟨hx, hb, hml, hown, hts⟩ (m_X5_setting l B0 G h q0 (7 : Int32) v23 ev23) (cwV 1 hts gL_areAlike_X5_setting rfl rfl rfl (by decide +kernel) ⟨Nat.le_of_ble_eq_true rfl, Nat.le_of_ble_eq_true rfl⟩) hKK hP hS ev22 rfl rfl hl.1 rfl (Nat.le_of_ble_eq_true rfl) dL_areAlike_89 ⟨Nat.zero_le _, Nat.zero_le _⟩ (fun H locs hP hS => ?_)
      refine lv_icmp_ge (tgt := 141) hx hb dL_areAlike_92 (by decide) (fun c8 => ?_) (fun c8 => ?_)
      · have hf := xif_t hf c8
        have hf := EX _ (Option.some.inj hf).symm
        obtain rfl := hf
        exact J8 _ _ _ hP hS (lv_sub hl [0, 2, 3] rfl)
      · have hf := xif_f hf c8
        refine lv_iload_n hx hb dL_areAlike_95 rfl (lv_at hl 0 rfl) ?_
        obtain ⟨v24, ej9, hf⟩ := xb1 hf
        have J9 : ∀ (H : Heap) (locs : List Loc) (ls : Array Slot), xP B0 G h H → va_S (xA B0) s.heap H locs → lv_has ls 4 [(3, .int v20), (0, .ref q0), (1, .ref q1)] → W p l e rmL_areAlike s m args below meth c H locs 0 0 Q (F0 m 134 ls [.int v24]) := by
          intro H locs ls hP hS hl
          clear ej9
          refine lv_istore_n (lv' := [(2, .int v24), (3, .int v20), (0, .ref q0), (1, .ref q1)]) hx hb dL_areAlike_134 rfl hl (by decide) rfl (fun ls hl => ?_)
          obtain ⟨v33, ev33, hf⟩ := xl hf
          refine lv_iinc (v := v33) (lv' := [(3, .int v33), (2, .int v24), (0, .ref q0), (1, .ref q1)]) hx hb dL_areAlike_135 hl (k := 1) rfl (by rw [ev33]; rfl) (by decide) rfl (fun ls hl => ?_)
          refine lv_goto (tgt := 85) hx hb dL_areAlike_138 (by decide) ?_
          exact IH _ (Option.some.inj hf).symm _ _ _ hP hS (lv_sub hl [1, 0, 2, 3] rfl)
        have hf := ej9
        clear ej9
        obtain ⟨k10, ek10, hf⟩ := xlk hf
        have J10 : k10 = some v24 → ∀ (H : Heap) (locs : List Loc) (ls : Array Slot), xP B0 G h H → va_S (xA B0) s.heap H locs → lv_has ls 4 [(3, .int v20), (0, .ref q0), (1, .ref q1)] → W p l e rmL_areAlike s m args below meth c H locs 0 0 Q (F0 m 133 ls []) := by
          intro  hf H locs ls hP hS hl
          have hf := xk0 ek10 hf
          clear ek10
          refine lv_iconst (v := (0 : Int32)) hx hb dL_areAlike_133 (by decide) ?_
          obtain rfl := Option.some.inj hf
          exact J9 _ _ _ hP hS (lv_sub hl [0, 1, 2] rfl)
        clear ek10
        refine lv_if_eq (tgt := 133) hx hb dL_areAlike_96 (by decide) (fun c9 => ?_) (fun c9 => ?_)
        · have hf := xif_t hf c9
          exact J10  hf _ _ _ hP hS (lv_sub hl [1, 2, 3] rfl)
        · have hf := xif_f hf c9
          refine lv_aload_n hx hb dL_areAlike_99 rfl (lv_at hl 2 rfl) ?_
          refine lv_iload_n hx hb dL_areAlike_100 rfl (lv_at hl 1 rfl) ?_
          refine lv_iconst (v := (2 : Int32)) hx hb dL_areAlike_101 (by decide) ?_
          obtain ⟨v25, ev25, hf⟩ := xb hf
          obtain ⟨v26, ev26, hf⟩ := xb1 hf
          have ev26 := xinl_spec ev26
          refine xc_Vi (rest := []) ⟨hx, hb, hml, hown, hts⟩ (m_X5_user l B0 G h q0 v20 (2 : Int32) v26 ev26) (cwV 2 hts gL_areAlike_X5_user rfl rfl rfl (by decide +kernel) ⟨Nat.le_of_ble_eq_true rfl, Nat.le_of_ble_eq_true rfl⟩) hKK hP hS ev25 rfl rfl hl.1 rfl (Nat.le_of_ble_eq_true rfl) dL_areAlike_102 ⟨Nat.zero_le _, Nat.zero_le _⟩ (fun H locs hP hS => ?_)
          refine lv_aload_n hx hb dL_areAlike_105 rfl (lv_at hl 3 rfl) ?_
          refine lv_iload_n hx hb dL_areAlike_106 rfl (lv_at hl 1 rfl) ?_
          refine lv_iconst (v := (2 : Int32)) hx hb dL_areAlike_107 (by decide) ?_
          obtain ⟨v27, ev27, hf⟩ := xb hf
          obtain ⟨v28, ev28, hf⟩ := xb1 hf
          have ev28 := xinl_spec ev28
          refine xc_Vi (rest := [.int v26]) ⟨hx, hb, hml, hown, hts⟩ (m_X5_user l B0 G h q1 v20 (2 : Int32) v28 ev28) (cwV 2 hts gL_areAlike_X5_user rfl rfl rfl (by decide +kernel) ⟨Nat.le_of_ble_eq_true rfl, Nat.le_of_ble_eq_true rfl⟩) hKK hP hS ev27 rfl rfl hl.1 rfl (Nat.le_of_ble_eq_true rfl) dL_areAlike_108 ⟨Nat.zero_le _, Nat.zero_le _⟩ (fun H locs hP hS => ?_)
          refine lv_icmp_ne (tgt := 133) hx hb dL_areAlike_111 (by decide) (fun c10 => ?_) (fun c10 => ?_)
          · have hf := xif_f hf c10
            exact J10  hf _ _ _ hP hS (lv_sub hl [1, 2, 3] rfl)
          · have hf := xif_t hf c10
            refine lv_aload_n hx hb dL_areAlike_114 rfl (lv_at hl 2 rfl) ?_
            refine lv_iload_n hx hb dL_areAlike_115 rfl (lv_at hl 1 rfl) ?_
            refine lv_iconst (v := (3 : Int32)) hx hb dL_areAlike_116 (by decide) ?_
            obtain ⟨v29, ev29, hf⟩ := xb hf
            obtain ⟨v30, ev30, hf⟩ := xb1 hf
            have ev30 := xinl_spec ev30
            refine xc_Vi (rest := []) ⟨hx, hb, hml, hown, hts⟩ (m_X5_user l B0 G h q0 v20 (3 : Int32) v30 ev30) (cwV 2 hts gL_areAlike_X5_user rfl rfl rfl (by decide +kernel) ⟨Nat.le_of_ble_eq_true rfl, Nat.le_of_ble_eq_true rfl⟩) hKK hP hS ev29 rfl rfl hl.1 rfl (Nat.le_of_ble_eq_true rfl) dL_areAlike_117 ⟨Nat.zero_le _, Nat.zero_le _⟩ (fun H locs hP hS => ?_)
            refine lv_aload_n hx hb dL_areAlike_120 rfl (lv_at hl 3 rfl) ?_
            refine lv_iload_n hx hb dL_areAlike_121 rfl (lv_at hl 1 rfl) ?_
            refine lv_iconst (v := (3 : Int32)) hx hb dL_areAlike_122 (by decide) ?_
            obtain ⟨v31, ev31, hf⟩ := xb hf
            obtain ⟨v32, ev32, hf⟩ := xb1 hf
            have ev32 := xinl_spec ev32
            refine xc_Vi (rest := [.int v30]) ⟨hx, hb, hml, hown, hts⟩ (m_X5_user l B0 G h q1 v20 (3 : Int32) v32 ev32) (cwV 2 hts gL_areAlike_X5_user rfl rfl rfl (by decide +kernel) ⟨Nat.le_of_ble_eq_true rfl, Nat.le_of_ble_eq_true rfl⟩) hKK hP hS ev31 rfl rfl hl.1 rfl (Nat.le_of_ble_eq_true rfl) dL_areAlike_123 ⟨Nat.zero_le _, Nat.zero_le _⟩ (fun H locs hP hS => ?_)
            refine lv_icmp_ne (tgt := 133) hx hb dL_areAlike_126 (by decide) (fun c11 => ?_) (fun c11 => ?_)
            · have hf := xif_f hf c11
              exact J10  hf _ _ _ hP hS (lv_sub hl [1, 2, 3] rfl)
            · have hf := xif_t hf c11
              refine lv_iconst (v := (1 : Int32)) hx hb dL_areAlike_129 (by decide) ?_
              refine lv_goto (tgt := 134) hx hb dL_areAlike_130 (by decide) ?_
              obtain rfl := Option.some.inj hf
              exact J9 _ _ _ hP hS (lv_sub hl [1, 2, 3] rfl)
    clear hf
    refine xloop_ind (P := fun z => ∀ (H : Heap) (locs : List Loc) (ls : Array Slot), xP B0 G h H → va_S (xA B0) s.heap H locs → lv_has ls 4 [(2, .int z.1), (3, .int z.2), (0, .ref q0), (1, .ref q1)] → W p l e rmL_areAlike s m args below meth c H locs 0 0 Q (F0 m 47 ls [])) ?_ eL _ _ _ hP hS (lv_sub hl [1, 0, 2, 3] rfl)
    rintro ⟨v10, v11⟩ o hf IH EX H locs ls hP hS hl
    have hf := xf2_e hf
    have hl : lv_has ls 4 [(2, .int v10), (3, .int v11), (0, .ref q0), (1, .ref q1)] := hl
    refine lv_iload_n hx hb dL_areAlike_47 rfl (lv_at hl 1 rfl) ?_
    refine lv_bipush (v := (10 : Int32)) hx hb dL_areAlike_48 (by decide) ?_
    refine lv_icmp_ge (tgt := 83) hx hb dL_areAlike_50 (by decide) (fun c5 => ?_) (fun c5 => ?_)
    · have hf := xif_t hf c5
      have hf := EX _ (Option.some.inj hf).symm
      obtain rfl := hf
      exact J5 _ _ _ hP hS (lv_sub hl [0, 2, 3] rfl)
    · have hf := xif_f hf c5
      refine lv_iload_n hx hb dL_areAlike_53 rfl (lv_at hl 0 rfl) ?_
      obtain ⟨v13, ej6, hf⟩ := xb1 hf
      have J6 : ∀ (H : Heap) (locs : List Loc) (ls : Array Slot), xP B0 G h H → va_S (xA B0) s.heap H locs → lv_has ls 4 [(3, .int v11), (0, .ref q0), (1, .ref q1)] → W p l e rmL_areAlike s m args below meth c H locs 0 0 Q (F0 m 76 ls [.int v13]) := by
        intro H locs ls hP hS hl
        clear ej6
        refine lv_istore_n (lv' := [(2, .int v13), (3, .int v11), (0, .ref q0), (1, .ref q1)]) hx hb dL_areAlike_76 rfl hl (by decide) rfl (fun ls hl => ?_)
        obtain ⟨v18, ev18, hf⟩ := xl hf
        refine lv_iinc (v := v18) (lv' := [(3, .int v18), (2, .int v13), (0, .ref q0), (1, .ref q1)]) hx hb dL_areAlike_77 hl (k := 1) rfl (by rw [ev18]; rfl) (by decide) rfl (fun ls hl => ?_)
        refine lv_goto (tgt := 47) hx hb dL_areAlike_80 (by decide) ?_
        exact IH _ (Option.some.inj hf).symm _ _ _ hP hS (lv_sub hl [1, 0, 2, 3] rfl)
      have hf := ej6
      clear ej6
      obtain ⟨k7, ek7, hf⟩ := xlk hf
      have J7 : k7 = some v13 → ∀ (H : Heap) (locs : List Loc) (ls : Array Slot), xP B0 G h H → va_S (xA B0) s.heap H locs → lv_has ls 4 [(3, .int v11), (0, .ref q0), (1, .ref q1)] → W p l e rmL_areAlike s m args below meth c H locs 0 0 Q (F0 m 75 ls []) := by
        intro  hf H locs ls hP hS hl
        have hf := xk0 ek7 hf
        clear ek7
        refine lv_iconst (v := (0 : Int32)) hx hb dL_areAlike_75 (by decide) ?_
        obtain rfl := Option.some.inj hf
        exact J6 _ _ _ hP hS (lv_sub hl [0, 1, 2] rfl)
      clear ek7
      refine lv_if_eq (tgt := 75) hx hb dL_areAlike_54 (by decide) (fun c6 => ?_) (fun c6 => ?_)
      · have hf := xif_t hf c6
        exact J7  hf _ _ _ hP hS (lv_sub hl [1, 2, 3] rfl)
      · have hf := xif_f hf c6
        refine lv_aload_n hx hb dL_areAlike_57 rfl (lv_at hl 2 rfl) ?_
        refine lv_iload_n hx hb dL_areAlike_58 rfl (lv_at hl 1 rfl) ?_
        obtain ⟨v14, ev14, hf⟩ := xb hf
        obtain ⟨v15, ev15, hf⟩ := xb1 hf
        have ev15 := xinl_spec ev15
        refine xc_Vl (rest := []) ⟨hx, hb, hml, hown, hts⟩ (m_X5_sum l B0 G fu h q0 v11 v15 ev15) (cwV 1 hts gL_areAlike_X5_sum rfl rfl rfl (by decide +kernel) ⟨Nat.le_of_ble_eq_true rfl, Nat.le_of_ble_eq_true rfl⟩) hKK hP hS ev14 rfl rfl hl.1 rfl (Nat.le_of_ble_eq_true rfl) dL_areAlike_59 ⟨Nat.zero_le _, Nat.zero_le _⟩ (fun H locs hP hS => ?_)
        refine lv_aload_n hx hb dL_areAlike_62 rfl (lv_at hl 3 rfl) ?_
        refine lv_iload_n hx hb dL_areAlike_63 rfl (lv_at hl 1 rfl) ?_
        obtain ⟨v16, ev16, hf⟩ := xb hf
        obtain ⟨v17, ev17, hf⟩ := xb1 hf
        have ev17 := xinl_spec ev17
        refine xc_Vl (rest := [.long v15]) ⟨hx, hb, hml, hown, hts⟩ (m_X5_sum l B0 G fu h q1 v11 v17 ev17) (cwV 1 hts gL_areAlike_X5_sum rfl rfl rfl (by decide +kernel) ⟨Nat.le_of_ble_eq_true rfl, Nat.le_of_ble_eq_true rfl⟩) hKK hP hS ev16 rfl rfl hl.1 rfl (Nat.le_of_ble_eq_true rfl) dL_areAlike_64 ⟨Nat.zero_le _, Nat.zero_le _⟩ (fun H locs hP hS => ?_)
        refine xr_lcmp_ne (tgt := 75) hx hb dL_areAlike_67 dL_areAlike_68 (by decide) (fun c7 => ?_) (fun c7 => ?_)
        · have hf := xif_f hf c7
          exact J7  hf _ _ _ hP hS (lv_sub hl [1, 2, 3] rfl)
        · have hf := xif_t hf c7
          refine lv_iconst (v := (1 : Int32)) hx hb dL_areAlike_71 (by decide) ?_
          refine lv_goto (tgt := 76) hx hb dL_areAlike_72 (by decide) ?_
          obtain rfl := Option.some.inj hf
          exact J6 _ _ _ hP hS (lv_sub hl [1, 2, 3] rfl)
  clear hf
  refine xloop_ind (P := fun z => ∀ (H : Heap) (locs : List Loc) (ls : Array Slot), xP B0 G h H → va_S (xA B0) s.heap H locs → lv_has ls 4 [(2, .int z.1), (3, .int z.2), (0, .ref q0), (1, .ref q1)] → W p l e rmL_areAlike s m args below meth c H locs 0 0 Q (F0 m 4 ls [])) ?_ eL _ _ _ hP hS (lv_sub hl [1, 0, 2, 3] rfl)
  rintro ⟨v1, v2⟩ o hf IH EX H locs ls hP hS hl
  have hf := xf2_e hf
  have hl : lv_has ls 4 [(2, .int v1), (3, .int v2), (0, .ref q0), (1, .ref q1)] := hl
  refine lv_iload_n hx hb dL_areAlike_4 rfl (lv_at hl 1 rfl) ?_
  refine lv_bipush (v := (12 : Int32)) hx hb dL_areAlike_5 (by decide) ?_
  refine lv_icmp_ge (tgt := 45) hx hb dL_areAlike_7 (by decide) (fun c1 => ?_) (fun c1 => ?_)
  · have hf := xif_t hf c1
    have hf := EX _ (Option.some.inj hf).symm
    obtain rfl := hf
    exact J1 _ _ _ hP hS (lv_sub hl [0, 2, 3] rfl)
  · have hf := xif_f hf c1
    refine lv_iload_n hx hb dL_areAlike_10 rfl (lv_at hl 0 rfl) ?_
    obtain ⟨v4, ej2, hf⟩ := xb1 hf
    have J2 : ∀ (H : Heap) (locs : List Loc) (ls : Array Slot), xP B0 G h H → va_S (xA B0) s.heap H locs → lv_has ls 4 [(3, .int v2), (0, .ref q0), (1, .ref q1)] → W p l e rmL_areAlike s m args below meth c H locs 0 0 Q (F0 m 38 ls [.int v4]) := by
      intro H locs ls hP hS hl
      clear ej2
      refine lv_istore_n (lv' := [(2, .int v4), (3, .int v2), (0, .ref q0), (1, .ref q1)]) hx hb dL_areAlike_38 rfl hl (by decide) rfl (fun ls hl => ?_)
      obtain ⟨v9, ev9, hf⟩ := xl hf
      refine lv_iinc (v := v9) (lv' := [(3, .int v9), (2, .int v4), (0, .ref q0), (1, .ref q1)]) hx hb dL_areAlike_39 hl (k := 1) rfl (by rw [ev9]; rfl) (by decide) rfl (fun ls hl => ?_)
      refine lv_goto (tgt := 4) hx hb dL_areAlike_42 (by decide) ?_
      exact IH _ (Option.some.inj hf).symm _ _ _ hP hS (lv_sub hl [1, 0, 2, 3] rfl)
    have hf := ej2
    clear ej2
    obtain ⟨k3, ek3, hf⟩ := xlk hf
    have J3 : k3 = some v4 → ∀ (H : Heap) (locs : List Loc) (ls : Array Slot), xP B0 G h H → va_S (xA B0) s.heap H locs → lv_has ls 4 [(3, .int v2), (0, .ref q0), (1, .ref q1)] → W p l e rmL_areAlike s m args below meth c H locs 0 0 Q (F0 m 37 ls []) := by
      intro  hf H locs ls hP hS hl
      have hf := xk0 ek3 hf
      clear ek3
      refine lv_iconst (v := (0 : Int32)) hx hb dL_areAlike_37 (by decide) ?_
      obtain rfl := Option.some.inj hf
      exact J2 _ _ _ hP hS (lv_sub hl [0, 1, 2] rfl)
    clear ek3
    refine lv_if_eq (tgt := 37) hx hb dL_areAlike_11 (by decide) (fun c2 => ?_) (fun c2 => ?_)
    · have hf := xif_t hf c2
      exact J3  hf _ _ _ hP hS (lv_sub hl [1, 2, 3] rfl)
    · have hf := xif_f hf c2
      refine lv_iload_n hx hb dL_areAlike_14 rfl (lv_at hl 1 rfl) ?_
      refine lv_bipush (v := (6 : Int32)) hx hb dL_areAlike_15 (by decide) ?_
      obtain ⟨k4, ek4, hf⟩ := xlk hf
      have J4 : k4 = some v4 → ∀ (H : Heap) (locs : List Loc) (ls : Array Slot), xP B0 G h H → va_S (xA B0) s.heap H locs → lv_has ls 4 [(3, .int v2), (0, .ref q0), (1, .ref q1)] → W p l e rmL_areAlike s m args below meth c H locs 0 0 Q (F0 m 33 ls []) := by
        intro  hf H locs ls hP hS hl
        have hf := xk0 ek4 hf
        clear ek4
        refine lv_iconst (v := (1 : Int32)) hx hb dL_areAlike_33 (by decide) ?_
        refine lv_goto (tgt := 38) hx hb dL_areAlike_34 (by decide) ?_
        obtain rfl := Option.some.inj hf
        exact J2 _ _ _ hP hS (lv_sub hl [0, 1, 2] rfl)
      clear ek4
      refine lv_icmp_eq (tgt := 33) hx hb dL_areAlike_17 (by decide) (fun c3 => ?_) (fun c3 => ?_)
      · have hf := xif_t hf c3
        exact J4  hf _ _ _ hP hS (lv_sub hl [1, 2, 3] rfl)
      · have hf := xif_f hf c3
        refine lv_aload_n hx hb dL_areAlike_20 rfl (lv_at hl 2 rfl) ?_
        refine lv_iload_n hx hb dL_areAlike_21 rfl (lv_at hl 1 rfl) ?_
        obtain ⟨v5, ev5, hf⟩ := xb hf
        obtain ⟨v6, ev6, hf⟩ := xb1 hf
        have ev6 := xinl_spec ev6
        refine xc_Vi (rest := []) ⟨hx, hb, hml, hown, hts⟩ (m_X5_setting l B0 G h q0 v2 v6 ev6) (cwV 1 hts gL_areAlike_X5_setting rfl rfl rfl (by decide +kernel) ⟨Nat.le_of_ble_eq_true rfl, Nat.le_of_ble_eq_true rfl⟩) hKK hP hS ev5 rfl rfl hl.1 rfl (Nat.le_of_ble_eq_true rfl) dL_areAlike_22 ⟨Nat.zero_le _, Nat.zero_le _⟩ (fun H locs hP hS => ?_)
        refine lv_aload_n hx hb dL_areAlike_25 rfl (lv_at hl 3 rfl) ?_
        refine lv_iload_n hx hb dL_areAlike_26 rfl (lv_at hl 1 rfl) ?_
        obtain ⟨v7, ev7, hf⟩ := xb hf
        obtain ⟨v8, ev8, hf⟩ := xb1 hf
        have ev8 := xinl_spec ev8
        refine xc_Vi (rest := [.int v6]) ⟨hx, hb, hml, hown, hts⟩ (m_X5_setting l B0 G h q1 v2 v8 ev8) (cwV 1 hts gL_areAlike_X5_setting rfl rfl rfl (by decide +kernel) ⟨Nat.le_of_ble_eq_true rfl, Nat.le_of_ble_eq_true rfl⟩) hKK hP hS ev7 rfl rfl hl.1 rfl (Nat.le_of_ble_eq_true rfl) dL_areAlike_27 ⟨Nat.zero_le _, Nat.zero_le _⟩ (fun H locs hP hS => ?_)
        refine lv_icmp_ne (tgt := 37) hx hb dL_areAlike_30 (by decide) (fun c4 => ?_) (fun c4 => ?_)
        · have hf := xif_f hf c4
          exact J3  hf _ _ _ hP hS (lv_sub hl [1, 2, 3] rfl)
        · have hf := xif_t hf c4
          exact J4  hf _ _ _ hP hS (lv_sub hl [1, 2, 3] rfl)
/-- the law: isSound -/
def f_L_isSound (fu : Nat) (h : XH) (q0 : Nat) : Option (Int32) :=
  obind1 (xloop (xf2 fun (v1 : Int64) (v2 : Int32) =>
    (xis h q0 5).bind fun v4 =>
    obind1 (xinl (f_X5_setting h q0 (6 : Int32))) fun v5 =>
    if v5 ≤ v2 then
      some (.inr v1)
    else
      (xis h q0 5).bind fun v6 =>
      obind1 (xinl (f_X5_roof h q0 v2 (4 : Int32))) fun v7 =>
      olet ((v1 + (Int32.toInt64 v7))) fun v8 =>
      olet (v2 + (1 : Int32)) fun v9 =>
      some (.inl (v8, v9))
  ) fu ((0 : Int64), (0 : Int32))) fun v3 =>
  (xis h q0 5).bind fun v10 =>
  obind1 (xinl (f_X5_sum fu h q0 (1 : Int32))) fun v11 =>
  (xis h q0 5).bind fun v12 =>
  obind1 (xinl (f_X5_sum fu h q0 (8 : Int32))) fun v13 =>
  (xis h q0 5).bind fun v14 =>
  obind1 (xinl (f_X5_sum fu h q0 (4 : Int32))) fun v15 =>
  (xis h q0 5).bind fun v16 =>
  obind1 (xinl (f_X5_sum fu h q0 (5 : Int32))) fun v17 =>
  (xis h q0 5).bind fun v18 =>
  obind1 (xinl (f_X5_sum fu h q0 (6 : Int32))) fun v19 =>
  (xis h q0 5).bind fun v20 =>
  obind1 (xinl (f_X5_setting h q0 (10 : Int32))) fun v21 =>
  obind1 (
    oletk (
      some (0 : Int32)
    ) fun k3 =>
    if (v11 + v13) = (((v15 + v17) + v19) + (Int32.toInt64 v21)) then
      (xis h q0 5).bind fun v23 =>
      obind1 (xinl (f_X5_sum fu h q0 (2 : Int32))) fun v24 =>
      (xis h q0 5).bind fun v25 =>
      obind1 (xinl (f_X5_sum fu h q0 (9 : Int32))) fun v26 =>
      if v24 = (v26 + v3) then
        (xis h q0 5).bind fun v27 =>
        obind1 (xinl (f_X5_setting h q0 (10 : Int32))) fun v28 =>
        (xis h q0 5).bind fun v29 =>
        obind1 (xinl (f_X5_setting h q0 (0 : Int32))) fun v30 =>
        if v30 < v28 then
          k3
        else
          some (1 : Int32)
      else
        k3
    else
      k3
  ) fun v22 =>
  obind2 (xloop (xf3 fun (v31 : Int32) (v32 : Int64) (v33 : Int32) =>
    (xis h q0 5).bind fun v36 =>
    obind1 (xinl (f_X5_setting h q0 (7 : Int32))) fun v37 =>
    if v37 ≤ v33 then
      some (.inr (v31, v32))
    else
      (xis h q0 5).bind fun v38 =>
      obind1 (xinl (f_X5_user h q0 v33 (3 : Int32))) fun v39 =>
      olet ((v32 + (Int32.toInt64 v39))) fun v40 =>
      obind1 (
        oletk (
          some (0 : Int32)
        ) fun k6 =>
        if v31 = (0 : Int32) then
          k6
        else
          (xis h q0 5).bind fun v42 =>
          obind1 (xinl (f_X5_user h q0 v33 (2 : Int32))) fun v43 =>
          (xis h q0 5).bind fun v44 =>
          obind1 (xinl (f_X5_user h q0 v33 (0 : Int32))) fun v45 =>
          if v45 < v43 then
            k6
          else
            some (1 : Int32)
      ) fun v41 =>
      olet (v33 + (1 : Int32)) fun v46 =>
      some (.inl (v41, v40, v46))
  ) fu (v22, (0 : Int64), (0 : Int32))) fun v34 v35 =>
  obind2 (xloop (xf3 fun (v47 : Int32) (v48 : Int32) (v49 : Int32) =>
    (xis h q0 5).bind fun v52 =>
    obind1 (xinl (f_X5_setting h q0 (9 : Int32))) fun v53 =>
    if v53 ≤ v49 then
      some (.inr (v47, v48))
    else
      (xis h q0 5).bind fun v54 =>
      obind1 (xinl (f_X5_day h q0 v49 (7 : Int32))) fun v55 =>
      obind1 (
        if v55 ≤ (0 : Int32) then
          some (0 : Int32)
        else
          some (1 : Int32)
      ) fun v56 =>
      olet ((v48 + v56)) fun v57 =>
      obind1 (
        oletk (
          some (0 : Int32)
        ) fun k10 =>
        if v47 = (0 : Int32) then
          k10
        else
          (xis h q0 5).bind fun v59 =>
          obind1 (xinl (f_X5_rain h q0 v49)) fun v60 =>
          oletk (
            (xis h q0 5).bind fun v65 =>
            obind1 (xinl (f_X5_rain h q0 v49)) fun v66 =>
            oletk (
              some (1 : Int32)
            ) fun k12 =>
            if v66 = (0 : Int32) then
              k12
            else
              (xis h q0 5).bind fun v67 =>
              obind1 (xinl (f_X5_day h q0 v49 (9 : Int32))) fun v68 =>
              if v68 = (0 : Int32) then
                k12
              else
                k10
          ) fun k11 =>
          if (0 : Int32) < v60 then
            k11
          else
            (xis h q0 5).bind fun v61 =>
            obind1 (xinl (f_X5_day h q0 v49 (1 : Int32))) fun v62 =>
            if v62 = (0 : Int32) then
              (xis h q0 5).bind fun v63 =>
              obind1 (xinl (f_X5_day h q0 v49 (2 : Int32))) fun v64 =>
              if v64 = (0 : Int32) then
                k11
              else
                k10
            else
              k10
      ) fun v58 =>
      olet (v49 + (1 : Int32)) fun v69 =>
      some (.inl (v58, v57, v69))
  ) fu (v34, (0 : Int32), (0 : Int32))) fun v50 v51 =>
  obind1 (
    oletk (
      some (0 : Int32)
    ) fun k14 =>
    if v50 = (0 : Int32) then
      k14
    else
      (xis h q0 5).bind fun v71 =>
      obind1 (xinl (f_X5_sum fu h q0 (6 : Int32))) fun v72 =>
      if v35 = v72 then
        (xis h q0 5).bind fun v73 =>
        obind1 (f_X5_longestShortage fu h q0) fun v74 =>
        if v51 < v74 then
          k14
        else
          (xis h q0 5).bind fun v75 =>
          obind1 (f_X5_reliability fu h q0) fun v76 =>
          if (0 : Int32) < (xcmpg v76 xd1) then
            k14
          else
            some (1 : Int32)
      else
        k14
  ) fun v70 =>
  (xbool v70).bind fun v77 =>
  some (v77)
abbrev rmL_isSound : Room := { frames := 8, cells := 0, slots := 0, locals := 146 }
set_option maxHeartbeats 4000000 in
set_option maxRecDepth 100000 in
theorem m_L_isSound (l : Launch) (B0 : Nat) (G : XG) (fu : Nat) (h : XH) (q0 : Nat) (rE : Int32) (hf : f_L_isSound fu h q0 = some rE) : Met l yL_isSound wsL_isSound rmL_isSound (va_Pc [.ref q0] (xU B0 G h)) (xQi B0 G h rE) 0 0 (xA B0) := by
  refine xMet (cc := cL_isSound) (maxL := 8) (by decide) rfl (Nat.le_of_ble_eq_true rfl) ?_
  intro p e s m args below meth c ls hx hb hr hml hown hlocks hnm hts hKK hP hl
  have hown : s.vm.findClass RL = some m.cls := hown
  have hl : lv_has ls 8 [(0, .ref q0)] := hl
  have hS : va_S (xA B0) s.heap s.heap [] := va_S.rf
  generalize hQ : MQ below (xQi B0 G h rE) args s 0 0 (xA B0) = Q
  unfold f_L_isSound at hf
  refine lv_lconst (v := (0 : Int64)) hx hb dL_isSound_0 (by decide) ?_
  refine lv_lstore_n (lv' := [(1, .long (0 : Int64)), (0, .ref q0)]) hx hb dL_isSound_1 rfl hl (by decide) rfl (fun ls hl => ?_)
  refine lv_iconst (v := (0 : Int32)) hx hb dL_isSound_2 (by decide) ?_
  refine lv_istore_n (lv' := [(3, .int (0 : Int32)), (1, .long (0 : Int64)), (0, .ref q0)]) hx hb dL_isSound_3 rfl hl (by decide) rfl (fun ls hl => ?_)
  obtain ⟨v3, eL, hf⟩ := xb1 hf
  have J1 : ∀ (H : Heap) (locs : List Loc) (ls : Array Slot), xP B0 G h H → va_S (xA B0) s.heap H locs → lv_has ls 8 [(1, .long v3), (0, .ref q0)] → W p l e rmL_isSound s m args below meth c H locs 0 0 Q (F0 m 30 ls []) := by
    intro H locs ls hP hS hl
    clear eL
    refine lv_aload_n hx hb dL_isSound_30 rfl (lv_at hl 1 rfl) ?_
    refine lv_iconst (v := (1 : Int32)) hx hb dL_isSound_31 (by decide) ?_
    obtain ⟨v10, ev10, hf⟩ := xb hf
    obtain ⟨v11, ev11, hf⟩ := xb1 hf
    have ev11 := xinl_spec ev11
    refine xc_Vl (rest := []) ⟨hx, hb, hml, hown, hts⟩ (m_X5_sum l B0 G fu h q0 (1 : Int32) v11 ev11) (cwV 1 hts gL_isSound_X5_sum rfl rfl rfl (by decide +kernel) ⟨Nat.le_of_ble_eq_true rfl, Nat.le_of_ble_eq_true rfl⟩) hKK hP hS ev10 rfl rfl hl.1 rfl (Nat.le_of_ble_eq_true rfl) dL_isSound_32 ⟨Nat.zero_le _, Nat.zero_le _⟩ (fun H locs hP hS => ?_)
    refine lv_aload_n hx hb dL_isSound_35 rfl (lv_at hl 1 rfl) ?_
    refine lv_bipush (v := (8 : Int32)) hx hb dL_isSound_36 (by decide) ?_
    obtain ⟨v12, ev12, hf⟩ := xb hf
    obtain ⟨v13, ev13, hf⟩ := xb1 hf
    have ev13 := xinl_spec ev13
    refine xc_Vl (rest := [.long v11]) ⟨hx, hb, hml, hown, hts⟩ (m_X5_sum l B0 G fu h q0 (8 : Int32) v13 ev13) (cwV 1 hts gL_isSound_X5_sum rfl rfl rfl (by decide +kernel) ⟨Nat.le_of_ble_eq_true rfl, Nat.le_of_ble_eq_true rfl⟩) hKK hP hS ev12 rfl rfl hl.1 rfl (Nat.le_of_ble_eq_true rfl) dL_isSound_38 ⟨Nat.zero_le _, Nat.zero_le _⟩ (fun H locs hP hS => ?_)
    refine lv_ladd hx hb dL_isSound_41 ?_
    refine lv_aload_n hx hb dL_isSound_42 rfl (lv_at hl 1 rfl) ?_
    refine lv_iconst (v := (4 : Int32)) hx hb dL_isSound_43 (by decide) ?_
    obtain ⟨v14, ev14, hf⟩ := xb hf
    obtain ⟨v15, ev15, hf⟩ := xb1 hf
    have ev15 := xinl_spec ev15
    refine xc_Vl (rest := [.long (v11 + v13)]) ⟨hx, hb, hml, hown, hts⟩ (m_X5_sum l B0 G fu h q0 (4 : Int32) v15 ev15) (cwV 1 hts gL_isSound_X5_sum rfl rfl rfl (by decide +kernel) ⟨Nat.le_of_ble_eq_true rfl, Nat.le_of_ble_eq_true rfl⟩) hKK hP hS ev14 rfl rfl hl.1 rfl (Nat.le_of_ble_eq_true rfl) dL_isSound_44 ⟨Nat.zero_le _, Nat.zero_le _⟩ (fun H locs hP hS => ?_)
    refine lv_aload_n hx hb dL_isSound_47 rfl (lv_at hl 1 rfl) ?_
    refine lv_iconst (v := (5 : Int32)) hx hb dL_isSound_48 (by decide) ?_
    obtain ⟨v16, ev16, hf⟩ := xb hf
    obtain ⟨v17, ev17, hf⟩ := xb1 hf
    have ev17 := xinl_spec ev17
    refine xc_Vl (rest := [.long v15, .long (v11 + v13)]) ⟨hx, hb, hml, hown, hts⟩ (m_X5_sum l B0 G fu h q0 (5 : Int32) v17 ev17) (cwV 1 hts gL_isSound_X5_sum rfl rfl rfl (by decide +kernel) ⟨Nat.le_of_ble_eq_true rfl, Nat.le_of_ble_eq_true rfl⟩) hKK hP hS ev16 rfl rfl hl.1 rfl (Nat.le_of_ble_eq_true rfl) dL_isSound_49 ⟨Nat.zero_le _, Nat.zero_le _⟩ (fun H locs hP hS => ?_)
    refine lv_ladd hx hb dL_isSound_52 ?_
    refine lv_aload_n hx hb dL_isSound_53 rfl (lv_at hl 1 rfl) ?_
    refine lv_bipush (v := (6 : Int32)) hx hb dL_isSound_54 (by decide) ?_
    obtain ⟨v18, ev18, hf⟩ := xb hf
    obtain ⟨v19, ev19, hf⟩ := xb1 hf
    have ev19 := xinl_spec ev19
    refine xc_Vl (rest := [.long (v15 + v17), .long (v11 + v13)]) ⟨hx, hb, hml, hown, hts⟩ (m_X5_sum l B0 G fu h q0 (6 : Int32) v19 ev19) (cwV 1 hts gL_isSound_X5_sum rfl rfl rfl (by decide +kernel) ⟨Nat.le_of_ble_eq_true rfl, Nat.le_of_ble_eq_true rfl⟩) hKK hP hS ev18 rfl rfl hl.1 rfl (Nat.le_of_ble_eq_true rfl) dL_isSound_56 ⟨Nat.zero_le _, Nat.zero_le _⟩ (fun H locs hP hS => ?_)
    refine lv_ladd hx hb dL_isSound_59 ?_
    refine lv_aload_n hx hb dL_isSound_60 rfl (lv_at hl 1 rfl) ?_
    refine lv_bipush (v := (10 : Int32)) hx hb dL_isSound_61 (by decide) ?_
    obtain ⟨v20, ev20, hf⟩ := xb hf
    obtain ⟨v21, ev21, hf⟩ := xb1 hf
    have ev21 := xinl_spec ev21
    refine xc_Vi (rest := [.long ((v15 + v17) + v19), .long (v11 + v13)]) ⟨hx, hb, hml, hown, hts⟩ (m_X5_setting l B0 G h q0 (10 : Int32) v21 ev21) (cwV 1 hts gL_isSound_X5_setting rfl rfl rfl (by decide +kernel) ⟨Nat.le_of_ble_eq_true rfl, Nat.le_of_ble_eq_true rfl⟩) hKK hP hS ev20 rfl rfl hl.1 rfl (Nat.le_of_ble_eq_true rfl) dL_isSound_63 ⟨Nat.zero_le _, Nat.zero_le _⟩ (fun H locs hP hS => ?_)
    refine lv_i2l hx hb dL_isSound_66 rfl ?_
    refine lv_ladd hx hb dL_isSound_67 ?_
    obtain ⟨v22, ej2, hf⟩ := xb1 hf
    have J2 : ∀ (H : Heap) (locs : List Loc) (ls : Array Slot), xP B0 G h H → va_S (xA B0) s.heap H locs → lv_has ls 8 [(0, .ref q0)] → W p l e rmL_isSound s m args below meth c H locs 0 0 Q (F0 m 108 ls [.int v22]) := by
      intro H locs ls hP hS hl
      clear ej2
      refine lv_istore_n (lv' := [(3, .int v22), (0, .ref q0)]) hx hb dL_isSound_108 rfl hl (by decide) rfl (fun ls hl => ?_)
      refine lv_lconst (v := (0 : Int64)) hx hb dL_isSound_109 (by decide) ?_
      refine lv_lstore (lv' := [(4, .long (0 : Int64)), (3, .int v22), (0, .ref q0)]) hx hb dL_isSound_110 hl (by decide) rfl (fun ls hl => ?_)
      refine lv_iconst (v := (0 : Int32)) hx hb dL_isSound_112 (by decide) ?_
      refine lv_istore (lv' := [(6, .int (0 : Int32)), (4, .long (0 : Int64)), (3, .int v22), (0, .ref q0)]) hx hb dL_isSound_113 hl (by decide) rfl (fun ls hl => ?_)
      obtain ⟨v34, v35, eL, hf⟩ := xb2 hf
      have J4 : ∀ (H : Heap) (locs : List Loc) (ls : Array Slot), xP B0 G h H → va_S (xA B0) s.heap H locs → lv_has ls 8 [(3, .int v34), (4, .long v35), (0, .ref q0)] → W p l e rmL_isSound s m args below meth c H locs 0 0 Q (F0 m 172 ls []) := by
        intro H locs ls hP hS hl
        clear eL
        refine lv_iconst (v := (0 : Int32)) hx hb dL_isSound_172 (by decide) ?_
        refine lv_istore (lv' := [(6, .int (0 : Int32)), (3, .int v34), (4, .long v35), (0, .ref q0)]) hx hb dL_isSound_173 hl (by decide) rfl (fun ls hl => ?_)
        refine lv_iconst (v := (0 : Int32)) hx hb dL_isSound_175 (by decide) ?_
        refine lv_istore (lv' := [(7, .int (0 : Int32)), (6, .int (0 : Int32)), (3, .int v34), (4, .long v35), (0, .ref q0)]) hx hb dL_isSound_176 hl (by decide) rfl (fun ls hl => ?_)
        obtain ⟨v50, v51, eL, hf⟩ := xb2 hf
        have J7 : ∀ (H : Heap) (locs : List Loc) (ls : Array Slot), xP B0 G h H → va_S (xA B0) s.heap H locs → lv_has ls 8 [(3, .int v50), (6, .int v51), (4, .long v35), (0, .ref q0)] → W p l e rmL_isSound s m args below meth c H locs 0 0 Q (F0 m 275 ls []) := by
          intro H locs ls hP hS hl
          clear eL
          refine lv_iload_n hx hb dL_isSound_275 rfl (lv_at hl 0 rfl) ?_
          obtain ⟨v70, ej13, hf⟩ := xb1 hf
          have J13 : ∀ (H : Heap) (locs : List Loc) (ls : Array Slot), xP B0 G h H → va_S (xA B0) s.heap H locs → lv_has ls 8 [] → W p l e rmL_isSound s m args below meth c H locs 0 0 Q (F0 m 314 ls [.int v70]) := by
            intro H locs ls hP hS hl
            clear ej13
            obtain ⟨v77, ev77, hf⟩ := xb hf
            obtain rfl := Option.some.inj hf
            subst hQ
            exact xe_z hx hb hr hlocks hKK hP hS ev77 dL_isSound_314
          have hf := ej13
          clear ej13
          obtain ⟨k14, ek14, hf⟩ := xlk hf
          have J14 : k14 = some v70 → ∀ (H : Heap) (locs : List Loc) (ls : Array Slot), xP B0 G h H → va_S (xA B0) s.heap H locs → lv_has ls 8 [] → W p l e rmL_isSound s m args below meth c H locs 0 0 Q (F0 m 313 ls []) := by
            intro  hf H locs ls hP hS hl
            have hf := xk0 ek14 hf
            clear ek14
            refine lv_iconst (v := (0 : Int32)) hx hb dL_isSound_313 (by decide) ?_
            obtain rfl := Option.some.inj hf
            exact J13 _ _ _ hP hS (lv_sub hl [] rfl)
          clear ek14
          refine lv_if_eq (tgt := 313) hx hb dL_isSound_276 (by decide) (fun c16 => ?_) (fun c16 => ?_)
          · have hf := xif_t hf c16
            exact J14  hf _ _ _ hP hS (lv_sub hl [] rfl)
          · have hf := xif_f hf c16
            refine lv_lload hx hb dL_isSound_279 (lv_at hl 2 rfl) ?_
            refine lv_aload_n hx hb dL_isSound_281 rfl (lv_at hl 3 rfl) ?_
            refine lv_bipush (v := (6 : Int32)) hx hb dL_isSound_282 (by decide) ?_
            obtain ⟨v71, ev71, hf⟩ := xb hf
            obtain ⟨v72, ev72, hf⟩ := xb1 hf
            have ev72 := xinl_spec ev72
            refine xc_Vl (rest := [.long v35]) ⟨hx, hb, hml, hown, hts⟩ (m_X5_sum l B0 G fu h q0 (6 : Int32) v72 ev72) (cwV 1 hts gL_isSound_X5_sum rfl rfl rfl (by decide +kernel) ⟨Nat.le_of_ble_eq_true rfl, Nat.le_of_ble_eq_true rfl⟩) hKK hP hS ev71 rfl rfl hl.1 rfl (Nat.le_of_ble_eq_true rfl) dL_isSound_284 ⟨Nat.zero_le _, Nat.zero_le _⟩ (fun H locs hP hS => ?_)
            refine xr_lcmp_ne (tgt := 313) hx hb dL_isSound_287 dL_isSound_288 (by decide) (fun c17 => ?_) (fun c17 => ?_)
            · have hf := xif_f hf c17
              exact J14  hf _ _ _ hP hS (lv_sub hl [] rfl)
            · have hf := xif_t hf c17
              refine lv_aload_n hx hb dL_isSound_291 rfl (lv_at hl 3 rfl) ?_
              obtain ⟨v73, ev73, hf⟩ := xb hf
              obtain ⟨v74, ev74, hf⟩ := xb1 hf
              refine xc_Vi (rest := []) ⟨hx, hb, hml, hown, hts⟩ (m_X5_longestShortage l B0 G fu h q0 v74 ev74) (cwV 0 hts gL_isSound_X5_longestShortage rfl rfl rfl (by decide +kernel) ⟨Nat.le_of_ble_eq_true rfl, Nat.le_of_ble_eq_true rfl⟩) hKK hP hS ev73 rfl rfl hl.1 rfl (Nat.le_of_ble_eq_true rfl) dL_isSound_292 ⟨Nat.zero_le _, Nat.zero_le _⟩ (fun H locs hP hS => ?_)
              refine lv_iload hx hb dL_isSound_295 (lv_at hl 1 rfl) ?_
              refine lv_icmp_gt (tgt := 313) hx hb dL_isSound_297 (by decide) (fun c18 => ?_) (fun c18 => ?_)
              · have hf := xif_t hf c18
                exact J14  hf _ _ _ hP hS (lv_sub hl [] rfl)
              · have hf := xif_f hf c18
                refine lv_aload_n hx hb dL_isSound_300 rfl (lv_at hl 3 rfl) ?_
                obtain ⟨v75, ev75, hf⟩ := xb hf
                obtain ⟨v76, ev76, hf⟩ := xb1 hf
                refine xc_Vd (rest := []) ⟨hx, hb, hml, hown, hts⟩ (m_X5_reliability l B0 G fu h q0 v76 ev76) (cwV 0 hts gL_isSound_X5_reliability rfl rfl rfl (by decide +kernel) ⟨Nat.le_of_ble_eq_true rfl, Nat.le_of_ble_eq_true rfl⟩) hKK hP hS ev75 rfl rfl hl.1 rfl (Nat.le_of_ble_eq_true rfl) dL_isSound_301 ⟨Nat.zero_le _, Nat.zero_le _⟩ (fun H locs hP hS => ?_)
                refine lv_dconst1 hx hb dL_isSound_304 ?_
                refine lv_dcmp hx hb dL_isSound_305 ?_
                refine lv_if_gt (tgt := 313) hx hb dL_isSound_306 (by decide) (fun c19 => ?_) (fun c19 => ?_)
                · have hf := xif_t hf c19
                  exact J14  hf _ _ _ hP hS (lv_sub hl [] rfl)
                · have hf := xif_f hf c19
                  refine lv_iconst (v := (1 : Int32)) hx hb dL_isSound_309 (by decide) ?_
                  refine lv_goto (tgt := 314) hx hb dL_isSound_310 (by decide) ?_
                  obtain rfl := Option.some.inj hf
                  exact J13 _ _ _ hP hS (lv_sub hl [] rfl)
        clear hf
        refine xloop_ind (P := fun z => ∀ (H : Heap) (locs : List Loc) (ls : Array Slot), xP B0 G h H → va_S (xA B0) s.heap H locs → lv_has ls 8 [(3, .int z.1), (6, .int z.2.1), (7, .int z.2.2), (4, .long v35), (0, .ref q0)] → W p l e rmL_isSound s m args below meth c H locs 0 0 Q (F0 m 178 ls [])) ?_ eL _ _ _ hP hS (lv_sub hl [2, 1, 0, 3, 4] rfl)
        rintro ⟨v47, v48, v49⟩ o hf IH EX H locs ls hP hS hl
        have hf := xf3_e hf
        have hl : lv_has ls 8 [(3, .int v47), (6, .int v48), (7, .int v49), (4, .long v35), (0, .ref q0)] := hl
        refine lv_iload hx hb dL_isSound_178 (lv_at hl 2 rfl) ?_
        refine lv_aload_n hx hb dL_isSound_180 rfl (lv_at hl 4 rfl) ?_
        refine lv_bipush (v := (9 : Int32)) hx hb dL_isSound_181 (by decide) ?_
        obtain ⟨v52, ev52, hf⟩ := xb hf
        obtain ⟨v53, ev53, hf⟩ := xb1 hf
        have ev53 := xinl_spec ev53
        refine xc_Vi (rest := [.int v49]) ⟨hx, hb, hml, hown, hts⟩ (m_X5_setting l B0 G h q0 (9 : Int32) v53 ev53) (cwV 1 hts gL_isSound_X5_setting rfl rfl rfl (by decide +kernel) ⟨Nat.le_of_ble_eq_true rfl, Nat.le_of_ble_eq_true rfl⟩) hKK hP hS ev52 rfl rfl hl.1 rfl (Nat.le_of_ble_eq_true rfl) dL_isSound_183 ⟨Nat.zero_le _, Nat.zero_le _⟩ (fun H locs hP hS => ?_)
        refine lv_icmp_ge (tgt := 275) hx hb dL_isSound_186 (by decide) (fun c8 => ?_) (fun c8 => ?_)
        · have hf := xif_t hf c8
          have hf := EX _ (Option.some.inj hf).symm
          obtain ⟨rfl, rfl⟩ := xpair2 hf
          exact J7 _ _ _ hP hS (lv_sub hl [0, 1, 3, 4] rfl)
        · have hf := xif_f hf c8
          refine lv_iload hx hb dL_isSound_189 (lv_at hl 1 rfl) ?_
          refine lv_aload_n hx hb dL_isSound_191 rfl (lv_at hl 4 rfl) ?_
          refine lv_iload hx hb dL_isSound_192 (lv_at hl 2 rfl) ?_
          refine lv_bipush (v := (7 : Int32)) hx hb dL_isSound_194 (by decide) ?_
          obtain ⟨v54, ev54, hf⟩ := xb hf
          obtain ⟨v55, ev55, hf⟩ := xb1 hf
          have ev55 := xinl_spec ev55
          refine xc_Vi (rest := [.int v48]) ⟨hx, hb, hml, hown, hts⟩ (m_X5_day l B0 G h q0 v49 (7 : Int32) v55 ev55) (cwV 2 hts gL_isSound_X5_day rfl rfl rfl (by decide +kernel) ⟨Nat.le_of_ble_eq_true rfl, Nat.le_of_ble_eq_true rfl⟩) hKK hP hS ev54 rfl rfl hl.1 rfl (Nat.le_of_ble_eq_true rfl) dL_isSound_196 ⟨Nat.zero_le _, Nat.zero_le _⟩ (fun H locs hP hS => ?_)
          obtain ⟨v56, ej8, hf⟩ := xb1 hf
          have J8 : ∀ (H : Heap) (locs : List Loc) (ls : Array Slot), xP B0 G h H → va_S (xA B0) s.heap H locs → lv_has ls 8 [(3, .int v47), (7, .int v49), (4, .long v35), (0, .ref q0)] → W p l e rmL_isSound s m args below meth c H locs 0 0 Q (F0 m 207 ls [.int v56, .int v48]) := by
            intro H locs ls hP hS hl
            clear ej8
            refine lv_iadd hx hb dL_isSound_207 ?_
            obtain ⟨v57, ev57, hf⟩ := xl hf
            refine xtopi ev57 ?_
            refine lv_istore (lv' := [(6, .int v57), (3, .int v47), (7, .int v49), (4, .long v35), (0, .ref q0)]) hx hb dL_isSound_208 hl (by decide) rfl (fun ls hl => ?_)
            refine lv_iload_n hx hb dL_isSound_210 rfl (lv_at hl 1 rfl) ?_
            obtain ⟨v58, ej9, hf⟩ := xb1 hf
            have J9 : ∀ (H : Heap) (locs : List Loc) (ls : Array Slot), xP B0 G h H → va_S (xA B0) s.heap H locs → lv_has ls 8 [(6, .int v57), (7, .int v49), (4, .long v35), (0, .ref q0)] → W p l e rmL_isSound s m args below meth c H locs 0 0 Q (F0 m 268 ls [.int v58]) := by
              intro H locs ls hP hS hl
              clear ej9
              refine lv_istore_n (lv' := [(3, .int v58), (6, .int v57), (7, .int v49), (4, .long v35), (0, .ref q0)]) hx hb dL_isSound_268 rfl hl (by decide) rfl (fun ls hl => ?_)
              obtain ⟨v69, ev69, hf⟩ := xl hf
              refine lv_iinc (v := v69) (lv' := [(7, .int v69), (3, .int v58), (6, .int v57), (4, .long v35), (0, .ref q0)]) hx hb dL_isSound_269 hl (k := 2) rfl (by rw [ev69]; rfl) (by decide) rfl (fun ls hl => ?_)
              refine lv_goto (tgt := 178) hx hb dL_isSound_272 (by decide) ?_
              exact IH _ (Option.some.inj hf).symm _ _ _ hP hS (lv_sub hl [1, 2, 0, 3, 4] rfl)
            have hf := ej9
            clear ej9
            obtain ⟨k10, ek10, hf⟩ := xlk hf
            have J10 : k10 = some v58 → ∀ (H : Heap) (locs : List Loc) (ls : Array Slot), xP B0 G h H → va_S (xA B0) s.heap H locs → lv_has ls 8 [(6, .int v57), (7, .int v49), (4, .long v35), (0, .ref q0)] → W p l e rmL_isSound s m args below meth c H locs 0 0 Q (F0 m 267 ls []) := by
              intro  hf H locs ls hP hS hl
              have hf := xk0 ek10 hf
              clear ek10
              refine lv_iconst (v := (0 : Int32)) hx hb dL_isSound_267 (by decide) ?_
              obtain rfl := Option.some.inj hf
              exact J9 _ _ _ hP hS (lv_sub hl [0, 1, 2, 3] rfl)
            clear ek10
            refine lv_if_eq (tgt := 267) hx hb dL_isSound_211 (by decide) (fun c10 => ?_) (fun c10 => ?_)
            · have hf := xif_t hf c10
              exact J10  hf _ _ _ hP hS (lv_sub hl [0, 2, 3, 4] rfl)
            · have hf := xif_f hf c10
              refine lv_aload_n hx hb dL_isSound_214 rfl (lv_at hl 4 rfl) ?_
              refine lv_iload hx hb dL_isSound_215 (lv_at hl 2 rfl) ?_
              obtain ⟨v59, ev59, hf⟩ := xb hf
              obtain ⟨v60, ev60, hf⟩ := xb1 hf
              have ev60 := xinl_spec ev60
              refine xc_Vi (rest := []) ⟨hx, hb, hml, hown, hts⟩ (m_X5_rain l B0 G h q0 v49 v60 ev60) (cwV 1 hts gL_isSound_X5_rain rfl rfl rfl (by decide +kernel) ⟨Nat.le_of_ble_eq_true rfl, Nat.le_of_ble_eq_true rfl⟩) hKK hP hS ev59 rfl rfl hl.1 rfl (Nat.le_of_ble_eq_true rfl) dL_isSound_217 ⟨Nat.zero_le _, Nat.zero_le _⟩ (fun H locs hP hS => ?_)
              obtain ⟨k11, ek11, hf⟩ := xlk hf
              have J11 : k11 = some v58 → ∀ (H : Heap) (locs : List Loc) (ls : Array Slot), xP B0 G h H → va_S (xA B0) s.heap H locs → lv_has ls 8 [(6, .int v57), (7, .int v49), (4, .long v35), (0, .ref q0)] → W p l e rmL_isSound s m args below meth c H locs 0 0 Q (F0 m 243 ls []) := by
                intro  hf H locs ls hP hS hl
                have hf := xk0 ek11 hf
                clear ek11
                refine lv_aload_n hx hb dL_isSound_243 rfl (lv_at hl 3 rfl) ?_
                refine lv_iload hx hb dL_isSound_244 (lv_at hl 1 rfl) ?_
                obtain ⟨v65, ev65, hf⟩ := xb hf
                obtain ⟨v66, ev66, hf⟩ := xb1 hf
                have ev66 := xinl_spec ev66
                refine xc_Vi (rest := []) ⟨hx, hb, hml, hown, hts⟩ (m_X5_rain l B0 G h q0 v49 v66 ev66) (cwV 1 hts gL_isSound_X5_rain rfl rfl rfl (by decide +kernel) ⟨Nat.le_of_ble_eq_true rfl, Nat.le_of_ble_eq_true rfl⟩) hKK hP hS ev65 rfl rfl hl.1 rfl (Nat.le_of_ble_eq_true rfl) dL_isSound_246 ⟨Nat.zero_le _, Nat.zero_le _⟩ (fun H locs hP hS => ?_)
                obtain ⟨k12, ek12, hf⟩ := xlk hf
                have J12 : k12 = some v58 → ∀ (H : Heap) (locs : List Loc) (ls : Array Slot), xP B0 G h H → va_S (xA B0) s.heap H locs → lv_has ls 8 [(6, .int v57), (7, .int v49), (4, .long v35), (0, .ref q0)] → W p l e rmL_isSound s m args below meth c H locs 0 0 Q (F0 m 263 ls []) := by
                  intro  hf H locs ls hP hS hl
                  have hf := xk0 ek12 hf
                  clear ek12
                  refine lv_iconst (v := (1 : Int32)) hx hb dL_isSound_263 (by decide) ?_
                  refine lv_goto (tgt := 268) hx hb dL_isSound_264 (by decide) ?_
                  obtain rfl := Option.some.inj hf
                  exact J9 _ _ _ hP hS (lv_sub hl [0, 1, 2, 3] rfl)
                clear ek12
                refine lv_if_eq (tgt := 263) hx hb dL_isSound_249 (by decide) (fun c14 => ?_) (fun c14 => ?_)
                · have hf := xif_t hf c14
                  exact J12  hf _ _ _ hP hS (lv_sub hl [0, 1, 2, 3] rfl)
                · have hf := xif_f hf c14
                  refine lv_aload_n hx hb dL_isSound_252 rfl (lv_at hl 3 rfl) ?_
                  refine lv_iload hx hb dL_isSound_253 (lv_at hl 1 rfl) ?_
                  refine lv_bipush (v := (9 : Int32)) hx hb dL_isSound_255 (by decide) ?_
                  obtain ⟨v67, ev67, hf⟩ := xb hf
                  obtain ⟨v68, ev68, hf⟩ := xb1 hf
                  have ev68 := xinl_spec ev68
                  refine xc_Vi (rest := []) ⟨hx, hb, hml, hown, hts⟩ (m_X5_day l B0 G h q0 v49 (9 : Int32) v68 ev68) (cwV 2 hts gL_isSound_X5_day rfl rfl rfl (by decide +kernel) ⟨Nat.le_of_ble_eq_true rfl, Nat.le_of_ble_eq_true rfl⟩) hKK hP hS ev67 rfl rfl hl.1 rfl (Nat.le_of_ble_eq_true rfl) dL_isSound_257 ⟨Nat.zero_le _, Nat.zero_le _⟩ (fun H locs hP hS => ?_)
                  refine lv_if_ne (tgt := 267) hx hb dL_isSound_260 (by decide) (fun c15 => ?_) (fun c15 => ?_)
                  · have hf := xif_f hf c15
                    exact J10  hf _ _ _ hP hS (lv_sub hl [0, 1, 2, 3] rfl)
                  · have hf := xif_t hf c15
                    exact J12  hf _ _ _ hP hS (lv_sub hl [0, 1, 2, 3] rfl)
              clear ek11
              refine lv_if_gt (tgt := 243) hx hb dL_isSound_220 (by decide) (fun c11 => ?_) (fun c11 => ?_)
              · have hf := xif_t hf c11
                exact J11  hf _ _ _ hP hS (lv_sub hl [0, 2, 3, 4] rfl)
              · have hf := xif_f hf c11
                refine lv_aload_n hx hb dL_isSound_223 rfl (lv_at hl 4 rfl) ?_
                refine lv_iload hx hb dL_isSound_224 (lv_at hl 2 rfl) ?_
                refine lv_iconst (v := (1 : Int32)) hx hb dL_isSound_226 (by decide) ?_
                obtain ⟨v61, ev61, hf⟩ := xb hf
                obtain ⟨v62, ev62, hf⟩ := xb1 hf
                have ev62 := xinl_spec ev62
                refine xc_Vi (rest := []) ⟨hx, hb, hml, hown, hts⟩ (m_X5_day l B0 G h q0 v49 (1 : Int32) v62 ev62) (cwV 2 hts gL_isSound_X5_day rfl rfl rfl (by decide +kernel) ⟨Nat.le_of_ble_eq_true rfl, Nat.le_of_ble_eq_true rfl⟩) hKK hP hS ev61 rfl rfl hl.1 rfl (Nat.le_of_ble_eq_true rfl) dL_isSound_227 ⟨Nat.zero_le _, Nat.zero_le _⟩ (fun H locs hP hS => ?_)
                refine lv_if_ne (tgt := 267) hx hb dL_isSound_230 (by decide) (fun c12 => ?_) (fun c12 => ?_)
                · have hf := xif_f hf c12
                  exact J10  hf _ _ _ hP hS (lv_sub hl [0, 2, 3, 4] rfl)
                · have hf := xif_t hf c12
                  refine lv_aload_n hx hb dL_isSound_233 rfl (lv_at hl 4 rfl) ?_
                  refine lv_iload hx hb dL_isSound_234 (lv_at hl 2 rfl) ?_
                  refine lv_iconst (v := (2 : Int32)) hx hb dL_isSound_236 (by decide) ?_
                  obtain ⟨v63, ev63, hf⟩ := xb hf
                  obtain ⟨v64, ev64, hf⟩ := xb1 hf
                  have ev64 := xinl_spec ev64
                  refine xc_Vi (rest := []) ⟨hx, hb, hml, hown, hts⟩ (m_X5_day l B0 G h q0 v49 (2 : Int32) v64 ev64) (cwV 2 hts gL_isSound_X5_day rfl rfl rfl (by decide +kernel) ⟨Nat.le_of_ble_eq_true rfl, Nat.le_of_ble_eq_true rfl⟩) hKK hP hS ev63 rfl rfl hl.1 rfl (Nat.le_of_ble_eq_true rfl) dL_isSound_237 ⟨Nat.zero_le _, Nat.zero_le _⟩ (fun H locs hP hS => ?_)
                  refine lv_if_ne (tgt := 267) hx hb dL_isSound_240 (by decide) (fun c13 => ?_) (fun c13 => ?_)
                  · have hf := xif_f hf c13
                    exact J10  hf _ _ _ hP hS (lv_sub hl [0, 2, 3, 4] rfl)
                  · have hf := xif_t hf c13
                    exact J11  hf _ _ _ hP hS (lv_sub hl [0, 2, 3, 4] rfl)
          have hf := ej8
          clear ej8
          refine lv_if_le (tgt := 206) hx hb dL_isSound_199 (by decide) (fun c9 => ?_) (fun c9 => ?_)
          · have hf := xif_t hf c9
            refine lv_iconst (v := (0 : Int32)) hx hb dL_isSound_206 (by decide) ?_
            obtain rfl := Option.some.inj hf
            exact J8 _ _ _ hP hS (lv_sub hl [0, 2, 3, 4] rfl)
          · have hf := xif_f hf c9
            refine lv_iconst (v := (1 : Int32)) hx hb dL_isSound_202 (by decide) ?_
            refine lv_goto (tgt := 207) hx hb dL_isSound_203 (by decide) ?_
            obtain rfl := Option.some.inj hf
            exact J8 _ _ _ hP hS (lv_sub hl [0, 2, 3, 4] rfl)
      clear hf
      refine xloop_ind (P := fun z => ∀ (H : Heap) (locs : List Loc) (ls : Array Slot), xP B0 G h H → va_S (xA B0) s.heap H locs → lv_has ls 8 [(3, .int z.1), (4, .long z.2.1), (6, .int z.2.2), (0, .ref q0)] → W p l e rmL_isSound s m args below meth c H locs 0 0 Q (F0 m 115 ls [])) ?_ eL _ _ _ hP hS (lv_sub hl [2, 1, 0, 3] rfl)
      rintro ⟨v31, v32, v33⟩ o hf IH EX H locs ls hP hS hl
      have hf := xf3_e hf
      have hl : lv_has ls 8 [(3, .int v31), (4, .long v32), (6, .int v33), (0, .ref q0)] := hl
      refine lv_iload hx hb dL_isSound_115 (lv_at hl 2 rfl) ?_
      refine lv_aload_n hx hb dL_isSound_117 rfl (lv_at hl 3 rfl) ?_
      refine lv_bipush (v := (7 : Int32)) hx hb dL_isSound_118 (by decide) ?_
      obtain ⟨v36, ev36, hf⟩ := xb hf
      obtain ⟨v37, ev37, hf⟩ := xb1 hf
      have ev37 := xinl_spec ev37
      refine xc_Vi (rest := [.int v33]) ⟨hx, hb, hml, hown, hts⟩ (m_X5_setting l B0 G h q0 (7 : Int32) v37 ev37) (cwV 1 hts gL_isSound_X5_setting rfl rfl rfl (by decide +kernel) ⟨Nat.le_of_ble_eq_true rfl, Nat.le_of_ble_eq_true rfl⟩) hKK hP hS ev36 rfl rfl hl.1 rfl (Nat.le_of_ble_eq_true rfl) dL_isSound_120 ⟨Nat.zero_le _, Nat.zero_le _⟩ (fun H locs hP hS => ?_)
      refine lv_icmp_ge (tgt := 172) hx hb dL_isSound_123 (by decide) (fun c5 => ?_) (fun c5 => ?_)
      · have hf := xif_t hf c5
        have hf := EX _ (Option.some.inj hf).symm
        obtain ⟨rfl, rfl⟩ := xpair2 hf
        exact J4 _ _ _ hP hS (lv_sub hl [0, 1, 3] rfl)
      · have hf := xif_f hf c5
        refine lv_lload hx hb dL_isSound_126 (lv_at hl 1 rfl) ?_
        refine lv_aload_n hx hb dL_isSound_128 rfl (lv_at hl 3 rfl) ?_
        refine lv_iload hx hb dL_isSound_129 (lv_at hl 2 rfl) ?_
        refine lv_iconst (v := (3 : Int32)) hx hb dL_isSound_131 (by decide) ?_
        obtain ⟨v38, ev38, hf⟩ := xb hf
        obtain ⟨v39, ev39, hf⟩ := xb1 hf
        have ev39 := xinl_spec ev39
        refine xc_Vi (rest := [.long v32]) ⟨hx, hb, hml, hown, hts⟩ (m_X5_user l B0 G h q0 v33 (3 : Int32) v39 ev39) (cwV 2 hts gL_isSound_X5_user rfl rfl rfl (by decide +kernel) ⟨Nat.le_of_ble_eq_true rfl, Nat.le_of_ble_eq_true rfl⟩) hKK hP hS ev38 rfl rfl hl.1 rfl (Nat.le_of_ble_eq_true rfl) dL_isSound_132 ⟨Nat.zero_le _, Nat.zero_le _⟩ (fun H locs hP hS => ?_)
        refine lv_i2l hx hb dL_isSound_135 rfl ?_
        refine lv_ladd hx hb dL_isSound_136 ?_
        obtain ⟨v40, ev40, hf⟩ := xl hf
        refine xtopl ev40 ?_
        refine lv_lstore (lv' := [(4, .long v40), (3, .int v31), (6, .int v33), (0, .ref q0)]) hx hb dL_isSound_137 hl (by decide) rfl (fun ls hl => ?_)
        refine lv_iload_n hx hb dL_isSound_139 rfl (lv_at hl 1 rfl) ?_
        obtain ⟨v41, ej5, hf⟩ := xb1 hf
        have J5 : ∀ (H : Heap) (locs : List Loc) (ls : Array Slot), xP B0 G h H → va_S (xA B0) s.heap H locs → lv_has ls 8 [(4, .long v40), (6, .int v33), (0, .ref q0)] → W p l e rmL_isSound s m args below meth c H locs 0 0 Q (F0 m 165 ls [.int v41]) := by
          intro H locs ls hP hS hl
          clear ej5
          refine lv_istore_n (lv' := [(3, .int v41), (4, .long v40), (6, .int v33), (0, .ref q0)]) hx hb dL_isSound_165 rfl hl (by decide) rfl (fun ls hl => ?_)
          obtain ⟨v46, ev46, hf⟩ := xl hf
          refine lv_iinc (v := v46) (lv' := [(6, .int v46), (3, .int v41), (4, .long v40), (0, .ref q0)]) hx hb dL_isSound_166 hl (k := 2) rfl (by rw [ev46]; rfl) (by decide) rfl (fun ls hl => ?_)
          refine lv_goto (tgt := 115) hx hb dL_isSound_169 (by decide) ?_
          exact IH _ (Option.some.inj hf).symm _ _ _ hP hS (lv_sub hl [1, 2, 0, 3] rfl)
        have hf := ej5
        clear ej5
        obtain ⟨k6, ek6, hf⟩ := xlk hf
        have J6 : k6 = some v41 → ∀ (H : Heap) (locs : List Loc) (ls : Array Slot), xP B0 G h H → va_S (xA B0) s.heap H locs → lv_has ls 8 [(4, .long v40), (6, .int v33), (0, .ref q0)] → W p l e rmL_isSound s m args below meth c H locs 0 0 Q (F0 m 164 ls []) := by
          intro  hf H locs ls hP hS hl
          have hf := xk0 ek6 hf
          clear ek6
          refine lv_iconst (v := (0 : Int32)) hx hb dL_isSound_164 (by decide) ?_
          obtain rfl := Option.some.inj hf
          exact J5 _ _ _ hP hS (lv_sub hl [0, 1, 2] rfl)
        clear ek6
        refine lv_if_eq (tgt := 164) hx hb dL_isSound_140 (by decide) (fun c6 => ?_) (fun c6 => ?_)
        · have hf := xif_t hf c6
          exact J6  hf _ _ _ hP hS (lv_sub hl [0, 2, 3] rfl)
        · have hf := xif_f hf c6
          refine lv_aload_n hx hb dL_isSound_143 rfl (lv_at hl 3 rfl) ?_
          refine lv_iload hx hb dL_isSound_144 (lv_at hl 2 rfl) ?_
          refine lv_iconst (v := (2 : Int32)) hx hb dL_isSound_146 (by decide) ?_
          obtain ⟨v42, ev42, hf⟩ := xb hf
          obtain ⟨v43, ev43, hf⟩ := xb1 hf
          have ev43 := xinl_spec ev43
          refine xc_Vi (rest := []) ⟨hx, hb, hml, hown, hts⟩ (m_X5_user l B0 G h q0 v33 (2 : Int32) v43 ev43) (cwV 2 hts gL_isSound_X5_user rfl rfl rfl (by decide +kernel) ⟨Nat.le_of_ble_eq_true rfl, Nat.le_of_ble_eq_true rfl⟩) hKK hP hS ev42 rfl rfl hl.1 rfl (Nat.le_of_ble_eq_true rfl) dL_isSound_147 ⟨Nat.zero_le _, Nat.zero_le _⟩ (fun H locs hP hS => ?_)
          refine lv_aload_n hx hb dL_isSound_150 rfl (lv_at hl 3 rfl) ?_
          refine lv_iload hx hb dL_isSound_151 (lv_at hl 2 rfl) ?_
          refine lv_iconst (v := (0 : Int32)) hx hb dL_isSound_153 (by decide) ?_
          obtain ⟨v44, ev44, hf⟩ := xb hf
          obtain ⟨v45, ev45, hf⟩ := xb1 hf
          have ev45 := xinl_spec ev45
          refine xc_Vi (rest := [.int v43]) ⟨hx, hb, hml, hown, hts⟩ (m_X5_user l B0 G h q0 v33 (0 : Int32) v45 ev45) (cwV 2 hts gL_isSound_X5_user rfl rfl rfl (by decide +kernel) ⟨Nat.le_of_ble_eq_true rfl, Nat.le_of_ble_eq_true rfl⟩) hKK hP hS ev44 rfl rfl hl.1 rfl (Nat.le_of_ble_eq_true rfl) dL_isSound_154 ⟨Nat.zero_le _, Nat.zero_le _⟩ (fun H locs hP hS => ?_)
          refine lv_icmp_gt (tgt := 164) hx hb dL_isSound_157 (by decide) (fun c7 => ?_) (fun c7 => ?_)
          · have hf := xif_t hf c7
            exact J6  hf _ _ _ hP hS (lv_sub hl [0, 2, 3] rfl)
          · have hf := xif_f hf c7
            refine lv_iconst (v := (1 : Int32)) hx hb dL_isSound_160 (by decide) ?_
            refine lv_goto (tgt := 165) hx hb dL_isSound_161 (by decide) ?_
            obtain rfl := Option.some.inj hf
            exact J5 _ _ _ hP hS (lv_sub hl [0, 2, 3] rfl)
    have hf := ej2
    clear ej2
    obtain ⟨k3, ek3, hf⟩ := xlk hf
    have J3 : k3 = some v22 → ∀ (H : Heap) (locs : List Loc) (ls : Array Slot), xP B0 G h H → va_S (xA B0) s.heap H locs → lv_has ls 8 [(0, .ref q0)] → W p l e rmL_isSound s m args below meth c H locs 0 0 Q (F0 m 107 ls []) := by
      intro  hf H locs ls hP hS hl
      have hf := xk0 ek3 hf
      clear ek3
      refine lv_iconst (v := (0 : Int32)) hx hb dL_isSound_107 (by decide) ?_
      obtain rfl := Option.some.inj hf
      exact J2 _ _ _ hP hS (lv_sub hl [0] rfl)
    clear ek3
    refine xr_lcmp_ne (tgt := 107) hx hb dL_isSound_68 dL_isSound_69 (by decide) (fun c2 => ?_) (fun c2 => ?_)
    · have hf := xif_f hf c2
      exact J3  hf _ _ _ hP hS (lv_sub hl [1] rfl)
    · have hf := xif_t hf c2
      refine lv_aload_n hx hb dL_isSound_72 rfl (lv_at hl 1 rfl) ?_
      refine lv_iconst (v := (2 : Int32)) hx hb dL_isSound_73 (by decide) ?_
      obtain ⟨v23, ev23, hf⟩ := xb hf
      obtain ⟨v24, ev24, hf⟩ := xb1 hf
      have ev24 := xinl_spec ev24
      refine xc_Vl (rest := []) ⟨hx, hb, hml, hown, hts⟩ (m_X5_sum l B0 G fu h q0 (2 : Int32) v24 ev24) (cwV 1 hts gL_isSound_X5_sum rfl rfl rfl (by decide +kernel) ⟨Nat.le_of_ble_eq_true rfl, Nat.le_of_ble_eq_true rfl⟩) hKK hP hS ev23 rfl rfl hl.1 rfl (Nat.le_of_ble_eq_true rfl) dL_isSound_74 ⟨Nat.zero_le _, Nat.zero_le _⟩ (fun H locs hP hS => ?_)
      refine lv_aload_n hx hb dL_isSound_77 rfl (lv_at hl 1 rfl) ?_
      refine lv_bipush (v := (9 : Int32)) hx hb dL_isSound_78 (by decide) ?_
      obtain ⟨v25, ev25, hf⟩ := xb hf
      obtain ⟨v26, ev26, hf⟩ := xb1 hf
      have ev26 := xinl_spec ev26
      refine xc_Vl (rest := [.long v24]) ⟨hx, hb, hml, hown, hts⟩ (m_X5_sum l B0 G fu h q0 (9 : Int32) v26 ev26) (cwV 1 hts gL_isSound_X5_sum rfl rfl rfl (by decide +kernel) ⟨Nat.le_of_ble_eq_true rfl, Nat.le_of_ble_eq_true rfl⟩) hKK hP hS ev25 rfl rfl hl.1 rfl (Nat.le_of_ble_eq_true rfl) dL_isSound_80 ⟨Nat.zero_le _, Nat.zero_le _⟩ (fun H locs hP hS => ?_)
      refine lv_lload_n hx hb dL_isSound_83 rfl (lv_at hl 0 rfl) ?_
      refine lv_ladd hx hb dL_isSound_84 ?_
      refine xr_lcmp_ne (tgt := 107) hx hb dL_isSound_85 dL_isSound_86 (by decide) (fun c3 => ?_) (fun c3 => ?_)
      · have hf := xif_f hf c3
        exact J3  hf _ _ _ hP hS (lv_sub hl [1] rfl)
      · have hf := xif_t hf c3
        refine lv_aload_n hx hb dL_isSound_89 rfl (lv_at hl 1 rfl) ?_
        refine lv_bipush (v := (10 : Int32)) hx hb dL_isSound_90 (by decide) ?_
        obtain ⟨v27, ev27, hf⟩ := xb hf
        obtain ⟨v28, ev28, hf⟩ := xb1 hf
        have ev28 := xinl_spec ev28
        refine xc_Vi (rest := []) ⟨hx, hb, hml, hown, hts⟩ (m_X5_setting l B0 G h q0 (10 : Int32) v28 ev28) (cwV 1 hts gL_isSound_X5_setting rfl rfl rfl (by decide +kernel) ⟨Nat.le_of_ble_eq_true rfl, Nat.le_of_ble_eq_true rfl⟩) hKK hP hS ev27 rfl rfl hl.1 rfl (Nat.le_of_ble_eq_true rfl) dL_isSound_92 ⟨Nat.zero_le _, Nat.zero_le _⟩ (fun H locs hP hS => ?_)
        refine lv_aload_n hx hb dL_isSound_95 rfl (lv_at hl 1 rfl) ?_
        refine lv_iconst (v := (0 : Int32)) hx hb dL_isSound_96 (by decide) ?_
        obtain ⟨v29, ev29, hf⟩ := xb hf
        obtain ⟨v30, ev30, hf⟩ := xb1 hf
        have ev30 := xinl_spec ev30
        refine xc_Vi (rest := [.int v28]) ⟨hx, hb, hml, hown, hts⟩ (m_X5_setting l B0 G h q0 (0 : Int32) v30 ev30) (cwV 1 hts gL_isSound_X5_setting rfl rfl rfl (by decide +kernel) ⟨Nat.le_of_ble_eq_true rfl, Nat.le_of_ble_eq_true rfl⟩) hKK hP hS ev29 rfl rfl hl.1 rfl (Nat.le_of_ble_eq_true rfl) dL_isSound_97 ⟨Nat.zero_le _, Nat.zero_le _⟩ (fun H locs hP hS => ?_)
        refine lv_icmp_gt (tgt := 107) hx hb dL_isSound_100 (by decide) (fun c4 => ?_) (fun c4 => ?_)
        · have hf := xif_t hf c4
          exact J3  hf _ _ _ hP hS (lv_sub hl [1] rfl)
        · have hf := xif_f hf c4
          refine lv_iconst (v := (1 : Int32)) hx hb dL_isSound_103 (by decide) ?_
          refine lv_goto (tgt := 108) hx hb dL_isSound_104 (by decide) ?_
          obtain rfl := Option.some.inj hf
          exact J2 _ _ _ hP hS (lv_sub hl [1] rfl)
  clear hf
  refine xloop_ind (P := fun z => ∀ (H : Heap) (locs : List Loc) (ls : Array Slot), xP B0 G h H → va_S (xA B0) s.heap H locs → lv_has ls 8 [(1, .long z.1), (3, .int z.2), (0, .ref q0)] → W p l e rmL_isSound s m args below meth c H locs 0 0 Q (F0 m 4 ls [])) ?_ eL _ _ _ hP hS (lv_sub hl [1, 0, 2] rfl)
  rintro ⟨v1, v2⟩ o hf IH EX H locs ls hP hS hl
  have hf := xf2_e hf
  have hl : lv_has ls 8 [(1, .long v1), (3, .int v2), (0, .ref q0)] := hl
  refine lv_iload_n hx hb dL_isSound_4 rfl (lv_at hl 1 rfl) ?_
  refine lv_aload_n hx hb dL_isSound_5 rfl (lv_at hl 2 rfl) ?_
  refine lv_bipush (v := (6 : Int32)) hx hb dL_isSound_6 (by decide) ?_
  obtain ⟨v4, ev4, hf⟩ := xb hf
  obtain ⟨v5, ev5, hf⟩ := xb1 hf
  have ev5 := xinl_spec ev5
  refine xc_Vi (rest := [.int v2]) ⟨hx, hb, hml, hown, hts⟩ (m_X5_setting l B0 G h q0 (6 : Int32) v5 ev5) (cwV 1 hts gL_isSound_X5_setting rfl rfl rfl (by decide +kernel) ⟨Nat.le_of_ble_eq_true rfl, Nat.le_of_ble_eq_true rfl⟩) hKK hP hS ev4 rfl rfl hl.1 rfl (Nat.le_of_ble_eq_true rfl) dL_isSound_8 ⟨Nat.zero_le _, Nat.zero_le _⟩ (fun H locs hP hS => ?_)
  refine lv_icmp_ge (tgt := 30) hx hb dL_isSound_11 (by decide) (fun c1 => ?_) (fun c1 => ?_)
  · have hf := xif_t hf c1
    have hf := EX _ (Option.some.inj hf).symm
    obtain rfl := hf
    exact J1 _ _ _ hP hS (lv_sub hl [0, 2] rfl)
  · have hf := xif_f hf c1
    refine lv_lload_n hx hb dL_isSound_14 rfl (lv_at hl 0 rfl) ?_
    refine lv_aload_n hx hb dL_isSound_15 rfl (lv_at hl 2 rfl) ?_
    refine lv_iload_n hx hb dL_isSound_16 rfl (lv_at hl 1 rfl) ?_
    refine lv_iconst (v := (4 : Int32)) hx hb dL_isSound_17 (by decide) ?_
    obtain ⟨v6, ev6, hf⟩ := xb hf
    obtain ⟨v7, ev7, hf⟩ := xb1 hf
    have ev7 := xinl_spec ev7
    refine xc_Vi (rest := [.long v1]) ⟨hx, hb, hml, hown, hts⟩ (m_X5_roof l B0 G h q0 v2 (4 : Int32) v7 ev7) (cwV 2 hts gL_isSound_X5_roof rfl rfl rfl (by decide +kernel) ⟨Nat.le_of_ble_eq_true rfl, Nat.le_of_ble_eq_true rfl⟩) hKK hP hS ev6 rfl rfl hl.1 rfl (Nat.le_of_ble_eq_true rfl) dL_isSound_18 ⟨Nat.zero_le _, Nat.zero_le _⟩ (fun H locs hP hS => ?_)
    refine lv_i2l hx hb dL_isSound_21 rfl ?_
    refine lv_ladd hx hb dL_isSound_22 ?_
    obtain ⟨v8, ev8, hf⟩ := xl hf
    refine xtopl ev8 ?_
    refine lv_lstore_n (lv' := [(1, .long v8), (3, .int v2), (0, .ref q0)]) hx hb dL_isSound_23 rfl hl (by decide) rfl (fun ls hl => ?_)
    obtain ⟨v9, ev9, hf⟩ := xl hf
    refine lv_iinc (v := v9) (lv' := [(3, .int v9), (1, .long v8), (0, .ref q0)]) hx hb dL_isSound_24 hl (k := 1) rfl (by rw [ev9]; rfl) (by decide) rfl (fun ls hl => ?_)
    refine lv_goto (tgt := 4) hx hb dL_isSound_27 (by decide) ?_
    exact IH _ (Option.some.inj hf).symm _ _ _ hP hS (lv_sub hl [1, 0, 2] rfl)
