/-- the law: cell -/
def f_L_cell (L : Nat) (xs : Nat → Int32) (p1 : Int32) : Option (Int32) :=
  obind1 (
    if (Int32.ofNat L) ≤ p1 then
      some ((1013904242 : Int32) * (p1 + (503 : Int32)))
    else
      (xsld L xs p1).bind fun v2 =>
      some v2
  ) fun v1 =>
  some (v1)
abbrev rmL_cell : Room := { frames := 0, cells := 0, slots := 0, locals := 0 }
set_option maxHeartbeats 4000000 in
set_option maxRecDepth 100000 in
theorem m_L_cell (l : Launch) (B0 : Nat) (G : XG) (h : XH) (q0 L : Nat) (xs : Nat → Int32) (p1 : Int32) (rE : Int32) (hf : f_L_cell L xs p1 = some rE) : Met l yL_cell wsL_cell rmL_cell (va_Pc [.ref q0, .int p1] (xUS B0 G h q0 L xs)) (xQi B0 G h rE) 0 0 (xA B0) := by
  refine xMetS (cc := cL_cell) (maxL := 2) (by decide) rfl (Nat.le_of_ble_eq_true rfl) ?_
  intro p e s m args below meth c ls hx hb hr hml hown hlocks hnm hts hKK hXs hbl hbA hP hl
  have hown : s.vm.findClass RL = some m.cls := hown
  have hl : lv_has ls 2 [(0, .ref q0), (1, .int p1)] := hl
  have hS : va_S (xA B0) s.heap s.heap [] := va_S.rf
  have w1 := hts (.constant RL 7 (1013904242)) (by decide +kernel)
  generalize hQ : MQ below (xQi B0 G h rE) args s 0 0 (xA B0) = Q
  unfold f_L_cell at hf
  refine lv_iload_n hx hb dL_cell_0 rfl (lv_at hl 1 rfl) ?_
  refine lv_aload_n hx hb dL_cell_1 rfl (lv_at hl 0 rfl) ?_
  refine va_slen hx hb hXs hbl hbA hS dL_cell_2 ?_
  obtain ⟨v1, ej1, hf⟩ := xb1 hf
  have J1 : ∀ (H : Heap) (locs : List Loc) (ls : Array Slot), xP B0 G h H → va_S (xA B0) s.heap H locs → lv_has ls 2 [] → W p l e rmL_cell s m args below meth c H locs 0 0 Q (F0 m 20 ls [.int v1]) := by
    intro H locs ls hP hS hl
    clear ej1
    obtain rfl := Option.some.inj hf
    subst hQ
    exact xe_i hx hb hr hlocks hKK hP hS dL_cell_20
  have hf := ej1
  clear ej1
  refine lv_icmp_ge (tgt := 12) hx hb dL_cell_3 (by decide) (fun c1 => ?_) (fun c1 => ?_)
  · have hf := xif_t hf c1
    refine lv_ldc (v := (1013904242 : Int32)) hx hb hown w1 dL_cell_12 ?_
    refine lv_iload_n hx hb dL_cell_14 rfl (lv_at hl 1 rfl) ?_
    refine lv_sipush (v := (503 : Int32)) hx hb dL_cell_15 (by decide) ?_
    refine lv_iadd hx hb dL_cell_18 ?_
    refine lv_imul hx hb dL_cell_19 ?_
    obtain rfl := Option.some.inj hf
    exact J1 _ _ _ hP hS (lv_sub hl [] rfl)
  · have hf := xif_f hf c1
    refine lv_aload_n hx hb dL_cell_6 rfl (lv_at hl 0 rfl) ?_
    refine lv_iload_n hx hb dL_cell_7 rfl (lv_at hl 1 rfl) ?_
    obtain ⟨v2, ev2, hf⟩ := xb hf
    refine xr_sld hx hb hXs hbl hbA hS ev2 dL_cell_8 ?_
    refine lv_goto (tgt := 20) hx hb dL_cell_9 (by decide) ?_
    obtain rfl := Option.some.inj hf
    exact J1 _ _ _ hP hS (lv_sub hl [] rfl)
/-- the law: up -/
def f_L_up (p0 : Int32) (p1 : Int32) : Option (Int32) :=
  (xnz p1).bind fun v1 =>
  some ((xremI (p0 &&& (2147483647 : Int32)) p1))
abbrev rmL_up : Room := { frames := 0, cells := 0, slots := 0, locals := 0 }
set_option maxHeartbeats 4000000 in
set_option maxRecDepth 100000 in
theorem m_L_up (l : Launch) (B0 : Nat) (G : XG) (h : XH) (p0 : Int32) (p1 : Int32) (rE : Int32) (hf : f_L_up p0 p1 = some rE) : Met l yL_up wsL_up rmL_up (va_Pc [.int p0, .int p1] (xU B0 G h)) (xQi B0 G h rE) 0 0 (xA B0) := by
  refine xMet (cc := cL_up) (maxL := 2) (by decide) rfl (Nat.le_of_ble_eq_true rfl) ?_
  intro p e s m args below meth c ls hx hb hr hml hown hlocks hnm hts hKK hP hl
  have hown : s.vm.findClass RL = some m.cls := hown
  have hl : lv_has ls 2 [(0, .int p0), (1, .int p1)] := hl
  have hS : va_S (xA B0) s.heap s.heap [] := va_S.rf
  have w1 := hts (.constant RL 8 (2147483647)) (by decide +kernel)
  generalize hQ : MQ below (xQi B0 G h rE) args s 0 0 (xA B0) = Q
  unfold f_L_up at hf
  refine lv_iload_n hx hb dL_up_0 rfl (lv_at hl 0 rfl) ?_
  refine lv_ldc (v := (2147483647 : Int32)) hx hb hown w1 dL_up_1 ?_
  refine lv_iand hx hb dL_up_3 ?_
  refine lv_iload_n hx hb dL_up_4 rfl (lv_at hl 1 rfl) ?_
  obtain ⟨v1, ev1, hf⟩ := xb hf
  refine xr_irem hx hb dL_up_5 (xnz_spec ev1) ?_
  obtain rfl := Option.some.inj hf
  subst hQ
  exact xe_i hx hb hr hlocks hKK hP hS dL_up_6
/-- the law: plans -/
def f_L_plans (fu : Nat) (L : Nat) (xs : Nat → Int32) (h : XH) (q0 : Nat) (q1 : Nat) : Option (Int32 × XH) :=
  obind1 (f_L_cell L xs (0 : Int32)) fun v1 =>
  obind1 (f_L_up v1 (6 : Int32)) fun v2 =>
  obind2 (xloop (xf3 fun (v3 : Int32) (v4 : Int32) (h1 : XH) =>
    if v2 ≤ v4 then
      some (.inr (v3, h1))
    else
      obind1 (f_L_cell L xs ((1 : Int32) + v4)) fun v6 =>
      obind1 (f_L_up v6 (240 : Int32)) fun v7 =>
      olet (((2 : Int32) + ((2 : Int32) * v7))) fun v8 =>
      obind1 (
        if v4 = (0 : Int32) then
          some (100 : Int32)
        else
          obind1 (f_L_up (v6 >>> ((8 : Int32) &&& (31 : Int32))) (100 : Int32)) fun v10 =>
          some ((1 : Int32) + v10)
      ) fun v9 =>
      obind1 (f_L_up (v6 >>> ((4 : Int32) &&& (31 : Int32))) (300 : Int32)) fun v11 =>
      olet (((2 : Int32) * v11)) fun v12 =>
      obind1 (f_L_up (v6 >>> ((12 : Int32) &&& (31 : Int32))) (3000 : Int32)) fun v13 =>
      olet (((2 : Int32) + ((2 : Int32) * v13))) fun v14 =>
      obind2 (
        oletk (
          fun (h4 : XH) =>
          some ((0 : Int32), h4)
        ) fun k4 =>
        if v3 = (0 : Int32) then
          k4 h1
        else
          (xis h1 q0 5).bind fun v16 =>
          obind2 (xinl (f_X5_addRoof fu h1 q0 v8 v9 v12 v14)) fun v17 h5 =>
          if v17 = v4 then
            some ((1 : Int32), h5)
          else
            k4 h5
      ) fun v15 h3 =>
      obind2 (
        if v4 = (0 : Int32) then
          obind2 (
            oletk (
              fun (h8 : XH) =>
              some ((0 : Int32), h8)
            ) fun k7 =>
            if v15 = (0 : Int32) then
              k7 h3
            else
              (xis h3 q1 5).bind fun v20 =>
              obind2 (xinl (f_X5_addRoof fu h3 q1 (v8 / (2 : Int32)) v9 (v12 / (2 : Int32)) (v14 / (2 : Int32)))) fun v21 h9 =>
              if v21 = (0 : Int32) then
                some ((1 : Int32), h9)
              else
                k7 h9
          ) fun v19 h7 =>
          some (v19, h7)
        else
          some (v15, h3)
      ) fun v18 h6 =>
      obind2 (
        oletk (
          fun (h11 : XH) =>
          some ((0 : Int32), h11)
        ) fun k9 =>
        if v18 = (0 : Int32) then
          k9 h6
        else
          oletk (
            fun (h12 : XH) =>
            some ((1 : Int32), h12)
          ) fun k10 =>
          if v4 = (0 : Int32) then
            (xis h6 q1 5).bind fun v25 =>
            obind2 (xinl (f_X5_addRoof fu h6 q1 (v8 / (2 : Int32)) v9 (v12 / (2 : Int32)) (v14 / (2 : Int32)))) fun v26 h14 =>
            if v26 = (1 : Int32) then
              k10 h14
            else
              k9 h14
          else
            (xis h6 q1 5).bind fun v23 =>
            obind2 (xinl (f_X5_addRoof fu h6 q1 v8 v9 v12 v14)) fun v24 h13 =>
            if v24 = (v4 + (1 : Int32)) then
              k10 h13
            else
              k9 h13
      ) fun v22 h10 =>
      olet (v4 + (1 : Int32)) fun v27 =>
      some (.inl (v22, v27, h10))
  ) fu ((1 : Int32), (0 : Int32), h)) fun v5 h2 =>
  obind1 (f_L_cell L xs (7 : Int32)) fun v28 =>
  obind1 (f_L_up v28 (6 : Int32)) fun v29 =>
  obind2 (xloop (xf3 fun (v30 : Int32) (v31 : Int32) (h15 : XH) =>
    if v29 ≤ v31 then
      some (.inr (v30, h15))
    else
      obind1 (f_L_cell L xs ((8 : Int32) + v31)) fun v33 =>
      obind2 (
        oletk (
          fun (h18 : XH) =>
          some ((0 : Int32), h18)
        ) fun k13 =>
        if v30 = (0 : Int32) then
          k13 h15
        else
          obind1 (f_L_up v33 (1500 : Int32)) fun v35 =>
          obind1 (f_L_up (v33 >>> ((12 : Int32) &&& (31 : Int32))) (9 : Int32)) fun v36 =>
          (xis h15 q0 5).bind fun v37 =>
          obind2 (xinl (f_X5_addUser fu h15 q0 v35 ((1 : Int32) + v36))) fun v38 h19 =>
          if v38 = v31 then
            obind1 (f_L_up v33 (1500 : Int32)) fun v39 =>
            obind1 (f_L_up (v33 >>> ((12 : Int32) &&& (31 : Int32))) (9 : Int32)) fun v40 =>
            (xis h19 q1 5).bind fun v41 =>
            obind2 (xinl (f_X5_addUser fu h19 q1 v39 ((1 : Int32) + v40))) fun v42 h20 =>
            if v42 = v31 then
              some ((1 : Int32), h20)
            else
              k13 h20
          else
            k13 h19
      ) fun v34 h17 =>
      olet (v31 + (1 : Int32)) fun v43 =>
      some (.inl (v34, v43, h17))
  ) fu (v5, (0 : Int32), h2)) fun v32 h16 =>
  (xbool v32).bind fun v44 =>
  some ((v44, h16))
abbrev rmL_plans : Room := { frames := 8, cells := 0, slots := 0, locals := 153 }
set_option maxHeartbeats 4000000 in
set_option maxRecDepth 100000 in
theorem m_L_plans (l : Launch) (B0 : Nat) (G : XG) (fu : Nat) (h hE : XH) (q2 L : Nat) (xs : Nat → Int32) (q0 : Nat) (q1 : Nat) (rE : Int32) (hf : f_L_plans fu L xs h q0 q1 = some (rE, hE)) : Met l yL_plans wsL_plans rmL_plans (va_Pc [.ref q0, .ref q1, .ref q2] (xUS B0 G h q2 L xs)) (xQi B0 G hE rE) 0 0 (xA B0) := by
  refine xMetS (cc := cL_plans) (maxL := 11) (by decide) rfl (Nat.le_of_ble_eq_true rfl) ?_
  intro p e s m args below meth c ls hx hb hr hml hown hlocks hnm hts hKK hXs hbl hbA hP hl
  have hown : s.vm.findClass RL = some m.cls := hown
  have hl : lv_has ls 11 [(0, .ref q0), (1, .ref q1), (2, .ref q2)] := hl
  have hS : va_S (xA B0) s.heap s.heap [] := va_S.rf
  generalize hQ : MQ below (xQi B0 G hE rE) args s 0 0 (xA B0) = Q
  unfold f_L_plans at hf
  refine lv_iconst (v := (1 : Int32)) hx hb dL_plans_0 (by decide) ?_
  refine lv_istore_n (lv' := [(3, .int (1 : Int32)), (0, .ref q0), (1, .ref q1), (2, .ref q2)]) hx hb dL_plans_1 rfl hl (by decide) rfl (fun ls hl => ?_)
  refine lv_aload_n hx hb dL_plans_2 rfl (lv_at hl 3 rfl) ?_
  refine lv_iconst (v := (0 : Int32)) hx hb dL_plans_3 (by decide) ?_
  obtain ⟨v1, ev1, hf⟩ := xb1 hf
  refine xc_SiS (rest := []) ⟨hx, hb, hml, hown, hts⟩ (m_L_cell l B0 G h q2 L xs (0 : Int32) v1 ev1) (va_cwS 2 hts gL_plans_L_cell rfl rfl rfl (by decide +kernel) ⟨Nat.le_of_ble_eq_true rfl, Nat.le_of_ble_eq_true rfl⟩) hKK hXs hbl hbA hP hS rfl hl.1 rfl (Nat.le_of_ble_eq_true rfl) dL_plans_4 ⟨Nat.zero_le _, Nat.zero_le _⟩ (fun H locs hP hS => ?_)
  refine lv_bipush (v := (6 : Int32)) hx hb dL_plans_7 (by decide) ?_
  obtain ⟨v2, ev2, hf⟩ := xb1 hf
  refine xc_Si (rest := []) ⟨hx, hb, hml, hown, hts⟩ (m_L_up l B0 G h v1 (6 : Int32) v2 ev2) (va_cwS 2 hts gL_plans_L_up rfl rfl rfl (by decide +kernel) ⟨Nat.le_of_ble_eq_true rfl, Nat.le_of_ble_eq_true rfl⟩) hKK hP hS rfl hl.1 rfl (Nat.le_of_ble_eq_true rfl) dL_plans_9 ⟨Nat.zero_le _, Nat.zero_le _⟩ (fun H locs hP hS => ?_)
  refine lv_istore (lv' := [(4, .int v2), (3, .int (1 : Int32)), (0, .ref q0), (1, .ref q1), (2, .ref q2)]) hx hb dL_plans_12 hl (by decide) rfl (fun ls hl => ?_)
  refine lv_iconst (v := (0 : Int32)) hx hb dL_plans_14 (by decide) ?_
  refine lv_istore (lv' := [(5, .int (0 : Int32)), (4, .int v2), (3, .int (1 : Int32)), (0, .ref q0), (1, .ref q1), (2, .ref q2)]) hx hb dL_plans_15 hl (by decide) rfl (fun ls hl => ?_)
  obtain ⟨v5, h2, eL, hf⟩ := xb2 hf
  have J1 : ∀ (H : Heap) (locs : List Loc) (ls : Array Slot), xP B0 G h2 H → va_S (xA B0) s.heap H locs → lv_has ls 11 [(3, .int v5), (0, .ref q0), (1, .ref q1), (2, .ref q2)] → W p l e rmL_plans s m args below meth c H locs 0 0 Q (F0 m 231 ls []) := by
    intro H locs ls hP hS hl
    clear eL
    refine lv_aload_n hx hb dL_plans_231 rfl (lv_at hl 3 rfl) ?_
    refine lv_bipush (v := (7 : Int32)) hx hb dL_plans_232 (by decide) ?_
    obtain ⟨v28, ev28, hf⟩ := xb1 hf
    refine xc_SiS (rest := []) ⟨hx, hb, hml, hown, hts⟩ (m_L_cell l B0 G h2 q2 L xs (7 : Int32) v28 ev28) (va_cwS 2 hts gL_plans_L_cell rfl rfl rfl (by decide +kernel) ⟨Nat.le_of_ble_eq_true rfl, Nat.le_of_ble_eq_true rfl⟩) hKK hXs hbl hbA hP hS rfl hl.1 rfl (Nat.le_of_ble_eq_true rfl) dL_plans_234 ⟨Nat.zero_le _, Nat.zero_le _⟩ (fun H locs hP hS => ?_)
    refine lv_bipush (v := (6 : Int32)) hx hb dL_plans_237 (by decide) ?_
    obtain ⟨v29, ev29, hf⟩ := xb1 hf
    refine xc_Si (rest := []) ⟨hx, hb, hml, hown, hts⟩ (m_L_up l B0 G h2 v28 (6 : Int32) v29 ev29) (va_cwS 2 hts gL_plans_L_up rfl rfl rfl (by decide +kernel) ⟨Nat.le_of_ble_eq_true rfl, Nat.le_of_ble_eq_true rfl⟩) hKK hP hS rfl hl.1 rfl (Nat.le_of_ble_eq_true rfl) dL_plans_239 ⟨Nat.zero_le _, Nat.zero_le _⟩ (fun H locs hP hS => ?_)
    refine lv_istore (lv' := [(5, .int v29), (3, .int v5), (0, .ref q0), (1, .ref q1), (2, .ref q2)]) hx hb dL_plans_242 hl (by decide) rfl (fun ls hl => ?_)
    refine lv_iconst (v := (0 : Int32)) hx hb dL_plans_244 (by decide) ?_
    refine lv_istore (lv' := [(6, .int (0 : Int32)), (5, .int v29), (3, .int v5), (0, .ref q0), (1, .ref q1), (2, .ref q2)]) hx hb dL_plans_245 hl (by decide) rfl (fun ls hl => ?_)
    obtain ⟨v32, h16, eL, hf⟩ := xb2 hf
    have J11 : ∀ (H : Heap) (locs : List Loc) (ls : Array Slot), xP B0 G h16 H → va_S (xA B0) s.heap H locs → lv_has ls 11 [(3, .int v32)] → W p l e rmL_plans s m args below meth c H locs 0 0 Q (F0 m 339 ls []) := by
      intro H locs ls hP hS hl
      clear eL
      refine lv_iload_n hx hb dL_plans_339 rfl (lv_at hl 0 rfl) ?_
      obtain ⟨v44, ev44, hf⟩ := xb hf
      obtain ⟨rfl, rfl⟩ := xinj2 hf
      subst hQ
      exact xe_z hx hb hr hlocks hKK hP hS ev44 dL_plans_340
    clear hf
    refine xloop_ind (P := fun z => ∀ (H : Heap) (locs : List Loc) (ls : Array Slot), xP B0 G z.2.2 H → va_S (xA B0) s.heap H locs → lv_has ls 11 [(3, .int z.1), (6, .int z.2.1), (5, .int v29), (0, .ref q0), (1, .ref q1), (2, .ref q2)] → W p l e rmL_plans s m args below meth c H locs 0 0 Q (F0 m 247 ls [])) ?_ eL _ _ _ hP hS (lv_sub hl [2, 0, 1, 3, 4, 5] rfl)
    rintro ⟨v30, v31, h15⟩ o hf IH EX H locs ls hP hS hl
    have hf := xf3_e hf
    have hP : xP B0 G h15 H := hP
    have hl : lv_has ls 11 [(3, .int v30), (6, .int v31), (5, .int v29), (0, .ref q0), (1, .ref q1), (2, .ref q2)] := hl
    refine lv_iload hx hb dL_plans_247 (lv_at hl 1 rfl) ?_
    refine lv_iload hx hb dL_plans_249 (lv_at hl 2 rfl) ?_
    refine lv_icmp_ge (tgt := 339) hx hb dL_plans_251 (by decide) (fun c12 => ?_) (fun c12 => ?_)
    · have hf := xif_t hf c12
      have hf := EX _ (Option.some.inj hf).symm
      obtain ⟨rfl, rfl⟩ := xpair2 hf
      exact J11 _ _ _ hP hS (lv_sub hl [0] rfl)
    · have hf := xif_f hf c12
      refine lv_aload_n hx hb dL_plans_254 rfl (lv_at hl 5 rfl) ?_
      refine lv_bipush (v := (8 : Int32)) hx hb dL_plans_255 (by decide) ?_
      refine lv_iload hx hb dL_plans_257 (lv_at hl 1 rfl) ?_
      refine lv_iadd hx hb dL_plans_259 ?_
      obtain ⟨v33, ev33, hf⟩ := xb1 hf
      refine xc_SiS (rest := []) ⟨hx, hb, hml, hown, hts⟩ (m_L_cell l B0 G h15 q2 L xs ((8 : Int32) + v31) v33 ev33) (va_cwS 2 hts gL_plans_L_cell rfl rfl rfl (by decide +kernel) ⟨Nat.le_of_ble_eq_true rfl, Nat.le_of_ble_eq_true rfl⟩) hKK hXs hbl hbA hP hS rfl hl.1 rfl (Nat.le_of_ble_eq_true rfl) dL_plans_260 ⟨Nat.zero_le _, Nat.zero_le _⟩ (fun H locs hP hS => ?_)
      refine lv_istore (lv' := [(7, .int v33), (3, .int v30), (6, .int v31), (5, .int v29), (0, .ref q0), (1, .ref q1), (2, .ref q2)]) hx hb dL_plans_263 hl (by decide) rfl (fun ls hl => ?_)
      refine lv_iload_n hx hb dL_plans_265 rfl (lv_at hl 1 rfl) ?_
      obtain ⟨v34, h17, ej12, hf⟩ := xb2 hf
      have J12 : ∀ (H : Heap) (locs : List Loc) (ls : Array Slot), xP B0 G h17 H → va_S (xA B0) s.heap H locs → lv_has ls 11 [(6, .int v31), (5, .int v29), (0, .ref q0), (1, .ref q1), (2, .ref q2)] → W p l e rmL_plans s m args below meth c H locs 0 0 Q (F0 m 332 ls [.int v34]) := by
        intro H locs ls hP hS hl
        clear ej12
        refine lv_istore_n (lv' := [(3, .int v34), (6, .int v31), (5, .int v29), (0, .ref q0), (1, .ref q1), (2, .ref q2)]) hx hb dL_plans_332 rfl hl (by decide) rfl (fun ls hl => ?_)
        obtain ⟨v43, ev43, hf⟩ := xl hf
        refine lv_iinc (v := v43) (lv' := [(6, .int v43), (3, .int v34), (5, .int v29), (0, .ref q0), (1, .ref q1), (2, .ref q2)]) hx hb dL_plans_333 hl (k := 1) rfl (by rw [ev43]; rfl) (by decide) rfl (fun ls hl => ?_)
        refine lv_goto (tgt := 247) hx hb dL_plans_336 (by decide) ?_
        exact IH _ (Option.some.inj hf).symm _ _ _ hP hS (lv_sub hl [1, 0, 2, 3, 4, 5] rfl)
      have hf := ej12
      clear ej12
      obtain ⟨k13, ek13, hf⟩ := xlk hf
      have J13 : ∀ (h18 : XH), k13 h18 = some (v34, h17) → ∀ (H : Heap) (locs : List Loc) (ls : Array Slot), xP B0 G h18 H → va_S (xA B0) s.heap H locs → lv_has ls 11 [(6, .int v31), (5, .int v29), (0, .ref q0), (1, .ref q1), (2, .ref q2)] → W p l e rmL_plans s m args below meth c H locs 0 0 Q (F0 m 331 ls []) := by
        intro h18 hf H locs ls hP hS hl
        have hf := xk1 ek13 hf
        clear ek13
        refine lv_iconst (v := (0 : Int32)) hx hb dL_plans_331 (by decide) ?_
        obtain ⟨rfl, rfl⟩ := xinj2 hf
        exact J12 _ _ _ hP hS (lv_sub hl [0, 1, 2, 3, 4] rfl)
      clear ek13
      refine lv_if_eq (tgt := 331) hx hb dL_plans_266 (by decide) (fun c13 => ?_) (fun c13 => ?_)
      · have hf := xif_t hf c13
        exact J13 _ hf _ _ _ hP hS (lv_sub hl [2, 3, 4, 5, 6] rfl)
      · have hf := xif_f hf c13
        refine lv_aload_n hx hb dL_plans_269 rfl (lv_at hl 4 rfl) ?_
        refine lv_iload hx hb dL_plans_270 (lv_at hl 0 rfl) ?_
        refine lv_sipush (v := (1500 : Int32)) hx hb dL_plans_272 (by decide) ?_
        obtain ⟨v35, ev35, hf⟩ := xb1 hf
        refine xc_Si (rest := [.ref q0]) ⟨hx, hb, hml, hown, hts⟩ (m_L_up l B0 G h15 v33 (1500 : Int32) v35 ev35) (va_cwS 2 hts gL_plans_L_up rfl rfl rfl (by decide +kernel) ⟨Nat.le_of_ble_eq_true rfl, Nat.le_of_ble_eq_true rfl⟩) hKK hP hS rfl hl.1 rfl (Nat.le_of_ble_eq_true rfl) dL_plans_275 ⟨Nat.zero_le _, Nat.zero_le _⟩ (fun H locs hP hS => ?_)
        refine lv_iconst (v := (1 : Int32)) hx hb dL_plans_278 (by decide) ?_
        refine lv_iload hx hb dL_plans_279 (lv_at hl 0 rfl) ?_
        refine lv_bipush (v := (12 : Int32)) hx hb dL_plans_281 (by decide) ?_
        refine lv_ishr hx hb dL_plans_283 ?_
        refine lv_bipush (v := (9 : Int32)) hx hb dL_plans_284 (by decide) ?_
        obtain ⟨v36, ev36, hf⟩ := xb1 hf
        refine xc_Si (rest := [.int (1 : Int32), .int v35, .ref q0]) ⟨hx, hb, hml, hown, hts⟩ (m_L_up l B0 G h15 (v33 >>> ((12 : Int32) &&& (31 : Int32))) (9 : Int32) v36 ev36) (va_cwS 2 hts gL_plans_L_up rfl rfl rfl (by decide +kernel) ⟨Nat.le_of_ble_eq_true rfl, Nat.le_of_ble_eq_true rfl⟩) hKK hP hS rfl hl.1 rfl (Nat.le_of_ble_eq_true rfl) dL_plans_286 ⟨Nat.zero_le _, Nat.zero_le _⟩ (fun H locs hP hS => ?_)
        refine lv_iadd hx hb dL_plans_289 ?_
        obtain ⟨v37, ev37, hf⟩ := xb hf
        obtain ⟨v38, h19, ev38, hf⟩ := xb2 hf
        have ev38 := xinl_spec ev38
        refine xc_Vi (rest := []) ⟨hx, hb, hml, hown, hts⟩ (m_X5_addUser l B0 G fu h15 h19 q0 v35 ((1 : Int32) + v36) v38 ev38) (cwV 2 hts gL_plans_X5_addUser rfl rfl rfl (by decide +kernel) ⟨Nat.le_of_ble_eq_true rfl, Nat.le_of_ble_eq_true rfl⟩) hKK hP hS ev37 rfl rfl hl.1 rfl (Nat.le_of_ble_eq_true rfl) dL_plans_290 ⟨Nat.zero_le _, Nat.zero_le _⟩ (fun H locs hP hS => ?_)
        refine lv_iload hx hb dL_plans_293 (lv_at hl 2 rfl) ?_
        refine lv_icmp_ne (tgt := 331) hx hb dL_plans_295 (by decide) (fun c14 => ?_) (fun c14 => ?_)
        · have hf := xif_f hf c14
          exact J13 _ hf _ _ _ hP hS (lv_sub hl [2, 3, 4, 5, 6] rfl)
        · have hf := xif_t hf c14
          refine lv_aload_n hx hb dL_plans_298 rfl (lv_at hl 5 rfl) ?_
          refine lv_iload hx hb dL_plans_299 (lv_at hl 0 rfl) ?_
          refine lv_sipush (v := (1500 : Int32)) hx hb dL_plans_301 (by decide) ?_
          obtain ⟨v39, ev39, hf⟩ := xb1 hf
          refine xc_Si (rest := [.ref q1]) ⟨hx, hb, hml, hown, hts⟩ (m_L_up l B0 G h19 v33 (1500 : Int32) v39 ev39) (va_cwS 2 hts gL_plans_L_up rfl rfl rfl (by decide +kernel) ⟨Nat.le_of_ble_eq_true rfl, Nat.le_of_ble_eq_true rfl⟩) hKK hP hS rfl hl.1 rfl (Nat.le_of_ble_eq_true rfl) dL_plans_304 ⟨Nat.zero_le _, Nat.zero_le _⟩ (fun H locs hP hS => ?_)
          refine lv_iconst (v := (1 : Int32)) hx hb dL_plans_307 (by decide) ?_
          refine lv_iload hx hb dL_plans_308 (lv_at hl 0 rfl) ?_
          refine lv_bipush (v := (12 : Int32)) hx hb dL_plans_310 (by decide) ?_
          refine lv_ishr hx hb dL_plans_312 ?_
          refine lv_bipush (v := (9 : Int32)) hx hb dL_plans_313 (by decide) ?_
          obtain ⟨v40, ev40, hf⟩ := xb1 hf
          refine xc_Si (rest := [.int (1 : Int32), .int v39, .ref q1]) ⟨hx, hb, hml, hown, hts⟩ (m_L_up l B0 G h19 (v33 >>> ((12 : Int32) &&& (31 : Int32))) (9 : Int32) v40 ev40) (va_cwS 2 hts gL_plans_L_up rfl rfl rfl (by decide +kernel) ⟨Nat.le_of_ble_eq_true rfl, Nat.le_of_ble_eq_true rfl⟩) hKK hP hS rfl hl.1 rfl (Nat.le_of_ble_eq_true rfl) dL_plans_315 ⟨Nat.zero_le _, Nat.zero_le _⟩ (fun H locs hP hS => ?_)
          refine lv_iadd hx hb dL_plans_318 ?_
          obtain ⟨v41, ev41, hf⟩ := xb hf
          obtain ⟨v42, h20, ev42, hf⟩ := xb2 hf
          have ev42 := xinl_spec ev42
          refine xc_Vi (rest := []) ⟨hx, hb, hml, hown, hts⟩ (m_X5_addUser l B0 G fu h19 h20 q1 v39 ((1 : Int32) + v40) v42 ev42) (cwV 2 hts gL_plans_X5_addUser rfl rfl rfl (by decide +kernel) ⟨Nat.le_of_ble_eq_true rfl, Nat.le_of_ble_eq_true rfl⟩) hKK hP hS ev41 rfl rfl hl.1 rfl (Nat.le_of_ble_eq_true rfl) dL_plans_319 ⟨Nat.zero_le _, Nat.zero_le _⟩ (fun H locs hP hS => ?_)
          refine lv_iload hx hb dL_plans_322 (lv_at hl 2 rfl) ?_
          refine lv_icmp_ne (tgt := 331) hx hb dL_plans_324 (by decide) (fun c15 => ?_) (fun c15 => ?_)
          · have hf := xif_f hf c15
            exact J13 _ hf _ _ _ hP hS (lv_sub hl [2, 3, 4, 5, 6] rfl)
          · have hf := xif_t hf c15
            refine lv_iconst (v := (1 : Int32)) hx hb dL_plans_327 (by decide) ?_
            refine lv_goto (tgt := 332) hx hb dL_plans_328 (by decide) ?_
            obtain ⟨rfl, rfl⟩ := xinj2 hf
            exact J12 _ _ _ hP hS (lv_sub hl [2, 3, 4, 5, 6] rfl)
  clear hf
  refine xloop_ind (P := fun z => ∀ (H : Heap) (locs : List Loc) (ls : Array Slot), xP B0 G z.2.2 H → va_S (xA B0) s.heap H locs → lv_has ls 11 [(3, .int z.1), (5, .int z.2.1), (4, .int v2), (0, .ref q0), (1, .ref q1), (2, .ref q2)] → W p l e rmL_plans s m args below meth c H locs 0 0 Q (F0 m 17 ls [])) ?_ eL _ _ _ hP hS (lv_sub hl [2, 0, 1, 3, 4, 5] rfl)
  rintro ⟨v3, v4, h1⟩ o hf IH EX H locs ls hP hS hl
  have hf := xf3_e hf
  have hP : xP B0 G h1 H := hP
  have hl : lv_has ls 11 [(3, .int v3), (5, .int v4), (4, .int v2), (0, .ref q0), (1, .ref q1), (2, .ref q2)] := hl
  refine lv_iload hx hb dL_plans_17 (lv_at hl 1 rfl) ?_
  refine lv_iload hx hb dL_plans_19 (lv_at hl 2 rfl) ?_
  refine lv_icmp_ge (tgt := 231) hx hb dL_plans_21 (by decide) (fun c1 => ?_) (fun c1 => ?_)
  · have hf := xif_t hf c1
    have hf := EX _ (Option.some.inj hf).symm
    obtain ⟨rfl, rfl⟩ := xpair2 hf
    exact J1 _ _ _ hP hS (lv_sub hl [0, 3, 4, 5] rfl)
  · have hf := xif_f hf c1
    refine lv_aload_n hx hb dL_plans_24 rfl (lv_at hl 5 rfl) ?_
    refine lv_iconst (v := (1 : Int32)) hx hb dL_plans_25 (by decide) ?_
    refine lv_iload hx hb dL_plans_26 (lv_at hl 1 rfl) ?_
    refine lv_iadd hx hb dL_plans_28 ?_
    obtain ⟨v6, ev6, hf⟩ := xb1 hf
    refine xc_SiS (rest := []) ⟨hx, hb, hml, hown, hts⟩ (m_L_cell l B0 G h1 q2 L xs ((1 : Int32) + v4) v6 ev6) (va_cwS 2 hts gL_plans_L_cell rfl rfl rfl (by decide +kernel) ⟨Nat.le_of_ble_eq_true rfl, Nat.le_of_ble_eq_true rfl⟩) hKK hXs hbl hbA hP hS rfl hl.1 rfl (Nat.le_of_ble_eq_true rfl) dL_plans_29 ⟨Nat.zero_le _, Nat.zero_le _⟩ (fun H locs hP hS => ?_)
    refine lv_istore (lv' := [(6, .int v6), (3, .int v3), (5, .int v4), (4, .int v2), (0, .ref q0), (1, .ref q1), (2, .ref q2)]) hx hb dL_plans_32 hl (by decide) rfl (fun ls hl => ?_)
    refine lv_iconst (v := (2 : Int32)) hx hb dL_plans_34 (by decide) ?_
    refine lv_iconst (v := (2 : Int32)) hx hb dL_plans_35 (by decide) ?_
    refine lv_iload hx hb dL_plans_36 (lv_at hl 0 rfl) ?_
    refine lv_sipush (v := (240 : Int32)) hx hb dL_plans_38 (by decide) ?_
    obtain ⟨v7, ev7, hf⟩ := xb1 hf
    refine xc_Si (rest := [.int (2 : Int32), .int (2 : Int32)]) ⟨hx, hb, hml, hown, hts⟩ (m_L_up l B0 G h1 v6 (240 : Int32) v7 ev7) (va_cwS 2 hts gL_plans_L_up rfl rfl rfl (by decide +kernel) ⟨Nat.le_of_ble_eq_true rfl, Nat.le_of_ble_eq_true rfl⟩) hKK hP hS rfl hl.1 rfl (Nat.le_of_ble_eq_true rfl) dL_plans_41 ⟨Nat.zero_le _, Nat.zero_le _⟩ (fun H locs hP hS => ?_)
    refine lv_imul hx hb dL_plans_44 ?_
    refine lv_iadd hx hb dL_plans_45 ?_
    obtain ⟨v8, ev8, hf⟩ := xl hf
    refine xtopi ev8 ?_
    refine lv_istore (lv' := [(7, .int v8), (6, .int v6), (3, .int v3), (5, .int v4), (4, .int v2), (0, .ref q0), (1, .ref q1), (2, .ref q2)]) hx hb dL_plans_46 hl (by decide) rfl (fun ls hl => ?_)
    refine lv_iload hx hb dL_plans_48 (lv_at hl 3 rfl) ?_
    obtain ⟨v9, ej2, hf⟩ := xb1 hf
    have J2 : ∀ (H : Heap) (locs : List Loc) (ls : Array Slot), xP B0 G h1 H → va_S (xA B0) s.heap H locs → lv_has ls 11 [(7, .int v8), (6, .int v6), (3, .int v3), (5, .int v4), (4, .int v2), (0, .ref q0), (1, .ref q1), (2, .ref q2)] → W p l e rmL_plans s m args below meth c H locs 0 0 Q (F0 m 70 ls [.int v9]) := by
      intro H locs ls hP hS hl
      clear ej2
      refine lv_istore (lv' := [(8, .int v9), (7, .int v8), (6, .int v6), (3, .int v3), (5, .int v4), (4, .int v2), (0, .ref q0), (1, .ref q1), (2, .ref q2)]) hx hb dL_plans_70 hl (by decide) rfl (fun ls hl => ?_)
      refine lv_iconst (v := (2 : Int32)) hx hb dL_plans_72 (by decide) ?_
      refine lv_iload hx hb dL_plans_73 (lv_at hl 2 rfl) ?_
      refine lv_iconst (v := (4 : Int32)) hx hb dL_plans_75 (by decide) ?_
      refine lv_ishr hx hb dL_plans_76 ?_
      refine lv_sipush (v := (300 : Int32)) hx hb dL_plans_77 (by decide) ?_
      obtain ⟨v11, ev11, hf⟩ := xb1 hf
      refine xc_Si (rest := [.int (2 : Int32)]) ⟨hx, hb, hml, hown, hts⟩ (m_L_up l B0 G h1 (v6 >>> ((4 : Int32) &&& (31 : Int32))) (300 : Int32) v11 ev11) (va_cwS 2 hts gL_plans_L_up rfl rfl rfl (by decide +kernel) ⟨Nat.le_of_ble_eq_true rfl, Nat.le_of_ble_eq_true rfl⟩) hKK hP hS rfl hl.1 rfl (Nat.le_of_ble_eq_true rfl) dL_plans_80 ⟨Nat.zero_le _, Nat.zero_le _⟩ (fun H locs hP hS => ?_)
      refine lv_imul hx hb dL_plans_83 ?_
      obtain ⟨v12, ev12, hf⟩ := xl hf
      refine xtopi ev12 ?_
      refine lv_istore (lv' := [(9, .int v12), (8, .int v9), (7, .int v8), (6, .int v6), (3, .int v3), (5, .int v4), (4, .int v2), (0, .ref q0), (1, .ref q1), (2, .ref q2)]) hx hb dL_plans_84 hl (by decide) rfl (fun ls hl => ?_)
      refine lv_iconst (v := (2 : Int32)) hx hb dL_plans_86 (by decide) ?_
      refine lv_iconst (v := (2 : Int32)) hx hb dL_plans_87 (by decide) ?_
      refine lv_iload hx hb dL_plans_88 (lv_at hl 3 rfl) ?_
      refine lv_bipush (v := (12 : Int32)) hx hb dL_plans_90 (by decide) ?_
      refine lv_ishr hx hb dL_plans_92 ?_
      refine lv_sipush (v := (3000 : Int32)) hx hb dL_plans_93 (by decide) ?_
      obtain ⟨v13, ev13, hf⟩ := xb1 hf
      refine xc_Si (rest := [.int (2 : Int32), .int (2 : Int32)]) ⟨hx, hb, hml, hown, hts⟩ (m_L_up l B0 G h1 (v6 >>> ((12 : Int32) &&& (31 : Int32))) (3000 : Int32) v13 ev13) (va_cwS 2 hts gL_plans_L_up rfl rfl rfl (by decide +kernel) ⟨Nat.le_of_ble_eq_true rfl, Nat.le_of_ble_eq_true rfl⟩) hKK hP hS rfl hl.1 rfl (Nat.le_of_ble_eq_true rfl) dL_plans_96 ⟨Nat.zero_le _, Nat.zero_le _⟩ (fun H locs hP hS => ?_)
      refine lv_imul hx hb dL_plans_99 ?_
      refine lv_iadd hx hb dL_plans_100 ?_
      obtain ⟨v14, ev14, hf⟩ := xl hf
      refine xtopi ev14 ?_
      refine lv_istore (lv' := [(10, .int v14), (9, .int v12), (8, .int v9), (7, .int v8), (6, .int v6), (3, .int v3), (5, .int v4), (4, .int v2), (0, .ref q0), (1, .ref q1), (2, .ref q2)]) hx hb dL_plans_101 hl (by decide) rfl (fun ls hl => ?_)
      refine lv_iload_n hx hb dL_plans_103 rfl (lv_at hl 5 rfl) ?_
      obtain ⟨v15, h3, ej3, hf⟩ := xb2 hf
      have J3 : ∀ (H : Heap) (locs : List Loc) (ls : Array Slot), xP B0 G h3 H → va_S (xA B0) s.heap H locs → lv_has ls 11 [(10, .int v14), (9, .int v12), (8, .int v9), (7, .int v8), (5, .int v4), (4, .int v2), (0, .ref q0), (1, .ref q1), (2, .ref q2)] → W p l e rmL_plans s m args below meth c H locs 0 0 Q (F0 m 129 ls [.int v15]) := by
        intro H locs ls hP hS hl
        clear ej3
        refine lv_istore_n (lv' := [(3, .int v15), (10, .int v14), (9, .int v12), (8, .int v9), (7, .int v8), (5, .int v4), (4, .int v2), (0, .ref q0), (1, .ref q1), (2, .ref q2)]) hx hb dL_plans_129 rfl hl (by decide) rfl (fun ls hl => ?_)
        refine lv_iload hx hb dL_plans_130 (lv_at hl 5 rfl) ?_
        obtain ⟨v18, h6, ej5, hf⟩ := xb2 hf
        have J5 : ∀ (H : Heap) (locs : List Loc) (ls : Array Slot), xP B0 G h6 H → va_S (xA B0) s.heap H locs → lv_has ls 11 [(3, .int v18), (10, .int v14), (9, .int v12), (8, .int v9), (7, .int v8), (5, .int v4), (4, .int v2), (0, .ref q0), (1, .ref q1), (2, .ref q2)] → W p l e rmL_plans s m args below meth c H locs 0 0 Q (F0 m 166 ls []) := by
          intro H locs ls hP hS hl
          clear ej5
          refine lv_iload_n hx hb dL_plans_166 rfl (lv_at hl 0 rfl) ?_
          obtain ⟨v22, h10, ej8, hf⟩ := xb2 hf
          have J8 : ∀ (H : Heap) (locs : List Loc) (ls : Array Slot), xP B0 G h10 H → va_S (xA B0) s.heap H locs → lv_has ls 11 [(5, .int v4), (4, .int v2), (0, .ref q0), (1, .ref q1), (2, .ref q2)] → W p l e rmL_plans s m args below meth c H locs 0 0 Q (F0 m 224 ls [.int v22]) := by
            intro H locs ls hP hS hl
            clear ej8
            refine lv_istore_n (lv' := [(3, .int v22), (5, .int v4), (4, .int v2), (0, .ref q0), (1, .ref q1), (2, .ref q2)]) hx hb dL_plans_224 rfl hl (by decide) rfl (fun ls hl => ?_)
            obtain ⟨v27, ev27, hf⟩ := xl hf
            refine lv_iinc (v := v27) (lv' := [(5, .int v27), (3, .int v22), (4, .int v2), (0, .ref q0), (1, .ref q1), (2, .ref q2)]) hx hb dL_plans_225 hl (k := 1) rfl (by rw [ev27]; rfl) (by decide) rfl (fun ls hl => ?_)
            refine lv_goto (tgt := 17) hx hb dL_plans_228 (by decide) ?_
            exact IH _ (Option.some.inj hf).symm _ _ _ hP hS (lv_sub hl [1, 0, 2, 3, 4, 5] rfl)
          have hf := ej8
          clear ej8
          obtain ⟨k9, ek9, hf⟩ := xlk hf
          have J9 : ∀ (h11 : XH), k9 h11 = some (v22, h10) → ∀ (H : Heap) (locs : List Loc) (ls : Array Slot), xP B0 G h11 H → va_S (xA B0) s.heap H locs → lv_has ls 11 [(5, .int v4), (4, .int v2), (0, .ref q0), (1, .ref q1), (2, .ref q2)] → W p l e rmL_plans s m args below meth c H locs 0 0 Q (F0 m 223 ls []) := by
            intro h11 hf H locs ls hP hS hl
            have hf := xk1 ek9 hf
            clear ek9
            refine lv_iconst (v := (0 : Int32)) hx hb dL_plans_223 (by decide) ?_
            obtain ⟨rfl, rfl⟩ := xinj2 hf
            exact J8 _ _ _ hP hS (lv_sub hl [0, 1, 2, 3, 4] rfl)
          clear ek9
          refine lv_if_eq (tgt := 223) hx hb dL_plans_167 (by decide) (fun c8 => ?_) (fun c8 => ?_)
          · have hf := xif_t hf c8
            exact J9 _ hf _ _ _ hP hS (lv_sub hl [5, 6, 7, 8, 9] rfl)
          · have hf := xif_f hf c8
            refine lv_iload hx hb dL_plans_170 (lv_at hl 5 rfl) ?_
            obtain ⟨k10, ek10, hf⟩ := xlk hf
            have J10 : ∀ (h12 : XH), k10 h12 = some (v22, h10) → ∀ (H : Heap) (locs : List Loc) (ls : Array Slot), xP B0 G h12 H → va_S (xA B0) s.heap H locs → lv_has ls 11 [(5, .int v4), (4, .int v2), (0, .ref q0), (1, .ref q1), (2, .ref q2)] → W p l e rmL_plans s m args below meth c H locs 0 0 Q (F0 m 219 ls []) := by
              intro h12 hf H locs ls hP hS hl
              have hf := xk1 ek10 hf
              clear ek10
              refine lv_iconst (v := (1 : Int32)) hx hb dL_plans_219 (by decide) ?_
              refine lv_goto (tgt := 224) hx hb dL_plans_220 (by decide) ?_
              obtain ⟨rfl, rfl⟩ := xinj2 hf
              exact J8 _ _ _ hP hS (lv_sub hl [0, 1, 2, 3, 4] rfl)
            clear ek10
            refine lv_if_ne (tgt := 200) hx hb dL_plans_172 (by decide) (fun c9 => ?_) (fun c9 => ?_)
            · have hf := xif_f hf c9
              refine lv_aload_n hx hb dL_plans_200 rfl (lv_at hl 8 rfl) ?_
              refine lv_iload hx hb dL_plans_201 (lv_at hl 4 rfl) ?_
              refine lv_iload hx hb dL_plans_203 (lv_at hl 3 rfl) ?_
              refine lv_iload hx hb dL_plans_205 (lv_at hl 2 rfl) ?_
              refine lv_iload hx hb dL_plans_207 (lv_at hl 1 rfl) ?_
              obtain ⟨v23, ev23, hf⟩ := xb hf
              obtain ⟨v24, h13, ev24, hf⟩ := xb2 hf
              have ev24 := xinl_spec ev24
              refine xc_Vi (rest := []) ⟨hx, hb, hml, hown, hts⟩ (m_X5_addRoof l B0 G fu h6 h13 q1 v8 v9 v12 v14 v24 ev24) (cwV 4 hts gL_plans_X5_addRoof rfl rfl rfl (by decide +kernel) ⟨Nat.le_of_ble_eq_true rfl, Nat.le_of_ble_eq_true rfl⟩) hKK hP hS ev23 rfl rfl hl.1 rfl (Nat.le_of_ble_eq_true rfl) dL_plans_209 ⟨Nat.zero_le _, Nat.zero_le _⟩ (fun H locs hP hS => ?_)
              refine lv_iload hx hb dL_plans_212 (lv_at hl 5 rfl) ?_
              refine lv_iconst (v := (1 : Int32)) hx hb dL_plans_214 (by decide) ?_
              refine lv_iadd hx hb dL_plans_215 ?_
              refine lv_icmp_ne (tgt := 223) hx hb dL_plans_216 (by decide) (fun c10 => ?_) (fun c10 => ?_)
              · have hf := xif_f hf c10
                exact J9 _ hf _ _ _ hP hS (lv_sub hl [5, 6, 7, 8, 9] rfl)
              · have hf := xif_t hf c10
                exact J10 _ hf _ _ _ hP hS (lv_sub hl [5, 6, 7, 8, 9] rfl)
            · have hf := xif_t hf c9
              refine lv_aload_n hx hb dL_plans_175 rfl (lv_at hl 8 rfl) ?_
              refine lv_iload hx hb dL_plans_176 (lv_at hl 4 rfl) ?_
              refine lv_iconst (v := (2 : Int32)) hx hb dL_plans_178 (by decide) ?_
              refine lv_idiv hx hb dL_plans_179 (by decide) ?_
              refine lv_iload hx hb dL_plans_180 (lv_at hl 3 rfl) ?_
              refine lv_iload hx hb dL_plans_182 (lv_at hl 2 rfl) ?_
              refine lv_iconst (v := (2 : Int32)) hx hb dL_plans_184 (by decide) ?_
              refine lv_idiv hx hb dL_plans_185 (by decide) ?_
              refine lv_iload hx hb dL_plans_186 (lv_at hl 1 rfl) ?_
              refine lv_iconst (v := (2 : Int32)) hx hb dL_plans_188 (by decide) ?_
              refine lv_idiv hx hb dL_plans_189 (by decide) ?_
              obtain ⟨v25, ev25, hf⟩ := xb hf
              obtain ⟨v26, h14, ev26, hf⟩ := xb2 hf
              have ev26 := xinl_spec ev26
              refine xc_Vi (rest := []) ⟨hx, hb, hml, hown, hts⟩ (m_X5_addRoof l B0 G fu h6 h14 q1 (v8 / (2 : Int32)) v9 (v12 / (2 : Int32)) (v14 / (2 : Int32)) v26 ev26) (cwV 4 hts gL_plans_X5_addRoof rfl rfl rfl (by decide +kernel) ⟨Nat.le_of_ble_eq_true rfl, Nat.le_of_ble_eq_true rfl⟩) hKK hP hS ev25 rfl rfl hl.1 rfl (Nat.le_of_ble_eq_true rfl) dL_plans_190 ⟨Nat.zero_le _, Nat.zero_le _⟩ (fun H locs hP hS => ?_)
              refine lv_iconst (v := (1 : Int32)) hx hb dL_plans_193 (by decide) ?_
              refine lv_icmp_ne (tgt := 223) hx hb dL_plans_194 (by decide) (fun c11 => ?_) (fun c11 => ?_)
              · have hf := xif_f hf c11
                exact J9 _ hf _ _ _ hP hS (lv_sub hl [5, 6, 7, 8, 9] rfl)
              · have hf := xif_t hf c11
                refine lv_goto (tgt := 219) hx hb dL_plans_197 (by decide) ?_
                exact J10 _ hf _ _ _ hP hS (lv_sub hl [5, 6, 7, 8, 9] rfl)
        have hf := ej5
        clear ej5
        refine lv_if_ne (tgt := 166) hx hb dL_plans_132 (by decide) (fun c5 => ?_) (fun c5 => ?_)
        · have hf := xif_f hf c5
          obtain ⟨rfl, rfl⟩ := xinj2 hf
          exact J5 _ _ _ hP hS (lv_sub hl [0, 1, 2, 3, 4, 5, 6, 7, 8, 9] rfl)
        · have hf := xif_t hf c5
          refine lv_iload_n hx hb dL_plans_135 rfl (lv_at hl 0 rfl) ?_
          obtain ⟨v19, h7, ej6, hf⟩ := xb2 hf
          have J6 : ∀ (H : Heap) (locs : List Loc) (ls : Array Slot), xP B0 G h7 H → va_S (xA B0) s.heap H locs → lv_has ls 11 [(10, .int v14), (9, .int v12), (8, .int v9), (7, .int v8), (5, .int v4), (4, .int v2), (0, .ref q0), (1, .ref q1), (2, .ref q2)] → W p l e rmL_plans s m args below meth c H locs 0 0 Q (F0 m 165 ls [.int v19]) := by
            intro H locs ls hP hS hl
            clear ej6
            refine lv_istore_n (lv' := [(3, .int v19), (10, .int v14), (9, .int v12), (8, .int v9), (7, .int v8), (5, .int v4), (4, .int v2), (0, .ref q0), (1, .ref q1), (2, .ref q2)]) hx hb dL_plans_165 rfl hl (by decide) rfl (fun ls hl => ?_)
            obtain ⟨rfl, rfl⟩ := xinj2 hf
            exact J5 _ _ _ hP hS (lv_sub hl [0, 1, 2, 3, 4, 5, 6, 7, 8, 9] rfl)
          have hf := ej6
          clear ej6
          obtain ⟨k7, ek7, hf⟩ := xlk hf
          have J7 : ∀ (h8 : XH), k7 h8 = some (v19, h7) → ∀ (H : Heap) (locs : List Loc) (ls : Array Slot), xP B0 G h8 H → va_S (xA B0) s.heap H locs → lv_has ls 11 [(10, .int v14), (9, .int v12), (8, .int v9), (7, .int v8), (5, .int v4), (4, .int v2), (0, .ref q0), (1, .ref q1), (2, .ref q2)] → W p l e rmL_plans s m args below meth c H locs 0 0 Q (F0 m 164 ls []) := by
            intro h8 hf H locs ls hP hS hl
            have hf := xk1 ek7 hf
            clear ek7
            refine lv_iconst (v := (0 : Int32)) hx hb dL_plans_164 (by decide) ?_
            obtain ⟨rfl, rfl⟩ := xinj2 hf
            exact J6 _ _ _ hP hS (lv_sub hl [0, 1, 2, 3, 4, 5, 6, 7, 8] rfl)
          clear ek7
          refine lv_if_eq (tgt := 164) hx hb dL_plans_136 (by decide) (fun c6 => ?_) (fun c6 => ?_)
          · have hf := xif_t hf c6
            exact J7 _ hf _ _ _ hP hS (lv_sub hl [1, 2, 3, 4, 5, 6, 7, 8, 9] rfl)
          · have hf := xif_f hf c6
            refine lv_aload_n hx hb dL_plans_139 rfl (lv_at hl 8 rfl) ?_
            refine lv_iload hx hb dL_plans_140 (lv_at hl 4 rfl) ?_
            refine lv_iconst (v := (2 : Int32)) hx hb dL_plans_142 (by decide) ?_
            refine lv_idiv hx hb dL_plans_143 (by decide) ?_
            refine lv_iload hx hb dL_plans_144 (lv_at hl 3 rfl) ?_
            refine lv_iload hx hb dL_plans_146 (lv_at hl 2 rfl) ?_
            refine lv_iconst (v := (2 : Int32)) hx hb dL_plans_148 (by decide) ?_
            refine lv_idiv hx hb dL_plans_149 (by decide) ?_
            refine lv_iload hx hb dL_plans_150 (lv_at hl 1 rfl) ?_
            refine lv_iconst (v := (2 : Int32)) hx hb dL_plans_152 (by decide) ?_
            refine lv_idiv hx hb dL_plans_153 (by decide) ?_
            obtain ⟨v20, ev20, hf⟩ := xb hf
            obtain ⟨v21, h9, ev21, hf⟩ := xb2 hf
            have ev21 := xinl_spec ev21
            refine xc_Vi (rest := []) ⟨hx, hb, hml, hown, hts⟩ (m_X5_addRoof l B0 G fu h3 h9 q1 (v8 / (2 : Int32)) v9 (v12 / (2 : Int32)) (v14 / (2 : Int32)) v21 ev21) (cwV 4 hts gL_plans_X5_addRoof rfl rfl rfl (by decide +kernel) ⟨Nat.le_of_ble_eq_true rfl, Nat.le_of_ble_eq_true rfl⟩) hKK hP hS ev20 rfl rfl hl.1 rfl (Nat.le_of_ble_eq_true rfl) dL_plans_154 ⟨Nat.zero_le _, Nat.zero_le _⟩ (fun H locs hP hS => ?_)
            refine lv_if_ne (tgt := 164) hx hb dL_plans_157 (by decide) (fun c7 => ?_) (fun c7 => ?_)
            · have hf := xif_f hf c7
              exact J7 _ hf _ _ _ hP hS (lv_sub hl [1, 2, 3, 4, 5, 6, 7, 8, 9] rfl)
            · have hf := xif_t hf c7
              refine lv_iconst (v := (1 : Int32)) hx hb dL_plans_160 (by decide) ?_
              refine lv_goto (tgt := 165) hx hb dL_plans_161 (by decide) ?_
              obtain ⟨rfl, rfl⟩ := xinj2 hf
              exact J6 _ _ _ hP hS (lv_sub hl [1, 2, 3, 4, 5, 6, 7, 8, 9] rfl)
      have hf := ej3
      clear ej3
      obtain ⟨k4, ek4, hf⟩ := xlk hf
      have J4 : ∀ (h4 : XH), k4 h4 = some (v15, h3) → ∀ (H : Heap) (locs : List Loc) (ls : Array Slot), xP B0 G h4 H → va_S (xA B0) s.heap H locs → lv_has ls 11 [(10, .int v14), (9, .int v12), (8, .int v9), (7, .int v8), (5, .int v4), (4, .int v2), (0, .ref q0), (1, .ref q1), (2, .ref q2)] → W p l e rmL_plans s m args below meth c H locs 0 0 Q (F0 m 128 ls []) := by
        intro h4 hf H locs ls hP hS hl
        have hf := xk1 ek4 hf
        clear ek4
        refine lv_iconst (v := (0 : Int32)) hx hb dL_plans_128 (by decide) ?_
        obtain ⟨rfl, rfl⟩ := xinj2 hf
        exact J3 _ _ _ hP hS (lv_sub hl [0, 1, 2, 3, 4, 5, 6, 7, 8] rfl)
      clear ek4
      refine lv_if_eq (tgt := 128) hx hb dL_plans_104 (by decide) (fun c3 => ?_) (fun c3 => ?_)
      · have hf := xif_t hf c3
        exact J4 _ hf _ _ _ hP hS (lv_sub hl [0, 1, 2, 3, 6, 7, 8, 9, 10] rfl)
      · have hf := xif_f hf c3
        refine lv_aload_n hx hb dL_plans_107 rfl (lv_at hl 8 rfl) ?_
        refine lv_iload hx hb dL_plans_108 (lv_at hl 3 rfl) ?_
        refine lv_iload hx hb dL_plans_110 (lv_at hl 2 rfl) ?_
        refine lv_iload hx hb dL_plans_112 (lv_at hl 1 rfl) ?_
        refine lv_iload hx hb dL_plans_114 (lv_at hl 0 rfl) ?_
        obtain ⟨v16, ev16, hf⟩ := xb hf
        obtain ⟨v17, h5, ev17, hf⟩ := xb2 hf
        have ev17 := xinl_spec ev17
        refine xc_Vi (rest := []) ⟨hx, hb, hml, hown, hts⟩ (m_X5_addRoof l B0 G fu h1 h5 q0 v8 v9 v12 v14 v17 ev17) (cwV 4 hts gL_plans_X5_addRoof rfl rfl rfl (by decide +kernel) ⟨Nat.le_of_ble_eq_true rfl, Nat.le_of_ble_eq_true rfl⟩) hKK hP hS ev16 rfl rfl hl.1 rfl (Nat.le_of_ble_eq_true rfl) dL_plans_116 ⟨Nat.zero_le _, Nat.zero_le _⟩ (fun H locs hP hS => ?_)
        refine lv_iload hx hb dL_plans_119 (lv_at hl 6 rfl) ?_
        refine lv_icmp_ne (tgt := 128) hx hb dL_plans_121 (by decide) (fun c4 => ?_) (fun c4 => ?_)
        · have hf := xif_f hf c4
          exact J4 _ hf _ _ _ hP hS (lv_sub hl [0, 1, 2, 3, 6, 7, 8, 9, 10] rfl)
        · have hf := xif_t hf c4
          refine lv_iconst (v := (1 : Int32)) hx hb dL_plans_124 (by decide) ?_
          refine lv_goto (tgt := 129) hx hb dL_plans_125 (by decide) ?_
          obtain ⟨rfl, rfl⟩ := xinj2 hf
          exact J3 _ _ _ hP hS (lv_sub hl [0, 1, 2, 3, 6, 7, 8, 9, 10] rfl)
    have hf := ej2
    clear ej2
    refine lv_if_ne (tgt := 58) hx hb dL_plans_50 (by decide) (fun c2 => ?_) (fun c2 => ?_)
    · have hf := xif_f hf c2
      refine lv_iconst (v := (1 : Int32)) hx hb dL_plans_58 (by decide) ?_
      refine lv_iload hx hb dL_plans_59 (lv_at hl 1 rfl) ?_
      refine lv_bipush (v := (8 : Int32)) hx hb dL_plans_61 (by decide) ?_
      refine lv_ishr hx hb dL_plans_63 ?_
      refine lv_bipush (v := (100 : Int32)) hx hb dL_plans_64 (by decide) ?_
      obtain ⟨v10, ev10, hf⟩ := xb1 hf
      refine xc_Si (rest := [.int (1 : Int32)]) ⟨hx, hb, hml, hown, hts⟩ (m_L_up l B0 G h1 (v6 >>> ((8 : Int32) &&& (31 : Int32))) (100 : Int32) v10 ev10) (va_cwS 2 hts gL_plans_L_up rfl rfl rfl (by decide +kernel) ⟨Nat.le_of_ble_eq_true rfl, Nat.le_of_ble_eq_true rfl⟩) hKK hP hS rfl hl.1 rfl (Nat.le_of_ble_eq_true rfl) dL_plans_66 ⟨Nat.zero_le _, Nat.zero_le _⟩ (fun H locs hP hS => ?_)
      refine lv_iadd hx hb dL_plans_69 ?_
      obtain rfl := Option.some.inj hf
      exact J2 _ _ _ hP hS (lv_sub hl [0, 1, 2, 3, 4, 5, 6, 7] rfl)
    · have hf := xif_t hf c2
      refine lv_bipush (v := (100 : Int32)) hx hb dL_plans_53 (by decide) ?_
      refine lv_goto (tgt := 70) hx hb dL_plans_55 (by decide) ?_
      obtain rfl := Option.some.inj hf
      exact J2 _ _ _ hP hS (lv_sub hl [0, 1, 2, 3, 4, 5, 6, 7] rfl)
/-- the law: sets -/
def f_L_sets (fu : Nat) (h : XH) (q0 : Nat) (q1 : Nat) (p2 : Int32) : Option (Int32 × XH) :=
  obind1 (f_L_up p2 (9000 : Int32)) fun v1 =>
  olet (((100 : Int32) + v1)) fun v2 =>
  obind1 (f_L_up (p2 >>> ((8 : Int32) &&& (31 : Int32))) (200 : Int32)) fun v3 =>
  obind1 (
    if v2 ≤ v3 then
      some (0 : Int32)
    else
      obind1 (f_L_up (p2 >>> ((8 : Int32) &&& (31 : Int32))) (200 : Int32)) fun v5 =>
      some v5
  ) fun v4 =>
  obind1 (f_L_up (p2 >>> ((12 : Int32) &&& (31 : Int32))) (3 : Int32)) fun v6 =>
  obind1 (
    if v6 = (0 : Int32) then
      obind1 (f_L_up (p2 >>> ((14 : Int32) &&& (31 : Int32))) v2) fun v8 =>
      some v8
    else
      some (0 : Int32)
  ) fun v7 =>
  (xis h q0 5).bind fun v9 =>
  obind2 (xinl (f_X5_setReservoir fu h q0 v2 v4 v7)) fun v10 h1 =>
  (xis h1 q1 5).bind fun v11 =>
  obind2 (xinl (f_X5_setReservoir fu h1 q1 v2 v4 v7)) fun v12 h2 =>
  obind1 (
    if v10 = v12 then
      some (1 : Int32)
    else
      some (0 : Int32)
  ) fun v13 =>
  (xbool v13).bind fun v14 =>
  some ((v14, h2))
abbrev rmL_sets : Room := { frames := 8, cells := 0, slots := 0, locals := 153 }
set_option maxHeartbeats 4000000 in
set_option maxRecDepth 100000 in
theorem m_L_sets (l : Launch) (B0 : Nat) (G : XG) (fu : Nat) (h hE : XH) (q0 : Nat) (q1 : Nat) (p2 : Int32) (rE : Int32) (hf : f_L_sets fu h q0 q1 p2 = some (rE, hE)) : Met l yL_sets wsL_sets rmL_sets (va_Pc [.ref q0, .ref q1, .int p2] (xU B0 G h)) (xQi B0 G hE rE) 0 0 (xA B0) := by
  refine xMet (cc := cL_sets) (maxL := 6) (by decide) rfl (Nat.le_of_ble_eq_true rfl) ?_
  intro p e s m args below meth c ls hx hb hr hml hown hlocks hnm hts hKK hP hl
  have hown : s.vm.findClass RL = some m.cls := hown
  have hl : lv_has ls 6 [(0, .ref q0), (1, .ref q1), (2, .int p2)] := hl
  have hS : va_S (xA B0) s.heap s.heap [] := va_S.rf
  generalize hQ : MQ below (xQi B0 G hE rE) args s 0 0 (xA B0) = Q
  unfold f_L_sets at hf
  refine lv_bipush (v := (100 : Int32)) hx hb dL_sets_0 (by decide) ?_
  refine lv_iload_n hx hb dL_sets_2 rfl (lv_at hl 2 rfl) ?_
  refine lv_sipush (v := (9000 : Int32)) hx hb dL_sets_3 (by decide) ?_
  obtain ⟨v1, ev1, hf⟩ := xb1 hf
  refine xc_Si (rest := [.int (100 : Int32)]) ⟨hx, hb, hml, hown, hts⟩ (m_L_up l B0 G h p2 (9000 : Int32) v1 ev1) (va_cwS 2 hts gL_sets_L_up rfl rfl rfl (by decide +kernel) ⟨Nat.le_of_ble_eq_true rfl, Nat.le_of_ble_eq_true rfl⟩) hKK hP hS rfl hl.1 rfl (Nat.le_of_ble_eq_true rfl) dL_sets_6 ⟨Nat.zero_le _, Nat.zero_le _⟩ (fun H locs hP hS => ?_)
  refine lv_iadd hx hb dL_sets_9 ?_
  obtain ⟨v2, ev2, hf⟩ := xl hf
  refine xtopi ev2 ?_
  refine lv_istore_n (lv' := [(3, .int v2), (0, .ref q0), (1, .ref q1), (2, .int p2)]) hx hb dL_sets_10 rfl hl (by decide) rfl (fun ls hl => ?_)
  refine lv_iload_n hx hb dL_sets_11 rfl (lv_at hl 3 rfl) ?_
  refine lv_bipush (v := (8 : Int32)) hx hb dL_sets_12 (by decide) ?_
  refine lv_ishr hx hb dL_sets_14 ?_
  refine lv_sipush (v := (200 : Int32)) hx hb dL_sets_15 (by decide) ?_
  obtain ⟨v3, ev3, hf⟩ := xb1 hf
  refine xc_Si (rest := []) ⟨hx, hb, hml, hown, hts⟩ (m_L_up l B0 G h (p2 >>> ((8 : Int32) &&& (31 : Int32))) (200 : Int32) v3 ev3) (va_cwS 2 hts gL_sets_L_up rfl rfl rfl (by decide +kernel) ⟨Nat.le_of_ble_eq_true rfl, Nat.le_of_ble_eq_true rfl⟩) hKK hP hS rfl hl.1 rfl (Nat.le_of_ble_eq_true rfl) dL_sets_18 ⟨Nat.zero_le _, Nat.zero_le _⟩ (fun H locs hP hS => ?_)
  refine lv_iload_n hx hb dL_sets_21 rfl (lv_at hl 0 rfl) ?_
  obtain ⟨v4, ej1, hf⟩ := xb1 hf
  have J1 : ∀ (H : Heap) (locs : List Loc) (ls : Array Slot), xP B0 G h H → va_S (xA B0) s.heap H locs → lv_has ls 6 [(3, .int v2), (0, .ref q0), (1, .ref q1), (2, .int p2)] → W p l e rmL_sets s m args below meth c H locs 0 0 Q (F0 m 39 ls [.int v4]) := by
    intro H locs ls hP hS hl
    clear ej1
    refine lv_istore (lv' := [(4, .int v4), (3, .int v2), (0, .ref q0), (1, .ref q1), (2, .int p2)]) hx hb dL_sets_39 hl (by decide) rfl (fun ls hl => ?_)
    refine lv_iload_n hx hb dL_sets_41 rfl (lv_at hl 4 rfl) ?_
    refine lv_bipush (v := (12 : Int32)) hx hb dL_sets_42 (by decide) ?_
    refine lv_ishr hx hb dL_sets_44 ?_
    refine lv_iconst (v := (3 : Int32)) hx hb dL_sets_45 (by decide) ?_
    obtain ⟨v6, ev6, hf⟩ := xb1 hf
    refine xc_Si (rest := []) ⟨hx, hb, hml, hown, hts⟩ (m_L_up l B0 G h (p2 >>> ((12 : Int32) &&& (31 : Int32))) (3 : Int32) v6 ev6) (va_cwS 2 hts gL_sets_L_up rfl rfl rfl (by decide +kernel) ⟨Nat.le_of_ble_eq_true rfl, Nat.le_of_ble_eq_true rfl⟩) hKK hP hS rfl hl.1 rfl (Nat.le_of_ble_eq_true rfl) dL_sets_46 ⟨Nat.zero_le _, Nat.zero_le _⟩ (fun H locs hP hS => ?_)
    obtain ⟨v7, ej2, hf⟩ := xb1 hf
    have J2 : ∀ (H : Heap) (locs : List Loc) (ls : Array Slot), xP B0 G h H → va_S (xA B0) s.heap H locs → lv_has ls 6 [(4, .int v4), (3, .int v2), (0, .ref q0), (1, .ref q1)] → W p l e rmL_sets s m args below meth c H locs 0 0 Q (F0 m 64 ls [.int v7]) := by
      intro H locs ls hP hS hl
      clear ej2
      refine lv_istore (lv' := [(5, .int v7), (4, .int v4), (3, .int v2), (0, .ref q0), (1, .ref q1)]) hx hb dL_sets_64 hl (by decide) rfl (fun ls hl => ?_)
      refine lv_aload_n hx hb dL_sets_66 rfl (lv_at hl 3 rfl) ?_
      refine lv_iload_n hx hb dL_sets_67 rfl (lv_at hl 2 rfl) ?_
      refine lv_iload hx hb dL_sets_68 (lv_at hl 1 rfl) ?_
      refine lv_iload hx hb dL_sets_70 (lv_at hl 0 rfl) ?_
      obtain ⟨v9, ev9, hf⟩ := xb hf
      obtain ⟨v10, h1, ev10, hf⟩ := xb2 hf
      have ev10 := xinl_spec ev10
      refine xc_Vi (rest := []) ⟨hx, hb, hml, hown, hts⟩ (m_X5_setReservoir l B0 G fu h h1 q0 v2 v4 v7 v10 ev10) (cwV 3 hts gL_sets_X5_setReservoir rfl rfl rfl (by decide +kernel) ⟨Nat.le_of_ble_eq_true rfl, Nat.le_of_ble_eq_true rfl⟩) hKK hP hS ev9 rfl rfl hl.1 rfl (Nat.le_of_ble_eq_true rfl) dL_sets_72 ⟨Nat.zero_le _, Nat.zero_le _⟩ (fun H locs hP hS => ?_)
      refine lv_aload_n hx hb dL_sets_75 rfl (lv_at hl 4 rfl) ?_
      refine lv_iload_n hx hb dL_sets_76 rfl (lv_at hl 2 rfl) ?_
      refine lv_iload hx hb dL_sets_77 (lv_at hl 1 rfl) ?_
      refine lv_iload hx hb dL_sets_79 (lv_at hl 0 rfl) ?_
      obtain ⟨v11, ev11, hf⟩ := xb hf
      obtain ⟨v12, h2, ev12, hf⟩ := xb2 hf
      have ev12 := xinl_spec ev12
      refine xc_Vi (rest := [.int v10]) ⟨hx, hb, hml, hown, hts⟩ (m_X5_setReservoir l B0 G fu h1 h2 q1 v2 v4 v7 v12 ev12) (cwV 3 hts gL_sets_X5_setReservoir rfl rfl rfl (by decide +kernel) ⟨Nat.le_of_ble_eq_true rfl, Nat.le_of_ble_eq_true rfl⟩) hKK hP hS ev11 rfl rfl hl.1 rfl (Nat.le_of_ble_eq_true rfl) dL_sets_81 ⟨Nat.zero_le _, Nat.zero_le _⟩ (fun H locs hP hS => ?_)
      obtain ⟨v13, ej3, hf⟩ := xb1 hf
      have J3 : ∀ (H : Heap) (locs : List Loc) (ls : Array Slot), xP B0 G h2 H → va_S (xA B0) s.heap H locs → lv_has ls 6 [] → W p l e rmL_sets s m args below meth c H locs 0 0 Q (F0 m 92 ls [.int v13]) := by
        intro H locs ls hP hS hl
        clear ej3
        obtain ⟨v14, ev14, hf⟩ := xb hf
        obtain ⟨rfl, rfl⟩ := xinj2 hf
        subst hQ
        exact xe_z hx hb hr hlocks hKK hP hS ev14 dL_sets_92
      have hf := ej3
      clear ej3
      refine lv_icmp_ne (tgt := 91) hx hb dL_sets_84 (by decide) (fun c3 => ?_) (fun c3 => ?_)
      · have hf := xif_f hf c3
        refine lv_iconst (v := (0 : Int32)) hx hb dL_sets_91 (by decide) ?_
        obtain rfl := Option.some.inj hf
        exact J3 _ _ _ hP hS (lv_sub hl [] rfl)
      · have hf := xif_t hf c3
        refine lv_iconst (v := (1 : Int32)) hx hb dL_sets_87 (by decide) ?_
        refine lv_goto (tgt := 92) hx hb dL_sets_88 (by decide) ?_
        obtain rfl := Option.some.inj hf
        exact J3 _ _ _ hP hS (lv_sub hl [] rfl)
    have hf := ej2
    clear ej2
    refine lv_if_ne (tgt := 63) hx hb dL_sets_49 (by decide) (fun c2 => ?_) (fun c2 => ?_)
    · have hf := xif_f hf c2
      refine lv_iconst (v := (0 : Int32)) hx hb dL_sets_63 (by decide) ?_
      obtain rfl := Option.some.inj hf
      exact J2 _ _ _ hP hS (lv_sub hl [0, 1, 2, 3] rfl)
    · have hf := xif_t hf c2
      refine lv_iload_n hx hb dL_sets_52 rfl (lv_at hl 4 rfl) ?_
      refine lv_bipush (v := (14 : Int32)) hx hb dL_sets_53 (by decide) ?_
      refine lv_ishr hx hb dL_sets_55 ?_
      refine lv_iload_n hx hb dL_sets_56 rfl (lv_at hl 1 rfl) ?_
      obtain ⟨v8, ev8, hf⟩ := xb1 hf
      refine xc_Si (rest := []) ⟨hx, hb, hml, hown, hts⟩ (m_L_up l B0 G h (p2 >>> ((14 : Int32) &&& (31 : Int32))) v2 v8 ev8) (va_cwS 2 hts gL_sets_L_up rfl rfl rfl (by decide +kernel) ⟨Nat.le_of_ble_eq_true rfl, Nat.le_of_ble_eq_true rfl⟩) hKK hP hS rfl hl.1 rfl (Nat.le_of_ble_eq_true rfl) dL_sets_57 ⟨Nat.zero_le _, Nat.zero_le _⟩ (fun H locs hP hS => ?_)
      refine lv_goto (tgt := 64) hx hb dL_sets_60 (by decide) ?_
      obtain rfl := Option.some.inj hf
      exact J2 _ _ _ hP hS (lv_sub hl [0, 1, 2, 3] rfl)
  have hf := ej1
  clear ej1
  refine lv_icmp_ge (tgt := 38) hx hb dL_sets_22 (by decide) (fun c1 => ?_) (fun c1 => ?_)
  · have hf := xif_t hf c1
    refine lv_iconst (v := (0 : Int32)) hx hb dL_sets_38 (by decide) ?_
    obtain rfl := Option.some.inj hf
    exact J1 _ _ _ hP hS (lv_sub hl [0, 1, 2, 3] rfl)
  · have hf := xif_f hf c1
    refine lv_iload_n hx hb dL_sets_25 rfl (lv_at hl 3 rfl) ?_
    refine lv_bipush (v := (8 : Int32)) hx hb dL_sets_26 (by decide) ?_
    refine lv_ishr hx hb dL_sets_28 ?_
    refine lv_sipush (v := (200 : Int32)) hx hb dL_sets_29 (by decide) ?_
    obtain ⟨v5, ev5, hf⟩ := xb1 hf
    refine xc_Si (rest := []) ⟨hx, hb, hml, hown, hts⟩ (m_L_up l B0 G h (p2 >>> ((8 : Int32) &&& (31 : Int32))) (200 : Int32) v5 ev5) (va_cwS 2 hts gL_sets_L_up rfl rfl rfl (by decide +kernel) ⟨Nat.le_of_ble_eq_true rfl, Nat.le_of_ble_eq_true rfl⟩) hKK hP hS rfl hl.1 rfl (Nat.le_of_ble_eq_true rfl) dL_sets_32 ⟨Nat.zero_le _, Nat.zero_le _⟩ (fun H locs hP hS => ?_)
    refine lv_goto (tgt := 39) hx hb dL_sets_35 (by decide) ?_
    obtain rfl := Option.some.inj hf
    exact J1 _ _ _ hP hS (lv_sub hl [0, 1, 2, 3] rfl)
