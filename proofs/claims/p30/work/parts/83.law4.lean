/-- the law, behind the two objects -/
def f_L_law (fu L : Nat) (xs : Nat → Int32) (x y : Nat) (h : XH) : Option Unit :=
  obind2 (f_L_plans fu L xs h x y) fun v1 h1 =>
  obind2 (xloop (xf3 fun (v2 : Int32) (v3 : Int32) (h2 : XH) =>
    if (20 : Int32) ≤ v3 then
      some (.inr (v2, h2))
    else
      if v2 = (0 : Int32) then
        some (.inr (v2, h2))
      else
        obind1 (f_L_cell L xs ((14 : Int32) + v3)) fun v5 =>
        obind2 (f_L_isStep fu h2 x y v5) fun v6 h4 =>
        obind1 (
          oletk (
            some (0 : Int32)
          ) fun k3 =>
          if v6 = (0 : Int32) then
            k3
          else
            obind1 (f_L_areAlike fu h4 x y) fun v8 =>
            if v8 = (0 : Int32) then
              k3
            else
              obind1 (f_L_isSound fu h4 x) fun v9 =>
              if v9 = (0 : Int32) then
                k3
              else
                some (1 : Int32)
        ) fun v7 =>
        olet (v3 + (1 : Int32)) fun v10 =>
        some (.inl (v7, v10, h4))
  ) fu (v1, (0 : Int32), h1)) fun v4 h3 =>
  obind1 (f_L_cell L xs (40 : Int32)) fun v11 =>
  obind1 (f_L_up v11 (20000 : Int32)) fun v12 =>
  olet (((100 : Int32) + v12)) fun v13 =>
  obind1 (f_L_cell L xs (41 : Int32)) fun v14 =>
  obind1 (f_L_up v14 (101 : Int32)) fun v15 =>
  obind2 (
    oletk (
      fun (h6 : XH) =>
      some ((0 : Int32), h6)
    ) fun k5 =>
    if v4 = (0 : Int32) then
      k5 h3
    else
      (xis h3 x 5).bind fun v17 =>
      obind2 (xinl (f_X5_shortDaysWith fu h3 x v13)) fun v18 h7 =>
      (xis h7 y 5).bind fun v19 =>
      obind2 (xinl (f_X5_shortDaysWith fu h7 y v13)) fun v20 h8 =>
      if v18 = v20 then
        (xis h8 x 5).bind fun v21 =>
        obind2 (xinl (f_X5_capacityFor fu h8 x v15)) fun v22 h9 =>
        (xis h9 y 5).bind fun v23 =>
        obind2 (xinl (f_X5_capacityFor fu h9 y v15)) fun v24 h10 =>
        if v22 = v24 then
          (xis h10 x 5).bind fun v25 =>
          obind2 (f_X5_bestRule fu h10 x) fun v26 h11 =>
          (xis h11 y 5).bind fun v27 =>
          obind2 (f_X5_bestRule fu h11 y) fun v28 h12 =>
          if v26 = v28 then
            (xis h12 x 5).bind fun v29 =>
            obind2 (f_X5_sustainable fu h12 x) fun v30 h13 =>
            (xis h13 y 5).bind fun v31 =>
            obind2 (f_X5_sustainable fu h13 y) fun v32 h14 =>
            if v30 = v32 then
              some ((1 : Int32), h14)
            else
              k5 h14
          else
            k5 h12
        else
          k5 h10
      else
        k5 h8
  ) fun v16 h5 =>
  obind2 (xloop (xf3 fun (v33 : Int32) (v34 : Int32) (h15 : XH) =>
    (xis h15 x 5).bind fun v36 =>
    obind1 (xinl (f_X5_setting h15 x (6 : Int32))) fun v37 =>
    if v37 ≤ v34 then
      some (.inr (v33, h15))
    else
      if v33 = (0 : Int32) then
        some (.inr (v33, h15))
      else
        (xis h15 x 5).bind fun v38 =>
        obind2 (xinl (f_X5_gutterLoss fu h15 x v34)) fun v39 h17 =>
        obind2 (
          if v34 = (0 : Int32) then
            (xis h17 y 5).bind fun v43 =>
            obind2 (xinl (f_X5_gutterLoss fu h17 y (0 : Int32))) fun v44 h20 =>
            (xis h20 y 5).bind fun v45 =>
            obind2 (xinl (f_X5_gutterLoss fu h20 y (1 : Int32))) fun v46 h21 =>
            some ((v44 + v46), h21)
          else
            (xis h17 y 5).bind fun v41 =>
            obind2 (xinl (f_X5_gutterLoss fu h17 y (v34 + (1 : Int32)))) fun v42 h19 =>
            some (v42, h19)
        ) fun v40 h18 =>
        obind1 (
          if v39 = v40 then
            some (1 : Int32)
          else
            some (0 : Int32)
        ) fun v47 =>
        olet (v34 + (1 : Int32)) fun v48 =>
        some (.inl (v47, v48, h18))
  ) fu (v16, (0 : Int32), h5)) fun v35 h16 =>
  (xis h16 x 5).bind fun v49 =>
  obind1 (f_X5_digest fu h16 x) fun v50 =>
  obind2 (
    oletk (
      fun (h23 : XH) =>
      some ((0 : Int32), h23)
    ) fun k10 =>
    if v35 = (0 : Int32) then
      k10 h16
    else
      (xis h16 x 5).bind fun v52 =>
      obind2 (f_X5_restart fu h16 x) fun v53 h24 =>
      (xis h24 y 5).bind fun v54 =>
      obind1 (xinl (f_X5_setting h24 y (9 : Int32))) fun v55 =>
      if v53 = v55 then
        (xis h24 x 5).bind fun v56 =>
        obind1 (xinl (f_X5_setting h24 x (10 : Int32))) fun v57 =>
        if v57 = (0 : Int32) then
          (xis h24 x 5).bind fun v58 =>
          obind1 (xinl (f_X5_sum fu h24 x (6 : Int32))) fun v59 =>
          if v59 = (0 : Int64) then
            (xis h24 x 5).bind fun v60 =>
            obind2 (xinl (f_X5_undo fu h24 x)) fun v61 h25 =>
            if v61 < (0 : Int32) then
              k10 h25
            else
              some ((1 : Int32), h25)
          else
            k10 h24
        else
          k10 h24
      else
        k10 h24
  ) fun v51 h22 =>
  obind1 (
    oletk (
      some (0 : Int32)
    ) fun k12 =>
    if v51 = (0 : Int32) then
      k12
    else
      (xis h22 x 5).bind fun v63 =>
      obind1 (f_X5_digest fu h22 x) fun v64 =>
      oletk (
        some (1 : Int32)
      ) fun k13 =>
      if v64 = v50 then
        k13
      else
        (xis h22 x 5).bind fun v65 =>
        obind1 (f_X5_digest fu h22 x) fun v66 =>
        if v66 = (v50 - (1 : Int64)) then
          k13
        else
          k12
  ) fun v62 =>
  (xeqI v62 1).bind fun v67 =>
  some ()
set_option maxHeartbeats 4000000 in
set_option maxRecDepth 100000 in
theorem lp_law {p : Program} {l : Launch} {e : Env} {s : State} {m : MethodId} {below : List Frame} {meth : Method} {c : Code} {B0 : Nat} {G : XG} {b L : Nat} {xs : Nat → Int32} {Q : State → Prop} (C0 : xLC p s m c B0 G b L xs) (fu x y : Nat) (h : XH) (hf : f_L_law fu L xs x y h = some ())
    (KE : ∀ (H : Heap) (locs : List Loc) (ls : Array Slot), va_S (xA B0) s.heap H locs → W p l e room_1 s m #[Value.ref b] below meth c H locs 226 20000 Q (F0 m 327 ls [.int 1])) :
    ∀ (H : Heap) (locs : List Loc) (ls : Array Slot), xP B0 G h H → va_S (xA B0) s.heap H locs → lv_has ls 8 [(2, .ref y), (1, .ref x), (0, .ref b)] → W p l e room_1 s m #[Value.ref b] below meth c H locs 226 20000 Q (F0 m 16 ls []) := by
  obtain ⟨hx, hb, hml, hown, hts, hXs, hbl, hbA, hKK⟩ := C0
  have hcs1 : 226 ≤ room_1.cells := Nat.le_of_ble_eq_true rfl
  have hss1 : 20000 ≤ room_1.slots := Nat.le_of_ble_eq_true rfl
  intro H locs ls hP hS hl
  unfold f_L_law at hf
  refine lv_aload_n hx hb dL_law_16 rfl (lv_at hl 1 rfl) ?_
  refine lv_aload_n hx hb dL_law_17 rfl (lv_at hl 0 rfl) ?_
  refine lv_aload_n hx hb dL_law_18 rfl (lv_at hl 2 rfl) ?_
  obtain ⟨v1, h1, ev1, hf⟩ := xb2 hf
  refine xc_SiS (rest := []) ⟨hx, hb, hml, hown, hts⟩ (m_L_plans l B0 G fu h h1 b L xs x y v1 ev1) (va_cwS 3 hts gL_law_L_plans rfl rfl rfl (by decide +kernel) ⟨Nat.le_of_ble_eq_true rfl, Nat.le_of_ble_eq_true rfl⟩) hKK hXs hbl hbA hP hS rfl hl.1 rfl (Nat.le_of_ble_eq_true rfl) dL_law_19 ⟨hcs1, hss1⟩ (fun H locs hP hS => ?_)
  refine lv_istore_n (lv' := [(3, .int v1), (2, .ref y), (1, .ref x), (0, .ref b)]) hx hb dL_law_22 rfl hl (by decide) rfl (fun ls hl => ?_)
  refine lv_iconst (v := (0 : Int32)) hx hb dL_law_23 (by decide) ?_
  refine lv_istore (lv' := [(4, .int (0 : Int32)), (3, .int v1), (2, .ref y), (1, .ref x), (0, .ref b)]) hx hb dL_law_24 hl (by decide) rfl (fun ls hl => ?_)
  obtain ⟨v4, h3, eL, hf⟩ := xb2 hf
  have J1 : ∀ (H : Heap) (locs : List Loc) (ls : Array Slot), xP B0 G h3 H → va_S (xA B0) s.heap H locs → lv_has ls 8 [(3, .int v4), (2, .ref y), (1, .ref x), (0, .ref b)] → W p l e room_1 s m #[Value.ref b] below meth c H locs 226 20000 Q (F0 m 81 ls []) := by
    intro H locs ls hP hS hl
    clear eL
    refine lv_bipush (v := (100 : Int32)) hx hb dL_law_81 (by decide) ?_
    refine lv_aload_n hx hb dL_law_83 rfl (lv_at hl 3 rfl) ?_
    refine lv_bipush (v := (40 : Int32)) hx hb dL_law_84 (by decide) ?_
    obtain ⟨v11, ev11, hf⟩ := xb1 hf
    refine xc_SiS (rest := [.int (100 : Int32)]) ⟨hx, hb, hml, hown, hts⟩ (m_L_cell l B0 G h3 b L xs (40 : Int32) v11 ev11) (va_cwS 2 hts gL_law_L_cell rfl rfl rfl (by decide +kernel) ⟨Nat.le_of_ble_eq_true rfl, Nat.le_of_ble_eq_true rfl⟩) hKK hXs hbl hbA hP hS rfl hl.1 rfl (Nat.le_of_ble_eq_true rfl) dL_law_86 ⟨hcs1, hss1⟩ (fun H locs hP hS => ?_)
    refine lv_sipush (v := (20000 : Int32)) hx hb dL_law_89 (by decide) ?_
    obtain ⟨v12, ev12, hf⟩ := xb1 hf
    refine xc_Si (rest := [.int (100 : Int32)]) ⟨hx, hb, hml, hown, hts⟩ (m_L_up l B0 G h3 v11 (20000 : Int32) v12 ev12) (va_cwS 2 hts gL_law_L_up rfl rfl rfl (by decide +kernel) ⟨Nat.le_of_ble_eq_true rfl, Nat.le_of_ble_eq_true rfl⟩) hKK hP hS rfl hl.1 rfl (Nat.le_of_ble_eq_true rfl) dL_law_92 ⟨hcs1, hss1⟩ (fun H locs hP hS => ?_)
    refine lv_iadd hx hb dL_law_95 ?_
    obtain ⟨v13, ev13, hf⟩ := xl hf
    refine xtopi ev13 ?_
    refine lv_istore (lv' := [(4, .int v13), (3, .int v4), (2, .ref y), (1, .ref x), (0, .ref b)]) hx hb dL_law_96 hl (by decide) rfl (fun ls hl => ?_)
    refine lv_aload_n hx hb dL_law_98 rfl (lv_at hl 4 rfl) ?_
    refine lv_bipush (v := (41 : Int32)) hx hb dL_law_99 (by decide) ?_
    obtain ⟨v14, ev14, hf⟩ := xb1 hf
    refine xc_SiS (rest := []) ⟨hx, hb, hml, hown, hts⟩ (m_L_cell l B0 G h3 b L xs (41 : Int32) v14 ev14) (va_cwS 2 hts gL_law_L_cell rfl rfl rfl (by decide +kernel) ⟨Nat.le_of_ble_eq_true rfl, Nat.le_of_ble_eq_true rfl⟩) hKK hXs hbl hbA hP hS rfl hl.1 rfl (Nat.le_of_ble_eq_true rfl) dL_law_101 ⟨hcs1, hss1⟩ (fun H locs hP hS => ?_)
    refine lv_bipush (v := (101 : Int32)) hx hb dL_law_104 (by decide) ?_
    obtain ⟨v15, ev15, hf⟩ := xb1 hf
    refine xc_Si (rest := []) ⟨hx, hb, hml, hown, hts⟩ (m_L_up l B0 G h3 v14 (101 : Int32) v15 ev15) (va_cwS 2 hts gL_law_L_up rfl rfl rfl (by decide +kernel) ⟨Nat.le_of_ble_eq_true rfl, Nat.le_of_ble_eq_true rfl⟩) hKK hP hS rfl hl.1 rfl (Nat.le_of_ble_eq_true rfl) dL_law_106 ⟨hcs1, hss1⟩ (fun H locs hP hS => ?_)
    refine lv_istore (lv' := [(5, .int v15), (4, .int v13), (3, .int v4), (2, .ref y), (1, .ref x), (0, .ref b)]) hx hb dL_law_109 hl (by decide) rfl (fun ls hl => ?_)
    refine lv_iload_n hx hb dL_law_111 rfl (lv_at hl 2 rfl) ?_
    obtain ⟨v16, h5, ej4, hf⟩ := xb2 hf
    have J4 : ∀ (H : Heap) (locs : List Loc) (ls : Array Slot), xP B0 G h5 H → va_S (xA B0) s.heap H locs → lv_has ls 8 [(2, .ref y), (1, .ref x)] → W p l e room_1 s m #[Value.ref b] below meth c H locs 226 20000 Q (F0 m 172 ls [.int v16]) := by
      intro H locs ls hP hS hl
      clear ej4
      refine lv_istore_n (lv' := [(3, .int v16), (2, .ref y), (1, .ref x)]) hx hb dL_law_172 rfl hl (by decide) rfl (fun ls hl => ?_)
      refine lv_iconst (v := (0 : Int32)) hx hb dL_law_173 (by decide) ?_
      refine lv_istore (lv' := [(6, .int (0 : Int32)), (3, .int v16), (2, .ref y), (1, .ref x)]) hx hb dL_law_174 hl (by decide) rfl (fun ls hl => ?_)
      obtain ⟨v35, h16, eL, hf⟩ := xb2 hf
      have J6 : ∀ (H : Heap) (locs : List Loc) (ls : Array Slot), xP B0 G h16 H → va_S (xA B0) s.heap H locs → lv_has ls 8 [(3, .int v35), (2, .ref y), (1, .ref x)] → W p l e room_1 s m #[Value.ref b] below meth c H locs 226 20000 Q (F0 m 240 ls []) := by
        intro H locs ls hP hS hl
        clear eL
        refine lv_aload_n hx hb dL_law_240 rfl (lv_at hl 2 rfl) ?_
        obtain ⟨v49, ev49, hf⟩ := xb hf
        obtain ⟨v50, ev50, hf⟩ := xb1 hf
        refine xc_Vl (rest := []) ⟨hx, hb, hml, hown, hts⟩ (m_X5_digest l B0 G fu h16 x v50 ev50) (cwV 0 hts gL_law_X5_digest rfl rfl rfl (by decide +kernel) ⟨Nat.le_of_ble_eq_true rfl, Nat.le_of_ble_eq_true rfl⟩) hKK hP hS ev49 rfl rfl hl.1 rfl (Nat.le_of_ble_eq_true rfl) dL_law_241 ⟨hcs1, hss1⟩ (fun H locs hP hS => ?_)
        refine lv_lstore (lv' := [(6, .long v50), (3, .int v35), (2, .ref y), (1, .ref x)]) hx hb dL_law_244 hl (by decide) rfl (fun ls hl => ?_)
        refine lv_iload_n hx hb dL_law_246 rfl (lv_at hl 1 rfl) ?_
        obtain ⟨v51, h22, ej9, hf⟩ := xb2 hf
        have J9 : ∀ (H : Heap) (locs : List Loc) (ls : Array Slot), xP B0 G h22 H → va_S (xA B0) s.heap H locs → lv_has ls 8 [(6, .long v50), (1, .ref x)] → W p l e room_1 s m #[Value.ref b] below meth c H locs 226 20000 Q (F0 m 295 ls [.int v51]) := by
          intro H locs ls hP hS hl
          clear ej9
          refine lv_istore_n (lv' := [(3, .int v51), (6, .long v50), (1, .ref x)]) hx hb dL_law_295 rfl hl (by decide) rfl (fun ls hl => ?_)
          refine lv_iload_n hx hb dL_law_296 rfl (lv_at hl 0 rfl) ?_
          obtain ⟨v62, ej11, hf⟩ := xb1 hf
          have J11 : ∀ (H : Heap) (locs : List Loc) (ls : Array Slot), xP B0 G h22 H → va_S (xA B0) s.heap H locs → lv_has ls 8 [] → W p l e room_1 s m #[Value.ref b] below meth c H locs 226 20000 Q (F0 m 327 ls [.int v62]) := by
            intro H locs ls hP hS hl
            clear ej11
            obtain ⟨v67, ev67, hf⟩ := xb hf
            have ev67 := xeqI_spec ev67
            rw [ev67]
            exact KE _ _ _ hS
          have hf := ej11
          clear ej11
          obtain ⟨k12, ek12, hf⟩ := xlk hf
          have J12 : k12 = some v62 → ∀ (H : Heap) (locs : List Loc) (ls : Array Slot), xP B0 G h22 H → va_S (xA B0) s.heap H locs → lv_has ls 8 [] → W p l e room_1 s m #[Value.ref b] below meth c H locs 226 20000 Q (F0 m 326 ls []) := by
            intro  hf H locs ls hP hS hl
            have hf := xk0 ek12 hf
            clear ek12
            refine lv_iconst (v := (0 : Int32)) hx hb dL_law_326 (by decide) ?_
            obtain rfl := Option.some.inj hf
            exact J11 _ _ _ hP hS (lv_sub hl [] rfl)
          clear ek12
          refine lv_if_eq (tgt := 326) hx hb dL_law_297 (by decide) (fun c20 => ?_) (fun c20 => ?_)
          · have hf := xif_t hf c20
            exact J12  hf _ _ _ hP hS (lv_sub hl [] rfl)
          · have hf := xif_f hf c20
            refine lv_aload_n hx hb dL_law_300 rfl (lv_at hl 2 rfl) ?_
            obtain ⟨v63, ev63, hf⟩ := xb hf
            obtain ⟨v64, ev64, hf⟩ := xb1 hf
            refine xc_Vl (rest := []) ⟨hx, hb, hml, hown, hts⟩ (m_X5_digest l B0 G fu h22 x v64 ev64) (cwV 0 hts gL_law_X5_digest rfl rfl rfl (by decide +kernel) ⟨Nat.le_of_ble_eq_true rfl, Nat.le_of_ble_eq_true rfl⟩) hKK hP hS ev63 rfl rfl hl.1 rfl (Nat.le_of_ble_eq_true rfl) dL_law_301 ⟨hcs1, hss1⟩ (fun H locs hP hS => ?_)
            refine lv_lload hx hb dL_law_304 (lv_at hl 1 rfl) ?_
            obtain ⟨k13, ek13, hf⟩ := xlk hf
            have J13 : k13 = some v62 → ∀ (H : Heap) (locs : List Loc) (ls : Array Slot), xP B0 G h22 H → va_S (xA B0) s.heap H locs → lv_has ls 8 [] → W p l e room_1 s m #[Value.ref b] below meth c H locs 226 20000 Q (F0 m 322 ls []) := by
              intro  hf H locs ls hP hS hl
              have hf := xk0 ek13 hf
              clear ek13
              refine lv_iconst (v := (1 : Int32)) hx hb dL_law_322 (by decide) ?_
              refine lv_goto (tgt := 327) hx hb dL_law_323 (by decide) ?_
              obtain rfl := Option.some.inj hf
              exact J11 _ _ _ hP hS (lv_sub hl [] rfl)
            clear ek13
            refine xr_lcmp_eq (tgt := 322) hx hb dL_law_306 dL_law_307 (by decide) (fun c21 => ?_) (fun c21 => ?_)
            · have hf := xif_t hf c21
              exact J13  hf _ _ _ hP hS (lv_sub hl [] rfl)
            · have hf := xif_f hf c21
              refine lv_aload_n hx hb dL_law_310 rfl (lv_at hl 2 rfl) ?_
              obtain ⟨v65, ev65, hf⟩ := xb hf
              obtain ⟨v66, ev66, hf⟩ := xb1 hf
              refine xc_Vl (rest := []) ⟨hx, hb, hml, hown, hts⟩ (m_X5_digest l B0 G fu h22 x v66 ev66) (cwV 0 hts gL_law_X5_digest rfl rfl rfl (by decide +kernel) ⟨Nat.le_of_ble_eq_true rfl, Nat.le_of_ble_eq_true rfl⟩) hKK hP hS ev65 rfl rfl hl.1 rfl (Nat.le_of_ble_eq_true rfl) dL_law_311 ⟨hcs1, hss1⟩ (fun H locs hP hS => ?_)
              refine lv_lload hx hb dL_law_314 (lv_at hl 1 rfl) ?_
              refine lv_lconst (v := (1 : Int64)) hx hb dL_law_316 (by decide) ?_
              refine lv_lsub hx hb dL_law_317 ?_
              refine xr_lcmp_ne (tgt := 326) hx hb dL_law_318 dL_law_319 (by decide) (fun c22 => ?_) (fun c22 => ?_)
              · have hf := xif_f hf c22
                exact J12  hf _ _ _ hP hS (lv_sub hl [] rfl)
              · have hf := xif_t hf c22
                exact J13  hf _ _ _ hP hS (lv_sub hl [] rfl)
        have hf := ej9
        clear ej9
        obtain ⟨k10, ek10, hf⟩ := xlk hf
        have J10 : ∀ (h23 : XH), k10 h23 = some (v51, h22) → ∀ (H : Heap) (locs : List Loc) (ls : Array Slot), xP B0 G h23 H → va_S (xA B0) s.heap H locs → lv_has ls 8 [(6, .long v50), (1, .ref x)] → W p l e room_1 s m #[Value.ref b] below meth c H locs 226 20000 Q (F0 m 294 ls []) := by
          intro h23 hf H locs ls hP hS hl
          have hf := xk1 ek10 hf
          clear ek10
          refine lv_iconst (v := (0 : Int32)) hx hb dL_law_294 (by decide) ?_
          obtain ⟨rfl, rfl⟩ := xinj2 hf
          exact J9 _ _ _ hP hS (lv_sub hl [0, 1] rfl)
        clear ek10
        refine lv_if_eq (tgt := 294) hx hb dL_law_247 (by decide) (fun c15 => ?_) (fun c15 => ?_)
        · have hf := xif_t hf c15
          exact J10 _ hf _ _ _ hP hS (lv_sub hl [0, 3] rfl)
        · have hf := xif_f hf c15
          refine lv_aload_n hx hb dL_law_250 rfl (lv_at hl 3 rfl) ?_
          obtain ⟨v52, ev52, hf⟩ := xb hf
          obtain ⟨v53, h24, ev53, hf⟩ := xb2 hf
          refine xc_Vi (rest := []) ⟨hx, hb, hml, hown, hts⟩ (m_X5_restart l B0 G fu h16 h24 x v53 ev53) (cwV 0 hts gL_law_X5_restart rfl rfl rfl (by decide +kernel) ⟨Nat.le_of_ble_eq_true rfl, Nat.le_of_ble_eq_true rfl⟩) hKK hP hS ev52 rfl rfl hl.1 rfl (Nat.le_of_ble_eq_true rfl) dL_law_251 ⟨hcs1, hss1⟩ (fun H locs hP hS => ?_)
          refine lv_aload_n hx hb dL_law_254 rfl (lv_at hl 2 rfl) ?_
          refine lv_bipush (v := (9 : Int32)) hx hb dL_law_255 (by decide) ?_
          obtain ⟨v54, ev54, hf⟩ := xb hf
          obtain ⟨v55, ev55, hf⟩ := xb1 hf
          have ev55 := xinl_spec ev55
          refine xc_Vi (rest := [.int v53]) ⟨hx, hb, hml, hown, hts⟩ (m_X5_setting l B0 G h24 y (9 : Int32) v55 ev55) (cwV 1 hts gL_law_X5_setting rfl rfl rfl (by decide +kernel) ⟨Nat.le_of_ble_eq_true rfl, Nat.le_of_ble_eq_true rfl⟩) hKK hP hS ev54 rfl rfl hl.1 rfl (Nat.le_of_ble_eq_true rfl) dL_law_257 ⟨hcs1, hss1⟩ (fun H locs hP hS => ?_)
          refine lv_icmp_ne (tgt := 294) hx hb dL_law_260 (by decide) (fun c16 => ?_) (fun c16 => ?_)
          · have hf := xif_f hf c16
            exact J10 _ hf _ _ _ hP hS (lv_sub hl [0, 3] rfl)
          · have hf := xif_t hf c16
            refine lv_aload_n hx hb dL_law_263 rfl (lv_at hl 3 rfl) ?_
            refine lv_bipush (v := (10 : Int32)) hx hb dL_law_264 (by decide) ?_
            obtain ⟨v56, ev56, hf⟩ := xb hf
            obtain ⟨v57, ev57, hf⟩ := xb1 hf
            have ev57 := xinl_spec ev57
            refine xc_Vi (rest := []) ⟨hx, hb, hml, hown, hts⟩ (m_X5_setting l B0 G h24 x (10 : Int32) v57 ev57) (cwV 1 hts gL_law_X5_setting rfl rfl rfl (by decide +kernel) ⟨Nat.le_of_ble_eq_true rfl, Nat.le_of_ble_eq_true rfl⟩) hKK hP hS ev56 rfl rfl hl.1 rfl (Nat.le_of_ble_eq_true rfl) dL_law_266 ⟨hcs1, hss1⟩ (fun H locs hP hS => ?_)
            refine lv_if_ne (tgt := 294) hx hb dL_law_269 (by decide) (fun c17 => ?_) (fun c17 => ?_)
            · have hf := xif_f hf c17
              exact J10 _ hf _ _ _ hP hS (lv_sub hl [0, 3] rfl)
            · have hf := xif_t hf c17
              refine lv_aload_n hx hb dL_law_272 rfl (lv_at hl 3 rfl) ?_
              refine lv_bipush (v := (6 : Int32)) hx hb dL_law_273 (by decide) ?_
              obtain ⟨v58, ev58, hf⟩ := xb hf
              obtain ⟨v59, ev59, hf⟩ := xb1 hf
              have ev59 := xinl_spec ev59
              refine xc_Vl (rest := []) ⟨hx, hb, hml, hown, hts⟩ (m_X5_sum l B0 G fu h24 x (6 : Int32) v59 ev59) (cwV 1 hts gL_law_X5_sum rfl rfl rfl (by decide +kernel) ⟨Nat.le_of_ble_eq_true rfl, Nat.le_of_ble_eq_true rfl⟩) hKK hP hS ev58 rfl rfl hl.1 rfl (Nat.le_of_ble_eq_true rfl) dL_law_275 ⟨hcs1, hss1⟩ (fun H locs hP hS => ?_)
              refine lv_lconst (v := (0 : Int64)) hx hb dL_law_278 (by decide) ?_
              refine xr_lcmp_ne (tgt := 294) hx hb dL_law_279 dL_law_280 (by decide) (fun c18 => ?_) (fun c18 => ?_)
              · have hf := xif_f hf c18
                exact J10 _ hf _ _ _ hP hS (lv_sub hl [0, 3] rfl)
              · have hf := xif_t hf c18
                refine lv_aload_n hx hb dL_law_283 rfl (lv_at hl 3 rfl) ?_
                obtain ⟨v60, ev60, hf⟩ := xb hf
                obtain ⟨v61, h25, ev61, hf⟩ := xb2 hf
                have ev61 := xinl_spec ev61
                refine xc_Vi (rest := []) ⟨hx, hb, hml, hown, hts⟩ (m_X5_undo l B0 G fu h24 h25 x v61 ev61) (cwV 0 hts gL_law_X5_undo rfl rfl rfl (by decide +kernel) ⟨Nat.le_of_ble_eq_true rfl, Nat.le_of_ble_eq_true rfl⟩) hKK hP hS ev60 rfl rfl hl.1 rfl (Nat.le_of_ble_eq_true rfl) dL_law_284 ⟨hcs1, hss1⟩ (fun H locs hP hS => ?_)
                refine lv_if_lt (tgt := 294) hx hb dL_law_287 (by decide) (fun c19 => ?_) (fun c19 => ?_)
                · have hf := xif_t hf c19
                  exact J10 _ hf _ _ _ hP hS (lv_sub hl [0, 3] rfl)
                · have hf := xif_f hf c19
                  refine lv_iconst (v := (1 : Int32)) hx hb dL_law_290 (by decide) ?_
                  refine lv_goto (tgt := 295) hx hb dL_law_291 (by decide) ?_
                  obtain ⟨rfl, rfl⟩ := xinj2 hf
                  exact J9 _ _ _ hP hS (lv_sub hl [0, 3] rfl)
      clear hf
      refine xloop_ind (P := fun z => ∀ (H : Heap) (locs : List Loc) (ls : Array Slot), xP B0 G z.2.2 H → va_S (xA B0) s.heap H locs → lv_has ls 8 [(3, .int z.1), (6, .int z.2.1), (2, .ref y), (1, .ref x)] → W p l e room_1 s m #[Value.ref b] below meth c H locs 226 20000 Q (F0 m 176 ls [])) ?_ eL _ _ _ hP hS (lv_sub hl [1, 0, 2, 3] rfl)
      rintro ⟨v33, v34, h15⟩ o hf IH EX H locs ls hP hS hl
      have hf := xf3_e hf
      have hP : xP B0 G h15 H := hP
      have hl : lv_has ls 8 [(3, .int v33), (6, .int v34), (2, .ref y), (1, .ref x)] := hl
      refine lv_iload hx hb dL_law_176 (lv_at hl 1 rfl) ?_
      refine lv_aload_n hx hb dL_law_178 rfl (lv_at hl 3 rfl) ?_
      refine lv_bipush (v := (6 : Int32)) hx hb dL_law_179 (by decide) ?_
      obtain ⟨v36, ev36, hf⟩ := xb hf
      obtain ⟨v37, ev37, hf⟩ := xb1 hf
      have ev37 := xinl_spec ev37
      refine xc_Vi (rest := [.int v34]) ⟨hx, hb, hml, hown, hts⟩ (m_X5_setting l B0 G h15 x (6 : Int32) v37 ev37) (cwV 1 hts gL_law_X5_setting rfl rfl rfl (by decide +kernel) ⟨Nat.le_of_ble_eq_true rfl, Nat.le_of_ble_eq_true rfl⟩) hKK hP hS ev36 rfl rfl hl.1 rfl (Nat.le_of_ble_eq_true rfl) dL_law_181 ⟨hcs1, hss1⟩ (fun H locs hP hS => ?_)
      refine lv_icmp_ge (tgt := 240) hx hb dL_law_184 (by decide) (fun c11 => ?_) (fun c11 => ?_)
      · have hf := xif_t hf c11
        have hf := EX _ (Option.some.inj hf).symm
        obtain ⟨rfl, rfl⟩ := xpair2 hf
        exact J6 _ _ _ hP hS (lv_sub hl [0, 2, 3] rfl)
      · have hf := xif_f hf c11
        refine lv_iload_n hx hb dL_law_187 rfl (lv_at hl 0 rfl) ?_
        refine lv_if_eq (tgt := 240) hx hb dL_law_188 (by decide) (fun c12 => ?_) (fun c12 => ?_)
        · have hf := xif_t hf c12
          have hf := EX _ (Option.some.inj hf).symm
          obtain ⟨rfl, rfl⟩ := xpair2 hf
          exact J6 _ _ _ hP hS (lv_sub hl [0, 2, 3] rfl)
        · have hf := xif_f hf c12
          refine lv_aload_n hx hb dL_law_191 rfl (lv_at hl 3 rfl) ?_
          refine lv_iload hx hb dL_law_192 (lv_at hl 1 rfl) ?_
          obtain ⟨v38, ev38, hf⟩ := xb hf
          obtain ⟨v39, h17, ev39, hf⟩ := xb2 hf
          have ev39 := xinl_spec ev39
          refine xc_Vl (rest := []) ⟨hx, hb, hml, hown, hts⟩ (m_X5_gutterLoss l B0 G fu h15 h17 x v34 v39 ev39) (cwV 1 hts gL_law_X5_gutterLoss rfl rfl rfl (by decide +kernel) ⟨Nat.le_of_ble_eq_true rfl, Nat.le_of_ble_eq_true rfl⟩) hKK hP hS ev38 rfl rfl hl.1 rfl (Nat.le_of_ble_eq_true rfl) dL_law_194 ⟨hcs1, hss1⟩ (fun H locs hP hS => ?_)
          refine lv_iload hx hb dL_law_197 (lv_at hl 1 rfl) ?_
          obtain ⟨v40, h18, ej7, hf⟩ := xb2 hf
          have J7 : ∀ (H : Heap) (locs : List Loc) (ls : Array Slot), xP B0 G h18 H → va_S (xA B0) s.heap H locs → lv_has ls 8 [(6, .int v34), (2, .ref y), (1, .ref x)] → W p l e room_1 s m #[Value.ref b] below meth c H locs 226 20000 Q (F0 m 224 ls [.long v40, .long v39]) := by
            intro H locs ls hP hS hl
            clear ej7
            obtain ⟨v47, ej8, hf⟩ := xb1 hf
            have J8 : ∀ (H : Heap) (locs : List Loc) (ls : Array Slot), xP B0 G h18 H → va_S (xA B0) s.heap H locs → lv_has ls 8 [(6, .int v34), (2, .ref y), (1, .ref x)] → W p l e room_1 s m #[Value.ref b] below meth c H locs 226 20000 Q (F0 m 233 ls [.int v47]) := by
              intro H locs ls hP hS hl
              clear ej8
              refine lv_istore_n (lv' := [(3, .int v47), (6, .int v34), (2, .ref y), (1, .ref x)]) hx hb dL_law_233 rfl hl (by decide) rfl (fun ls hl => ?_)
              obtain ⟨v48, ev48, hf⟩ := xl hf
              refine lv_iinc (v := v48) (lv' := [(6, .int v48), (3, .int v47), (2, .ref y), (1, .ref x)]) hx hb dL_law_234 hl (k := 1) rfl (by rw [ev48]; rfl) (by decide) rfl (fun ls hl => ?_)
              refine lv_goto (tgt := 176) hx hb dL_law_237 (by decide) ?_
              exact IH _ (Option.some.inj hf).symm _ _ _ hP hS (lv_sub hl [1, 0, 2, 3] rfl)
            have hf := ej8
            clear ej8
            refine xr_lcmp_ne (tgt := 232) hx hb dL_law_224 dL_law_225 (by decide) (fun c14 => ?_) (fun c14 => ?_)
            · have hf := xif_f hf c14
              refine lv_iconst (v := (0 : Int32)) hx hb dL_law_232 (by decide) ?_
              obtain rfl := Option.some.inj hf
              exact J8 _ _ _ hP hS (lv_sub hl [0, 1, 2] rfl)
            · have hf := xif_t hf c14
              refine lv_iconst (v := (1 : Int32)) hx hb dL_law_228 (by decide) ?_
              refine lv_goto (tgt := 233) hx hb dL_law_229 (by decide) ?_
              obtain rfl := Option.some.inj hf
              exact J8 _ _ _ hP hS (lv_sub hl [0, 1, 2] rfl)
          have hf := ej7
          clear ej7
          refine lv_if_ne (tgt := 216) hx hb dL_law_199 (by decide) (fun c13 => ?_) (fun c13 => ?_)
          · have hf := xif_f hf c13
            refine lv_aload_n hx hb dL_law_216 rfl (lv_at hl 2 rfl) ?_
            refine lv_iload hx hb dL_law_217 (lv_at hl 1 rfl) ?_
            refine lv_iconst (v := (1 : Int32)) hx hb dL_law_219 (by decide) ?_
            refine lv_iadd hx hb dL_law_220 ?_
            obtain ⟨v41, ev41, hf⟩ := xb hf
            obtain ⟨v42, h19, ev42, hf⟩ := xb2 hf
            have ev42 := xinl_spec ev42
            refine xc_Vl (rest := [.long v39]) ⟨hx, hb, hml, hown, hts⟩ (m_X5_gutterLoss l B0 G fu h17 h19 y (v34 + (1 : Int32)) v42 ev42) (cwV 1 hts gL_law_X5_gutterLoss rfl rfl rfl (by decide +kernel) ⟨Nat.le_of_ble_eq_true rfl, Nat.le_of_ble_eq_true rfl⟩) hKK hP hS ev41 rfl rfl hl.1 rfl (Nat.le_of_ble_eq_true rfl) dL_law_221 ⟨hcs1, hss1⟩ (fun H locs hP hS => ?_)
            obtain ⟨rfl, rfl⟩ := xinj2 hf
            exact J7 _ _ _ hP hS (lv_sub hl [1, 2, 3] rfl)
          · have hf := xif_t hf c13
            refine lv_aload_n hx hb dL_law_202 rfl (lv_at hl 2 rfl) ?_
            refine lv_iconst (v := (0 : Int32)) hx hb dL_law_203 (by decide) ?_
            obtain ⟨v43, ev43, hf⟩ := xb hf
            obtain ⟨v44, h20, ev44, hf⟩ := xb2 hf
            have ev44 := xinl_spec ev44
            refine xc_Vl (rest := [.long v39]) ⟨hx, hb, hml, hown, hts⟩ (m_X5_gutterLoss l B0 G fu h17 h20 y (0 : Int32) v44 ev44) (cwV 1 hts gL_law_X5_gutterLoss rfl rfl rfl (by decide +kernel) ⟨Nat.le_of_ble_eq_true rfl, Nat.le_of_ble_eq_true rfl⟩) hKK hP hS ev43 rfl rfl hl.1 rfl (Nat.le_of_ble_eq_true rfl) dL_law_204 ⟨hcs1, hss1⟩ (fun H locs hP hS => ?_)
            refine lv_aload_n hx hb dL_law_207 rfl (lv_at hl 2 rfl) ?_
            refine lv_iconst (v := (1 : Int32)) hx hb dL_law_208 (by decide) ?_
            obtain ⟨v45, ev45, hf⟩ := xb hf
            obtain ⟨v46, h21, ev46, hf⟩ := xb2 hf
            have ev46 := xinl_spec ev46
            refine xc_Vl (rest := [.long v44, .long v39]) ⟨hx, hb, hml, hown, hts⟩ (m_X5_gutterLoss l B0 G fu h20 h21 y (1 : Int32) v46 ev46) (cwV 1 hts gL_law_X5_gutterLoss rfl rfl rfl (by decide +kernel) ⟨Nat.le_of_ble_eq_true rfl, Nat.le_of_ble_eq_true rfl⟩) hKK hP hS ev45 rfl rfl hl.1 rfl (Nat.le_of_ble_eq_true rfl) dL_law_209 ⟨hcs1, hss1⟩ (fun H locs hP hS => ?_)
            refine lv_ladd hx hb dL_law_212 ?_
            refine lv_goto (tgt := 224) hx hb dL_law_213 (by decide) ?_
            obtain ⟨rfl, rfl⟩ := xinj2 hf
            exact J7 _ _ _ hP hS (lv_sub hl [1, 2, 3] rfl)
    have hf := ej4
    clear ej4
    obtain ⟨k5, ek5, hf⟩ := xlk hf
    have J5 : ∀ (h6 : XH), k5 h6 = some (v16, h5) → ∀ (H : Heap) (locs : List Loc) (ls : Array Slot), xP B0 G h6 H → va_S (xA B0) s.heap H locs → lv_has ls 8 [(2, .ref y), (1, .ref x)] → W p l e room_1 s m #[Value.ref b] below meth c H locs 226 20000 Q (F0 m 171 ls []) := by
      intro h6 hf H locs ls hP hS hl
      have hf := xk1 ek5 hf
      clear ek5
      refine lv_iconst (v := (0 : Int32)) hx hb dL_law_171 (by decide) ?_
      obtain ⟨rfl, rfl⟩ := xinj2 hf
      exact J4 _ _ _ hP hS (lv_sub hl [0, 1] rfl)
    clear ek5
    refine lv_if_eq (tgt := 171) hx hb dL_law_112 (by decide) (fun c6 => ?_) (fun c6 => ?_)
    · have hf := xif_t hf c6
      exact J5 _ hf _ _ _ hP hS (lv_sub hl [3, 4] rfl)
    · have hf := xif_f hf c6
      refine lv_aload_n hx hb dL_law_115 rfl (lv_at hl 4 rfl) ?_
      refine lv_iload hx hb dL_law_116 (lv_at hl 1 rfl) ?_
      obtain ⟨v17, ev17, hf⟩ := xb hf
      obtain ⟨v18, h7, ev18, hf⟩ := xb2 hf
      have ev18 := xinl_spec ev18
      refine xc_Vi (rest := []) ⟨hx, hb, hml, hown, hts⟩ (m_X5_shortDaysWith l B0 G fu h3 h7 x v13 v18 ev18) (cwV 1 hts gL_law_X5_shortDaysWith rfl rfl rfl (by decide +kernel) ⟨Nat.le_of_ble_eq_true rfl, Nat.le_of_ble_eq_true rfl⟩) hKK hP hS ev17 rfl rfl hl.1 rfl (Nat.le_of_ble_eq_true rfl) dL_law_118 ⟨hcs1, hss1⟩ (fun H locs hP hS => ?_)
      refine lv_aload_n hx hb dL_law_121 rfl (lv_at hl 3 rfl) ?_
      refine lv_iload hx hb dL_law_122 (lv_at hl 1 rfl) ?_
      obtain ⟨v19, ev19, hf⟩ := xb hf
      obtain ⟨v20, h8, ev20, hf⟩ := xb2 hf
      have ev20 := xinl_spec ev20
      refine xc_Vi (rest := [.int v18]) ⟨hx, hb, hml, hown, hts⟩ (m_X5_shortDaysWith l B0 G fu h7 h8 y v13 v20 ev20) (cwV 1 hts gL_law_X5_shortDaysWith rfl rfl rfl (by decide +kernel) ⟨Nat.le_of_ble_eq_true rfl, Nat.le_of_ble_eq_true rfl⟩) hKK hP hS ev19 rfl rfl hl.1 rfl (Nat.le_of_ble_eq_true rfl) dL_law_124 ⟨hcs1, hss1⟩ (fun H locs hP hS => ?_)
      refine lv_icmp_ne (tgt := 171) hx hb dL_law_127 (by decide) (fun c7 => ?_) (fun c7 => ?_)
      · have hf := xif_f hf c7
        exact J5 _ hf _ _ _ hP hS (lv_sub hl [3, 4] rfl)
      · have hf := xif_t hf c7
        refine lv_aload_n hx hb dL_law_130 rfl (lv_at hl 4 rfl) ?_
        refine lv_iload hx hb dL_law_131 (lv_at hl 0 rfl) ?_
        obtain ⟨v21, ev21, hf⟩ := xb hf
        obtain ⟨v22, h9, ev22, hf⟩ := xb2 hf
        have ev22 := xinl_spec ev22
        refine xc_Vi (rest := []) ⟨hx, hb, hml, hown, hts⟩ (m_X5_capacityFor l B0 G fu h8 h9 x v15 v22 ev22) (cwV 1 hts gL_law_X5_capacityFor rfl rfl rfl (by decide +kernel) ⟨Nat.le_of_ble_eq_true rfl, Nat.le_of_ble_eq_true rfl⟩) hKK hP hS ev21 rfl rfl hl.1 rfl (Nat.le_of_ble_eq_true rfl) dL_law_133 ⟨hcs1, hss1⟩ (fun H locs hP hS => ?_)
        refine lv_aload_n hx hb dL_law_136 rfl (lv_at hl 3 rfl) ?_
        refine lv_iload hx hb dL_law_137 (lv_at hl 0 rfl) ?_
        obtain ⟨v23, ev23, hf⟩ := xb hf
        obtain ⟨v24, h10, ev24, hf⟩ := xb2 hf
        have ev24 := xinl_spec ev24
        refine xc_Vi (rest := [.int v22]) ⟨hx, hb, hml, hown, hts⟩ (m_X5_capacityFor l B0 G fu h9 h10 y v15 v24 ev24) (cwV 1 hts gL_law_X5_capacityFor rfl rfl rfl (by decide +kernel) ⟨Nat.le_of_ble_eq_true rfl, Nat.le_of_ble_eq_true rfl⟩) hKK hP hS ev23 rfl rfl hl.1 rfl (Nat.le_of_ble_eq_true rfl) dL_law_139 ⟨hcs1, hss1⟩ (fun H locs hP hS => ?_)
        refine lv_icmp_ne (tgt := 171) hx hb dL_law_142 (by decide) (fun c8 => ?_) (fun c8 => ?_)
        · have hf := xif_f hf c8
          exact J5 _ hf _ _ _ hP hS (lv_sub hl [3, 4] rfl)
        · have hf := xif_t hf c8
          refine lv_aload_n hx hb dL_law_145 rfl (lv_at hl 4 rfl) ?_
          obtain ⟨v25, ev25, hf⟩ := xb hf
          obtain ⟨v26, h11, ev26, hf⟩ := xb2 hf
          refine xc_Vi (rest := []) ⟨hx, hb, hml, hown, hts⟩ (m_X5_bestRule l B0 G fu h10 h11 x v26 ev26) (cwV 0 hts gL_law_X5_bestRule rfl rfl rfl (by decide +kernel) ⟨Nat.le_of_ble_eq_true rfl, Nat.le_of_ble_eq_true rfl⟩) hKK hP hS ev25 rfl rfl hl.1 rfl (Nat.le_of_ble_eq_true rfl) dL_law_146 ⟨hcs1, hss1⟩ (fun H locs hP hS => ?_)
          refine lv_aload_n hx hb dL_law_149 rfl (lv_at hl 3 rfl) ?_
          obtain ⟨v27, ev27, hf⟩ := xb hf
          obtain ⟨v28, h12, ev28, hf⟩ := xb2 hf
          refine xc_Vi (rest := [.int v26]) ⟨hx, hb, hml, hown, hts⟩ (m_X5_bestRule l B0 G fu h11 h12 y v28 ev28) (cwV 0 hts gL_law_X5_bestRule rfl rfl rfl (by decide +kernel) ⟨Nat.le_of_ble_eq_true rfl, Nat.le_of_ble_eq_true rfl⟩) hKK hP hS ev27 rfl rfl hl.1 rfl (Nat.le_of_ble_eq_true rfl) dL_law_150 ⟨hcs1, hss1⟩ (fun H locs hP hS => ?_)
          refine lv_icmp_ne (tgt := 171) hx hb dL_law_153 (by decide) (fun c9 => ?_) (fun c9 => ?_)
          · have hf := xif_f hf c9
            exact J5 _ hf _ _ _ hP hS (lv_sub hl [3, 4] rfl)
          · have hf := xif_t hf c9
            refine lv_aload_n hx hb dL_law_156 rfl (lv_at hl 4 rfl) ?_
            obtain ⟨v29, ev29, hf⟩ := xb hf
            obtain ⟨v30, h13, ev30, hf⟩ := xb2 hf
            refine xc_Vi (rest := []) ⟨hx, hb, hml, hown, hts⟩ (m_X5_sustainable l B0 G fu h12 h13 x v30 ev30) (cwV 0 hts gL_law_X5_sustainable rfl rfl rfl (by decide +kernel) ⟨Nat.le_of_ble_eq_true rfl, Nat.le_of_ble_eq_true rfl⟩) hKK hP hS ev29 rfl rfl hl.1 rfl (Nat.le_of_ble_eq_true rfl) dL_law_157 ⟨hcs1, hss1⟩ (fun H locs hP hS => ?_)
            refine lv_aload_n hx hb dL_law_160 rfl (lv_at hl 3 rfl) ?_
            obtain ⟨v31, ev31, hf⟩ := xb hf
            obtain ⟨v32, h14, ev32, hf⟩ := xb2 hf
            refine xc_Vi (rest := [.int v30]) ⟨hx, hb, hml, hown, hts⟩ (m_X5_sustainable l B0 G fu h13 h14 y v32 ev32) (cwV 0 hts gL_law_X5_sustainable rfl rfl rfl (by decide +kernel) ⟨Nat.le_of_ble_eq_true rfl, Nat.le_of_ble_eq_true rfl⟩) hKK hP hS ev31 rfl rfl hl.1 rfl (Nat.le_of_ble_eq_true rfl) dL_law_161 ⟨hcs1, hss1⟩ (fun H locs hP hS => ?_)
            refine lv_icmp_ne (tgt := 171) hx hb dL_law_164 (by decide) (fun c10 => ?_) (fun c10 => ?_)
            · have hf := xif_f hf c10
              exact J5 _ hf _ _ _ hP hS (lv_sub hl [3, 4] rfl)
            · have hf := xif_t hf c10
              refine lv_iconst (v := (1 : Int32)) hx hb dL_law_167 (by decide) ?_
              refine lv_goto (tgt := 172) hx hb dL_law_168 (by decide) ?_
              obtain ⟨rfl, rfl⟩ := xinj2 hf
              exact J4 _ _ _ hP hS (lv_sub hl [3, 4] rfl)
  clear hf
  refine xloop_ind (P := fun z => ∀ (H : Heap) (locs : List Loc) (ls : Array Slot), xP B0 G z.2.2 H → va_S (xA B0) s.heap H locs → lv_has ls 8 [(3, .int z.1), (4, .int z.2.1), (2, .ref y), (1, .ref x), (0, .ref b)] → W p l e room_1 s m #[Value.ref b] below meth c H locs 226 20000 Q (F0 m 26 ls [])) ?_ eL _ _ _ hP hS (lv_sub hl [1, 0, 2, 3, 4] rfl)
  rintro ⟨v2, v3, h2⟩ o hf IH EX H locs ls hP hS hl
  have hf := xf3_e hf
  have hP : xP B0 G h2 H := hP
  have hl : lv_has ls 8 [(3, .int v2), (4, .int v3), (2, .ref y), (1, .ref x), (0, .ref b)] := hl
  refine lv_iload hx hb dL_law_26 (lv_at hl 1 rfl) ?_
  refine lv_bipush (v := (20 : Int32)) hx hb dL_law_28 (by decide) ?_
  refine lv_icmp_ge (tgt := 81) hx hb dL_law_30 (by decide) (fun c1 => ?_) (fun c1 => ?_)
  · have hf := xif_t hf c1
    have hf := EX _ (Option.some.inj hf).symm
    obtain ⟨rfl, rfl⟩ := xpair2 hf
    exact J1 _ _ _ hP hS (lv_sub hl [0, 2, 3, 4] rfl)
  · have hf := xif_f hf c1
    refine lv_iload_n hx hb dL_law_33 rfl (lv_at hl 0 rfl) ?_
    refine lv_if_eq (tgt := 81) hx hb dL_law_34 (by decide) (fun c2 => ?_) (fun c2 => ?_)
    · have hf := xif_t hf c2
      have hf := EX _ (Option.some.inj hf).symm
      obtain ⟨rfl, rfl⟩ := xpair2 hf
      exact J1 _ _ _ hP hS (lv_sub hl [0, 2, 3, 4] rfl)
    · have hf := xif_f hf c2
      refine lv_aload_n hx hb dL_law_37 rfl (lv_at hl 3 rfl) ?_
      refine lv_aload_n hx hb dL_law_38 rfl (lv_at hl 2 rfl) ?_
      refine lv_aload_n hx hb dL_law_39 rfl (lv_at hl 4 rfl) ?_
      refine lv_bipush (v := (14 : Int32)) hx hb dL_law_40 (by decide) ?_
      refine lv_iload hx hb dL_law_42 (lv_at hl 1 rfl) ?_
      refine lv_iadd hx hb dL_law_44 ?_
      obtain ⟨v5, ev5, hf⟩ := xb1 hf
      refine xc_SiS (rest := [.ref y, .ref x]) ⟨hx, hb, hml, hown, hts⟩ (m_L_cell l B0 G h2 b L xs ((14 : Int32) + v3) v5 ev5) (va_cwS 2 hts gL_law_L_cell rfl rfl rfl (by decide +kernel) ⟨Nat.le_of_ble_eq_true rfl, Nat.le_of_ble_eq_true rfl⟩) hKK hXs hbl hbA hP hS rfl hl.1 rfl (Nat.le_of_ble_eq_true rfl) dL_law_45 ⟨hcs1, hss1⟩ (fun H locs hP hS => ?_)
      obtain ⟨v6, h4, ev6, hf⟩ := xb2 hf
      refine xc_Si (rest := []) ⟨hx, hb, hml, hown, hts⟩ (m_L_isStep l B0 G fu h2 h4 x y v5 v6 ev6) (va_cwS 3 hts gL_law_L_isStep rfl rfl rfl (by decide +kernel) ⟨Nat.le_of_ble_eq_true rfl, Nat.le_of_ble_eq_true rfl⟩) hKK hP hS rfl hl.1 rfl (Nat.le_of_ble_eq_true rfl) dL_law_48 ⟨hcs1, hss1⟩ (fun H locs hP hS => ?_)
      obtain ⟨v7, ej2, hf⟩ := xb1 hf
      have J2 : ∀ (H : Heap) (locs : List Loc) (ls : Array Slot), xP B0 G h4 H → va_S (xA B0) s.heap H locs → lv_has ls 8 [(4, .int v3), (2, .ref y), (1, .ref x), (0, .ref b)] → W p l e room_1 s m #[Value.ref b] below meth c H locs 226 20000 Q (F0 m 74 ls [.int v7]) := by
        intro H locs ls hP hS hl
        clear ej2
        refine lv_istore_n (lv' := [(3, .int v7), (4, .int v3), (2, .ref y), (1, .ref x), (0, .ref b)]) hx hb dL_law_74 rfl hl (by decide) rfl (fun ls hl => ?_)
        obtain ⟨v10, ev10, hf⟩ := xl hf
        refine lv_iinc (v := v10) (lv' := [(4, .int v10), (3, .int v7), (2, .ref y), (1, .ref x), (0, .ref b)]) hx hb dL_law_75 hl (k := 1) rfl (by rw [ev10]; rfl) (by decide) rfl (fun ls hl => ?_)
        refine lv_goto (tgt := 26) hx hb dL_law_78 (by decide) ?_
        exact IH _ (Option.some.inj hf).symm _ _ _ hP hS (lv_sub hl [1, 0, 2, 3, 4] rfl)
      have hf := ej2
      clear ej2
      obtain ⟨k3, ek3, hf⟩ := xlk hf
      have J3 : k3 = some v7 → ∀ (H : Heap) (locs : List Loc) (ls : Array Slot), xP B0 G h4 H → va_S (xA B0) s.heap H locs → lv_has ls 8 [(4, .int v3), (2, .ref y), (1, .ref x), (0, .ref b)] → W p l e room_1 s m #[Value.ref b] below meth c H locs 226 20000 Q (F0 m 73 ls []) := by
        intro  hf H locs ls hP hS hl
        have hf := xk0 ek3 hf
        clear ek3
        refine lv_iconst (v := (0 : Int32)) hx hb dL_law_73 (by decide) ?_
        obtain rfl := Option.some.inj hf
        exact J2 _ _ _ hP hS (lv_sub hl [0, 1, 2, 3] rfl)
      clear ek3
      refine lv_if_eq (tgt := 73) hx hb dL_law_51 (by decide) (fun c3 => ?_) (fun c3 => ?_)
      · have hf := xif_t hf c3
        exact J3  hf _ _ _ hP hS (lv_sub hl [1, 2, 3, 4] rfl)
      · have hf := xif_f hf c3
        refine lv_aload_n hx hb dL_law_54 rfl (lv_at hl 3 rfl) ?_
        refine lv_aload_n hx hb dL_law_55 rfl (lv_at hl 2 rfl) ?_
        obtain ⟨v8, ev8, hf⟩ := xb1 hf
        refine xc_Si (rest := []) ⟨hx, hb, hml, hown, hts⟩ (m_L_areAlike l B0 G fu h4 x y v8 ev8) (va_cwS 2 hts gL_law_L_areAlike rfl rfl rfl (by decide +kernel) ⟨Nat.le_of_ble_eq_true rfl, Nat.le_of_ble_eq_true rfl⟩) hKK hP hS rfl hl.1 rfl (Nat.le_of_ble_eq_true rfl) dL_law_56 ⟨hcs1, hss1⟩ (fun H locs hP hS => ?_)
        refine lv_if_eq (tgt := 73) hx hb dL_law_59 (by decide) (fun c4 => ?_) (fun c4 => ?_)
        · have hf := xif_t hf c4
          exact J3  hf _ _ _ hP hS (lv_sub hl [1, 2, 3, 4] rfl)
        · have hf := xif_f hf c4
          refine lv_aload_n hx hb dL_law_62 rfl (lv_at hl 3 rfl) ?_
          obtain ⟨v9, ev9, hf⟩ := xb1 hf
          refine xc_Si (rest := []) ⟨hx, hb, hml, hown, hts⟩ (m_L_isSound l B0 G fu h4 x v9 ev9) (va_cwS 1 hts gL_law_L_isSound rfl rfl rfl (by decide +kernel) ⟨Nat.le_of_ble_eq_true rfl, Nat.le_of_ble_eq_true rfl⟩) hKK hP hS rfl hl.1 rfl (Nat.le_of_ble_eq_true rfl) dL_law_63 ⟨hcs1, hss1⟩ (fun H locs hP hS => ?_)
          refine lv_if_eq (tgt := 73) hx hb dL_law_66 (by decide) (fun c5 => ?_) (fun c5 => ?_)
          · have hf := xif_t hf c5
            exact J3  hf _ _ _ hP hS (lv_sub hl [1, 2, 3, 4] rfl)
          · have hf := xif_f hf c5
            refine lv_iconst (v := (1 : Int32)) hx hb dL_law_69 (by decide) ?_
            refine lv_goto (tgt := 74) hx hb dL_law_70 (by decide) ?_
            obtain rfl := Option.some.inj hf
            exact J2 _ _ _ hP hS (lv_sub hl [1, 2, 3, 4] rfl)
