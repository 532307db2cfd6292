/-- RainReservoir.digest -/
def f_X5_digest (fu : Nat) (h : XH) (a0 : Nat) : Option (Int64) :=
  (xgR h a0 5 4).bind fun v1 =>
  (xgI h v1 0 1).bind fun v2 =>
  olet (((99293 : Int64) + (Int32.toInt64 v2))) fun v3 =>
  obind1 (xloop (xf2 fun (v4 : Int64) (v5 : Int32) =>
    if (12 : Int32) ≤ v5 then
      some (.inr v4)
    else
      (xgR h a0 5 0).bind fun v7 =>
      (xis h v7 2).bind fun v8 =>
      obind1 (f_X2_settingValue h v7 v5) fun v9 =>
      olet ((((31 : Int64) * v4) + (Int32.toInt64 v9))) fun v10 =>
      olet (v5 + (1 : Int32)) fun v11 =>
      some (.inl (v10, v11))
  ) fu (v3, (0 : Int32))) fun v6 =>
  obind1 (xloop (xf2 fun (v12 : Int64) (v13 : Int32) =>
    (xgR h a0 5 0).bind fun v15 =>
    (xgI h v15 2 7).bind fun v16 =>
    if v16 ≤ v13 then
      some (.inr v12)
    else
      obind1 (xloop (xf2 fun (v17 : Int64) (v18 : Int32) =>
        if (5 : Int32) ≤ v18 then
          some (.inr v17)
        else
          (xgR h a0 5 0).bind fun v20 =>
          (xgR h v20 2 6).bind fun v21 =>
          (xaldR h v21 3 v13).bind fun v22 =>
          (xis h v22 1).bind fun v23 =>
          obind1 (f_X1_value h v22 v18) fun v24 =>
          olet ((((31 : Int64) * v17) + (Int32.toInt64 v24))) fun v25 =>
          olet (v18 + (1 : Int32)) fun v26 =>
          some (.inl (v25, v26))
      ) fu (v12, (0 : Int32))) fun v19 =>
      olet (v13 + (1 : Int32)) fun v27 =>
      some (.inl (v19, v27))
  ) fu (v6, (0 : Int32))) fun v14 =>
  obind1 (xloop (xf2 fun (v28 : Int64) (v29 : Int32) =>
    (xgR h a0 5 0).bind fun v31 =>
    (xgR h v31 2 8).bind fun v32 =>
    (xgI h v32 4 1).bind fun v33 =>
    if v33 ≤ v29 then
      some (.inr v28)
    else
      obind1 (xloop (xf2 fun (v34 : Int64) (v35 : Int32) =>
        if (4 : Int32) ≤ v35 then
          some (.inr v34)
        else
          (xgR h a0 5 0).bind fun v37 =>
          (xgR h v37 2 8).bind fun v38 =>
          (xgR h v38 4 0).bind fun v39 =>
          (xaldR h v39 5 v29).bind fun v40 =>
          (xis h v40 3).bind fun v41 =>
          obind1 (f_X3_value h v40 v35) fun v42 =>
          olet ((((31 : Int64) * v34) + (Int32.toInt64 v42))) fun v43 =>
          olet (v35 + (1 : Int32)) fun v44 =>
          some (.inl (v43, v44))
      ) fu (v28, (0 : Int32))) fun v36 =>
      olet (v29 + (1 : Int32)) fun v45 =>
      some (.inl (v36, v45))
  ) fu (v14, (0 : Int32))) fun v30 =>
  obind1 (xloop (xf2 fun (v46 : Int64) (v47 : Int32) =>
    (xgR h a0 5 0).bind fun v49 =>
    (xgI h v49 2 10).bind fun v50 =>
    if v50 ≤ v47 then
      some (.inr v46)
    else
      (xgR h a0 5 0).bind fun v51 =>
      (xgR h v51 2 9).bind fun v52 =>
      (xald h v52 0 v47).bind fun v53 =>
      olet ((((31 : Int64) * v46) + (Int32.toInt64 v53))) fun v54 =>
      olet (v47 + (1 : Int32)) fun v55 =>
      some (.inl (v54, v55))
  ) fu (v30, (0 : Int32))) fun v48 =>
  obind1 (xloop (xf2 fun (v56 : Int64) (v57 : Int32) =>
    (xgR h a0 5 0).bind fun v59 =>
    (xgI h v59 2 11).bind fun v60 =>
    if v60 ≤ v57 then
      some (.inr v56)
    else
      obind1 (xloop (xf2 fun (v61 : Int64) (v62 : Int32) =>
        if (10 : Int32) ≤ v62 then
          some (.inr v61)
        else
          (xgR h a0 5 0).bind fun v64 =>
          (xis h v64 2).bind fun v65 =>
          obind1 (f_X2_account h v64 v57 v62) fun v66 =>
          olet ((((31 : Int64) * v61) + (Int32.toInt64 v66))) fun v67 =>
          olet (v62 + (1 : Int32)) fun v68 =>
          some (.inl (v67, v68))
      ) fu (v56, (0 : Int32))) fun v63 =>
      olet (v57 + (1 : Int32)) fun v69 =>
      some (.inl (v63, v69))
  ) fu (v48, (0 : Int32))) fun v58 =>
  obind1 (xloop (xf2 fun (v70 : Int64) (v71 : Int32) =>
    if (10 : Int32) ≤ v71 then
      some (.inr v70)
    else
      (xis h a0 5).bind fun v73 =>
      obind1 (xinl (f_X5_sum fu h a0 v71)) fun v74 =>
      olet ((((31 : Int64) * v70) + v74)) fun v75 =>
      olet (v71 + (1 : Int32)) fun v76 =>
      some (.inl (v75, v76))
  ) fu (v58, (1 : Int32))) fun v72 =>
  (xgI h a0 5 3).bind fun v77 =>
  some ((((31 : Int64) * v72) + (Int32.toInt64 v77)))
abbrev rmX5_digest : Room := { frames := 8, cells := 0, slots := 0, locals := 146 }
set_option maxHeartbeats 4000000 in
set_option maxRecDepth 100000 in
theorem m_X5_digest (l : Launch) (B0 : Nat) (G : XG) (fu : Nat) (h : XH) (a0 : Nat) (rE : Int64) (hf : f_X5_digest fu h a0 = some rE) : Met l yX5_digest wsX5_digest rmX5_digest (va_Pc [.ref a0] (xU B0 G h)) (xQl B0 G h rE) 0 0 (xA B0) := by
  refine xMet (cc := cX5_digest) (maxL := 5) (by decide) rfl (Nat.le_of_ble_eq_true rfl) ?_
  intro p e s m args below meth c ls hx hb hr hml hown hlocks hnm hts hKK hP hl
  have hown : s.vm.findClass RX5 = some m.cls := hown
  have hl : lv_has ls 5 [(0, .ref a0)] := hl
  have hS : va_S (xA B0) s.heap s.heap [] := va_S.rf
  have inX0 : ∀ w ∈ wsX00, w ∈ wsX5_digest := by decide +kernel
  have inX2 : ∀ w ∈ wsX20, w ∈ wsX5_digest := by decide +kernel
  have inX4 : ∀ w ∈ wsX40, w ∈ wsX5_digest := by decide +kernel
  have inX5 : ∀ w ∈ wsX50, w ∈ wsX5_digest := by decide +kernel
  have w1 := hts (.constantLong RX5 216 (99293)) (by decide +kernel)
  have w2 := hts (.fieldLink RX5 26 "RainReservoir" "text" "LRainReservoir$RainText;") (by decide +kernel)
  have w3 := hts (.fieldLink RX5 189 "RainReservoir$RainText" "length" "I") (by decide +kernel)
  have w4 := hts (.constantLong RX5 218 (31)) (by decide +kernel)
  have w5 := hts (.fieldLink RX5 10 "RainReservoir" "now" "LRainReservoir$State;") (by decide +kernel)
  have w6 := hts (.fieldLink RX5 35 "RainReservoir$State" "roofCount" "I") (by decide +kernel)
  have w7 := hts (.fieldLink RX5 49 "RainReservoir$State" "roofs" "[LRainReservoir$Roof;") (by decide +kernel)
  have w8 := hts (.fieldLink RX5 59 "RainReservoir$State" "users" "LRainReservoir$Users;") (by decide +kernel)
  have w9 := hts (.fieldLink RX5 63 "RainReservoir$Users" "count" "I") (by decide +kernel)
  have w10 := hts (.fieldLink RX5 70 "RainReservoir$Users" "rows" "[LRainReservoir$User;") (by decide +kernel)
  have w11 := hts (.fieldLink RX5 127 "RainReservoir$State" "rainCount" "I") (by decide +kernel)
  have w12 := hts (.fieldLink RX5 139 "RainReservoir$State" "rains" "[I") (by decide +kernel)
  have w13 := hts (.fieldLink RX5 143 "RainReservoir$State" "doneCount" "I") (by decide +kernel)
  have w14 := hts (.fieldLink RX5 207 "RainReservoir" "savedCount" "I") (by decide +kernel)
  generalize hQ : MQ below (xQl B0 G h rE) args s 0 0 (xA B0) = Q
  unfold f_X5_digest at hf
  refine lv_ldc2 (v := (99293 : Int64)) hx hb hown w1 dX5_digest_0 ?_
  refine lv_aload_n hx hb dX5_digest_3 rfl (lv_at hl 0 rfl) ?_
  obtain ⟨v1, ev1, hf⟩ := xb hf
  refine xr_getR hx hb hts inX5 hown hKK hP ev1 rfl (by decide) w2 (fun _ h9 => h9) dX5_digest_4 ?_
  obtain ⟨v2, ev2, hf⟩ := xb hf
  refine xr_getI hx hb hts inX0 hown hKK hP ev2 rfl (by decide) w3 (fun _ h9 => h9) dX5_digest_7 ?_
  refine lv_i2l hx hb dX5_digest_10 rfl ?_
  refine lv_ladd hx hb dX5_digest_11 ?_
  obtain ⟨v3, ev3, hf⟩ := xl hf
  refine xtopl ev3 ?_
  refine lv_lstore_n (lv' := [(1, .long v3), (0, .ref a0)]) hx hb dX5_digest_12 rfl hl (by decide) rfl (fun ls hl => ?_)
  refine lv_iconst (v := (0 : Int32)) hx hb dX5_digest_13 (by decide) ?_
  refine lv_istore_n (lv' := [(3, .int (0 : Int32)), (1, .long v3), (0, .ref a0)]) hx hb dX5_digest_14 rfl hl (by decide) rfl (fun ls hl => ?_)
  obtain ⟨v6, eL, hf⟩ := xb1 hf
  have J1 : ∀ (H : Heap) (locs : List Loc) (ls : Array Slot), xP B0 G h H → va_S (xA B0) s.heap H locs → lv_has ls 5 [(1, .long v6), (0, .ref a0)] → W p l e rmX5_digest s m args below meth c H locs 0 0 Q (F0 m 43 ls []) := by
    intro H locs ls hP hS hl
    clear eL
    refine lv_iconst (v := (0 : Int32)) hx hb dX5_digest_43 (by decide) ?_
    refine lv_istore_n (lv' := [(3, .int (0 : Int32)), (1, .long v6), (0, .ref a0)]) hx hb dX5_digest_44 rfl hl (by decide) rfl (fun ls hl => ?_)
    obtain ⟨v14, eL, hf⟩ := xb1 hf
    have J2 : ∀ (H : Heap) (locs : List Loc) (ls : Array Slot), xP B0 G h H → va_S (xA B0) s.heap H locs → lv_has ls 5 [(1, .long v14), (0, .ref a0)] → W p l e rmX5_digest s m args below meth c H locs 0 0 Q (F0 m 99 ls []) := by
      intro H locs ls hP hS hl
      clear eL
      refine lv_iconst (v := (0 : Int32)) hx hb dX5_digest_99 (by decide) ?_
      refine lv_istore_n (lv' := [(3, .int (0 : Int32)), (1, .long v14), (0, .ref a0)]) hx hb dX5_digest_100 rfl hl (by decide) rfl (fun ls hl => ?_)
      obtain ⟨v30, eL, hf⟩ := xb1 hf
      have J4 : ∀ (H : Heap) (locs : List Loc) (ls : Array Slot), xP B0 G h H → va_S (xA B0) s.heap H locs → lv_has ls 5 [(1, .long v30), (0, .ref a0)] → W p l e rmX5_digest s m args below meth c H locs 0 0 Q (F0 m 161 ls []) := by
        intro H locs ls hP hS hl
        clear eL
        refine lv_iconst (v := (0 : Int32)) hx hb dX5_digest_161 (by decide) ?_
        refine lv_istore_n (lv' := [(3, .int (0 : Int32)), (1, .long v30), (0, .ref a0)]) hx hb dX5_digest_162 rfl hl (by decide) rfl (fun ls hl => ?_)
        obtain ⟨v48, eL, hf⟩ := xb1 hf
        have J6 : ∀ (H : Heap) (locs : List Loc) (ls : Array Slot), xP B0 G h H → va_S (xA B0) s.heap H locs → lv_has ls 5 [(1, .long v48), (0, .ref a0)] → W p l e rmX5_digest s m args below meth c H locs 0 0 Q (F0 m 197 ls []) := by
          intro H locs ls hP hS hl
          clear eL
          refine lv_iconst (v := (0 : Int32)) hx hb dX5_digest_197 (by decide) ?_
          refine lv_istore_n (lv' := [(3, .int (0 : Int32)), (1, .long v48), (0, .ref a0)]) hx hb dX5_digest_198 rfl hl (by decide) rfl (fun ls hl => ?_)
          obtain ⟨v58, eL, hf⟩ := xb1 hf
          have J7 : ∀ (H : Heap) (locs : List Loc) (ls : Array Slot), xP B0 G h H → va_S (xA B0) s.heap H locs → lv_has ls 5 [(1, .long v58), (0, .ref a0)] → W p l e rmX5_digest s m args below meth c H locs 0 0 Q (F0 m 250 ls []) := by
            intro H locs ls hP hS hl
            clear eL
            refine lv_iconst (v := (1 : Int32)) hx hb dX5_digest_250 (by decide) ?_
            refine lv_istore_n (lv' := [(3, .int (1 : Int32)), (1, .long v58), (0, .ref a0)]) hx hb dX5_digest_251 rfl hl (by decide) rfl (fun ls hl => ?_)
            obtain ⟨v72, eL, hf⟩ := xb1 hf
            have J9 : ∀ (H : Heap) (locs : List Loc) (ls : Array Slot), xP B0 G h H → va_S (xA B0) s.heap H locs → lv_has ls 5 [(1, .long v72), (0, .ref a0)] → W p l e rmX5_digest s m args below meth c H locs 0 0 Q (F0 m 276 ls []) := by
              intro H locs ls hP hS hl
              clear eL
              refine lv_ldc2 (v := (31 : Int64)) hx hb hown w4 dX5_digest_276 ?_
              refine lv_lload_n hx hb dX5_digest_279 rfl (lv_at hl 0 rfl) ?_
              refine lv_lmul hx hb dX5_digest_280 ?_
              refine lv_aload_n hx hb dX5_digest_281 rfl (lv_at hl 1 rfl) ?_
              obtain ⟨v77, ev77, hf⟩ := xb hf
              refine xr_getI hx hb hts inX5 hown hKK hP ev77 rfl (by decide) w14 (fun _ h9 => h9) dX5_digest_282 ?_
              refine lv_i2l hx hb dX5_digest_285 rfl ?_
              refine lv_ladd hx hb dX5_digest_286 ?_
              obtain rfl := Option.some.inj hf
              subst hQ
              exact xe_l hx hb hr hlocks hKK hP hS dX5_digest_287
            clear hf
            refine xloop_ind (P := fun z => ∀ (H : Heap) (locs : List Loc) (ls : Array Slot), xP B0 G h H → va_S (xA B0) s.heap H locs → lv_has ls 5 [(1, .long z.1), (3, .int z.2), (0, .ref a0)] → W p l e rmX5_digest s m args below meth c H locs 0 0 Q (F0 m 252 ls [])) ?_ eL _ _ _ hP hS (lv_sub hl [1, 0, 2] rfl)
            rintro ⟨v70, v71⟩ o hf IH EX H locs ls hP hS hl
            have hf := xf2_e hf
            have hl : lv_has ls 5 [(1, .long v70), (3, .int v71), (0, .ref a0)] := hl
            refine lv_iload_n hx hb dX5_digest_252 rfl (lv_at hl 1 rfl) ?_
            refine lv_bipush (v := (10 : Int32)) hx hb dX5_digest_253 (by decide) ?_
            refine lv_icmp_ge (tgt := 276) hx hb dX5_digest_255 (by decide) (fun c9 => ?_) (fun c9 => ?_)
            · have hf := xif_t hf c9
              have hf := EX _ (Option.some.inj hf).symm
              obtain rfl := hf
              exact J9 _ _ _ hP hS (lv_sub hl [0, 2] rfl)
            · have hf := xif_f hf c9
              refine lv_ldc2 (v := (31 : Int64)) hx hb hown w4 dX5_digest_258 ?_
              refine lv_lload_n hx hb dX5_digest_261 rfl (lv_at hl 0 rfl) ?_
              refine lv_lmul hx hb dX5_digest_262 ?_
              refine lv_aload_n hx hb dX5_digest_263 rfl (lv_at hl 2 rfl) ?_
              refine lv_iload_n hx hb dX5_digest_264 rfl (lv_at hl 1 rfl) ?_
              obtain ⟨v73, ev73, hf⟩ := xb hf
              obtain ⟨v74, ev74, hf⟩ := xb1 hf
              have ev74 := xinl_spec ev74
              refine xc_Vl (rest := [.long ((31 : Int64) * v70)]) ⟨hx, hb, hml, hown, hts⟩ (m_X5_sum l B0 G fu h a0 v71 v74 ev74) (cwV 1 hts gX5_digest_X5_sum rfl rfl rfl (by decide +kernel) ⟨Nat.le_of_ble_eq_true rfl, Nat.le_of_ble_eq_true rfl⟩) hKK hP hS ev73 rfl rfl hl.1 rfl (Nat.le_of_ble_eq_true rfl) dX5_digest_265 ⟨Nat.zero_le _, Nat.zero_le _⟩ (fun H locs hP hS => ?_)
              refine lv_ladd hx hb dX5_digest_268 ?_
              obtain ⟨v75, ev75, hf⟩ := xl hf
              refine xtopl ev75 ?_
              refine lv_lstore_n (lv' := [(1, .long v75), (3, .int v71), (0, .ref a0)]) hx hb dX5_digest_269 rfl hl (by decide) rfl (fun ls hl => ?_)
              obtain ⟨v76, ev76, hf⟩ := xl hf
              refine lv_iinc (v := v76) (lv' := [(3, .int v76), (1, .long v75), (0, .ref a0)]) hx hb dX5_digest_270 hl (k := 1) rfl (by rw [ev76]; rfl) (by decide) rfl (fun ls hl => ?_)
              refine lv_goto (tgt := 252) hx hb dX5_digest_273 (by decide) ?_
              exact IH _ (Option.some.inj hf).symm _ _ _ hP hS (lv_sub hl [1, 0, 2] rfl)
          clear hf
          refine xloop_ind (P := fun z => ∀ (H : Heap) (locs : List Loc) (ls : Array Slot), xP B0 G h H → va_S (xA B0) s.heap H locs → lv_has ls 5 [(1, .long z.1), (3, .int z.2), (0, .ref a0)] → W p l e rmX5_digest s m args below meth c H locs 0 0 Q (F0 m 199 ls [])) ?_ eL _ _ _ hP hS (lv_sub hl [1, 0, 2] rfl)
          rintro ⟨v56, v57⟩ o hf IH EX H locs ls hP hS hl
          have hf := xf2_e hf
          have hl : lv_has ls 5 [(1, .long v56), (3, .int v57), (0, .ref a0)] := hl
          refine lv_iload_n hx hb dX5_digest_199 rfl (lv_at hl 1 rfl) ?_
          refine lv_aload_n hx hb dX5_digest_200 rfl (lv_at hl 2 rfl) ?_
          obtain ⟨v59, ev59, hf⟩ := xb hf
          refine xr_getR hx hb hts inX5 hown hKK hP ev59 rfl (by decide) w5 (fun _ h9 => h9) dX5_digest_201 ?_
          obtain ⟨v60, ev60, hf⟩ := xb hf
          refine xr_getI hx hb hts inX2 hown hKK hP ev60 rfl (by decide) w13 (fun _ h9 => h9) dX5_digest_204 ?_
          refine lv_icmp_ge (tgt := 250) hx hb dX5_digest_207 (by decide) (fun c7 => ?_) (fun c7 => ?_)
          · have hf := xif_t hf c7
            have hf := EX _ (Option.some.inj hf).symm
            obtain rfl := hf
            exact J7 _ _ _ hP hS (lv_sub hl [0, 2] rfl)
          · have hf := xif_f hf c7
            refine lv_iconst (v := (0 : Int32)) hx hb dX5_digest_210 (by decide) ?_
            refine lv_istore (lv' := [(4, .int (0 : Int32)), (1, .long v56), (3, .int v57), (0, .ref a0)]) hx hb dX5_digest_211 hl (by decide) rfl (fun ls hl => ?_)
            obtain ⟨v63, eL, hf⟩ := xb1 hf
            have J8 : ∀ (H : Heap) (locs : List Loc) (ls : Array Slot), xP B0 G h H → va_S (xA B0) s.heap H locs → lv_has ls 5 [(1, .long v63), (3, .int v57), (0, .ref a0)] → W p l e rmX5_digest s m args below meth c H locs 0 0 Q (F0 m 244 ls []) := by
              intro H locs ls hP hS hl
              clear eL
              obtain ⟨v69, ev69, hf⟩ := xl hf
              refine lv_iinc (v := v69) (lv' := [(3, .int v69), (1, .long v63), (0, .ref a0)]) hx hb dX5_digest_244 hl (k := 1) rfl (by rw [ev69]; rfl) (by decide) rfl (fun ls hl => ?_)
              refine lv_goto (tgt := 199) hx hb dX5_digest_247 (by decide) ?_
              exact IH _ (Option.some.inj hf).symm _ _ _ hP hS (lv_sub hl [1, 0, 2] rfl)
            clear hf
            refine xloop_ind (P := fun z => ∀ (H : Heap) (locs : List Loc) (ls : Array Slot), xP B0 G h H → va_S (xA B0) s.heap H locs → lv_has ls 5 [(1, .long z.1), (4, .int z.2), (3, .int v57), (0, .ref a0)] → W p l e rmX5_digest s m args below meth c H locs 0 0 Q (F0 m 213 ls [])) ?_ eL _ _ _ hP hS (lv_sub hl [1, 0, 2, 3] rfl)
            rintro ⟨v61, v62⟩ o hf IH EX H locs ls hP hS hl
            have hf := xf2_e hf
            have hl : lv_has ls 5 [(1, .long v61), (4, .int v62), (3, .int v57), (0, .ref a0)] := hl
            refine lv_iload hx hb dX5_digest_213 (lv_at hl 1 rfl) ?_
            refine lv_bipush (v := (10 : Int32)) hx hb dX5_digest_215 (by decide) ?_
            refine lv_icmp_ge (tgt := 244) hx hb dX5_digest_217 (by decide) (fun c8 => ?_) (fun c8 => ?_)
            · have hf := xif_t hf c8
              have hf := EX _ (Option.some.inj hf).symm
              obtain rfl := hf
              exact J8 _ _ _ hP hS (lv_sub hl [0, 2, 3] rfl)
            · have hf := xif_f hf c8
              refine lv_ldc2 (v := (31 : Int64)) hx hb hown w4 dX5_digest_220 ?_
              refine lv_lload_n hx hb dX5_digest_223 rfl (lv_at hl 0 rfl) ?_
              refine lv_lmul hx hb dX5_digest_224 ?_
              refine lv_aload_n hx hb dX5_digest_225 rfl (lv_at hl 3 rfl) ?_
              obtain ⟨v64, ev64, hf⟩ := xb hf
              refine xr_getR hx hb hts inX5 hown hKK hP ev64 rfl (by decide) w5 (fun _ h9 => h9) dX5_digest_226 ?_
              refine lv_iload_n hx hb dX5_digest_229 rfl (lv_at hl 2 rfl) ?_
              refine lv_iload hx hb dX5_digest_230 (lv_at hl 1 rfl) ?_
              obtain ⟨v65, ev65, hf⟩ := xb hf
              obtain ⟨v66, ev66, hf⟩ := xb1 hf
              refine xc_Vi (rest := [.long ((31 : Int64) * v61)]) ⟨hx, hb, hml, hown, hts⟩ (m_X2_account l B0 G h v64 v57 v62 v66 ev66) (cwV 2 hts gX5_digest_X2_account rfl rfl rfl (by decide +kernel) ⟨Nat.le_of_ble_eq_true rfl, Nat.le_of_ble_eq_true rfl⟩) hKK hP hS ev65 rfl rfl hl.1 rfl (Nat.le_of_ble_eq_true rfl) dX5_digest_232 ⟨Nat.zero_le _, Nat.zero_le _⟩ (fun H locs hP hS => ?_)
              refine lv_i2l hx hb dX5_digest_235 rfl ?_
              refine lv_ladd hx hb dX5_digest_236 ?_
              obtain ⟨v67, ev67, hf⟩ := xl hf
              refine xtopl ev67 ?_
              refine lv_lstore_n (lv' := [(1, .long v67), (4, .int v62), (3, .int v57), (0, .ref a0)]) hx hb dX5_digest_237 rfl hl (by decide) rfl (fun ls hl => ?_)
              obtain ⟨v68, ev68, hf⟩ := xl hf
              refine lv_iinc (v := v68) (lv' := [(4, .int v68), (1, .long v67), (3, .int v57), (0, .ref a0)]) hx hb dX5_digest_238 hl (k := 1) rfl (by rw [ev68]; rfl) (by decide) rfl (fun ls hl => ?_)
              refine lv_goto (tgt := 213) hx hb dX5_digest_241 (by decide) ?_
              exact IH _ (Option.some.inj hf).symm _ _ _ hP hS (lv_sub hl [1, 0, 2, 3] rfl)
        clear hf
        refine xloop_ind (P := fun z => ∀ (H : Heap) (locs : List Loc) (ls : Array Slot), xP B0 G h H → va_S (xA B0) s.heap H locs → lv_has ls 5 [(1, .long z.1), (3, .int z.2), (0, .ref a0)] → W p l e rmX5_digest s m args below meth c H locs 0 0 Q (F0 m 163 ls [])) ?_ eL _ _ _ hP hS (lv_sub hl [1, 0, 2] rfl)
        rintro ⟨v46, v47⟩ o hf IH EX H locs ls hP hS hl
        have hf := xf2_e hf
        have hl : lv_has ls 5 [(1, .long v46), (3, .int v47), (0, .ref a0)] := hl
        refine lv_iload_n hx hb dX5_digest_163 rfl (lv_at hl 1 rfl) ?_
        refine lv_aload_n hx hb dX5_digest_164 rfl (lv_at hl 2 rfl) ?_
        obtain ⟨v49, ev49, hf⟩ := xb hf
        refine xr_getR hx hb hts inX5 hown hKK hP ev49 rfl (by decide) w5 (fun _ h9 => h9) dX5_digest_165 ?_
        obtain ⟨v50, ev50, hf⟩ := xb hf
        refine xr_getI hx hb hts inX2 hown hKK hP ev50 rfl (by decide) w11 (fun _ h9 => h9) dX5_digest_168 ?_
        refine lv_icmp_ge (tgt := 197) hx hb dX5_digest_171 (by decide) (fun c6 => ?_) (fun c6 => ?_)
        · have hf := xif_t hf c6
          have hf := EX _ (Option.some.inj hf).symm
          obtain rfl := hf
          exact J6 _ _ _ hP hS (lv_sub hl [0, 2] rfl)
        · have hf := xif_f hf c6
          refine lv_ldc2 (v := (31 : Int64)) hx hb hown w4 dX5_digest_174 ?_
          refine lv_lload_n hx hb dX5_digest_177 rfl (lv_at hl 0 rfl) ?_
          refine lv_lmul hx hb dX5_digest_178 ?_
          refine lv_aload_n hx hb dX5_digest_179 rfl (lv_at hl 2 rfl) ?_
          obtain ⟨v51, ev51, hf⟩ := xb hf
          refine xr_getR hx hb hts inX5 hown hKK hP ev51 rfl (by decide) w5 (fun _ h9 => h9) dX5_digest_180 ?_
          obtain ⟨v52, ev52, hf⟩ := xb hf
          refine xr_getR hx hb hts inX2 hown hKK hP ev52 rfl (by decide) w12 (fun _ h9 => h9) dX5_digest_183 ?_
          refine lv_iload_n hx hb dX5_digest_186 rfl (lv_at hl 1 rfl) ?_
          obtain ⟨v53, ev53, hf⟩ := xb hf
          refine xr_iald hx hb hKK hP ev53 dX5_digest_187 ?_
          refine lv_i2l hx hb dX5_digest_188 rfl ?_
          refine lv_ladd hx hb dX5_digest_189 ?_
          obtain ⟨v54, ev54, hf⟩ := xl hf
          refine xtopl ev54 ?_
          refine lv_lstore_n (lv' := [(1, .long v54), (3, .int v47), (0, .ref a0)]) hx hb dX5_digest_190 rfl hl (by decide) rfl (fun ls hl => ?_)
          obtain ⟨v55, ev55, hf⟩ := xl hf
          refine lv_iinc (v := v55) (lv' := [(3, .int v55), (1, .long v54), (0, .ref a0)]) hx hb dX5_digest_191 hl (k := 1) rfl (by rw [ev55]; rfl) (by decide) rfl (fun ls hl => ?_)
          refine lv_goto (tgt := 163) hx hb dX5_digest_194 (by decide) ?_
          exact IH _ (Option.some.inj hf).symm _ _ _ hP hS (lv_sub hl [1, 0, 2] rfl)
      clear hf
      refine xloop_ind (P := fun z => ∀ (H : Heap) (locs : List Loc) (ls : Array Slot), xP B0 G h H → va_S (xA B0) s.heap H locs → lv_has ls 5 [(1, .long z.1), (3, .int z.2), (0, .ref a0)] → W p l e rmX5_digest s m args below meth c H locs 0 0 Q (F0 m 101 ls [])) ?_ eL _ _ _ hP hS (lv_sub hl [1, 0, 2] rfl)
      rintro ⟨v28, v29⟩ o hf IH EX H locs ls hP hS hl
      have hf := xf2_e hf
      have hl : lv_has ls 5 [(1, .long v28), (3, .int v29), (0, .ref a0)] := hl
      refine lv_iload_n hx hb dX5_digest_101 rfl (lv_at hl 1 rfl) ?_
      refine lv_aload_n hx hb dX5_digest_102 rfl (lv_at hl 2 rfl) ?_
      obtain ⟨v31, ev31, hf⟩ := xb hf
      refine xr_getR hx hb hts inX5 hown hKK hP ev31 rfl (by decide) w5 (fun _ h9 => h9) dX5_digest_103 ?_
      obtain ⟨v32, ev32, hf⟩ := xb hf
      refine xr_getR hx hb hts inX2 hown hKK hP ev32 rfl (by decide) w8 (fun _ h9 => h9) dX5_digest_106 ?_
      obtain ⟨v33, ev33, hf⟩ := xb hf
      refine xr_getI hx hb hts inX4 hown hKK hP ev33 rfl (by decide) w9 (fun _ h9 => h9) dX5_digest_109 ?_
      refine lv_icmp_ge (tgt := 161) hx hb dX5_digest_112 (by decide) (fun c4 => ?_) (fun c4 => ?_)
      · have hf := xif_t hf c4
        have hf := EX _ (Option.some.inj hf).symm
        obtain rfl := hf
        exact J4 _ _ _ hP hS (lv_sub hl [0, 2] rfl)
      · have hf := xif_f hf c4
        refine lv_iconst (v := (0 : Int32)) hx hb dX5_digest_115 (by decide) ?_
        refine lv_istore (lv' := [(4, .int (0 : Int32)), (1, .long v28), (3, .int v29), (0, .ref a0)]) hx hb dX5_digest_116 hl (by decide) rfl (fun ls hl => ?_)
        obtain ⟨v36, eL, hf⟩ := xb1 hf
        have J5 : ∀ (H : Heap) (locs : List Loc) (ls : Array Slot), xP B0 G h H → va_S (xA B0) s.heap H locs → lv_has ls 5 [(1, .long v36), (3, .int v29), (0, .ref a0)] → W p l e rmX5_digest s m args below meth c H locs 0 0 Q (F0 m 155 ls []) := by
          intro H locs ls hP hS hl
          clear eL
          obtain ⟨v45, ev45, hf⟩ := xl hf
          refine lv_iinc (v := v45) (lv' := [(3, .int v45), (1, .long v36), (0, .ref a0)]) hx hb dX5_digest_155 hl (k := 1) rfl (by rw [ev45]; rfl) (by decide) rfl (fun ls hl => ?_)
          refine lv_goto (tgt := 101) hx hb dX5_digest_158 (by decide) ?_
          exact IH _ (Option.some.inj hf).symm _ _ _ hP hS (lv_sub hl [1, 0, 2] rfl)
        clear hf
        refine xloop_ind (P := fun z => ∀ (H : Heap) (locs : List Loc) (ls : Array Slot), xP B0 G h H → va_S (xA B0) s.heap H locs → lv_has ls 5 [(1, .long z.1), (4, .int z.2), (3, .int v29), (0, .ref a0)] → W p l e rmX5_digest s m args below meth c H locs 0 0 Q (F0 m 118 ls [])) ?_ eL _ _ _ hP hS (lv_sub hl [1, 0, 2, 3] rfl)
        rintro ⟨v34, v35⟩ o hf IH EX H locs ls hP hS hl
        have hf := xf2_e hf
        have hl : lv_has ls 5 [(1, .long v34), (4, .int v35), (3, .int v29), (0, .ref a0)] := hl
        refine lv_iload hx hb dX5_digest_118 (lv_at hl 1 rfl) ?_
        refine lv_iconst (v := (4 : Int32)) hx hb dX5_digest_120 (by decide) ?_
        refine lv_icmp_ge (tgt := 155) hx hb dX5_digest_121 (by decide) (fun c5 => ?_) (fun c5 => ?_)
        · have hf := xif_t hf c5
          have hf := EX _ (Option.some.inj hf).symm
          obtain rfl := hf
          exact J5 _ _ _ hP hS (lv_sub hl [0, 2, 3] rfl)
        · have hf := xif_f hf c5
          refine lv_ldc2 (v := (31 : Int64)) hx hb hown w4 dX5_digest_124 ?_
          refine lv_lload_n hx hb dX5_digest_127 rfl (lv_at hl 0 rfl) ?_
          refine lv_lmul hx hb dX5_digest_128 ?_
          refine lv_aload_n hx hb dX5_digest_129 rfl (lv_at hl 3 rfl) ?_
          obtain ⟨v37, ev37, hf⟩ := xb hf
          refine xr_getR hx hb hts inX5 hown hKK hP ev37 rfl (by decide) w5 (fun _ h9 => h9) dX5_digest_130 ?_
          obtain ⟨v38, ev38, hf⟩ := xb hf
          refine xr_getR hx hb hts inX2 hown hKK hP ev38 rfl (by decide) w8 (fun _ h9 => h9) dX5_digest_133 ?_
          obtain ⟨v39, ev39, hf⟩ := xb hf
          refine xr_getR hx hb hts inX4 hown hKK hP ev39 rfl (by decide) w10 (fun _ h9 => h9) dX5_digest_136 ?_
          refine lv_iload_n hx hb dX5_digest_139 rfl (lv_at hl 2 rfl) ?_
          obtain ⟨v40, ev40, hf⟩ := xb hf
          refine xr_aald (fun _ => rfl) hx hb hKK hP ev40 dX5_digest_140 ?_
          refine lv_iload hx hb dX5_digest_141 (lv_at hl 1 rfl) ?_
          obtain ⟨v41, ev41, hf⟩ := xb hf
          obtain ⟨v42, ev42, hf⟩ := xb1 hf
          refine xc_Vi (rest := [.long ((31 : Int64) * v34)]) ⟨hx, hb, hml, hown, hts⟩ (m_X3_value l B0 G h v40 v35 v42 ev42) (cwV 1 hts gX5_digest_X3_value rfl rfl rfl (by decide +kernel) ⟨Nat.le_of_ble_eq_true rfl, Nat.le_of_ble_eq_true rfl⟩) hKK hP hS ev41 rfl rfl hl.1 rfl (Nat.le_of_ble_eq_true rfl) dX5_digest_143 ⟨Nat.zero_le _, Nat.zero_le _⟩ (fun H locs hP hS => ?_)
          refine lv_i2l hx hb dX5_digest_146 rfl ?_
          refine lv_ladd hx hb dX5_digest_147 ?_
          obtain ⟨v43, ev43, hf⟩ := xl hf
          refine xtopl ev43 ?_
          refine lv_lstore_n (lv' := [(1, .long v43), (4, .int v35), (3, .int v29), (0, .ref a0)]) hx hb dX5_digest_148 rfl hl (by decide) rfl (fun ls hl => ?_)
          obtain ⟨v44, ev44, hf⟩ := xl hf
          refine lv_iinc (v := v44) (lv' := [(4, .int v44), (1, .long v43), (3, .int v29), (0, .ref a0)]) hx hb dX5_digest_149 hl (k := 1) rfl (by rw [ev44]; rfl) (by decide) rfl (fun ls hl => ?_)
          refine lv_goto (tgt := 118) hx hb dX5_digest_152 (by decide) ?_
          exact IH _ (Option.some.inj hf).symm _ _ _ hP hS (lv_sub hl [1, 0, 2, 3] rfl)
    clear hf
    refine xloop_ind (P := fun z => ∀ (H : Heap) (locs : List Loc) (ls : Array Slot), xP B0 G h H → va_S (xA B0) s.heap H locs → lv_has ls 5 [(1, .long z.1), (3, .int z.2), (0, .ref a0)] → W p l e rmX5_digest s m args below meth c H locs 0 0 Q (F0 m 45 ls [])) ?_ eL _ _ _ hP hS (lv_sub hl [1, 0, 2] rfl)
    rintro ⟨v12, v13⟩ o hf IH EX H locs ls hP hS hl
    have hf := xf2_e hf
    have hl : lv_has ls 5 [(1, .long v12), (3, .int v13), (0, .ref a0)] := hl
    refine lv_iload_n hx hb dX5_digest_45 rfl (lv_at hl 1 rfl) ?_
    refine lv_aload_n hx hb dX5_digest_46 rfl (lv_at hl 2 rfl) ?_
    obtain ⟨v15, ev15, hf⟩ := xb hf
    refine xr_getR hx hb hts inX5 hown hKK hP ev15 rfl (by decide) w5 (fun _ h9 => h9) dX5_digest_47 ?_
    obtain ⟨v16, ev16, hf⟩ := xb hf
    refine xr_getI hx hb hts inX2 hown hKK hP ev16 rfl (by decide) w6 (fun _ h9 => h9) dX5_digest_50 ?_
    refine lv_icmp_ge (tgt := 99) hx hb dX5_digest_53 (by decide) (fun c2 => ?_) (fun c2 => ?_)
    · have hf := xif_t hf c2
      have hf := EX _ (Option.some.inj hf).symm
      obtain rfl := hf
      exact J2 _ _ _ hP hS (lv_sub hl [0, 2] rfl)
    · have hf := xif_f hf c2
      refine lv_iconst (v := (0 : Int32)) hx hb dX5_digest_56 (by decide) ?_
      refine lv_istore (lv' := [(4, .int (0 : Int32)), (1, .long v12), (3, .int v13), (0, .ref a0)]) hx hb dX5_digest_57 hl (by decide) rfl (fun ls hl => ?_)
      obtain ⟨v19, eL, hf⟩ := xb1 hf
      have J3 : ∀ (H : Heap) (locs : List Loc) (ls : Array Slot), xP B0 G h H → va_S (xA B0) s.heap H locs → lv_has ls 5 [(1, .long v19), (3, .int v13), (0, .ref a0)] → W p l e rmX5_digest s m args below meth c H locs 0 0 Q (F0 m 93 ls []) := by
        intro H locs ls hP hS hl
        clear eL
        obtain ⟨v27, ev27, hf⟩ := xl hf
        refine lv_iinc (v := v27) (lv' := [(3, .int v27), (1, .long v19), (0, .ref a0)]) hx hb dX5_digest_93 hl (k := 1) rfl (by rw [ev27]; rfl) (by decide) rfl (fun ls hl => ?_)
        refine lv_goto (tgt := 45) hx hb dX5_digest_96 (by decide) ?_
        exact IH _ (Option.some.inj hf).symm _ _ _ hP hS (lv_sub hl [1, 0, 2] rfl)
      clear hf
      refine xloop_ind (P := fun z => ∀ (H : Heap) (locs : List Loc) (ls : Array Slot), xP B0 G h H → va_S (xA B0) s.heap H locs → lv_has ls 5 [(1, .long z.1), (4, .int z.2), (3, .int v13), (0, .ref a0)] → W p l e rmX5_digest s m args below meth c H locs 0 0 Q (F0 m 59 ls [])) ?_ eL _ _ _ hP hS (lv_sub hl [1, 0, 2, 3] rfl)
      rintro ⟨v17, v18⟩ o hf IH EX H locs ls hP hS hl
      have hf := xf2_e hf
      have hl : lv_has ls 5 [(1, .long v17), (4, .int v18), (3, .int v13), (0, .ref a0)] := hl
      refine lv_iload hx hb dX5_digest_59 (lv_at hl 1 rfl) ?_
      refine lv_iconst (v := (5 : Int32)) hx hb dX5_digest_61 (by decide) ?_
      refine lv_icmp_ge (tgt := 93) hx hb dX5_digest_62 (by decide) (fun c3 => ?_) (fun c3 => ?_)
      · have hf := xif_t hf c3
        have hf := EX _ (Option.some.inj hf).symm
        obtain rfl := hf
        exact J3 _ _ _ hP hS (lv_sub hl [0, 2, 3] rfl)
      · have hf := xif_f hf c3
        refine lv_ldc2 (v := (31 : Int64)) hx hb hown w4 dX5_digest_65 ?_
        refine lv_lload_n hx hb dX5_digest_68 rfl (lv_at hl 0 rfl) ?_
        refine lv_lmul hx hb dX5_digest_69 ?_
        refine lv_aload_n hx hb dX5_digest_70 rfl (lv_at hl 3 rfl) ?_
        obtain ⟨v20, ev20, hf⟩ := xb hf
        refine xr_getR hx hb hts inX5 hown hKK hP ev20 rfl (by decide) w5 (fun _ h9 => h9) dX5_digest_71 ?_
        obtain ⟨v21, ev21, hf⟩ := xb hf
        refine xr_getR hx hb hts inX2 hown hKK hP ev21 rfl (by decide) w7 (fun _ h9 => h9) dX5_digest_74 ?_
        refine lv_iload_n hx hb dX5_digest_77 rfl (lv_at hl 2 rfl) ?_
        obtain ⟨v22, ev22, hf⟩ := xb hf
        refine xr_aald (fun _ => rfl) hx hb hKK hP ev22 dX5_digest_78 ?_
        refine lv_iload hx hb dX5_digest_79 (lv_at hl 1 rfl) ?_
        obtain ⟨v23, ev23, hf⟩ := xb hf
        obtain ⟨v24, ev24, hf⟩ := xb1 hf
        refine xc_Vi (rest := [.long ((31 : Int64) * v17)]) ⟨hx, hb, hml, hown, hts⟩ (m_X1_value l B0 G h v22 v18 v24 ev24) (cwV 1 hts gX5_digest_X1_value rfl rfl rfl (by decide +kernel) ⟨Nat.le_of_ble_eq_true rfl, Nat.le_of_ble_eq_true rfl⟩) hKK hP hS ev23 rfl rfl hl.1 rfl (Nat.le_of_ble_eq_true rfl) dX5_digest_81 ⟨Nat.zero_le _, Nat.zero_le _⟩ (fun H locs hP hS => ?_)
        refine lv_i2l hx hb dX5_digest_84 rfl ?_
        refine lv_ladd hx hb dX5_digest_85 ?_
        obtain ⟨v25, ev25, hf⟩ := xl hf
        refine xtopl ev25 ?_
        refine lv_lstore_n (lv' := [(1, .long v25), (4, .int v18), (3, .int v13), (0, .ref a0)]) hx hb dX5_digest_86 rfl hl (by decide) rfl (fun ls hl => ?_)
        obtain ⟨v26, ev26, hf⟩ := xl hf
        refine lv_iinc (v := v26) (lv' := [(4, .int v26), (1, .long v25), (3, .int v13), (0, .ref a0)]) hx hb dX5_digest_87 hl (k := 1) rfl (by rw [ev26]; rfl) (by decide) rfl (fun ls hl => ?_)
        refine lv_goto (tgt := 59) hx hb dX5_digest_90 (by decide) ?_
        exact IH _ (Option.some.inj hf).symm _ _ _ hP hS (lv_sub hl [1, 0, 2, 3] rfl)
  clear hf
  refine xloop_ind (P := fun z => ∀ (H : Heap) (locs : List Loc) (ls : Array Slot), xP B0 G h H → va_S (xA B0) s.heap H locs → lv_has ls 5 [(1, .long z.1), (3, .int z.2), (0, .ref a0)] → W p l e rmX5_digest s m args below meth c H locs 0 0 Q (F0 m 15 ls [])) ?_ eL _ _ _ hP hS (lv_sub hl [1, 0, 2] rfl)
  rintro ⟨v4, v5⟩ o hf IH EX H locs ls hP hS hl
  have hf := xf2_e hf
  have hl : lv_has ls 5 [(1, .long v4), (3, .int v5), (0, .ref a0)] := hl
  refine lv_iload_n hx hb dX5_digest_15 rfl (lv_at hl 1 rfl) ?_
  refine lv_bipush (v := (12 : Int32)) hx hb dX5_digest_16 (by decide) ?_
  refine lv_icmp_ge (tgt := 43) hx hb dX5_digest_18 (by decide) (fun c1 => ?_) (fun c1 => ?_)
  · have hf := xif_t hf c1
    have hf := EX _ (Option.some.inj hf).symm
    obtain rfl := hf
    exact J1 _ _ _ hP hS (lv_sub hl [0, 2] rfl)
  · have hf := xif_f hf c1
    refine lv_ldc2 (v := (31 : Int64)) hx hb hown w4 dX5_digest_21 ?_
    refine lv_lload_n hx hb dX5_digest_24 rfl (lv_at hl 0 rfl) ?_
    refine lv_lmul hx hb dX5_digest_25 ?_
    refine lv_aload_n hx hb dX5_digest_26 rfl (lv_at hl 2 rfl) ?_
    obtain ⟨v7, ev7, hf⟩ := xb hf
    refine xr_getR hx hb hts inX5 hown hKK hP ev7 rfl (by decide) w5 (fun _ h9 => h9) dX5_digest_27 ?_
    refine lv_iload_n hx hb dX5_digest_30 rfl (lv_at hl 1 rfl) ?_
    obtain ⟨v8, ev8, hf⟩ := xb hf
    obtain ⟨v9, ev9, hf⟩ := xb1 hf
    refine xc_Vi (rest := [.long ((31 : Int64) * v4)]) ⟨hx, hb, hml, hown, hts⟩ (m_X2_settingValue l B0 G h v7 v5 v9 ev9) (cwV 1 hts gX5_digest_X2_settingValue rfl rfl rfl (by decide +kernel) ⟨Nat.le_of_ble_eq_true rfl, Nat.le_of_ble_eq_true rfl⟩) hKK hP hS ev8 rfl rfl hl.1 rfl (Nat.le_of_ble_eq_true rfl) dX5_digest_31 ⟨Nat.zero_le _, Nat.zero_le _⟩ (fun H locs hP hS => ?_)
    refine lv_i2l hx hb dX5_digest_34 rfl ?_
    refine lv_ladd hx hb dX5_digest_35 ?_
    obtain ⟨v10, ev10, hf⟩ := xl hf
    refine xtopl ev10 ?_
    refine lv_lstore_n (lv' := [(1, .long v10), (3, .int v5), (0, .ref a0)]) hx hb dX5_digest_36 rfl hl (by decide) rfl (fun ls hl => ?_)
    obtain ⟨v11, ev11, hf⟩ := xl hf
    refine lv_iinc (v := v11) (lv' := [(3, .int v11), (1, .long v10), (0, .ref a0)]) hx hb dX5_digest_37 hl (k := 1) rfl (by rw [ev11]; rfl) (by decide) rfl (fun ls hl => ?_)
    refine lv_goto (tgt := 15) hx hb dX5_digest_40 (by decide) ?_
    exact IH _ (Option.some.inj hf).symm _ _ _ hP hS (lv_sub hl [1, 0, 2] rfl)
