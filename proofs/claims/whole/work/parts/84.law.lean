/-! The law: a call of each kind. -/
def xsld (L : Nat) (xs : Nat → Int32) (i : Int32) : Option Int32 := if xin i L = true then some (xs i.toNatClampNeg) else none
/-- what stands all the way: the machine, the words, the script, the tables -/
def xLC (p : Program) (l : Launch) (s : State) (m : MethodId) (c : Code) (B0 : Nat) (G : XG) (b L : Nat) (xs : Nat → Int32) : Prop :=
  p.tables.exec = Jvm.exec ∧ c.code = cL_law ∧ c.maxLocals = 9 ∧ s.vm.findClass RL = some m.cls ∧ (∀ w ∈ wsL_law, w.before #[Value.ref b] s = true) ∧ va_X b L xs s s.heap ∧ b < s.heap.size ∧ ¬ xA B0 b ∧ xK G s ∧ xZ B0 s ∧ xStr s ∧ xCas s ∧ l.stackTraces = false
theorem xr_sld {p : Program} {l : Launch} {e : Env} {R : Room} {s : State} {m : MethodId} {args : Array Value} {below : List Frame} {meth : Method} {c : Code} {H : Heap} {locs : List Loc} {cells slots : Nat} {Q : State → Prop} {cc : ByteArray} {pc : Nat} {ls : Array Slot} {rest : List Value} {B0 : Nat} (hexec : p.tables.exec = Jvm.exec) (hb : c.code = cc) {b L : Nat} {xs : Nat → Int32} (hX : va_X b L xs s s.heap) (hbl : b < s.heap.size) (hbA : ¬ xA B0 b) (hS : va_S (xA B0) s.heap H locs) {i v : Int32} (e1 : xsld L xs i = some v) (hdg : decode cc pc = .ok (.iaload, 1))
    (kk : W p l e R s m args below meth c H locs cells slots Q (F0 m (pc + 1) ls (.int v :: rest))) : W p l e R s m args below meth c H locs cells slots Q (F0 m pc ls (.int i :: .ref b :: rest)) := by
  unfold xsld at e1
  split at e1
  · next hq =>
    cases e1
    exact va_sld hexec hb hX hbl hbA hS (xin_vp hq) hdg kk
  · cases e1
/-- the law, call 0 -/
def lc_0 (fu L : Nat) (xs : Nat → Int32) (x mm o : Nat) (i : Int32) (h : XH) : Option XH :=
  (xsld L xs (i + (1 : Int32))).bind fun v1 =>
  (xsld L xs (i + (2 : Int32))).bind fun v2 =>
  (xsld L xs (i + (3 : Int32))).bind fun v3 =>
  (xsld L xs (i + (4 : Int32))).bind fun v4 =>
  obind2 (f_L_addRoof fu h x v1 v2 v3 v4 o) fun v5 h1 =>
  (xsld L xs (i + (1 : Int32))).bind fun v6 =>
  (xsld L xs (i + (2 : Int32))).bind fun v7 =>
  (xsld L xs (i + (3 : Int32))).bind fun v8 =>
  (xsld L xs (i + (4 : Int32))).bind fun v9 =>
  (xis h1 mm 6).bind fun v10 =>
  obind2 (f_X6_addRoof fu h1 mm v6 v7 v8 v9) fun v11 h2 =>
  (xis h2 mm 6).bind fun v12 =>
  obind1 (f_X6_thrown h2 mm) fun v13 =>
  if v13 = v5 then
    oletk (
      some h2
    ) fun k1 =>
    if v5 = (0 : Int32) then
      (xaldL h2 o (0 : Int32)).bind fun v14 =>
      if v14 = (Int32.toInt64 v11) then
        k1
      else
        none
    else
      k1
  else
    none
set_option maxHeartbeats 4000000 in
set_option maxRecDepth 100000 in
theorem lp_0 {p : Program} {l : Launch} {e : Env} {s : State} {m : MethodId} {below : List Frame} {meth : Method} {c : Code} {B0 : Nat} {G : XG} {b L : Nat} {xs : Nat → Int32} {Q : State → Prop} (C0 : xLC p l s m c B0 G b L xs) (fu x mm o : Nat) (i : Int32) (h hE : XH) (hf : lc_0 fu L xs x mm o i h = some hE) {cells slots : Nat} (hcs1 : cells + 1 ≤ 601024) (hss1 : slots + 6 ≤ 7293033)
    (K : ∀ (H : Heap) (locs : List Loc) (ls : Array Slot), xP B0 G hE H → va_S (xA B0) s.heap H locs → lv_has ls 9 [(4, .int i), (0, .ref b), (1, .ref x), (2, .ref mm), (3, .ref o)] → W p l e room_1 s m #[Value.ref b] below meth c H locs (cells + 1) (slots + 6) Q (F0 m 1535 ls [])) :
    ∀ (H : Heap) (locs : List Loc) (ls : Array Slot), xP B0 G h H → va_S (xA B0) s.heap H locs → lv_has ls 9 [(4, .int i), (0, .ref b), (1, .ref x), (2, .ref mm), (3, .ref o)] → W p l e room_1 s m #[Value.ref b] below meth c H locs (cells) (slots) Q (F0 m 160 ls []) := by
  obtain ⟨hx, hb, hml, hown, hts, hXs, hbl, hbA, hKK, hZ, hX, hC, htr⟩ := C0
  intro H locs ls hP hS hl
  unfold lc_0 at hf
  refine lv_aload_n hx hb dL_law_160 rfl (lv_at hl 2 rfl) ?_
  refine lv_aload_n hx hb dL_law_161 rfl (lv_at hl 1 rfl) ?_
  refine lv_iload hx hb dL_law_162 (lv_at hl 0 rfl) ?_
  refine lv_iconst (v := (1 : Int32)) hx hb dL_law_164 (by decide) ?_
  refine lv_iadd hx hb dL_law_165 ?_
  obtain ⟨v1, ev1, hf⟩ := xb hf
  refine xr_sld hx hb hXs hbl hbA hS ev1 dL_law_166 ?_
  refine lv_aload_n hx hb dL_law_167 rfl (lv_at hl 1 rfl) ?_
  refine lv_iload hx hb dL_law_168 (lv_at hl 0 rfl) ?_
  refine lv_iconst (v := (2 : Int32)) hx hb dL_law_170 (by decide) ?_
  refine lv_iadd hx hb dL_law_171 ?_
  obtain ⟨v2, ev2, hf⟩ := xb hf
  refine xr_sld hx hb hXs hbl hbA hS ev2 dL_law_172 ?_
  refine lv_aload_n hx hb dL_law_173 rfl (lv_at hl 1 rfl) ?_
  refine lv_iload hx hb dL_law_174 (lv_at hl 0 rfl) ?_
  refine lv_iconst (v := (3 : Int32)) hx hb dL_law_176 (by decide) ?_
  refine lv_iadd hx hb dL_law_177 ?_
  obtain ⟨v3, ev3, hf⟩ := xb hf
  refine xr_sld hx hb hXs hbl hbA hS ev3 dL_law_178 ?_
  refine lv_aload_n hx hb dL_law_179 rfl (lv_at hl 1 rfl) ?_
  refine lv_iload hx hb dL_law_180 (lv_at hl 0 rfl) ?_
  refine lv_iconst (v := (4 : Int32)) hx hb dL_law_182 (by decide) ?_
  refine lv_iadd hx hb dL_law_183 ?_
  obtain ⟨v4, ev4, hf⟩ := xb hf
  refine xr_sld hx hb hXs hbl hbA hS ev4 dL_law_184 ?_
  refine lv_aload_n hx hb dL_law_185 rfl (lv_at hl 4 rfl) ?_
  obtain ⟨v5, h1, ev5, hf⟩ := xb2 hf
  refine xc_SWi (rest := []) ⟨hx, hb, hml, hown, hts⟩ (m_L_addRoof l htr B0 G fu h h1 x v1 v2 v3 v4 o v5 ev5) (vx_cwSW 6 hts gL_law_L_addRoof rfl rfl rfl (by decide +kernel) ⟨Nat.le_of_ble_eq_true rfl, Nat.le_of_ble_eq_true rfl⟩) hKK hZ hX hC hP hS rfl hl.1 rfl (Nat.le_of_ble_eq_true rfl) dL_law_186 ⟨hcs1, hss1⟩ (fun H locs hP hS => ?_)
  refine lv_istore (lv' := [(5, .int v5), (4, .int i), (0, .ref b), (1, .ref x), (2, .ref mm), (3, .ref o)]) hx hb dL_law_189 hl (by decide) rfl (fun ls hl => ?_)
  refine lv_aload_n hx hb dL_law_191 rfl (lv_at hl 4 rfl) ?_
  refine lv_aload_n hx hb dL_law_192 rfl (lv_at hl 2 rfl) ?_
  refine lv_iload hx hb dL_law_193 (lv_at hl 1 rfl) ?_
  refine lv_iconst (v := (1 : Int32)) hx hb dL_law_195 (by decide) ?_
  refine lv_iadd hx hb dL_law_196 ?_
  obtain ⟨v6, ev6, hf⟩ := xb hf
  refine xr_sld hx hb hXs hbl hbA hS ev6 dL_law_197 ?_
  refine lv_aload_n hx hb dL_law_198 rfl (lv_at hl 2 rfl) ?_
  refine lv_iload hx hb dL_law_199 (lv_at hl 1 rfl) ?_
  refine lv_iconst (v := (2 : Int32)) hx hb dL_law_201 (by decide) ?_
  refine lv_iadd hx hb dL_law_202 ?_
  obtain ⟨v7, ev7, hf⟩ := xb hf
  refine xr_sld hx hb hXs hbl hbA hS ev7 dL_law_203 ?_
  refine lv_aload_n hx hb dL_law_204 rfl (lv_at hl 2 rfl) ?_
  refine lv_iload hx hb dL_law_205 (lv_at hl 1 rfl) ?_
  refine lv_iconst (v := (3 : Int32)) hx hb dL_law_207 (by decide) ?_
  refine lv_iadd hx hb dL_law_208 ?_
  obtain ⟨v8, ev8, hf⟩ := xb hf
  refine xr_sld hx hb hXs hbl hbA hS ev8 dL_law_209 ?_
  refine lv_aload_n hx hb dL_law_210 rfl (lv_at hl 2 rfl) ?_
  refine lv_iload hx hb dL_law_211 (lv_at hl 1 rfl) ?_
  refine lv_iconst (v := (4 : Int32)) hx hb dL_law_213 (by decide) ?_
  refine lv_iadd hx hb dL_law_214 ?_
  obtain ⟨v9, ev9, hf⟩ := xb hf
  refine xr_sld hx hb hXs hbl hbA hS ev9 dL_law_215 ?_
  obtain ⟨v10, ev10, hf⟩ := xb hf
  obtain ⟨v11, h2, ev11, hf⟩ := xb2 hf
  refine xc_Vi (rest := []) ⟨hx, hb, hml, hown, hts⟩ (m_X6_addRoof l B0 G fu h1 h2 mm v6 v7 v8 v9 v11 ev11) (cwV 4 hts gL_law_X6_addRoof rfl rfl rfl (by decide +kernel) ⟨Nat.le_of_ble_eq_true rfl, Nat.le_of_ble_eq_true rfl⟩) hKK hP hS ev10 rfl rfl hl.1 rfl (Nat.le_of_ble_eq_true rfl) dL_law_216 ⟨hcs1, hss1⟩ (fun H locs hP hS => ?_)
  refine lv_istore (lv' := [(6, .int v11), (5, .int v5), (4, .int i), (0, .ref b), (1, .ref x), (2, .ref mm), (3, .ref o)]) hx hb dL_law_219 hl (by decide) rfl (fun ls hl => ?_)
  refine lv_aload_n hx hb dL_law_221 rfl (lv_at hl 5 rfl) ?_
  obtain ⟨v12, ev12, hf⟩ := xb hf
  obtain ⟨v13, ev13, hf⟩ := xb1 hf
  refine xc_Vi (rest := []) ⟨hx, hb, hml, hown, hts⟩ (m_X6_thrown l B0 G h2 mm v13 ev13) (cwV 0 hts gL_law_X6_thrown rfl rfl rfl (by decide +kernel) ⟨Nat.le_of_ble_eq_true rfl, Nat.le_of_ble_eq_true rfl⟩) hKK hP hS ev12 rfl rfl hl.1 rfl (Nat.le_of_ble_eq_true rfl) dL_law_222 ⟨hcs1, hss1⟩ (fun H locs hP hS => ?_)
  refine lv_iload hx hb dL_law_225 (lv_at hl 1 rfl) ?_
  refine lv_icmp_eq (tgt := 232) hx hb dL_law_227 (by decide) (fun c1 => ?_) (fun c1 => ?_)
  · have hf := xif_t hf c1
    refine lv_iload hx hb dL_law_232 (lv_at hl 1 rfl) ?_
    obtain ⟨k1, ek1, hf⟩ := xlk hf
    have J1 : k1 = some hE → ∀ (H : Heap) (locs : List Loc) (ls : Array Slot), xP B0 G h2 H → va_S (xA B0) s.heap H locs → lv_has ls 9 [(4, .int i), (0, .ref b), (1, .ref x), (2, .ref mm), (3, .ref o)] → W p l e room_1 s m #[Value.ref b] below meth c H locs (cells + 1) (slots + 6) Q (F0 m 249 ls []) := by
      intro  hf H locs ls hP hS hl
      have hf := xk0 ek1 hf
      clear ek1
      refine lv_goto (tgt := 1535) hx hb dL_law_249 (by decide) ?_
      obtain rfl := Option.some.inj hf
      refine W.widen (k := cells + 1) (n := slots + 6) (by omega) (by omega) ?_
      exact K _ _ _ hP hS (lv_sub hl [0, 1, 2, 3, 4] rfl)
    clear ek1
    refine lv_if_ne (tgt := 249) hx hb dL_law_234 (by decide) (fun c2 => ?_) (fun c2 => ?_)
    · have hf := xif_f hf c2
      exact J1  hf _ _ _ hP hS (lv_sub hl [2, 3, 4, 5, 6] rfl)
    · have hf := xif_t hf c2
      refine lv_aload_n hx hb dL_law_237 rfl (lv_at hl 6 rfl) ?_
      refine lv_iconst (v := (0 : Int32)) hx hb dL_law_238 (by decide) ?_
      obtain ⟨v14, ev14, hf⟩ := xb hf
      refine xr_lald hx hb hKK hP ev14 dL_law_239 ?_
      refine lv_iload hx hb dL_law_240 (lv_at hl 0 rfl) ?_
      refine lv_i2l hx hb dL_law_242 rfl ?_
      refine xr_lcmp_eq (tgt := 249) hx hb dL_law_243 dL_law_244 (by decide) (fun c3 => ?_) (fun c3 => ?_)
      · have hf := xif_t hf c3
        exact J1  hf _ _ _ hP hS (lv_sub hl [2, 3, 4, 5, 6] rfl)
      · have hf := xif_f hf c3
        refine lv_iconst (v := (0 : Int32)) hx hb dL_law_247 (by decide) ?_
        cases hf
  · have hf := xif_f hf c1
    refine lv_iconst (v := (0 : Int32)) hx hb dL_law_230 (by decide) ?_
    cases hf
/-- the law, call 1 -/
def lc_1 (fu L : Nat) (xs : Nat → Int32) (x mm o : Nat) (i : Int32) (h : XH) : Option XH :=
  (xsld L xs (i + (1 : Int32))).bind fun v1 =>
  (xsld L xs (i + (2 : Int32))).bind fun v2 =>
  obind2 (f_L_addUser fu h x v1 v2 o) fun v3 h1 =>
  (xsld L xs (i + (1 : Int32))).bind fun v4 =>
  (xsld L xs (i + (2 : Int32))).bind fun v5 =>
  (xis h1 mm 6).bind fun v6 =>
  obind2 (f_X6_addUser fu h1 mm v4 v5) fun v7 h2 =>
  (xis h2 mm 6).bind fun v8 =>
  obind1 (f_X6_thrown h2 mm) fun v9 =>
  if v9 = v3 then
    oletk (
      some h2
    ) fun k1 =>
    if v3 = (0 : Int32) then
      (xaldL h2 o (0 : Int32)).bind fun v10 =>
      if v10 = (Int32.toInt64 v7) then
        k1
      else
        none
    else
      k1
  else
    none
set_option maxHeartbeats 4000000 in
set_option maxRecDepth 100000 in
theorem lp_1 {p : Program} {l : Launch} {e : Env} {s : State} {m : MethodId} {below : List Frame} {meth : Method} {c : Code} {B0 : Nat} {G : XG} {b L : Nat} {xs : Nat → Int32} {Q : State → Prop} (C0 : xLC p l s m c B0 G b L xs) (fu x mm o : Nat) (i : Int32) (h hE : XH) (hf : lc_1 fu L xs x mm o i h = some hE) {cells slots : Nat} (hcs1 : cells + 1 ≤ 601024) (hss1 : slots + 6 ≤ 7293033)
    (K : ∀ (H : Heap) (locs : List Loc) (ls : Array Slot), xP B0 G hE H → va_S (xA B0) s.heap H locs → lv_has ls 9 [(4, .int i), (0, .ref b), (1, .ref x), (2, .ref mm), (3, .ref o)] → W p l e room_1 s m #[Value.ref b] below meth c H locs (cells + 1) (slots + 6) Q (F0 m 1535 ls [])) :
    ∀ (H : Heap) (locs : List Loc) (ls : Array Slot), xP B0 G h H → va_S (xA B0) s.heap H locs → lv_has ls 9 [(4, .int i), (0, .ref b), (1, .ref x), (2, .ref mm), (3, .ref o)] → W p l e room_1 s m #[Value.ref b] below meth c H locs (cells) (slots) Q (F0 m 252 ls []) := by
  obtain ⟨hx, hb, hml, hown, hts, hXs, hbl, hbA, hKK, hZ, hX, hC, htr⟩ := C0
  intro H locs ls hP hS hl
  unfold lc_1 at hf
  refine lv_aload_n hx hb dL_law_252 rfl (lv_at hl 2 rfl) ?_
  refine lv_aload_n hx hb dL_law_253 rfl (lv_at hl 1 rfl) ?_
  refine lv_iload hx hb dL_law_254 (lv_at hl 0 rfl) ?_
  refine lv_iconst (v := (1 : Int32)) hx hb dL_law_256 (by decide) ?_
  refine lv_iadd hx hb dL_law_257 ?_
  obtain ⟨v1, ev1, hf⟩ := xb hf
  refine xr_sld hx hb hXs hbl hbA hS ev1 dL_law_258 ?_
  refine lv_aload_n hx hb dL_law_259 rfl (lv_at hl 1 rfl) ?_
  refine lv_iload hx hb dL_law_260 (lv_at hl 0 rfl) ?_
  refine lv_iconst (v := (2 : Int32)) hx hb dL_law_262 (by decide) ?_
  refine lv_iadd hx hb dL_law_263 ?_
  obtain ⟨v2, ev2, hf⟩ := xb hf
  refine xr_sld hx hb hXs hbl hbA hS ev2 dL_law_264 ?_
  refine lv_aload_n hx hb dL_law_265 rfl (lv_at hl 4 rfl) ?_
  obtain ⟨v3, h1, ev3, hf⟩ := xb2 hf
  refine xc_SWi (rest := []) ⟨hx, hb, hml, hown, hts⟩ (m_L_addUser l htr B0 G fu h h1 x v1 v2 o v3 ev3) (vx_cwSW 4 hts gL_law_L_addUser rfl rfl rfl (by decide +kernel) ⟨Nat.le_of_ble_eq_true rfl, Nat.le_of_ble_eq_true rfl⟩) hKK hZ hX hC hP hS rfl hl.1 rfl (Nat.le_of_ble_eq_true rfl) dL_law_266 ⟨hcs1, hss1⟩ (fun H locs hP hS => ?_)
  refine lv_istore (lv' := [(5, .int v3), (4, .int i), (0, .ref b), (1, .ref x), (2, .ref mm), (3, .ref o)]) hx hb dL_law_269 hl (by decide) rfl (fun ls hl => ?_)
  refine lv_aload_n hx hb dL_law_271 rfl (lv_at hl 4 rfl) ?_
  refine lv_aload_n hx hb dL_law_272 rfl (lv_at hl 2 rfl) ?_
  refine lv_iload hx hb dL_law_273 (lv_at hl 1 rfl) ?_
  refine lv_iconst (v := (1 : Int32)) hx hb dL_law_275 (by decide) ?_
  refine lv_iadd hx hb dL_law_276 ?_
  obtain ⟨v4, ev4, hf⟩ := xb hf
  refine xr_sld hx hb hXs hbl hbA hS ev4 dL_law_277 ?_
  refine lv_aload_n hx hb dL_law_278 rfl (lv_at hl 2 rfl) ?_
  refine lv_iload hx hb dL_law_279 (lv_at hl 1 rfl) ?_
  refine lv_iconst (v := (2 : Int32)) hx hb dL_law_281 (by decide) ?_
  refine lv_iadd hx hb dL_law_282 ?_
  obtain ⟨v5, ev5, hf⟩ := xb hf
  refine xr_sld hx hb hXs hbl hbA hS ev5 dL_law_283 ?_
  obtain ⟨v6, ev6, hf⟩ := xb hf
  obtain ⟨v7, h2, ev7, hf⟩ := xb2 hf
  refine xc_Vi (rest := []) ⟨hx, hb, hml, hown, hts⟩ (m_X6_addUser l B0 G fu h1 h2 mm v4 v5 v7 ev7) (cwV 2 hts gL_law_X6_addUser rfl rfl rfl (by decide +kernel) ⟨Nat.le_of_ble_eq_true rfl, Nat.le_of_ble_eq_true rfl⟩) hKK hP hS ev6 rfl rfl hl.1 rfl (Nat.le_of_ble_eq_true rfl) dL_law_284 ⟨hcs1, hss1⟩ (fun H locs hP hS => ?_)
  refine lv_istore (lv' := [(6, .int v7), (5, .int v3), (4, .int i), (0, .ref b), (1, .ref x), (2, .ref mm), (3, .ref o)]) hx hb dL_law_287 hl (by decide) rfl (fun ls hl => ?_)
  refine lv_aload_n hx hb dL_law_289 rfl (lv_at hl 5 rfl) ?_
  obtain ⟨v8, ev8, hf⟩ := xb hf
  obtain ⟨v9, ev9, hf⟩ := xb1 hf
  refine xc_Vi (rest := []) ⟨hx, hb, hml, hown, hts⟩ (m_X6_thrown l B0 G h2 mm v9 ev9) (cwV 0 hts gL_law_X6_thrown rfl rfl rfl (by decide +kernel) ⟨Nat.le_of_ble_eq_true rfl, Nat.le_of_ble_eq_true rfl⟩) hKK hP hS ev8 rfl rfl hl.1 rfl (Nat.le_of_ble_eq_true rfl) dL_law_290 ⟨hcs1, hss1⟩ (fun H locs hP hS => ?_)
  refine lv_iload hx hb dL_law_293 (lv_at hl 1 rfl) ?_
  refine lv_icmp_eq (tgt := 300) hx hb dL_law_295 (by decide) (fun c1 => ?_) (fun c1 => ?_)
  · have hf := xif_t hf c1
    refine lv_iload hx hb dL_law_300 (lv_at hl 1 rfl) ?_
    obtain ⟨k1, ek1, hf⟩ := xlk hf
    have J1 : k1 = some hE → ∀ (H : Heap) (locs : List Loc) (ls : Array Slot), xP B0 G h2 H → va_S (xA B0) s.heap H locs → lv_has ls 9 [(4, .int i), (0, .ref b), (1, .ref x), (2, .ref mm), (3, .ref o)] → W p l e room_1 s m #[Value.ref b] below meth c H locs (cells + 1) (slots + 6) Q (F0 m 317 ls []) := by
      intro  hf H locs ls hP hS hl
      have hf := xk0 ek1 hf
      clear ek1
      refine lv_goto (tgt := 1535) hx hb dL_law_317 (by decide) ?_
      obtain rfl := Option.some.inj hf
      refine W.widen (k := cells + 1) (n := slots + 6) (by omega) (by omega) ?_
      exact K _ _ _ hP hS (lv_sub hl [0, 1, 2, 3, 4] rfl)
    clear ek1
    refine lv_if_ne (tgt := 317) hx hb dL_law_302 (by decide) (fun c2 => ?_) (fun c2 => ?_)
    · have hf := xif_f hf c2
      exact J1  hf _ _ _ hP hS (lv_sub hl [2, 3, 4, 5, 6] rfl)
    · have hf := xif_t hf c2
      refine lv_aload_n hx hb dL_law_305 rfl (lv_at hl 6 rfl) ?_
      refine lv_iconst (v := (0 : Int32)) hx hb dL_law_306 (by decide) ?_
      obtain ⟨v10, ev10, hf⟩ := xb hf
      refine xr_lald hx hb hKK hP ev10 dL_law_307 ?_
      refine lv_iload hx hb dL_law_308 (lv_at hl 0 rfl) ?_
      refine lv_i2l hx hb dL_law_310 rfl ?_
      refine xr_lcmp_eq (tgt := 317) hx hb dL_law_311 dL_law_312 (by decide) (fun c3 => ?_) (fun c3 => ?_)
      · have hf := xif_t hf c3
        exact J1  hf _ _ _ hP hS (lv_sub hl [2, 3, 4, 5, 6] rfl)
      · have hf := xif_f hf c3
        refine lv_iconst (v := (0 : Int32)) hx hb dL_law_315 (by decide) ?_
        cases hf
  · have hf := xif_f hf c1
    refine lv_iconst (v := (0 : Int32)) hx hb dL_law_298 (by decide) ?_
    cases hf
/-- the law, call 2 -/
def lc_2 (fu L : Nat) (xs : Nat → Int32) (x mm o : Nat) (i : Int32) (h : XH) : Option XH :=
  (xsld L xs (i + (1 : Int32))).bind fun v1 =>
  (xsld L xs (i + (2 : Int32))).bind fun v2 =>
  obind2 (f_L_setDemand fu h x v1 v2 o) fun v3 h1 =>
  (xsld L xs (i + (1 : Int32))).bind fun v4 =>
  (xsld L xs (i + (2 : Int32))).bind fun v5 =>
  (xis h1 mm 6).bind fun v6 =>
  obind2 (f_X6_setDemand fu h1 mm v4 v5) fun v7 h2 =>
  (xis h2 mm 6).bind fun v8 =>
  obind1 (f_X6_thrown h2 mm) fun v9 =>
  if v9 = v3 then
    oletk (
      some h2
    ) fun k1 =>
    if v3 = (0 : Int32) then
      (xaldL h2 o (0 : Int32)).bind fun v10 =>
      if v10 = (Int32.toInt64 v7) then
        k1
      else
        none
    else
      k1
  else
    none
set_option maxHeartbeats 4000000 in
set_option maxRecDepth 100000 in
theorem lp_2 {p : Program} {l : Launch} {e : Env} {s : State} {m : MethodId} {below : List Frame} {meth : Method} {c : Code} {B0 : Nat} {G : XG} {b L : Nat} {xs : Nat → Int32} {Q : State → Prop} (C0 : xLC p l s m c B0 G b L xs) (fu x mm o : Nat) (i : Int32) (h hE : XH) (hf : lc_2 fu L xs x mm o i h = some hE) {cells slots : Nat} (hcs1 : cells + 1 ≤ 601024) (hss1 : slots + 6 ≤ 7293033)
    (K : ∀ (H : Heap) (locs : List Loc) (ls : Array Slot), xP B0 G hE H → va_S (xA B0) s.heap H locs → lv_has ls 9 [(4, .int i), (0, .ref b), (1, .ref x), (2, .ref mm), (3, .ref o)] → W p l e room_1 s m #[Value.ref b] below meth c H locs (cells + 1) (slots + 6) Q (F0 m 1535 ls [])) :
    ∀ (H : Heap) (locs : List Loc) (ls : Array Slot), xP B0 G h H → va_S (xA B0) s.heap H locs → lv_has ls 9 [(4, .int i), (0, .ref b), (1, .ref x), (2, .ref mm), (3, .ref o)] → W p l e room_1 s m #[Value.ref b] below meth c H locs (cells) (slots) Q (F0 m 320 ls []) := by
  obtain ⟨hx, hb, hml, hown, hts, hXs, hbl, hbA, hKK, hZ, hX, hC, htr⟩ := C0
  intro H locs ls hP hS hl
  unfold lc_2 at hf
  refine lv_aload_n hx hb dL_law_320 rfl (lv_at hl 2 rfl) ?_
  refine lv_aload_n hx hb dL_law_321 rfl (lv_at hl 1 rfl) ?_
  refine lv_iload hx hb dL_law_322 (lv_at hl 0 rfl) ?_
  refine lv_iconst (v := (1 : Int32)) hx hb dL_law_324 (by decide) ?_
  refine lv_iadd hx hb dL_law_325 ?_
  obtain ⟨v1, ev1, hf⟩ := xb hf
  refine xr_sld hx hb hXs hbl hbA hS ev1 dL_law_326 ?_
  refine lv_aload_n hx hb dL_law_327 rfl (lv_at hl 1 rfl) ?_
  refine lv_iload hx hb dL_law_328 (lv_at hl 0 rfl) ?_
  refine lv_iconst (v := (2 : Int32)) hx hb dL_law_330 (by decide) ?_
  refine lv_iadd hx hb dL_law_331 ?_
  obtain ⟨v2, ev2, hf⟩ := xb hf
  refine xr_sld hx hb hXs hbl hbA hS ev2 dL_law_332 ?_
  refine lv_aload_n hx hb dL_law_333 rfl (lv_at hl 4 rfl) ?_
  obtain ⟨v3, h1, ev3, hf⟩ := xb2 hf
  refine xc_SWi (rest := []) ⟨hx, hb, hml, hown, hts⟩ (m_L_setDemand l htr B0 G fu h h1 x v1 v2 o v3 ev3) (vx_cwSW 4 hts gL_law_L_setDemand rfl rfl rfl (by decide +kernel) ⟨Nat.le_of_ble_eq_true rfl, Nat.le_of_ble_eq_true rfl⟩) hKK hZ hX hC hP hS rfl hl.1 rfl (Nat.le_of_ble_eq_true rfl) dL_law_334 ⟨hcs1, hss1⟩ (fun H locs hP hS => ?_)
  refine lv_istore (lv' := [(5, .int v3), (4, .int i), (0, .ref b), (1, .ref x), (2, .ref mm), (3, .ref o)]) hx hb dL_law_337 hl (by decide) rfl (fun ls hl => ?_)
  refine lv_aload_n hx hb dL_law_339 rfl (lv_at hl 4 rfl) ?_
  refine lv_aload_n hx hb dL_law_340 rfl (lv_at hl 2 rfl) ?_
  refine lv_iload hx hb dL_law_341 (lv_at hl 1 rfl) ?_
  refine lv_iconst (v := (1 : Int32)) hx hb dL_law_343 (by decide) ?_
  refine lv_iadd hx hb dL_law_344 ?_
  obtain ⟨v4, ev4, hf⟩ := xb hf
  refine xr_sld hx hb hXs hbl hbA hS ev4 dL_law_345 ?_
  refine lv_aload_n hx hb dL_law_346 rfl (lv_at hl 2 rfl) ?_
  refine lv_iload hx hb dL_law_347 (lv_at hl 1 rfl) ?_
  refine lv_iconst (v := (2 : Int32)) hx hb dL_law_349 (by decide) ?_
  refine lv_iadd hx hb dL_law_350 ?_
  obtain ⟨v5, ev5, hf⟩ := xb hf
  refine xr_sld hx hb hXs hbl hbA hS ev5 dL_law_351 ?_
  obtain ⟨v6, ev6, hf⟩ := xb hf
  obtain ⟨v7, h2, ev7, hf⟩ := xb2 hf
  refine xc_Vi (rest := []) ⟨hx, hb, hml, hown, hts⟩ (m_X6_setDemand l B0 G fu h1 h2 mm v4 v5 v7 ev7) (cwV 2 hts gL_law_X6_setDemand rfl rfl rfl (by decide +kernel) ⟨Nat.le_of_ble_eq_true rfl, Nat.le_of_ble_eq_true rfl⟩) hKK hP hS ev6 rfl rfl hl.1 rfl (Nat.le_of_ble_eq_true rfl) dL_law_352 ⟨hcs1, hss1⟩ (fun H locs hP hS => ?_)
  refine lv_istore (lv' := [(6, .int v7), (5, .int v3), (4, .int i), (0, .ref b), (1, .ref x), (2, .ref mm), (3, .ref o)]) hx hb dL_law_355 hl (by decide) rfl (fun ls hl => ?_)
  refine lv_aload_n hx hb dL_law_357 rfl (lv_at hl 5 rfl) ?_
  obtain ⟨v8, ev8, hf⟩ := xb hf
  obtain ⟨v9, ev9, hf⟩ := xb1 hf
  refine xc_Vi (rest := []) ⟨hx, hb, hml, hown, hts⟩ (m_X6_thrown l B0 G h2 mm v9 ev9) (cwV 0 hts gL_law_X6_thrown rfl rfl rfl (by decide +kernel) ⟨Nat.le_of_ble_eq_true rfl, Nat.le_of_ble_eq_true rfl⟩) hKK hP hS ev8 rfl rfl hl.1 rfl (Nat.le_of_ble_eq_true rfl) dL_law_358 ⟨hcs1, hss1⟩ (fun H locs hP hS => ?_)
  refine lv_iload hx hb dL_law_361 (lv_at hl 1 rfl) ?_
  refine lv_icmp_eq (tgt := 368) hx hb dL_law_363 (by decide) (fun c1 => ?_) (fun c1 => ?_)
  · have hf := xif_t hf c1
    refine lv_iload hx hb dL_law_368 (lv_at hl 1 rfl) ?_
    obtain ⟨k1, ek1, hf⟩ := xlk hf
    have J1 : k1 = some hE → ∀ (H : Heap) (locs : List Loc) (ls : Array Slot), xP B0 G h2 H → va_S (xA B0) s.heap H locs → lv_has ls 9 [(4, .int i), (0, .ref b), (1, .ref x), (2, .ref mm), (3, .ref o)] → W p l e room_1 s m #[Value.ref b] below meth c H locs (cells + 1) (slots + 6) Q (F0 m 385 ls []) := by
      intro  hf H locs ls hP hS hl
      have hf := xk0 ek1 hf
      clear ek1
      refine lv_goto (tgt := 1535) hx hb dL_law_385 (by decide) ?_
      obtain rfl := Option.some.inj hf
      refine W.widen (k := cells + 1) (n := slots + 6) (by omega) (by omega) ?_
      exact K _ _ _ hP hS (lv_sub hl [0, 1, 2, 3, 4] rfl)
    clear ek1
    refine lv_if_ne (tgt := 385) hx hb dL_law_370 (by decide) (fun c2 => ?_) (fun c2 => ?_)
    · have hf := xif_f hf c2
      exact J1  hf _ _ _ hP hS (lv_sub hl [2, 3, 4, 5, 6] rfl)
    · have hf := xif_t hf c2
      refine lv_aload_n hx hb dL_law_373 rfl (lv_at hl 6 rfl) ?_
      refine lv_iconst (v := (0 : Int32)) hx hb dL_law_374 (by decide) ?_
      obtain ⟨v10, ev10, hf⟩ := xb hf
      refine xr_lald hx hb hKK hP ev10 dL_law_375 ?_
      refine lv_iload hx hb dL_law_376 (lv_at hl 0 rfl) ?_
      refine lv_i2l hx hb dL_law_378 rfl ?_
      refine xr_lcmp_eq (tgt := 385) hx hb dL_law_379 dL_law_380 (by decide) (fun c3 => ?_) (fun c3 => ?_)
      · have hf := xif_t hf c3
        exact J1  hf _ _ _ hP hS (lv_sub hl [2, 3, 4, 5, 6] rfl)
      · have hf := xif_f hf c3
        refine lv_iconst (v := (0 : Int32)) hx hb dL_law_383 (by decide) ?_
        cases hf
  · have hf := xif_f hf c1
    refine lv_iconst (v := (0 : Int32)) hx hb dL_law_366 (by decide) ?_
    cases hf
/-- the law, call 3 -/
def lc_3 (fu L : Nat) (xs : Nat → Int32) (x mm o : Nat) (i : Int32) (h : XH) : Option XH :=
  (xsld L xs (i + (1 : Int32))).bind fun v1 =>
  (xsld L xs (i + (2 : Int32))).bind fun v2 =>
  (xsld L xs (i + (3 : Int32))).bind fun v3 =>
  obind2 (f_L_setReservoir fu h x v1 v2 v3 o) fun v4 h1 =>
  (xsld L xs (i + (1 : Int32))).bind fun v5 =>
  (xsld L xs (i + (2 : Int32))).bind fun v6 =>
  (xsld L xs (i + (3 : Int32))).bind fun v7 =>
  (xis h1 mm 6).bind fun v8 =>
  obind2 (f_X6_setReservoir fu h1 mm v5 v6 v7) fun v9 h2 =>
  (xis h2 mm 6).bind fun v10 =>
  obind1 (f_X6_thrown h2 mm) fun v11 =>
  if v11 = v4 then
    oletk (
      some h2
    ) fun k1 =>
    if v4 = (0 : Int32) then
      (xaldL h2 o (0 : Int32)).bind fun v12 =>
      if v12 = (Int32.toInt64 v9) then
        k1
      else
        none
    else
      k1
  else
    none
set_option maxHeartbeats 4000000 in
set_option maxRecDepth 100000 in
theorem lp_3 {p : Program} {l : Launch} {e : Env} {s : State} {m : MethodId} {below : List Frame} {meth : Method} {c : Code} {B0 : Nat} {G : XG} {b L : Nat} {xs : Nat → Int32} {Q : State → Prop} (C0 : xLC p l s m c B0 G b L xs) (fu x mm o : Nat) (i : Int32) (h hE : XH) (hf : lc_3 fu L xs x mm o i h = some hE) {cells slots : Nat} (hcs1 : cells + 1 ≤ 601024) (hss1 : slots + 6 ≤ 7293033)
    (K : ∀ (H : Heap) (locs : List Loc) (ls : Array Slot), xP B0 G hE H → va_S (xA B0) s.heap H locs → lv_has ls 9 [(4, .int i), (0, .ref b), (1, .ref x), (2, .ref mm), (3, .ref o)] → W p l e room_1 s m #[Value.ref b] below meth c H locs (cells + 1) (slots + 6) Q (F0 m 1535 ls [])) :
    ∀ (H : Heap) (locs : List Loc) (ls : Array Slot), xP B0 G h H → va_S (xA B0) s.heap H locs → lv_has ls 9 [(4, .int i), (0, .ref b), (1, .ref x), (2, .ref mm), (3, .ref o)] → W p l e room_1 s m #[Value.ref b] below meth c H locs (cells) (slots) Q (F0 m 388 ls []) := by
  obtain ⟨hx, hb, hml, hown, hts, hXs, hbl, hbA, hKK, hZ, hX, hC, htr⟩ := C0
  intro H locs ls hP hS hl
  unfold lc_3 at hf
  refine lv_aload_n hx hb dL_law_388 rfl (lv_at hl 2 rfl) ?_
  refine lv_aload_n hx hb dL_law_389 rfl (lv_at hl 1 rfl) ?_
  refine lv_iload hx hb dL_law_390 (lv_at hl 0 rfl) ?_
  refine lv_iconst (v := (1 : Int32)) hx hb dL_law_392 (by decide) ?_
  refine lv_iadd hx hb dL_law_393 ?_
  obtain ⟨v1, ev1, hf⟩ := xb hf
  refine xr_sld hx hb hXs hbl hbA hS ev1 dL_law_394 ?_
  refine lv_aload_n hx hb dL_law_395 rfl (lv_at hl 1 rfl) ?_
  refine lv_iload hx hb dL_law_396 (lv_at hl 0 rfl) ?_
  refine lv_iconst (v := (2 : Int32)) hx hb dL_law_398 (by decide) ?_
  refine lv_iadd hx hb dL_law_399 ?_
  obtain ⟨v2, ev2, hf⟩ := xb hf
  refine xr_sld hx hb hXs hbl hbA hS ev2 dL_law_400 ?_
  refine lv_aload_n hx hb dL_law_401 rfl (lv_at hl 1 rfl) ?_
  refine lv_iload hx hb dL_law_402 (lv_at hl 0 rfl) ?_
  refine lv_iconst (v := (3 : Int32)) hx hb dL_law_404 (by decide) ?_
  refine lv_iadd hx hb dL_law_405 ?_
  obtain ⟨v3, ev3, hf⟩ := xb hf
  refine xr_sld hx hb hXs hbl hbA hS ev3 dL_law_406 ?_
  refine lv_aload_n hx hb dL_law_407 rfl (lv_at hl 4 rfl) ?_
  obtain ⟨v4, h1, ev4, hf⟩ := xb2 hf
  refine xc_SWi (rest := []) ⟨hx, hb, hml, hown, hts⟩ (m_L_setReservoir l htr B0 G fu h h1 x v1 v2 v3 o v4 ev4) (vx_cwSW 5 hts gL_law_L_setReservoir rfl rfl rfl (by decide +kernel) ⟨Nat.le_of_ble_eq_true rfl, Nat.le_of_ble_eq_true rfl⟩) hKK hZ hX hC hP hS rfl hl.1 rfl (Nat.le_of_ble_eq_true rfl) dL_law_408 ⟨hcs1, hss1⟩ (fun H locs hP hS => ?_)
  refine lv_istore (lv' := [(5, .int v4), (4, .int i), (0, .ref b), (1, .ref x), (2, .ref mm), (3, .ref o)]) hx hb dL_law_411 hl (by decide) rfl (fun ls hl => ?_)
  refine lv_aload_n hx hb dL_law_413 rfl (lv_at hl 4 rfl) ?_
  refine lv_aload_n hx hb dL_law_414 rfl (lv_at hl 2 rfl) ?_
  refine lv_iload hx hb dL_law_415 (lv_at hl 1 rfl) ?_
  refine lv_iconst (v := (1 : Int32)) hx hb dL_law_417 (by decide) ?_
  refine lv_iadd hx hb dL_law_418 ?_
  obtain ⟨v5, ev5, hf⟩ := xb hf
  refine xr_sld hx hb hXs hbl hbA hS ev5 dL_law_419 ?_
  refine lv_aload_n hx hb dL_law_420 rfl (lv_at hl 2 rfl) ?_
  refine lv_iload hx hb dL_law_421 (lv_at hl 1 rfl) ?_
  refine lv_iconst (v := (2 : Int32)) hx hb dL_law_423 (by decide) ?_
  refine lv_iadd hx hb dL_law_424 ?_
  obtain ⟨v6, ev6, hf⟩ := xb hf
  refine xr_sld hx hb hXs hbl hbA hS ev6 dL_law_425 ?_
  refine lv_aload_n hx hb dL_law_426 rfl (lv_at hl 2 rfl) ?_
  refine lv_iload hx hb dL_law_427 (lv_at hl 1 rfl) ?_
  refine lv_iconst (v := (3 : Int32)) hx hb dL_law_429 (by decide) ?_
  refine lv_iadd hx hb dL_law_430 ?_
  obtain ⟨v7, ev7, hf⟩ := xb hf
  refine xr_sld hx hb hXs hbl hbA hS ev7 dL_law_431 ?_
  obtain ⟨v8, ev8, hf⟩ := xb hf
  obtain ⟨v9, h2, ev9, hf⟩ := xb2 hf
  refine xc_Vi (rest := []) ⟨hx, hb, hml, hown, hts⟩ (m_X6_setReservoir l B0 G fu h1 h2 mm v5 v6 v7 v9 ev9) (cwV 3 hts gL_law_X6_setReservoir rfl rfl rfl (by decide +kernel) ⟨Nat.le_of_ble_eq_true rfl, Nat.le_of_ble_eq_true rfl⟩) hKK hP hS ev8 rfl rfl hl.1 rfl (Nat.le_of_ble_eq_true rfl) dL_law_432 ⟨hcs1, hss1⟩ (fun H locs hP hS => ?_)
  refine lv_istore (lv' := [(6, .int v9), (5, .int v4), (4, .int i), (0, .ref b), (1, .ref x), (2, .ref mm), (3, .ref o)]) hx hb dL_law_435 hl (by decide) rfl (fun ls hl => ?_)
  refine lv_aload_n hx hb dL_law_437 rfl (lv_at hl 5 rfl) ?_
  obtain ⟨v10, ev10, hf⟩ := xb hf
  obtain ⟨v11, ev11, hf⟩ := xb1 hf
  refine xc_Vi (rest := []) ⟨hx, hb, hml, hown, hts⟩ (m_X6_thrown l B0 G h2 mm v11 ev11) (cwV 0 hts gL_law_X6_thrown rfl rfl rfl (by decide +kernel) ⟨Nat.le_of_ble_eq_true rfl, Nat.le_of_ble_eq_true rfl⟩) hKK hP hS ev10 rfl rfl hl.1 rfl (Nat.le_of_ble_eq_true rfl) dL_law_438 ⟨hcs1, hss1⟩ (fun H locs hP hS => ?_)
  refine lv_iload hx hb dL_law_441 (lv_at hl 1 rfl) ?_
  refine lv_icmp_eq (tgt := 448) hx hb dL_law_443 (by decide) (fun c1 => ?_) (fun c1 => ?_)
  · have hf := xif_t hf c1
    refine lv_iload hx hb dL_law_448 (lv_at hl 1 rfl) ?_
    obtain ⟨k1, ek1, hf⟩ := xlk hf
    have J1 : k1 = some hE → ∀ (H : Heap) (locs : List Loc) (ls : Array Slot), xP B0 G h2 H → va_S (xA B0) s.heap H locs → lv_has ls 9 [(4, .int i), (0, .ref b), (1, .ref x), (2, .ref mm), (3, .ref o)] → W p l e room_1 s m #[Value.ref b] below meth c H locs (cells + 1) (slots + 6) Q (F0 m 465 ls []) := by
      intro  hf H locs ls hP hS hl
      have hf := xk0 ek1 hf
      clear ek1
      refine lv_goto (tgt := 1535) hx hb dL_law_465 (by decide) ?_
      obtain rfl := Option.some.inj hf
      refine W.widen (k := cells + 1) (n := slots + 6) (by omega) (by omega) ?_
      exact K _ _ _ hP hS (lv_sub hl [0, 1, 2, 3, 4] rfl)
    clear ek1
    refine lv_if_ne (tgt := 465) hx hb dL_law_450 (by decide) (fun c2 => ?_) (fun c2 => ?_)
    · have hf := xif_f hf c2
      exact J1  hf _ _ _ hP hS (lv_sub hl [2, 3, 4, 5, 6] rfl)
    · have hf := xif_t hf c2
      refine lv_aload_n hx hb dL_law_453 rfl (lv_at hl 6 rfl) ?_
      refine lv_iconst (v := (0 : Int32)) hx hb dL_law_454 (by decide) ?_
      obtain ⟨v12, ev12, hf⟩ := xb hf
      refine xr_lald hx hb hKK hP ev12 dL_law_455 ?_
      refine lv_iload hx hb dL_law_456 (lv_at hl 0 rfl) ?_
      refine lv_i2l hx hb dL_law_458 rfl ?_
      refine xr_lcmp_eq (tgt := 465) hx hb dL_law_459 dL_law_460 (by decide) (fun c3 => ?_) (fun c3 => ?_)
      · have hf := xif_t hf c3
        exact J1  hf _ _ _ hP hS (lv_sub hl [2, 3, 4, 5, 6] rfl)
      · have hf := xif_f hf c3
        refine lv_iconst (v := (0 : Int32)) hx hb dL_law_463 (by decide) ?_
        cases hf
  · have hf := xif_f hf c1
    refine lv_iconst (v := (0 : Int32)) hx hb dL_law_446 (by decide) ?_
    cases hf
/-- the law, call 4 -/
def lc_4 (fu L : Nat) (xs : Nat → Int32) (x mm o : Nat) (i : Int32) (h : XH) : Option XH :=
  (xsld L xs (i + (1 : Int32))).bind fun v1 =>
  (xsld L xs (i + (2 : Int32))).bind fun v2 =>
  (xsld L xs (i + (3 : Int32))).bind fun v3 =>
  obind2 (f_L_setWays fu h x v1 v2 v3 o) fun v4 h1 =>
  (xsld L xs (i + (1 : Int32))).bind fun v5 =>
  (xsld L xs (i + (2 : Int32))).bind fun v6 =>
  (xsld L xs (i + (3 : Int32))).bind fun v7 =>
  (xis h1 mm 6).bind fun v8 =>
  obind2 (f_X6_setWays fu h1 mm v5 v6 v7) fun v9 h2 =>
  (xis h2 mm 6).bind fun v10 =>
  obind1 (f_X6_thrown h2 mm) fun v11 =>
  if v11 = v4 then
    oletk (
      some h2
    ) fun k1 =>
    if v4 = (0 : Int32) then
      (xaldL h2 o (0 : Int32)).bind fun v12 =>
      if v12 = (Int32.toInt64 v9) then
        k1
      else
        none
    else
      k1
  else
    none
set_option maxHeartbeats 4000000 in
set_option maxRecDepth 100000 in
theorem lp_4 {p : Program} {l : Launch} {e : Env} {s : State} {m : MethodId} {below : List Frame} {meth : Method} {c : Code} {B0 : Nat} {G : XG} {b L : Nat} {xs : Nat → Int32} {Q : State → Prop} (C0 : xLC p l s m c B0 G b L xs) (fu x mm o : Nat) (i : Int32) (h hE : XH) (hf : lc_4 fu L xs x mm o i h = some hE) {cells slots : Nat} (hcs1 : cells + 1 ≤ 601024) (hss1 : slots + 6 ≤ 7293033)
    (K : ∀ (H : Heap) (locs : List Loc) (ls : Array Slot), xP B0 G hE H → va_S (xA B0) s.heap H locs → lv_has ls 9 [(4, .int i), (0, .ref b), (1, .ref x), (2, .ref mm), (3, .ref o)] → W p l e room_1 s m #[Value.ref b] below meth c H locs (cells + 1) (slots + 6) Q (F0 m 1535 ls [])) :
    ∀ (H : Heap) (locs : List Loc) (ls : Array Slot), xP B0 G h H → va_S (xA B0) s.heap H locs → lv_has ls 9 [(4, .int i), (0, .ref b), (1, .ref x), (2, .ref mm), (3, .ref o)] → W p l e room_1 s m #[Value.ref b] below meth c H locs (cells) (slots) Q (F0 m 468 ls []) := by
  obtain ⟨hx, hb, hml, hown, hts, hXs, hbl, hbA, hKK, hZ, hX, hC, htr⟩ := C0
  intro H locs ls hP hS hl
  unfold lc_4 at hf
  refine lv_aload_n hx hb dL_law_468 rfl (lv_at hl 2 rfl) ?_
  refine lv_aload_n hx hb dL_law_469 rfl (lv_at hl 1 rfl) ?_
  refine lv_iload hx hb dL_law_470 (lv_at hl 0 rfl) ?_
  refine lv_iconst (v := (1 : Int32)) hx hb dL_law_472 (by decide) ?_
  refine lv_iadd hx hb dL_law_473 ?_
  obtain ⟨v1, ev1, hf⟩ := xb hf
  refine xr_sld hx hb hXs hbl hbA hS ev1 dL_law_474 ?_
  refine lv_aload_n hx hb dL_law_475 rfl (lv_at hl 1 rfl) ?_
  refine lv_iload hx hb dL_law_476 (lv_at hl 0 rfl) ?_
  refine lv_iconst (v := (2 : Int32)) hx hb dL_law_478 (by decide) ?_
  refine lv_iadd hx hb dL_law_479 ?_
  obtain ⟨v2, ev2, hf⟩ := xb hf
  refine xr_sld hx hb hXs hbl hbA hS ev2 dL_law_480 ?_
  refine lv_aload_n hx hb dL_law_481 rfl (lv_at hl 1 rfl) ?_
  refine lv_iload hx hb dL_law_482 (lv_at hl 0 rfl) ?_
  refine lv_iconst (v := (3 : Int32)) hx hb dL_law_484 (by decide) ?_
  refine lv_iadd hx hb dL_law_485 ?_
  obtain ⟨v3, ev3, hf⟩ := xb hf
  refine xr_sld hx hb hXs hbl hbA hS ev3 dL_law_486 ?_
  refine lv_aload_n hx hb dL_law_487 rfl (lv_at hl 4 rfl) ?_
  obtain ⟨v4, h1, ev4, hf⟩ := xb2 hf
  refine xc_SWi (rest := []) ⟨hx, hb, hml, hown, hts⟩ (m_L_setWays l htr B0 G fu h h1 x v1 v2 v3 o v4 ev4) (vx_cwSW 5 hts gL_law_L_setWays rfl rfl rfl (by decide +kernel) ⟨Nat.le_of_ble_eq_true rfl, Nat.le_of_ble_eq_true rfl⟩) hKK hZ hX hC hP hS rfl hl.1 rfl (Nat.le_of_ble_eq_true rfl) dL_law_488 ⟨hcs1, hss1⟩ (fun H locs hP hS => ?_)
  refine lv_istore (lv' := [(5, .int v4), (4, .int i), (0, .ref b), (1, .ref x), (2, .ref mm), (3, .ref o)]) hx hb dL_law_491 hl (by decide) rfl (fun ls hl => ?_)
  refine lv_aload_n hx hb dL_law_493 rfl (lv_at hl 4 rfl) ?_
  refine lv_aload_n hx hb dL_law_494 rfl (lv_at hl 2 rfl) ?_
  refine lv_iload hx hb dL_law_495 (lv_at hl 1 rfl) ?_
  refine lv_iconst (v := (1 : Int32)) hx hb dL_law_497 (by decide) ?_
  refine lv_iadd hx hb dL_law_498 ?_
  obtain ⟨v5, ev5, hf⟩ := xb hf
  refine xr_sld hx hb hXs hbl hbA hS ev5 dL_law_499 ?_
  refine lv_aload_n hx hb dL_law_500 rfl (lv_at hl 2 rfl) ?_
  refine lv_iload hx hb dL_law_501 (lv_at hl 1 rfl) ?_
  refine lv_iconst (v := (2 : Int32)) hx hb dL_law_503 (by decide) ?_
  refine lv_iadd hx hb dL_law_504 ?_
  obtain ⟨v6, ev6, hf⟩ := xb hf
  refine xr_sld hx hb hXs hbl hbA hS ev6 dL_law_505 ?_
  refine lv_aload_n hx hb dL_law_506 rfl (lv_at hl 2 rfl) ?_
  refine lv_iload hx hb dL_law_507 (lv_at hl 1 rfl) ?_
  refine lv_iconst (v := (3 : Int32)) hx hb dL_law_509 (by decide) ?_
  refine lv_iadd hx hb dL_law_510 ?_
  obtain ⟨v7, ev7, hf⟩ := xb hf
  refine xr_sld hx hb hXs hbl hbA hS ev7 dL_law_511 ?_
  obtain ⟨v8, ev8, hf⟩ := xb hf
  obtain ⟨v9, h2, ev9, hf⟩ := xb2 hf
  refine xc_Vi (rest := []) ⟨hx, hb, hml, hown, hts⟩ (m_X6_setWays l B0 G fu h1 h2 mm v5 v6 v7 v9 ev9) (cwV 3 hts gL_law_X6_setWays rfl rfl rfl (by decide +kernel) ⟨Nat.le_of_ble_eq_true rfl, Nat.le_of_ble_eq_true rfl⟩) hKK hP hS ev8 rfl rfl hl.1 rfl (Nat.le_of_ble_eq_true rfl) dL_law_512 ⟨hcs1, hss1⟩ (fun H locs hP hS => ?_)
  refine lv_istore (lv' := [(6, .int v9), (5, .int v4), (4, .int i), (0, .ref b), (1, .ref x), (2, .ref mm), (3, .ref o)]) hx hb dL_law_515 hl (by decide) rfl (fun ls hl => ?_)
  refine lv_aload_n hx hb dL_law_517 rfl (lv_at hl 5 rfl) ?_
  obtain ⟨v10, ev10, hf⟩ := xb hf
  obtain ⟨v11, ev11, hf⟩ := xb1 hf
  refine xc_Vi (rest := []) ⟨hx, hb, hml, hown, hts⟩ (m_X6_thrown l B0 G h2 mm v11 ev11) (cwV 0 hts gL_law_X6_thrown rfl rfl rfl (by decide +kernel) ⟨Nat.le_of_ble_eq_true rfl, Nat.le_of_ble_eq_true rfl⟩) hKK hP hS ev10 rfl rfl hl.1 rfl (Nat.le_of_ble_eq_true rfl) dL_law_518 ⟨hcs1, hss1⟩ (fun H locs hP hS => ?_)
  refine lv_iload hx hb dL_law_521 (lv_at hl 1 rfl) ?_
  refine lv_icmp_eq (tgt := 528) hx hb dL_law_523 (by decide) (fun c1 => ?_) (fun c1 => ?_)
  · have hf := xif_t hf c1
    refine lv_iload hx hb dL_law_528 (lv_at hl 1 rfl) ?_
    obtain ⟨k1, ek1, hf⟩ := xlk hf
    have J1 : k1 = some hE → ∀ (H : Heap) (locs : List Loc) (ls : Array Slot), xP B0 G h2 H → va_S (xA B0) s.heap H locs → lv_has ls 9 [(4, .int i), (0, .ref b), (1, .ref x), (2, .ref mm), (3, .ref o)] → W p l e room_1 s m #[Value.ref b] below meth c H locs (cells + 1) (slots + 6) Q (F0 m 545 ls []) := by
      intro  hf H locs ls hP hS hl
      have hf := xk0 ek1 hf
      clear ek1
      refine lv_goto (tgt := 1535) hx hb dL_law_545 (by decide) ?_
      obtain rfl := Option.some.inj hf
      refine W.widen (k := cells + 1) (n := slots + 6) (by omega) (by omega) ?_
      exact K _ _ _ hP hS (lv_sub hl [0, 1, 2, 3, 4] rfl)
    clear ek1
    refine lv_if_ne (tgt := 545) hx hb dL_law_530 (by decide) (fun c2 => ?_) (fun c2 => ?_)
    · have hf := xif_f hf c2
      exact J1  hf _ _ _ hP hS (lv_sub hl [2, 3, 4, 5, 6] rfl)
    · have hf := xif_t hf c2
      refine lv_aload_n hx hb dL_law_533 rfl (lv_at hl 6 rfl) ?_
      refine lv_iconst (v := (0 : Int32)) hx hb dL_law_534 (by decide) ?_
      obtain ⟨v12, ev12, hf⟩ := xb hf
      refine xr_lald hx hb hKK hP ev12 dL_law_535 ?_
      refine lv_iload hx hb dL_law_536 (lv_at hl 0 rfl) ?_
      refine lv_i2l hx hb dL_law_538 rfl ?_
      refine xr_lcmp_eq (tgt := 545) hx hb dL_law_539 dL_law_540 (by decide) (fun c3 => ?_) (fun c3 => ?_)
      · have hf := xif_t hf c3
        exact J1  hf _ _ _ hP hS (lv_sub hl [2, 3, 4, 5, 6] rfl)
      · have hf := xif_f hf c3
        refine lv_iconst (v := (0 : Int32)) hx hb dL_law_543 (by decide) ?_
        cases hf
  · have hf := xif_f hf c1
    refine lv_iconst (v := (0 : Int32)) hx hb dL_law_526 (by decide) ?_
    cases hf
/-- the law, call 5 -/
def lc_5 (fu L : Nat) (xs : Nat → Int32) (x mm o : Nat) (i : Int32) (h : XH) : Option XH :=
  (xsld L xs (i + (1 : Int32))).bind fun v1 =>
  obind2 (f_L_setting h x v1 o) fun v2 h1 =>
  (xsld L xs (i + (1 : Int32))).bind fun v3 =>
  (xis h1 mm 6).bind fun v4 =>
  obind2 (f_X6_setting h1 mm v3) fun v5 h2 =>
  (xis h2 mm 6).bind fun v6 =>
  obind1 (f_X6_thrown h2 mm) fun v7 =>
  if v7 = v2 then
    oletk (
      some h2
    ) fun k1 =>
    if v2 = (0 : Int32) then
      (xaldL h2 o (0 : Int32)).bind fun v8 =>
      if v8 = (Int32.toInt64 v5) then
        k1
      else
        none
    else
      k1
  else
    none
set_option maxHeartbeats 4000000 in
set_option maxRecDepth 100000 in
theorem lp_5 {p : Program} {l : Launch} {e : Env} {s : State} {m : MethodId} {below : List Frame} {meth : Method} {c : Code} {B0 : Nat} {G : XG} {b L : Nat} {xs : Nat → Int32} {Q : State → Prop} (C0 : xLC p l s m c B0 G b L xs) (fu x mm o : Nat) (i : Int32) (h hE : XH) (hf : lc_5 fu L xs x mm o i h = some hE) {cells slots : Nat} (hcs1 : cells + 1 ≤ 601024) (hss1 : slots + 6 ≤ 7293033)
    (K : ∀ (H : Heap) (locs : List Loc) (ls : Array Slot), xP B0 G hE H → va_S (xA B0) s.heap H locs → lv_has ls 9 [(4, .int i), (0, .ref b), (1, .ref x), (2, .ref mm), (3, .ref o)] → W p l e room_1 s m #[Value.ref b] below meth c H locs (cells + 1) (slots + 6) Q (F0 m 1535 ls [])) :
    ∀ (H : Heap) (locs : List Loc) (ls : Array Slot), xP B0 G h H → va_S (xA B0) s.heap H locs → lv_has ls 9 [(4, .int i), (0, .ref b), (1, .ref x), (2, .ref mm), (3, .ref o)] → W p l e room_1 s m #[Value.ref b] below meth c H locs (cells) (slots) Q (F0 m 548 ls []) := by
  obtain ⟨hx, hb, hml, hown, hts, hXs, hbl, hbA, hKK, hZ, hX, hC, htr⟩ := C0
  intro H locs ls hP hS hl
  unfold lc_5 at hf
  refine lv_aload_n hx hb dL_law_548 rfl (lv_at hl 2 rfl) ?_
  refine lv_aload_n hx hb dL_law_549 rfl (lv_at hl 1 rfl) ?_
  refine lv_iload hx hb dL_law_550 (lv_at hl 0 rfl) ?_
  refine lv_iconst (v := (1 : Int32)) hx hb dL_law_552 (by decide) ?_
  refine lv_iadd hx hb dL_law_553 ?_
  obtain ⟨v1, ev1, hf⟩ := xb hf
  refine xr_sld hx hb hXs hbl hbA hS ev1 dL_law_554 ?_
  refine lv_aload_n hx hb dL_law_555 rfl (lv_at hl 4 rfl) ?_
  obtain ⟨v2, h1, ev2, hf⟩ := xb2 hf
  refine xc_SWi (rest := []) ⟨hx, hb, hml, hown, hts⟩ (m_L_setting l htr B0 G h h1 x v1 o v2 ev2) (vx_cwSW 3 hts gL_law_L_setting rfl rfl rfl (by decide +kernel) ⟨Nat.le_of_ble_eq_true rfl, Nat.le_of_ble_eq_true rfl⟩) hKK hZ hX hC hP hS rfl hl.1 rfl (Nat.le_of_ble_eq_true rfl) dL_law_556 ⟨hcs1, hss1⟩ (fun H locs hP hS => ?_)
  refine lv_istore (lv' := [(5, .int v2), (4, .int i), (0, .ref b), (1, .ref x), (2, .ref mm), (3, .ref o)]) hx hb dL_law_559 hl (by decide) rfl (fun ls hl => ?_)
  refine lv_aload_n hx hb dL_law_561 rfl (lv_at hl 4 rfl) ?_
  refine lv_aload_n hx hb dL_law_562 rfl (lv_at hl 2 rfl) ?_
  refine lv_iload hx hb dL_law_563 (lv_at hl 1 rfl) ?_
  refine lv_iconst (v := (1 : Int32)) hx hb dL_law_565 (by decide) ?_
  refine lv_iadd hx hb dL_law_566 ?_
  obtain ⟨v3, ev3, hf⟩ := xb hf
  refine xr_sld hx hb hXs hbl hbA hS ev3 dL_law_567 ?_
  obtain ⟨v4, ev4, hf⟩ := xb hf
  obtain ⟨v5, h2, ev5, hf⟩ := xb2 hf
  refine xc_Vi (rest := []) ⟨hx, hb, hml, hown, hts⟩ (m_X6_setting l B0 G h1 h2 mm v3 v5 ev5) (cwV 1 hts gL_law_X6_setting rfl rfl rfl (by decide +kernel) ⟨Nat.le_of_ble_eq_true rfl, Nat.le_of_ble_eq_true rfl⟩) hKK hP hS ev4 rfl rfl hl.1 rfl (Nat.le_of_ble_eq_true rfl) dL_law_568 ⟨hcs1, hss1⟩ (fun H locs hP hS => ?_)
  refine lv_istore (lv' := [(6, .int v5), (5, .int v2), (4, .int i), (0, .ref b), (1, .ref x), (2, .ref mm), (3, .ref o)]) hx hb dL_law_571 hl (by decide) rfl (fun ls hl => ?_)
  refine lv_aload_n hx hb dL_law_573 rfl (lv_at hl 5 rfl) ?_
  obtain ⟨v6, ev6, hf⟩ := xb hf
  obtain ⟨v7, ev7, hf⟩ := xb1 hf
  refine xc_Vi (rest := []) ⟨hx, hb, hml, hown, hts⟩ (m_X6_thrown l B0 G h2 mm v7 ev7) (cwV 0 hts gL_law_X6_thrown rfl rfl rfl (by decide +kernel) ⟨Nat.le_of_ble_eq_true rfl, Nat.le_of_ble_eq_true rfl⟩) hKK hP hS ev6 rfl rfl hl.1 rfl (Nat.le_of_ble_eq_true rfl) dL_law_574 ⟨hcs1, hss1⟩ (fun H locs hP hS => ?_)
  refine lv_iload hx hb dL_law_577 (lv_at hl 1 rfl) ?_
  refine lv_icmp_eq (tgt := 584) hx hb dL_law_579 (by decide) (fun c1 => ?_) (fun c1 => ?_)
  · have hf := xif_t hf c1
    refine lv_iload hx hb dL_law_584 (lv_at hl 1 rfl) ?_
    obtain ⟨k1, ek1, hf⟩ := xlk hf
    have J1 : k1 = some hE → ∀ (H : Heap) (locs : List Loc) (ls : Array Slot), xP B0 G h2 H → va_S (xA B0) s.heap H locs → lv_has ls 9 [(4, .int i), (0, .ref b), (1, .ref x), (2, .ref mm), (3, .ref o)] → W p l e room_1 s m #[Value.ref b] below meth c H locs (cells + 1) (slots + 6) Q (F0 m 601 ls []) := by
      intro  hf H locs ls hP hS hl
      have hf := xk0 ek1 hf
      clear ek1
      refine lv_goto (tgt := 1535) hx hb dL_law_601 (by decide) ?_
      obtain rfl := Option.some.inj hf
      refine W.widen (k := cells + 1) (n := slots + 6) (by omega) (by omega) ?_
      exact K _ _ _ hP hS (lv_sub hl [0, 1, 2, 3, 4] rfl)
    clear ek1
    refine lv_if_ne (tgt := 601) hx hb dL_law_586 (by decide) (fun c2 => ?_) (fun c2 => ?_)
    · have hf := xif_f hf c2
      exact J1  hf _ _ _ hP hS (lv_sub hl [2, 3, 4, 5, 6] rfl)
    · have hf := xif_t hf c2
      refine lv_aload_n hx hb dL_law_589 rfl (lv_at hl 6 rfl) ?_
      refine lv_iconst (v := (0 : Int32)) hx hb dL_law_590 (by decide) ?_
      obtain ⟨v8, ev8, hf⟩ := xb hf
      refine xr_lald hx hb hKK hP ev8 dL_law_591 ?_
      refine lv_iload hx hb dL_law_592 (lv_at hl 0 rfl) ?_
      refine lv_i2l hx hb dL_law_594 rfl ?_
      refine xr_lcmp_eq (tgt := 601) hx hb dL_law_595 dL_law_596 (by decide) (fun c3 => ?_) (fun c3 => ?_)
      · have hf := xif_t hf c3
        exact J1  hf _ _ _ hP hS (lv_sub hl [2, 3, 4, 5, 6] rfl)
      · have hf := xif_f hf c3
        refine lv_iconst (v := (0 : Int32)) hx hb dL_law_599 (by decide) ?_
        cases hf
  · have hf := xif_f hf c1
    refine lv_iconst (v := (0 : Int32)) hx hb dL_law_582 (by decide) ?_
    cases hf
/-- the law, call 6 -/
def lc_6 (fu L : Nat) (xs : Nat → Int32) (x mm o : Nat) (i : Int32) (h : XH) : Option XH :=
  (xsld L xs (i + (1 : Int32))).bind fun v1 =>
  (xsld L xs (i + (2 : Int32))).bind fun v2 =>
  obind2 (f_L_roof h x v1 v2 o) fun v3 h1 =>
  (xsld L xs (i + (1 : Int32))).bind fun v4 =>
  (xsld L xs (i + (2 : Int32))).bind fun v5 =>
  (xis h1 mm 6).bind fun v6 =>
  obind2 (f_X6_roof h1 mm v4 v5) fun v7 h2 =>
  (xis h2 mm 6).bind fun v8 =>
  obind1 (f_X6_thrown h2 mm) fun v9 =>
  if v9 = v3 then
    oletk (
      some h2
    ) fun k1 =>
    if v3 = (0 : Int32) then
      (xaldL h2 o (0 : Int32)).bind fun v10 =>
      if v10 = (Int32.toInt64 v7) then
        k1
      else
        none
    else
      k1
  else
    none
set_option maxHeartbeats 4000000 in
set_option maxRecDepth 100000 in
theorem lp_6 {p : Program} {l : Launch} {e : Env} {s : State} {m : MethodId} {below : List Frame} {meth : Method} {c : Code} {B0 : Nat} {G : XG} {b L : Nat} {xs : Nat → Int32} {Q : State → Prop} (C0 : xLC p l s m c B0 G b L xs) (fu x mm o : Nat) (i : Int32) (h hE : XH) (hf : lc_6 fu L xs x mm o i h = some hE) {cells slots : Nat} (hcs1 : cells + 1 ≤ 601024) (hss1 : slots + 6 ≤ 7293033)
    (K : ∀ (H : Heap) (locs : List Loc) (ls : Array Slot), xP B0 G hE H → va_S (xA B0) s.heap H locs → lv_has ls 9 [(4, .int i), (0, .ref b), (1, .ref x), (2, .ref mm), (3, .ref o)] → W p l e room_1 s m #[Value.ref b] below meth c H locs (cells + 1) (slots + 6) Q (F0 m 1535 ls [])) :
    ∀ (H : Heap) (locs : List Loc) (ls : Array Slot), xP B0 G h H → va_S (xA B0) s.heap H locs → lv_has ls 9 [(4, .int i), (0, .ref b), (1, .ref x), (2, .ref mm), (3, .ref o)] → W p l e room_1 s m #[Value.ref b] below meth c H locs (cells) (slots) Q (F0 m 604 ls []) := by
  obtain ⟨hx, hb, hml, hown, hts, hXs, hbl, hbA, hKK, hZ, hX, hC, htr⟩ := C0
  intro H locs ls hP hS hl
  unfold lc_6 at hf
  refine lv_aload_n hx hb dL_law_604 rfl (lv_at hl 2 rfl) ?_
  refine lv_aload_n hx hb dL_law_605 rfl (lv_at hl 1 rfl) ?_
  refine lv_iload hx hb dL_law_606 (lv_at hl 0 rfl) ?_
  refine lv_iconst (v := (1 : Int32)) hx hb dL_law_608 (by decide) ?_
  refine lv_iadd hx hb dL_law_609 ?_
  obtain ⟨v1, ev1, hf⟩ := xb hf
  refine xr_sld hx hb hXs hbl hbA hS ev1 dL_law_610 ?_
  refine lv_aload_n hx hb dL_law_611 rfl (lv_at hl 1 rfl) ?_
  refine lv_iload hx hb dL_law_612 (lv_at hl 0 rfl) ?_
  refine lv_iconst (v := (2 : Int32)) hx hb dL_law_614 (by decide) ?_
  refine lv_iadd hx hb dL_law_615 ?_
  obtain ⟨v2, ev2, hf⟩ := xb hf
  refine xr_sld hx hb hXs hbl hbA hS ev2 dL_law_616 ?_
  refine lv_aload_n hx hb dL_law_617 rfl (lv_at hl 4 rfl) ?_
  obtain ⟨v3, h1, ev3, hf⟩ := xb2 hf
  refine xc_SWi (rest := []) ⟨hx, hb, hml, hown, hts⟩ (m_L_roof l htr B0 G h h1 x v1 v2 o v3 ev3) (vx_cwSW 4 hts gL_law_L_roof rfl rfl rfl (by decide +kernel) ⟨Nat.le_of_ble_eq_true rfl, Nat.le_of_ble_eq_true rfl⟩) hKK hZ hX hC hP hS rfl hl.1 rfl (Nat.le_of_ble_eq_true rfl) dL_law_618 ⟨hcs1, hss1⟩ (fun H locs hP hS => ?_)
  refine lv_istore (lv' := [(5, .int v3), (4, .int i), (0, .ref b), (1, .ref x), (2, .ref mm), (3, .ref o)]) hx hb dL_law_621 hl (by decide) rfl (fun ls hl => ?_)
  refine lv_aload_n hx hb dL_law_623 rfl (lv_at hl 4 rfl) ?_
  refine lv_aload_n hx hb dL_law_624 rfl (lv_at hl 2 rfl) ?_
  refine lv_iload hx hb dL_law_625 (lv_at hl 1 rfl) ?_
  refine lv_iconst (v := (1 : Int32)) hx hb dL_law_627 (by decide) ?_
  refine lv_iadd hx hb dL_law_628 ?_
  obtain ⟨v4, ev4, hf⟩ := xb hf
  refine xr_sld hx hb hXs hbl hbA hS ev4 dL_law_629 ?_
  refine lv_aload_n hx hb dL_law_630 rfl (lv_at hl 2 rfl) ?_
  refine lv_iload hx hb dL_law_631 (lv_at hl 1 rfl) ?_
  refine lv_iconst (v := (2 : Int32)) hx hb dL_law_633 (by decide) ?_
  refine lv_iadd hx hb dL_law_634 ?_
  obtain ⟨v5, ev5, hf⟩ := xb hf
  refine xr_sld hx hb hXs hbl hbA hS ev5 dL_law_635 ?_
  obtain ⟨v6, ev6, hf⟩ := xb hf
  obtain ⟨v7, h2, ev7, hf⟩ := xb2 hf
  refine xc_Vi (rest := []) ⟨hx, hb, hml, hown, hts⟩ (m_X6_roof l B0 G h1 h2 mm v4 v5 v7 ev7) (cwV 2 hts gL_law_X6_roof rfl rfl rfl (by decide +kernel) ⟨Nat.le_of_ble_eq_true rfl, Nat.le_of_ble_eq_true rfl⟩) hKK hP hS ev6 rfl rfl hl.1 rfl (Nat.le_of_ble_eq_true rfl) dL_law_636 ⟨hcs1, hss1⟩ (fun H locs hP hS => ?_)
  refine lv_istore (lv' := [(6, .int v7), (5, .int v3), (4, .int i), (0, .ref b), (1, .ref x), (2, .ref mm), (3, .ref o)]) hx hb dL_law_639 hl (by decide) rfl (fun ls hl => ?_)
  refine lv_aload_n hx hb dL_law_641 rfl (lv_at hl 5 rfl) ?_
  obtain ⟨v8, ev8, hf⟩ := xb hf
  obtain ⟨v9, ev9, hf⟩ := xb1 hf
  refine xc_Vi (rest := []) ⟨hx, hb, hml, hown, hts⟩ (m_X6_thrown l B0 G h2 mm v9 ev9) (cwV 0 hts gL_law_X6_thrown rfl rfl rfl (by decide +kernel) ⟨Nat.le_of_ble_eq_true rfl, Nat.le_of_ble_eq_true rfl⟩) hKK hP hS ev8 rfl rfl hl.1 rfl (Nat.le_of_ble_eq_true rfl) dL_law_642 ⟨hcs1, hss1⟩ (fun H locs hP hS => ?_)
  refine lv_iload hx hb dL_law_645 (lv_at hl 1 rfl) ?_
  refine lv_icmp_eq (tgt := 652) hx hb dL_law_647 (by decide) (fun c1 => ?_) (fun c1 => ?_)
  · have hf := xif_t hf c1
    refine lv_iload hx hb dL_law_652 (lv_at hl 1 rfl) ?_
    obtain ⟨k1, ek1, hf⟩ := xlk hf
    have J1 : k1 = some hE → ∀ (H : Heap) (locs : List Loc) (ls : Array Slot), xP B0 G h2 H → va_S (xA B0) s.heap H locs → lv_has ls 9 [(4, .int i), (0, .ref b), (1, .ref x), (2, .ref mm), (3, .ref o)] → W p l e room_1 s m #[Value.ref b] below meth c H locs (cells + 1) (slots + 6) Q (F0 m 669 ls []) := by
      intro  hf H locs ls hP hS hl
      have hf := xk0 ek1 hf
      clear ek1
      refine lv_goto (tgt := 1535) hx hb dL_law_669 (by decide) ?_
      obtain rfl := Option.some.inj hf
      refine W.widen (k := cells + 1) (n := slots + 6) (by omega) (by omega) ?_
      exact K _ _ _ hP hS (lv_sub hl [0, 1, 2, 3, 4] rfl)
    clear ek1
    refine lv_if_ne (tgt := 669) hx hb dL_law_654 (by decide) (fun c2 => ?_) (fun c2 => ?_)
    · have hf := xif_f hf c2
      exact J1  hf _ _ _ hP hS (lv_sub hl [2, 3, 4, 5, 6] rfl)
    · have hf := xif_t hf c2
      refine lv_aload_n hx hb dL_law_657 rfl (lv_at hl 6 rfl) ?_
      refine lv_iconst (v := (0 : Int32)) hx hb dL_law_658 (by decide) ?_
      obtain ⟨v10, ev10, hf⟩ := xb hf
      refine xr_lald hx hb hKK hP ev10 dL_law_659 ?_
      refine lv_iload hx hb dL_law_660 (lv_at hl 0 rfl) ?_
      refine lv_i2l hx hb dL_law_662 rfl ?_
      refine xr_lcmp_eq (tgt := 669) hx hb dL_law_663 dL_law_664 (by decide) (fun c3 => ?_) (fun c3 => ?_)
      · have hf := xif_t hf c3
        exact J1  hf _ _ _ hP hS (lv_sub hl [2, 3, 4, 5, 6] rfl)
      · have hf := xif_f hf c3
        refine lv_iconst (v := (0 : Int32)) hx hb dL_law_667 (by decide) ?_
        cases hf
  · have hf := xif_f hf c1
    refine lv_iconst (v := (0 : Int32)) hx hb dL_law_650 (by decide) ?_
    cases hf
/-- the law, call 7 -/
def lc_7 (fu L : Nat) (xs : Nat → Int32) (x mm o : Nat) (i : Int32) (h : XH) : Option XH :=
  (xsld L xs (i + (1 : Int32))).bind fun v1 =>
  (xsld L xs (i + (2 : Int32))).bind fun v2 =>
  obind2 (f_L_user h x v1 v2 o) fun v3 h1 =>
  (xsld L xs (i + (1 : Int32))).bind fun v4 =>
  (xsld L xs (i + (2 : Int32))).bind fun v5 =>
  (xis h1 mm 6).bind fun v6 =>
  obind2 (f_X6_user h1 mm v4 v5) fun v7 h2 =>
  (xis h2 mm 6).bind fun v8 =>
  obind1 (f_X6_thrown h2 mm) fun v9 =>
  if v9 = v3 then
    oletk (
      some h2
    ) fun k1 =>
    if v3 = (0 : Int32) then
      (xaldL h2 o (0 : Int32)).bind fun v10 =>
      if v10 = (Int32.toInt64 v7) then
        k1
      else
        none
    else
      k1
  else
    none
set_option maxHeartbeats 4000000 in
set_option maxRecDepth 100000 in
theorem lp_7 {p : Program} {l : Launch} {e : Env} {s : State} {m : MethodId} {below : List Frame} {meth : Method} {c : Code} {B0 : Nat} {G : XG} {b L : Nat} {xs : Nat → Int32} {Q : State → Prop} (C0 : xLC p l s m c B0 G b L xs) (fu x mm o : Nat) (i : Int32) (h hE : XH) (hf : lc_7 fu L xs x mm o i h = some hE) {cells slots : Nat} (hcs1 : cells + 1 ≤ 601024) (hss1 : slots + 6 ≤ 7293033)
    (K : ∀ (H : Heap) (locs : List Loc) (ls : Array Slot), xP B0 G hE H → va_S (xA B0) s.heap H locs → lv_has ls 9 [(4, .int i), (0, .ref b), (1, .ref x), (2, .ref mm), (3, .ref o)] → W p l e room_1 s m #[Value.ref b] below meth c H locs (cells + 1) (slots + 6) Q (F0 m 1535 ls [])) :
    ∀ (H : Heap) (locs : List Loc) (ls : Array Slot), xP B0 G h H → va_S (xA B0) s.heap H locs → lv_has ls 9 [(4, .int i), (0, .ref b), (1, .ref x), (2, .ref mm), (3, .ref o)] → W p l e room_1 s m #[Value.ref b] below meth c H locs (cells) (slots) Q (F0 m 672 ls []) := by
  obtain ⟨hx, hb, hml, hown, hts, hXs, hbl, hbA, hKK, hZ, hX, hC, htr⟩ := C0
  intro H locs ls hP hS hl
  unfold lc_7 at hf
  refine lv_aload_n hx hb dL_law_672 rfl (lv_at hl 2 rfl) ?_
  refine lv_aload_n hx hb dL_law_673 rfl (lv_at hl 1 rfl) ?_
  refine lv_iload hx hb dL_law_674 (lv_at hl 0 rfl) ?_
  refine lv_iconst (v := (1 : Int32)) hx hb dL_law_676 (by decide) ?_
  refine lv_iadd hx hb dL_law_677 ?_
  obtain ⟨v1, ev1, hf⟩ := xb hf
  refine xr_sld hx hb hXs hbl hbA hS ev1 dL_law_678 ?_
  refine lv_aload_n hx hb dL_law_679 rfl (lv_at hl 1 rfl) ?_
  refine lv_iload hx hb dL_law_680 (lv_at hl 0 rfl) ?_
  refine lv_iconst (v := (2 : Int32)) hx hb dL_law_682 (by decide) ?_
  refine lv_iadd hx hb dL_law_683 ?_
  obtain ⟨v2, ev2, hf⟩ := xb hf
  refine xr_sld hx hb hXs hbl hbA hS ev2 dL_law_684 ?_
  refine lv_aload_n hx hb dL_law_685 rfl (lv_at hl 4 rfl) ?_
  obtain ⟨v3, h1, ev3, hf⟩ := xb2 hf
  refine xc_SWi (rest := []) ⟨hx, hb, hml, hown, hts⟩ (m_L_user l htr B0 G h h1 x v1 v2 o v3 ev3) (vx_cwSW 4 hts gL_law_L_user rfl rfl rfl (by decide +kernel) ⟨Nat.le_of_ble_eq_true rfl, Nat.le_of_ble_eq_true rfl⟩) hKK hZ hX hC hP hS rfl hl.1 rfl (Nat.le_of_ble_eq_true rfl) dL_law_686 ⟨hcs1, hss1⟩ (fun H locs hP hS => ?_)
  refine lv_istore (lv' := [(5, .int v3), (4, .int i), (0, .ref b), (1, .ref x), (2, .ref mm), (3, .ref o)]) hx hb dL_law_689 hl (by decide) rfl (fun ls hl => ?_)
  refine lv_aload_n hx hb dL_law_691 rfl (lv_at hl 4 rfl) ?_
  refine lv_aload_n hx hb dL_law_692 rfl (lv_at hl 2 rfl) ?_
  refine lv_iload hx hb dL_law_693 (lv_at hl 1 rfl) ?_
  refine lv_iconst (v := (1 : Int32)) hx hb dL_law_695 (by decide) ?_
  refine lv_iadd hx hb dL_law_696 ?_
  obtain ⟨v4, ev4, hf⟩ := xb hf
  refine xr_sld hx hb hXs hbl hbA hS ev4 dL_law_697 ?_
  refine lv_aload_n hx hb dL_law_698 rfl (lv_at hl 2 rfl) ?_
  refine lv_iload hx hb dL_law_699 (lv_at hl 1 rfl) ?_
  refine lv_iconst (v := (2 : Int32)) hx hb dL_law_701 (by decide) ?_
  refine lv_iadd hx hb dL_law_702 ?_
  obtain ⟨v5, ev5, hf⟩ := xb hf
  refine xr_sld hx hb hXs hbl hbA hS ev5 dL_law_703 ?_
  obtain ⟨v6, ev6, hf⟩ := xb hf
  obtain ⟨v7, h2, ev7, hf⟩ := xb2 hf
  refine xc_Vi (rest := []) ⟨hx, hb, hml, hown, hts⟩ (m_X6_user l B0 G h1 h2 mm v4 v5 v7 ev7) (cwV 2 hts gL_law_X6_user rfl rfl rfl (by decide +kernel) ⟨Nat.le_of_ble_eq_true rfl, Nat.le_of_ble_eq_true rfl⟩) hKK hP hS ev6 rfl rfl hl.1 rfl (Nat.le_of_ble_eq_true rfl) dL_law_704 ⟨hcs1, hss1⟩ (fun H locs hP hS => ?_)
  refine lv_istore (lv' := [(6, .int v7), (5, .int v3), (4, .int i), (0, .ref b), (1, .ref x), (2, .ref mm), (3, .ref o)]) hx hb dL_law_707 hl (by decide) rfl (fun ls hl => ?_)
  refine lv_aload_n hx hb dL_law_709 rfl (lv_at hl 5 rfl) ?_
  obtain ⟨v8, ev8, hf⟩ := xb hf
  obtain ⟨v9, ev9, hf⟩ := xb1 hf
  refine xc_Vi (rest := []) ⟨hx, hb, hml, hown, hts⟩ (m_X6_thrown l B0 G h2 mm v9 ev9) (cwV 0 hts gL_law_X6_thrown rfl rfl rfl (by decide +kernel) ⟨Nat.le_of_ble_eq_true rfl, Nat.le_of_ble_eq_true rfl⟩) hKK hP hS ev8 rfl rfl hl.1 rfl (Nat.le_of_ble_eq_true rfl) dL_law_710 ⟨hcs1, hss1⟩ (fun H locs hP hS => ?_)
  refine lv_iload hx hb dL_law_713 (lv_at hl 1 rfl) ?_
  refine lv_icmp_eq (tgt := 720) hx hb dL_law_715 (by decide) (fun c1 => ?_) (fun c1 => ?_)
  · have hf := xif_t hf c1
    refine lv_iload hx hb dL_law_720 (lv_at hl 1 rfl) ?_
    obtain ⟨k1, ek1, hf⟩ := xlk hf
    have J1 : k1 = some hE → ∀ (H : Heap) (locs : List Loc) (ls : Array Slot), xP B0 G h2 H → va_S (xA B0) s.heap H locs → lv_has ls 9 [(4, .int i), (0, .ref b), (1, .ref x), (2, .ref mm), (3, .ref o)] → W p l e room_1 s m #[Value.ref b] below meth c H locs (cells + 1) (slots + 6) Q (F0 m 737 ls []) := by
      intro  hf H locs ls hP hS hl
      have hf := xk0 ek1 hf
      clear ek1
      refine lv_goto (tgt := 1535) hx hb dL_law_737 (by decide) ?_
      obtain rfl := Option.some.inj hf
      refine W.widen (k := cells + 1) (n := slots + 6) (by omega) (by omega) ?_
      exact K _ _ _ hP hS (lv_sub hl [0, 1, 2, 3, 4] rfl)
    clear ek1
    refine lv_if_ne (tgt := 737) hx hb dL_law_722 (by decide) (fun c2 => ?_) (fun c2 => ?_)
    · have hf := xif_f hf c2
      exact J1  hf _ _ _ hP hS (lv_sub hl [2, 3, 4, 5, 6] rfl)
    · have hf := xif_t hf c2
      refine lv_aload_n hx hb dL_law_725 rfl (lv_at hl 6 rfl) ?_
      refine lv_iconst (v := (0 : Int32)) hx hb dL_law_726 (by decide) ?_
      obtain ⟨v10, ev10, hf⟩ := xb hf
      refine xr_lald hx hb hKK hP ev10 dL_law_727 ?_
      refine lv_iload hx hb dL_law_728 (lv_at hl 0 rfl) ?_
      refine lv_i2l hx hb dL_law_730 rfl ?_
      refine xr_lcmp_eq (tgt := 737) hx hb dL_law_731 dL_law_732 (by decide) (fun c3 => ?_) (fun c3 => ?_)
      · have hf := xif_t hf c3
        exact J1  hf _ _ _ hP hS (lv_sub hl [2, 3, 4, 5, 6] rfl)
      · have hf := xif_f hf c3
        refine lv_iconst (v := (0 : Int32)) hx hb dL_law_735 (by decide) ?_
        cases hf
  · have hf := xif_f hf c1
    refine lv_iconst (v := (0 : Int32)) hx hb dL_law_718 (by decide) ?_
    cases hf
/-- the law, call 8 -/
def lc_8 (fu L : Nat) (xs : Nat → Int32) (x mm o : Nat) (i : Int32) (h : XH) : Option XH :=
  (xsld L xs (i + (1 : Int32))).bind fun v1 =>
  (xsld L xs (i + (2 : Int32))).bind fun v2 =>
  obind2 (f_L_addRain fu h x v1 v2 o) fun v3 h1 =>
  (xsld L xs (i + (1 : Int32))).bind fun v4 =>
  (xsld L xs (i + (2 : Int32))).bind fun v5 =>
  (xis h1 mm 6).bind fun v6 =>
  obind2 (f_X6_addRain fu h1 mm v4 v5) fun v7 h2 =>
  (xis h2 mm 6).bind fun v8 =>
  obind1 (f_X6_thrown h2 mm) fun v9 =>
  if v9 = v3 then
    oletk (
      some h2
    ) fun k1 =>
    if v3 = (0 : Int32) then
      (xaldL h2 o (0 : Int32)).bind fun v10 =>
      if v10 = (Int32.toInt64 v7) then
        k1
      else
        none
    else
      k1
  else
    none
set_option maxHeartbeats 4000000 in
set_option maxRecDepth 100000 in
theorem lp_8 {p : Program} {l : Launch} {e : Env} {s : State} {m : MethodId} {below : List Frame} {meth : Method} {c : Code} {B0 : Nat} {G : XG} {b L : Nat} {xs : Nat → Int32} {Q : State → Prop} (C0 : xLC p l s m c B0 G b L xs) (fu x mm o : Nat) (i : Int32) (h hE : XH) (hf : lc_8 fu L xs x mm o i h = some hE) {cells slots : Nat} (hcs1 : cells + 1 ≤ 601024) (hss1 : slots + 6 ≤ 7293033)
    (K : ∀ (H : Heap) (locs : List Loc) (ls : Array Slot), xP B0 G hE H → va_S (xA B0) s.heap H locs → lv_has ls 9 [(4, .int i), (0, .ref b), (1, .ref x), (2, .ref mm), (3, .ref o)] → W p l e room_1 s m #[Value.ref b] below meth c H locs (cells + 1) (slots + 6) Q (F0 m 1535 ls [])) :
    ∀ (H : Heap) (locs : List Loc) (ls : Array Slot), xP B0 G h H → va_S (xA B0) s.heap H locs → lv_has ls 9 [(4, .int i), (0, .ref b), (1, .ref x), (2, .ref mm), (3, .ref o)] → W p l e room_1 s m #[Value.ref b] below meth c H locs (cells) (slots) Q (F0 m 740 ls []) := by
  obtain ⟨hx, hb, hml, hown, hts, hXs, hbl, hbA, hKK, hZ, hX, hC, htr⟩ := C0
  intro H locs ls hP hS hl
  unfold lc_8 at hf
  refine lv_aload_n hx hb dL_law_740 rfl (lv_at hl 2 rfl) ?_
  refine lv_aload_n hx hb dL_law_741 rfl (lv_at hl 1 rfl) ?_
  refine lv_iload hx hb dL_law_742 (lv_at hl 0 rfl) ?_
  refine lv_iconst (v := (1 : Int32)) hx hb dL_law_744 (by decide) ?_
  refine lv_iadd hx hb dL_law_745 ?_
  obtain ⟨v1, ev1, hf⟩ := xb hf
  refine xr_sld hx hb hXs hbl hbA hS ev1 dL_law_746 ?_
  refine lv_aload_n hx hb dL_law_747 rfl (lv_at hl 1 rfl) ?_
  refine lv_iload hx hb dL_law_748 (lv_at hl 0 rfl) ?_
  refine lv_iconst (v := (2 : Int32)) hx hb dL_law_750 (by decide) ?_
  refine lv_iadd hx hb dL_law_751 ?_
  obtain ⟨v2, ev2, hf⟩ := xb hf
  refine xr_sld hx hb hXs hbl hbA hS ev2 dL_law_752 ?_
  refine lv_aload_n hx hb dL_law_753 rfl (lv_at hl 4 rfl) ?_
  obtain ⟨v3, h1, ev3, hf⟩ := xb2 hf
  refine xc_SWi (rest := []) ⟨hx, hb, hml, hown, hts⟩ (m_L_addRain l htr B0 G fu h h1 x v1 v2 o v3 ev3) (vx_cwSW 4 hts gL_law_L_addRain rfl rfl rfl (by decide +kernel) ⟨Nat.le_of_ble_eq_true rfl, Nat.le_of_ble_eq_true rfl⟩) hKK hZ hX hC hP hS rfl hl.1 rfl (Nat.le_of_ble_eq_true rfl) dL_law_754 ⟨hcs1, hss1⟩ (fun H locs hP hS => ?_)
  refine lv_istore (lv' := [(5, .int v3), (4, .int i), (0, .ref b), (1, .ref x), (2, .ref mm), (3, .ref o)]) hx hb dL_law_757 hl (by decide) rfl (fun ls hl => ?_)
  refine lv_aload_n hx hb dL_law_759 rfl (lv_at hl 4 rfl) ?_
  refine lv_aload_n hx hb dL_law_760 rfl (lv_at hl 2 rfl) ?_
  refine lv_iload hx hb dL_law_761 (lv_at hl 1 rfl) ?_
  refine lv_iconst (v := (1 : Int32)) hx hb dL_law_763 (by decide) ?_
  refine lv_iadd hx hb dL_law_764 ?_
  obtain ⟨v4, ev4, hf⟩ := xb hf
  refine xr_sld hx hb hXs hbl hbA hS ev4 dL_law_765 ?_
  refine lv_aload_n hx hb dL_law_766 rfl (lv_at hl 2 rfl) ?_
  refine lv_iload hx hb dL_law_767 (lv_at hl 1 rfl) ?_
  refine lv_iconst (v := (2 : Int32)) hx hb dL_law_769 (by decide) ?_
  refine lv_iadd hx hb dL_law_770 ?_
  obtain ⟨v5, ev5, hf⟩ := xb hf
  refine xr_sld hx hb hXs hbl hbA hS ev5 dL_law_771 ?_
  obtain ⟨v6, ev6, hf⟩ := xb hf
  obtain ⟨v7, h2, ev7, hf⟩ := xb2 hf
  refine xc_Vi (rest := []) ⟨hx, hb, hml, hown, hts⟩ (m_X6_addRain l B0 G fu h1 h2 mm v4 v5 v7 ev7) (cwV 2 hts gL_law_X6_addRain rfl rfl rfl (by decide +kernel) ⟨Nat.le_of_ble_eq_true rfl, Nat.le_of_ble_eq_true rfl⟩) hKK hP hS ev6 rfl rfl hl.1 rfl (Nat.le_of_ble_eq_true rfl) dL_law_772 ⟨hcs1, hss1⟩ (fun H locs hP hS => ?_)
  refine lv_istore (lv' := [(6, .int v7), (5, .int v3), (4, .int i), (0, .ref b), (1, .ref x), (2, .ref mm), (3, .ref o)]) hx hb dL_law_775 hl (by decide) rfl (fun ls hl => ?_)
  refine lv_aload_n hx hb dL_law_777 rfl (lv_at hl 5 rfl) ?_
  obtain ⟨v8, ev8, hf⟩ := xb hf
  obtain ⟨v9, ev9, hf⟩ := xb1 hf
  refine xc_Vi (rest := []) ⟨hx, hb, hml, hown, hts⟩ (m_X6_thrown l B0 G h2 mm v9 ev9) (cwV 0 hts gL_law_X6_thrown rfl rfl rfl (by decide +kernel) ⟨Nat.le_of_ble_eq_true rfl, Nat.le_of_ble_eq_true rfl⟩) hKK hP hS ev8 rfl rfl hl.1 rfl (Nat.le_of_ble_eq_true rfl) dL_law_778 ⟨hcs1, hss1⟩ (fun H locs hP hS => ?_)
  refine lv_iload hx hb dL_law_781 (lv_at hl 1 rfl) ?_
  refine lv_icmp_eq (tgt := 788) hx hb dL_law_783 (by decide) (fun c1 => ?_) (fun c1 => ?_)
  · have hf := xif_t hf c1
    refine lv_iload hx hb dL_law_788 (lv_at hl 1 rfl) ?_
    obtain ⟨k1, ek1, hf⟩ := xlk hf
    have J1 : k1 = some hE → ∀ (H : Heap) (locs : List Loc) (ls : Array Slot), xP B0 G h2 H → va_S (xA B0) s.heap H locs → lv_has ls 9 [(4, .int i), (0, .ref b), (1, .ref x), (2, .ref mm), (3, .ref o)] → W p l e room_1 s m #[Value.ref b] below meth c H locs (cells + 1) (slots + 6) Q (F0 m 805 ls []) := by
      intro  hf H locs ls hP hS hl
      have hf := xk0 ek1 hf
      clear ek1
      refine lv_goto (tgt := 1535) hx hb dL_law_805 (by decide) ?_
      obtain rfl := Option.some.inj hf
      refine W.widen (k := cells + 1) (n := slots + 6) (by omega) (by omega) ?_
      exact K _ _ _ hP hS (lv_sub hl [0, 1, 2, 3, 4] rfl)
    clear ek1
    refine lv_if_ne (tgt := 805) hx hb dL_law_790 (by decide) (fun c2 => ?_) (fun c2 => ?_)
    · have hf := xif_f hf c2
      exact J1  hf _ _ _ hP hS (lv_sub hl [2, 3, 4, 5, 6] rfl)
    · have hf := xif_t hf c2
      refine lv_aload_n hx hb dL_law_793 rfl (lv_at hl 6 rfl) ?_
      refine lv_iconst (v := (0 : Int32)) hx hb dL_law_794 (by decide) ?_
      obtain ⟨v10, ev10, hf⟩ := xb hf
      refine xr_lald hx hb hKK hP ev10 dL_law_795 ?_
      refine lv_iload hx hb dL_law_796 (lv_at hl 0 rfl) ?_
      refine lv_i2l hx hb dL_law_798 rfl ?_
      refine xr_lcmp_eq (tgt := 805) hx hb dL_law_799 dL_law_800 (by decide) (fun c3 => ?_) (fun c3 => ?_)
      · have hf := xif_t hf c3
        exact J1  hf _ _ _ hP hS (lv_sub hl [2, 3, 4, 5, 6] rfl)
      · have hf := xif_f hf c3
        refine lv_iconst (v := (0 : Int32)) hx hb dL_law_803 (by decide) ?_
        cases hf
  · have hf := xif_f hf c1
    refine lv_iconst (v := (0 : Int32)) hx hb dL_law_786 (by decide) ?_
    cases hf
/-- the law, call 9 -/
def lc_9 (fu L : Nat) (xs : Nat → Int32) (x mm o : Nat) (i : Int32) (h : XH) : Option XH :=
  (xsld L xs (i + (1 : Int32))).bind fun v1 =>
  (xsld L xs (i + (2 : Int32))).bind fun v2 =>
  (xsld L xs (i + (3 : Int32))).bind fun v3 =>
  (xsld L xs (i + (4 : Int32))).bind fun v4 =>
  obind2 (f_L_addRandomRain fu h x v1 v2 v3 v4 o) fun v5 h1 =>
  (xsld L xs (i + (1 : Int32))).bind fun v6 =>
  (xsld L xs (i + (2 : Int32))).bind fun v7 =>
  (xsld L xs (i + (3 : Int32))).bind fun v8 =>
  (xsld L xs (i + (4 : Int32))).bind fun v9 =>
  (xis h1 mm 6).bind fun v10 =>
  obind2 (f_X6_addRandomRain fu h1 mm v6 v7 v8 v9) fun v11 h2 =>
  (xis h2 mm 6).bind fun v12 =>
  obind1 (f_X6_thrown h2 mm) fun v13 =>
  if v13 = v5 then
    oletk (
      some h2
    ) fun k1 =>
    if v5 = (0 : Int32) then
      (xaldL h2 o (0 : Int32)).bind fun v14 =>
      if v14 = (Int32.toInt64 v11) then
        k1
      else
        none
    else
      k1
  else
    none
set_option maxHeartbeats 4000000 in
set_option maxRecDepth 100000 in
theorem lp_9 {p : Program} {l : Launch} {e : Env} {s : State} {m : MethodId} {below : List Frame} {meth : Method} {c : Code} {B0 : Nat} {G : XG} {b L : Nat} {xs : Nat → Int32} {Q : State → Prop} (C0 : xLC p l s m c B0 G b L xs) (fu x mm o : Nat) (i : Int32) (h hE : XH) (hf : lc_9 fu L xs x mm o i h = some hE) {cells slots : Nat} (hcs1 : cells + 1 ≤ 601024) (hss1 : slots + 6 ≤ 7293033)
    (K : ∀ (H : Heap) (locs : List Loc) (ls : Array Slot), xP B0 G hE H → va_S (xA B0) s.heap H locs → lv_has ls 9 [(4, .int i), (0, .ref b), (1, .ref x), (2, .ref mm), (3, .ref o)] → W p l e room_1 s m #[Value.ref b] below meth c H locs (cells + 1) (slots + 6) Q (F0 m 1535 ls [])) :
    ∀ (H : Heap) (locs : List Loc) (ls : Array Slot), xP B0 G h H → va_S (xA B0) s.heap H locs → lv_has ls 9 [(4, .int i), (0, .ref b), (1, .ref x), (2, .ref mm), (3, .ref o)] → W p l e room_1 s m #[Value.ref b] below meth c H locs (cells) (slots) Q (F0 m 808 ls []) := by
  obtain ⟨hx, hb, hml, hown, hts, hXs, hbl, hbA, hKK, hZ, hX, hC, htr⟩ := C0
  intro H locs ls hP hS hl
  unfold lc_9 at hf
  refine lv_aload_n hx hb dL_law_808 rfl (lv_at hl 2 rfl) ?_
  refine lv_aload_n hx hb dL_law_809 rfl (lv_at hl 1 rfl) ?_
  refine lv_iload hx hb dL_law_810 (lv_at hl 0 rfl) ?_
  refine lv_iconst (v := (1 : Int32)) hx hb dL_law_812 (by decide) ?_
  refine lv_iadd hx hb dL_law_813 ?_
  obtain ⟨v1, ev1, hf⟩ := xb hf
  refine xr_sld hx hb hXs hbl hbA hS ev1 dL_law_814 ?_
  refine lv_aload_n hx hb dL_law_815 rfl (lv_at hl 1 rfl) ?_
  refine lv_iload hx hb dL_law_816 (lv_at hl 0 rfl) ?_
  refine lv_iconst (v := (2 : Int32)) hx hb dL_law_818 (by decide) ?_
  refine lv_iadd hx hb dL_law_819 ?_
  obtain ⟨v2, ev2, hf⟩ := xb hf
  refine xr_sld hx hb hXs hbl hbA hS ev2 dL_law_820 ?_
  refine lv_aload_n hx hb dL_law_821 rfl (lv_at hl 1 rfl) ?_
  refine lv_iload hx hb dL_law_822 (lv_at hl 0 rfl) ?_
  refine lv_iconst (v := (3 : Int32)) hx hb dL_law_824 (by decide) ?_
  refine lv_iadd hx hb dL_law_825 ?_
  obtain ⟨v3, ev3, hf⟩ := xb hf
  refine xr_sld hx hb hXs hbl hbA hS ev3 dL_law_826 ?_
  refine lv_aload_n hx hb dL_law_827 rfl (lv_at hl 1 rfl) ?_
  refine lv_iload hx hb dL_law_828 (lv_at hl 0 rfl) ?_
  refine lv_iconst (v := (4 : Int32)) hx hb dL_law_830 (by decide) ?_
  refine lv_iadd hx hb dL_law_831 ?_
  obtain ⟨v4, ev4, hf⟩ := xb hf
  refine xr_sld hx hb hXs hbl hbA hS ev4 dL_law_832 ?_
  refine lv_aload_n hx hb dL_law_833 rfl (lv_at hl 4 rfl) ?_
  obtain ⟨v5, h1, ev5, hf⟩ := xb2 hf
  refine xc_SWi (rest := []) ⟨hx, hb, hml, hown, hts⟩ (m_L_addRandomRain l htr B0 G fu h h1 x v1 v2 v3 v4 o v5 ev5) (vx_cwSW 6 hts gL_law_L_addRandomRain rfl rfl rfl (by decide +kernel) ⟨Nat.le_of_ble_eq_true rfl, Nat.le_of_ble_eq_true rfl⟩) hKK hZ hX hC hP hS rfl hl.1 rfl (Nat.le_of_ble_eq_true rfl) dL_law_834 ⟨hcs1, hss1⟩ (fun H locs hP hS => ?_)
  refine lv_istore (lv' := [(5, .int v5), (4, .int i), (0, .ref b), (1, .ref x), (2, .ref mm), (3, .ref o)]) hx hb dL_law_837 hl (by decide) rfl (fun ls hl => ?_)
  refine lv_aload_n hx hb dL_law_839 rfl (lv_at hl 4 rfl) ?_
  refine lv_aload_n hx hb dL_law_840 rfl (lv_at hl 2 rfl) ?_
  refine lv_iload hx hb dL_law_841 (lv_at hl 1 rfl) ?_
  refine lv_iconst (v := (1 : Int32)) hx hb dL_law_843 (by decide) ?_
  refine lv_iadd hx hb dL_law_844 ?_
  obtain ⟨v6, ev6, hf⟩ := xb hf
  refine xr_sld hx hb hXs hbl hbA hS ev6 dL_law_845 ?_
  refine lv_aload_n hx hb dL_law_846 rfl (lv_at hl 2 rfl) ?_
  refine lv_iload hx hb dL_law_847 (lv_at hl 1 rfl) ?_
  refine lv_iconst (v := (2 : Int32)) hx hb dL_law_849 (by decide) ?_
  refine lv_iadd hx hb dL_law_850 ?_
  obtain ⟨v7, ev7, hf⟩ := xb hf
  refine xr_sld hx hb hXs hbl hbA hS ev7 dL_law_851 ?_
  refine lv_aload_n hx hb dL_law_852 rfl (lv_at hl 2 rfl) ?_
  refine lv_iload hx hb dL_law_853 (lv_at hl 1 rfl) ?_
  refine lv_iconst (v := (3 : Int32)) hx hb dL_law_855 (by decide) ?_
  refine lv_iadd hx hb dL_law_856 ?_
  obtain ⟨v8, ev8, hf⟩ := xb hf
  refine xr_sld hx hb hXs hbl hbA hS ev8 dL_law_857 ?_
  refine lv_aload_n hx hb dL_law_858 rfl (lv_at hl 2 rfl) ?_
  refine lv_iload hx hb dL_law_859 (lv_at hl 1 rfl) ?_
  refine lv_iconst (v := (4 : Int32)) hx hb dL_law_861 (by decide) ?_
  refine lv_iadd hx hb dL_law_862 ?_
  obtain ⟨v9, ev9, hf⟩ := xb hf
  refine xr_sld hx hb hXs hbl hbA hS ev9 dL_law_863 ?_
  obtain ⟨v10, ev10, hf⟩ := xb hf
  obtain ⟨v11, h2, ev11, hf⟩ := xb2 hf
  refine xc_Vi (rest := []) ⟨hx, hb, hml, hown, hts⟩ (m_X6_addRandomRain l B0 G fu h1 h2 mm v6 v7 v8 v9 v11 ev11) (cwV 4 hts gL_law_X6_addRandomRain rfl rfl rfl (by decide +kernel) ⟨Nat.le_of_ble_eq_true rfl, Nat.le_of_ble_eq_true rfl⟩) hKK hP hS ev10 rfl rfl hl.1 rfl (Nat.le_of_ble_eq_true rfl) dL_law_864 ⟨hcs1, hss1⟩ (fun H locs hP hS => ?_)
  refine lv_istore (lv' := [(6, .int v11), (5, .int v5), (4, .int i), (0, .ref b), (1, .ref x), (2, .ref mm), (3, .ref o)]) hx hb dL_law_867 hl (by decide) rfl (fun ls hl => ?_)
  refine lv_aload_n hx hb dL_law_869 rfl (lv_at hl 5 rfl) ?_
  obtain ⟨v12, ev12, hf⟩ := xb hf
  obtain ⟨v13, ev13, hf⟩ := xb1 hf
  refine xc_Vi (rest := []) ⟨hx, hb, hml, hown, hts⟩ (m_X6_thrown l B0 G h2 mm v13 ev13) (cwV 0 hts gL_law_X6_thrown rfl rfl rfl (by decide +kernel) ⟨Nat.le_of_ble_eq_true rfl, Nat.le_of_ble_eq_true rfl⟩) hKK hP hS ev12 rfl rfl hl.1 rfl (Nat.le_of_ble_eq_true rfl) dL_law_870 ⟨hcs1, hss1⟩ (fun H locs hP hS => ?_)
  refine lv_iload hx hb dL_law_873 (lv_at hl 1 rfl) ?_
  refine lv_icmp_eq (tgt := 880) hx hb dL_law_875 (by decide) (fun c1 => ?_) (fun c1 => ?_)
  · have hf := xif_t hf c1
    refine lv_iload hx hb dL_law_880 (lv_at hl 1 rfl) ?_
    obtain ⟨k1, ek1, hf⟩ := xlk hf
    have J1 : k1 = some hE → ∀ (H : Heap) (locs : List Loc) (ls : Array Slot), xP B0 G h2 H → va_S (xA B0) s.heap H locs → lv_has ls 9 [(4, .int i), (0, .ref b), (1, .ref x), (2, .ref mm), (3, .ref o)] → W p l e room_1 s m #[Value.ref b] below meth c H locs (cells + 1) (slots + 6) Q (F0 m 897 ls []) := by
      intro  hf H locs ls hP hS hl
      have hf := xk0 ek1 hf
      clear ek1
      refine lv_goto (tgt := 1535) hx hb dL_law_897 (by decide) ?_
      obtain rfl := Option.some.inj hf
      refine W.widen (k := cells + 1) (n := slots + 6) (by omega) (by omega) ?_
      exact K _ _ _ hP hS (lv_sub hl [0, 1, 2, 3, 4] rfl)
    clear ek1
    refine lv_if_ne (tgt := 897) hx hb dL_law_882 (by decide) (fun c2 => ?_) (fun c2 => ?_)
    · have hf := xif_f hf c2
      exact J1  hf _ _ _ hP hS (lv_sub hl [2, 3, 4, 5, 6] rfl)
    · have hf := xif_t hf c2
      refine lv_aload_n hx hb dL_law_885 rfl (lv_at hl 6 rfl) ?_
      refine lv_iconst (v := (0 : Int32)) hx hb dL_law_886 (by decide) ?_
      obtain ⟨v14, ev14, hf⟩ := xb hf
      refine xr_lald hx hb hKK hP ev14 dL_law_887 ?_
      refine lv_iload hx hb dL_law_888 (lv_at hl 0 rfl) ?_
      refine lv_i2l hx hb dL_law_890 rfl ?_
      refine xr_lcmp_eq (tgt := 897) hx hb dL_law_891 dL_law_892 (by decide) (fun c3 => ?_) (fun c3 => ?_)
      · have hf := xif_t hf c3
        exact J1  hf _ _ _ hP hS (lv_sub hl [2, 3, 4, 5, 6] rfl)
      · have hf := xif_f hf c3
        refine lv_iconst (v := (0 : Int32)) hx hb dL_law_895 (by decide) ?_
        cases hf
  · have hf := xif_f hf c1
    refine lv_iconst (v := (0 : Int32)) hx hb dL_law_878 (by decide) ?_
    cases hf
/-- the law, call 10 -/
def lc_10 (fu L : Nat) (xs : Nat → Int32) (x mm o : Nat) (i : Int32) (h : XH) : Option XH :=
  (xsld L xs (i + (1 : Int32))).bind fun v1 =>
  obind2 (f_L_rain h x v1 o) fun v2 h1 =>
  (xsld L xs (i + (1 : Int32))).bind fun v3 =>
  (xis h1 mm 6).bind fun v4 =>
  obind2 (f_X6_rain h1 mm v3) fun v5 h2 =>
  (xis h2 mm 6).bind fun v6 =>
  obind1 (f_X6_thrown h2 mm) fun v7 =>
  if v7 = v2 then
    oletk (
      some h2
    ) fun k1 =>
    if v2 = (0 : Int32) then
      (xaldL h2 o (0 : Int32)).bind fun v8 =>
      if v8 = (Int32.toInt64 v5) then
        k1
      else
        none
    else
      k1
  else
    none
set_option maxHeartbeats 4000000 in
set_option maxRecDepth 100000 in
theorem lp_10 {p : Program} {l : Launch} {e : Env} {s : State} {m : MethodId} {below : List Frame} {meth : Method} {c : Code} {B0 : Nat} {G : XG} {b L : Nat} {xs : Nat → Int32} {Q : State → Prop} (C0 : xLC p l s m c B0 G b L xs) (fu x mm o : Nat) (i : Int32) (h hE : XH) (hf : lc_10 fu L xs x mm o i h = some hE) {cells slots : Nat} (hcs1 : cells + 1 ≤ 601024) (hss1 : slots + 6 ≤ 7293033)
    (K : ∀ (H : Heap) (locs : List Loc) (ls : Array Slot), xP B0 G hE H → va_S (xA B0) s.heap H locs → lv_has ls 9 [(4, .int i), (0, .ref b), (1, .ref x), (2, .ref mm), (3, .ref o)] → W p l e room_1 s m #[Value.ref b] below meth c H locs (cells + 1) (slots + 6) Q (F0 m 1535 ls [])) :
    ∀ (H : Heap) (locs : List Loc) (ls : Array Slot), xP B0 G h H → va_S (xA B0) s.heap H locs → lv_has ls 9 [(4, .int i), (0, .ref b), (1, .ref x), (2, .ref mm), (3, .ref o)] → W p l e room_1 s m #[Value.ref b] below meth c H locs (cells) (slots) Q (F0 m 900 ls []) := by
  obtain ⟨hx, hb, hml, hown, hts, hXs, hbl, hbA, hKK, hZ, hX, hC, htr⟩ := C0
  intro H locs ls hP hS hl
  unfold lc_10 at hf
  refine lv_aload_n hx hb dL_law_900 rfl (lv_at hl 2 rfl) ?_
  refine lv_aload_n hx hb dL_law_901 rfl (lv_at hl 1 rfl) ?_
  refine lv_iload hx hb dL_law_902 (lv_at hl 0 rfl) ?_
  refine lv_iconst (v := (1 : Int32)) hx hb dL_law_904 (by decide) ?_
  refine lv_iadd hx hb dL_law_905 ?_
  obtain ⟨v1, ev1, hf⟩ := xb hf
  refine xr_sld hx hb hXs hbl hbA hS ev1 dL_law_906 ?_
  refine lv_aload_n hx hb dL_law_907 rfl (lv_at hl 4 rfl) ?_
  obtain ⟨v2, h1, ev2, hf⟩ := xb2 hf
  refine xc_SWi (rest := []) ⟨hx, hb, hml, hown, hts⟩ (m_L_rain l htr B0 G h h1 x v1 o v2 ev2) (vx_cwSW 3 hts gL_law_L_rain rfl rfl rfl (by decide +kernel) ⟨Nat.le_of_ble_eq_true rfl, Nat.le_of_ble_eq_true rfl⟩) hKK hZ hX hC hP hS rfl hl.1 rfl (Nat.le_of_ble_eq_true rfl) dL_law_908 ⟨hcs1, hss1⟩ (fun H locs hP hS => ?_)
  refine lv_istore (lv' := [(5, .int v2), (4, .int i), (0, .ref b), (1, .ref x), (2, .ref mm), (3, .ref o)]) hx hb dL_law_911 hl (by decide) rfl (fun ls hl => ?_)
  refine lv_aload_n hx hb dL_law_913 rfl (lv_at hl 4 rfl) ?_
  refine lv_aload_n hx hb dL_law_914 rfl (lv_at hl 2 rfl) ?_
  refine lv_iload hx hb dL_law_915 (lv_at hl 1 rfl) ?_
  refine lv_iconst (v := (1 : Int32)) hx hb dL_law_917 (by decide) ?_
  refine lv_iadd hx hb dL_law_918 ?_
  obtain ⟨v3, ev3, hf⟩ := xb hf
  refine xr_sld hx hb hXs hbl hbA hS ev3 dL_law_919 ?_
  obtain ⟨v4, ev4, hf⟩ := xb hf
  obtain ⟨v5, h2, ev5, hf⟩ := xb2 hf
  refine xc_Vi (rest := []) ⟨hx, hb, hml, hown, hts⟩ (m_X6_rain l B0 G h1 h2 mm v3 v5 ev5) (cwV 1 hts gL_law_X6_rain rfl rfl rfl (by decide +kernel) ⟨Nat.le_of_ble_eq_true rfl, Nat.le_of_ble_eq_true rfl⟩) hKK hP hS ev4 rfl rfl hl.1 rfl (Nat.le_of_ble_eq_true rfl) dL_law_920 ⟨hcs1, hss1⟩ (fun H locs hP hS => ?_)
  refine lv_istore (lv' := [(6, .int v5), (5, .int v2), (4, .int i), (0, .ref b), (1, .ref x), (2, .ref mm), (3, .ref o)]) hx hb dL_law_923 hl (by decide) rfl (fun ls hl => ?_)
  refine lv_aload_n hx hb dL_law_925 rfl (lv_at hl 5 rfl) ?_
  obtain ⟨v6, ev6, hf⟩ := xb hf
  obtain ⟨v7, ev7, hf⟩ := xb1 hf
  refine xc_Vi (rest := []) ⟨hx, hb, hml, hown, hts⟩ (m_X6_thrown l B0 G h2 mm v7 ev7) (cwV 0 hts gL_law_X6_thrown rfl rfl rfl (by decide +kernel) ⟨Nat.le_of_ble_eq_true rfl, Nat.le_of_ble_eq_true rfl⟩) hKK hP hS ev6 rfl rfl hl.1 rfl (Nat.le_of_ble_eq_true rfl) dL_law_926 ⟨hcs1, hss1⟩ (fun H locs hP hS => ?_)
  refine lv_iload hx hb dL_law_929 (lv_at hl 1 rfl) ?_
  refine lv_icmp_eq (tgt := 936) hx hb dL_law_931 (by decide) (fun c1 => ?_) (fun c1 => ?_)
  · have hf := xif_t hf c1
    refine lv_iload hx hb dL_law_936 (lv_at hl 1 rfl) ?_
    obtain ⟨k1, ek1, hf⟩ := xlk hf
    have J1 : k1 = some hE → ∀ (H : Heap) (locs : List Loc) (ls : Array Slot), xP B0 G h2 H → va_S (xA B0) s.heap H locs → lv_has ls 9 [(4, .int i), (0, .ref b), (1, .ref x), (2, .ref mm), (3, .ref o)] → W p l e room_1 s m #[Value.ref b] below meth c H locs (cells + 1) (slots + 6) Q (F0 m 953 ls []) := by
      intro  hf H locs ls hP hS hl
      have hf := xk0 ek1 hf
      clear ek1
      refine lv_goto (tgt := 1535) hx hb dL_law_953 (by decide) ?_
      obtain rfl := Option.some.inj hf
      refine W.widen (k := cells + 1) (n := slots + 6) (by omega) (by omega) ?_
      exact K _ _ _ hP hS (lv_sub hl [0, 1, 2, 3, 4] rfl)
    clear ek1
    refine lv_if_ne (tgt := 953) hx hb dL_law_938 (by decide) (fun c2 => ?_) (fun c2 => ?_)
    · have hf := xif_f hf c2
      exact J1  hf _ _ _ hP hS (lv_sub hl [2, 3, 4, 5, 6] rfl)
    · have hf := xif_t hf c2
      refine lv_aload_n hx hb dL_law_941 rfl (lv_at hl 6 rfl) ?_
      refine lv_iconst (v := (0 : Int32)) hx hb dL_law_942 (by decide) ?_
      obtain ⟨v8, ev8, hf⟩ := xb hf
      refine xr_lald hx hb hKK hP ev8 dL_law_943 ?_
      refine lv_iload hx hb dL_law_944 (lv_at hl 0 rfl) ?_
      refine lv_i2l hx hb dL_law_946 rfl ?_
      refine xr_lcmp_eq (tgt := 953) hx hb dL_law_947 dL_law_948 (by decide) (fun c3 => ?_) (fun c3 => ?_)
      · have hf := xif_t hf c3
        exact J1  hf _ _ _ hP hS (lv_sub hl [2, 3, 4, 5, 6] rfl)
      · have hf := xif_f hf c3
        refine lv_iconst (v := (0 : Int32)) hx hb dL_law_951 (by decide) ?_
        cases hf
  · have hf := xif_f hf c1
    refine lv_iconst (v := (0 : Int32)) hx hb dL_law_934 (by decide) ?_
    cases hf
/-- the law, call 11 -/
def lc_11 (fu L : Nat) (xs : Nat → Int32) (x mm o : Nat) (i : Int32) (h : XH) : Option XH :=
  (xsld L xs (i + (1 : Int32))).bind fun v1 =>
  obind2 (f_L_run fu h x v1 o) fun v2 h1 =>
  (xsld L xs (i + (1 : Int32))).bind fun v3 =>
  (xis h1 mm 6).bind fun v4 =>
  obind2 (f_X6_run fu h1 mm v3) fun v5 h2 =>
  (xis h2 mm 6).bind fun v6 =>
  obind1 (f_X6_thrown h2 mm) fun v7 =>
  if v7 = v2 then
    oletk (
      some h2
    ) fun k1 =>
    if v2 = (0 : Int32) then
      (xaldL h2 o (0 : Int32)).bind fun v8 =>
      if v8 = (Int32.toInt64 v5) then
        k1
      else
        none
    else
      k1
  else
    none
set_option maxHeartbeats 4000000 in
set_option maxRecDepth 100000 in
theorem lp_11 {p : Program} {l : Launch} {e : Env} {s : State} {m : MethodId} {below : List Frame} {meth : Method} {c : Code} {B0 : Nat} {G : XG} {b L : Nat} {xs : Nat → Int32} {Q : State → Prop} (C0 : xLC p l s m c B0 G b L xs) (fu x mm o : Nat) (i : Int32) (h hE : XH) (hf : lc_11 fu L xs x mm o i h = some hE) {cells slots : Nat} (hcs1 : cells + 1 ≤ 601024) (hss1 : slots + 6 ≤ 7293033)
    (K : ∀ (H : Heap) (locs : List Loc) (ls : Array Slot), xP B0 G hE H → va_S (xA B0) s.heap H locs → lv_has ls 9 [(4, .int i), (0, .ref b), (1, .ref x), (2, .ref mm), (3, .ref o)] → W p l e room_1 s m #[Value.ref b] below meth c H locs (cells + 1) (slots + 6) Q (F0 m 1535 ls [])) :
    ∀ (H : Heap) (locs : List Loc) (ls : Array Slot), xP B0 G h H → va_S (xA B0) s.heap H locs → lv_has ls 9 [(4, .int i), (0, .ref b), (1, .ref x), (2, .ref mm), (3, .ref o)] → W p l e room_1 s m #[Value.ref b] below meth c H locs (cells) (slots) Q (F0 m 956 ls []) := by
  obtain ⟨hx, hb, hml, hown, hts, hXs, hbl, hbA, hKK, hZ, hX, hC, htr⟩ := C0
  intro H locs ls hP hS hl
  unfold lc_11 at hf
  refine lv_aload_n hx hb dL_law_956 rfl (lv_at hl 2 rfl) ?_
  refine lv_aload_n hx hb dL_law_957 rfl (lv_at hl 1 rfl) ?_
  refine lv_iload hx hb dL_law_958 (lv_at hl 0 rfl) ?_
  refine lv_iconst (v := (1 : Int32)) hx hb dL_law_960 (by decide) ?_
  refine lv_iadd hx hb dL_law_961 ?_
  obtain ⟨v1, ev1, hf⟩ := xb hf
  refine xr_sld hx hb hXs hbl hbA hS ev1 dL_law_962 ?_
  refine lv_aload_n hx hb dL_law_963 rfl (lv_at hl 4 rfl) ?_
  obtain ⟨v2, h1, ev2, hf⟩ := xb2 hf
  refine xc_SWi (rest := []) ⟨hx, hb, hml, hown, hts⟩ (m_L_run l htr B0 G fu h h1 x v1 o v2 ev2) (vx_cwSW 3 hts gL_law_L_run rfl rfl rfl (by decide +kernel) ⟨Nat.le_of_ble_eq_true rfl, Nat.le_of_ble_eq_true rfl⟩) hKK hZ hX hC hP hS rfl hl.1 rfl (Nat.le_of_ble_eq_true rfl) dL_law_964 ⟨hcs1, hss1⟩ (fun H locs hP hS => ?_)
  refine lv_istore (lv' := [(5, .int v2), (4, .int i), (0, .ref b), (1, .ref x), (2, .ref mm), (3, .ref o)]) hx hb dL_law_967 hl (by decide) rfl (fun ls hl => ?_)
  refine lv_aload_n hx hb dL_law_969 rfl (lv_at hl 4 rfl) ?_
  refine lv_aload_n hx hb dL_law_970 rfl (lv_at hl 2 rfl) ?_
  refine lv_iload hx hb dL_law_971 (lv_at hl 1 rfl) ?_
  refine lv_iconst (v := (1 : Int32)) hx hb dL_law_973 (by decide) ?_
  refine lv_iadd hx hb dL_law_974 ?_
  obtain ⟨v3, ev3, hf⟩ := xb hf
  refine xr_sld hx hb hXs hbl hbA hS ev3 dL_law_975 ?_
  obtain ⟨v4, ev4, hf⟩ := xb hf
  obtain ⟨v5, h2, ev5, hf⟩ := xb2 hf
  refine xc_Vi (rest := []) ⟨hx, hb, hml, hown, hts⟩ (m_X6_run l B0 G fu h1 h2 mm v3 v5 ev5) (cwV 1 hts gL_law_X6_run rfl rfl rfl (by decide +kernel) ⟨Nat.le_of_ble_eq_true rfl, Nat.le_of_ble_eq_true rfl⟩) hKK hP hS ev4 rfl rfl hl.1 rfl (Nat.le_of_ble_eq_true rfl) dL_law_976 ⟨hcs1, hss1⟩ (fun H locs hP hS => ?_)
  refine lv_istore (lv' := [(6, .int v5), (5, .int v2), (4, .int i), (0, .ref b), (1, .ref x), (2, .ref mm), (3, .ref o)]) hx hb dL_law_979 hl (by decide) rfl (fun ls hl => ?_)
  refine lv_aload_n hx hb dL_law_981 rfl (lv_at hl 5 rfl) ?_
  obtain ⟨v6, ev6, hf⟩ := xb hf
  obtain ⟨v7, ev7, hf⟩ := xb1 hf
  refine xc_Vi (rest := []) ⟨hx, hb, hml, hown, hts⟩ (m_X6_thrown l B0 G h2 mm v7 ev7) (cwV 0 hts gL_law_X6_thrown rfl rfl rfl (by decide +kernel) ⟨Nat.le_of_ble_eq_true rfl, Nat.le_of_ble_eq_true rfl⟩) hKK hP hS ev6 rfl rfl hl.1 rfl (Nat.le_of_ble_eq_true rfl) dL_law_982 ⟨hcs1, hss1⟩ (fun H locs hP hS => ?_)
  refine lv_iload hx hb dL_law_985 (lv_at hl 1 rfl) ?_
  refine lv_icmp_eq (tgt := 992) hx hb dL_law_987 (by decide) (fun c1 => ?_) (fun c1 => ?_)
  · have hf := xif_t hf c1
    refine lv_iload hx hb dL_law_992 (lv_at hl 1 rfl) ?_
    obtain ⟨k1, ek1, hf⟩ := xlk hf
    have J1 : k1 = some hE → ∀ (H : Heap) (locs : List Loc) (ls : Array Slot), xP B0 G h2 H → va_S (xA B0) s.heap H locs → lv_has ls 9 [(4, .int i), (0, .ref b), (1, .ref x), (2, .ref mm), (3, .ref o)] → W p l e room_1 s m #[Value.ref b] below meth c H locs (cells + 1) (slots + 6) Q (F0 m 1009 ls []) := by
      intro  hf H locs ls hP hS hl
      have hf := xk0 ek1 hf
      clear ek1
      refine lv_goto (tgt := 1535) hx hb dL_law_1009 (by decide) ?_
      obtain rfl := Option.some.inj hf
      refine W.widen (k := cells + 1) (n := slots + 6) (by omega) (by omega) ?_
      exact K _ _ _ hP hS (lv_sub hl [0, 1, 2, 3, 4] rfl)
    clear ek1
    refine lv_if_ne (tgt := 1009) hx hb dL_law_994 (by decide) (fun c2 => ?_) (fun c2 => ?_)
    · have hf := xif_f hf c2
      exact J1  hf _ _ _ hP hS (lv_sub hl [2, 3, 4, 5, 6] rfl)
    · have hf := xif_t hf c2
      refine lv_aload_n hx hb dL_law_997 rfl (lv_at hl 6 rfl) ?_
      refine lv_iconst (v := (0 : Int32)) hx hb dL_law_998 (by decide) ?_
      obtain ⟨v8, ev8, hf⟩ := xb hf
      refine xr_lald hx hb hKK hP ev8 dL_law_999 ?_
      refine lv_iload hx hb dL_law_1000 (lv_at hl 0 rfl) ?_
      refine lv_i2l hx hb dL_law_1002 rfl ?_
      refine xr_lcmp_eq (tgt := 1009) hx hb dL_law_1003 dL_law_1004 (by decide) (fun c3 => ?_) (fun c3 => ?_)
      · have hf := xif_t hf c3
        exact J1  hf _ _ _ hP hS (lv_sub hl [2, 3, 4, 5, 6] rfl)
      · have hf := xif_f hf c3
        refine lv_iconst (v := (0 : Int32)) hx hb dL_law_1007 (by decide) ?_
        cases hf
  · have hf := xif_f hf c1
    refine lv_iconst (v := (0 : Int32)) hx hb dL_law_990 (by decide) ?_
    cases hf
/-- the law, call 12 -/
def lc_12 (fu L : Nat) (xs : Nat → Int32) (x mm o : Nat) (i : Int32) (h : XH) : Option XH :=
  (xis h x 5).bind fun v1 =>
  obind2 (f_X5_restart fu h x) fun v2 h1 =>
  (xis h1 mm 6).bind fun v3 =>
  obind2 (f_X6_restart fu h1 mm) fun v4 h2 =>
  if v2 = v4 then
    some h2
  else
    none
set_option maxHeartbeats 4000000 in
set_option maxRecDepth 100000 in
theorem lp_12 {p : Program} {l : Launch} {e : Env} {s : State} {m : MethodId} {below : List Frame} {meth : Method} {c : Code} {B0 : Nat} {G : XG} {b L : Nat} {xs : Nat → Int32} {Q : State → Prop} (C0 : xLC p l s m c B0 G b L xs) (fu x mm o : Nat) (i : Int32) (h hE : XH) (hf : lc_12 fu L xs x mm o i h = some hE) {cells slots : Nat} (hcs1 : cells + 1 ≤ 601024) (hss1 : slots + 6 ≤ 7293033)
    (K : ∀ (H : Heap) (locs : List Loc) (ls : Array Slot), xP B0 G hE H → va_S (xA B0) s.heap H locs → lv_has ls 9 [(4, .int i), (0, .ref b), (1, .ref x), (2, .ref mm), (3, .ref o)] → W p l e room_1 s m #[Value.ref b] below meth c H locs (cells + 1) (slots + 6) Q (F0 m 1535 ls [])) :
    ∀ (H : Heap) (locs : List Loc) (ls : Array Slot), xP B0 G h H → va_S (xA B0) s.heap H locs → lv_has ls 9 [(4, .int i), (0, .ref b), (1, .ref x), (2, .ref mm), (3, .ref o)] → W p l e room_1 s m #[Value.ref b] below meth c H locs (cells) (slots) Q (F0 m 1012 ls []) := by
  obtain ⟨hx, hb, hml, hown, hts, hXs, hbl, hbA, hKK, hZ, hX, hC, htr⟩ := C0
  intro H locs ls hP hS hl
  unfold lc_12 at hf
  refine lv_aload_n hx hb dL_law_1012 rfl (lv_at hl 2 rfl) ?_
  obtain ⟨v1, ev1, hf⟩ := xb hf
  obtain ⟨v2, h1, ev2, hf⟩ := xb2 hf
  refine xc_Vi (rest := []) ⟨hx, hb, hml, hown, hts⟩ (m_X5_restart l B0 G fu h h1 x v2 ev2) (cwV 0 hts gL_law_X5_restart rfl rfl rfl (by decide +kernel) ⟨Nat.le_of_ble_eq_true rfl, Nat.le_of_ble_eq_true rfl⟩) hKK hP hS ev1 rfl rfl hl.1 rfl (Nat.le_of_ble_eq_true rfl) dL_law_1013 ⟨Nat.le_trans (Nat.le_add_right _ _) hcs1, Nat.le_trans (Nat.le_add_right _ _) hss1⟩ (fun H locs hP hS => ?_)
  refine lv_aload_n hx hb dL_law_1016 rfl (lv_at hl 3 rfl) ?_
  obtain ⟨v3, ev3, hf⟩ := xb hf
  obtain ⟨v4, h2, ev4, hf⟩ := xb2 hf
  refine xc_Vi (rest := [.int v2]) ⟨hx, hb, hml, hown, hts⟩ (m_X6_restart l B0 G fu h1 h2 mm v4 ev4) (cwV 0 hts gL_law_X6_restart rfl rfl rfl (by decide +kernel) ⟨Nat.le_of_ble_eq_true rfl, Nat.le_of_ble_eq_true rfl⟩) hKK hP hS ev3 rfl rfl hl.1 rfl (Nat.le_of_ble_eq_true rfl) dL_law_1017 ⟨Nat.le_trans (Nat.le_add_right _ _) hcs1, Nat.le_trans (Nat.le_add_right _ _) hss1⟩ (fun H locs hP hS => ?_)
  refine lv_icmp_eq (tgt := 1535) hx hb dL_law_1020 (by decide) (fun c1 => ?_) (fun c1 => ?_)
  · have hf := xif_t hf c1
    obtain rfl := Option.some.inj hf
    refine W.widen (k := cells + 1) (n := slots + 6) (by omega) (by omega) ?_
    exact K _ _ _ hP hS (lv_sub hl [0, 1, 2, 3, 4] rfl)
  · have hf := xif_f hf c1
    refine lv_iconst (v := (0 : Int32)) hx hb dL_law_1023 (by decide) ?_
    cases hf
/-- the law, call 13 -/
def lc_13 (fu L : Nat) (xs : Nat → Int32) (x mm o : Nat) (i : Int32) (h : XH) : Option XH :=
  (xsld L xs (i + (1 : Int32))).bind fun v1 =>
  (xsld L xs (i + (2 : Int32))).bind fun v2 =>
  obind2 (f_L_day h x v1 v2 o) fun v3 h1 =>
  (xsld L xs (i + (1 : Int32))).bind fun v4 =>
  (xsld L xs (i + (2 : Int32))).bind fun v5 =>
  (xis h1 mm 6).bind fun v6 =>
  obind2 (f_X6_day h1 mm v4 v5) fun v7 h2 =>
  (xis h2 mm 6).bind fun v8 =>
  obind1 (f_X6_thrown h2 mm) fun v9 =>
  if v9 = v3 then
    oletk (
      some h2
    ) fun k1 =>
    if v3 = (0 : Int32) then
      (xaldL h2 o (0 : Int32)).bind fun v10 =>
      if v10 = (Int32.toInt64 v7) then
        k1
      else
        none
    else
      k1
  else
    none
set_option maxHeartbeats 4000000 in
set_option maxRecDepth 100000 in
theorem lp_13 {p : Program} {l : Launch} {e : Env} {s : State} {m : MethodId} {below : List Frame} {meth : Method} {c : Code} {B0 : Nat} {G : XG} {b L : Nat} {xs : Nat → Int32} {Q : State → Prop} (C0 : xLC p l s m c B0 G b L xs) (fu x mm o : Nat) (i : Int32) (h hE : XH) (hf : lc_13 fu L xs x mm o i h = some hE) {cells slots : Nat} (hcs1 : cells + 1 ≤ 601024) (hss1 : slots + 6 ≤ 7293033)
    (K : ∀ (H : Heap) (locs : List Loc) (ls : Array Slot), xP B0 G hE H → va_S (xA B0) s.heap H locs → lv_has ls 9 [(4, .int i), (0, .ref b), (1, .ref x), (2, .ref mm), (3, .ref o)] → W p l e room_1 s m #[Value.ref b] below meth c H locs (cells + 1) (slots + 6) Q (F0 m 1535 ls [])) :
    ∀ (H : Heap) (locs : List Loc) (ls : Array Slot), xP B0 G h H → va_S (xA B0) s.heap H locs → lv_has ls 9 [(4, .int i), (0, .ref b), (1, .ref x), (2, .ref mm), (3, .ref o)] → W p l e room_1 s m #[Value.ref b] below meth c H locs (cells) (slots) Q (F0 m 1025 ls []) := by
  obtain ⟨hx, hb, hml, hown, hts, hXs, hbl, hbA, hKK, hZ, hX, hC, htr⟩ := C0
  intro H locs ls hP hS hl
  unfold lc_13 at hf
  refine lv_aload_n hx hb dL_law_1025 rfl (lv_at hl 2 rfl) ?_
  refine lv_aload_n hx hb dL_law_1026 rfl (lv_at hl 1 rfl) ?_
  refine lv_iload hx hb dL_law_1027 (lv_at hl 0 rfl) ?_
  refine lv_iconst (v := (1 : Int32)) hx hb dL_law_1029 (by decide) ?_
  refine lv_iadd hx hb dL_law_1030 ?_
  obtain ⟨v1, ev1, hf⟩ := xb hf
  refine xr_sld hx hb hXs hbl hbA hS ev1 dL_law_1031 ?_
  refine lv_aload_n hx hb dL_law_1032 rfl (lv_at hl 1 rfl) ?_
  refine lv_iload hx hb dL_law_1033 (lv_at hl 0 rfl) ?_
  refine lv_iconst (v := (2 : Int32)) hx hb dL_law_1035 (by decide) ?_
  refine lv_iadd hx hb dL_law_1036 ?_
  obtain ⟨v2, ev2, hf⟩ := xb hf
  refine xr_sld hx hb hXs hbl hbA hS ev2 dL_law_1037 ?_
  refine lv_aload_n hx hb dL_law_1038 rfl (lv_at hl 4 rfl) ?_
  obtain ⟨v3, h1, ev3, hf⟩ := xb2 hf
  refine xc_SWi (rest := []) ⟨hx, hb, hml, hown, hts⟩ (m_L_day l htr B0 G h h1 x v1 v2 o v3 ev3) (vx_cwSW 4 hts gL_law_L_day rfl rfl rfl (by decide +kernel) ⟨Nat.le_of_ble_eq_true rfl, Nat.le_of_ble_eq_true rfl⟩) hKK hZ hX hC hP hS rfl hl.1 rfl (Nat.le_of_ble_eq_true rfl) dL_law_1039 ⟨hcs1, hss1⟩ (fun H locs hP hS => ?_)
  refine lv_istore (lv' := [(5, .int v3), (4, .int i), (0, .ref b), (1, .ref x), (2, .ref mm), (3, .ref o)]) hx hb dL_law_1042 hl (by decide) rfl (fun ls hl => ?_)
  refine lv_aload_n hx hb dL_law_1044 rfl (lv_at hl 4 rfl) ?_
  refine lv_aload_n hx hb dL_law_1045 rfl (lv_at hl 2 rfl) ?_
  refine lv_iload hx hb dL_law_1046 (lv_at hl 1 rfl) ?_
  refine lv_iconst (v := (1 : Int32)) hx hb dL_law_1048 (by decide) ?_
  refine lv_iadd hx hb dL_law_1049 ?_
  obtain ⟨v4, ev4, hf⟩ := xb hf
  refine xr_sld hx hb hXs hbl hbA hS ev4 dL_law_1050 ?_
  refine lv_aload_n hx hb dL_law_1051 rfl (lv_at hl 2 rfl) ?_
  refine lv_iload hx hb dL_law_1052 (lv_at hl 1 rfl) ?_
  refine lv_iconst (v := (2 : Int32)) hx hb dL_law_1054 (by decide) ?_
  refine lv_iadd hx hb dL_law_1055 ?_
  obtain ⟨v5, ev5, hf⟩ := xb hf
  refine xr_sld hx hb hXs hbl hbA hS ev5 dL_law_1056 ?_
  obtain ⟨v6, ev6, hf⟩ := xb hf
  obtain ⟨v7, h2, ev7, hf⟩ := xb2 hf
  refine xc_Vi (rest := []) ⟨hx, hb, hml, hown, hts⟩ (m_X6_day l B0 G h1 h2 mm v4 v5 v7 ev7) (cwV 2 hts gL_law_X6_day rfl rfl rfl (by decide +kernel) ⟨Nat.le_of_ble_eq_true rfl, Nat.le_of_ble_eq_true rfl⟩) hKK hP hS ev6 rfl rfl hl.1 rfl (Nat.le_of_ble_eq_true rfl) dL_law_1057 ⟨hcs1, hss1⟩ (fun H locs hP hS => ?_)
  refine lv_istore (lv' := [(6, .int v7), (5, .int v3), (4, .int i), (0, .ref b), (1, .ref x), (2, .ref mm), (3, .ref o)]) hx hb dL_law_1060 hl (by decide) rfl (fun ls hl => ?_)
  refine lv_aload_n hx hb dL_law_1062 rfl (lv_at hl 5 rfl) ?_
  obtain ⟨v8, ev8, hf⟩ := xb hf
  obtain ⟨v9, ev9, hf⟩ := xb1 hf
  refine xc_Vi (rest := []) ⟨hx, hb, hml, hown, hts⟩ (m_X6_thrown l B0 G h2 mm v9 ev9) (cwV 0 hts gL_law_X6_thrown rfl rfl rfl (by decide +kernel) ⟨Nat.le_of_ble_eq_true rfl, Nat.le_of_ble_eq_true rfl⟩) hKK hP hS ev8 rfl rfl hl.1 rfl (Nat.le_of_ble_eq_true rfl) dL_law_1063 ⟨hcs1, hss1⟩ (fun H locs hP hS => ?_)
  refine lv_iload hx hb dL_law_1066 (lv_at hl 1 rfl) ?_
  refine lv_icmp_eq (tgt := 1073) hx hb dL_law_1068 (by decide) (fun c1 => ?_) (fun c1 => ?_)
  · have hf := xif_t hf c1
    refine lv_iload hx hb dL_law_1073 (lv_at hl 1 rfl) ?_
    obtain ⟨k1, ek1, hf⟩ := xlk hf
    have J1 : k1 = some hE → ∀ (H : Heap) (locs : List Loc) (ls : Array Slot), xP B0 G h2 H → va_S (xA B0) s.heap H locs → lv_has ls 9 [(4, .int i), (0, .ref b), (1, .ref x), (2, .ref mm), (3, .ref o)] → W p l e room_1 s m #[Value.ref b] below meth c H locs (cells + 1) (slots + 6) Q (F0 m 1090 ls []) := by
      intro  hf H locs ls hP hS hl
      have hf := xk0 ek1 hf
      clear ek1
      refine lv_goto (tgt := 1535) hx hb dL_law_1090 (by decide) ?_
      obtain rfl := Option.some.inj hf
      refine W.widen (k := cells + 1) (n := slots + 6) (by omega) (by omega) ?_
      exact K _ _ _ hP hS (lv_sub hl [0, 1, 2, 3, 4] rfl)
    clear ek1
    refine lv_if_ne (tgt := 1090) hx hb dL_law_1075 (by decide) (fun c2 => ?_) (fun c2 => ?_)
    · have hf := xif_f hf c2
      exact J1  hf _ _ _ hP hS (lv_sub hl [2, 3, 4, 5, 6] rfl)
    · have hf := xif_t hf c2
      refine lv_aload_n hx hb dL_law_1078 rfl (lv_at hl 6 rfl) ?_
      refine lv_iconst (v := (0 : Int32)) hx hb dL_law_1079 (by decide) ?_
      obtain ⟨v10, ev10, hf⟩ := xb hf
      refine xr_lald hx hb hKK hP ev10 dL_law_1080 ?_
      refine lv_iload hx hb dL_law_1081 (lv_at hl 0 rfl) ?_
      refine lv_i2l hx hb dL_law_1083 rfl ?_
      refine xr_lcmp_eq (tgt := 1090) hx hb dL_law_1084 dL_law_1085 (by decide) (fun c3 => ?_) (fun c3 => ?_)
      · have hf := xif_t hf c3
        exact J1  hf _ _ _ hP hS (lv_sub hl [2, 3, 4, 5, 6] rfl)
      · have hf := xif_f hf c3
        refine lv_iconst (v := (0 : Int32)) hx hb dL_law_1088 (by decide) ?_
        cases hf
  · have hf := xif_f hf c1
    refine lv_iconst (v := (0 : Int32)) hx hb dL_law_1071 (by decide) ?_
    cases hf
/-- the law, call 14 -/
def lc_14 (fu L : Nat) (xs : Nat → Int32) (x mm o : Nat) (i : Int32) (h : XH) : Option XH :=
  (xsld L xs (i + (1 : Int32))).bind fun v1 =>
  obind2 (f_L_sum fu h x v1 o) fun v2 h1 =>
  (xsld L xs (i + (1 : Int32))).bind fun v3 =>
  (xis h1 mm 6).bind fun v4 =>
  obind2 (f_X6_sum fu h1 mm v3) fun v5 h2 =>
  (xis h2 mm 6).bind fun v6 =>
  obind1 (f_X6_thrown h2 mm) fun v7 =>
  if v7 = v2 then
    oletk (
      some h2
    ) fun k1 =>
    if v2 = (0 : Int32) then
      (xaldL h2 o (0 : Int32)).bind fun v8 =>
      if v8 = v5 then
        k1
      else
        none
    else
      k1
  else
    none
set_option maxHeartbeats 4000000 in
set_option maxRecDepth 100000 in
theorem lp_14 {p : Program} {l : Launch} {e : Env} {s : State} {m : MethodId} {below : List Frame} {meth : Method} {c : Code} {B0 : Nat} {G : XG} {b L : Nat} {xs : Nat → Int32} {Q : State → Prop} (C0 : xLC p l s m c B0 G b L xs) (fu x mm o : Nat) (i : Int32) (h hE : XH) (hf : lc_14 fu L xs x mm o i h = some hE) {cells slots : Nat} (hcs1 : cells + 1 ≤ 601024) (hss1 : slots + 6 ≤ 7293033)
    (K : ∀ (H : Heap) (locs : List Loc) (ls : Array Slot), xP B0 G hE H → va_S (xA B0) s.heap H locs → lv_has ls 9 [(4, .int i), (0, .ref b), (1, .ref x), (2, .ref mm), (3, .ref o)] → W p l e room_1 s m #[Value.ref b] below meth c H locs (cells + 1) (slots + 6) Q (F0 m 1535 ls [])) :
    ∀ (H : Heap) (locs : List Loc) (ls : Array Slot), xP B0 G h H → va_S (xA B0) s.heap H locs → lv_has ls 9 [(4, .int i), (0, .ref b), (1, .ref x), (2, .ref mm), (3, .ref o)] → W p l e room_1 s m #[Value.ref b] below meth c H locs (cells) (slots) Q (F0 m 1093 ls []) := by
  obtain ⟨hx, hb, hml, hown, hts, hXs, hbl, hbA, hKK, hZ, hX, hC, htr⟩ := C0
  intro H locs ls hP hS hl
  unfold lc_14 at hf
  refine lv_aload_n hx hb dL_law_1093 rfl (lv_at hl 2 rfl) ?_
  refine lv_aload_n hx hb dL_law_1094 rfl (lv_at hl 1 rfl) ?_
  refine lv_iload hx hb dL_law_1095 (lv_at hl 0 rfl) ?_
  refine lv_iconst (v := (1 : Int32)) hx hb dL_law_1097 (by decide) ?_
  refine lv_iadd hx hb dL_law_1098 ?_
  obtain ⟨v1, ev1, hf⟩ := xb hf
  refine xr_sld hx hb hXs hbl hbA hS ev1 dL_law_1099 ?_
  refine lv_aload_n hx hb dL_law_1100 rfl (lv_at hl 4 rfl) ?_
  obtain ⟨v2, h1, ev2, hf⟩ := xb2 hf
  refine xc_SWi (rest := []) ⟨hx, hb, hml, hown, hts⟩ (m_L_sum l htr B0 G fu h h1 x v1 o v2 ev2) (vx_cwSW 3 hts gL_law_L_sum rfl rfl rfl (by decide +kernel) ⟨Nat.le_of_ble_eq_true rfl, Nat.le_of_ble_eq_true rfl⟩) hKK hZ hX hC hP hS rfl hl.1 rfl (Nat.le_of_ble_eq_true rfl) dL_law_1101 ⟨hcs1, hss1⟩ (fun H locs hP hS => ?_)
  refine lv_istore (lv' := [(5, .int v2), (4, .int i), (0, .ref b), (1, .ref x), (2, .ref mm), (3, .ref o)]) hx hb dL_law_1104 hl (by decide) rfl (fun ls hl => ?_)
  refine lv_aload_n hx hb dL_law_1106 rfl (lv_at hl 4 rfl) ?_
  refine lv_aload_n hx hb dL_law_1107 rfl (lv_at hl 2 rfl) ?_
  refine lv_iload hx hb dL_law_1108 (lv_at hl 1 rfl) ?_
  refine lv_iconst (v := (1 : Int32)) hx hb dL_law_1110 (by decide) ?_
  refine lv_iadd hx hb dL_law_1111 ?_
  obtain ⟨v3, ev3, hf⟩ := xb hf
  refine xr_sld hx hb hXs hbl hbA hS ev3 dL_law_1112 ?_
  obtain ⟨v4, ev4, hf⟩ := xb hf
  obtain ⟨v5, h2, ev5, hf⟩ := xb2 hf
  refine xc_Vl (rest := []) ⟨hx, hb, hml, hown, hts⟩ (m_X6_sum l B0 G fu h1 h2 mm v3 v5 ev5) (cwV 1 hts gL_law_X6_sum rfl rfl rfl (by decide +kernel) ⟨Nat.le_of_ble_eq_true rfl, Nat.le_of_ble_eq_true rfl⟩) hKK hP hS ev4 rfl rfl hl.1 rfl (Nat.le_of_ble_eq_true rfl) dL_law_1113 ⟨hcs1, hss1⟩ (fun H locs hP hS => ?_)
  refine lv_lstore (lv' := [(6, .long v5), (5, .int v2), (4, .int i), (0, .ref b), (1, .ref x), (2, .ref mm), (3, .ref o)]) hx hb dL_law_1116 hl (by decide) rfl (fun ls hl => ?_)
  refine lv_aload_n hx hb dL_law_1118 rfl (lv_at hl 5 rfl) ?_
  obtain ⟨v6, ev6, hf⟩ := xb hf
  obtain ⟨v7, ev7, hf⟩ := xb1 hf
  refine xc_Vi (rest := []) ⟨hx, hb, hml, hown, hts⟩ (m_X6_thrown l B0 G h2 mm v7 ev7) (cwV 0 hts gL_law_X6_thrown rfl rfl rfl (by decide +kernel) ⟨Nat.le_of_ble_eq_true rfl, Nat.le_of_ble_eq_true rfl⟩) hKK hP hS ev6 rfl rfl hl.1 rfl (Nat.le_of_ble_eq_true rfl) dL_law_1119 ⟨hcs1, hss1⟩ (fun H locs hP hS => ?_)
  refine lv_iload hx hb dL_law_1122 (lv_at hl 1 rfl) ?_
  refine lv_icmp_eq (tgt := 1129) hx hb dL_law_1124 (by decide) (fun c1 => ?_) (fun c1 => ?_)
  · have hf := xif_t hf c1
    refine lv_iload hx hb dL_law_1129 (lv_at hl 1 rfl) ?_
    obtain ⟨k1, ek1, hf⟩ := xlk hf
    have J1 : k1 = some hE → ∀ (H : Heap) (locs : List Loc) (ls : Array Slot), xP B0 G h2 H → va_S (xA B0) s.heap H locs → lv_has ls 9 [(4, .int i), (0, .ref b), (1, .ref x), (2, .ref mm), (3, .ref o)] → W p l e room_1 s m #[Value.ref b] below meth c H locs (cells + 1) (slots + 6) Q (F0 m 1145 ls []) := by
      intro  hf H locs ls hP hS hl
      have hf := xk0 ek1 hf
      clear ek1
      refine lv_goto (tgt := 1535) hx hb dL_law_1145 (by decide) ?_
      obtain rfl := Option.some.inj hf
      refine W.widen (k := cells + 1) (n := slots + 6) (by omega) (by omega) ?_
      exact K _ _ _ hP hS (lv_sub hl [0, 1, 2, 3, 4] rfl)
    clear ek1
    refine lv_if_ne (tgt := 1145) hx hb dL_law_1131 (by decide) (fun c2 => ?_) (fun c2 => ?_)
    · have hf := xif_f hf c2
      exact J1  hf _ _ _ hP hS (lv_sub hl [2, 3, 4, 5, 6] rfl)
    · have hf := xif_t hf c2
      refine lv_aload_n hx hb dL_law_1134 rfl (lv_at hl 6 rfl) ?_
      refine lv_iconst (v := (0 : Int32)) hx hb dL_law_1135 (by decide) ?_
      obtain ⟨v8, ev8, hf⟩ := xb hf
      refine xr_lald hx hb hKK hP ev8 dL_law_1136 ?_
      refine lv_lload hx hb dL_law_1137 (lv_at hl 0 rfl) ?_
      refine xr_lcmp_eq (tgt := 1145) hx hb dL_law_1139 dL_law_1140 (by decide) (fun c3 => ?_) (fun c3 => ?_)
      · have hf := xif_t hf c3
        exact J1  hf _ _ _ hP hS (lv_sub hl [2, 3, 4, 5, 6] rfl)
      · have hf := xif_f hf c3
        refine lv_iconst (v := (0 : Int32)) hx hb dL_law_1143 (by decide) ?_
        cases hf
  · have hf := xif_f hf c1
    refine lv_iconst (v := (0 : Int32)) hx hb dL_law_1127 (by decide) ?_
    cases hf
/-- the law, call 15 -/
def lc_15 (fu L : Nat) (xs : Nat → Int32) (x mm o : Nat) (i : Int32) (h : XH) : Option XH :=
  (xis h x 5).bind fun v1 =>
  obind1 (f_X5_reliability fu h x) fun v2 =>
  (xis h mm 6).bind fun v3 =>
  obind2 (f_X6_reliability fu h mm) fun v4 h1 =>
  oletk (
    some h1
  ) fun k1 =>
  if (Op.cmpValue (FP.dcmp v2 v4) .l) = (0 : Int32) then
    k1
  else
    oletk (
      none
    ) fun k2 =>
    if (Op.cmpValue (FP.dcmp v2 v2) .l) = (0 : Int32) then
      k2
    else
      if (Op.cmpValue (FP.dcmp v4 v4) .l) = (0 : Int32) then
        k2
      else
        k1
set_option maxHeartbeats 4000000 in
set_option maxRecDepth 100000 in
theorem lp_15 {p : Program} {l : Launch} {e : Env} {s : State} {m : MethodId} {below : List Frame} {meth : Method} {c : Code} {B0 : Nat} {G : XG} {b L : Nat} {xs : Nat → Int32} {Q : State → Prop} (C0 : xLC p l s m c B0 G b L xs) (fu x mm o : Nat) (i : Int32) (h hE : XH) (hf : lc_15 fu L xs x mm o i h = some hE) {cells slots : Nat} (hcs1 : cells + 1 ≤ 601024) (hss1 : slots + 6 ≤ 7293033)
    (K : ∀ (H : Heap) (locs : List Loc) (ls : Array Slot), xP B0 G hE H → va_S (xA B0) s.heap H locs → lv_has ls 9 [(4, .int i), (0, .ref b), (1, .ref x), (2, .ref mm), (3, .ref o)] → W p l e room_1 s m #[Value.ref b] below meth c H locs (cells + 1) (slots + 6) Q (F0 m 1535 ls [])) :
    ∀ (H : Heap) (locs : List Loc) (ls : Array Slot), xP B0 G h H → va_S (xA B0) s.heap H locs → lv_has ls 9 [(4, .int i), (0, .ref b), (1, .ref x), (2, .ref mm), (3, .ref o)] → W p l e room_1 s m #[Value.ref b] below meth c H locs (cells) (slots) Q (F0 m 1148 ls []) := by
  obtain ⟨hx, hb, hml, hown, hts, hXs, hbl, hbA, hKK, hZ, hX, hC, htr⟩ := C0
  intro H locs ls hP hS hl
  unfold lc_15 at hf
  refine lv_aload_n hx hb dL_law_1148 rfl (lv_at hl 2 rfl) ?_
  obtain ⟨v1, ev1, hf⟩ := xb hf
  obtain ⟨v2, ev2, hf⟩ := xb1 hf
  refine xc_Vd (rest := []) ⟨hx, hb, hml, hown, hts⟩ (m_X5_reliability l B0 G fu h x v2 ev2) (cwV 0 hts gL_law_X5_reliability rfl rfl rfl (by decide +kernel) ⟨Nat.le_of_ble_eq_true rfl, Nat.le_of_ble_eq_true rfl⟩) hKK hP hS ev1 rfl rfl hl.1 rfl (Nat.le_of_ble_eq_true rfl) dL_law_1149 ⟨Nat.le_trans (Nat.le_add_right _ _) hcs1, Nat.le_trans (Nat.le_add_right _ _) hss1⟩ (fun H locs hP hS => ?_)
  refine lv_dstore (lv' := [(5, .double v2), (4, .int i), (0, .ref b), (1, .ref x), (2, .ref mm), (3, .ref o)]) hx hb dL_law_1152 hl (by decide) rfl (fun ls hl => ?_)
  refine lv_aload_n hx hb dL_law_1154 rfl (lv_at hl 4 rfl) ?_
  obtain ⟨v3, ev3, hf⟩ := xb hf
  obtain ⟨v4, h1, ev4, hf⟩ := xb2 hf
  refine xc_Vd (rest := []) ⟨hx, hb, hml, hown, hts⟩ (m_X6_reliability l B0 G fu h h1 mm v4 ev4) (cwV 0 hts gL_law_X6_reliability rfl rfl rfl (by decide +kernel) ⟨Nat.le_of_ble_eq_true rfl, Nat.le_of_ble_eq_true rfl⟩) hKK hP hS ev3 rfl rfl hl.1 rfl (Nat.le_of_ble_eq_true rfl) dL_law_1155 ⟨Nat.le_trans (Nat.le_add_right _ _) hcs1, Nat.le_trans (Nat.le_add_right _ _) hss1⟩ (fun H locs hP hS => ?_)
  refine lv_dstore (lv' := [(7, .double v4), (5, .double v2), (4, .int i), (0, .ref b), (1, .ref x), (2, .ref mm), (3, .ref o)]) hx hb dL_law_1158 hl (by decide) rfl (fun ls hl => ?_)
  refine lv_dload hx hb dL_law_1160 (lv_at hl 1 rfl) ?_
  refine lv_dload hx hb dL_law_1162 (lv_at hl 0 rfl) ?_
  refine lv_dcmp hx hb dL_law_1164 ?_
  obtain ⟨k1, ek1, hf⟩ := xlk hf
  have J1 : k1 = some hE → ∀ (H : Heap) (locs : List Loc) (ls : Array Slot), xP B0 G h1 H → va_S (xA B0) s.heap H locs → lv_has ls 9 [(4, .int i), (0, .ref b), (1, .ref x), (2, .ref mm), (3, .ref o)] → W p l e room_1 s m #[Value.ref b] below meth c H locs (cells) (slots) Q (F0 m 1186 ls []) := by
    intro  hf H locs ls hP hS hl
    have hf := xk0 ek1 hf
    clear ek1
    refine lv_goto (tgt := 1535) hx hb dL_law_1186 (by decide) ?_
    obtain rfl := Option.some.inj hf
    refine W.widen (k := cells + 1) (n := slots + 6) (by omega) (by omega) ?_
    exact K _ _ _ hP hS (lv_sub hl [0, 1, 2, 3, 4] rfl)
  clear ek1
  refine lv_if_eq (tgt := 1186) hx hb dL_law_1165 (by decide) (fun c1 => ?_) (fun c1 => ?_)
  · have hf := xif_t hf c1
    exact J1  hf _ _ _ hP hS (lv_sub hl [2, 3, 4, 5, 6] rfl)
  · have hf := xif_f hf c1
    refine lv_dload hx hb dL_law_1168 (lv_at hl 1 rfl) ?_
    refine lv_dload hx hb dL_law_1170 (lv_at hl 1 rfl) ?_
    refine lv_dcmp hx hb dL_law_1172 ?_
    obtain ⟨k2, ek2, hf⟩ := xlk hf
    have J2 : k2 = some hE → ∀ (H : Heap) (locs : List Loc) (ls : Array Slot), xP B0 G h1 H → va_S (xA B0) s.heap H locs → lv_has ls 9 [] → W p l e room_1 s m #[Value.ref b] below meth c H locs (cells) (slots) Q (F0 m 1184 ls []) := by
      intro  hf H locs ls hP hS hl
      have hf := xk0 ek2 hf
      clear ek2
      refine lv_iconst (v := (0 : Int32)) hx hb dL_law_1184 (by decide) ?_
      cases hf
    clear ek2
    refine lv_if_eq (tgt := 1184) hx hb dL_law_1173 (by decide) (fun c2 => ?_) (fun c2 => ?_)
    · have hf := xif_t hf c2
      exact J2  hf _ _ _ hP hS (lv_sub hl [] rfl)
    · have hf := xif_f hf c2
      refine lv_dload hx hb dL_law_1176 (lv_at hl 0 rfl) ?_
      refine lv_dload hx hb dL_law_1178 (lv_at hl 0 rfl) ?_
      refine lv_dcmp hx hb dL_law_1180 ?_
      refine lv_if_ne (tgt := 1186) hx hb dL_law_1181 (by decide) (fun c3 => ?_) (fun c3 => ?_)
      · have hf := xif_f hf c3
        exact J1  hf _ _ _ hP hS (lv_sub hl [2, 3, 4, 5, 6] rfl)
      · have hf := xif_t hf c3
        exact J2  hf _ _ _ hP hS (lv_sub hl [] rfl)
/-- the law, call 16 -/
def lc_16 (fu L : Nat) (xs : Nat → Int32) (x mm o : Nat) (i : Int32) (h : XH) : Option XH :=
  (xis h x 5).bind fun v1 =>
  obind1 (f_X5_longestShortage fu h x) fun v2 =>
  (xis h mm 6).bind fun v3 =>
  obind2 (f_X6_longestShortage fu h mm) fun v4 h1 =>
  if v2 = v4 then
    some h1
  else
    none
set_option maxHeartbeats 4000000 in
set_option maxRecDepth 100000 in
theorem lp_16 {p : Program} {l : Launch} {e : Env} {s : State} {m : MethodId} {below : List Frame} {meth : Method} {c : Code} {B0 : Nat} {G : XG} {b L : Nat} {xs : Nat → Int32} {Q : State → Prop} (C0 : xLC p l s m c B0 G b L xs) (fu x mm o : Nat) (i : Int32) (h hE : XH) (hf : lc_16 fu L xs x mm o i h = some hE) {cells slots : Nat} (hcs1 : cells + 1 ≤ 601024) (hss1 : slots + 6 ≤ 7293033)
    (K : ∀ (H : Heap) (locs : List Loc) (ls : Array Slot), xP B0 G hE H → va_S (xA B0) s.heap H locs → lv_has ls 9 [(4, .int i), (0, .ref b), (1, .ref x), (2, .ref mm), (3, .ref o)] → W p l e room_1 s m #[Value.ref b] below meth c H locs (cells + 1) (slots + 6) Q (F0 m 1535 ls [])) :
    ∀ (H : Heap) (locs : List Loc) (ls : Array Slot), xP B0 G h H → va_S (xA B0) s.heap H locs → lv_has ls 9 [(4, .int i), (0, .ref b), (1, .ref x), (2, .ref mm), (3, .ref o)] → W p l e room_1 s m #[Value.ref b] below meth c H locs (cells) (slots) Q (F0 m 1189 ls []) := by
  obtain ⟨hx, hb, hml, hown, hts, hXs, hbl, hbA, hKK, hZ, hX, hC, htr⟩ := C0
  intro H locs ls hP hS hl
  unfold lc_16 at hf
  refine lv_aload_n hx hb dL_law_1189 rfl (lv_at hl 2 rfl) ?_
  obtain ⟨v1, ev1, hf⟩ := xb hf
  obtain ⟨v2, ev2, hf⟩ := xb1 hf
  refine xc_Vi (rest := []) ⟨hx, hb, hml, hown, hts⟩ (m_X5_longestShortage l B0 G fu h x v2 ev2) (cwV 0 hts gL_law_X5_longestShortage rfl rfl rfl (by decide +kernel) ⟨Nat.le_of_ble_eq_true rfl, Nat.le_of_ble_eq_true rfl⟩) hKK hP hS ev1 rfl rfl hl.1 rfl (Nat.le_of_ble_eq_true rfl) dL_law_1190 ⟨Nat.le_trans (Nat.le_add_right _ _) hcs1, Nat.le_trans (Nat.le_add_right _ _) hss1⟩ (fun H locs hP hS => ?_)
  refine lv_aload_n hx hb dL_law_1193 rfl (lv_at hl 3 rfl) ?_
  obtain ⟨v3, ev3, hf⟩ := xb hf
  obtain ⟨v4, h1, ev4, hf⟩ := xb2 hf
  refine xc_Vi (rest := [.int v2]) ⟨hx, hb, hml, hown, hts⟩ (m_X6_longestShortage l B0 G fu h h1 mm v4 ev4) (cwV 0 hts gL_law_X6_longestShortage rfl rfl rfl (by decide +kernel) ⟨Nat.le_of_ble_eq_true rfl, Nat.le_of_ble_eq_true rfl⟩) hKK hP hS ev3 rfl rfl hl.1 rfl (Nat.le_of_ble_eq_true rfl) dL_law_1194 ⟨Nat.le_trans (Nat.le_add_right _ _) hcs1, Nat.le_trans (Nat.le_add_right _ _) hss1⟩ (fun H locs hP hS => ?_)
  refine lv_icmp_eq (tgt := 1535) hx hb dL_law_1197 (by decide) (fun c1 => ?_) (fun c1 => ?_)
  · have hf := xif_t hf c1
    obtain rfl := Option.some.inj hf
    refine W.widen (k := cells + 1) (n := slots + 6) (by omega) (by omega) ?_
    exact K _ _ _ hP hS (lv_sub hl [0, 1, 2, 3, 4] rfl)
  · have hf := xif_f hf c1
    refine lv_iconst (v := (0 : Int32)) hx hb dL_law_1200 (by decide) ?_
    cases hf
/-- the law, call 17 -/
def lc_17 (fu L : Nat) (xs : Nat → Int32) (x mm o : Nat) (i : Int32) (h : XH) : Option XH :=
  (xsld L xs (i + (1 : Int32))).bind fun v1 =>
  obind2 (f_L_shortDaysWith fu h x v1 o) fun v2 h1 =>
  (xsld L xs (i + (1 : Int32))).bind fun v3 =>
  (xis h1 mm 6).bind fun v4 =>
  obind2 (f_X6_shortDaysWith fu h1 mm v3) fun v5 h2 =>
  (xis h2 mm 6).bind fun v6 =>
  obind1 (f_X6_thrown h2 mm) fun v7 =>
  if v7 = v2 then
    oletk (
      some h2
    ) fun k1 =>
    if v2 = (0 : Int32) then
      (xaldL h2 o (0 : Int32)).bind fun v8 =>
      if v8 = (Int32.toInt64 v5) then
        k1
      else
        none
    else
      k1
  else
    none
set_option maxHeartbeats 4000000 in
set_option maxRecDepth 100000 in
theorem lp_17 {p : Program} {l : Launch} {e : Env} {s : State} {m : MethodId} {below : List Frame} {meth : Method} {c : Code} {B0 : Nat} {G : XG} {b L : Nat} {xs : Nat → Int32} {Q : State → Prop} (C0 : xLC p l s m c B0 G b L xs) (fu x mm o : Nat) (i : Int32) (h hE : XH) (hf : lc_17 fu L xs x mm o i h = some hE) {cells slots : Nat} (hcs1 : cells + 1 ≤ 601024) (hss1 : slots + 6 ≤ 7293033)
    (K : ∀ (H : Heap) (locs : List Loc) (ls : Array Slot), xP B0 G hE H → va_S (xA B0) s.heap H locs → lv_has ls 9 [(4, .int i), (0, .ref b), (1, .ref x), (2, .ref mm), (3, .ref o)] → W p l e room_1 s m #[Value.ref b] below meth c H locs (cells + 1) (slots + 6) Q (F0 m 1535 ls [])) :
    ∀ (H : Heap) (locs : List Loc) (ls : Array Slot), xP B0 G h H → va_S (xA B0) s.heap H locs → lv_has ls 9 [(4, .int i), (0, .ref b), (1, .ref x), (2, .ref mm), (3, .ref o)] → W p l e room_1 s m #[Value.ref b] below meth c H locs (cells) (slots) Q (F0 m 1202 ls []) := by
  obtain ⟨hx, hb, hml, hown, hts, hXs, hbl, hbA, hKK, hZ, hX, hC, htr⟩ := C0
  intro H locs ls hP hS hl
  unfold lc_17 at hf
  refine lv_aload_n hx hb dL_law_1202 rfl (lv_at hl 2 rfl) ?_
  refine lv_aload_n hx hb dL_law_1203 rfl (lv_at hl 1 rfl) ?_
  refine lv_iload hx hb dL_law_1204 (lv_at hl 0 rfl) ?_
  refine lv_iconst (v := (1 : Int32)) hx hb dL_law_1206 (by decide) ?_
  refine lv_iadd hx hb dL_law_1207 ?_
  obtain ⟨v1, ev1, hf⟩ := xb hf
  refine xr_sld hx hb hXs hbl hbA hS ev1 dL_law_1208 ?_
  refine lv_aload_n hx hb dL_law_1209 rfl (lv_at hl 4 rfl) ?_
  obtain ⟨v2, h1, ev2, hf⟩ := xb2 hf
  refine xc_SWi (rest := []) ⟨hx, hb, hml, hown, hts⟩ (m_L_shortDaysWith l htr B0 G fu h h1 x v1 o v2 ev2) (vx_cwSW 3 hts gL_law_L_shortDaysWith rfl rfl rfl (by decide +kernel) ⟨Nat.le_of_ble_eq_true rfl, Nat.le_of_ble_eq_true rfl⟩) hKK hZ hX hC hP hS rfl hl.1 rfl (Nat.le_of_ble_eq_true rfl) dL_law_1210 ⟨hcs1, hss1⟩ (fun H locs hP hS => ?_)
  refine lv_istore (lv' := [(5, .int v2), (4, .int i), (0, .ref b), (1, .ref x), (2, .ref mm), (3, .ref o)]) hx hb dL_law_1213 hl (by decide) rfl (fun ls hl => ?_)
  refine lv_aload_n hx hb dL_law_1215 rfl (lv_at hl 4 rfl) ?_
  refine lv_aload_n hx hb dL_law_1216 rfl (lv_at hl 2 rfl) ?_
  refine lv_iload hx hb dL_law_1217 (lv_at hl 1 rfl) ?_
  refine lv_iconst (v := (1 : Int32)) hx hb dL_law_1219 (by decide) ?_
  refine lv_iadd hx hb dL_law_1220 ?_
  obtain ⟨v3, ev3, hf⟩ := xb hf
  refine xr_sld hx hb hXs hbl hbA hS ev3 dL_law_1221 ?_
  obtain ⟨v4, ev4, hf⟩ := xb hf
  obtain ⟨v5, h2, ev5, hf⟩ := xb2 hf
  refine xc_Vi (rest := []) ⟨hx, hb, hml, hown, hts⟩ (m_X6_shortDaysWith l B0 G fu h1 h2 mm v3 v5 ev5) (cwV 1 hts gL_law_X6_shortDaysWith rfl rfl rfl (by decide +kernel) ⟨Nat.le_of_ble_eq_true rfl, Nat.le_of_ble_eq_true rfl⟩) hKK hP hS ev4 rfl rfl hl.1 rfl (Nat.le_of_ble_eq_true rfl) dL_law_1222 ⟨hcs1, hss1⟩ (fun H locs hP hS => ?_)
  refine lv_istore (lv' := [(6, .int v5), (5, .int v2), (4, .int i), (0, .ref b), (1, .ref x), (2, .ref mm), (3, .ref o)]) hx hb dL_law_1225 hl (by decide) rfl (fun ls hl => ?_)
  refine lv_aload_n hx hb dL_law_1227 rfl (lv_at hl 5 rfl) ?_
  obtain ⟨v6, ev6, hf⟩ := xb hf
  obtain ⟨v7, ev7, hf⟩ := xb1 hf
  refine xc_Vi (rest := []) ⟨hx, hb, hml, hown, hts⟩ (m_X6_thrown l B0 G h2 mm v7 ev7) (cwV 0 hts gL_law_X6_thrown rfl rfl rfl (by decide +kernel) ⟨Nat.le_of_ble_eq_true rfl, Nat.le_of_ble_eq_true rfl⟩) hKK hP hS ev6 rfl rfl hl.1 rfl (Nat.le_of_ble_eq_true rfl) dL_law_1228 ⟨hcs1, hss1⟩ (fun H locs hP hS => ?_)
  refine lv_iload hx hb dL_law_1231 (lv_at hl 1 rfl) ?_
  refine lv_icmp_eq (tgt := 1238) hx hb dL_law_1233 (by decide) (fun c1 => ?_) (fun c1 => ?_)
  · have hf := xif_t hf c1
    refine lv_iload hx hb dL_law_1238 (lv_at hl 1 rfl) ?_
    obtain ⟨k1, ek1, hf⟩ := xlk hf
    have J1 : k1 = some hE → ∀ (H : Heap) (locs : List Loc) (ls : Array Slot), xP B0 G h2 H → va_S (xA B0) s.heap H locs → lv_has ls 9 [(4, .int i), (0, .ref b), (1, .ref x), (2, .ref mm), (3, .ref o)] → W p l e room_1 s m #[Value.ref b] below meth c H locs (cells + 1) (slots + 6) Q (F0 m 1255 ls []) := by
      intro  hf H locs ls hP hS hl
      have hf := xk0 ek1 hf
      clear ek1
      refine lv_goto (tgt := 1535) hx hb dL_law_1255 (by decide) ?_
      obtain rfl := Option.some.inj hf
      refine W.widen (k := cells + 1) (n := slots + 6) (by omega) (by omega) ?_
      exact K _ _ _ hP hS (lv_sub hl [0, 1, 2, 3, 4] rfl)
    clear ek1
    refine lv_if_ne (tgt := 1255) hx hb dL_law_1240 (by decide) (fun c2 => ?_) (fun c2 => ?_)
    · have hf := xif_f hf c2
      exact J1  hf _ _ _ hP hS (lv_sub hl [2, 3, 4, 5, 6] rfl)
    · have hf := xif_t hf c2
      refine lv_aload_n hx hb dL_law_1243 rfl (lv_at hl 6 rfl) ?_
      refine lv_iconst (v := (0 : Int32)) hx hb dL_law_1244 (by decide) ?_
      obtain ⟨v8, ev8, hf⟩ := xb hf
      refine xr_lald hx hb hKK hP ev8 dL_law_1245 ?_
      refine lv_iload hx hb dL_law_1246 (lv_at hl 0 rfl) ?_
      refine lv_i2l hx hb dL_law_1248 rfl ?_
      refine xr_lcmp_eq (tgt := 1255) hx hb dL_law_1249 dL_law_1250 (by decide) (fun c3 => ?_) (fun c3 => ?_)
      · have hf := xif_t hf c3
        exact J1  hf _ _ _ hP hS (lv_sub hl [2, 3, 4, 5, 6] rfl)
      · have hf := xif_f hf c3
        refine lv_iconst (v := (0 : Int32)) hx hb dL_law_1253 (by decide) ?_
        cases hf
  · have hf := xif_f hf c1
    refine lv_iconst (v := (0 : Int32)) hx hb dL_law_1236 (by decide) ?_
    cases hf
/-- the law, call 18 -/
def lc_18 (fu L : Nat) (xs : Nat → Int32) (x mm o : Nat) (i : Int32) (h : XH) : Option XH :=
  (xsld L xs (i + (1 : Int32))).bind fun v1 =>
  obind2 (f_L_capacityFor fu h x v1 o) fun v2 h1 =>
  (xsld L xs (i + (1 : Int32))).bind fun v3 =>
  (xis h1 mm 6).bind fun v4 =>
  obind2 (f_X6_capacityFor fu h1 mm v3) fun v5 h2 =>
  (xis h2 mm 6).bind fun v6 =>
  obind1 (f_X6_thrown h2 mm) fun v7 =>
  if v7 = v2 then
    oletk (
      some h2
    ) fun k1 =>
    if v2 = (0 : Int32) then
      (xaldL h2 o (0 : Int32)).bind fun v8 =>
      if v8 = (Int32.toInt64 v5) then
        k1
      else
        none
    else
      k1
  else
    none
set_option maxHeartbeats 4000000 in
set_option maxRecDepth 100000 in
theorem lp_18 {p : Program} {l : Launch} {e : Env} {s : State} {m : MethodId} {below : List Frame} {meth : Method} {c : Code} {B0 : Nat} {G : XG} {b L : Nat} {xs : Nat → Int32} {Q : State → Prop} (C0 : xLC p l s m c B0 G b L xs) (fu x mm o : Nat) (i : Int32) (h hE : XH) (hf : lc_18 fu L xs x mm o i h = some hE) {cells slots : Nat} (hcs1 : cells + 1 ≤ 601024) (hss1 : slots + 6 ≤ 7293033)
    (K : ∀ (H : Heap) (locs : List Loc) (ls : Array Slot), xP B0 G hE H → va_S (xA B0) s.heap H locs → lv_has ls 9 [(4, .int i), (0, .ref b), (1, .ref x), (2, .ref mm), (3, .ref o)] → W p l e room_1 s m #[Value.ref b] below meth c H locs (cells + 1) (slots + 6) Q (F0 m 1535 ls [])) :
    ∀ (H : Heap) (locs : List Loc) (ls : Array Slot), xP B0 G h H → va_S (xA B0) s.heap H locs → lv_has ls 9 [(4, .int i), (0, .ref b), (1, .ref x), (2, .ref mm), (3, .ref o)] → W p l e room_1 s m #[Value.ref b] below meth c H locs (cells) (slots) Q (F0 m 1258 ls []) := by
  obtain ⟨hx, hb, hml, hown, hts, hXs, hbl, hbA, hKK, hZ, hX, hC, htr⟩ := C0
  intro H locs ls hP hS hl
  unfold lc_18 at hf
  refine lv_aload_n hx hb dL_law_1258 rfl (lv_at hl 2 rfl) ?_
  refine lv_aload_n hx hb dL_law_1259 rfl (lv_at hl 1 rfl) ?_
  refine lv_iload hx hb dL_law_1260 (lv_at hl 0 rfl) ?_
  refine lv_iconst (v := (1 : Int32)) hx hb dL_law_1262 (by decide) ?_
  refine lv_iadd hx hb dL_law_1263 ?_
  obtain ⟨v1, ev1, hf⟩ := xb hf
  refine xr_sld hx hb hXs hbl hbA hS ev1 dL_law_1264 ?_
  refine lv_aload_n hx hb dL_law_1265 rfl (lv_at hl 4 rfl) ?_
  obtain ⟨v2, h1, ev2, hf⟩ := xb2 hf
  refine xc_SWi (rest := []) ⟨hx, hb, hml, hown, hts⟩ (m_L_capacityFor l htr B0 G fu h h1 x v1 o v2 ev2) (vx_cwSW 3 hts gL_law_L_capacityFor rfl rfl rfl (by decide +kernel) ⟨Nat.le_of_ble_eq_true rfl, Nat.le_of_ble_eq_true rfl⟩) hKK hZ hX hC hP hS rfl hl.1 rfl (Nat.le_of_ble_eq_true rfl) dL_law_1266 ⟨hcs1, hss1⟩ (fun H locs hP hS => ?_)
  refine lv_istore (lv' := [(5, .int v2), (4, .int i), (0, .ref b), (1, .ref x), (2, .ref mm), (3, .ref o)]) hx hb dL_law_1269 hl (by decide) rfl (fun ls hl => ?_)
  refine lv_aload_n hx hb dL_law_1271 rfl (lv_at hl 4 rfl) ?_
  refine lv_aload_n hx hb dL_law_1272 rfl (lv_at hl 2 rfl) ?_
  refine lv_iload hx hb dL_law_1273 (lv_at hl 1 rfl) ?_
  refine lv_iconst (v := (1 : Int32)) hx hb dL_law_1275 (by decide) ?_
  refine lv_iadd hx hb dL_law_1276 ?_
  obtain ⟨v3, ev3, hf⟩ := xb hf
  refine xr_sld hx hb hXs hbl hbA hS ev3 dL_law_1277 ?_
  obtain ⟨v4, ev4, hf⟩ := xb hf
  obtain ⟨v5, h2, ev5, hf⟩ := xb2 hf
  refine xc_Vi (rest := []) ⟨hx, hb, hml, hown, hts⟩ (m_X6_capacityFor l B0 G fu h1 h2 mm v3 v5 ev5) (cwV 1 hts gL_law_X6_capacityFor rfl rfl rfl (by decide +kernel) ⟨Nat.le_of_ble_eq_true rfl, Nat.le_of_ble_eq_true rfl⟩) hKK hP hS ev4 rfl rfl hl.1 rfl (Nat.le_of_ble_eq_true rfl) dL_law_1278 ⟨hcs1, hss1⟩ (fun H locs hP hS => ?_)
  refine lv_istore (lv' := [(6, .int v5), (5, .int v2), (4, .int i), (0, .ref b), (1, .ref x), (2, .ref mm), (3, .ref o)]) hx hb dL_law_1281 hl (by decide) rfl (fun ls hl => ?_)
  refine lv_aload_n hx hb dL_law_1283 rfl (lv_at hl 5 rfl) ?_
  obtain ⟨v6, ev6, hf⟩ := xb hf
  obtain ⟨v7, ev7, hf⟩ := xb1 hf
  refine xc_Vi (rest := []) ⟨hx, hb, hml, hown, hts⟩ (m_X6_thrown l B0 G h2 mm v7 ev7) (cwV 0 hts gL_law_X6_thrown rfl rfl rfl (by decide +kernel) ⟨Nat.le_of_ble_eq_true rfl, Nat.le_of_ble_eq_true rfl⟩) hKK hP hS ev6 rfl rfl hl.1 rfl (Nat.le_of_ble_eq_true rfl) dL_law_1284 ⟨hcs1, hss1⟩ (fun H locs hP hS => ?_)
  refine lv_iload hx hb dL_law_1287 (lv_at hl 1 rfl) ?_
  refine lv_icmp_eq (tgt := 1294) hx hb dL_law_1289 (by decide) (fun c1 => ?_) (fun c1 => ?_)
  · have hf := xif_t hf c1
    refine lv_iload hx hb dL_law_1294 (lv_at hl 1 rfl) ?_
    obtain ⟨k1, ek1, hf⟩ := xlk hf
    have J1 : k1 = some hE → ∀ (H : Heap) (locs : List Loc) (ls : Array Slot), xP B0 G h2 H → va_S (xA B0) s.heap H locs → lv_has ls 9 [(4, .int i), (0, .ref b), (1, .ref x), (2, .ref mm), (3, .ref o)] → W p l e room_1 s m #[Value.ref b] below meth c H locs (cells + 1) (slots + 6) Q (F0 m 1311 ls []) := by
      intro  hf H locs ls hP hS hl
      have hf := xk0 ek1 hf
      clear ek1
      refine lv_goto (tgt := 1535) hx hb dL_law_1311 (by decide) ?_
      obtain rfl := Option.some.inj hf
      refine W.widen (k := cells + 1) (n := slots + 6) (by omega) (by omega) ?_
      exact K _ _ _ hP hS (lv_sub hl [0, 1, 2, 3, 4] rfl)
    clear ek1
    refine lv_if_ne (tgt := 1311) hx hb dL_law_1296 (by decide) (fun c2 => ?_) (fun c2 => ?_)
    · have hf := xif_f hf c2
      exact J1  hf _ _ _ hP hS (lv_sub hl [2, 3, 4, 5, 6] rfl)
    · have hf := xif_t hf c2
      refine lv_aload_n hx hb dL_law_1299 rfl (lv_at hl 6 rfl) ?_
      refine lv_iconst (v := (0 : Int32)) hx hb dL_law_1300 (by decide) ?_
      obtain ⟨v8, ev8, hf⟩ := xb hf
      refine xr_lald hx hb hKK hP ev8 dL_law_1301 ?_
      refine lv_iload hx hb dL_law_1302 (lv_at hl 0 rfl) ?_
      refine lv_i2l hx hb dL_law_1304 rfl ?_
      refine xr_lcmp_eq (tgt := 1311) hx hb dL_law_1305 dL_law_1306 (by decide) (fun c3 => ?_) (fun c3 => ?_)
      · have hf := xif_t hf c3
        exact J1  hf _ _ _ hP hS (lv_sub hl [2, 3, 4, 5, 6] rfl)
      · have hf := xif_f hf c3
        refine lv_iconst (v := (0 : Int32)) hx hb dL_law_1309 (by decide) ?_
        cases hf
  · have hf := xif_f hf c1
    refine lv_iconst (v := (0 : Int32)) hx hb dL_law_1292 (by decide) ?_
    cases hf
/-- the law, call 19 -/
def lc_19 (fu L : Nat) (xs : Nat → Int32) (x mm o : Nat) (i : Int32) (h : XH) : Option XH :=
  (xis h x 5).bind fun v1 =>
  obind2 (f_X5_bestRule fu h x) fun v2 h1 =>
  (xis h1 mm 6).bind fun v3 =>
  obind2 (f_X6_bestRule fu h1 mm) fun v4 h2 =>
  if v2 = v4 then
    some h2
  else
    none
set_option maxHeartbeats 4000000 in
set_option maxRecDepth 100000 in
theorem lp_19 {p : Program} {l : Launch} {e : Env} {s : State} {m : MethodId} {below : List Frame} {meth : Method} {c : Code} {B0 : Nat} {G : XG} {b L : Nat} {xs : Nat → Int32} {Q : State → Prop} (C0 : xLC p l s m c B0 G b L xs) (fu x mm o : Nat) (i : Int32) (h hE : XH) (hf : lc_19 fu L xs x mm o i h = some hE) {cells slots : Nat} (hcs1 : cells + 1 ≤ 601024) (hss1 : slots + 6 ≤ 7293033)
    (K : ∀ (H : Heap) (locs : List Loc) (ls : Array Slot), xP B0 G hE H → va_S (xA B0) s.heap H locs → lv_has ls 9 [(4, .int i), (0, .ref b), (1, .ref x), (2, .ref mm), (3, .ref o)] → W p l e room_1 s m #[Value.ref b] below meth c H locs (cells + 1) (slots + 6) Q (F0 m 1535 ls [])) :
    ∀ (H : Heap) (locs : List Loc) (ls : Array Slot), xP B0 G h H → va_S (xA B0) s.heap H locs → lv_has ls 9 [(4, .int i), (0, .ref b), (1, .ref x), (2, .ref mm), (3, .ref o)] → W p l e room_1 s m #[Value.ref b] below meth c H locs (cells) (slots) Q (F0 m 1314 ls []) := by
  obtain ⟨hx, hb, hml, hown, hts, hXs, hbl, hbA, hKK, hZ, hX, hC, htr⟩ := C0
  intro H locs ls hP hS hl
  unfold lc_19 at hf
  refine lv_aload_n hx hb dL_law_1314 rfl (lv_at hl 2 rfl) ?_
  obtain ⟨v1, ev1, hf⟩ := xb hf
  obtain ⟨v2, h1, ev2, hf⟩ := xb2 hf
  refine xc_Vi (rest := []) ⟨hx, hb, hml, hown, hts⟩ (m_X5_bestRule l B0 G fu h h1 x v2 ev2) (cwV 0 hts gL_law_X5_bestRule rfl rfl rfl (by decide +kernel) ⟨Nat.le_of_ble_eq_true rfl, Nat.le_of_ble_eq_true rfl⟩) hKK hP hS ev1 rfl rfl hl.1 rfl (Nat.le_of_ble_eq_true rfl) dL_law_1315 ⟨Nat.le_trans (Nat.le_add_right _ _) hcs1, Nat.le_trans (Nat.le_add_right _ _) hss1⟩ (fun H locs hP hS => ?_)
  refine lv_aload_n hx hb dL_law_1318 rfl (lv_at hl 3 rfl) ?_
  obtain ⟨v3, ev3, hf⟩ := xb hf
  obtain ⟨v4, h2, ev4, hf⟩ := xb2 hf
  refine xc_Vi (rest := [.int v2]) ⟨hx, hb, hml, hown, hts⟩ (m_X6_bestRule l B0 G fu h1 h2 mm v4 ev4) (cwV 0 hts gL_law_X6_bestRule rfl rfl rfl (by decide +kernel) ⟨Nat.le_of_ble_eq_true rfl, Nat.le_of_ble_eq_true rfl⟩) hKK hP hS ev3 rfl rfl hl.1 rfl (Nat.le_of_ble_eq_true rfl) dL_law_1319 ⟨Nat.le_trans (Nat.le_add_right _ _) hcs1, Nat.le_trans (Nat.le_add_right _ _) hss1⟩ (fun H locs hP hS => ?_)
  refine lv_icmp_eq (tgt := 1535) hx hb dL_law_1322 (by decide) (fun c1 => ?_) (fun c1 => ?_)
  · have hf := xif_t hf c1
    obtain rfl := Option.some.inj hf
    refine W.widen (k := cells + 1) (n := slots + 6) (by omega) (by omega) ?_
    exact K _ _ _ hP hS (lv_sub hl [0, 1, 2, 3, 4] rfl)
  · have hf := xif_f hf c1
    refine lv_iconst (v := (0 : Int32)) hx hb dL_law_1325 (by decide) ?_
    cases hf
/-- the law, call 20 -/
def lc_20 (fu L : Nat) (xs : Nat → Int32) (x mm o : Nat) (i : Int32) (h : XH) : Option XH :=
  (xis h x 5).bind fun v1 =>
  obind2 (f_X5_sustainable fu h x) fun v2 h1 =>
  (xis h1 mm 6).bind fun v3 =>
  obind2 (f_X6_sustainable fu h1 mm) fun v4 h2 =>
  if v2 = v4 then
    some h2
  else
    none
set_option maxHeartbeats 4000000 in
set_option maxRecDepth 100000 in
theorem lp_20 {p : Program} {l : Launch} {e : Env} {s : State} {m : MethodId} {below : List Frame} {meth : Method} {c : Code} {B0 : Nat} {G : XG} {b L : Nat} {xs : Nat → Int32} {Q : State → Prop} (C0 : xLC p l s m c B0 G b L xs) (fu x mm o : Nat) (i : Int32) (h hE : XH) (hf : lc_20 fu L xs x mm o i h = some hE) {cells slots : Nat} (hcs1 : cells + 1 ≤ 601024) (hss1 : slots + 6 ≤ 7293033)
    (K : ∀ (H : Heap) (locs : List Loc) (ls : Array Slot), xP B0 G hE H → va_S (xA B0) s.heap H locs → lv_has ls 9 [(4, .int i), (0, .ref b), (1, .ref x), (2, .ref mm), (3, .ref o)] → W p l e room_1 s m #[Value.ref b] below meth c H locs (cells + 1) (slots + 6) Q (F0 m 1535 ls [])) :
    ∀ (H : Heap) (locs : List Loc) (ls : Array Slot), xP B0 G h H → va_S (xA B0) s.heap H locs → lv_has ls 9 [(4, .int i), (0, .ref b), (1, .ref x), (2, .ref mm), (3, .ref o)] → W p l e room_1 s m #[Value.ref b] below meth c H locs (cells) (slots) Q (F0 m 1327 ls []) := by
  obtain ⟨hx, hb, hml, hown, hts, hXs, hbl, hbA, hKK, hZ, hX, hC, htr⟩ := C0
  intro H locs ls hP hS hl
  unfold lc_20 at hf
  refine lv_aload_n hx hb dL_law_1327 rfl (lv_at hl 2 rfl) ?_
  obtain ⟨v1, ev1, hf⟩ := xb hf
  obtain ⟨v2, h1, ev2, hf⟩ := xb2 hf
  refine xc_Vi (rest := []) ⟨hx, hb, hml, hown, hts⟩ (m_X5_sustainable l B0 G fu h h1 x v2 ev2) (cwV 0 hts gL_law_X5_sustainable rfl rfl rfl (by decide +kernel) ⟨Nat.le_of_ble_eq_true rfl, Nat.le_of_ble_eq_true rfl⟩) hKK hP hS ev1 rfl rfl hl.1 rfl (Nat.le_of_ble_eq_true rfl) dL_law_1328 ⟨Nat.le_trans (Nat.le_add_right _ _) hcs1, Nat.le_trans (Nat.le_add_right _ _) hss1⟩ (fun H locs hP hS => ?_)
  refine lv_aload_n hx hb dL_law_1331 rfl (lv_at hl 3 rfl) ?_
  obtain ⟨v3, ev3, hf⟩ := xb hf
  obtain ⟨v4, h2, ev4, hf⟩ := xb2 hf
  refine xc_Vi (rest := [.int v2]) ⟨hx, hb, hml, hown, hts⟩ (m_X6_sustainable l B0 G fu h1 h2 mm v4 ev4) (cwV 0 hts gL_law_X6_sustainable rfl rfl rfl (by decide +kernel) ⟨Nat.le_of_ble_eq_true rfl, Nat.le_of_ble_eq_true rfl⟩) hKK hP hS ev3 rfl rfl hl.1 rfl (Nat.le_of_ble_eq_true rfl) dL_law_1332 ⟨Nat.le_trans (Nat.le_add_right _ _) hcs1, Nat.le_trans (Nat.le_add_right _ _) hss1⟩ (fun H locs hP hS => ?_)
  refine lv_icmp_eq (tgt := 1535) hx hb dL_law_1335 (by decide) (fun c1 => ?_) (fun c1 => ?_)
  · have hf := xif_t hf c1
    obtain rfl := Option.some.inj hf
    refine W.widen (k := cells + 1) (n := slots + 6) (by omega) (by omega) ?_
    exact K _ _ _ hP hS (lv_sub hl [0, 1, 2, 3, 4] rfl)
  · have hf := xif_f hf c1
    refine lv_iconst (v := (0 : Int32)) hx hb dL_law_1338 (by decide) ?_
    cases hf
/-- the law, call 21 -/
def lc_21 (fu L : Nat) (xs : Nat → Int32) (x mm o : Nat) (i : Int32) (h : XH) : Option XH :=
  (xsld L xs (i + (1 : Int32))).bind fun v1 =>
  obind2 (f_L_gutterLoss fu h x v1 o) fun v2 h1 =>
  (xsld L xs (i + (1 : Int32))).bind fun v3 =>
  (xis h1 mm 6).bind fun v4 =>
  obind2 (f_X6_gutterLoss fu h1 mm v3) fun v5 h2 =>
  (xis h2 mm 6).bind fun v6 =>
  obind1 (f_X6_thrown h2 mm) fun v7 =>
  if v7 = v2 then
    oletk (
      some h2
    ) fun k1 =>
    if v2 = (0 : Int32) then
      (xaldL h2 o (0 : Int32)).bind fun v8 =>
      if v8 = v5 then
        k1
      else
        none
    else
      k1
  else
    none
set_option maxHeartbeats 4000000 in
set_option maxRecDepth 100000 in
theorem lp_21 {p : Program} {l : Launch} {e : Env} {s : State} {m : MethodId} {below : List Frame} {meth : Method} {c : Code} {B0 : Nat} {G : XG} {b L : Nat} {xs : Nat → Int32} {Q : State → Prop} (C0 : xLC p l s m c B0 G b L xs) (fu x mm o : Nat) (i : Int32) (h hE : XH) (hf : lc_21 fu L xs x mm o i h = some hE) {cells slots : Nat} (hcs1 : cells + 1 ≤ 601024) (hss1 : slots + 6 ≤ 7293033)
    (K : ∀ (H : Heap) (locs : List Loc) (ls : Array Slot), xP B0 G hE H → va_S (xA B0) s.heap H locs → lv_has ls 9 [(4, .int i), (0, .ref b), (1, .ref x), (2, .ref mm), (3, .ref o)] → W p l e room_1 s m #[Value.ref b] below meth c H locs (cells + 1) (slots + 6) Q (F0 m 1535 ls [])) :
    ∀ (H : Heap) (locs : List Loc) (ls : Array Slot), xP B0 G h H → va_S (xA B0) s.heap H locs → lv_has ls 9 [(4, .int i), (0, .ref b), (1, .ref x), (2, .ref mm), (3, .ref o)] → W p l e room_1 s m #[Value.ref b] below meth c H locs (cells) (slots) Q (F0 m 1340 ls []) := by
  obtain ⟨hx, hb, hml, hown, hts, hXs, hbl, hbA, hKK, hZ, hX, hC, htr⟩ := C0
  intro H locs ls hP hS hl
  unfold lc_21 at hf
  refine lv_aload_n hx hb dL_law_1340 rfl (lv_at hl 2 rfl) ?_
  refine lv_aload_n hx hb dL_law_1341 rfl (lv_at hl 1 rfl) ?_
  refine lv_iload hx hb dL_law_1342 (lv_at hl 0 rfl) ?_
  refine lv_iconst (v := (1 : Int32)) hx hb dL_law_1344 (by decide) ?_
  refine lv_iadd hx hb dL_law_1345 ?_
  obtain ⟨v1, ev1, hf⟩ := xb hf
  refine xr_sld hx hb hXs hbl hbA hS ev1 dL_law_1346 ?_
  refine lv_aload_n hx hb dL_law_1347 rfl (lv_at hl 4 rfl) ?_
  obtain ⟨v2, h1, ev2, hf⟩ := xb2 hf
  refine xc_SWi (rest := []) ⟨hx, hb, hml, hown, hts⟩ (m_L_gutterLoss l htr B0 G fu h h1 x v1 o v2 ev2) (vx_cwSW 3 hts gL_law_L_gutterLoss rfl rfl rfl (by decide +kernel) ⟨Nat.le_of_ble_eq_true rfl, Nat.le_of_ble_eq_true rfl⟩) hKK hZ hX hC hP hS rfl hl.1 rfl (Nat.le_of_ble_eq_true rfl) dL_law_1348 ⟨hcs1, hss1⟩ (fun H locs hP hS => ?_)
  refine lv_istore (lv' := [(5, .int v2), (4, .int i), (0, .ref b), (1, .ref x), (2, .ref mm), (3, .ref o)]) hx hb dL_law_1351 hl (by decide) rfl (fun ls hl => ?_)
  refine lv_aload_n hx hb dL_law_1353 rfl (lv_at hl 4 rfl) ?_
  refine lv_aload_n hx hb dL_law_1354 rfl (lv_at hl 2 rfl) ?_
  refine lv_iload hx hb dL_law_1355 (lv_at hl 1 rfl) ?_
  refine lv_iconst (v := (1 : Int32)) hx hb dL_law_1357 (by decide) ?_
  refine lv_iadd hx hb dL_law_1358 ?_
  obtain ⟨v3, ev3, hf⟩ := xb hf
  refine xr_sld hx hb hXs hbl hbA hS ev3 dL_law_1359 ?_
  obtain ⟨v4, ev4, hf⟩ := xb hf
  obtain ⟨v5, h2, ev5, hf⟩ := xb2 hf
  refine xc_Vl (rest := []) ⟨hx, hb, hml, hown, hts⟩ (m_X6_gutterLoss l B0 G fu h1 h2 mm v3 v5 ev5) (cwV 1 hts gL_law_X6_gutterLoss rfl rfl rfl (by decide +kernel) ⟨Nat.le_of_ble_eq_true rfl, Nat.le_of_ble_eq_true rfl⟩) hKK hP hS ev4 rfl rfl hl.1 rfl (Nat.le_of_ble_eq_true rfl) dL_law_1360 ⟨hcs1, hss1⟩ (fun H locs hP hS => ?_)
  refine lv_lstore (lv' := [(6, .long v5), (5, .int v2), (4, .int i), (0, .ref b), (1, .ref x), (2, .ref mm), (3, .ref o)]) hx hb dL_law_1363 hl (by decide) rfl (fun ls hl => ?_)
  refine lv_aload_n hx hb dL_law_1365 rfl (lv_at hl 5 rfl) ?_
  obtain ⟨v6, ev6, hf⟩ := xb hf
  obtain ⟨v7, ev7, hf⟩ := xb1 hf
  refine xc_Vi (rest := []) ⟨hx, hb, hml, hown, hts⟩ (m_X6_thrown l B0 G h2 mm v7 ev7) (cwV 0 hts gL_law_X6_thrown rfl rfl rfl (by decide +kernel) ⟨Nat.le_of_ble_eq_true rfl, Nat.le_of_ble_eq_true rfl⟩) hKK hP hS ev6 rfl rfl hl.1 rfl (Nat.le_of_ble_eq_true rfl) dL_law_1366 ⟨hcs1, hss1⟩ (fun H locs hP hS => ?_)
  refine lv_iload hx hb dL_law_1369 (lv_at hl 1 rfl) ?_
  refine lv_icmp_eq (tgt := 1376) hx hb dL_law_1371 (by decide) (fun c1 => ?_) (fun c1 => ?_)
  · have hf := xif_t hf c1
    refine lv_iload hx hb dL_law_1376 (lv_at hl 1 rfl) ?_
    obtain ⟨k1, ek1, hf⟩ := xlk hf
    have J1 : k1 = some hE → ∀ (H : Heap) (locs : List Loc) (ls : Array Slot), xP B0 G h2 H → va_S (xA B0) s.heap H locs → lv_has ls 9 [(4, .int i), (0, .ref b), (1, .ref x), (2, .ref mm), (3, .ref o)] → W p l e room_1 s m #[Value.ref b] below meth c H locs (cells + 1) (slots + 6) Q (F0 m 1392 ls []) := by
      intro  hf H locs ls hP hS hl
      have hf := xk0 ek1 hf
      clear ek1
      refine lv_goto (tgt := 1535) hx hb dL_law_1392 (by decide) ?_
      obtain rfl := Option.some.inj hf
      refine W.widen (k := cells + 1) (n := slots + 6) (by omega) (by omega) ?_
      exact K _ _ _ hP hS (lv_sub hl [0, 1, 2, 3, 4] rfl)
    clear ek1
    refine lv_if_ne (tgt := 1392) hx hb dL_law_1378 (by decide) (fun c2 => ?_) (fun c2 => ?_)
    · have hf := xif_f hf c2
      exact J1  hf _ _ _ hP hS (lv_sub hl [2, 3, 4, 5, 6] rfl)
    · have hf := xif_t hf c2
      refine lv_aload_n hx hb dL_law_1381 rfl (lv_at hl 6 rfl) ?_
      refine lv_iconst (v := (0 : Int32)) hx hb dL_law_1382 (by decide) ?_
      obtain ⟨v8, ev8, hf⟩ := xb hf
      refine xr_lald hx hb hKK hP ev8 dL_law_1383 ?_
      refine lv_lload hx hb dL_law_1384 (lv_at hl 0 rfl) ?_
      refine xr_lcmp_eq (tgt := 1392) hx hb dL_law_1386 dL_law_1387 (by decide) (fun c3 => ?_) (fun c3 => ?_)
      · have hf := xif_t hf c3
        exact J1  hf _ _ _ hP hS (lv_sub hl [2, 3, 4, 5, 6] rfl)
      · have hf := xif_f hf c3
        refine lv_iconst (v := (0 : Int32)) hx hb dL_law_1390 (by decide) ?_
        cases hf
  · have hf := xif_f hf c1
    refine lv_iconst (v := (0 : Int32)) hx hb dL_law_1374 (by decide) ?_
    cases hf
/-- the law, call 22 -/
def lc_22 (fu L : Nat) (xs : Nat → Int32) (x mm o : Nat) (i : Int32) (h : XH) : Option XH :=
  (xsld L xs (i + (1 : Int32))).bind fun v1 =>
  obind2 (f_L_append h x v1 o) fun v2 h1 =>
  (xsld L xs (i + (1 : Int32))).bind fun v3 =>
  (xis h1 mm 6).bind fun v4 =>
  obind2 (f_X6_append h1 mm v3) fun v5 h2 =>
  (xis h2 mm 6).bind fun v6 =>
  obind1 (f_X6_thrown h2 mm) fun v7 =>
  if v7 = v2 then
    oletk (
      some h2
    ) fun k1 =>
    if v2 = (0 : Int32) then
      (xaldL h2 o (0 : Int32)).bind fun v8 =>
      if v8 = (Int32.toInt64 v5) then
        k1
      else
        none
    else
      k1
  else
    none
set_option maxHeartbeats 4000000 in
set_option maxRecDepth 100000 in
theorem lp_22 {p : Program} {l : Launch} {e : Env} {s : State} {m : MethodId} {below : List Frame} {meth : Method} {c : Code} {B0 : Nat} {G : XG} {b L : Nat} {xs : Nat → Int32} {Q : State → Prop} (C0 : xLC p l s m c B0 G b L xs) (fu x mm o : Nat) (i : Int32) (h hE : XH) (hf : lc_22 fu L xs x mm o i h = some hE) {cells slots : Nat} (hcs1 : cells + 1 ≤ 601024) (hss1 : slots + 6 ≤ 7293033)
    (K : ∀ (H : Heap) (locs : List Loc) (ls : Array Slot), xP B0 G hE H → va_S (xA B0) s.heap H locs → lv_has ls 9 [(4, .int i), (0, .ref b), (1, .ref x), (2, .ref mm), (3, .ref o)] → W p l e room_1 s m #[Value.ref b] below meth c H locs (cells + 1) (slots + 6) Q (F0 m 1535 ls [])) :
    ∀ (H : Heap) (locs : List Loc) (ls : Array Slot), xP B0 G h H → va_S (xA B0) s.heap H locs → lv_has ls 9 [(4, .int i), (0, .ref b), (1, .ref x), (2, .ref mm), (3, .ref o)] → W p l e room_1 s m #[Value.ref b] below meth c H locs (cells) (slots) Q (F0 m 1395 ls []) := by
  obtain ⟨hx, hb, hml, hown, hts, hXs, hbl, hbA, hKK, hZ, hX, hC, htr⟩ := C0
  intro H locs ls hP hS hl
  unfold lc_22 at hf
  refine lv_aload_n hx hb dL_law_1395 rfl (lv_at hl 2 rfl) ?_
  refine lv_aload_n hx hb dL_law_1396 rfl (lv_at hl 1 rfl) ?_
  refine lv_iload hx hb dL_law_1397 (lv_at hl 0 rfl) ?_
  refine lv_iconst (v := (1 : Int32)) hx hb dL_law_1399 (by decide) ?_
  refine lv_iadd hx hb dL_law_1400 ?_
  obtain ⟨v1, ev1, hf⟩ := xb hf
  refine xr_sld hx hb hXs hbl hbA hS ev1 dL_law_1401 ?_
  refine lv_aload_n hx hb dL_law_1402 rfl (lv_at hl 4 rfl) ?_
  obtain ⟨v2, h1, ev2, hf⟩ := xb2 hf
  refine xc_SWi (rest := []) ⟨hx, hb, hml, hown, hts⟩ (m_L_append l htr B0 G h h1 x v1 o v2 ev2) (vx_cwSW 3 hts gL_law_L_append rfl rfl rfl (by decide +kernel) ⟨Nat.le_of_ble_eq_true rfl, Nat.le_of_ble_eq_true rfl⟩) hKK hZ hX hC hP hS rfl hl.1 rfl (Nat.le_of_ble_eq_true rfl) dL_law_1403 ⟨hcs1, hss1⟩ (fun H locs hP hS => ?_)
  refine lv_istore (lv' := [(5, .int v2), (4, .int i), (0, .ref b), (1, .ref x), (2, .ref mm), (3, .ref o)]) hx hb dL_law_1406 hl (by decide) rfl (fun ls hl => ?_)
  refine lv_aload_n hx hb dL_law_1408 rfl (lv_at hl 4 rfl) ?_
  refine lv_aload_n hx hb dL_law_1409 rfl (lv_at hl 2 rfl) ?_
  refine lv_iload hx hb dL_law_1410 (lv_at hl 1 rfl) ?_
  refine lv_iconst (v := (1 : Int32)) hx hb dL_law_1412 (by decide) ?_
  refine lv_iadd hx hb dL_law_1413 ?_
  obtain ⟨v3, ev3, hf⟩ := xb hf
  refine xr_sld hx hb hXs hbl hbA hS ev3 dL_law_1414 ?_
  obtain ⟨v4, ev4, hf⟩ := xb hf
  obtain ⟨v5, h2, ev5, hf⟩ := xb2 hf
  refine xc_Vi (rest := []) ⟨hx, hb, hml, hown, hts⟩ (m_X6_append l B0 G h1 h2 mm v3 v5 ev5) (cwV 1 hts gL_law_X6_append rfl rfl rfl (by decide +kernel) ⟨Nat.le_of_ble_eq_true rfl, Nat.le_of_ble_eq_true rfl⟩) hKK hP hS ev4 rfl rfl hl.1 rfl (Nat.le_of_ble_eq_true rfl) dL_law_1415 ⟨hcs1, hss1⟩ (fun H locs hP hS => ?_)
  refine lv_istore (lv' := [(6, .int v5), (5, .int v2), (4, .int i), (0, .ref b), (1, .ref x), (2, .ref mm), (3, .ref o)]) hx hb dL_law_1418 hl (by decide) rfl (fun ls hl => ?_)
  refine lv_aload_n hx hb dL_law_1420 rfl (lv_at hl 5 rfl) ?_
  obtain ⟨v6, ev6, hf⟩ := xb hf
  obtain ⟨v7, ev7, hf⟩ := xb1 hf
  refine xc_Vi (rest := []) ⟨hx, hb, hml, hown, hts⟩ (m_X6_thrown l B0 G h2 mm v7 ev7) (cwV 0 hts gL_law_X6_thrown rfl rfl rfl (by decide +kernel) ⟨Nat.le_of_ble_eq_true rfl, Nat.le_of_ble_eq_true rfl⟩) hKK hP hS ev6 rfl rfl hl.1 rfl (Nat.le_of_ble_eq_true rfl) dL_law_1421 ⟨hcs1, hss1⟩ (fun H locs hP hS => ?_)
  refine lv_iload hx hb dL_law_1424 (lv_at hl 1 rfl) ?_
  refine lv_icmp_eq (tgt := 1431) hx hb dL_law_1426 (by decide) (fun c1 => ?_) (fun c1 => ?_)
  · have hf := xif_t hf c1
    refine lv_iload hx hb dL_law_1431 (lv_at hl 1 rfl) ?_
    obtain ⟨k1, ek1, hf⟩ := xlk hf
    have J1 : k1 = some hE → ∀ (H : Heap) (locs : List Loc) (ls : Array Slot), xP B0 G h2 H → va_S (xA B0) s.heap H locs → lv_has ls 9 [(4, .int i), (0, .ref b), (1, .ref x), (2, .ref mm), (3, .ref o)] → W p l e room_1 s m #[Value.ref b] below meth c H locs (cells + 1) (slots + 6) Q (F0 m 1448 ls []) := by
      intro  hf H locs ls hP hS hl
      have hf := xk0 ek1 hf
      clear ek1
      refine lv_goto (tgt := 1535) hx hb dL_law_1448 (by decide) ?_
      obtain rfl := Option.some.inj hf
      refine W.widen (k := cells + 1) (n := slots + 6) (by omega) (by omega) ?_
      exact K _ _ _ hP hS (lv_sub hl [0, 1, 2, 3, 4] rfl)
    clear ek1
    refine lv_if_ne (tgt := 1448) hx hb dL_law_1433 (by decide) (fun c2 => ?_) (fun c2 => ?_)
    · have hf := xif_f hf c2
      exact J1  hf _ _ _ hP hS (lv_sub hl [2, 3, 4, 5, 6] rfl)
    · have hf := xif_t hf c2
      refine lv_aload_n hx hb dL_law_1436 rfl (lv_at hl 6 rfl) ?_
      refine lv_iconst (v := (0 : Int32)) hx hb dL_law_1437 (by decide) ?_
      obtain ⟨v8, ev8, hf⟩ := xb hf
      refine xr_lald hx hb hKK hP ev8 dL_law_1438 ?_
      refine lv_iload hx hb dL_law_1439 (lv_at hl 0 rfl) ?_
      refine lv_i2l hx hb dL_law_1441 rfl ?_
      refine xr_lcmp_eq (tgt := 1448) hx hb dL_law_1442 dL_law_1443 (by decide) (fun c3 => ?_) (fun c3 => ?_)
      · have hf := xif_t hf c3
        exact J1  hf _ _ _ hP hS (lv_sub hl [2, 3, 4, 5, 6] rfl)
      · have hf := xif_f hf c3
        refine lv_iconst (v := (0 : Int32)) hx hb dL_law_1446 (by decide) ?_
        cases hf
  · have hf := xif_f hf c1
    refine lv_iconst (v := (0 : Int32)) hx hb dL_law_1429 (by decide) ?_
    cases hf
/-- the law, call 23 -/
def lc_23 (fu L : Nat) (xs : Nat → Int32) (x mm o : Nat) (i : Int32) (h : XH) : Option XH :=
  (xis h x 5).bind fun v1 =>
  obind2 (f_X5_clearText h x) fun v2 h1 =>
  (xis h1 mm 6).bind fun v3 =>
  obind2 (f_X6_clearText h1 mm) fun v4 h2 =>
  if v2 = v4 then
    some h2
  else
    none
set_option maxHeartbeats 4000000 in
set_option maxRecDepth 100000 in
theorem lp_23 {p : Program} {l : Launch} {e : Env} {s : State} {m : MethodId} {below : List Frame} {meth : Method} {c : Code} {B0 : Nat} {G : XG} {b L : Nat} {xs : Nat → Int32} {Q : State → Prop} (C0 : xLC p l s m c B0 G b L xs) (fu x mm o : Nat) (i : Int32) (h hE : XH) (hf : lc_23 fu L xs x mm o i h = some hE) {cells slots : Nat} (hcs1 : cells + 1 ≤ 601024) (hss1 : slots + 6 ≤ 7293033)
    (K : ∀ (H : Heap) (locs : List Loc) (ls : Array Slot), xP B0 G hE H → va_S (xA B0) s.heap H locs → lv_has ls 9 [(4, .int i), (0, .ref b), (1, .ref x), (2, .ref mm), (3, .ref o)] → W p l e room_1 s m #[Value.ref b] below meth c H locs (cells + 1) (slots + 6) Q (F0 m 1535 ls [])) :
    ∀ (H : Heap) (locs : List Loc) (ls : Array Slot), xP B0 G h H → va_S (xA B0) s.heap H locs → lv_has ls 9 [(4, .int i), (0, .ref b), (1, .ref x), (2, .ref mm), (3, .ref o)] → W p l e room_1 s m #[Value.ref b] below meth c H locs (cells) (slots) Q (F0 m 1451 ls []) := by
  obtain ⟨hx, hb, hml, hown, hts, hXs, hbl, hbA, hKK, hZ, hX, hC, htr⟩ := C0
  intro H locs ls hP hS hl
  unfold lc_23 at hf
  refine lv_aload_n hx hb dL_law_1451 rfl (lv_at hl 2 rfl) ?_
  obtain ⟨v1, ev1, hf⟩ := xb hf
  obtain ⟨v2, h1, ev2, hf⟩ := xb2 hf
  refine xc_Vi (rest := []) ⟨hx, hb, hml, hown, hts⟩ (m_X5_clearText l B0 G h h1 x v2 ev2) (cwV 0 hts gL_law_X5_clearText rfl rfl rfl (by decide +kernel) ⟨Nat.le_of_ble_eq_true rfl, Nat.le_of_ble_eq_true rfl⟩) hKK hP hS ev1 rfl rfl hl.1 rfl (Nat.le_of_ble_eq_true rfl) dL_law_1452 ⟨Nat.le_trans (Nat.le_add_right _ _) hcs1, Nat.le_trans (Nat.le_add_right _ _) hss1⟩ (fun H locs hP hS => ?_)
  refine lv_aload_n hx hb dL_law_1455 rfl (lv_at hl 3 rfl) ?_
  obtain ⟨v3, ev3, hf⟩ := xb hf
  obtain ⟨v4, h2, ev4, hf⟩ := xb2 hf
  refine xc_Vi (rest := [.int v2]) ⟨hx, hb, hml, hown, hts⟩ (m_X6_clearText l B0 G h1 h2 mm v4 ev4) (cwV 0 hts gL_law_X6_clearText rfl rfl rfl (by decide +kernel) ⟨Nat.le_of_ble_eq_true rfl, Nat.le_of_ble_eq_true rfl⟩) hKK hP hS ev3 rfl rfl hl.1 rfl (Nat.le_of_ble_eq_true rfl) dL_law_1456 ⟨Nat.le_trans (Nat.le_add_right _ _) hcs1, Nat.le_trans (Nat.le_add_right _ _) hss1⟩ (fun H locs hP hS => ?_)
  refine lv_icmp_eq (tgt := 1535) hx hb dL_law_1459 (by decide) (fun c1 => ?_) (fun c1 => ?_)
  · have hf := xif_t hf c1
    obtain rfl := Option.some.inj hf
    refine W.widen (k := cells + 1) (n := slots + 6) (by omega) (by omega) ?_
    exact K _ _ _ hP hS (lv_sub hl [0, 1, 2, 3, 4] rfl)
  · have hf := xif_f hf c1
    refine lv_iconst (v := (0 : Int32)) hx hb dL_law_1462 (by decide) ?_
    cases hf
/-- the law, call 24 -/
def lc_24 (fu L : Nat) (xs : Nat → Int32) (x mm o : Nat) (i : Int32) (h : XH) : Option XH :=
  (xis h x 5).bind fun v1 =>
  obind2 (f_X5_parse fu h x) fun v2 h1 =>
  (xis h1 mm 6).bind fun v3 =>
  obind2 (f_X6_parse fu h1 mm) fun v4 h2 =>
  if v2 = v4 then
    some h2
  else
    none
set_option maxHeartbeats 4000000 in
set_option maxRecDepth 100000 in
theorem lp_24 {p : Program} {l : Launch} {e : Env} {s : State} {m : MethodId} {below : List Frame} {meth : Method} {c : Code} {B0 : Nat} {G : XG} {b L : Nat} {xs : Nat → Int32} {Q : State → Prop} (C0 : xLC p l s m c B0 G b L xs) (fu x mm o : Nat) (i : Int32) (h hE : XH) (hf : lc_24 fu L xs x mm o i h = some hE) {cells slots : Nat} (hcs1 : cells + 1 ≤ 601024) (hss1 : slots + 6 ≤ 7293033)
    (K : ∀ (H : Heap) (locs : List Loc) (ls : Array Slot), xP B0 G hE H → va_S (xA B0) s.heap H locs → lv_has ls 9 [(4, .int i), (0, .ref b), (1, .ref x), (2, .ref mm), (3, .ref o)] → W p l e room_1 s m #[Value.ref b] below meth c H locs (cells + 1) (slots + 6) Q (F0 m 1535 ls [])) :
    ∀ (H : Heap) (locs : List Loc) (ls : Array Slot), xP B0 G h H → va_S (xA B0) s.heap H locs → lv_has ls 9 [(4, .int i), (0, .ref b), (1, .ref x), (2, .ref mm), (3, .ref o)] → W p l e room_1 s m #[Value.ref b] below meth c H locs (cells) (slots) Q (F0 m 1464 ls []) := by
  obtain ⟨hx, hb, hml, hown, hts, hXs, hbl, hbA, hKK, hZ, hX, hC, htr⟩ := C0
  intro H locs ls hP hS hl
  unfold lc_24 at hf
  refine lv_aload_n hx hb dL_law_1464 rfl (lv_at hl 2 rfl) ?_
  obtain ⟨v1, ev1, hf⟩ := xb hf
  obtain ⟨v2, h1, ev2, hf⟩ := xb2 hf
  refine xc_Vi (rest := []) ⟨hx, hb, hml, hown, hts⟩ (m_X5_parse l B0 G fu h h1 x v2 ev2) (cwV 0 hts gL_law_X5_parse rfl rfl rfl (by decide +kernel) ⟨Nat.le_of_ble_eq_true rfl, Nat.le_of_ble_eq_true rfl⟩) hKK hP hS ev1 rfl rfl hl.1 rfl (Nat.le_of_ble_eq_true rfl) dL_law_1465 ⟨Nat.le_trans (Nat.le_add_right _ _) hcs1, Nat.le_trans (Nat.le_add_right _ _) hss1⟩ (fun H locs hP hS => ?_)
  refine lv_aload_n hx hb dL_law_1468 rfl (lv_at hl 3 rfl) ?_
  obtain ⟨v3, ev3, hf⟩ := xb hf
  obtain ⟨v4, h2, ev4, hf⟩ := xb2 hf
  refine xc_Vi (rest := [.int v2]) ⟨hx, hb, hml, hown, hts⟩ (m_X6_parse l B0 G fu h1 h2 mm v4 ev4) (cwV 0 hts gL_law_X6_parse rfl rfl rfl (by decide +kernel) ⟨Nat.le_of_ble_eq_true rfl, Nat.le_of_ble_eq_true rfl⟩) hKK hP hS ev3 rfl rfl hl.1 rfl (Nat.le_of_ble_eq_true rfl) dL_law_1469 ⟨Nat.le_trans (Nat.le_add_right _ _) hcs1, Nat.le_trans (Nat.le_add_right _ _) hss1⟩ (fun H locs hP hS => ?_)
  refine lv_icmp_eq (tgt := 1535) hx hb dL_law_1472 (by decide) (fun c1 => ?_) (fun c1 => ?_)
  · have hf := xif_t hf c1
    obtain rfl := Option.some.inj hf
    refine W.widen (k := cells + 1) (n := slots + 6) (by omega) (by omega) ?_
    exact K _ _ _ hP hS (lv_sub hl [0, 1, 2, 3, 4] rfl)
  · have hf := xif_f hf c1
    refine lv_iconst (v := (0 : Int32)) hx hb dL_law_1475 (by decide) ?_
    cases hf
/-- the law, call 25 -/
def lc_25 (fu L : Nat) (xs : Nat → Int32) (x mm o : Nat) (i : Int32) (h : XH) : Option XH :=
  obind2 (f_L_undo fu h x o) fun v1 h1 =>
  (xis h1 mm 6).bind fun v2 =>
  obind2 (f_X6_undo fu h1 mm) fun v3 h2 =>
  (xis h2 mm 6).bind fun v4 =>
  obind1 (f_X6_thrown h2 mm) fun v5 =>
  if v5 = v1 then
    oletk (
      some h2
    ) fun k1 =>
    if v1 = (0 : Int32) then
      (xaldL h2 o (0 : Int32)).bind fun v6 =>
      if v6 = (Int32.toInt64 v3) then
        k1
      else
        none
    else
      k1
  else
    none
set_option maxHeartbeats 4000000 in
set_option maxRecDepth 100000 in
theorem lp_25 {p : Program} {l : Launch} {e : Env} {s : State} {m : MethodId} {below : List Frame} {meth : Method} {c : Code} {B0 : Nat} {G : XG} {b L : Nat} {xs : Nat → Int32} {Q : State → Prop} (C0 : xLC p l s m c B0 G b L xs) (fu x mm o : Nat) (i : Int32) (h hE : XH) (hf : lc_25 fu L xs x mm o i h = some hE) {cells slots : Nat} (hcs1 : cells + 1 ≤ 601024) (hss1 : slots + 6 ≤ 7293033)
    (K : ∀ (H : Heap) (locs : List Loc) (ls : Array Slot), xP B0 G hE H → va_S (xA B0) s.heap H locs → lv_has ls 9 [(4, .int i), (0, .ref b), (1, .ref x), (2, .ref mm), (3, .ref o)] → W p l e room_1 s m #[Value.ref b] below meth c H locs (cells + 1) (slots + 6) Q (F0 m 1535 ls [])) :
    ∀ (H : Heap) (locs : List Loc) (ls : Array Slot), xP B0 G h H → va_S (xA B0) s.heap H locs → lv_has ls 9 [(4, .int i), (0, .ref b), (1, .ref x), (2, .ref mm), (3, .ref o)] → W p l e room_1 s m #[Value.ref b] below meth c H locs (cells) (slots) Q (F0 m 1477 ls []) := by
  obtain ⟨hx, hb, hml, hown, hts, hXs, hbl, hbA, hKK, hZ, hX, hC, htr⟩ := C0
  intro H locs ls hP hS hl
  unfold lc_25 at hf
  refine lv_aload_n hx hb dL_law_1477 rfl (lv_at hl 2 rfl) ?_
  refine lv_aload_n hx hb dL_law_1478 rfl (lv_at hl 4 rfl) ?_
  obtain ⟨v1, h1, ev1, hf⟩ := xb2 hf
  refine xc_SWi (rest := []) ⟨hx, hb, hml, hown, hts⟩ (m_L_undo l htr B0 G fu h h1 x o v1 ev1) (vx_cwSW 2 hts gL_law_L_undo rfl rfl rfl (by decide +kernel) ⟨Nat.le_of_ble_eq_true rfl, Nat.le_of_ble_eq_true rfl⟩) hKK hZ hX hC hP hS rfl hl.1 rfl (Nat.le_of_ble_eq_true rfl) dL_law_1479 ⟨hcs1, hss1⟩ (fun H locs hP hS => ?_)
  refine lv_istore (lv' := [(5, .int v1), (4, .int i), (0, .ref b), (1, .ref x), (2, .ref mm), (3, .ref o)]) hx hb dL_law_1482 hl (by decide) rfl (fun ls hl => ?_)
  refine lv_aload_n hx hb dL_law_1484 rfl (lv_at hl 4 rfl) ?_
  obtain ⟨v2, ev2, hf⟩ := xb hf
  obtain ⟨v3, h2, ev3, hf⟩ := xb2 hf
  refine xc_Vi (rest := []) ⟨hx, hb, hml, hown, hts⟩ (m_X6_undo l B0 G fu h1 h2 mm v3 ev3) (cwV 0 hts gL_law_X6_undo rfl rfl rfl (by decide +kernel) ⟨Nat.le_of_ble_eq_true rfl, Nat.le_of_ble_eq_true rfl⟩) hKK hP hS ev2 rfl rfl hl.1 rfl (Nat.le_of_ble_eq_true rfl) dL_law_1485 ⟨hcs1, hss1⟩ (fun H locs hP hS => ?_)
  refine lv_istore (lv' := [(6, .int v3), (5, .int v1), (4, .int i), (0, .ref b), (1, .ref x), (2, .ref mm), (3, .ref o)]) hx hb dL_law_1488 hl (by decide) rfl (fun ls hl => ?_)
  refine lv_aload_n hx hb dL_law_1490 rfl (lv_at hl 5 rfl) ?_
  obtain ⟨v4, ev4, hf⟩ := xb hf
  obtain ⟨v5, ev5, hf⟩ := xb1 hf
  refine xc_Vi (rest := []) ⟨hx, hb, hml, hown, hts⟩ (m_X6_thrown l B0 G h2 mm v5 ev5) (cwV 0 hts gL_law_X6_thrown rfl rfl rfl (by decide +kernel) ⟨Nat.le_of_ble_eq_true rfl, Nat.le_of_ble_eq_true rfl⟩) hKK hP hS ev4 rfl rfl hl.1 rfl (Nat.le_of_ble_eq_true rfl) dL_law_1491 ⟨hcs1, hss1⟩ (fun H locs hP hS => ?_)
  refine lv_iload hx hb dL_law_1494 (lv_at hl 1 rfl) ?_
  refine lv_icmp_eq (tgt := 1501) hx hb dL_law_1496 (by decide) (fun c1 => ?_) (fun c1 => ?_)
  · have hf := xif_t hf c1
    refine lv_iload hx hb dL_law_1501 (lv_at hl 1 rfl) ?_
    obtain ⟨k1, ek1, hf⟩ := xlk hf
    have J1 : k1 = some hE → ∀ (H : Heap) (locs : List Loc) (ls : Array Slot), xP B0 G h2 H → va_S (xA B0) s.heap H locs → lv_has ls 9 [(4, .int i), (0, .ref b), (1, .ref x), (2, .ref mm), (3, .ref o)] → W p l e room_1 s m #[Value.ref b] below meth c H locs (cells + 1) (slots + 6) Q (F0 m 1518 ls []) := by
      intro  hf H locs ls hP hS hl
      have hf := xk0 ek1 hf
      clear ek1
      refine lv_goto (tgt := 1535) hx hb dL_law_1518 (by decide) ?_
      obtain rfl := Option.some.inj hf
      refine W.widen (k := cells + 1) (n := slots + 6) (by omega) (by omega) ?_
      exact K _ _ _ hP hS (lv_sub hl [0, 1, 2, 3, 4] rfl)
    clear ek1
    refine lv_if_ne (tgt := 1518) hx hb dL_law_1503 (by decide) (fun c2 => ?_) (fun c2 => ?_)
    · have hf := xif_f hf c2
      exact J1  hf _ _ _ hP hS (lv_sub hl [2, 3, 4, 5, 6] rfl)
    · have hf := xif_t hf c2
      refine lv_aload_n hx hb dL_law_1506 rfl (lv_at hl 6 rfl) ?_
      refine lv_iconst (v := (0 : Int32)) hx hb dL_law_1507 (by decide) ?_
      obtain ⟨v6, ev6, hf⟩ := xb hf
      refine xr_lald hx hb hKK hP ev6 dL_law_1508 ?_
      refine lv_iload hx hb dL_law_1509 (lv_at hl 0 rfl) ?_
      refine lv_i2l hx hb dL_law_1511 rfl ?_
      refine xr_lcmp_eq (tgt := 1518) hx hb dL_law_1512 dL_law_1513 (by decide) (fun c3 => ?_) (fun c3 => ?_)
      · have hf := xif_t hf c3
        exact J1  hf _ _ _ hP hS (lv_sub hl [2, 3, 4, 5, 6] rfl)
      · have hf := xif_f hf c3
        refine lv_iconst (v := (0 : Int32)) hx hb dL_law_1516 (by decide) ?_
        cases hf
  · have hf := xif_f hf c1
    refine lv_iconst (v := (0 : Int32)) hx hb dL_law_1499 (by decide) ?_
    cases hf
/-- the law, call 26 -/
def lc_26 (fu L : Nat) (xs : Nat → Int32) (x mm o : Nat) (i : Int32) (h : XH) : Option XH :=
  (xis h x 5).bind fun v1 =>
  obind1 (f_X5_digest fu h x) fun v2 =>
  (xis h mm 6).bind fun v3 =>
  obind2 (f_X6_digest fu h mm) fun v4 h1 =>
  if v2 = v4 then
    some h1
  else
    none
set_option maxHeartbeats 4000000 in
set_option maxRecDepth 100000 in
theorem lp_26 {p : Program} {l : Launch} {e : Env} {s : State} {m : MethodId} {below : List Frame} {meth : Method} {c : Code} {B0 : Nat} {G : XG} {b L : Nat} {xs : Nat → Int32} {Q : State → Prop} (C0 : xLC p l s m c B0 G b L xs) (fu x mm o : Nat) (i : Int32) (h hE : XH) (hf : lc_26 fu L xs x mm o i h = some hE) {cells slots : Nat} (hcs1 : cells + 1 ≤ 601024) (hss1 : slots + 6 ≤ 7293033)
    (K : ∀ (H : Heap) (locs : List Loc) (ls : Array Slot), xP B0 G hE H → va_S (xA B0) s.heap H locs → lv_has ls 9 [(4, .int i), (0, .ref b), (1, .ref x), (2, .ref mm), (3, .ref o)] → W p l e room_1 s m #[Value.ref b] below meth c H locs (cells + 1) (slots + 6) Q (F0 m 1535 ls [])) :
    ∀ (H : Heap) (locs : List Loc) (ls : Array Slot), xP B0 G h H → va_S (xA B0) s.heap H locs → lv_has ls 9 [(4, .int i), (0, .ref b), (1, .ref x), (2, .ref mm), (3, .ref o)] → W p l e room_1 s m #[Value.ref b] below meth c H locs (cells) (slots) Q (F0 m 1521 ls []) := by
  obtain ⟨hx, hb, hml, hown, hts, hXs, hbl, hbA, hKK, hZ, hX, hC, htr⟩ := C0
  intro H locs ls hP hS hl
  unfold lc_26 at hf
  refine lv_aload_n hx hb dL_law_1521 rfl (lv_at hl 2 rfl) ?_
  obtain ⟨v1, ev1, hf⟩ := xb hf
  obtain ⟨v2, ev2, hf⟩ := xb1 hf
  refine xc_Vl (rest := []) ⟨hx, hb, hml, hown, hts⟩ (m_X5_digest l B0 G fu h x v2 ev2) (cwV 0 hts gL_law_X5_digest rfl rfl rfl (by decide +kernel) ⟨Nat.le_of_ble_eq_true rfl, Nat.le_of_ble_eq_true rfl⟩) hKK hP hS ev1 rfl rfl hl.1 rfl (Nat.le_of_ble_eq_true rfl) dL_law_1522 ⟨Nat.le_trans (Nat.le_add_right _ _) hcs1, Nat.le_trans (Nat.le_add_right _ _) hss1⟩ (fun H locs hP hS => ?_)
  refine lv_aload_n hx hb dL_law_1525 rfl (lv_at hl 3 rfl) ?_
  obtain ⟨v3, ev3, hf⟩ := xb hf
  obtain ⟨v4, h1, ev4, hf⟩ := xb2 hf
  refine xc_Vl (rest := [.long v2]) ⟨hx, hb, hml, hown, hts⟩ (m_X6_digest l B0 G fu h h1 mm v4 ev4) (cwV 0 hts gL_law_X6_digest rfl rfl rfl (by decide +kernel) ⟨Nat.le_of_ble_eq_true rfl, Nat.le_of_ble_eq_true rfl⟩) hKK hP hS ev3 rfl rfl hl.1 rfl (Nat.le_of_ble_eq_true rfl) dL_law_1526 ⟨Nat.le_trans (Nat.le_add_right _ _) hcs1, Nat.le_trans (Nat.le_add_right _ _) hss1⟩ (fun H locs hP hS => ?_)
  refine xr_lcmp_eq (tgt := 1535) hx hb dL_law_1529 dL_law_1530 (by decide) (fun c1 => ?_) (fun c1 => ?_)
  · have hf := xif_t hf c1
    obtain rfl := Option.some.inj hf
    refine W.widen (k := cells + 1) (n := slots + 6) (by omega) (by omega) ?_
    exact K _ _ _ hP hS (lv_sub hl [0, 1, 2, 3, 4] rfl)
  · have hf := xif_f hf c1
    refine lv_iconst (v := (0 : Int32)) hx hb dL_law_1533 (by decide) ?_
    cases hf
