/-! Bodies that throw: the class's own exceptions, with their texts. -/
def xinl {α : Type} (o : Option (α ⊕ Nat)) : Option α := match o with
  | some (.inl v) => some v
  | _ => none
theorem xinl_spec {α : Type} {o : Option (α ⊕ Nat)} {v : α} (h : xinl o = some v) : o = some (.inl v) := by
  unfold xinl at h
  split at h
  · cases h; rfl
  · cases h
def xExN : List String := ["java/lang/RuntimeException", "java/lang/Exception"]
theorem xE_fit : ∀ n ∈ xExN, Bundle.fit n = true := by decide +kernel
theorem xUX_blind {B0 : Nat} {G : XG} {h : XH} {av : List Value} : FrameBlind (va_Pc av (xUX B0 G h)) := fun a U g mk q => by
  obtain ⟨q0, ⟨qP, qK⟩, ⟨z1, z2⟩, qS⟩ := q
  refine ⟨q0, ⟨qP, va_K.moved (u := U) (U := U.calling g mk a) (Vm.Alike.refl U.vm) qK⟩, ⟨?_, ?_⟩, ?_⟩
  · exact vx_Zq.moved (u := U) (U := U.calling g mk a) (Vm.Alike.refl U.vm) z1
  · exact vx_Zq.moved (u := U) (U := U.calling g mk a) (Vm.Alike.refl U.vm) z2
  · exact xStr.same (u := U) rfl qS
theorem xZ.at {B0 : Nat} {s U : State} {H : Heap} {locs : List Loc} (hZ : xZ B0 s) (hS : va_S (xA B0) s.heap H locs) (hU : U.heap = H) (hW : s.WarmedH U.vm) : xZ B0 U := by
  subst hU
  exact ⟨vx_Zq.moved hW.alike (vx_Zq.kept hZ.1 hS.2.1), vx_Zq.moved hW.alike (vx_Zq.kept hZ.2 hS.2.1)⟩
section XT
variable {p : Program} {l : Launch} {e : Env} {R : Room} {s : State} {m : MethodId} {args : Array Value} {below : List Frame} {meth : Method} {c : Code} {H : Heap} {locs : List Loc} {cells slots : Nat} {Q : State → Prop}
variable {cc : ByteArray} {pc nL : Nat} {ls : Array Slot} {rest st0 : List Value} {B0 : Nat} {G : XG} {h h1 : XH} {a code : Nat}
variable {y : MethodName} {bytes : ByteArray} {maxL n index : Nat} {ret : Option FieldType} {ws Ts : List Cond} {rm : Room} {own C : String} {b : Nat} {As : List Value}
theorem xc_x {av : Array Value} (hr : vx_Run p l e R s m args below meth c H locs cells slots 1 6 (F0 m pc ls st0) rest (xFF av) (xXC B0 G h1 code) (xA B0)) (hS : va_S (xA B0) s.heap H locs)
    (kx : ∀ (q9 : Addr) (ce : Cell) (H1 : Heap) (locs1 : List Loc), xP B0 G h1 H1 → va_S (xA B0) s.heap H1 locs1 → H1[q9]? = some ce → ce.vm = .none → s.vm.findClass (xEx code) = some ce.cls → vx_W p l e R s m args below meth c H1 locs1 (cells + 1) (slots + 6) Q (F0 m pc ls rest) q9) : W p l e R s m args below meth c H locs cells slots Q (F0 m pc ls st0) := by
  intro T hT X
  rcases hr T hT X with ⟨v, st₀, t, T', L, h0, X', hL, e1, e2, hQ, st⟩ | ⟨q, st₀, t, T', L, E, ce, h0, X', hL, e1, e2, ⟨u, hp, ⟨hE, hU⟩, hF⟩, hce, hcv, hcl, st⟩
  · exact False.elim hQ
  · subst hE
    obtain ⟨k1, k2, k3⟩ := vx_keep h0 e1 hS (fun _ _ h => h) (fun _ h => h) hL hF
    obtain ⟨t2, a1, b1⟩ := kx q ce T'.heap (locs ++ L) (by rw [e1]; exact hU.1) k3 (by rw [e1]; exact hce) hcv hcl T' rfl X'
    exact ⟨t2, st.trans a1, b1⟩
theorem xc_Vx (S : CallFix p m c cc nL s args Ts own) (hM : vx_Met l y ws rm (va_Pc (.ref b :: As) (xUX B0 G h)) xFF (xXC B0 G h code) 1 6 (xA B0)) (cw : CallW R s args own C index y bytes maxL ret ws rm 1 6 n) (hK : xK G s) (hZ : xZ B0 s) (hX : xStr s) (hP : xP B0 G h H) (hS : va_S (xA B0) s.heap H locs) {ci N : Nat} {T : u_T} {u : Unit} (hr : xis h b ci = some u) (hc : vwCl[ci]? = some (C, T, N)) (hn : As.length = n) (hsize : ls.size = nL) (hst : st0 = As.reverse ++ .ref b :: rest) (hroom : (rest.map fun v => v.category).sum ≤ 8) (hdg : decode cc pc = .ok (.invokevirtual index, 3)) (hf : cells + 1 ≤ R.cells ∧ slots + 6 ≤ R.slots)
    (kx : ∀ (q9 : Addr) (ce : Cell) (H1 : Heap) (locs1 : List Loc), xP B0 G h H1 → va_S (xA B0) s.heap H1 locs1 → H1[q9]? = some ce → ce.vm = .none → s.vm.findClass (xEx code) = some ce.cls → vx_W p l e R s m args below meth c H1 locs1 (cells + 1) (slots + 6) Q (F0 m pc ls rest) q9) : W p l e R s m args below meth c H locs cells slots Q (F0 m pc ls st0) :=
  xc_x (vx_runV S hM cw ⟨xUX_blind, xrecv hK hP hr hc, fun U hU hW => ⟨rfl, ⟨by rw [hU]; exact hP, hK.moved hW.alike⟩, hZ.at hS hU hW, hX.warm hW⟩⟩ rfl hn hsize hst (lv_room hroom) hdg hf) hS kx
theorem xc_Sx (S : CallFix p m c cc nL s args Ts own) (hM : vx_Met l y ws rm (va_Pc As (xUX B0 G h)) xFF (xXC B0 G h code) 1 6 (xA B0)) (cw : CallB R s args own index y bytes maxL ret ws rm 1 6 n ∧ (Cond.static y).before args s = true) (hK : xK G s) (hZ : xZ B0 s) (hX : xStr s) (hP : xP B0 G h H) (hS : va_S (xA B0) s.heap H locs) (hn : As.length = n) (hsize : ls.size = nL) (hst : st0 = As.reverse ++ rest) (hroom : (rest.map fun v => v.category).sum ≤ 8) (hdg : decode cc pc = .ok (.invokestatic index, 3)) (hf : cells + 1 ≤ R.cells ∧ slots + 6 ≤ R.slots)
    (kx : ∀ (q9 : Addr) (ce : Cell) (H1 : Heap) (locs1 : List Loc), xP B0 G h H1 → va_S (xA B0) s.heap H1 locs1 → H1[q9]? = some ce → ce.vm = .none → s.vm.findClass (xEx code) = some ce.cls → vx_W p l e R s m args below meth c H1 locs1 (cells + 1) (slots + 6) Q (F0 m pc ls rest) q9) : W p l e R s m args below meth c H locs cells slots Q (F0 m pc ls st0) :=
  xc_x (vx_runS S hM cw ⟨xUX_blind, fun U hU hW => ⟨rfl, ⟨by rw [hU]; exact hP, hK.moved hW.alike⟩, hZ.at hS hU hW, hX.warm hW⟩⟩ rfl hn hsize hst (lv_room hroom) hdg hf) hS kx
/-- it goes on to the caller -/
theorem xe_out (htab : ∀ x ∈ c.exceptionTable.toList, False) (hlocks : meth.locks = false) (hK : xK G s) (hP : xP B0 G h H) (hS : va_S (xA B0) s.heap H locs) {q : Addr} {ce : Cell} (hce : H[q]? = some ce) (hcv : ce.vm = .none) (hcl : s.vm.findClass (xEx code) = some ce.cls) {Qc : Array Value → State → Outcome → State → Prop} (hc : cells ≤ 1) (hs : slots ≤ 6) :
    vx_W p l e R s m args below meth c H locs cells slots (vx_MQ below Qc (xXC B0 G h code) args s 1 6 (xA B0)) (F0 m pc ls rest) q :=
  vx_out (fun x hx => (htab x hx).elim) hlocks hce hcv hcl (fun t ht hv => ⟨(), trivial, ⟨rfl, by rw [ht]; exact hP, hK.moved hv⟩, hS.F ht⟩) (fun z hz => hS.2.2 z hz) hc hs
/-- the throw itself -/
theorem xe_throw (hexec : p.tables.exec = Jvm.exec) (hb : c.code = cc) (hl : l.stackTraces = false) {text : String} {ik is ic sa : Nat} (hown : s.vm.findClass RX5 = some m.cls) (hcode : xEx code = xEx code) (hcls : Bundle.fit (xEx code) = true)
    (hk : (Cond.classLink RX5 ik (xEx code)).before args s = true) (hini : (Cond.initialized (xEx code)).before args s = true) (hstr : vk_R RX5 is text sa s) (hat : ∀ w ∈ vx_atS RX5 ic (xEx code) xExN, w.before args s = true) (hgood : ∀ w ∈ Cond.classLink RX5 ik (xEx code) :: Cond.initialized (xEx code) :: vx_atS RX5 ic (xEx code) xExN, vx_ot w = true)
    (hK : xK G s) (hZ : xZ B0 s) (hP : xP B0 G h H) (hS : va_S (xA B0) s.heap H locs) (hsize : ls.size = c.maxLocals) (htab : ∀ x ∈ c.exceptionTable.toList, False) (hlocks : meth.locks = false)
    (d0 : decode cc pc = .ok (.new ik, 3)) (d3 : decode cc (pc + 3) = .ok (.dup, 1)) (d4 : decode cc (pc + 4) = .ok (.ldc is, 2)) (d6 : decode cc (pc + 6) = .ok (.invokespecial ic, 3)) (d9 : decode cc (pc + 9) = .ok (.athrow, 1))
    (hRframes : 6 ≤ R.frames) (hRlocals : (rest.map fun v => v.category).sum + 82 ≤ R.locals) (hRcells : 1 ≤ R.cells) (hRslots : 6 ≤ R.slots) {Qc : Array Value → State → Outcome → State → Prop} :
    W p l e R s m args below meth c H locs 0 0 (vx_MQ below Qc (xXC B0 G h code) args s 1 6 (xA B0)) (F0 m pc ls rest) :=
  vx_throwS hexec hb hl hown hcls xE_fit hk hini hstr hat hgood hZ.1 hZ.2 hS hsize d0 d3 d4 d6 d9 (fun x hx => (htab x hx).elim) (by show 2 + 3 < _; omega) (by show _ + (13 * (2 + 1) + 43) ≤ _; omega) (by omega) (by omega) hlocks
    (fun t hv hz hk => ⟨(), trivial, ⟨rfl, hP.moved hz hk, hK.moved hv⟩, ⟨Nat.le_trans hS.1 hz, fun q g1 g2 => by rw [hk q (Nat.lt_of_lt_of_le g1 hS.1)]; exact hS.2.1 q g1 g2⟩⟩) (fun z hz => hS.2.2 z hz) (by omega) (by omega)
theorem xMetX {l : Launch} {ws' : List Cond} {av : List Value} {cc : ByteArray} {maxL : Nat} (hy : plainName y.cls = true) (hw : ws = Cond.code y cc maxL ret :: ws') (hal : (lg_sl av).length ≤ maxL)
    (body : ∀ (p : Program) (e : Env) (s : State) (m : MethodId) (args : Array Value) (below : List Frame) (meth : Method) (c : Code) (ls : Array Slot), p.tables.exec = Jvm.exec → c.code = cc → meth.sig.returnType = ret → c.maxLocals = maxL → s.vm.findClass y.cls = some m.cls → meth.locks = false → (∀ x ∈ c.exceptionTable.toList, False) → (∀ w ∈ ws, w.before args s = true) → xK G s → xP B0 G h s.heap → xZ B0 s → xStr s → lv_has ls maxL (lv_args 0 av) →
      W p l e rm s m args below meth c s.heap [] 0 0 (vx_MQ below xFF (xXC B0 G h code) args s 1 6 (xA B0)) (F0 m 0 ls [])) : vx_Met l y ws rm (va_Pc av (xUX B0 G h)) xFF (xXC B0 G h code) 1 6 (xA B0) := by
  refine vx_ofW (cc := cc) (maxL := maxL) (ret := ret) hy hw ?_
  intro p e s m args below meth c s₁ B hml ht hv
  obtain ⟨rfl, ⟨hP, hK⟩, hZ, hX⟩ := hv
  rw [lg_entry_eq]
  exact body p e s m _ below meth c _ B.exec B.bytes B.returns hml (findClass_of_methodNamed B.named) B.notSynchronized ht (atoms_spec (ws := ws) B.pre) hK hP hZ hX (lv_entry av hal)
end XT
