/-! Contracts over such a heap, calls by them, and the ends of bodies. -/
abbrev xQi (B0 : Nat) (G : XG) (h1 : XH) (r : Int32) : Array Value → State → Outcome → State → Prop := va_Qi (fun (r' : Int32) (_ : Unit) => r' = r) (fun _ => xU B0 G h1) (xA B0)
abbrev xQl (B0 : Nat) (G : XG) (h1 : XH) (r : Int64) : Array Value → State → Outcome → State → Prop := va_Ql (fun (r' : Int64) (_ : Unit) => r' = r) (fun _ => xU B0 G h1) (xA B0)
abbrev xQd (B0 : Nat) (G : XG) (h1 : XH) (r : UInt64) : Array Value → State → Outcome → State → Prop := va_Qd (fun (r' : UInt64) (_ : Unit) => r' = r) (fun _ => xU B0 G h1) (xA B0)
abbrev xQv (B0 : Nat) (G : XG) (h1 : XH) : Array Value → State → Outcome → State → Prop := va_Qv (fun (_ : Unit) => True) (fun _ => xU B0 G h1) (xA B0)
theorem xU_blind {B0 : Nat} {G : XG} {h : XH} {av : List Value} : FrameBlind (va_Pc av (xU B0 G h)) := fun a U g mk q => by
  obtain ⟨q0, qP, qK⟩ := q
  exact ⟨q0, qP, va_K.moved (u := U) (U := U.calling g mk a) (Vm.Alike.refl U.vm) qK⟩
def xEx : Nat → String
  | 0 => "java/lang/IllegalArgumentException"
  | 1 => "java/lang/IllegalStateException"
  | _ => "java/lang/IndexOutOfBoundsException"
/-- what a throw needs beside: Throwable's two statics -/
def xZ (B0 : Nat) (U : State) : Prop := vx_Zq Bundle.tN "UNASSIGNED_STACK" Bundle.steD (xA B0) U U.heap ∧ vx_Zq Bundle.tN "SUPPRESSED_SENTINEL" Bundle.listD (xA B0) U U.heap
/-- words of the exceptions' classes that are no good words -/
def xNg : List Cond := [.declares (Bundle.initS "java/lang/RuntimeException"), .declares (Bundle.initS "java/lang/Exception"), .declares (Bundle.initS Bundle.tN), .castable "java/lang/IllegalArgumentException" "java/lang/IllegalArgumentException", .castable "java/lang/IllegalStateException" "java/lang/IllegalStateException", .castable "java/lang/IndexOutOfBoundsException" "java/lang/IndexOutOfBoundsException"]
def xNgs (U : State) : Prop := ∀ w ∈ xNg, va_Nw w U
theorem xNgs.warm {s U : State} (hW : s.WarmedH U.vm) (h : xNgs s) : xNgs U := by
  intro w hw
  have hz := h w hw
  simp only [xNg, List.mem_cons, List.not_mem_nil, or_false] at hw
  rcases hw with rfl | rfl | rfl | rfl | rfl | rfl
  · exact va_Nw.warmD hW hz
  · exact va_Nw.warmD hW hz
  · exact va_Nw.warmD hW hz
  · exact va_Nw.warmC hW hz
  · exact va_Nw.warmC hW hz
  · exact va_Nw.warmC hW hz
theorem xNgs.same {u U : State} (hv : U.vm = u.vm) (h : xNgs u) : xNgs U := by
  intro w hw
  have hz := h w hw
  have ht : w.onTables = true := (show ∀ w ∈ xNg, w.onTables = true by decide +kernel) w hw
  exact va_tabs ht hv.symm hz
theorem xNgs.at {args : Array Value} {s : State} (h : xNgs s) : ∀ w ∈ xNg, w.before args s = true := fun w hw => va_tabs ((show ∀ w ∈ xNg, w.onTables = true by decide +kernel) w hw) rfl (h w hw)
/-- .. and the texts of the class -/
def xStr (U : State) : Prop := (∃ a, vk_R RX5 226 "out of range" a U) ∧ (∃ a, vk_R RX5 41 "no room for another roof" a U) ∧ (∃ a, vk_R RX5 68 "no room for another user" a U) ∧ (∃ a, vk_R RX5 231 "there is no such number" a U) ∧ (∃ a, vk_R RX5 234 "no room for so many days of rain" a U) ∧ (∃ a, vk_R RX5 146 "not so many days of rain are left" a U) ∧ (∃ a, vk_R RX5 192 "the text is full" a U) ∧ (∃ a, vk_R RX5 210 "no state is saved" a U) ∧ xNgs U
theorem xStr.same {u U : State} (hv : U.vm = u.vm) (h : xStr u) : xStr U := by
  obtain ⟨⟨a0, h0⟩, ⟨a1, h1⟩, ⟨a2, h2⟩, ⟨a3, h3⟩, ⟨a4, h4⟩, ⟨a5, h5⟩, ⟨a6, h6⟩, ⟨a7, h7⟩, hn⟩ := h
  exact ⟨⟨_, vk_R.same hv h0⟩, ⟨_, vk_R.same hv h1⟩, ⟨_, vk_R.same hv h2⟩, ⟨_, vk_R.same hv h3⟩, ⟨_, vk_R.same hv h4⟩, ⟨_, vk_R.same hv h5⟩, ⟨_, vk_R.same hv h6⟩, ⟨_, vk_R.same hv h7⟩, hn.same hv⟩
theorem xStr.warm {s U : State} (hW : s.WarmedH U.vm) (h : xStr s) : xStr U := by
  obtain ⟨⟨a0, h0⟩, ⟨a1, h1⟩, ⟨a2, h2⟩, ⟨a3, h3⟩, ⟨a4, h4⟩, ⟨a5, h5⟩, ⟨a6, h6⟩, ⟨a7, h7⟩, hn⟩ := h
  exact ⟨⟨_, vk_R.warm hW h0⟩, ⟨_, vk_R.warm hW h1⟩, ⟨_, vk_R.warm hW h2⟩, ⟨_, vk_R.warm hW h3⟩, ⟨_, vk_R.warm hW h4⟩, ⟨_, vk_R.warm hW h5⟩, ⟨_, vk_R.warm hW h6⟩, ⟨_, vk_R.warm hW h7⟩, hn.warm hW⟩
def xUX (B0 : Nat) (G : XG) (h : XH) : State → Prop := fun U => xU B0 G h U ∧ xZ B0 U ∧ xStr U
def xFF : Array Value → State → Outcome → State → Prop := fun _ _ _ _ => False
def xXC (B0 : Nat) (G : XG) (h1 : XH) (code : Nat) : String → State → State → Prop := vx_X (fun (_ : Unit) => True) (fun E _ t => E = xEx code ∧ xU B0 G h1 t) (xA B0)
section XC
variable {p : Program} {l : Launch} {e : Env} {R : Room} {s : State} {m : MethodId} {args : Array Value} {below : List Frame} {meth : Method} {c : Code} {H : Heap} {locs : List Loc} {cells slots : Nat} {Q : State → Prop}
variable {cc : ByteArray} {pc nL : Nat} {ls : Array Slot} {rest st0 : List Value} {B0 : Nat} {G : XG} {h h1 : XH} {H0 : Heap} {a : Nat}
variable {y : MethodName} {bytes : ByteArray} {maxL n index : Nat} {ret : Option FieldType} {ws Ts : List Cond} {rm : Room} {own C : String} {b : Nat} {As : List Value}
theorem xrecv {ci N : Nat} {T : u_T} {u : Unit} (hK : xK G s) (hP : xP B0 G h H) (hr : xis h b ci = some u) (hc : vwCl[ci]? = some (C, T, N)) : ∃ cell : Cell, H[b]? = some cell ∧ cell.vm.isStatics = false ∧ s.vm.findClass C = some cell.cls := by
  obtain ⟨fs, hb⟩ := xis_spec hr
  exact va_recv hK (hP.get hb) hc (q0 := 0) rfl
theorem xc_Vi (S : CallFix p m c cc nL s args Ts own) {r : Int32} (hM : Met l y ws rm (va_Pc (.ref b :: As) (xU B0 G h)) (xQi B0 G h1 r) 0 0 (xA B0)) (cw : CallW R s args own C index y bytes maxL ret ws rm 0 0 n) (hK : xK G s) (hP : xP B0 G h H) (hS : va_S (xA B0) H0 H locs) {ci N : Nat} {T : u_T} {u : Unit} (hr : xis h b ci = some u) (hc : vwCl[ci]? = some (C, T, N)) (hn : As.length = n) (hsize : ls.size = nL) (hst : st0 = As.reverse ++ .ref b :: rest) (hroom : (rest.map fun v => v.category).sum ≤ 8) (hdg : decode cc pc = .ok (.invokevirtual index, 3)) (hf : cells ≤ R.cells ∧ slots ≤ R.slots)
    (kk : ∀ (H1 : Heap) (locs1 : List Loc), xP B0 G h1 H1 → va_S (xA B0) H0 H1 locs1 → W p l e R s m args below meth c H1 locs1 cells slots Q (F0 m (pc + 3) ls (.int r :: rest))) : W p l e R s m args below meth c H locs cells slots Q (F0 m pc ls st0) := by
  refine va_calli (va_runV S hM cw ⟨xU_blind, xrecv hK hP hr hc, fun U hU hW => ⟨rfl, by rw [hU]; exact hP, hK.moved hW.alike⟩⟩ rfl hn hsize hst (lv_room hroom) hdg hf) hS (fun q _ h => h) (fun q h => h) (fun r' u t H1 locs1 ht hvm hp hB hz hk hS1 => ?_)
  subst hp
  subst ht
  exact kk _ _ hB.1 hS1
theorem xc_Vl (S : CallFix p m c cc nL s args Ts own) {r : Int64} (hM : Met l y ws rm (va_Pc (.ref b :: As) (xU B0 G h)) (xQl B0 G h1 r) 0 0 (xA B0)) (cw : CallW R s args own C index y bytes maxL ret ws rm 0 0 n) (hK : xK G s) (hP : xP B0 G h H) (hS : va_S (xA B0) H0 H locs) {ci N : Nat} {T : u_T} {u : Unit} (hr : xis h b ci = some u) (hc : vwCl[ci]? = some (C, T, N)) (hn : As.length = n) (hsize : ls.size = nL) (hst : st0 = As.reverse ++ .ref b :: rest) (hroom : (rest.map fun v => v.category).sum ≤ 8) (hdg : decode cc pc = .ok (.invokevirtual index, 3)) (hf : cells ≤ R.cells ∧ slots ≤ R.slots)
    (kk : ∀ (H1 : Heap) (locs1 : List Loc), xP B0 G h1 H1 → va_S (xA B0) H0 H1 locs1 → W p l e R s m args below meth c H1 locs1 cells slots Q (F0 m (pc + 3) ls (.long r :: rest))) : W p l e R s m args below meth c H locs cells slots Q (F0 m pc ls st0) := by
  refine va_calll (va_runV S hM cw ⟨xU_blind, xrecv hK hP hr hc, fun U hU hW => ⟨rfl, by rw [hU]; exact hP, hK.moved hW.alike⟩⟩ rfl hn hsize hst (lv_room hroom) hdg hf) hS (fun q _ h => h) (fun q h => h) (fun r' u t H1 locs1 ht hvm hp hB hz hk hS1 => ?_)
  subst hp
  subst ht
  exact kk _ _ hB.1 hS1
theorem xc_Vd (S : CallFix p m c cc nL s args Ts own) {r : UInt64} (hM : Met l y ws rm (va_Pc (.ref b :: As) (xU B0 G h)) (xQd B0 G h1 r) 0 0 (xA B0)) (cw : CallW R s args own C index y bytes maxL ret ws rm 0 0 n) (hK : xK G s) (hP : xP B0 G h H) (hS : va_S (xA B0) H0 H locs) {ci N : Nat} {T : u_T} {u : Unit} (hr : xis h b ci = some u) (hc : vwCl[ci]? = some (C, T, N)) (hn : As.length = n) (hsize : ls.size = nL) (hst : st0 = As.reverse ++ .ref b :: rest) (hroom : (rest.map fun v => v.category).sum ≤ 8) (hdg : decode cc pc = .ok (.invokevirtual index, 3)) (hf : cells ≤ R.cells ∧ slots ≤ R.slots)
    (kk : ∀ (H1 : Heap) (locs1 : List Loc), xP B0 G h1 H1 → va_S (xA B0) H0 H1 locs1 → W p l e R s m args below meth c H1 locs1 cells slots Q (F0 m (pc + 3) ls (.double r :: rest))) : W p l e R s m args below meth c H locs cells slots Q (F0 m pc ls st0) := by
  refine va_calld (va_runV S hM cw ⟨xU_blind, xrecv hK hP hr hc, fun U hU hW => ⟨rfl, by rw [hU]; exact hP, hK.moved hW.alike⟩⟩ rfl hn hsize hst (lv_room hroom) hdg hf) hS (fun q _ h => h) (fun q h => h) (fun r' u t H1 locs1 ht hvm hp hB hz hk hS1 => ?_)
  subst hp
  subst ht
  exact kk _ _ hB.1 hS1
theorem xc_Vv (S : CallFix p m c cc nL s args Ts own) (hM : Met l y ws rm (va_Pc (.ref b :: As) (xU B0 G h)) (xQv B0 G h1) 0 0 (xA B0)) (cw : CallW R s args own C index y bytes maxL ret ws rm 0 0 n) (hK : xK G s) (hP : xP B0 G h H) (hS : va_S (xA B0) H0 H locs) {ci N : Nat} {T : u_T} {u : Unit} (hr : xis h b ci = some u) (hc : vwCl[ci]? = some (C, T, N)) (hn : As.length = n) (hsize : ls.size = nL) (hst : st0 = As.reverse ++ .ref b :: rest) (hroom : (rest.map fun v => v.category).sum ≤ 8) (hdg : decode cc pc = .ok (.invokevirtual index, 3)) (hf : cells ≤ R.cells ∧ slots ≤ R.slots)
    (kk : ∀ (H1 : Heap) (locs1 : List Loc), xP B0 G h1 H1 → va_S (xA B0) H0 H1 locs1 → W p l e R s m args below meth c H1 locs1 cells slots Q (F0 m (pc + 3) ls rest)) : W p l e R s m args below meth c H locs cells slots Q (F0 m pc ls st0) := by
  refine va_callv (va_runV S hM cw ⟨xU_blind, xrecv hK hP hr hc, fun U hU hW => ⟨rfl, by rw [hU]; exact hP, hK.moved hW.alike⟩⟩ rfl hn hsize hst (lv_room hroom) hdg hf) hS (fun q _ h => h) (fun q h => h) (fun u t H1 locs1 ht hvm hp hB hz hk hS1 => ?_)
  subst ht
  exact kk _ _ hB.1 hS1
theorem xc_Si (S : CallFix p m c cc nL s args Ts own) {r : Int32} (hM : Met l y ws rm (va_Pc As (xU B0 G h)) (xQi B0 G h1 r) 0 0 (xA B0)) (cw : CallB R s args own index y bytes maxL ret ws rm 0 0 n ∧ (Cond.static y).before args s = true) (hK : xK G s) (hP : xP B0 G h H) (hS : va_S (xA B0) H0 H locs) (hn : As.length = n) (hsize : ls.size = nL) (hst : st0 = As.reverse ++ rest) (hroom : (rest.map fun v => v.category).sum ≤ 8) (hdg : decode cc pc = .ok (.invokestatic index, 3)) (hf : cells ≤ R.cells ∧ slots ≤ R.slots)
    (kk : ∀ (H1 : Heap) (locs1 : List Loc), xP B0 G h1 H1 → va_S (xA B0) H0 H1 locs1 → W p l e R s m args below meth c H1 locs1 cells slots Q (F0 m (pc + 3) ls (.int r :: rest))) : W p l e R s m args below meth c H locs cells slots Q (F0 m pc ls st0) := by
  refine va_calli (va_runS S hM cw ⟨xU_blind, fun U hU hW => ⟨rfl, by rw [hU]; exact hP, hK.moved hW.alike⟩⟩ rfl hn hsize hst (lv_room hroom) hdg hf) hS (fun q _ h => h) (fun q h => h) (fun r' u t H1 locs1 ht hvm hp hB hz hk hS1 => ?_)
  subst hp
  subst ht
  exact kk _ _ hB.1 hS1
theorem xc_Sl (S : CallFix p m c cc nL s args Ts own) {r : Int64} (hM : Met l y ws rm (va_Pc As (xU B0 G h)) (xQl B0 G h1 r) 0 0 (xA B0)) (cw : CallB R s args own index y bytes maxL ret ws rm 0 0 n ∧ (Cond.static y).before args s = true) (hK : xK G s) (hP : xP B0 G h H) (hS : va_S (xA B0) H0 H locs) (hn : As.length = n) (hsize : ls.size = nL) (hst : st0 = As.reverse ++ rest) (hroom : (rest.map fun v => v.category).sum ≤ 8) (hdg : decode cc pc = .ok (.invokestatic index, 3)) (hf : cells ≤ R.cells ∧ slots ≤ R.slots)
    (kk : ∀ (H1 : Heap) (locs1 : List Loc), xP B0 G h1 H1 → va_S (xA B0) H0 H1 locs1 → W p l e R s m args below meth c H1 locs1 cells slots Q (F0 m (pc + 3) ls (.long r :: rest))) : W p l e R s m args below meth c H locs cells slots Q (F0 m pc ls st0) := by
  refine va_calll (va_runS S hM cw ⟨xU_blind, fun U hU hW => ⟨rfl, by rw [hU]; exact hP, hK.moved hW.alike⟩⟩ rfl hn hsize hst (lv_room hroom) hdg hf) hS (fun q _ h => h) (fun q h => h) (fun r' u t H1 locs1 ht hvm hp hB hz hk hS1 => ?_)
  subst hp
  subst ht
  exact kk _ _ hB.1 hS1
theorem xc_Sv (S : CallFix p m c cc nL s args Ts own) (hM : Met l y ws rm (va_Pc As (xU B0 G h)) (xQv B0 G h1) 0 0 (xA B0)) (cw : CallB R s args own index y bytes maxL ret ws rm 0 0 n ∧ (Cond.static y).before args s = true) (hK : xK G s) (hP : xP B0 G h H) (hS : va_S (xA B0) H0 H locs) (hn : As.length = n) (hsize : ls.size = nL) (hst : st0 = As.reverse ++ rest) (hroom : (rest.map fun v => v.category).sum ≤ 8) (hdg : decode cc pc = .ok (.invokestatic index, 3)) (hf : cells ≤ R.cells ∧ slots ≤ R.slots)
    (kk : ∀ (H1 : Heap) (locs1 : List Loc), xP B0 G h1 H1 → va_S (xA B0) H0 H1 locs1 → W p l e R s m args below meth c H1 locs1 cells slots Q (F0 m (pc + 3) ls rest)) : W p l e R s m args below meth c H locs cells slots Q (F0 m pc ls st0) := by
  refine va_callv (va_runS S hM cw ⟨xU_blind, fun U hU hW => ⟨rfl, by rw [hU]; exact hP, hK.moved hW.alike⟩⟩ rfl hn hsize hst (lv_room hroom) hdg hf) hS (fun q _ h => h) (fun q h => h) (fun u t H1 locs1 ht hvm hp hB hz hk hS1 => ?_)
  subst ht
  exact kk _ _ hB.1 hS1
/-! ends -/
theorem xe_i (hexec : p.tables.exec = Jvm.exec) (hb : c.code = cc) (hr : meth.sig.returnType = some .int) (hlocks : meth.locks = false) (hK : xK G s) (hP : xP B0 G h1 H) (hS : va_S (xA B0) s.heap H locs) {v : Int32} (hdg : decode cc pc = .ok (.ireturn, 1)) :
    W p l e R s m args below meth c H locs cells slots (MQ below (xQi B0 G h1 v) args s cells slots (xA B0)) (F0 m pc ls [.int v]) :=
  W.iret hexec hb hr (fun t ht hW => ⟨⟨v, (), rfl, rfl, by rw [ht]; exact hP, hK.moved hW.alike⟩, hS.F ht⟩) hS.2.2 hdg
def xbool (v : Int32) : Option Int32 := if v = 0 ∨ v = 1 then some v else none
theorem xe_z (hexec : p.tables.exec = Jvm.exec) (hb : c.code = cc) (hr : meth.sig.returnType = some .boolean) (hlocks : meth.locks = false) (hK : xK G s) (hP : xP B0 G h1 H) (hS : va_S (xA B0) s.heap H locs) {v r : Int32} (hv : xbool v = some r) (hdg : decode cc pc = .ok (.ireturn, 1)) :
    W p l e R s m args below meth c H locs cells slots (MQ below (xQi B0 G h1 r) args s cells slots (xA B0)) (F0 m pc ls [.int v]) := by
  unfold xbool at hv
  split at hv
  · next hq =>
    cases hv
    exact W.zret hexec hb hr (by rcases hq with rfl | rfl <;> decide) (fun t ht hW => ⟨⟨v, (), rfl, rfl, by rw [ht]; exact hP, hK.moved hW.alike⟩, hS.F ht⟩) hS.2.2 hdg
  · cases hv
theorem xe_l (hexec : p.tables.exec = Jvm.exec) (hb : c.code = cc) (hr : meth.sig.returnType = some .long) (hlocks : meth.locks = false) (hK : xK G s) (hP : xP B0 G h1 H) (hS : va_S (xA B0) s.heap H locs) {v : Int64} (hdg : decode cc pc = .ok (.lreturn, 1)) :
    W p l e R s m args below meth c H locs cells slots (MQ below (xQl B0 G h1 v) args s cells slots (xA B0)) (F0 m pc ls [.long v]) :=
  W.lret hexec hb hr (fun t ht hW => ⟨⟨v, (), rfl, rfl, by rw [ht]; exact hP, hK.moved hW.alike⟩, hS.F ht⟩) hS.2.2 hdg
theorem xe_d (hexec : p.tables.exec = Jvm.exec) (hb : c.code = cc) (hr : meth.sig.returnType = some .double) (hlocks : meth.locks = false) (hK : xK G s) (hP : xP B0 G h1 H) (hS : va_S (xA B0) s.heap H locs) {v : UInt64} (hdg : decode cc pc = .ok (.dreturn, 1)) :
    W p l e R s m args below meth c H locs cells slots (MQ below (xQd B0 G h1 v) args s cells slots (xA B0)) (F0 m pc ls [.double v]) :=
  W.dret hexec hb hr (fun t ht hW => ⟨⟨v, (), rfl, rfl, by rw [ht]; exact hP, hK.moved hW.alike⟩, hS.F ht⟩) hS.2.2 hdg
theorem xe_v (hexec : p.tables.exec = Jvm.exec) (hb : c.code = cc) (hr : meth.sig.returnType = none) (hlocks : meth.locks = false) (hK : xK G s) (hP : xP B0 G h1 H) (hS : va_S (xA B0) s.heap H locs) (hdg : decode cc pc = .ok (.return_, 1)) :
    W p l e R s m args below meth c H locs cells slots (MQ below (xQv B0 G h1) args s cells slots (xA B0)) (F0 m pc ls []) :=
  W.vret hexec hb hr (fun t ht hW => ⟨⟨(), rfl, trivial, by rw [ht]; exact hP, hK.moved hW.alike⟩, hS.F ht⟩) hS.2.2 hdg
/-- a contract out of a body's walk -/
theorem xMet {l : Launch} {ws' : List Cond} {av : List Value} {Qc : Array Value → State → Outcome → State → Prop} {mc ms : Nat} {cc : ByteArray} {maxL : Nat} (hy : plainName y.cls = true) (hw : ws = Cond.code y cc maxL ret :: ws') (hal : (lg_sl av).length ≤ maxL)
    (body : ∀ (p : Program) (e : Env) (s : State) (m : MethodId) (args : Array Value) (below : List Frame) (meth : Method) (c : Code) (ls : Array Slot), p.tables.exec = Jvm.exec → c.code = cc → meth.sig.returnType = ret → c.maxLocals = maxL → s.vm.findClass y.cls = some m.cls → meth.locks = false → meth.name = y.name → (∀ w ∈ ws, w.before args s = true) → xK G s → xP B0 G h s.heap → lv_has ls maxL (lv_args 0 av) →
      W p l e rm s m args below meth c s.heap [] 0 0 (MQ below Qc args s mc ms (xA B0)) (F0 m 0 ls [])) : Met l y ws rm (va_Pc av (xU B0 G h)) Qc mc ms (xA B0) := by
  refine Met.ofW (cc := cc) (maxL := maxL) (ret := ret) hy hw ?_
  intro p e s m args below meth c s₁ B hml hv
  obtain ⟨rfl, hP, hK⟩ := hv
  rw [lg_entry_eq]
  exact body p e s m _ below meth c _ B.exec B.bytes B.returns hml (findClass_of_methodNamed B.named) B.notSynchronized (name_of_methodNamed B.named B.method).1 (atoms_spec (ws := ws) B.pre) hK hP (lv_entry av hal)
end XC
