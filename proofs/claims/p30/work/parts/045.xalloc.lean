/-! Bodies that make cells: constructors. The next address is known. -/
def xNest (U : State) : Prop := va_Nw (.methodLinkNest RX2 24 yX1_init RX5) U ∧ va_Nw (.methodLinkNest RX4 17 yX3_init RX5) U ∧ va_AO RX1 U ∧ va_AO RX2 U ∧ va_AO RX3 U
theorem xNest.warm {s U : State} (hW : s.WarmedH U.vm) (h : xNest s) : xNest U := ⟨va_Nw.warmM hW h.1, va_Nw.warmM hW h.2.1, h.2.2.1.moved hW.alike, h.2.2.2.1.moved hW.alike, h.2.2.2.2.moved hW.alike⟩
theorem xNest.same {u U : State} (hv : U.vm = u.vm) (h : xNest u) : xNest U := ⟨va_tabs rfl hv.symm h.1, va_tabs rfl hv.symm h.2.1, h.2.2.1.moved (u := u) (by rw [hv]; exact Vm.Alike.refl _), h.2.2.2.1.moved (u := u) (by rw [hv]; exact Vm.Alike.refl _), h.2.2.2.2.moved (u := u) (by rw [hv]; exact Vm.Alike.refl _)⟩
def xUN (B0 : Nat) (G : XG) (h : XH) (nx : Nat) : State → Prop := fun U => U.heap.size = nx ∧ xU B0 G h U ∧ xNest U
abbrev xQN (B0 : Nat) (G : XG) (h1 : XH) (nx1 : Nat) : Array Value → State → Outcome → State → Prop := va_Qv (fun (_ : Unit) => True) (fun _ t => t.heap.size = nx1 ∧ xU B0 G h1 t) (xA B0)
theorem xUN_blind {B0 nx : Nat} {G : XG} {h : XH} {av : List Value} : FrameBlind (va_Pc av (xUN B0 G h nx)) := fun a U g mk q => by
  obtain ⟨q0, qz, qU, qN⟩ := q
  exact ⟨q0, qz, (xU_blind (av := av) a U g mk ⟨q0, qU⟩).2, qN.same (u := U) rfl⟩
def xeqI (x y : Int32) : Option Unit := if x = y then some () else none
theorem xeqI_spec {x y : Int32} {u : Unit} (h : xeqI x y = some u) : x = y := by
  unfold xeqI at h
  split at h
  · assumption
  · cases h
section XAL
variable {p : Program} {l : Launch} {e : Env} {R : Room} {s : State} {m : MethodId} {args : Array Value} {below : List Frame} {meth : Method} {c : Code} {H : Heap} {locs : List Loc} {cells slots : Nat} {Q : State → Prop}
variable {cc : ByteArray} {pc nL : Nat} {ls : Array Slot} {rest st0 : List Value} {B0 nx nx1 : Nat} {G : XG} {h h1 : XH} {H0 : Heap} {a : Nat}
variable {y : MethodName} {bytes : ByteArray} {maxL n index mc ms : Nat} {ret : Option FieldType} {ws Ts : List Cond} {rm : Room} {own C : String} {b : Nat}
theorem xP.push {H1 : Heap} {e1 : XE} (hP : xP B0 G h H) (hz : H.size = nx) (z1 : H1.size = nx + 1) (o1 : ∀ q : Nat, q < nx → H1[q]? = H[q]?) (he : va_at G.1 vwCl (nx, xe G e1) H1) : xP B0 G (xup h nx (some e1)) H1 := by
  refine ⟨by have := hP.1; omega, fun q e' hq => ?_⟩
  by_cases hqa : q = nx
  · subst hqa
    simp only [xup, if_true] at hq
    cases hq
    exact ⟨by have := hP.1; omega, he⟩
  · simp only [xup, if_neg hqa] at hq
    have hlt := (hP.2 q e' hq).2.lt
    exact ⟨(hP.2 q e' hq).1, (hP.2 q e' hq).2.kept (o1 q (by rw [← hz]; exact hlt))⟩
theorem va_S.push {A : Nat → Prop} {H1 : Heap} (hS : va_S A H0 H locs) (hz : H.size = nx) (z1 : H1.size = nx + 1) (o1 : ∀ q : Nat, q < nx → H1[q]? = H[q]?) : va_S A H0 H1 locs :=
  ⟨Nat.le_trans hS.1 (by omega), fun x g1 g2 => (o1 x (by have := hS.1; omega)).trans (hS.2.1 x g1 g2), hS.2.2⟩
theorem xr_new (hexec : p.tables.exec = Jvm.exec) (hb : c.code = cc) {T : u_T} {N ci : Nat} (hts : ∀ w ∈ Ts, w.before args s = true) (hin : ∀ w ∈ u_ws C T N, w ∈ Ts) (ty : Nat → FieldType) (hty : ∀ k, k < N → parseFieldDescriptor (T k).2.2.1 = some (ty k)) (hown : s.vm.findClass own = some m.cls) (hcl : (Cond.classLink own index C).before args s = true) (hinst : (Cond.instantiable C N).before args s = true) (hini : (Cond.initialized C).before args s = true)
    (hK : xK G s) (hP : xP B0 G h H) (hz : H.size = nx) (hS : va_S (xA B0) H0 H locs) (hc : vwCl[ci]? = some (C, T, N)) {fs : List Value} (hfs : ∀ j, j < N → defaultValue (ty j) = vp_V fs j) (eh : h1 = xup h nx (some (.inr (ci, fs)))) (hf : cells + 1 ≤ R.cells ∧ slots + N ≤ R.slots) (hdg : decode cc pc = .ok (.new index, 3))
    (kk : ∀ (H1 : Heap), xP B0 G h1 H1 → H1.size = nx + 1 → va_S (xA B0) H0 H1 locs → W p l e R s m args below meth c H1 locs (cells + 1) (slots + N) Q (F0 m (pc + 3) ls (.ref nx :: rest))) : W p l e R s m args below meth c H locs cells slots Q (F0 m pc ls rest) := by
  have hKn := hK.1 ci _ hc
  refine W.newcK hexec hb hown hcl hinst hini rfl hdg hf.1 hf.2 hKn.2.1 hz fun H1 kC hkC e1 z1 o1 => ?_
  subst eh
  exact kk H1 (hP.push hz z1 o1 ⟨_, hc, (u_born ty hts hin hKn hkC e1 hty).to hfs⟩) z1 (hS.push hz z1 o1)
theorem xr_newarr {atype : ArrayType} {t : Nat} {ty : FieldType} (hty : newarray.typeOf atype = ty) (ht : ∀ G : XG, (xTy G)[t]? = some (G.2 t, ty)) (hra : ∀ (U : State) (cA : ClassId), va_RA U cA ty → U.vm.findClass ("[" ++ ty.toString) = some cA) (hexec : p.tables.exec = Jvm.exec) (hb : c.code = cc) (harr : (Cond.arrayClass ty).before args s = true) (hK : xK G s) (hP : xP B0 G h H) (hz : H.size = nx) (hS : va_S (xA B0) H0 H locs)
    {n : Int32} {N : Nat} {x : vp_A} (hx : ∀ cA : ClassId, vp_cell cA x = arrV cA N (fun _ => defaultValue ty)) (hn : ¬ n < 0) (hN : n.toNatClampNeg = N) (hbytes : N * componentBytes ty ≤ 536870912) (eh : h1 = xup h nx (some (.inl (t, x)))) (hf : cells + 1 ≤ R.cells ∧ slots + N ≤ R.slots) (hdg : decode cc pc = .ok (.newarray atype, 2))
    (kk : ∀ (H1 : Heap), xP B0 G h1 H1 → H1.size = nx + 1 → va_S (xA B0) H0 H1 locs → W p l e R s m args below meth c H1 locs (cells + 1) (slots + N) Q (F0 m (pc + 2) ls (.ref nx :: rest))) : W p l e R s m args below meth c H locs cells slots Q (F0 m pc ls (.int n :: rest)) := by
  subst hty
  refine va_newaK hexec hb harr rfl hdg rfl hn hN hbytes hf.1 hf.2 hz fun H1 cA e1 z1 o1 hAr hNm => ?_
  have hc : cA = G.2 t := Option.some.inj (hNm.symm.trans (hra s (G.2 t) (hK.2 t _ (ht G)).2))
  subst hc
  subst eh
  refine kk H1 (hP.push hz z1 o1 ?_) z1 (hS.push hz z1 o1)
  show H1[nx]? = some (vp_cell _ _)
  rw [hx]
  exact e1
theorem xr_anew {t : Nat} (ht : ∀ G : XG, (xTy G)[t]? = some (G.2 t, .object C)) (hexec : p.tables.exec = Jvm.exec) (hb : c.code = cc) (hown : s.vm.findClass own = some m.cls) (hclink : (Cond.classLink own index C).before args s = true) (hover : va_AO C s) (hK : xK G s) (hP : xP B0 G h H) (hz : H.size = nx) (hS : va_S (xA B0) H0 H locs)
    {n : Int32} {N : Nat} (hn : ¬ n < 0) (hN : n.toNatClampNeg = N) (hbytes : N * 4 ≤ 536870912) (eh : h1 = xup h nx (some (.inl (t, N, .inr (.inr (.inr (.inr (fun _ => none)))))))) (hf : cells + 1 ≤ R.cells ∧ slots + N ≤ R.slots) (hdg : decode cc pc = .ok (.anewarray index, 3))
    (kk : ∀ (H1 : Heap), xP B0 G h1 H1 → H1.size = nx + 1 → va_S (xA B0) H0 H1 locs → W p l e R s m args below meth c H1 locs (cells + 1) (slots + N) Q (F0 m (pc + 3) ls (.ref nx :: rest))) : W p l e R s m args below meth c H locs cells slots Q (F0 m pc ls (.int n :: rest)) := by
  subst hN
  refine W.anew hexec hb hown hclink (va_AO.use hover) rfl hdg rfl hn hbytes hf.1 hf.2 fun cA kA comp f1 f2 f3 f4 => ?_
  generalize hH1 : H.push ({ cls := cA, slots := Array.replicate n.toNatClampNeg .null, vm := .none } : Cell) = H1
  have z1 : H1.size = nx + 1 := by rw [← hH1, Array.size_push, hz]
  have e1 : H1[nx]? = some (arrV cA n.toNatClampNeg (fun _ => .null)) := by rw [← hH1, ← hz, Array.getElem?_push_size, ← arrV_new]
  have o1 : ∀ q : Nat, q < nx → H1[q]? = H[q]? := fun q hq => by rw [← hH1, Array.getElem?_push, if_neg (by omega)]
  obtain ⟨kA', comp', g1, g2, g3, g4⟩ := (hK.2 t _ (ht G)).2
  have hc : cA = G.2 t := Option.some.inj (f1.symm.trans g4)
  subst hc
  subst eh
  rw [hz]
  refine kk H1 (hP.push hz z1 o1 ?_) z1 (hS.push hz z1 o1)
  show H1[nx]? = some (vp_cell _ _)
  rw [vp_cell_q]
  exact e1
theorem xc_I (S : CallFix p m c cc nL s args Ts own) (hM : Met l y ws rm (va_Pc [.ref b] (xUN B0 G h nx)) (xQN B0 G h1 nx1) mc ms (xA B0)) (cw : CallB R s args own index y bytes maxL none ws rm mc ms 0 ∧ y.name = "<init>" ∧ (Cond.instanceMethod y).before args s = true) (hK : xK G s) (hNe : xNest s) (hP : xP B0 G h H) (hz : H.size = nx) (hS : va_S (xA B0) H0 H locs) (hsize : ls.size = nL) (hst : st0 = .ref b :: rest) (hroom : (rest.map fun v => v.category).sum ≤ 8) (hdg : decode cc pc = .ok (.invokespecial index, 3)) (hf : cells + mc ≤ R.cells ∧ slots + ms ≤ R.slots)
    (kk : ∀ (H1 : Heap) (locs1 : List Loc), xP B0 G h1 H1 → H1.size = nx1 → va_S (xA B0) H0 H1 locs1 → W p l e R s m args below meth c H1 locs1 (cells + mc) (slots + ms) Q (F0 m (pc + 3) ls rest)) : W p l e R s m args below meth c H locs cells slots Q (F0 m pc ls st0) := by
  refine va_callv (va_runI (As := []) S hM cw ⟨xUN_blind, fun U hU hW => ⟨rfl, by rw [hU]; exact hz, ⟨by rw [hU]; exact hP, hK.moved hW.alike⟩, hNe.warm hW⟩⟩ rfl rfl hsize hst (lv_room hroom) hdg hf) hS (fun q _ h => h) (fun q h => h) (fun u t H1 locs1 ht hvm hp hB hz hk hS1 => ?_)
  subst ht
  exact kk _ _ hB.2.1 hB.1 hS1
theorem xc_IN {host : String} (S : CallFix p m c cc nL s args Ts own) (hM : Met l y ws rm (va_Pc [.ref b] (xUN B0 G h nx)) (xQN B0 G h1 nx1) mc ms (xA B0)) (cw : va_CN R s args own index y host bytes maxL none ws rm mc ms 0 ∧ y.name = "<init>" ∧ (Cond.instanceMethod y).before args s = true) (hK : xK G s) (hNe : xNest s) (hP : xP B0 G h H) (hz : H.size = nx) (hS : va_S (xA B0) H0 H locs) (hsize : ls.size = nL) (hst : st0 = .ref b :: rest) (hroom : (rest.map fun v => v.category).sum ≤ 8) (hdg : decode cc pc = .ok (.invokespecial index, 3)) (hf : cells + mc ≤ R.cells ∧ slots + ms ≤ R.slots)
    (kk : ∀ (H1 : Heap) (locs1 : List Loc), xP B0 G h1 H1 → H1.size = nx1 → va_S (xA B0) H0 H1 locs1 → W p l e R s m args below meth c H1 locs1 (cells + mc) (slots + ms) Q (F0 m (pc + 3) ls rest)) : W p l e R s m args below meth c H locs cells slots Q (F0 m pc ls st0) := by
  refine va_callv (va_runIN (As := []) S hM cw ⟨xUN_blind, fun U hU hW => ⟨rfl, by rw [hU]; exact hz, ⟨by rw [hU]; exact hP, hK.moved hW.alike⟩, hNe.warm hW⟩⟩ rfl rfl hsize hst (lv_room hroom) hdg hf) hS (fun q _ h => h) (fun q h => h) (fun u t H1 locs1 ht hvm hp hB hz hk hS1 => ?_)
  subst ht
  exact kk _ _ hB.2.1 hB.1 hS1
theorem xe_vN (hexec : p.tables.exec = Jvm.exec) (hb : c.code = cc) (hr : meth.sig.returnType = none) (hlocks : meth.locks = false) (hK : xK G s) (hP : xP B0 G h1 H) (hz : H.size = nx1) (hS : va_S (xA B0) s.heap H locs) (hdg : decode cc pc = .ok (.return_, 1)) :
    W p l e R s m args below meth c H locs cells slots (MQ below (xQN B0 G h1 nx1) args s cells slots (xA B0)) (F0 m pc ls []) :=
  W.vret hexec hb hr (fun t ht hW => ⟨⟨(), rfl, trivial, by rw [ht]; exact hz, by rw [ht]; exact hP, hK.moved hW.alike⟩, hS.F ht⟩) hS.2.2 hdg
theorem xMetN {l : Launch} {ws' : List Cond} {av : List Value} {Qc : Array Value → State → Outcome → State → Prop} {cc : ByteArray} {maxL : Nat} (hy : plainName y.cls = true) (hw : ws = Cond.code y cc maxL ret :: ws') (hal : (lg_sl av).length ≤ maxL)
    (body : ∀ (p : Program) (e : Env) (s : State) (m : MethodId) (args : Array Value) (below : List Frame) (meth : Method) (c : Code) (ls : Array Slot), p.tables.exec = Jvm.exec → c.code = cc → meth.sig.returnType = ret → c.maxLocals = maxL → s.vm.findClass y.cls = some m.cls → meth.locks = false → meth.name = y.name → (∀ w ∈ ws, w.before args s = true) → xK G s → xNest s → xP B0 G h s.heap → s.heap.size = nx → lv_has ls maxL (lv_args 0 av) →
      W p l e rm s m args below meth c s.heap [] 0 0 (MQ below Qc args s mc ms (xA B0)) (F0 m 0 ls [])) : Met l y ws rm (va_Pc av (xUN B0 G h nx)) Qc mc ms (xA B0) := by
  refine Met.ofW (cc := cc) (maxL := maxL) (ret := ret) hy hw ?_
  intro p e s m args below meth c s₁ B hml hv
  obtain ⟨rfl, hz, ⟨hP, hK⟩, hNe⟩ := hv
  rw [lg_entry_eq]
  exact body p e s m _ below meth c _ B.exec B.bytes B.returns hml (findClass_of_methodNamed B.named) B.notSynchronized (name_of_methodNamed B.named B.method).1 (atoms_spec (ws := ws) B.pre) hK hNe hP hz (lv_entry av hal)
end XAL
