/-! A method that catches what it calls. -/
def xcatch {α β : Type} (o : Option (α ⊕ Nat)) (f : α → Option β) (g : Nat → Option β) : Option β := match o with
  | none => none
  | some (.inl v) => f v
  | some (.inr n) => g n
theorem xcatch_e {α β : Type} {o : Option (α ⊕ Nat)} {f : α → Option β} {g : Nat → Option β} {r : β} (h : xcatch o f g = some r) : (∃ v, o = some (.inl v) ∧ f v = some r) ∨ ∃ n, o = some (.inr n) ∧ g n = some r := by
  unfold xcatch at h
  split at h
  · cases h
  · exact Or.inl ⟨_, rfl, h⟩
  · exact Or.inr ⟨_, rfl, h⟩
def xCas (U : State) : Prop := va_Nc (xEx 0) (xEx 1) U ∧ va_Nc (xEx 0) (xEx 2) U ∧ va_Nc (xEx 1) (xEx 0) U ∧ va_Nc (xEx 1) (xEx 2) U ∧ va_Nc (xEx 2) (xEx 0) U ∧ va_Nc (xEx 2) (xEx 1) U
theorem xCas.moved {u U : State} (hvm : u.vm.Alike U.vm) (h : xCas u) : xCas U := ⟨h.1.moved hvm, h.2.1.moved hvm, h.2.2.1.moved hvm, h.2.2.2.1.moved hvm, h.2.2.2.2.1.moved hvm, h.2.2.2.2.2.moved hvm⟩
def xUL (B0 : Nat) (G : XG) (h : XH) : State → Prop := fun U => xUX B0 G h U ∧ xCas U
theorem xUL_blind {B0 : Nat} {G : XG} {h : XH} {av : List Value} : FrameBlind (va_Pc av (xUL B0 G h)) := fun a U g mk q => by
  obtain ⟨q0, qX, qC⟩ := q
  exact ⟨q0, (xUX_blind (av := av) a U g mk ⟨q0, qX⟩).2, qC.moved (u := U) (U := U.calling g mk a) (Vm.Alike.refl U.vm)⟩
section XWR
variable {p : Program} {l : Launch} {e : Env} {R : Room} {s : State} {m : MethodId} {args : Array Value} {below : List Frame} {meth : Method} {c : Code} {H : Heap} {locs : List Loc} {cells slots : Nat} {Q : State → Prop}
variable {cc : ByteArray} {pc nL : Nat} {ls : Array Slot} {rest st0 : List Value} {B0 : Nat} {G : XG} {h h1 : XH} {a code : Nat}
variable {y : MethodName} {bytes : ByteArray} {maxL n index : Nat} {ret : Option FieldType} {ws Ts : List Cond} {rm : Room} {own C : String} {b : Nat} {As : List Value}
theorem xMetW {l : Launch} {ws' : List Cond} {av : List Value} {Qc : Array Value → State → Outcome → State → Prop} {mc ms : Nat} {cc : ByteArray} {maxL : Nat} {hh : List (Nat × Nat × Nat × Nat)} (hy : plainName y.cls = true) (hw : ws = Cond.codeWith y cc maxL ret hh :: ws') (hal : (lg_sl av).length ≤ maxL)
    (body : ∀ (p : Program) (e : Env) (s : State) (m : MethodId) (args : Array Value) (below : List Frame) (meth : Method) (c : Code) (ls : Array Slot), p.tables.exec = Jvm.exec → c.code = cc → meth.sig.returnType = ret → c.maxLocals = maxL → s.vm.findClass y.cls = some m.cls → meth.locks = false → c.exceptionTable.toList = tableOf hh → (∀ w ∈ ws, w.before args s = true) → xK G s → xP B0 G h s.heap → xZ B0 s → xStr s → xCas s → lv_has ls maxL (lv_args 0 av) →
      W p l e rm s m args below meth c s.heap [] 0 0 (MQ below Qc args s mc ms (xA B0)) (F0 m 0 ls [])) : Met l y ws rm (va_Pc av (xUL B0 G h)) Qc mc ms (xA B0) := by
  refine va_MetW (cc := cc) (maxL := maxL) (ret := ret) (hh := hh) hy hw ?_
  intro p e s m args below meth c s₁ B hml hv
  obtain ⟨rfl, ⟨⟨hP, hK⟩, hZ, hX⟩, hC⟩ := hv
  rw [lg_entry_eq]
  have hts := atoms_spec (ws := ws) B.pre
  exact body p e s m _ below meth c _ B.exec B.bytes B.returns hml (findClass_of_methodNamed B.named) B.notSynchronized (vx_table (x := y) B (hts _ (by rw [hw]; exact List.mem_cons_self))) hts hK hP hZ hX hC (lv_entry av hal)
/-- a call of such a method -/
theorem xc_SWi {hh : List (Nat × Nat × Nat × Nat)} {mc ms : Nat} (S : CallFix p m c cc nL s args Ts own) {r : Int32} (hM : Met l y ws rm (va_Pc As (xUL B0 G h)) (xQi B0 G h1 r) mc ms (xA B0)) (cw : vx_CSW R s args own index y bytes maxL ret hh ws rm mc ms n) (hK : xK G s) (hZ : xZ B0 s) (hX : xStr s) (hC : xCas s) (hP : xP B0 G h H) (hS : va_S (xA B0) s.heap H locs) (hn : As.length = n) (hsize : ls.size = nL) (hst : st0 = As.reverse ++ rest) (hroom : (rest.map fun v => v.category).sum ≤ 8) (hdg : decode cc pc = .ok (.invokestatic index, 3)) (hf : cells + mc ≤ R.cells ∧ slots + ms ≤ R.slots)
    (kk : ∀ (H1 : Heap) (locs1 : List Loc), xP B0 G h1 H1 → va_S (xA B0) s.heap H1 locs1 → W p l e R s m args below meth c H1 locs1 (cells + mc) (slots + ms) Q (F0 m (pc + 3) ls (.int r :: rest))) : W p l e R s m args below meth c H locs cells slots Q (F0 m pc ls st0) := by
  refine va_calli (vx_runSW S hM cw ⟨xUL_blind, fun U hU hW => ⟨rfl, ⟨⟨by rw [hU]; exact hP, hK.moved hW.alike⟩, hZ.at hS hU hW, hX.warm hW⟩, hC.moved hW.alike⟩⟩ rfl hn hsize hst (lv_room hroom) hdg hf) hS (fun q _ h => h) (fun q h => h) (fun r' u t H1 locs1 ht hvm hp hB hz hk hS1 => ?_)
  subst hp
  subst ht
  exact kk _ _ hB.1 hS1
end XWR
