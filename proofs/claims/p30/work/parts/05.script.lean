/-! The law's script: a row of ints below B0, read and never written. -/
def xcmpl (x y : UInt64) : Int32 := Op.cmpValue (FP.dcmp x y) .l
def xcmpg (x y : UInt64) : Int32 := Op.cmpValue (FP.dcmp x y) .g
def xsld (L : Nat) (xs : Nat → Int32) (i : Int32) : Option Int32 := if xin i L = true then some (xs i.toNatClampNeg) else none
theorem xr_sld {p : Program} {l : Launch} {e : Env} {R : Room} {s : State} {m : MethodId} {args : Array Value} {below : List Frame} {meth : Method} {c : Code} {H : Heap} {locs : List Loc} {cells slots : Nat} {Q : State → Prop} {cc : ByteArray} {pc : Nat} {ls : Array Slot} {rest : List Value} {B0 : Nat} (hexec : p.tables.exec = Jvm.exec) (hb : c.code = cc) {b L : Nat} {xs : Nat → Int32} (hX : va_X b L xs s s.heap) (hbl : b < s.heap.size) (hbA : ¬ xA B0 b) (hS : va_S (xA B0) s.heap H locs) {i v : Int32} (e1 : xsld L xs i = some v) (hdg : decode cc pc = .ok (.iaload, 1))
    (kk : W p l e R s m args below meth c H locs cells slots Q (F0 m (pc + 1) ls (.int v :: rest))) : W p l e R s m args below meth c H locs cells slots Q (F0 m pc ls (.int i :: .ref b :: rest)) := by
  unfold xsld at e1
  split at e1
  · next hq =>
    cases e1
    exact va_sld hexec hb hX hbl hbA hS (xin_vp hq) hdg kk
  · cases e1
/-- a heap, and the script beside it -/
def xUS (B0 : Nat) (G : XG) (h : XH) (b L : Nat) (xs : Nat → Int32) : State → Prop := fun U => xU B0 G h U ∧ va_X b L xs U U.heap ∧ b < U.heap.size ∧ ¬ xA B0 b
theorem xUS_blind {B0 : Nat} {G : XG} {h : XH} {b L : Nat} {xs : Nat → Int32} {av : List Value} : FrameBlind (va_Pc av (xUS B0 G h b L xs)) := fun a U g mk q => by
  obtain ⟨q0, qU, qX, qb⟩ := q
  exact ⟨q0, (xU_blind (av := av) a U g mk ⟨q0, qU⟩).2, va_X.moved (u := U) (U := U.calling g mk a) (Vm.Alike.refl U.vm) qX, qb⟩
section XSC
variable {p : Program} {l : Launch} {e : Env} {R : Room} {s : State} {m : MethodId} {args : Array Value} {below : List Frame} {meth : Method} {c : Code} {H : Heap} {locs : List Loc} {cells slots : Nat} {Q : State → Prop}
variable {cc : ByteArray} {pc nL : Nat} {ls : Array Slot} {rest st0 : List Value} {B0 : Nat} {G : XG} {h h1 : XH} {H0 : Heap} {a : Nat}
variable {y : MethodName} {bytes : ByteArray} {maxL n index : Nat} {ret : Option FieldType} {ws Ts : List Cond} {rm : Room} {own C : String} {As : List Value} {b L : Nat} {xs : Nat → Int32}
theorem xMetS {l : Launch} {ws' : List Cond} {av : List Value} {Qc : Array Value → State → Outcome → State → Prop} {mc ms : Nat} {cc : ByteArray} {maxL : Nat} (hy : plainName y.cls = true) (hw : ws = Cond.code y cc maxL ret :: ws') (hal : (lg_sl av).length ≤ maxL)
    (body : ∀ (p : Program) (e : Env) (s : State) (m : MethodId) (args : Array Value) (below : List Frame) (meth : Method) (c : Code) (ls : Array Slot), p.tables.exec = Jvm.exec → c.code = cc → meth.sig.returnType = ret → c.maxLocals = maxL → s.vm.findClass y.cls = some m.cls → meth.locks = false → meth.name = y.name → (∀ w ∈ ws, w.before args s = true) → xK G s → va_X b L xs s s.heap → b < s.heap.size → ¬ xA B0 b → xP B0 G h s.heap → lv_has ls maxL (lv_args 0 av) →
      W p l e rm s m args below meth c s.heap [] 0 0 (MQ below Qc args s mc ms (xA B0)) (F0 m 0 ls [])) : Met l y ws rm (va_Pc av (xUS B0 G h b L xs)) Qc mc ms (xA B0) := by
  refine Met.ofW (cc := cc) (maxL := maxL) (ret := ret) hy hw ?_
  intro p e s m args below meth c s₁ B hml hv
  obtain ⟨rfl, ⟨hP, hK⟩, hX, hbl, hbA⟩ := hv
  rw [lg_entry_eq]
  exact body p e s m _ below meth c _ B.exec B.bytes B.returns hml (findClass_of_methodNamed B.named) B.notSynchronized (name_of_methodNamed B.named B.method).1 (atoms_spec (ws := ws) B.pre) hK hX hbl hbA hP (lv_entry av hal)
theorem xc_SiS (S : CallFix p m c cc nL s args Ts own) {r : Int32} (hM : Met l y ws rm (va_Pc As (xUS B0 G h b L xs)) (xQi B0 G h1 r) 0 0 (xA B0)) (cw : CallB R s args own index y bytes maxL ret ws rm 0 0 n ∧ (Cond.static y).before args s = true) (hK : xK G s) (hX : va_X b L xs s s.heap) (hbl : b < s.heap.size) (hbA : ¬ xA B0 b) (hP : xP B0 G h H) (hS : va_S (xA B0) s.heap H locs) (hn : As.length = n) (hsize : ls.size = nL) (hst : st0 = As.reverse ++ rest) (hroom : (rest.map fun v => v.category).sum ≤ 8) (hdg : decode cc pc = .ok (.invokestatic index, 3)) (hf : cells ≤ R.cells ∧ slots ≤ R.slots)
    (kk : ∀ (H1 : Heap) (locs1 : List Loc), xP B0 G h1 H1 → va_S (xA B0) s.heap H1 locs1 → W p l e R s m args below meth c H1 locs1 cells slots Q (F0 m (pc + 3) ls (.int r :: rest))) : W p l e R s m args below meth c H locs cells slots Q (F0 m pc ls st0) := by
  have hX1 : va_X b L xs s H := hX.kept (hS.2.1 b hbl hbA)
  have hb1 : b < H.size := Nat.lt_of_lt_of_le hbl hS.1
  refine va_calli (va_runS S hM cw ⟨xUS_blind, fun U hU hW => ⟨rfl, ⟨by rw [hU]; exact hP, hK.moved hW.alike⟩, by rw [hU]; exact hX1.moved hW.alike, by rw [hU]; exact hb1, hbA⟩⟩ rfl hn hsize hst (lv_room hroom) hdg hf) hS (fun q _ h => h) (fun q h => h) (fun r' u t H1 locs1 ht hvm hp hB hz hk hS1 => ?_)
  subst hp
  subst ht
  exact kk _ _ hB.1 hS1
end XSC
/-- what stands all the way through the law -/
def xLC (p : Program) (s : State) (m : MethodId) (c : Code) (B0 : Nat) (G : XG) (b L : Nat) (xs : Nat → Int32) : Prop :=
  p.tables.exec = Jvm.exec ∧ c.code = cL_law ∧ c.maxLocals = 8 ∧ s.vm.findClass RL = some m.cls ∧ (∀ w ∈ wsL_law, w.before #[Value.ref b] s = true) ∧ va_X b L xs s s.heap ∧ b < s.heap.size ∧ ¬ xA B0 b ∧ xK G s
