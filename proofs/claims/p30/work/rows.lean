section
-- ===== PART A: goes FIRST, ahead of the names: the tables' words, and 'selects' of the private methods out of them =====
/-- a private method of a class that the tables say can be made, by its rows of tables_1 -/
def lw_okq (q : MethodName × Nat) : Prop := (q.1.cls ≠ "java/lang/invoke/MethodHandle" ∧ q.1.cls ≠ "java/lang/invoke/VarHandle") ∧ Cond.instantiable q.1.cls q.2 ∈ tables_1 ∧ Cond.privateMethod q.1 ∈ tables_1 ∧ Cond.instanceMethod q.1 ∈ tables_1
theorem lw_p0 : lw_okq (⟨"java/lang/Throwable", "fillInStackTrace", "(I)Ljava/lang/Throwable;"⟩, 6) := ⟨⟨by decide +kernel, by decide +kernel⟩, List.mem_of_getElem? (i := 247) (by decide +kernel), List.mem_of_getElem? (i := 245) (by decide +kernel), List.mem_of_getElem? (i := 246) (by decide +kernel)⟩
theorem lw_p1 : lw_okq (⟨"RainReservoir", "save", "()V"⟩, 5) := ⟨⟨by decide +kernel, by decide +kernel⟩, List.mem_of_getElem? (i := 16) (by decide +kernel), List.mem_of_getElem? (i := 284) (by decide +kernel), List.mem_of_getElem? (i := 285) (by decide +kernel)⟩
theorem lw_p2 : lw_okq (⟨"RainReservoir", "prepareTrial", "()V"⟩, 5) := ⟨⟨by decide +kernel, by decide +kernel⟩, List.mem_of_getElem? (i := 16) (by decide +kernel), List.mem_of_getElem? (i := 346) (by decide +kernel), List.mem_of_getElem? (i := 347) (by decide +kernel)⟩
theorem lw_p3 : lw_okq (⟨"RainReservoir$State", "drainWhenDry", "(I)I"⟩, 16) := ⟨⟨by decide +kernel, by decide +kernel⟩, List.mem_of_getElem? (i := 24) (by decide +kernel), List.mem_of_getElem? (i := 354) (by decide +kernel), List.mem_of_getElem? (i := 355) (by decide +kernel)⟩
theorem lw_p4 : lw_okq (⟨"RainReservoir$State", "put", "(III)V"⟩, 16) := ⟨⟨by decide +kernel, by decide +kernel⟩, List.mem_of_getElem? (i := 24) (by decide +kernel), List.mem_of_getElem? (i := 380) (by decide +kernel), List.mem_of_getElem? (i := 381) (by decide +kernel)⟩
theorem lw_p5 : lw_okq (⟨"RainReservoir", "setTrialCapacity", "(I)V"⟩, 5) := ⟨⟨by decide +kernel, by decide +kernel⟩, List.mem_of_getElem? (i := 16) (by decide +kernel), List.mem_of_getElem? (i := 384) (by decide +kernel), List.mem_of_getElem? (i := 385) (by decide +kernel)⟩
theorem lw_p6 : lw_okq (⟨"RainReservoir$Users", "orderByNumber", "()V"⟩, 3) := ⟨⟨by decide +kernel, by decide +kernel⟩, List.mem_of_getElem? (i := 57) (by decide +kernel), List.mem_of_getElem? (i := 411) (by decide +kernel), List.mem_of_getElem? (i := 412) (by decide +kernel)⟩
theorem lw_p7 : lw_okq (⟨"RainReservoir$Users", "serveOrder", "(I)V"⟩, 3) := ⟨⟨by decide +kernel, by decide +kernel⟩, List.mem_of_getElem? (i := 57) (by decide +kernel), List.mem_of_getElem? (i := 415) (by decide +kernel), List.mem_of_getElem? (i := 416) (by decide +kernel)⟩
theorem lw_p8 : lw_okq (⟨"RainReservoir$Users", "share", "(III)V"⟩, 3) := ⟨⟨by decide +kernel, by decide +kernel⟩, List.mem_of_getElem? (i := 57) (by decide +kernel), List.mem_of_getElem? (i := 428) (by decide +kernel), List.mem_of_getElem? (i := 429) (by decide +kernel)⟩
theorem lw_p9 : lw_okq (⟨"RainReservoir$Users", "shareByDemand", "(II)V"⟩, 3) := ⟨⟨by decide +kernel, by decide +kernel⟩, List.mem_of_getElem? (i := 57) (by decide +kernel), List.mem_of_getElem? (i := 432) (by decide +kernel), List.mem_of_getElem? (i := 433) (by decide +kernel)⟩
theorem lw_p10 : lw_okq (⟨"RainReservoir$Users", "shareInRounds", "(I)V"⟩, 3) := ⟨⟨by decide +kernel, by decide +kernel⟩, List.mem_of_getElem? (i := 57) (by decide +kernel), List.mem_of_getElem? (i := 436) (by decide +kernel), List.mem_of_getElem? (i := 437) (by decide +kernel)⟩
theorem lw_p11 : lw_okq (⟨"RainReservoir$Users", "fullRounds", "(I)I"⟩, 3) := ⟨⟨by decide +kernel, by decide +kernel⟩, List.mem_of_getElem? (i := 57) (by decide +kernel), List.mem_of_getElem? (i := 440) (by decide +kernel), List.mem_of_getElem? (i := 441) (by decide +kernel)⟩
theorem lw_p12 : lw_okq (⟨"RainReservoir$Users", "orderByDemand", "()V"⟩, 3) := ⟨⟨by decide +kernel, by decide +kernel⟩, List.mem_of_getElem? (i := 57) (by decide +kernel), List.mem_of_getElem? (i := 450) (by decide +kernel), List.mem_of_getElem? (i := 451) (by decide +kernel)⟩
theorem lw_p13 : lw_okq (⟨"RainReservoir", "checkRoomForDays", "(I)V"⟩, 5) := ⟨⟨by decide +kernel, by decide +kernel⟩, List.mem_of_getElem? (i := 16) (by decide +kernel), List.mem_of_getElem? (i := 583) (by decide +kernel), List.mem_of_getElem? (i := 584) (by decide +kernel)⟩
def lw_privs_1 : List (MethodName × Nat) := [(⟨"java/lang/Throwable", "fillInStackTrace", "(I)Ljava/lang/Throwable;"⟩, 6), (⟨"RainReservoir", "save", "()V"⟩, 5), (⟨"RainReservoir", "prepareTrial", "()V"⟩, 5), (⟨"RainReservoir$State", "drainWhenDry", "(I)I"⟩, 16), (⟨"RainReservoir$State", "put", "(III)V"⟩, 16), (⟨"RainReservoir", "setTrialCapacity", "(I)V"⟩, 5), (⟨"RainReservoir$Users", "orderByNumber", "()V"⟩, 3), (⟨"RainReservoir$Users", "serveOrder", "(I)V"⟩, 3), (⟨"RainReservoir$Users", "share", "(III)V"⟩, 3), (⟨"RainReservoir$Users", "shareByDemand", "(II)V"⟩, 3), (⟨"RainReservoir$Users", "shareInRounds", "(I)V"⟩, 3), (⟨"RainReservoir$Users", "fullRounds", "(I)I"⟩, 3), (⟨"RainReservoir$Users", "orderByDemand", "()V"⟩, 3), (⟨"RainReservoir", "checkRoomForDays", "(I)V"⟩, 5)]
theorem lw_r1 : ∀ q ∈ lw_privs_1, lw_okq q := List.forall_mem_cons.mpr ⟨lw_p0, List.forall_mem_cons.mpr ⟨lw_p1, List.forall_mem_cons.mpr ⟨lw_p2, List.forall_mem_cons.mpr ⟨lw_p3, List.forall_mem_cons.mpr ⟨lw_p4, List.forall_mem_cons.mpr ⟨lw_p5, List.forall_mem_cons.mpr ⟨lw_p6, List.forall_mem_cons.mpr ⟨lw_p7, List.forall_mem_cons.mpr ⟨lw_p8, List.forall_mem_cons.mpr ⟨lw_p9, List.forall_mem_cons.mpr ⟨lw_p10, List.forall_mem_cons.mpr ⟨lw_p11, List.forall_mem_cons.mpr ⟨lw_p12, List.forall_mem_cons.mpr ⟨lw_p13, fun _ h => absurd h List.not_mem_nil⟩⟩⟩⟩⟩⟩⟩⟩⟩⟩⟩⟩⟩⟩
def lw_privs : List (MethodName × Nat) := lw_privs_1
def lw_tbl : List Cond := k2_sels lw_privs ++ tables_1
theorem lw_privs_ok : ∀ q ∈ lw_privs, lw_okq q := lw_r1
/-- the streams that the claim lets the run draw from -/
abbrev lw_cs : List Choice := [Jvm.Choice.named "NaN.bits"]
theorem lw_bits : nanBits ∈ lw_cs := by first | decide | exact List.mem_cons_self | simp [lw_cs, nanBits]
-- ===== end of PART A; then your names; then what follows =====
/-! ===== BEGIN words of one list among another's, by their places ===== -/
theorem goodIn_r {big : List Cond} (ws : List Cond) (ps : List Nat) (hp : ws = ps.filterMap (fun i => big[i]?)) (h : ws.all goodWord = true) : GoodIn big ws := by
  intro w hw
  have h1 := List.all_eq_true.mp h w hw
  rw [hp] at hw
  obtain ⟨i, -, hi⟩ := List.mem_filterMap.mp hw
  have hm : w ∈ big := by first | exact List.mem_of_getElem? hi | exact List.getElem?_mem hi
  exact ⟨hm, good_of_word h1⟩
theorem goodIn_app {big a b : List Cond} (ha : GoodIn big a) (hb : GoodIn big b) : GoodIn big (a ++ b) := fun w h => (List.mem_append.mp h).elim (ha w) (hb w)
theorem goodIn_ca {big a b : List Cond} {c : Cond} (ha : GoodIn big (c :: a)) (hb : GoodIn big b) : GoodIn big (c :: (a ++ b)) := fun w h => (List.mem_cons.mp h).elim (fun e => ha w (List.mem_cons.mpr (Or.inl e))) (fun h => (List.mem_append.mp h).elim (fun h => ha w (List.mem_cons.mpr (Or.inr h))) (hb w))
theorem goodIn_sub {big ws : List Cond} (hm : ∀ w ∈ ws, w ∈ big) (h : ws.all goodWord = true) : GoodIn big ws := fun w hw => ⟨hm w hw, good_of_word (List.all_eq_true.mp h w hw)⟩
/-! ===== END ===== -/

/-! ===== BEGIN exceptions that leave a method, and their catching by the caller (launches without stack traces) ===== -/
section VXA
/-! The laws vx_back, vx_callV, vx_callS, vx_callSW, vx_throw0, vx_throwS follow proofs of the library, with one case more: JvmDerived/Free/Laws.lean (Back.of_free), Shelf42/LK1.lean (callV, callS), Shelf/KitTraced.lean (throwNew0V, throwNewS). -/
/-- where a method has thrown q: the class by its name, the cell, what was written, the world -/
def vx_T (XC : String → State → State → Prop) (st : State) (q : Addr) (t : State) (mc ms : Nat) (free : Addr → Prop) : Prop :=
  ∃ (E : String) (ce : Cell) (L : List Loc), XC E st t ∧ t.heap[q]? = some ce ∧ ce.vm = .none ∧ st.vm.findClass E = some ce.cls ∧ st.WarmedH t.vm ∧ st.sameButNew ({ t with vm := st.vm } : State) L mc ms ∧ ∀ z ∈ L, free z.base
def vx_Q (Qc : Array Value → State → Outcome → State → Prop) (XC : String → State → State → Prop) (mc ms : Nat) (free : Addr → Prop) : Array Value → State → Outcome → State → Prop := fun a st o t =>
  (Qc a st o t ∧ ∃ L, FrameEnd st o t L mc ms ∧ ∀ q ∈ L, free q.base) ∨ ∃ q, o = .threw q ∧ vx_T XC st q t mc ms free
/-- a callee that returns or throws -/
def vx_Met (l : Launch) (y : MethodName) (ws : List Cond) (rm : Room) (Pc : Array Value → State → Prop) (Qc : Array Value → State → Outcome → State → Prop) (XC : String → State → State → Prop) (mc ms : Nat) (free : Addr → Prop) : Prop :=
  MetFree l y (headSpec ws rm) Pc (fun _ _ _ _ _ => True) (vx_Q Qc XC mc ms free)
def vx_Post (XC : String → State → State → Prop) (mc ms : Nat) (free : Addr → Prop) : Pt → Array Value → Addr → Pt → Prop := fun A a q B =>
  ∃ (g : JFrame) (mk : MethodId) (t : State) (L : List Loc) (E : String) (ce : Cell), B.U.heap = t.heap ∧ B.U.vm = t.vm ∧ XC E (A.U.calling g mk a) t ∧ t.heap[q]? = some ce ∧ ce.vm = .none ∧ A.U.vm.findClass E = some ce.cls ∧ B.locs = A.locs ++ L ∧ (∀ z ∈ L, free z.base) ∧ B.cells = A.cells + mc ∧ B.slots = A.slots + ms
def vx_Back (l : Launch) (R : Room) (p : Program) (e : Env) (below : List Frame) (s : State) (sargs : Array Value) (y : MethodName) (len W9 : Nat)
    (Pre : Pt → Array Value → Prop) (Post : Pt → Array Value → Option Value → Pt → Prop) (PostX : Pt → Array Value → Addr → Pt → Prop) : Prop :=
  ∀ (m : MethodId) (meth : Method) (c : Code) (A : Pt) (g : JFrame) (ig : Instr) (mk : MethodId) (a : Array Value),
    Stand p l e R s m sargs below meth c A.U A.locs A.cells A.slots → g.method = m → g.locals.size = c.maxLocals → decode c.code g.pc = .ok (ig, len) →
    2 * g.monitorRoom + (g.stack.map fun v => v.category).sum ≤ W9 → A.U.methodNamed? y = some mk → Pre A a →
    (∃ (v : Option Value) (B : Pt), Stand p l e R s m sargs below meth c B.U B.locs B.cells B.slots ∧ Post A a v B ∧
      Steps p.tables e below (doInvoke e (A.U.setTop g) [] mk a).1 (B.U.setTop { g with pc := g.pc + len, stack := v.toList ++ g.stack })) ∨
    (∃ (q : Addr) (B : Pt), Stand p l e R s m sargs below meth c B.U B.locs B.cells B.slots ∧ PostX A a q B ∧
      Steps p.tables e below (doInvoke e (A.U.setTop g) [] mk a).1 ((B.U.setTop g).pushFrame (.throwing q)))
section Payer
variable {l : Launch} {R : Room} {p : Program} {e : Env} {below : List Frame} {s : State} {sargs : Array Value} {y : MethodName} {len W9 : Nat}
theorem vx_back {ws : List Cond} {rm : Room} {Pc : Array Value → State → Prop} {Qc : Array Value → State → Outcome → State → Prop} {XC : String → State → State → Prop} {mc ms : Nat} {free : Addr → Prop} {bytes : ByteArray} {maxL : Nat} {ret : Option FieldType}
    (hM : vx_Met l y ws rm Pc Qc XC mc ms free) (hblind : FrameBlind Pc) (hrc : rm.cells = mc) (hrs : rm.slots = ms)
    (hframes : rm.frames + 1 ≤ R.frames) (hlocals : W9 + (maxL + 11) + rm.locals ≤ R.locals)
    (hws : ∀ w ∈ ws, ∀ a' U, s.WarmedH U.vm → w.before a' U = true) (hcode : Cond.code y bytes maxL ret ∈ ws) (hinit : ∀ a' U, s.WarmedH U.vm → (Cond.initialized y.cls).before a' U = true) :
    vx_Back l R p e below s sargs y len W9 (PreOf R mc ms Pc) (PostOf Qc mc ms free) (vx_Post XC mc ms free) := by
  intro m meth c A g ig mk a X hg hsize hdg hW hn hp
  have h1 : (headSpec ws rm).pre.before a A.U = true := atoms_intro fun w hw => hws w hw _ _ X.warmed
  have h2 : (Cond.code y bytes maxL ret).before a A.U = true := hws _ hcode _ _ X.warmed
  have h3 : (Cond.initialized y.cls).before a A.U = true := hinit _ _ X.warmed
  have h4 : A.cells + (headSpec ws rm).room.cells ≤ R.cells := by rw [show (headSpec ws rm).room.cells = mc from hrc]; exact hp.1
  have h5 : A.slots + (headSpec ws rm).room.slots ≤ R.slots := by rw [show (headSpec ws rm).room.slots = ms from hrs]; exact hp.2.1
  have hPc : Pc a (A.U.calling g mk a) := hblind _ _ _ _ hp.2.2
  obtain ⟨U, Ls, c0, s0⟩ := A
  dsimp only [Pt.U, Pt.locs, Pt.cells, Pt.slots] at h1 h2 h3 h4 h5 X hn hPc ⊢
  obtain ⟨methY, cY, hmY, hcY, -, hlY, -, -, -, -⟩ := Cond.code_spec hn h2
  obtain ⟨kY, hkY, -⟩ := className_of_methodNamed hn
  have hinitY : kY.init = .initialized := Cond.initialized_spec (findClass_of_methodNamed hn) hkY h3
  have h : At U g.method c below := by rw [hg]; exact X.here
  have hlocals9 : W9 + (maxL + 11) + (headSpec ws rm).room.locals ≤ R.locals := hlocals
  have happ : (headSpec ws rm).appliesLoose y e.platform (U.calling g mk a) = true :=
    Spec.appliesLoose_calling (g := g) h hdg hn hkY hinitY
      (X.room_calling (g := g) (R' := (headSpec ws rm).room) hsize hmY hcY hframes (by rw [hlY]; omega) h4 h5) h1
  obtain ⟨mid, hmid⟩ := h.above
  have hfr : (U.setTop g).frames = (.java g :: mid) ++ below := by rw [State.frames_setTop' g h.top, hmid]; rfl
  obtain ⟨o, s₂, hsteps, -, hend, hq⟩ := Steps.callFree hM p X.admits X.cas X.clock (acts := []) hfr happ hPc trivial
  have hq' : vx_Q Qc XC mc ms free a (U.calling g mk a) o s₂ := hq
  rw [State.frames_setTop' g h.top] at hend
  obtain ⟨g₀, hg0⟩ := Option.isSome_iff_exists.mp h.top
  obtain ⟨r, hr⟩ := State.topJava?_eq_some.mp hg0
  have hr' : (({ U with heap := s₂.heap, slotsUsed := s₂.slotsUsed } : State).setVm s₂.vm).frames = .java g₀ :: r := hr
  rcases hq' with ⟨hqc, L, hfe, hL⟩ | ⟨q, rfl, E, ce, L, hx, hce, hcv, hcl, hW₂, hsm, hL⟩
  · obtain ⟨⟨v, rfl⟩, hW₂, e2, q2, q3, q4, q5, q6⟩ := id hfe
    have e3 : s₂ = ({ (U.calling g mk a).setFrames s₂.frames with heap := s₂.heap, slotsUsed := s₂.slotsUsed } : State).setVm s₂.vm := by
      have : s₂ = ({ s₂ with vm := (U.calling g mk a).vm } : State).setVm s₂.vm := rfl
      rw [e2] at this
      exact this
    obtain ⟨c₂, i₂, len₂, hc₂, hd₂, hf₂⟩ := hend
    have hW' : U.WarmedH s₂.vm := hW₂
    have hcc : c₂ = c := by
      have h1 : s₂.code? g.method = U.code? g.method := by
        rw [State.code?_eq, State.code?_eq, hW'.alike.method?]
      exact Option.some.inj (hc₂.symm.trans (h1.trans h.code))
    subst hcc
    have hlen : len₂ = len := by rw [hdg] at hd₂; cases hd₂; rfl
    subst hlen
    have hs₂ : s₂ = (({ U with heap := s₂.heap, slotsUsed := s₂.slotsUsed } : State).setVm s₂.vm).setTop { g with pc := g.pc + len₂, stack := v.toList ++ g.stack } := by
      refine e3.trans ?_
      rw [hf₂, State.calling_eq h.top, State.setFrames_setFrames, State.setTop_of_frames _ hr', hr]
      rfl
    have hsame : U.sameButNew ({ U with heap := s₂.heap, slotsUsed := s₂.slotsUsed } : State) L mc ms := by
      refine ⟨?_, q2, q3, q4, q5, q6⟩
      obtain ⟨t, ht, -⟩ := State.frames_cons hr
      show ({ U with heap := s₂.heap, slotsUsed := s₂.slotsUsed } : State) = { U.setFrames U.frames with heap := s₂.heap, slotsUsed := s₂.slotsUsed }
      rw [State.setFrames_self ht]
    subst hg
    refine Or.inl ⟨v, ⟨(({ U with heap := s₂.heap, slotsUsed := s₂.slotsUsed } : State).setVm s₂.vm), Ls ++ L, c0 + mc, s0 + ms⟩,
      ⟨X.admits, X.cas, X.clock, X.frames, X.room, X.hears, X.method, X.code, (X.here.setHeapUsed s₂.heap s₂.slotsUsed).setVm hW'.alike, X.tail, State.WarmedH.trans X.warmed hW', X.limits, X.bytes, X.same.trans (hsame.setVm s.vm)⟩,
      ⟨g, mk, s₂, L, rfl, rfl, hqc, rfl, hL, rfl, rfl⟩, ?_⟩
    show Steps p.tables e below _ ((({ U with heap := s₂.heap, slotsUsed := s₂.slotsUsed } : State).setVm s₂.vm).setTop { g with pc := g.pc + len₂, stack := v.toList ++ g.stack })
    rw [← hs₂]
    exact hsteps
  · obtain ⟨e2, q2, q3, q4, q5, q6⟩ := id hsm
    have e3 : s₂ = ({ (U.calling g mk a).setFrames s₂.frames with heap := s₂.heap, slotsUsed := s₂.slotsUsed } : State).setVm s₂.vm := by
      have : s₂ = ({ s₂ with vm := (U.calling g mk a).vm } : State).setVm s₂.vm := rfl
      rw [e2] at this
      exact this
    have hf₂ : s₂.frames = .throwing q :: .java g :: U.frames.tail := hend
    have hW' : U.WarmedH s₂.vm := hW₂
    have hs₂ : s₂ = ((({ U with heap := s₂.heap, slotsUsed := s₂.slotsUsed } : State).setVm s₂.vm).setTop g).pushFrame (.throwing q) := by
      refine e3.trans ?_
      rw [hf₂, State.calling_eq h.top, State.setFrames_setFrames, State.pushFrame, State.frames_setTop _ hr', State.setTop_of_frames _ hr', State.setFrames_setFrames, hr]
      rfl
    have hsame : U.sameButNew ({ U with heap := s₂.heap, slotsUsed := s₂.slotsUsed } : State) L mc ms := by
      refine ⟨?_, q2, q3, q4, q5, q6⟩
      obtain ⟨t, ht, -⟩ := State.frames_cons hr
      show ({ U with heap := s₂.heap, slotsUsed := s₂.slotsUsed } : State) = { U.setFrames U.frames with heap := s₂.heap, slotsUsed := s₂.slotsUsed }
      rw [State.setFrames_self ht]
    subst hg
    refine Or.inr ⟨q, ⟨(({ U with heap := s₂.heap, slotsUsed := s₂.slotsUsed } : State).setVm s₂.vm), Ls ++ L, c0 + mc, s0 + ms⟩,
      ⟨X.admits, X.cas, X.clock, X.frames, X.room, X.hears, X.method, X.code, (X.here.setHeapUsed s₂.heap s₂.slotsUsed).setVm hW'.alike, X.tail, State.WarmedH.trans X.warmed hW', X.limits, X.bytes, X.same.trans (hsame.setVm s.vm)⟩,
      ⟨g, mk, s₂, L, E, ce, rfl, rfl, hx, hce, hcv, hcl, rfl, hL, rfl, rfl⟩, ?_⟩
    show Steps p.tables e below _ (((({ U with heap := s₂.heap, slotsUsed := s₂.slotsUsed } : State).setVm s₂.vm).setTop g).pushFrame (.throwing q))
    rw [← hs₂]
    exact hsteps
end Payer
section Calls
variable {p : Program} {l : Launch} {e : Env} {R : Room} {s : State} {m : MethodId} {args : Array Value} {below : List Frame} {meth : Method} {c : Code} {T : State} {locs : List Loc} {cells slots : Nat}
theorem vx_callV (X : Stand p l e R s m args below meth c T locs cells slots) (hexec : p.tables.exec = Jvm.exec) {own C : String} {index : Nat} {y : MethodName} {bytes : ByteArray} {maxL : Nat} {ret : Option FieldType}
    (hown : s.vm.findClass own = some m.cls) (hlink : (Cond.methodLink own index y).before args s = true) (hinst : (Cond.instanceMethod y).before args s = true) (hsel : (Cond.selects C y y).before args s = true)
    (hcode : (Cond.code y bytes maxL ret).before args s = true) (hy : y.cls ≠ "java/lang/invoke/MethodHandle" ∧ y.cls ≠ "java/lang/invoke/VarHandle")
    {W9 : Nat} {Pre : Pt → Array Value → Prop} {Post : Pt → Array Value → Option Value → Pt → Prop} {PostX : Pt → Array Value → Addr → Pt → Prop} (hK : vx_Back l R p e below s args y 3 W9 Pre Post PostX)
    {b : Addr} {cellB : Cell} (hcell : T.heap[b]? = some cellB) (hobj : cellB.vm.isStatics = false) (hcls : s.vm.findClass C = some cellB.cls)
    {g : JFrame} (hg : g.method = m) (hsize : g.locals.size = c.maxLocals) {argsL rest : List Value} (hlen : ∀ sig, parseMethodDescriptor y.desc = some sig → argsL.length = sig.parameters.length)
    (hstack : g.stack = argsL.reverse ++ .ref b :: rest) (hW : 2 * g.monitorRoom + (rest.map fun v => v.category).sum ≤ W9) (hdg : decode c.code g.pc = .ok (.invokevirtual index, 3))
    (hpre : ∀ vm₁, s.WarmedH vm₁ → Pre ⟨T.setVm vm₁, locs, cells, slots⟩ (Value.ref b :: argsL).toArray) :
    (∃ (v : Option Value) (vm₁ : Vm) (B : Pt), s.WarmedH vm₁ ∧ Stand p l e R s m args below meth c B.U B.locs B.cells B.slots ∧ Post ⟨T.setVm vm₁, locs, cells, slots⟩ (Value.ref b :: argsL).toArray v B ∧
      ∀ target, Steps p.tables e below (B.U.setTop { g with pc := g.pc + 3, stack := v.toList ++ rest }) target → Steps p.tables e below (T.setTop g) target) ∨
    (∃ (q : Addr) (vm₁ : Vm) (B : Pt), s.WarmedH vm₁ ∧ Stand p l e R s m args below meth c B.U B.locs B.cells B.slots ∧ PostX ⟨T.setVm vm₁, locs, cells, slots⟩ (Value.ref b :: argsL).toArray q B ∧
      Steps p.tables e below (T.setTop g) ((B.U.setTop { g with stack := rest }).pushFrame (.throwing q))) := by
  obtain ⟨mk, methM, hnamed, hmethM, hstM, habM⟩ := Cond.instanceMethod_spec hinst
  obtain ⟨methM', cM, hmethM', -, -, -, -, -, -, hsigM⟩ := Cond.code_spec hnamed hcode
  cases hmethM.symm.trans hmethM'
  obtain ⟨c2, r2, m2, q1, q2, q3, q4, kP, hkP, hkPi⟩ := Cond.selects_spec hsel
  cases hcls.symm.trans q1
  cases (State.methodFound?_of_named hnamed hy).symm.trans q2
  cases hnamed.symm.trans q3
  have hselP : selectMethod e.platform s.vm cellB.cls mk = .method mk := by rw [Launch.admits_selectMethod X.admits]; exact q4
  obtain ⟨vm₁, X₁, hstep₁⟩ := X.invokevirtual hexec hown hlink hnamed hmethM hstM hkP hkPi hy (a := b) (cell := cellB) hcell
    (fun z h => by rw [h] at hobj; cases hobj) hselP hmethM habM hkP hkPi (g := g) hg (argsL := argsL) (rest := rest) (hlen _ hsigM) hstack hdg
  rcases hK m meth c ⟨T.setVm vm₁, locs, cells, slots⟩ { g with stack := rest } (.invokevirtual index) mk (Value.ref b :: argsL).toArray X₁ hg hsize hdg hW (X₁.named hnamed) (hpre vm₁ X₁.warmed) with ⟨v, B, X', hpost, hsteps⟩ | ⟨q, B, X', hpost, hsteps⟩
  · exact Or.inl ⟨v, vm₁, B, X₁.warmed, X', hpost, fun target h => hstep₁ _ fun acts => by rw [doInvoke_state]; exact hsteps.trans h⟩
  · exact Or.inr ⟨q, vm₁, B, X₁.warmed, X', hpost, hstep₁ _ fun acts => by rw [doInvoke_state]; exact hsteps⟩
theorem vx_callS (X : Stand p l e R s m args below meth c T locs cells slots) (hexec : p.tables.exec = Jvm.exec) {own : String} {index : Nat} {y : MethodName} {bytes : ByteArray} {maxL : Nat} {ret : Option FieldType}
    (hown : s.vm.findClass own = some m.cls) (hlink : (Cond.methodLink own index y).before args s = true) (hstat : (Cond.static y).before args s = true) (hinit : (Cond.initialized y.cls).before args s = true)
    (hcode : (Cond.code y bytes maxL ret).before args s = true) (hy : y.cls ≠ "java/lang/invoke/MethodHandle" ∧ y.cls ≠ "java/lang/invoke/VarHandle")
    {W9 : Nat} {Pre : Pt → Array Value → Prop} {Post : Pt → Array Value → Option Value → Pt → Prop} {PostX : Pt → Array Value → Addr → Pt → Prop} (hK : vx_Back l R p e below s args y 3 W9 Pre Post PostX)
    {g : JFrame} (hg : g.method = m) (hsize : g.locals.size = c.maxLocals) {argsL rest : List Value} (hlen : ∀ sig, parseMethodDescriptor y.desc = some sig → argsL.length = sig.parameters.length)
    (hstack : g.stack = argsL.reverse ++ rest) (hW : 2 * g.monitorRoom + (rest.map fun v => v.category).sum ≤ W9) (hdg : decode c.code g.pc = .ok (.invokestatic index, 3))
    (hpre : ∀ vm₁, s.WarmedH vm₁ → Pre ⟨T.setVm vm₁, locs, cells, slots⟩ argsL.toArray) :
    (∃ (v : Option Value) (vm₁ : Vm) (B : Pt), s.WarmedH vm₁ ∧ Stand p l e R s m args below meth c B.U B.locs B.cells B.slots ∧ Post ⟨T.setVm vm₁, locs, cells, slots⟩ argsL.toArray v B ∧
      ∀ target, Steps p.tables e below (B.U.setTop { g with pc := g.pc + 3, stack := v.toList ++ rest }) target → Steps p.tables e below (T.setTop g) target) ∨
    (∃ (q : Addr) (vm₁ : Vm) (B : Pt), s.WarmedH vm₁ ∧ Stand p l e R s m args below meth c B.U B.locs B.cells B.slots ∧ PostX ⟨T.setVm vm₁, locs, cells, slots⟩ argsL.toArray q B ∧
      Steps p.tables e below (T.setTop g) ((B.U.setTop { g with stack := rest }).pushFrame (.throwing q))) := by
  obtain ⟨mk, hnamed⟩ := Cond.code_named hcode
  obtain ⟨methM, cM, hmethM, -, -, -, -, -, -, hsigM⟩ := Cond.code_spec hnamed hcode
  have hstatic : methM.isStatic = true := Cond.static_spec hnamed hmethM hstat
  obtain ⟨kP, hkP, -⟩ := className_of_methodNamed hnamed
  have hinitP : kP.init = .initialized := Cond.initialized_spec (findClass_of_methodNamed hnamed) hkP hinit
  obtain ⟨vm₁, X₁, hstep₁⟩ := X.invokestatic hexec hown hlink hnamed hmethM hstatic hkP hinitP hy (g := g) hg (argsL := argsL) (rest := rest) (hlen _ hsigM) hstack hdg
  rcases hK m meth c ⟨T.setVm vm₁, locs, cells, slots⟩ { g with stack := rest } (.invokestatic index) mk argsL.toArray X₁ hg hsize hdg hW (X₁.named hnamed) (hpre vm₁ X₁.warmed) with ⟨v, B, X', hpost, hsteps⟩ | ⟨q, B, X', hpost, hsteps⟩
  · exact Or.inl ⟨v, vm₁, B, X₁.warmed, X', hpost, fun target h => hstep₁ _ fun acts => by rw [doInvoke_state]; exact hsteps.trans h⟩
  · exact Or.inr ⟨q, vm₁, B, X₁.warmed, X', hpost, hstep₁ _ fun acts => by rw [doInvoke_state]; exact hsteps⟩
end Calls
theorem vx_cls {s : State} {T : State} {vm₁ : Vm} {E : String} {k : ClassId} (hW : s.WarmedH vm₁) (h : (T.setVm vm₁).vm.findClass E = some k) : s.vm.findClass E = some k := by
  have h1 : vm₁.findClass E = some k := h
  rw [hW.alike.findClass] at h1
  exact h1
/-- the method's frame g, with q thrown over it -/
def vx_W (p : Program) (l : Launch) (e : Env) (R : Room) (s : State) (m : MethodId) (args : Array Value) (below : List Frame) (meth : Method) (c : Code) (H : Heap) (locs : List Loc) (cells slots : Nat) (Q : State → Prop) (g : JFrame) (q : Addr) : Prop :=
  ∀ T : State, T.heap = H → Stand p l e R s m args below meth c T locs cells slots → ∃ t, Steps p.tables e below ((T.setTop g).pushFrame (.throwing q)) t ∧ Q t
def vx_Run (p : Program) (l : Launch) (e : Env) (R : Room) (s : State) (m : MethodId) (args : Array Value) (below : List Frame) (meth : Method) (c : Code) (H : Heap) (locs : List Loc) (cells slots mc ms : Nat) (g : JFrame) (rest : List Value) (Qa : State → Outcome → State → Prop) (XC : String → State → State → Prop) (free : Addr → Prop) : Prop :=
  ∀ T : State, T.heap = H → Stand p l e R s m args below meth c T locs cells slots →
    (∃ (v : Option Value) (st₀ t T' : State) (L : List Loc), st₀.heap = H ∧ Stand p l e R s m args below meth c T' (locs ++ L) (cells + mc) (slots + ms) ∧ (∀ q ∈ L, free q.base) ∧ T'.heap = t.heap ∧ T'.vm = t.vm ∧ Qa st₀ (.returned v) t ∧
      Goes p e below T g T' { g with pc := g.pc + 3, stack := v.toList ++ rest }) ∨
    (∃ (q : Addr) (st₀ t T' : State) (L : List Loc) (E : String) (ce : Cell), st₀.heap = H ∧ Stand p l e R s m args below meth c T' (locs ++ L) (cells + mc) (slots + ms) ∧ (∀ z ∈ L, free z.base) ∧ T'.heap = t.heap ∧ T'.vm = t.vm ∧ XC E st₀ t ∧ t.heap[q]? = some ce ∧ ce.vm = .none ∧ s.vm.findClass E = some ce.cls ∧
      Steps p.tables e below (T.setTop g) ((T'.setTop { g with stack := rest }).pushFrame (.throwing q)))
def vx_X {S : Type} (px : S → Prop) (B : String → S → State → Prop) (A : Nat → Prop) : String → State → State → Prop := fun E st t => ∃ u : S, px u ∧ B E u t ∧ va_F A st t
section Runs
variable {p : Program} {l : Launch} {e : Env} {R : Room} {s : State} {m : MethodId} {args : Array Value} {below : List Frame} {meth : Method} {c : Code} {H : Heap} {locs : List Loc} {cells slots : Nat}
variable {y : MethodName} {bytes cc : ByteArray} {maxL nL mc ms n index : Nat} {ret : Option FieldType} {ws : List Cond} {rm : Room} {Pc : Array Value → State → Prop} {Qc : Array Value → State → Outcome → State → Prop} {XC : String → State → State → Prop} {free : Addr → Prop} {Ts : List Cond} {own C : String} {b : Addr} {As rest : List Value} {g : JFrame}
theorem vx_callBack (cb : CallB R s args own index y bytes maxL ret ws rm mc ms n) (hM : vx_Met l y ws rm Pc Qc XC mc ms free) (hbl : FrameBlind Pc) : vx_Back l R p e below s args y 3 8 (PreOf R mc ms Pc) (PostOf Qc mc ms free) (vx_Post XC mc ms free) := by
  obtain ⟨hrc, hrs, hfr, hlo, hws, hcw, -, hini, -⟩ := cb
  exact vx_back (bytes := bytes) (maxL := maxL) (ret := ret) hM hbl hrc hrs hfr hlo hws hcw (fun a' U hW => word_at hW (Or.inl (by first | rfl | simp [Cond.onTables, Cond.keeps, Cond.steady])) hini)
theorem vx_runV (S : CallFix p m c cc nL s args Ts own) (hM : vx_Met l y ws rm Pc Qc XC mc ms free) (cw : CallW R s args own C index y bytes maxL ret ws rm mc ms n) (hp : PreV s H C b Pc As)
    (hg : g.method = m) (hn : As.length = n) (hsize : g.locals.size = nL) (hstack : g.stack = As.reverse ++ .ref b :: rest) (hW : 2 * g.monitorRoom + (rest.map fun v => v.category).sum ≤ 8) (hdg : decode cc g.pc = .ok (.invokevirtual index, 3)) (hf : cells + mc ≤ R.cells ∧ slots + ms ≤ R.slots) :
    vx_Run p l e R s m args below meth c H locs cells slots mc ms g rest (Qc (Value.ref b :: As).toArray) XC free := by
  have hK : vx_Back l R p e below s args y 3 8 (PreOf R mc ms Pc) (PostOf Qc mc ms free) (vx_Post XC mc ms free) := vx_callBack cw.1 hM hp.1
  obtain ⟨⟨-, -, -, -, -, -, hcode, -, hy, hlen, hl⟩, hin, hse⟩ := cw
  obtain ⟨hx, hb, hml, ho, -⟩ := S
  obtain ⟨-, ⟨cellB, hcB, hoB, hclB⟩, hPc⟩ := hp
  intro T hT X
  rcases vx_callV X hx (C := C) (bytes := bytes) (maxL := maxL) (ret := ret) ho hl hin hse hcode hy hK (by rw [hT]; exact hcB) hoB hclB hg (hsize.trans hml.symm) (argsL := As) (rest := rest) (fun sig h => hn.trans (hlen sig h)) hstack hW (by rw [hb]; exact hdg)
    (fun vm₁ hW₁ => ⟨hf.1, hf.2, hPc (T.setVm vm₁) hT hW₁⟩) with ⟨v, vm₁, ⟨U', l2, c2, s2⟩, hW₁, X', ⟨g', mk, t, L, e1, e2, hq, h1, hL, h2, h3⟩, st⟩ | ⟨q, vm₁, ⟨U', l2, c2, s2⟩, hW₁, X', ⟨g', mk, t, L, E, ce, e1, e2, hq, hce, hcv, hcl, h1, hL, h2, h3⟩, st⟩
  · dsimp only [Pt.U, Pt.locs, Pt.cells, Pt.slots] at X' e1 e2 h1 h2 h3 st
    subst h1; subst h2; subst h3
    exact Or.inl ⟨v, (T.setVm vm₁).calling g' mk (Value.ref b :: As).toArray, t, U', L, hT, X', hL, e1, e2, hq, st⟩
  · dsimp only [Pt.U, Pt.locs, Pt.cells, Pt.slots] at X' e1 e2 h1 h2 h3 st hcl
    subst h1; subst h2; subst h3
    exact Or.inr ⟨q, (T.setVm vm₁).calling g' mk (Value.ref b :: As).toArray, t, U', L, E, ce, hT, X', hL, e1, e2, hq, hce, hcv, vx_cls hW₁ hcl, st⟩
theorem vx_runS (S : CallFix p m c cc nL s args Ts own) (hM : vx_Met l y ws rm Pc Qc XC mc ms free) (cw : CallB R s args own index y bytes maxL ret ws rm mc ms n ∧ (Cond.static y).before args s = true) (hp : PreS s H Pc As)
    (hg : g.method = m) (hn : As.length = n) (hsize : g.locals.size = nL) (hstack : g.stack = As.reverse ++ rest) (hW : 2 * g.monitorRoom + (rest.map fun v => v.category).sum ≤ 8) (hdg : decode cc g.pc = .ok (.invokestatic index, 3)) (hf : cells + mc ≤ R.cells ∧ slots + ms ≤ R.slots) :
    vx_Run p l e R s m args below meth c H locs cells slots mc ms g rest (Qc As.toArray) XC free := by
  have hK : vx_Back l R p e below s args y 3 8 (PreOf R mc ms Pc) (PostOf Qc mc ms free) (vx_Post XC mc ms free) := vx_callBack cw.1 hM hp.1
  obtain ⟨⟨-, -, -, -, -, -, hcode, hini, hy, hlen, hl⟩, hstt⟩ := cw
  obtain ⟨hx, hb, hml, ho, -⟩ := S
  intro T hT X
  rcases vx_callS X hx (bytes := bytes) (maxL := maxL) (ret := ret) ho hl hstt hini hcode hy hK hg (hsize.trans hml.symm) (argsL := As) (rest := rest) (fun sig h => hn.trans (hlen sig h)) hstack hW (by rw [hb]; exact hdg)
    (fun vm₁ hW₁ => ⟨hf.1, hf.2, hp.2 (T.setVm vm₁) hT hW₁⟩) with ⟨v, vm₁, ⟨U', l2, c2, s2⟩, hW₁, X', ⟨g', mk, t, L, e1, e2, hq, h1, hL, h2, h3⟩, st⟩ | ⟨q, vm₁, ⟨U', l2, c2, s2⟩, hW₁, X', ⟨g', mk, t, L, E, ce, e1, e2, hq, hce, hcv, hcl, h1, hL, h2, h3⟩, st⟩
  · dsimp only [Pt.U, Pt.locs, Pt.cells, Pt.slots] at X' e1 e2 h1 h2 h3 st
    subst h1; subst h2; subst h3
    exact Or.inl ⟨v, (T.setVm vm₁).calling g' mk As.toArray, t, U', L, hT, X', hL, e1, e2, hq, st⟩
  · dsimp only [Pt.U, Pt.locs, Pt.cells, Pt.slots] at X' e1 e2 h1 h2 h3 st hcl
    subst h1; subst h2; subst h3
    exact Or.inr ⟨q, (T.setVm vm₁).calling g' mk As.toArray, t, U', L, E, ce, hT, X', hL, e1, e2, hq, hce, hcv, vx_cls hW₁ hcl, st⟩
end Runs
section Rows
variable {p : Program} {l : Launch} {e : Env} {R : Room} {s : State} {m : MethodId} {args : Array Value} {below : List Frame} {meth : Method} {c : Code} {H : Heap} {locs : List Loc} {cells slots : Nat} {Q : State → Prop}
variable {mc ms : Nat} {free : Addr → Prop} {A0 A1 : Nat → Prop} {H0 : Heap} {a : Array Value} {pc : Nat} {ls : Array Slot} {st0 rest : List Value}
theorem vx_keep {st₀ t T' : State} {L : List Loc} (h0 : st₀.heap = H) (e1 : T'.heap = t.heap) (hS : va_S A0 H0 H locs) (hA : ∀ q, q < H.size → A1 q → A0 q) (hf : ∀ q, free q → A0 q) (hL : ∀ q ∈ L, free q.base) (hF : va_F A1 st₀ t) :
    H.size ≤ T'.heap.size ∧ (∀ q : Nat, q < H.size → ¬ A1 q → T'.heap[q]? = H[q]?) ∧ va_S A0 H0 T'.heap (locs ++ L) := by
  obtain ⟨hz, hk⟩ := hF
  rw [h0] at hz hk
  exact ⟨by rw [e1]; exact hz, fun q h1 h2 => by rw [e1]; exact hk q h1 h2,
    ⟨Nat.le_trans hS.1 (by rw [e1]; exact hz), fun q h1 h2 => by rw [e1, hk q (Nat.lt_of_lt_of_le h1 hS.1) (fun z => h2 (hA q (Nat.lt_of_lt_of_le h1 hS.1) z))]; exact hS.2.1 q h1 h2, fun q hq => by
      rcases List.mem_append.mp hq with h | h
      · exact hS.2.2 q h
      · exact hf _ (hL q h)⟩⟩
theorem vx_calli {S SX : Type} {post : Int32 → S → Prop} {px : SX → Prop} {B : S → State → Prop} {BX : String → SX → State → Prop} {AX : Nat → Prop} (hr : vx_Run p l e R s m args below meth c H locs cells slots mc ms (F0 m pc ls st0) rest (va_Qi post B A1 a) (vx_X px BX AX) free) (hS : va_S A0 H0 H locs) (hA : ∀ q, q < H.size → A1 q → A0 q) (hf : ∀ q, free q → A0 q) (hAX : ∀ q, q < H.size → AX q → A0 q)
    (kx : ∀ (E : String) (ce : Cell) (q9 : Addr) (u : SX) (t : State) (H1 : Heap) (locs1 : List Loc), t.heap = H1 → s.vm.Alike t.vm → px u → BX E u t → H.size ≤ H1.size → (∀ q : Nat, q < H.size → ¬ AX q → H1[q]? = H[q]?) → va_S A0 H0 H1 locs1 → H1[q9]? = some ce → ce.vm = .none → s.vm.findClass E = some ce.cls → vx_W p l e R s m args below meth c H1 locs1 (cells + mc) (slots + ms) Q (F0 m pc ls rest) q9)
    (kk : ∀ (r : Int32) (u : S) (t : State) (H1 : Heap) (locs1 : List Loc), t.heap = H1 → s.vm.Alike t.vm → post r u → B u t → H.size ≤ H1.size → (∀ q : Nat, q < H.size → ¬ A1 q → H1[q]? = H[q]?) → va_S A0 H0 H1 locs1 → W p l e R s m args below meth c H1 locs1 (cells + mc) (slots + ms) Q (F0 m (pc + 3) ls (.int r :: rest))) : W p l e R s m args below meth c H locs cells slots Q (F0 m pc ls st0) := by
  intro T hT X
  rcases hr T hT X with ⟨v, st₀, t, T', L, h0, X', hL, e1, e2, ⟨⟨r, u, hv, hp, hb⟩, hF⟩, st⟩ | ⟨q, st₀, t, T', L, E, ce, h0, X', hL, e1, e2, ⟨u, hp, hb, hF⟩, hce, hcv, hcl, st⟩
  · cases hv
    obtain ⟨k1, k2, k3⟩ := vx_keep h0 e1 hS hA hf hL hF
    obtain ⟨t2, a1, b1⟩ := kk r u t T'.heap (locs ++ L) e1.symm (by rw [← e2]; exact X'.warmed.alike) hp hb k1 k2 k3 T' rfl X'
    exact ⟨t2, st t2 a1, b1⟩
  · obtain ⟨k1, k2, k3⟩ := vx_keep h0 e1 hS hAX hf hL hF
    obtain ⟨t2, a1, b1⟩ := kx E ce q u t T'.heap (locs ++ L) e1.symm (by rw [← e2]; exact X'.warmed.alike) hp hb k1 k2 k3 (by rw [e1]; exact hce) hcv hcl T' rfl X'
    exact ⟨t2, st.trans a1, b1⟩
theorem vx_calll {S SX : Type} {post : Int64 → S → Prop} {px : SX → Prop} {B : S → State → Prop} {BX : String → SX → State → Prop} {AX : Nat → Prop} (hr : vx_Run p l e R s m args below meth c H locs cells slots mc ms (F0 m pc ls st0) rest (va_Ql post B A1 a) (vx_X px BX AX) free) (hS : va_S A0 H0 H locs) (hA : ∀ q, q < H.size → A1 q → A0 q) (hf : ∀ q, free q → A0 q) (hAX : ∀ q, q < H.size → AX q → A0 q)
    (kx : ∀ (E : String) (ce : Cell) (q9 : Addr) (u : SX) (t : State) (H1 : Heap) (locs1 : List Loc), t.heap = H1 → s.vm.Alike t.vm → px u → BX E u t → H.size ≤ H1.size → (∀ q : Nat, q < H.size → ¬ AX q → H1[q]? = H[q]?) → va_S A0 H0 H1 locs1 → H1[q9]? = some ce → ce.vm = .none → s.vm.findClass E = some ce.cls → vx_W p l e R s m args below meth c H1 locs1 (cells + mc) (slots + ms) Q (F0 m pc ls rest) q9)
    (kk : ∀ (r : Int64) (u : S) (t : State) (H1 : Heap) (locs1 : List Loc), t.heap = H1 → s.vm.Alike t.vm → post r u → B u t → H.size ≤ H1.size → (∀ q : Nat, q < H.size → ¬ A1 q → H1[q]? = H[q]?) → va_S A0 H0 H1 locs1 → W p l e R s m args below meth c H1 locs1 (cells + mc) (slots + ms) Q (F0 m (pc + 3) ls (.long r :: rest))) : W p l e R s m args below meth c H locs cells slots Q (F0 m pc ls st0) := by
  intro T hT X
  rcases hr T hT X with ⟨v, st₀, t, T', L, h0, X', hL, e1, e2, ⟨⟨r, u, hv, hp, hb⟩, hF⟩, st⟩ | ⟨q, st₀, t, T', L, E, ce, h0, X', hL, e1, e2, ⟨u, hp, hb, hF⟩, hce, hcv, hcl, st⟩
  · cases hv
    obtain ⟨k1, k2, k3⟩ := vx_keep h0 e1 hS hA hf hL hF
    obtain ⟨t2, a1, b1⟩ := kk r u t T'.heap (locs ++ L) e1.symm (by rw [← e2]; exact X'.warmed.alike) hp hb k1 k2 k3 T' rfl X'
    exact ⟨t2, st t2 a1, b1⟩
  · obtain ⟨k1, k2, k3⟩ := vx_keep h0 e1 hS hAX hf hL hF
    obtain ⟨t2, a1, b1⟩ := kx E ce q u t T'.heap (locs ++ L) e1.symm (by rw [← e2]; exact X'.warmed.alike) hp hb k1 k2 k3 (by rw [e1]; exact hce) hcv hcl T' rfl X'
    exact ⟨t2, st.trans a1, b1⟩
theorem vx_callf {S SX : Type} {post : UInt32 → S → Prop} {px : SX → Prop} {B : S → State → Prop} {BX : String → SX → State → Prop} {AX : Nat → Prop} (hr : vx_Run p l e R s m args below meth c H locs cells slots mc ms (F0 m pc ls st0) rest (va_Qf post B A1 a) (vx_X px BX AX) free) (hS : va_S A0 H0 H locs) (hA : ∀ q, q < H.size → A1 q → A0 q) (hf : ∀ q, free q → A0 q) (hAX : ∀ q, q < H.size → AX q → A0 q)
    (kx : ∀ (E : String) (ce : Cell) (q9 : Addr) (u : SX) (t : State) (H1 : Heap) (locs1 : List Loc), t.heap = H1 → s.vm.Alike t.vm → px u → BX E u t → H.size ≤ H1.size → (∀ q : Nat, q < H.size → ¬ AX q → H1[q]? = H[q]?) → va_S A0 H0 H1 locs1 → H1[q9]? = some ce → ce.vm = .none → s.vm.findClass E = some ce.cls → vx_W p l e R s m args below meth c H1 locs1 (cells + mc) (slots + ms) Q (F0 m pc ls rest) q9)
    (kk : ∀ (r : UInt32) (u : S) (t : State) (H1 : Heap) (locs1 : List Loc), t.heap = H1 → s.vm.Alike t.vm → post r u → B u t → H.size ≤ H1.size → (∀ q : Nat, q < H.size → ¬ A1 q → H1[q]? = H[q]?) → va_S A0 H0 H1 locs1 → W p l e R s m args below meth c H1 locs1 (cells + mc) (slots + ms) Q (F0 m (pc + 3) ls (.float r :: rest))) : W p l e R s m args below meth c H locs cells slots Q (F0 m pc ls st0) := by
  intro T hT X
  rcases hr T hT X with ⟨v, st₀, t, T', L, h0, X', hL, e1, e2, ⟨⟨r, u, hv, hp, hb⟩, hF⟩, st⟩ | ⟨q, st₀, t, T', L, E, ce, h0, X', hL, e1, e2, ⟨u, hp, hb, hF⟩, hce, hcv, hcl, st⟩
  · cases hv
    obtain ⟨k1, k2, k3⟩ := vx_keep h0 e1 hS hA hf hL hF
    obtain ⟨t2, a1, b1⟩ := kk r u t T'.heap (locs ++ L) e1.symm (by rw [← e2]; exact X'.warmed.alike) hp hb k1 k2 k3 T' rfl X'
    exact ⟨t2, st t2 a1, b1⟩
  · obtain ⟨k1, k2, k3⟩ := vx_keep h0 e1 hS hAX hf hL hF
    obtain ⟨t2, a1, b1⟩ := kx E ce q u t T'.heap (locs ++ L) e1.symm (by rw [← e2]; exact X'.warmed.alike) hp hb k1 k2 k3 (by rw [e1]; exact hce) hcv hcl T' rfl X'
    exact ⟨t2, st.trans a1, b1⟩
theorem vx_calld {S SX : Type} {post : UInt64 → S → Prop} {px : SX → Prop} {B : S → State → Prop} {BX : String → SX → State → Prop} {AX : Nat → Prop} (hr : vx_Run p l e R s m args below meth c H locs cells slots mc ms (F0 m pc ls st0) rest (va_Qd post B A1 a) (vx_X px BX AX) free) (hS : va_S A0 H0 H locs) (hA : ∀ q, q < H.size → A1 q → A0 q) (hf : ∀ q, free q → A0 q) (hAX : ∀ q, q < H.size → AX q → A0 q)
    (kx : ∀ (E : String) (ce : Cell) (q9 : Addr) (u : SX) (t : State) (H1 : Heap) (locs1 : List Loc), t.heap = H1 → s.vm.Alike t.vm → px u → BX E u t → H.size ≤ H1.size → (∀ q : Nat, q < H.size → ¬ AX q → H1[q]? = H[q]?) → va_S A0 H0 H1 locs1 → H1[q9]? = some ce → ce.vm = .none → s.vm.findClass E = some ce.cls → vx_W p l e R s m args below meth c H1 locs1 (cells + mc) (slots + ms) Q (F0 m pc ls rest) q9)
    (kk : ∀ (r : UInt64) (u : S) (t : State) (H1 : Heap) (locs1 : List Loc), t.heap = H1 → s.vm.Alike t.vm → post r u → B u t → H.size ≤ H1.size → (∀ q : Nat, q < H.size → ¬ A1 q → H1[q]? = H[q]?) → va_S A0 H0 H1 locs1 → W p l e R s m args below meth c H1 locs1 (cells + mc) (slots + ms) Q (F0 m (pc + 3) ls (.double r :: rest))) : W p l e R s m args below meth c H locs cells slots Q (F0 m pc ls st0) := by
  intro T hT X
  rcases hr T hT X with ⟨v, st₀, t, T', L, h0, X', hL, e1, e2, ⟨⟨r, u, hv, hp, hb⟩, hF⟩, st⟩ | ⟨q, st₀, t, T', L, E, ce, h0, X', hL, e1, e2, ⟨u, hp, hb, hF⟩, hce, hcv, hcl, st⟩
  · cases hv
    obtain ⟨k1, k2, k3⟩ := vx_keep h0 e1 hS hA hf hL hF
    obtain ⟨t2, a1, b1⟩ := kk r u t T'.heap (locs ++ L) e1.symm (by rw [← e2]; exact X'.warmed.alike) hp hb k1 k2 k3 T' rfl X'
    exact ⟨t2, st t2 a1, b1⟩
  · obtain ⟨k1, k2, k3⟩ := vx_keep h0 e1 hS hAX hf hL hF
    obtain ⟨t2, a1, b1⟩ := kx E ce q u t T'.heap (locs ++ L) e1.symm (by rw [← e2]; exact X'.warmed.alike) hp hb k1 k2 k3 (by rw [e1]; exact hce) hcv hcl T' rfl X'
    exact ⟨t2, st.trans a1, b1⟩
theorem vx_callv {S SX : Type} {post : S → Prop} {px : SX → Prop} {B : S → State → Prop} {BX : String → SX → State → Prop} {AX : Nat → Prop} (hr : vx_Run p l e R s m args below meth c H locs cells slots mc ms (F0 m pc ls st0) rest (va_Qv post B A1 a) (vx_X px BX AX) free) (hS : va_S A0 H0 H locs) (hA : ∀ q, q < H.size → A1 q → A0 q) (hf : ∀ q, free q → A0 q) (hAX : ∀ q, q < H.size → AX q → A0 q)
    (kx : ∀ (E : String) (ce : Cell) (q9 : Addr) (u : SX) (t : State) (H1 : Heap) (locs1 : List Loc), t.heap = H1 → s.vm.Alike t.vm → px u → BX E u t → H.size ≤ H1.size → (∀ q : Nat, q < H.size → ¬ AX q → H1[q]? = H[q]?) → va_S A0 H0 H1 locs1 → H1[q9]? = some ce → ce.vm = .none → s.vm.findClass E = some ce.cls → vx_W p l e R s m args below meth c H1 locs1 (cells + mc) (slots + ms) Q (F0 m pc ls rest) q9)
    (kk : ∀ (u : S) (t : State) (H1 : Heap) (locs1 : List Loc), t.heap = H1 → s.vm.Alike t.vm → post u → B u t → H.size ≤ H1.size → (∀ q : Nat, q < H.size → ¬ A1 q → H1[q]? = H[q]?) → va_S A0 H0 H1 locs1 → W p l e R s m args below meth c H1 locs1 (cells + mc) (slots + ms) Q (F0 m (pc + 3) ls (rest))) : W p l e R s m args below meth c H locs cells slots Q (F0 m pc ls st0) := by
  intro T hT X
  rcases hr T hT X with ⟨v, st₀, t, T', L, h0, X', hL, e1, e2, ⟨⟨u, hv, hp, hb⟩, hF⟩, st⟩ | ⟨q, st₀, t, T', L, E, ce, h0, X', hL, e1, e2, ⟨u, hp, hb, hF⟩, hce, hcv, hcl, st⟩
  · cases hv
    obtain ⟨k1, k2, k3⟩ := vx_keep h0 e1 hS hA hf hL hF
    obtain ⟨t2, a1, b1⟩ := kk u t T'.heap (locs ++ L) e1.symm (by rw [← e2]; exact X'.warmed.alike) hp hb k1 k2 k3 T' rfl X'
    exact ⟨t2, st t2 a1, b1⟩
  · obtain ⟨k1, k2, k3⟩ := vx_keep h0 e1 hS hAX hf hL hF
    obtain ⟨t2, a1, b1⟩ := kx E ce q u t T'.heap (locs ++ L) e1.symm (by rw [← e2]; exact X'.warmed.alike) hp hb k1 k2 k3 (by rw [e1]; exact hce) hcv hcl T' rfl X'
    exact ⟨t2, st.trans a1, b1⟩
/-- caught by the row x of this method's table; the rows ahead don't take it -/
theorem vx_catch {own name : String} {E : String} {ce : Cell} {q : Addr} (hown : s.vm.findClass own = some m.cls) (pre : List ExceptionTableEntry) (x : ExceptionTableEntry) (suf : List ExceptionTableEntry) (hsplit : c.exceptionTable.toList = pre ++ x :: suf)
    (hpass : ∀ z ∈ pre, covers z pc = false ∨ (z.catchType ≠ 0 ∧ ∃ nm : String, (Cond.classLink own z.catchType nm).before args s = true ∧ va_Nc E nm s)) (hx : covers x pc = true) (h0 : x.catchType ≠ 0)
    (hlink : (Cond.classLink own x.catchType name).before args s = true) (hcast : (Cond.castable E name).before args s = true) (hcell : H[q]? = some ce) (hv : ce.vm = .none) (hcl : s.vm.findClass E = some ce.cls)
    (kk : W p l e R s m args below meth c H locs cells slots Q (F0 m x.handlerPc ls [.ref q])) : vx_W p l e R s m args below meth c H locs cells slots Q (F0 m pc ls rest) q := by
  intro T hT X
  have hpl : e.platform.magicAccessors = ({} : Platform).magicAccessors := by rw [X.admits.platform]
  obtain ⟨c3, c4, hc3, hc4, hasg⟩ := Cond.castable_spec hcast
  cases Option.some.inj (hc3.symm.trans hcl)
  obtain ⟨c5, hc5, hcl5⟩ := Cond.classLink_spec hown hlink e.platform hpl
  cases Option.some.inj (hc4.symm.trans hc5)
  obtain ⟨vm', X', st⟩ := X.thenCaughtThrough q (g := F0 m pc ls rest) rfl (Steps.refl _) (by rw [hT]; exact hcell) (by rw [hv]; rfl) (by obtain ⟨k9, h9, -⟩ := Vm.findClass_spec hcl; exact ⟨k9, h9⟩) pre x suf hsplit
    (fun z hz => by
      rcases hpass z hz with h | ⟨hz0, nm, hl1, hn1⟩
      · exact Or.inl h
      · obtain ⟨c6, hc6, hcl6⟩ := Cond.classLink_spec hown hl1 e.platform hpl
        obtain ⟨a8, b8, h1, h2, h3⟩ := hn1
        cases Option.some.inj (h1.symm.trans hcl)
        cases Option.some.inj (h2.symm.trans hc6)
        exact Or.inr ⟨hz0, _, hcl6, h3⟩) hx (Or.inr ⟨h0, c4, hcl5, hasg⟩)
  obtain ⟨t, a1, b1⟩ := kk (T.setVm vm') hT X'
  exact ⟨t, st.trans a1, b1⟩
end Rows
section Ends
variable {p : Program} {l : Launch} {e : Env} {R : Room} {s : State} {m : MethodId} {args : Array Value} {below : List Frame} {meth : Method} {c : Code} {H : Heap} {locs : List Loc} {cells slots : Nat} {Q : State → Prop}
variable {mc ms : Nat} {free : Addr → Prop} {A0 A1 : Nat → Prop} {H0 : Heap} {a : Array Value} {ls : Array Slot} {st0 rest : List Value}
variable {Qc : Array Value → State → Outcome → State → Prop} {XC : String → State → State → Prop}
/-- what a body that may throw owes at its end -/
def vx_MQ (below : List Frame) (Qc : Array Value → State → Outcome → State → Prop) (XC : String → State → State → Prop) (a : Array Value) (s : State) (mc ms : Nat) (free : Addr → Prop) : State → Prop := fun t =>
  ∃ o, t.status = .running ∧ Ended t below o ∧ vx_Q Qc XC mc ms free a s o t
theorem vx_ret {g : JFrame} {mc ms : Nat} (k : W p l e R s m args below meth c H locs cells slots (MQ below Qc args s mc ms free) g) : W p l e R s m args below meth c H locs cells slots (vx_MQ below Qc XC args s mc ms free) g := by
  intro T hT X
  obtain ⟨t, a1, o, b1, b2, b3, b4⟩ := k T hT X
  exact ⟨t, a1, o, b1, b2, Or.inl ⟨b3, b4⟩⟩
/-- not caught here: it goes on to the caller -/
theorem vx_widen {g : JFrame} {q : Addr} {k n : Nat} (h1 : cells ≤ k) (h2 : slots ≤ n) (kk : vx_W p l e R s m args below meth c H locs k n Q g q) : vx_W p l e R s m args below meth c H locs cells slots Q g q := fun T hT X => kk T hT (stand_widen X h1 h2)
theorem vx_out {pc : Nat} {E : String} {ce : Cell} {q : Addr} {mc ms : Nat} (hout : ∀ x ∈ c.exceptionTable.toList, covers x pc = false) (hlocks : meth.locks = false) (hcell : H[q]? = some ce) (hv : ce.vm = .none) (hcl : s.vm.findClass E = some ce.cls)
    (hx : ∀ t : State, t.heap = H → s.vm.Alike t.vm → XC E s t) (hf : ∀ z ∈ locs, free z.base) (hc : cells ≤ mc) (hs : slots ≤ ms) :
    vx_W p l e R s m args below meth c H locs cells slots (vx_MQ below Qc XC args s mc ms free) (F0 m pc ls rest) q := by
  intro T hT X
  obtain ⟨st1, hrun, hend, hW, hsm⟩ := X.leaveThrown q (g := F0 m pc ls rest) rfl rfl rfl hout hlocks
  have hcell9 : (T.setFrames (.throwing q :: below)).heap[q]? = some ce := by
    show T.heap[q]? = some ce
    rw [hT]; exact hcell
  exact ⟨_, st1, .threw q, hrun, hend, Or.inr ⟨q, rfl, E, ce, locs, hx _ hT hW.alike, hcell9, hv, hcl, hW, hsm.mono hc hs, hf⟩⟩
theorem vx_frame {U : State} {k n : Nat} (h : s.sameButNew ({ U with vm := s.vm } : State) locs k n) : s.heap.size ≤ U.heap.size ∧ ∀ q : Nat, q < s.heap.size → (∀ z ∈ locs, z.base ≠ q) → U.heap[q]? = s.heap[q]? := by
  obtain ⟨-, h2, -, -, -, h6⟩ := h
  refine ⟨h2, fun q hq hz => ?_⟩
  obtain ⟨c9, e1, e2, e3, e4⟩ := h6 q _ (Array.getElem?_eq_getElem hq)
  have hs : c9.slots = (s.heap[q]).slots := Array.ext_getElem? fun i => e4 i fun hm => hz _ hm rfl
  have h9 : c9 = s.heap[q] := by
    rw [hs] at e2
    exact e2
  have e5 : U.heap[q]? = some c9 := e1
  rw [e5, h9, Array.getElem?_eq_getElem hq]
/-- the words of a throw but the four that speak of the heap -/
def vx_no (w : Cond) : Bool := decide (w ≠ .isRef (.static Bundle.tN "UNASSIGNED_STACK" Bundle.steD)) && decide (w ≠ .isRef (.static Bundle.tN "SUPPRESSED_SENTINEL" Bundle.listD)) && decide (w ≠ .laysStatic Bundle.tN "UNASSIGNED_STACK" Bundle.steD) && decide (w ≠ .laysStatic Bundle.tN "SUPPRESSED_SENTINEL" Bundle.listD)
def vx_at0 (own : String) (ic : Nat) (X : String) (names : List String) : List Cond := (Bundle.ownAtoms0 own ic X names).filter vx_no
def vx_atS (own : String) (ic : Nat) (X : String) (names : List String) : List Cond := (Bundle.ownAtoms own ic X names).filter vx_no
/-- a word that the tables alone decide, or a good one -/
def vx_ot (w : Cond) : Bool := w.onTables || goodWord w
theorem vx_ot_at {args a' : Array Value} {s U : State} {w : Cond} (hW : s.WarmedH U.vm) (hvm : s.vm = U.vm) (hg : vx_ot w = true) (h : w.before args s = true) : w.before a' U = true := by
  simp only [vx_ot, Bool.or_eq_true] at hg
  rcases hg with hg | hg
  · exact va_tabs hg hvm h
  · exact word_at hW (good_of_word hg) h
/-- a list's words: the good ones out of the method's own list, the others by premises of their own -/
theorem vx_hat {args : Array Value} {s : State} {L B : List Cond} (h1 : ∀ w ∈ L.filter goodWord, w.before args s = true) (h2 : ∀ w ∈ L.filter (fun w => !goodWord w), w ∈ B) (h3 : ∀ w ∈ B, w.before args s = true) : ∀ w ∈ L, w.before args s = true := by
  intro w hw
  by_cases g : goodWord w = true
  · exact h1 w (List.mem_filter.mpr ⟨hw, g⟩)
  · refine h3 w (h2 w (List.mem_filter.mpr ⟨hw, ?_⟩))
    show (!goodWord w) = true
    cases hgw : goodWord w
    · rfl
    · exact absurd hgw g
theorem vx_c {args : Array Value} {s : State} {w : Cond} {B : List Cond} (h : w.before args s = true) (t : ∀ w ∈ B, w.before args s = true) : ∀ w' ∈ w :: B, w'.before args s = true := fun w' h' => (List.mem_cons.mp h').elim (fun e => by rw [e]; exact h) (t w')
theorem vx_n {args : Array Value} {s : State} : ∀ w ∈ ([] : List Cond), w.before args s = true := fun _ h => nomatch h
theorem vx_own {args : Array Value} {s : State} {L : List Cond} (h1 : ∀ w ∈ L.filter vx_no, w.before args s = true)
    (hU : (Cond.isRef (.static Bundle.tN "UNASSIGNED_STACK" Bundle.steD)).before args s = true) (hN : (Cond.isRef (.static Bundle.tN "SUPPRESSED_SENTINEL" Bundle.listD)).before args s = true)
    (lU : (Cond.laysStatic Bundle.tN "UNASSIGNED_STACK" Bundle.steD).before args s = true) (lN : (Cond.laysStatic Bundle.tN "SUPPRESSED_SENTINEL" Bundle.listD).before args s = true) : ∀ w ∈ L, w.before args s = true := by
  intro w hw
  by_cases e1 : w = .isRef (.static Bundle.tN "UNASSIGNED_STACK" Bundle.steD)
  · rw [e1]; exact hU
  · by_cases e2 : w = .isRef (.static Bundle.tN "SUPPRESSED_SENTINEL" Bundle.listD)
    · rw [e2]; exact hN
    · by_cases e3 : w = .laysStatic Bundle.tN "UNASSIGNED_STACK" Bundle.steD
      · rw [e3]; exact lU
      · by_cases e4 : w = .laysStatic Bundle.tN "SUPPRESSED_SENTINEL" Bundle.listD
        · rw [e4]; exact lN
        · exact h1 w (List.mem_filter.mpr ⟨hw, by unfold vx_no; rw [decide_eq_true e1, decide_eq_true e2, decide_eq_true e3, decide_eq_true e4]; rfl⟩)
/-- where a static field lies, its class's statics cell in H -/
def vx_L (C n d : String) (A : Nat → Prop) (U : State) (H : Heap) : Prop := ∃ (c : ClassId) (k : Class) (i : Nat) (f : Field) (a : Nat) (cell : Cell), U.vm.findClass C = some c ∧ U.fieldFound? C n d = some (c, k, i, f) ∧ f.isStatic = true ∧ k.statics = some a ∧ H[a]? = some cell ∧ cell.vm.isStatics = true ∧ cell.cls = c ∧ f.slot < cell.slots.size ∧ k.staticTypes[f.slot]? = some f.type ∧ ¬ A a
theorem vx_L.moved {C n d : String} {A : Nat → Prop} {u U : State} {H : Heap} (hvm : u.vm.Alike U.vm) (h : vx_L C n d A u H) : vx_L C n d A U H := by
  obtain ⟨c, k, i, f, a, cell, h1, h2, h3, h4, h5, h6, h7, h8, h9, h10⟩ := h
  obtain ⟨k', hi', he⟩ := State.fieldFound?_setVm hvm h2
  exact ⟨c, k', i, f, a, cell, by rw [hvm.findClass]; exact h1, hi', h3, by rw [he]; exact h4, h5, h6, h7, h8, by rw [he]; exact h9, h10⟩
theorem vx_L.kept {C n d : String} {A : Nat → Prop} {U : State} {H H1 : Heap} (h : vx_L C n d A U H) (hq : ∀ a : Nat, a < H.size → ¬ A a → H1[a]? = H[a]?) : vx_L C n d A U H1 := by
  obtain ⟨c, k, i, f, a, cell, h1, h2, h3, h4, h5, h6, h7, h8, h9, h10⟩ := h
  exact ⟨c, k, i, f, a, cell, h1, h2, h3, h4, by rw [hq a (Array.getElem?_eq_some_iff.mp h5).1 h10]; exact h5, h6, h7, h8, h9, h10⟩
theorem vx_L.narrow {C n d : String} {A B : Nat → Prop} {U : State} {H : Heap} (h : vx_L C n d A U H) (hAB : ∀ q, B q → A q) : vx_L C n d B U H := by
  obtain ⟨c, k, i, f, a, cell, h1, h2, h3, h4, h5, h6, h7, h8, h9, h10⟩ := h
  exact ⟨c, k, i, f, a, cell, h1, h2, h3, h4, h5, h6, h7, h8, h9, fun z => h10 (hAB _ z)⟩
theorem vx_L.word {C n d : String} {A : Nat → Prop} {s : State} {args : Array Value} (h : vx_L C n d A s s.heap) : (Cond.laysStatic C n d).before args s = true := by
  obtain ⟨c, k, i, f, a, cell, h1, h2, h3, h4, h5, h6, h7, h8, h9, -⟩ := h
  show (Cond.laysStatic C n d).holds args s none s [] = true
  exact Cond.laysStatic_of h1 h2 h3 h4 h5 h6 h7 h8 h9
/-- .. and what it holds: null or some reference -/
def vx_Zq (C n d : String) (A : Nat → Prop) (U : State) (H : Heap) : Prop := va_Zq C n d A U H ∧ vx_L C n d A U H
theorem vx_Zq.moved {C n d : String} {A : Nat → Prop} {u U : State} {H : Heap} (hvm : u.vm.Alike U.vm) (h : vx_Zq C n d A u H) : vx_Zq C n d A U H := ⟨va_Zq.moved hvm h.1, vx_L.moved hvm h.2⟩
theorem vx_Zq.kept {C n d : String} {A : Nat → Prop} {U : State} {H H1 : Heap} (h : vx_Zq C n d A U H) (hq : ∀ a : Nat, a < H.size → ¬ A a → H1[a]? = H[a]?) : vx_Zq C n d A U H1 := ⟨va_Zq.kept h.1 hq, vx_L.kept h.2 hq⟩
theorem vx_Zq.narrow {C n d : String} {A B : Nat → Prop} {U : State} {H : Heap} (h : vx_Zq C n d A U H) (hAB : ∀ q, B q → A q) : vx_Zq C n d B U H := ⟨va_Zq.narrow h.1 hAB, vx_L.narrow h.2 hAB⟩
theorem vx_Zqof {args : Array Value} {s : State} {C n d : String} {A : Nat → Prop} (hl : (Cond.laysStatic C n d).before args s = true) (hini : (Cond.initialized C).before args s = true) (h : (Cond.isRef (.static C n d)).before args s = true) (hA : ∀ a : Nat, a < s.heap.size → ¬ A a) : vx_Zq C n d A s s.heap := by
  refine ⟨va_Zqof hl hini h hA, ?_⟩
  obtain ⟨c, k, i, f, a, cell, h1, h2, h3, h4, h5, h6, h7, h8, h9⟩ := Cond.laysStatic_spec hl
  exact ⟨c, k, i, f, a, cell, h1, h2, h3, h4, h5, h6, h7, h8, h9, hA a (Array.getElem?_eq_some_iff.mp h5).1⟩
theorem vx_isRef {C n d : String} {v : Value} {A : Nat → Prop} {s : State} {args : Array Value} (h : va_Z C n d v A s s.heap) (hv : v.isRef = true) : (Cond.isRef (.static C n d)).before args s = true := by
  obtain ⟨cf, kf, fi, f, a, cell, h1, h2, h3, h4, h5, h6, h7, -⟩ := h
  have he : (Term.static C n d).eval args s none [] s = some v := by
    simp [Term.eval, State.fieldNamed?, h1, h2, h4, h5, h6, h7]
  simp only [Cond.before, Cond.holds, Cond.value, he]
  cases v <;> simp_all [Value.isRef]
theorem vx_isRefq {C n d : String} {A : Nat → Prop} {s : State} {args : Array Value} (h : va_Zq C n d A s s.heap) : (Cond.isRef (.static C n d)).before args s = true := by
  rcases h with h | ⟨t, h⟩
  · exact vx_isRef h rfl
  · exact vx_isRef h rfl
/-- the same frame, seen from here: as if the method were called anew in this heap -/
theorem vx_rebase {T : State} (X : Stand p l e R s m args below meth c T locs cells slots) {R' : Room} (hf : R'.frames ≤ R.frames) (hl : R'.locals ≤ R.locals) (hc : cells + R'.cells ≤ R.cells) (hs : slots + R'.slots ≤ R.slots) :
    Stand p l e R' ((T.setVm s.vm).setFrames (.invoking m args :: below)) m args below meth c T [] 0 0 := by
  have htop : (T.setVm s.vm).topJava?.isSome := X.here.top
  have hF : ((T.setVm s.vm).setFrames (.invoking m args :: below)).frames = .invoking m args :: below := State.frames_setFrames _ (State.cur_lt_of_top htop)
  obtain ⟨g₀, hg0⟩ := Option.isSome_iff_exists.mp htop
  obtain ⟨r, hr⟩ := State.topJava?_eq_some.mp hg0
  have hl9 : e.platform.stackLimits (T.setVm s.vm).me = e.platform.stackLimits s.me := X.limits
  have hb9 : (T.setVm s.vm).me.stackBytes = s.me.stackBytes := X.bytes
  refine ⟨X.admits, X.cas, X.clock, hF, ?_, X.hears, X.method, X.code, X.here, X.tail, X.warmed, ?_, ?_, ?_⟩
  · have h := X.room
    have hU : ((T.setVm s.vm).setFrames (.invoking m args :: below)).localsInUse = s.localsInUse := by
      rw [State.localsInUse_invoking hF (meth := meth) (c := c) X.method X.code, State.localsInUse_invoking X.frames X.method X.code]
    simp only [State.hasRoom, Bool.and_eq_true, decide_eq_true_eq] at h ⊢
    obtain ⟨⟨⟨⟨h1, h2, h3, h4, h5, h6⟩, h7⟩, h8⟩, h9⟩ := h
    rw [X.frames, List.length_cons] at h2 h3
    have q1 := X.heapSize
    have q2 := X.used
    simp only [hF, hU, List.length_cons, State.stackLimits_setFrames, State.stackBytes_setFrames, hl9, hb9]
    refine ⟨⟨⟨⟨by omega, by omega, by omega, by omega, by omega, h6⟩, ?_⟩, ?_⟩, X.book⟩
    · show T.heap.size + R'.cells ≤ e.platform.maxCells
      omega
    · show T.slotsUsed + R'.slots ≤ e.platform.maxSlots
      omega
  · rw [State.stackLimits_setFrames]; rfl
  · rw [State.stackBytes_setFrames]; rfl
  · refine ⟨?_, Nat.le_refl _, Nat.le_refl _, ?_, ?_, fun a c9 h9 => ⟨c9, h9, rfl, rfl, fun _ _ => rfl⟩⟩
    · obtain ⟨t, ht, -⟩ := State.frames_cons hr
      show T.setVm s.vm = { ((T.setVm s.vm).setFrames (.invoking m args :: below)).setFrames (T.setVm s.vm).frames with heap := T.heap, slotsUsed := T.slotsUsed }
      rw [State.setFrames_setFrames, State.setFrames_self ht]
      rfl
    · show T.slotsUsed = T.slotsUsed + ((T.heap.toList.drop T.heap.size).map (·.slots.size)).sum
      rw [List.drop_eq_nil_of_le (Nat.le_of_eq Array.length_toList)]
      rfl
    · show ((T.heap.toList.drop T.heap.size).map (·.slots.size)).sum ≤ 0
      rw [List.drop_eq_nil_of_le (Nat.le_of_eq Array.length_toList)]
      exact Nat.le_refl _
/-- 'throw new E()': new; dup; invokespecial; athrow -/
theorem vx_throw0 {cc : ByteArray} {pc : Nat} (hexec : p.tables.exec = Jvm.exec) (hb : c.code = cc) (hl : l.stackTraces = false) {own cls : String} {names : List String} {ik ic mc ms : Nat} {A : Nat → Prop}
    (hown : s.vm.findClass own = some m.cls) (hcls : Bundle.fit cls = true) (hnames : ∀ n ∈ names, Bundle.fit n = true)
    (hk : (Cond.classLink own ik cls).before args s = true) (hini : (Cond.initialized cls).before args s = true) (hat : ∀ w ∈ vx_at0 own ic cls names, w.before args s = true)
    (hgood : ∀ w ∈ Cond.classLink own ik cls :: Cond.initialized cls :: vx_at0 own ic cls names, vx_ot w = true)
    (hU : vx_Zq Bundle.tN "UNASSIGNED_STACK" Bundle.steD A s s.heap) (hN : vx_Zq Bundle.tN "SUPPRESSED_SENTINEL" Bundle.listD A s s.heap) (hS : va_S A s.heap H locs) (hsize : ls.size = c.maxLocals)
    (d0 : decode cc pc = .ok (.new ik, 3)) (d3 : decode cc (pc + 3) = .ok (.dup, 1)) (d4 : decode cc (pc + 4) = .ok (.invokespecial ic, 3)) (d7 : decode cc (pc + 7) = .ok (.athrow, 1))
    (hout : ∀ x ∈ c.exceptionTable.toList, covers x (pc + 7) = false)
    (hRframes : names.length + 3 < R.frames) (hRlocals : (rest.map fun v => v.category).sum + (13 * (names.length + 1) + 42) ≤ R.locals) (hRcells : cells + 1 ≤ R.cells) (hRslots : slots + 6 ≤ R.slots) (hlocks : meth.locks = false)
    (hx : ∀ t : State, s.vm.Alike t.vm → H.size ≤ t.heap.size → (∀ q : Nat, q < H.size → t.heap[q]? = H[q]?) → XC cls s t)
    (hf : ∀ z ∈ locs, free z.base) (hc : cells + 1 ≤ mc) (hs : slots + 6 ≤ ms) :
    W p l e R s m args below meth c H locs cells slots (vx_MQ below Qc XC args s mc ms free) (F0 m pc ls rest) := by
  intro T hT X
  have htr : e.platform.stackTraces = false := (show e.platform.stackTraces = l.stackTraces by rw [X.admits.platform]).trans hl
  have Y := vx_rebase X (R' := { frames := R.frames, locals := R.locals, cells := 1, slots := 6 }) (Nat.le_refl _) (Nat.le_refl _) hRcells hRslots
  obtain ⟨s', hA⟩ : ∃ z, z = (T.setVm s.vm).setFrames (.invoking m args :: below) := ⟨_, rfl⟩
  rw [← hA] at Y
  have hvm : s'.vm = s.vm := by rw [hA]; rfl
  have hhp : s'.heap = H := by rw [hA]; exact hT
  have hW0 : s.WarmedH s'.vm := by rw [hvm]; exact State.WarmedH.refl s
  have hat' : ∀ w ∈ vx_at0 own ic cls names, w.before args s' = true := fun w hw => vx_ot_at hW0 hvm.symm (hgood w (List.mem_cons_of_mem _ (List.mem_cons_of_mem _ hw))) (hat w hw)
  have hk' : (Cond.classLink own ik cls).before args s' = true := vx_ot_at hW0 hvm.symm (hgood _ List.mem_cons_self) hk
  have hini' : (Cond.initialized cls).before args s' = true := vx_ot_at hW0 hvm.symm (hgood _ (List.mem_cons_of_mem _ List.mem_cons_self)) hini
  have hU' : vx_Zq Bundle.tN "UNASSIGNED_STACK" Bundle.steD A s' s'.heap := by rw [hhp]; exact vx_Zq.moved hW0.alike (hU.kept hS.2.1)
  have hN' : vx_Zq Bundle.tN "SUPPRESSED_SENTINEL" Bundle.listD A s' s'.heap := by rw [hhp]; exact vx_Zq.moved hW0.alike (hN.kept hS.2.1)
  have h : ∀ w ∈ Bundle.ownAtoms0 own ic cls names, w.before args s' = true := vx_own hat' (vx_isRefq hU'.1) (vx_isRefq hN'.1) hU'.2.word hN'.2.word
  have hown' : s'.vm.findClass own = some m.cls := by rw [hvm]; exact hown
  have hins : (Cond.instantiable cls 6).before args s' = true := h _ (by simp [Bundle.ownAtoms0])
  obtain ⟨vm₁, cX, kX, hfX, hkX, -, -, X₁, st1⟩ := Y.newCold hexec (own := own) (C := cls) (index := ik) (n := 6) hown' hk' hins hini'
    (g := F0 m pc ls rest) rfl (by rw [hb]; exact d0) (Nat.le_refl _) (Nat.le_refl _)
  generalize hT1 : (T.setVm vm₁).pushCell { cls := cX, slots := kX.instanceTypes.map defaultValue, vm := .none } = T1 at X₁ st1
  have hcat : (Value.ref T.heap.size).category = 1 := rfl
  have hcellA : T1.heap[T.heap.size]? = some (freshCell cX kX) := by rw [← hT1]; exact State.heap_pushCell_size _ _
  have d3' : decode c.code (pc + 3) = .ok (.dup, 1) := by rw [hb]; exact d3
  obtain ⟨U, hsteps, hrun, hend, hW, hsame, ce, hce, hO⟩ := X₁.ctorThrow0 hexec htr (own := own) (cls := cls) (names := names) (ic := ic) hown' hcls hnames h (fun x hx => nomatch hx) hfX hkX hcellA (by rw [hhp, hT]; exact Nat.le_refl _)
    (g := { method := m, pc := pc + 4, locals := ls, stack := .ref T.heap.size :: .ref T.heap.size :: rest, locked := none }) rfl hsize rfl rfl (rest := rest) rfl
    (by rw [hb]; exact d4) (by rw [hb]; exact d7) hout hRframes (by simp only [List.map_cons, List.sum_cons, hcat]; omega) hlocks
  obtain ⟨f1, f2⟩ := vx_frame hsame
  rw [hhp] at f1 f2
  have hWs : s.WarmedH U.vm := State.WarmedH.trans hW0 hW
  have hcl : s.vm.findClass cls = some ce.cls := by
    have h9 := hO.cls
    rw [hvm] at h9
    exact h9
  have hall : s.sameButNew ({ U with vm := s.vm } : State) locs mc ms := by
    subst hA
    obtain ⟨e1, e2⟩ := hsame
    rw [State.setFrames_setFrames] at e1
    have h2 : (T.setVm s.vm).sameButNew ({ U with vm := s.vm } : State) [] (0 + 1) (0 + 6) := ⟨e1, e2⟩
    have h3 := X.same.trans h2
    rw [List.append_nil] at h3
    exact h3.mono hc hs
  refine ⟨U, ?_, .threw T.heap.size, hrun, hend, Or.inr ⟨T.heap.size, rfl, cls, ce, locs, hx U hWs.alike f1 (fun q hq => f2 q hq (fun z hz => nomatch hz)), hce, hO.vm, hcl, hWs, hall, hf⟩⟩
  refine st1 _ ?_
  show Steps p.tables e below (T1.setTop { method := m, pc := pc + 3, locals := ls, stack := .ref T.heap.size :: rest, locked := none }) _
  jvm_step X₁.here [X₁.here.top, hexec, d3', Value.category]
  exact hsteps
/-- 'throw new E("text")': new; dup; ldc; invokespecial; athrow -/
theorem vx_throwS {cc : ByteArray} {pc : Nat} (hexec : p.tables.exec = Jvm.exec) (hb : c.code = cc) (hl : l.stackTraces = false) {own cls text : String} {names : List String} {ik is ic mc ms sa : Nat} {A : Nat → Prop}
    (hown : s.vm.findClass own = some m.cls) (hcls : Bundle.fit cls = true) (hnames : ∀ n ∈ names, Bundle.fit n = true)
    (hk : (Cond.classLink own ik cls).before args s = true) (hini : (Cond.initialized cls).before args s = true) (hstr : vk_R own is text sa s) (hat : ∀ w ∈ vx_atS own ic cls names, w.before args s = true)
    (hgood : ∀ w ∈ Cond.classLink own ik cls :: Cond.initialized cls :: vx_atS own ic cls names, vx_ot w = true)
    (hU : vx_Zq Bundle.tN "UNASSIGNED_STACK" Bundle.steD A s s.heap) (hN : vx_Zq Bundle.tN "SUPPRESSED_SENTINEL" Bundle.listD A s s.heap) (hS : va_S A s.heap H locs) (hsize : ls.size = c.maxLocals)
    (d0 : decode cc pc = .ok (.new ik, 3)) (d3 : decode cc (pc + 3) = .ok (.dup, 1)) (d4 : decode cc (pc + 4) = .ok (.ldc is, 2)) (d6 : decode cc (pc + 6) = .ok (.invokespecial ic, 3)) (d9 : decode cc (pc + 9) = .ok (.athrow, 1))
    (hout : ∀ x ∈ c.exceptionTable.toList, covers x (pc + 9) = false)
    (hRframes : names.length + 3 < R.frames) (hRlocals : (rest.map fun v => v.category).sum + (13 * (names.length + 1) + 43) ≤ R.locals) (hRcells : cells + 1 ≤ R.cells) (hRslots : slots + 6 ≤ R.slots) (hlocks : meth.locks = false)
    (hx : ∀ t : State, s.vm.Alike t.vm → H.size ≤ t.heap.size → (∀ q : Nat, q < H.size → t.heap[q]? = H[q]?) → XC cls s t)
    (hf : ∀ z ∈ locs, free z.base) (hc : cells + 1 ≤ mc) (hs : slots + 6 ≤ ms) :
    W p l e R s m args below meth c H locs cells slots (vx_MQ below Qc XC args s mc ms free) (F0 m pc ls rest) := by
  intro T hT X
  have htr : e.platform.stackTraces = false := (show e.platform.stackTraces = l.stackTraces by rw [X.admits.platform]).trans hl
  have Y := vx_rebase X (R' := { frames := R.frames, locals := R.locals, cells := 1, slots := 6 }) (Nat.le_refl _) (Nat.le_refl _) hRcells hRslots
  obtain ⟨s', hA⟩ : ∃ z, z = (T.setVm s.vm).setFrames (.invoking m args :: below) := ⟨_, rfl⟩
  rw [← hA] at Y
  have hvm : s'.vm = s.vm := by rw [hA]; rfl
  have hhp : s'.heap = H := by rw [hA]; exact hT
  have hW0 : s.WarmedH s'.vm := by rw [hvm]; exact State.WarmedH.refl s
  have hat' : ∀ w ∈ vx_atS own ic cls names, w.before args s' = true := fun w hw => vx_ot_at hW0 hvm.symm (hgood w (List.mem_cons_of_mem _ (List.mem_cons_of_mem _ hw))) (hat w hw)
  have hk' : (Cond.classLink own ik cls).before args s' = true := vx_ot_at hW0 hvm.symm (hgood _ List.mem_cons_self) hk
  have hini' : (Cond.initialized cls).before args s' = true := vx_ot_at hW0 hvm.symm (hgood _ (List.mem_cons_of_mem _ List.mem_cons_self)) hini
  have hU' : vx_Zq Bundle.tN "UNASSIGNED_STACK" Bundle.steD A s' s'.heap := by rw [hhp]; exact vx_Zq.moved hW0.alike (hU.kept hS.2.1)
  have hN' : vx_Zq Bundle.tN "SUPPRESSED_SENTINEL" Bundle.listD A s' s'.heap := by rw [hhp]; exact vx_Zq.moved hW0.alike (hN.kept hS.2.1)
  have h : ∀ w ∈ Bundle.ownAtoms own ic cls names, w.before args s' = true := vx_own hat' (vx_isRefq hU'.1) (vx_isRefq hN'.1) hU'.2.word hN'.2.word
  have hown' : s'.vm.findClass own = some m.cls := by rw [hvm]; exact hown
  have hins : (Cond.instantiable cls 6).before args s' = true := h _ (by simp [Bundle.ownAtoms])
  obtain ⟨vm₁, cX, kX, hfX, hkX, -, -, X₁, st1⟩ := Y.newCold hexec (own := own) (C := cls) (index := ik) (n := 6) hown' hk' hins hini'
    (g := F0 m pc ls rest) rfl (by rw [hb]; exact d0) (Nat.le_refl _) (Nat.le_refl _)
  generalize hT1 : (T.setVm vm₁).pushCell { cls := cX, slots := kX.instanceTypes.map defaultValue, vm := .none } = T1 at X₁ st1
  have hcat : (Value.ref T.heap.size).category = 1 := rfl
  have hcellA : T1.heap[T.heap.size]? = some (freshCell cX kX) := by rw [← hT1]; exact State.heap_pushCell_size _ _
  have d3' : decode c.code (pc + 3) = .ok (.dup, 1) := by rw [hb]; exact d3
  have d4' : decode c.code (pc + 4) = .ok (.ldc is, 2) := by rw [hb]; exact d4
  have hstr' : vk_R own is text sa s' := vk_R.warm hW0 hstr
  obtain ⟨U, hsteps, hrun, hend, hW, hsame, ce, hce, hO⟩ := X₁.ctorThrowS hexec htr (own := own) (cls := cls) (names := names) (ic := ic) hown' hcls hnames h (fun x hx => nomatch hx) hfX hkX hcellA (by rw [hhp, hT]; exact Nat.le_refl _) (msg := .ref sa) rfl
    (g := { method := m, pc := pc + 6, locals := ls, stack := .ref sa :: .ref T.heap.size :: .ref T.heap.size :: rest, locked := none }) rfl hsize rfl rfl (rest := rest) rfl
    (by rw [hb]; exact d6) (by rw [hb]; exact d9) hout hRframes (by simp only [List.map_cons, List.sum_cons, hcat]; omega) hlocks
  obtain ⟨f1, f2⟩ := vx_frame hsame
  rw [hhp] at f1 f2
  have hWs : s.WarmedH U.vm := State.WarmedH.trans hW0 hW
  have hcl : s.vm.findClass cls = some ce.cls := by
    have h9 := hO.cls
    rw [hvm] at h9
    exact h9
  have hall : s.sameButNew ({ U with vm := s.vm } : State) locs mc ms := by
    subst hA
    obtain ⟨e1, e2⟩ := hsame
    rw [State.setFrames_setFrames] at e1
    have h2 : (T.setVm s.vm).sameButNew ({ U with vm := s.vm } : State) [] (0 + 1) (0 + 6) := ⟨e1, e2⟩
    have h3 := X.same.trans h2
    rw [List.append_nil] at h3
    exact h3.mono hc hs
  refine ⟨U, ?_, .threw T.heap.size, hrun, hend, Or.inr ⟨T.heap.size, rfl, cls, ce, locs, hx U hWs.alike f1 (fun q hq => f2 q hq (fun z hz => nomatch hz)), hce, hO.vm, hcl, hWs, hall, hf⟩⟩
  refine st1 _ ?_
  show Steps p.tables e below (T1.setTop { method := m, pc := pc + 3, locals := ls, stack := .ref T.heap.size :: rest, locked := none }) _
  jvm_step X₁.here [X₁.here.top, hexec, d3', Value.category]
  exact X₁.ldcString hexec (own := own) (text := text) (index := is) (a := sa) hown' hstr'.1 hstr'.2
    (g := { method := m, pc := pc + 4, locals := ls, stack := .ref T.heap.size :: .ref T.heap.size :: rest, locked := none }) rfl d4' _ hsteps
/-- 'throw new E("text")', the text by a wide index -/
theorem vx_throwSW {cc : ByteArray} {pc : Nat} (hexec : p.tables.exec = Jvm.exec) (hb : c.code = cc) (hl : l.stackTraces = false) {own cls text : String} {names : List String} {ik is ic mc ms sa : Nat} {A : Nat → Prop}
    (hown : s.vm.findClass own = some m.cls) (hcls : Bundle.fit cls = true) (hnames : ∀ n ∈ names, Bundle.fit n = true)
    (hk : (Cond.classLink own ik cls).before args s = true) (hini : (Cond.initialized cls).before args s = true) (hstr : vk_R own is text sa s) (hat : ∀ w ∈ vx_atS own ic cls names, w.before args s = true)
    (hgood : ∀ w ∈ Cond.classLink own ik cls :: Cond.initialized cls :: vx_atS own ic cls names, vx_ot w = true)
    (hU : vx_Zq Bundle.tN "UNASSIGNED_STACK" Bundle.steD A s s.heap) (hN : vx_Zq Bundle.tN "SUPPRESSED_SENTINEL" Bundle.listD A s s.heap) (hS : va_S A s.heap H locs) (hsize : ls.size = c.maxLocals)
    (d0 : decode cc pc = .ok (.new ik, 3)) (d3 : decode cc (pc + 3) = .ok (.dup, 1)) (d4 : decode cc (pc + 4) = .ok (.ldc_w is, 3)) (d7 : decode cc (pc + 7) = .ok (.invokespecial ic, 3)) (d10 : decode cc (pc + 10) = .ok (.athrow, 1))
    (hout : ∀ x ∈ c.exceptionTable.toList, covers x (pc + 10) = false)
    (hRframes : names.length + 3 < R.frames) (hRlocals : (rest.map fun v => v.category).sum + (13 * (names.length + 1) + 43) ≤ R.locals) (hRcells : cells + 1 ≤ R.cells) (hRslots : slots + 6 ≤ R.slots) (hlocks : meth.locks = false)
    (hx : ∀ t : State, s.vm.Alike t.vm → H.size ≤ t.heap.size → (∀ q : Nat, q < H.size → t.heap[q]? = H[q]?) → XC cls s t)
    (hf : ∀ z ∈ locs, free z.base) (hc : cells + 1 ≤ mc) (hs : slots + 6 ≤ ms) :
    W p l e R s m args below meth c H locs cells slots (vx_MQ below Qc XC args s mc ms free) (F0 m pc ls rest) := by
  intro T hT X
  have htr : e.platform.stackTraces = false := (show e.platform.stackTraces = l.stackTraces by rw [X.admits.platform]).trans hl
  have Y := vx_rebase X (R' := { frames := R.frames, locals := R.locals, cells := 1, slots := 6 }) (Nat.le_refl _) (Nat.le_refl _) hRcells hRslots
  obtain ⟨s', hA⟩ : ∃ z, z = (T.setVm s.vm).setFrames (.invoking m args :: below) := ⟨_, rfl⟩
  rw [← hA] at Y
  have hvm : s'.vm = s.vm := by rw [hA]; rfl
  have hhp : s'.heap = H := by rw [hA]; exact hT
  have hW0 : s.WarmedH s'.vm := by rw [hvm]; exact State.WarmedH.refl s
  have hat' : ∀ w ∈ vx_atS own ic cls names, w.before args s' = true := fun w hw => vx_ot_at hW0 hvm.symm (hgood w (List.mem_cons_of_mem _ (List.mem_cons_of_mem _ hw))) (hat w hw)
  have hk' : (Cond.classLink own ik cls).before args s' = true := vx_ot_at hW0 hvm.symm (hgood _ List.mem_cons_self) hk
  have hini' : (Cond.initialized cls).before args s' = true := vx_ot_at hW0 hvm.symm (hgood _ (List.mem_cons_of_mem _ List.mem_cons_self)) hini
  have hU' : vx_Zq Bundle.tN "UNASSIGNED_STACK" Bundle.steD A s' s'.heap := by rw [hhp]; exact vx_Zq.moved hW0.alike (hU.kept hS.2.1)
  have hN' : vx_Zq Bundle.tN "SUPPRESSED_SENTINEL" Bundle.listD A s' s'.heap := by rw [hhp]; exact vx_Zq.moved hW0.alike (hN.kept hS.2.1)
  have h : ∀ w ∈ Bundle.ownAtoms own ic cls names, w.before args s' = true := vx_own hat' (vx_isRefq hU'.1) (vx_isRefq hN'.1) hU'.2.word hN'.2.word
  have hown' : s'.vm.findClass own = some m.cls := by rw [hvm]; exact hown
  have hins : (Cond.instantiable cls 6).before args s' = true := h _ (by simp [Bundle.ownAtoms])
  obtain ⟨vm₁, cX, kX, hfX, hkX, -, -, X₁, st1⟩ := Y.newCold hexec (own := own) (C := cls) (index := ik) (n := 6) hown' hk' hins hini'
    (g := F0 m pc ls rest) rfl (by rw [hb]; exact d0) (Nat.le_refl _) (Nat.le_refl _)
  generalize hT1 : (T.setVm vm₁).pushCell { cls := cX, slots := kX.instanceTypes.map defaultValue, vm := .none } = T1 at X₁ st1
  have hcat : (Value.ref T.heap.size).category = 1 := rfl
  have hcellA : T1.heap[T.heap.size]? = some (freshCell cX kX) := by rw [← hT1]; exact State.heap_pushCell_size _ _
  have d3' : decode c.code (pc + 3) = .ok (.dup, 1) := by rw [hb]; exact d3
  have d4' : decode c.code (pc + 4) = .ok (.ldc_w is, 3) := by rw [hb]; exact d4
  have hstr' : vk_R own is text sa s' := vk_R.warm hW0 hstr
  obtain ⟨U, hsteps, hrun, hend, hW, hsame, ce, hce, hO⟩ := X₁.ctorThrowS hexec htr (own := own) (cls := cls) (names := names) (ic := ic) hown' hcls hnames h (fun x hx => nomatch hx) hfX hkX hcellA (by rw [hhp, hT]; exact Nat.le_refl _) (msg := .ref sa) rfl
    (g := { method := m, pc := pc + 7, locals := ls, stack := .ref sa :: .ref T.heap.size :: .ref T.heap.size :: rest, locked := none }) rfl hsize rfl rfl (rest := rest) rfl
    (by rw [hb]; exact d7) (by rw [hb]; exact d10) hout hRframes (by simp only [List.map_cons, List.sum_cons, hcat]; omega) hlocks
  obtain ⟨f1, f2⟩ := vx_frame hsame
  rw [hhp] at f1 f2
  have hWs : s.WarmedH U.vm := State.WarmedH.trans hW0 hW
  have hcl : s.vm.findClass cls = some ce.cls := by
    have h9 := hO.cls
    rw [hvm] at h9
    exact h9
  have hall : s.sameButNew ({ U with vm := s.vm } : State) locs mc ms := by
    subst hA
    obtain ⟨e1, e2⟩ := hsame
    rw [State.setFrames_setFrames] at e1
    have h2 : (T.setVm s.vm).sameButNew ({ U with vm := s.vm } : State) [] (0 + 1) (0 + 6) := ⟨e1, e2⟩
    have h3 := X.same.trans h2
    rw [List.append_nil] at h3
    exact h3.mono hc hs
  refine ⟨U, ?_, .threw T.heap.size, hrun, hend, Or.inr ⟨T.heap.size, rfl, cls, ce, locs, hx U hWs.alike f1 (fun q hq => f2 q hq (fun z hz => nomatch hz)), hce, hO.vm, hcl, hWs, hall, hf⟩⟩
  refine st1 _ ?_
  show Steps p.tables e below (T1.setTop { method := m, pc := pc + 3, locals := ls, stack := .ref T.heap.size :: rest, locked := none }) _
  jvm_step X₁.here [X₁.here.top, hexec, d3', Value.category]
  exact X₁.ldcStringW hexec (own := own) (text := text) (index := is) (a := sa) hown' hstr'.1 hstr'.2
    (g := { method := m, pc := pc + 4, locals := ls, stack := .ref T.heap.size :: .ref T.heap.size :: rest, locked := none }) rfl d4' _ hsteps
end Ends
section Bodies
variable {l : Launch}
theorem vx_ofW {y : MethodName} {ws ws' : List Cond} {rm : Room} {Pc : Array Value → State → Prop} {Qc : Array Value → State → Outcome → State → Prop} {XC : String → State → State → Prop} {mc ms : Nat} {free : Addr → Prop} {cc : ByteArray} {maxL : Nat} {ret : Option FieldType}
    (hy : plainName y.cls = true) (hw : ws = Cond.code y cc maxL ret :: ws')
    (body : ∀ p e s m args below meth c s₁, BodyLoose p l y (headSpec ws rm) cc maxL ret e s m args below meth c s₁ → c.maxLocals = maxL → (∀ x ∈ c.exceptionTable.toList, False) → Pc args s →
      W p l e (headSpec ws rm).room s m args below meth c s.heap [] 0 0 (vx_MQ below Qc XC args s mc ms free) (entryFrame m args maxL)) : vx_Met l y ws rm Pc Qc XC mc ms free := by
  refine MetFree.of_bodyS (code := cc) (maxLocals := maxL) (ret := ret) hy ?_ ?_
  · intro args s m h hn
    obtain ⟨meth, c, h1, h2, h3, h4, h5, h6, -, -⟩ := Cond.code_spec hn (atoms_spec (ws := ws) h _ (by rw [hw]; exact List.mem_cons_self))
    exact ⟨meth, c, h1, h2, h3, h4, h5, h6⟩
  · intro p e s m args below meth c s₁ B hml hP _
    have hh0 : s₁.heap = s.heap := by rw [B.state]; rfl
    have ht : ∀ x ∈ c.exceptionTable.toList, False := by
      obtain ⟨meth9, c9, h1, h2, -, -, -, -, h7, -⟩ := Cond.code_spec B.named (atoms_spec (ws := ws) B.pre _ (by rw [hw]; exact List.mem_cons_self))
      cases Option.some.inj (h1.symm.trans B.method)
      cases Option.some.inj (h2.symm.trans (Stand.of_body B).code)
      intro x hx
      rw [Array.isEmpty_iff.mp h7] at hx
      cases hx
    obtain ⟨t, a1, o, b1, b2, b3⟩ := body p e s m args below meth c s₁ B hml ht hP s₁ hh0 (Stand.of_body B)
    exact ⟨t, o, a1, b1, b2, b3⟩
/-- the table of a body with handlers -/
theorem vx_table {p : Program} {x y : MethodName} {S : Spec} {cc bytes : ByteArray} {maxL maxL' : Nat} {ret ret' : Option FieldType} {e : Env} {s s₁ : State} {m : MethodId} {args : Array Value} {below : List Frame} {meth : Method} {c : Code} {hh : List (Nat × Nat × Nat × Nat)}
    (B : BodyLoose p l y S cc maxL ret e s m args below meth c s₁) (h : (Cond.codeWith y bytes maxL' ret' hh).before args s = true) : c.exceptionTable.toList = tableOf hh := by
  obtain ⟨m9, meth9, c9, hn9, h1, h2, -, -, h6, -⟩ := Cond.codeWith_spec h
  cases Option.some.inj (hn9.symm.trans B.named)
  cases Option.some.inj (h1.symm.trans B.method)
  cases Option.some.inj (h2.symm.trans (Stand.of_body B).code)
  rw [← h6, table_eq]
end Bodies
end VXA
/-! ===== END ===== -/
/-! ===== BEGIN a static call of a method with an exception table ===== -/
section VXS
variable {p : Program} {l : Launch} {e : Env} {R : Room} {s : State} {m : MethodId} {args : Array Value} {below : List Frame} {meth : Method} {c : Code} {T : State} {H : Heap} {locs : List Loc} {cells slots : Nat}
abbrev vx_CSW (R : Room) (s : State) (args : Array Value) (own : String) (index : Nat) (y : MethodName) (bytes : ByteArray) (maxL : Nat) (ret : Option FieldType) (hh : List (Nat × Nat × Nat × Nat)) (ws : List Cond) (rm : Room) (mc ms n : Nat) : Prop :=
  (rm.cells = mc ∧ rm.slots = ms ∧ rm.frames + 1 ≤ R.frames ∧ 8 + (maxL + 11) + rm.locals ≤ R.locals ∧ (∀ w ∈ ws, ∀ (a' : Array Value) (U : State), s.WarmedH U.vm → w.before a' U = true) ∧ Cond.codeWith y bytes maxL ret hh ∈ ws) ∧
  (Cond.codeWith y bytes maxL ret hh).before args s = true ∧ (Cond.initialized y.cls).before args s = true ∧ (y.cls ≠ "java/lang/invoke/MethodHandle" ∧ y.cls ≠ "java/lang/invoke/VarHandle") ∧
  (∀ sig, parseMethodDescriptor y.desc = some sig → n = sig.parameters.length) ∧ (Cond.methodLink own index y).before args s = true ∧ (Cond.static y).before args s = true
theorem vx_cwSW {own : String} {index maxL mc ms : Nat} {y : MethodName} {bytes : ByteArray} {ret : Option FieldType} {hh : List (Nat × Nat × Nat × Nat)} {Ts ws ws' : List Cond} {rm : Room} (n : Nat) (ht : ∀ w ∈ Ts, w.before args s = true) (hT : GoodIn Ts (va_wsS own index y ws)) (hw : ws = Cond.codeWith y bytes maxL ret hh :: ws') (hrc : rm.cells = mc) (hrs : rm.slots = ms)
    (hd : y.cls ≠ "java/lang/invoke/MethodHandle" ∧ y.cls ≠ "java/lang/invoke/VarHandle" ∧ (parseMethodDescriptor y.desc).map (fun d => d.parameters.length) = some n) (hR : rm.frames + 1 ≤ R.frames ∧ 8 + (maxL + 11) + rm.locals ≤ R.locals) :
    vx_CSW R s args own index y bytes maxL ret hh ws rm mc ms n := by
  have ok : ∀ w ∈ va_wsS own index y ws, w.before args s = true := fun w h => ht w (hT w h).1
  have hG : GoodIn Ts ws := fun w h => hT w (by unfold va_wsS; exact List.mem_append_right _ h)
  have hc : Cond.codeWith y bytes maxL ret hh ∈ ws := by rw [hw]; exact List.mem_cons_self
  refine ⟨⟨hrc, hrs, hR.1, hR.2, pay_in ht hG, hc⟩, ht _ (hG _ hc).1, ok _ (by simp [va_wsS]), ⟨hd.1, hd.2.1⟩, fun sig h => ?_, ok _ (by simp [va_wsS]), ok _ (by simp [va_wsS])⟩
  have h2 := hd.2.2
  rw [h] at h2
  exact (Option.some.inj h2).symm
theorem vx_callSW (X : Stand p l e R s m args below meth c T locs cells slots) (hexec : p.tables.exec = Jvm.exec) {own : String} {index : Nat} {y : MethodName} {bytes : ByteArray} {maxL : Nat} {ret : Option FieldType} {hh : List (Nat × Nat × Nat × Nat)}
    (hown : s.vm.findClass own = some m.cls) (hlink : (Cond.methodLink own index y).before args s = true) (hstat : (Cond.static y).before args s = true) (hinit : (Cond.initialized y.cls).before args s = true)
    (hcode : (Cond.codeWith y bytes maxL ret hh).before args s = true) (hy : y.cls ≠ "java/lang/invoke/MethodHandle" ∧ y.cls ≠ "java/lang/invoke/VarHandle")
    {W9 : Nat} {Pre : Pt → Array Value → Prop} {Post : Pt → Array Value → Option Value → Pt → Prop} (hK : Back l R p e below s args y 3 W9 Pre Post)
    {g : JFrame} (hg : g.method = m) (hsize : g.locals.size = c.maxLocals) {argsL rest : List Value} (hlen : ∀ sig, parseMethodDescriptor y.desc = some sig → argsL.length = sig.parameters.length)
    (hstack : g.stack = argsL.reverse ++ rest) (hW : 2 * g.monitorRoom + (rest.map fun v => v.category).sum ≤ W9) (hdg : decode c.code g.pc = .ok (.invokestatic index, 3))
    (hpre : ∀ vm₁, s.WarmedH vm₁ → Pre ⟨T.setVm vm₁, locs, cells, slots⟩ argsL.toArray) :
    ∃ (v : Option Value) (vm₁ : Vm) (B : Pt), s.WarmedH vm₁ ∧ Stand p l e R s m args below meth c B.U B.locs B.cells B.slots ∧ Post ⟨T.setVm vm₁, locs, cells, slots⟩ argsL.toArray v B ∧
      ∀ target, Steps p.tables e below (B.U.setTop { g with pc := g.pc + 3, stack := v.toList ++ rest }) target → Steps p.tables e below (T.setTop g) target := by
  obtain ⟨mk, methM, cM, hnamed, hmethM, -, -, -, -, -, -, hsigM⟩ := Cond.codeWith_spec hcode
  have hstatic : methM.isStatic = true := Cond.static_spec hnamed hmethM hstat
  obtain ⟨kP, hkP, -⟩ := className_of_methodNamed hnamed
  have hinitP : kP.init = .initialized := Cond.initialized_spec (findClass_of_methodNamed hnamed) hkP hinit
  obtain ⟨vm₁, X₁, hstep₁⟩ := X.invokestatic hexec hown hlink hnamed hmethM hstatic hkP hinitP hy (g := g) hg (argsL := argsL) (rest := rest) (hlen _ hsigM) hstack hdg
  obtain ⟨v, B, X', hpost, hsteps⟩ := hK m meth c ⟨T.setVm vm₁, locs, cells, slots⟩ { g with stack := rest } (.invokestatic index) mk argsL.toArray X₁ hg hsize hdg hW (X₁.named hnamed) (hpre vm₁ X₁.warmed)
  exact ⟨v, vm₁, B, X₁.warmed, X', hpost, fun target h => hstep₁ _ fun acts => by rw [doInvoke_state]; exact hsteps.trans h⟩
theorem vx_runSW {y : MethodName} {bytes cc : ByteArray} {maxL nL mc ms n index : Nat} {ret : Option FieldType} {hh : List (Nat × Nat × Nat × Nat)} {ws : List Cond} {rm : Room} {Pc : Array Value → State → Prop} {Qc : Array Value → State → Outcome → State → Prop} {free : Addr → Prop} {Ts : List Cond} {own : String} {As rest : List Value} {g : JFrame}
    (S : CallFix p m c cc nL s args Ts own) (hM : Met l y ws rm Pc Qc mc ms free) (cw : vx_CSW R s args own index y bytes maxL ret hh ws rm mc ms n) (hp : PreS s H Pc As)
    (hg : g.method = m) (hn : As.length = n) (hsize : g.locals.size = nL) (hstack : g.stack = As.reverse ++ rest) (hW : 2 * g.monitorRoom + (rest.map fun v => v.category).sum ≤ 8) (hdg : decode cc g.pc = .ok (.invokestatic index, 3)) (hf : cells + mc ≤ R.cells ∧ slots + ms ≤ R.slots) :
    va_Run p l e R s m args below meth c H locs cells slots mc ms g rest (Qc As.toArray) (free) := by
  obtain ⟨⟨hrc, hrs, hfr, hlo, hws, hcw⟩, hcode, hini, hy, hlen, hl, hstt⟩ := cw
  have hK : Back l R p e below s args y 3 8 (PreOf R mc ms Pc) (PostOf Qc mc ms free) := va_backW (hh := hh) (bytes := bytes) (maxL := maxL) (ret := ret) hM hp.1 hrc hrs hfr hlo hws hcw (fun a' U hW => word_at hW (Or.inl (by first | rfl | simp [Cond.onTables, Cond.keeps, Cond.steady])) hini)
  obtain ⟨hx, hb, hml, ho, -⟩ := S
  intro T hT X
  obtain ⟨v, vm₁, ⟨U', l2, c2, s2⟩, hW₁, X', ⟨g', mk, t, L, e1, e2, hq, h1, hL, h2, h3⟩, st⟩ := vx_callSW X hx (hh := hh) (bytes := bytes) (maxL := maxL) (ret := ret) ho hl hstt hini hcode hy hK hg (hsize.trans hml.symm) (argsL := As) (rest := rest) (fun sig h => hn.trans (hlen sig h)) hstack hW (by rw [hb]; exact hdg)
    (fun vm₁ hW₁ => ⟨hf.1, hf.2, hp.2 (T.setVm vm₁) hT hW₁⟩)
  dsimp only [Pt.U, Pt.locs, Pt.cells, Pt.slots] at X' e1 e2 h1 h2 h3 st
  subst h1; subst h2; subst h3
  exact ⟨v, (T.setVm vm₁).calling g' mk As.toArray, t, U', L, hT, X', hL, e1, e2, hq, st⟩
/-- not caught here, past rows that name other classes: it goes on to the caller -/
theorem vx_outP {p : Program} {l : Launch} {e : Env} {R : Room} {s : State} {m : MethodId} {args : Array Value} {below : List Frame} {meth : Method} {c : Code} {H : Heap} {locs : List Loc} {cells slots : Nat} {free : Addr → Prop} {ls : Array Slot} {rest : List Value} {Qc : Array Value → State → Outcome → State → Prop} {XC : String → State → State → Prop}
    {pc : Nat} {own E : String} {ce : Cell} {q : Addr} {mc ms : Nat} (hown : s.vm.findClass own = some m.cls) (hlocks : meth.locks = false)
    (hpass : ∀ z ∈ c.exceptionTable.toList, covers z pc = false ∨ (z.catchType ≠ 0 ∧ ∃ nm : String, (Cond.classLink own z.catchType nm).before args s = true ∧ va_Nc E nm s)) (hcell : H[q]? = some ce) (hv : ce.vm = .none) (hcl : s.vm.findClass E = some ce.cls)
    (hx : ∀ t : State, t.heap = H → s.vm.Alike t.vm → XC E s t) (hf : ∀ z ∈ locs, free z.base) (hc : cells ≤ mc) (hs : slots ≤ ms) :
    vx_W p l e R s m args below meth c H locs cells slots (vx_MQ below Qc XC args s mc ms free) (F0 m pc ls rest) q := by
  intro T hT X
  have hpl : e.platform.magicAccessors = ({} : Platform).magicAccessors := by rw [X.admits.platform]
  obtain ⟨vm', hW', X', st⟩ := X.outThrough hlocks q (g := F0 m pc ls rest) rfl rfl rfl (cell := ce) (by rw [hT]; exact hcell) (by rw [hv]; rfl)
    (by obtain ⟨k9, h9, -⟩ := Vm.findClass_spec hcl; exact ⟨k9, h9⟩) (fun z hz => by
      rcases hpass z hz with h | ⟨hz0, nm, hl1, hn1⟩
      · exact Or.inl h
      · obtain ⟨c6, hc6, hcl6⟩ := Cond.classLink_spec hown hl1 e.platform hpl
        obtain ⟨a8, b8, h1, h2, h3⟩ := hn1
        cases Option.some.inj (h1.symm.trans hcl)
        cases Option.some.inj (h2.symm.trans hc6)
        exact Or.inr ⟨hz0, _, hcl6, h3⟩)
  obtain ⟨g₀, hfr⟩ := X'.frames_eq
  have hcell9 : ((T.setVm vm').setFrames (.throwing q :: below)).heap[q]? = some ce := by
    show T.heap[q]? = some ce
    rw [hT]; exact hcell
  have hend : Ended ((T.setVm vm').setFrames (.throwing q :: below)) below (.threw q) := State.frames_setFrames _ (State.cur_lt_of_frames hfr)
  refine ⟨(T.setVm vm').setFrames (.throwing q :: below), ?_, .threw q, X'.here.running, hend, Or.inr ⟨q, rfl, E, ce, locs, hx _ hT (X'.ends _).1.alike, hcell9, hv, hcl, (X'.ends _).1, (X'.ends _).2.mono hc hs, hf⟩⟩
  rw [X.pushThrowing_eq]
  exact st
/-- a thing of a world lies in the heap -/
theorem vx_lt {D : va_G} {cl : List vw_C} {ws : va_W} {H1 : Heap} (h : va_P D cl ws H1) {k : Nat} {q : Nat × va_E} (hk : ws[k]? = some q) : q.1 < H1.size := (h k q hk).lt
end VXS
/-! ===== END ===== -/
/-! ===== BEGIN methods with a table of their own: called by a name, returning or throwing ===== -/
section VXH
/-! vx_backW, vx_callVX, vx_callSX, vx_callVW, vx_runVW, vx_runVX, vx_runSX, vx_ofWH follow the same proofs as their sisters above (Free/Laws.lean, Shelf42/LK1.lean); vx_outP calls Shelf42/NT130.lean (outThrough). -/
section
variable {l : Launch} {R : Room} {p : Program} {e : Env} {below : List Frame} {s : State} {sargs : Array Value} {y : MethodName} {len W9 : Nat}
theorem vx_backW {ws : List Cond} {rm : Room} {Pc : Array Value → State → Prop} {Qc : Array Value → State → Outcome → State → Prop} {XC : String → State → State → Prop} {mc ms : Nat} {free : Addr → Prop} {bytes : ByteArray} {maxL : Nat} {ret : Option FieldType} {hh : List (Nat × Nat × Nat × Nat)}
    (hM : vx_Met l y ws rm Pc Qc XC mc ms free) (hblind : FrameBlind Pc) (hrc : rm.cells = mc) (hrs : rm.slots = ms)
    (hframes : rm.frames + 1 ≤ R.frames) (hlocals : W9 + (maxL + 11) + rm.locals ≤ R.locals)
    (hws : ∀ w ∈ ws, ∀ a' U, s.WarmedH U.vm → w.before a' U = true) (hcode : Cond.codeWith y bytes maxL ret hh ∈ ws) (hinit : ∀ a' U, s.WarmedH U.vm → (Cond.initialized y.cls).before a' U = true) :
    vx_Back l R p e below s sargs y len W9 (PreOf R mc ms Pc) (PostOf Qc mc ms free) (vx_Post XC mc ms free) := by
  intro m meth c A g ig mk a X hg hsize hdg hW hn hp
  have h1 : (headSpec ws rm).pre.before a A.U = true := atoms_intro fun w hw => hws w hw _ _ X.warmed
  have h2 : (Cond.codeWith y bytes maxL ret hh).before a A.U = true := hws _ hcode _ _ X.warmed
  have h3 : (Cond.initialized y.cls).before a A.U = true := hinit _ _ X.warmed
  have h4 : A.cells + (headSpec ws rm).room.cells ≤ R.cells := by rw [show (headSpec ws rm).room.cells = mc from hrc]; exact hp.1
  have h5 : A.slots + (headSpec ws rm).room.slots ≤ R.slots := by rw [show (headSpec ws rm).room.slots = ms from hrs]; exact hp.2.1
  have hPc : Pc a (A.U.calling g mk a) := hblind _ _ _ _ hp.2.2
  obtain ⟨U, Ls, c0, s0⟩ := A
  dsimp only [Pt.U, Pt.locs, Pt.cells, Pt.slots] at h1 h2 h3 h4 h5 X hn hPc ⊢
  obtain ⟨m9, methY, cY, hn9, hmY, hcY, -, hlY, -⟩ := Cond.codeWith_spec h2
  cases Option.some.inj (hn9.symm.trans hn)
  obtain ⟨kY, hkY, -⟩ := className_of_methodNamed hn
  have hinitY : kY.init = .initialized := Cond.initialized_spec (findClass_of_methodNamed hn) hkY h3
  have h : At U g.method c below := by rw [hg]; exact X.here
  have hlocals9 : W9 + (maxL + 11) + (headSpec ws rm).room.locals ≤ R.locals := hlocals
  have happ : (headSpec ws rm).appliesLoose y e.platform (U.calling g mk a) = true :=
    Spec.appliesLoose_calling (g := g) h hdg hn hkY hinitY
      (X.room_calling (g := g) (R' := (headSpec ws rm).room) hsize hmY hcY hframes (by rw [hlY]; omega) h4 h5) h1
  obtain ⟨mid, hmid⟩ := h.above
  have hfr : (U.setTop g).frames = (.java g :: mid) ++ below := by rw [State.frames_setTop' g h.top, hmid]; rfl
  obtain ⟨o, s₂, hsteps, -, hend, hq⟩ := Steps.callFree hM p X.admits X.cas X.clock (acts := []) hfr happ hPc trivial
  have hq' : vx_Q Qc XC mc ms free a (U.calling g mk a) o s₂ := hq
  rw [State.frames_setTop' g h.top] at hend
  obtain ⟨g₀, hg0⟩ := Option.isSome_iff_exists.mp h.top
  obtain ⟨r, hr⟩ := State.topJava?_eq_some.mp hg0
  have hr' : (({ U with heap := s₂.heap, slotsUsed := s₂.slotsUsed } : State).setVm s₂.vm).frames = .java g₀ :: r := hr
  rcases hq' with ⟨hqc, L, hfe, hL⟩ | ⟨q, rfl, E, ce, L, hx, hce, hcv, hcl, hW₂, hsm, hL⟩
  · obtain ⟨⟨v, rfl⟩, hW₂, e2, q2, q3, q4, q5, q6⟩ := id hfe
    have e3 : s₂ = ({ (U.calling g mk a).setFrames s₂.frames with heap := s₂.heap, slotsUsed := s₂.slotsUsed } : State).setVm s₂.vm := by
      have : s₂ = ({ s₂ with vm := (U.calling g mk a).vm } : State).setVm s₂.vm := rfl
      rw [e2] at this
      exact this
    obtain ⟨c₂, i₂, len₂, hc₂, hd₂, hf₂⟩ := hend
    have hW' : U.WarmedH s₂.vm := hW₂
    have hcc : c₂ = c := by
      have h1 : s₂.code? g.method = U.code? g.method := by
        rw [State.code?_eq, State.code?_eq, hW'.alike.method?]
      exact Option.some.inj (hc₂.symm.trans (h1.trans h.code))
    subst hcc
    have hlen : len₂ = len := by rw [hdg] at hd₂; cases hd₂; rfl
    subst hlen
    have hs₂ : s₂ = (({ U with heap := s₂.heap, slotsUsed := s₂.slotsUsed } : State).setVm s₂.vm).setTop { g with pc := g.pc + len₂, stack := v.toList ++ g.stack } := by
      refine e3.trans ?_
      rw [hf₂, State.calling_eq h.top, State.setFrames_setFrames, State.setTop_of_frames _ hr', hr]
      rfl
    have hsame : U.sameButNew ({ U with heap := s₂.heap, slotsUsed := s₂.slotsUsed } : State) L mc ms := by
      refine ⟨?_, q2, q3, q4, q5, q6⟩
      obtain ⟨t, ht, -⟩ := State.frames_cons hr
      show ({ U with heap := s₂.heap, slotsUsed := s₂.slotsUsed } : State) = { U.setFrames U.frames with heap := s₂.heap, slotsUsed := s₂.slotsUsed }
      rw [State.setFrames_self ht]
    subst hg
    refine Or.inl ⟨v, ⟨(({ U with heap := s₂.heap, slotsUsed := s₂.slotsUsed } : State).setVm s₂.vm), Ls ++ L, c0 + mc, s0 + ms⟩,
      ⟨X.admits, X.cas, X.clock, X.frames, X.room, X.hears, X.method, X.code, (X.here.setHeapUsed s₂.heap s₂.slotsUsed).setVm hW'.alike, X.tail, State.WarmedH.trans X.warmed hW', X.limits, X.bytes, X.same.trans (hsame.setVm s.vm)⟩,
      ⟨g, mk, s₂, L, rfl, rfl, hqc, rfl, hL, rfl, rfl⟩, ?_⟩
    show Steps p.tables e below _ ((({ U with heap := s₂.heap, slotsUsed := s₂.slotsUsed } : State).setVm s₂.vm).setTop { g with pc := g.pc + len₂, stack := v.toList ++ g.stack })
    rw [← hs₂]
    exact hsteps
  · obtain ⟨e2, q2, q3, q4, q5, q6⟩ := id hsm
    have e3 : s₂ = ({ (U.calling g mk a).setFrames s₂.frames with heap := s₂.heap, slotsUsed := s₂.slotsUsed } : State).setVm s₂.vm := by
      have : s₂ = ({ s₂ with vm := (U.calling g mk a).vm } : State).setVm s₂.vm := rfl
      rw [e2] at this
      exact this
    have hf₂ : s₂.frames = .throwing q :: .java g :: U.frames.tail := hend
    have hW' : U.WarmedH s₂.vm := hW₂
    have hs₂ : s₂ = ((({ U with heap := s₂.heap, slotsUsed := s₂.slotsUsed } : State).setVm s₂.vm).setTop g).pushFrame (.throwing q) := by
      refine e3.trans ?_
      rw [hf₂, State.calling_eq h.top, State.setFrames_setFrames, State.pushFrame, State.frames_setTop _ hr', State.setTop_of_frames _ hr', State.setFrames_setFrames, hr]
      rfl
    have hsame : U.sameButNew ({ U with heap := s₂.heap, slotsUsed := s₂.slotsUsed } : State) L mc ms := by
      refine ⟨?_, q2, q3, q4, q5, q6⟩
      obtain ⟨t, ht, -⟩ := State.frames_cons hr
      show ({ U with heap := s₂.heap, slotsUsed := s₂.slotsUsed } : State) = { U.setFrames U.frames with heap := s₂.heap, slotsUsed := s₂.slotsUsed }
      rw [State.setFrames_self ht]
    subst hg
    refine Or.inr ⟨q, ⟨(({ U with heap := s₂.heap, slotsUsed := s₂.slotsUsed } : State).setVm s₂.vm), Ls ++ L, c0 + mc, s0 + ms⟩,
      ⟨X.admits, X.cas, X.clock, X.frames, X.room, X.hears, X.method, X.code, (X.here.setHeapUsed s₂.heap s₂.slotsUsed).setVm hW'.alike, X.tail, State.WarmedH.trans X.warmed hW', X.limits, X.bytes, X.same.trans (hsame.setVm s.vm)⟩,
      ⟨g, mk, s₂, L, E, ce, rfl, rfl, hx, hce, hcv, hcl, rfl, hL, rfl, rfl⟩, ?_⟩
    show Steps p.tables e below _ (((({ U with heap := s₂.heap, slotsUsed := s₂.slotsUsed } : State).setVm s₂.vm).setTop g).pushFrame (.throwing q))
    rw [← hs₂]
    exact hsteps
end
variable {p : Program} {l : Launch} {e : Env} {R : Room} {s : State} {m : MethodId} {args : Array Value} {below : List Frame} {meth : Method} {c : Code} {T : State} {H : Heap} {locs : List Loc} {cells slots : Nat}
theorem vx_callVX (X : Stand p l e R s m args below meth c T locs cells slots) (hexec : p.tables.exec = Jvm.exec) {own C : String} {index : Nat} {y : MethodName} {bytes : ByteArray} {maxL : Nat} {ret : Option FieldType} {hh : List (Nat × Nat × Nat × Nat)}
    (hown : s.vm.findClass own = some m.cls) (hlink : (Cond.methodLink own index y).before args s = true) (hinst : (Cond.instanceMethod y).before args s = true) (hsel : (Cond.selects C y y).before args s = true)
    (hcode : (Cond.codeWith y bytes maxL ret hh).before args s = true) (hy : y.cls ≠ "java/lang/invoke/MethodHandle" ∧ y.cls ≠ "java/lang/invoke/VarHandle")
    {W9 : Nat} {Pre : Pt → Array Value → Prop} {Post : Pt → Array Value → Option Value → Pt → Prop} {PostX : Pt → Array Value → Addr → Pt → Prop} (hK : vx_Back l R p e below s args y 3 W9 Pre Post PostX)
    {b : Addr} {cellB : Cell} (hcell : T.heap[b]? = some cellB) (hobj : cellB.vm.isStatics = false) (hcls : s.vm.findClass C = some cellB.cls)
    {g : JFrame} (hg : g.method = m) (hsize : g.locals.size = c.maxLocals) {argsL rest : List Value} (hlen : ∀ sig, parseMethodDescriptor y.desc = some sig → argsL.length = sig.parameters.length)
    (hstack : g.stack = argsL.reverse ++ .ref b :: rest) (hW : 2 * g.monitorRoom + (rest.map fun v => v.category).sum ≤ W9) (hdg : decode c.code g.pc = .ok (.invokevirtual index, 3))
    (hpre : ∀ vm₁, s.WarmedH vm₁ → Pre ⟨T.setVm vm₁, locs, cells, slots⟩ (Value.ref b :: argsL).toArray) :
    (∃ (v : Option Value) (vm₁ : Vm) (B : Pt), s.WarmedH vm₁ ∧ Stand p l e R s m args below meth c B.U B.locs B.cells B.slots ∧ Post ⟨T.setVm vm₁, locs, cells, slots⟩ (Value.ref b :: argsL).toArray v B ∧
      ∀ target, Steps p.tables e below (B.U.setTop { g with pc := g.pc + 3, stack := v.toList ++ rest }) target → Steps p.tables e below (T.setTop g) target) ∨
    (∃ (q : Addr) (vm₁ : Vm) (B : Pt), s.WarmedH vm₁ ∧ Stand p l e R s m args below meth c B.U B.locs B.cells B.slots ∧ PostX ⟨T.setVm vm₁, locs, cells, slots⟩ (Value.ref b :: argsL).toArray q B ∧
      Steps p.tables e below (T.setTop g) ((B.U.setTop { g with stack := rest }).pushFrame (.throwing q))) := by
  obtain ⟨mk, methM, hnamed, hmethM, hstM, habM⟩ := Cond.instanceMethod_spec hinst
  obtain ⟨m8, methM', cM, hn8, hmethM', -, -, -, -, -, -, hsigM⟩ := Cond.codeWith_spec hcode
  cases Option.some.inj (hn8.symm.trans hnamed)
  cases hmethM.symm.trans hmethM'
  obtain ⟨c2, r2, m2, q1, q2, q3, q4, kP, hkP, hkPi⟩ := Cond.selects_spec hsel
  cases hcls.symm.trans q1
  cases (State.methodFound?_of_named hnamed hy).symm.trans q2
  cases hnamed.symm.trans q3
  have hselP : selectMethod e.platform s.vm cellB.cls mk = .method mk := by rw [Launch.admits_selectMethod X.admits]; exact q4
  obtain ⟨vm₁, X₁, hstep₁⟩ := X.invokevirtual hexec hown hlink hnamed hmethM hstM hkP hkPi hy (a := b) (cell := cellB) hcell
    (fun z h => by rw [h] at hobj; cases hobj) hselP hmethM habM hkP hkPi (g := g) hg (argsL := argsL) (rest := rest) (hlen _ hsigM) hstack hdg
  rcases hK m meth c ⟨T.setVm vm₁, locs, cells, slots⟩ { g with stack := rest } (.invokevirtual index) mk (Value.ref b :: argsL).toArray X₁ hg hsize hdg hW (X₁.named hnamed) (hpre vm₁ X₁.warmed) with ⟨v, B, X', hpost, hsteps⟩ | ⟨q, B, X', hpost, hsteps⟩
  · exact Or.inl ⟨v, vm₁, B, X₁.warmed, X', hpost, fun target h => hstep₁ _ fun acts => by rw [doInvoke_state]; exact hsteps.trans h⟩
  · exact Or.inr ⟨q, vm₁, B, X₁.warmed, X', hpost, hstep₁ _ fun acts => by rw [doInvoke_state]; exact hsteps⟩
theorem vx_callSX (X : Stand p l e R s m args below meth c T locs cells slots) (hexec : p.tables.exec = Jvm.exec) {own : String} {index : Nat} {y : MethodName} {bytes : ByteArray} {maxL : Nat} {ret : Option FieldType} {hh : List (Nat × Nat × Nat × Nat)}
    (hown : s.vm.findClass own = some m.cls) (hlink : (Cond.methodLink own index y).before args s = true) (hstat : (Cond.static y).before args s = true) (hinit : (Cond.initialized y.cls).before args s = true)
    (hcode : (Cond.codeWith y bytes maxL ret hh).before args s = true) (hy : y.cls ≠ "java/lang/invoke/MethodHandle" ∧ y.cls ≠ "java/lang/invoke/VarHandle")
    {W9 : Nat} {Pre : Pt → Array Value → Prop} {Post : Pt → Array Value → Option Value → Pt → Prop} {PostX : Pt → Array Value → Addr → Pt → Prop} (hK : vx_Back l R p e below s args y 3 W9 Pre Post PostX)
    {g : JFrame} (hg : g.method = m) (hsize : g.locals.size = c.maxLocals) {argsL rest : List Value} (hlen : ∀ sig, parseMethodDescriptor y.desc = some sig → argsL.length = sig.parameters.length)
    (hstack : g.stack = argsL.reverse ++ rest) (hW : 2 * g.monitorRoom + (rest.map fun v => v.category).sum ≤ W9) (hdg : decode c.code g.pc = .ok (.invokestatic index, 3))
    (hpre : ∀ vm₁, s.WarmedH vm₁ → Pre ⟨T.setVm vm₁, locs, cells, slots⟩ argsL.toArray) :
    (∃ (v : Option Value) (vm₁ : Vm) (B : Pt), s.WarmedH vm₁ ∧ Stand p l e R s m args below meth c B.U B.locs B.cells B.slots ∧ Post ⟨T.setVm vm₁, locs, cells, slots⟩ argsL.toArray v B ∧
      ∀ target, Steps p.tables e below (B.U.setTop { g with pc := g.pc + 3, stack := v.toList ++ rest }) target → Steps p.tables e below (T.setTop g) target) ∨
    (∃ (q : Addr) (vm₁ : Vm) (B : Pt), s.WarmedH vm₁ ∧ Stand p l e R s m args below meth c B.U B.locs B.cells B.slots ∧ PostX ⟨T.setVm vm₁, locs, cells, slots⟩ argsL.toArray q B ∧
      Steps p.tables e below (T.setTop g) ((B.U.setTop { g with stack := rest }).pushFrame (.throwing q))) := by
  obtain ⟨mk, methM, cM, hnamed, hmethM, -, -, -, -, -, -, hsigM⟩ := Cond.codeWith_spec hcode
  have hstatic : methM.isStatic = true := Cond.static_spec hnamed hmethM hstat
  obtain ⟨kP, hkP, -⟩ := className_of_methodNamed hnamed
  have hinitP : kP.init = .initialized := Cond.initialized_spec (findClass_of_methodNamed hnamed) hkP hinit
  obtain ⟨vm₁, X₁, hstep₁⟩ := X.invokestatic hexec hown hlink hnamed hmethM hstatic hkP hinitP hy (g := g) hg (argsL := argsL) (rest := rest) (hlen _ hsigM) hstack hdg
  rcases hK m meth c ⟨T.setVm vm₁, locs, cells, slots⟩ { g with stack := rest } (.invokestatic index) mk argsL.toArray X₁ hg hsize hdg hW (X₁.named hnamed) (hpre vm₁ X₁.warmed) with ⟨v, B, X', hpost, hsteps⟩ | ⟨q, B, X', hpost, hsteps⟩
  · exact Or.inl ⟨v, vm₁, B, X₁.warmed, X', hpost, fun target h => hstep₁ _ fun acts => by rw [doInvoke_state]; exact hsteps.trans h⟩
  · exact Or.inr ⟨q, vm₁, B, X₁.warmed, X', hpost, hstep₁ _ fun acts => by rw [doInvoke_state]; exact hsteps⟩
theorem vx_callVW (X : Stand p l e R s m args below meth c T locs cells slots) (hexec : p.tables.exec = Jvm.exec) {own C : String} {index : Nat} {y : MethodName} {bytes : ByteArray} {maxL : Nat} {ret : Option FieldType} {hh : List (Nat × Nat × Nat × Nat)}
    (hown : s.vm.findClass own = some m.cls) (hlink : (Cond.methodLink own index y).before args s = true) (hinst : (Cond.instanceMethod y).before args s = true) (hsel : (Cond.selects C y y).before args s = true)
    (hcode : (Cond.codeWith y bytes maxL ret hh).before args s = true) (hy : y.cls ≠ "java/lang/invoke/MethodHandle" ∧ y.cls ≠ "java/lang/invoke/VarHandle")
    {W9 : Nat} {Pre : Pt → Array Value → Prop} {Post : Pt → Array Value → Option Value → Pt → Prop} (hK : Back l R p e below s args y 3 W9 Pre Post)
    {b : Addr} {cellB : Cell} (hcell : T.heap[b]? = some cellB) (hobj : cellB.vm.isStatics = false) (hcls : s.vm.findClass C = some cellB.cls)
    {g : JFrame} (hg : g.method = m) (hsize : g.locals.size = c.maxLocals) {argsL rest : List Value} (hlen : ∀ sig, parseMethodDescriptor y.desc = some sig → argsL.length = sig.parameters.length)
    (hstack : g.stack = argsL.reverse ++ .ref b :: rest) (hW : 2 * g.monitorRoom + (rest.map fun v => v.category).sum ≤ W9) (hdg : decode c.code g.pc = .ok (.invokevirtual index, 3))
    (hpre : ∀ vm₁, s.WarmedH vm₁ → Pre ⟨T.setVm vm₁, locs, cells, slots⟩ (Value.ref b :: argsL).toArray) :
    ∃ (v : Option Value) (vm₁ : Vm) (B : Pt), s.WarmedH vm₁ ∧ Stand p l e R s m args below meth c B.U B.locs B.cells B.slots ∧ Post ⟨T.setVm vm₁, locs, cells, slots⟩ (Value.ref b :: argsL).toArray v B ∧
      ∀ target, Steps p.tables e below (B.U.setTop { g with pc := g.pc + 3, stack := v.toList ++ rest }) target → Steps p.tables e below (T.setTop g) target := by
  obtain ⟨mk, methM, hnamed, hmethM, hstM, habM⟩ := Cond.instanceMethod_spec hinst
  obtain ⟨m8, methM', cM, hn8, hmethM', -, -, -, -, -, -, hsigM⟩ := Cond.codeWith_spec hcode
  cases Option.some.inj (hn8.symm.trans hnamed)
  cases hmethM.symm.trans hmethM'
  obtain ⟨c2, r2, m2, q1, q2, q3, q4, kP, hkP, hkPi⟩ := Cond.selects_spec hsel
  cases hcls.symm.trans q1
  cases (State.methodFound?_of_named hnamed hy).symm.trans q2
  cases hnamed.symm.trans q3
  have hselP : selectMethod e.platform s.vm cellB.cls mk = .method mk := by rw [Launch.admits_selectMethod X.admits]; exact q4
  obtain ⟨vm₁, X₁, hstep₁⟩ := X.invokevirtual hexec hown hlink hnamed hmethM hstM hkP hkPi hy (a := b) (cell := cellB) hcell
    (fun z h => by rw [h] at hobj; cases hobj) hselP hmethM habM hkP hkPi (g := g) hg (argsL := argsL) (rest := rest) (hlen _ hsigM) hstack hdg
  obtain ⟨v, B, X', hpost, hsteps⟩ := hK m meth c ⟨T.setVm vm₁, locs, cells, slots⟩ { g with stack := rest } (.invokevirtual index) mk (Value.ref b :: argsL).toArray X₁ hg hsize hdg hW (X₁.named hnamed) (hpre vm₁ X₁.warmed)
  exact ⟨v, vm₁, B, X₁.warmed, X', hpost, fun target h => hstep₁ _ fun acts => by rw [doInvoke_state]; exact hsteps.trans h⟩
abbrev vx_CVW (R : Room) (s : State) (args : Array Value) (own C : String) (index : Nat) (y : MethodName) (bytes : ByteArray) (maxL : Nat) (ret : Option FieldType) (hh : List (Nat × Nat × Nat × Nat)) (ws : List Cond) (rm : Room) (mc ms n : Nat) : Prop :=
  (rm.cells = mc ∧ rm.slots = ms ∧ rm.frames + 1 ≤ R.frames ∧ 8 + (maxL + 11) + rm.locals ≤ R.locals ∧ (∀ w ∈ ws, ∀ (a' : Array Value) (U : State), s.WarmedH U.vm → w.before a' U = true) ∧ Cond.codeWith y bytes maxL ret hh ∈ ws) ∧
  (Cond.codeWith y bytes maxL ret hh).before args s = true ∧ (Cond.initialized y.cls).before args s = true ∧ (y.cls ≠ "java/lang/invoke/MethodHandle" ∧ y.cls ≠ "java/lang/invoke/VarHandle") ∧
  (∀ sig, parseMethodDescriptor y.desc = some sig → n = sig.parameters.length) ∧ (Cond.methodLink own index y).before args s = true ∧ (Cond.instanceMethod y).before args s = true ∧ (Cond.selects C y y).before args s = true
theorem vx_cwVW {own C : String} {index maxL mc ms : Nat} {y : MethodName} {bytes : ByteArray} {ret : Option FieldType} {hh : List (Nat × Nat × Nat × Nat)} {Ts ws ws' : List Cond} {rm : Room} (n : Nat) (ht : ∀ w ∈ Ts, w.before args s = true) (hT : GoodIn Ts (wsV own index C y ws)) (hw : ws = Cond.codeWith y bytes maxL ret hh :: ws') (hrc : rm.cells = mc) (hrs : rm.slots = ms)
    (hd : y.cls = C ∧ y.cls ≠ "java/lang/invoke/MethodHandle" ∧ y.cls ≠ "java/lang/invoke/VarHandle" ∧ (parseMethodDescriptor y.desc).map (fun d => d.parameters.length) = some n) (hR : rm.frames + 1 ≤ R.frames ∧ 8 + (maxL + 11) + rm.locals ≤ R.locals) :
    vx_CVW R s args own C index y bytes maxL ret hh ws rm mc ms n := by
  obtain ⟨hC, hd⟩ := hd
  subst hC
  have ok : ∀ w ∈ wsV own index y.cls y ws, w.before args s = true := fun w h => ht w (hT w h).1
  have hG : GoodIn Ts ws := fun w h => hT w (by unfold wsV; exact List.mem_append_right _ h)
  have hc : Cond.codeWith y bytes maxL ret hh ∈ ws := by rw [hw]; exact List.mem_cons_self
  refine ⟨⟨hrc, hrs, hR.1, hR.2, pay_in ht hG, hc⟩, ht _ (hG _ hc).1, ok _ (by simp [wsV]), ⟨hd.1, hd.2.1⟩, fun sig h => ?_, ok _ (by simp [wsV]), ok _ (by simp [wsV]), ok _ (by simp [wsV])⟩
  have h2 := hd.2.2
  rw [h] at h2
  exact (Option.some.inj h2).symm
theorem vx_runVW {y : MethodName} {bytes cc : ByteArray} {maxL nL mc ms n index : Nat} {ret : Option FieldType} {hh : List (Nat × Nat × Nat × Nat)} {ws : List Cond} {rm : Room} {Pc : Array Value → State → Prop} {Qc : Array Value → State → Outcome → State → Prop} {free : Addr → Prop} {Ts : List Cond} {own C : String} {b : Addr} {As rest : List Value} {g : JFrame}
    (S : CallFix p m c cc nL s args Ts own) (hM : Met l y ws rm Pc Qc mc ms free) (cw : vx_CVW R s args own C index y bytes maxL ret hh ws rm mc ms n) (hp : PreV s H C b Pc As)
    (hg : g.method = m) (hn : As.length = n) (hsize : g.locals.size = nL) (hstack : g.stack = As.reverse ++ .ref b :: rest) (hW : 2 * g.monitorRoom + (rest.map fun v => v.category).sum ≤ 8) (hdg : decode cc g.pc = .ok (.invokevirtual index, 3)) (hf : cells + mc ≤ R.cells ∧ slots + ms ≤ R.slots) :
    va_Run p l e R s m args below meth c H locs cells slots mc ms g rest (Qc (Value.ref b :: As).toArray) free := by
  obtain ⟨⟨hrc, hrs, hfr, hlo, hws, hcw⟩, hcode, hini, hy, hlen, hl, hin, hse⟩ := cw
  have hK : Back l R p e below s args y 3 8 (PreOf R mc ms Pc) (PostOf Qc mc ms free) := va_backW (hh := hh) (bytes := bytes) (maxL := maxL) (ret := ret) hM hp.1 hrc hrs hfr hlo hws hcw (fun a' U hW => word_at hW (Or.inl (by first | rfl | simp [Cond.onTables, Cond.keeps, Cond.steady])) hini)
  obtain ⟨hx, hb, hml, ho, -⟩ := S
  obtain ⟨-, ⟨cellB, hcB, hoB, hclB⟩, hPc⟩ := hp
  intro T hT X
  obtain ⟨v, vm₁, ⟨U', l2, c2, s2⟩, hW₁, X', ⟨g', mk, t, L, e1, e2, hq, h1, hL, h2, h3⟩, st⟩ := vx_callVW X hx (C := C) (hh := hh) (bytes := bytes) (maxL := maxL) (ret := ret) ho hl hin hse hcode hy hK (by rw [hT]; exact hcB) hoB hclB hg (hsize.trans hml.symm) (argsL := As) (rest := rest) (fun sig h => hn.trans (hlen sig h)) hstack hW (by rw [hb]; exact hdg)
    (fun vm₁ hW₁ => ⟨hf.1, hf.2, hPc (T.setVm vm₁) hT hW₁⟩)
  dsimp only [Pt.U, Pt.locs, Pt.cells, Pt.slots] at X' e1 e2 h1 h2 h3 st
  subst h1; subst h2; subst h3
  exact ⟨v, (T.setVm vm₁).calling g' mk (Value.ref b :: As).toArray, t, U', L, hT, X', hL, e1, e2, hq, st⟩
section
variable {y : MethodName} {bytes cc : ByteArray} {maxL nL mc ms n index : Nat} {ret : Option FieldType} {ws : List Cond} {rm : Room} {Pc : Array Value → State → Prop} {Qc : Array Value → State → Outcome → State → Prop} {XC : String → State → State → Prop} {free : Addr → Prop} {Ts : List Cond} {own C : String} {b : Addr} {As rest : List Value} {g : JFrame}
theorem vx_runVX {hh : List (Nat × Nat × Nat × Nat)} (S : CallFix p m c cc nL s args Ts own) (hM : vx_Met l y ws rm Pc Qc XC mc ms free) (cw : vx_CVW R s args own C index y bytes maxL ret hh ws rm mc ms n) (hp : PreV s H C b Pc As)
    (hg : g.method = m) (hn : As.length = n) (hsize : g.locals.size = nL) (hstack : g.stack = As.reverse ++ .ref b :: rest) (hW : 2 * g.monitorRoom + (rest.map fun v => v.category).sum ≤ 8) (hdg : decode cc g.pc = .ok (.invokevirtual index, 3)) (hf : cells + mc ≤ R.cells ∧ slots + ms ≤ R.slots) :
    vx_Run p l e R s m args below meth c H locs cells slots mc ms g rest (Qc (Value.ref b :: As).toArray) XC free := by
  obtain ⟨⟨hrc, hrs, hfr, hlo, hws, hcw⟩, hcode, hini, hy, hlen, hl, hin, hse⟩ := cw
  have hK : vx_Back l R p e below s args y 3 8 (PreOf R mc ms Pc) (PostOf Qc mc ms free) (vx_Post XC mc ms free) := vx_backW (hh := hh) (bytes := bytes) (maxL := maxL) (ret := ret) hM hp.1 hrc hrs hfr hlo hws hcw (fun a' U hW => word_at hW (Or.inl (by first | rfl | simp [Cond.onTables, Cond.keeps, Cond.steady])) hini)
  obtain ⟨hx, hb, hml, ho, -⟩ := S
  obtain ⟨-, ⟨cellB, hcB, hoB, hclB⟩, hPc⟩ := hp
  intro T hT X
  rcases vx_callVX X hx (C := C) (hh := hh) (bytes := bytes) (maxL := maxL) (ret := ret) ho hl hin hse hcode hy hK (by rw [hT]; exact hcB) hoB hclB hg (hsize.trans hml.symm) (argsL := As) (rest := rest) (fun sig h => hn.trans (hlen sig h)) hstack hW (by rw [hb]; exact hdg)
    (fun vm₁ hW₁ => ⟨hf.1, hf.2, hPc (T.setVm vm₁) hT hW₁⟩) with ⟨v, vm₁, ⟨U', l2, c2, s2⟩, hW₁, X', ⟨g', mk, t, L, e1, e2, hq, h1, hL, h2, h3⟩, st⟩ | ⟨q, vm₁, ⟨U', l2, c2, s2⟩, hW₁, X', ⟨g', mk, t, L, E, ce, e1, e2, hq, hce, hcv, hcl, h1, hL, h2, h3⟩, st⟩
  · dsimp only [Pt.U, Pt.locs, Pt.cells, Pt.slots] at X' e1 e2 h1 h2 h3 st
    subst h1; subst h2; subst h3
    exact Or.inl ⟨v, (T.setVm vm₁).calling g' mk (Value.ref b :: As).toArray, t, U', L, hT, X', hL, e1, e2, hq, st⟩
  · dsimp only [Pt.U, Pt.locs, Pt.cells, Pt.slots] at X' e1 e2 h1 h2 h3 st hcl
    subst h1; subst h2; subst h3
    exact Or.inr ⟨q, (T.setVm vm₁).calling g' mk (Value.ref b :: As).toArray, t, U', L, E, ce, hT, X', hL, e1, e2, hq, hce, hcv, vx_cls hW₁ hcl, st⟩
theorem vx_runSX {hh : List (Nat × Nat × Nat × Nat)} (S : CallFix p m c cc nL s args Ts own) (hM : vx_Met l y ws rm Pc Qc XC mc ms free) (cw : vx_CSW R s args own index y bytes maxL ret hh ws rm mc ms n) (hp : PreS s H Pc As)
    (hg : g.method = m) (hn : As.length = n) (hsize : g.locals.size = nL) (hstack : g.stack = As.reverse ++ rest) (hW : 2 * g.monitorRoom + (rest.map fun v => v.category).sum ≤ 8) (hdg : decode cc g.pc = .ok (.invokestatic index, 3)) (hf : cells + mc ≤ R.cells ∧ slots + ms ≤ R.slots) :
    vx_Run p l e R s m args below meth c H locs cells slots mc ms g rest (Qc As.toArray) XC free := by
  obtain ⟨⟨hrc, hrs, hfr, hlo, hws, hcw⟩, hcode, hini, hy, hlen, hl, hstt⟩ := cw
  have hK : vx_Back l R p e below s args y 3 8 (PreOf R mc ms Pc) (PostOf Qc mc ms free) (vx_Post XC mc ms free) := vx_backW (hh := hh) (bytes := bytes) (maxL := maxL) (ret := ret) hM hp.1 hrc hrs hfr hlo hws hcw (fun a' U hW => word_at hW (Or.inl (by first | rfl | simp [Cond.onTables, Cond.keeps, Cond.steady])) hini)
  obtain ⟨hx, hb, hml, ho, -⟩ := S
  intro T hT X
  rcases vx_callSX X hx (hh := hh) (bytes := bytes) (maxL := maxL) (ret := ret) ho hl hstt hini hcode hy hK hg (hsize.trans hml.symm) (argsL := As) (rest := rest) (fun sig h => hn.trans (hlen sig h)) hstack hW (by rw [hb]; exact hdg)
    (fun vm₁ hW₁ => ⟨hf.1, hf.2, hp.2 (T.setVm vm₁) hT hW₁⟩) with ⟨v, vm₁, ⟨U', l2, c2, s2⟩, hW₁, X', ⟨g', mk, t, L, e1, e2, hq, h1, hL, h2, h3⟩, st⟩ | ⟨q, vm₁, ⟨U', l2, c2, s2⟩, hW₁, X', ⟨g', mk, t, L, E, ce, e1, e2, hq, hce, hcv, hcl, h1, hL, h2, h3⟩, st⟩
  · dsimp only [Pt.U, Pt.locs, Pt.cells, Pt.slots] at X' e1 e2 h1 h2 h3 st
    subst h1; subst h2; subst h3
    exact Or.inl ⟨v, (T.setVm vm₁).calling g' mk As.toArray, t, U', L, hT, X', hL, e1, e2, hq, st⟩
  · dsimp only [Pt.U, Pt.locs, Pt.cells, Pt.slots] at X' e1 e2 h1 h2 h3 st hcl
    subst h1; subst h2; subst h3
    exact Or.inr ⟨q, (T.setVm vm₁).calling g' mk As.toArray, t, U', L, E, ce, hT, X', hL, e1, e2, hq, hce, hcv, vx_cls hW₁ hcl, st⟩
end
end VXH
theorem vx_ofWH {l : Launch} {y : MethodName} {ws ws' : List Cond} {rm : Room} {Pc : Array Value → State → Prop} {Qc : Array Value → State → Outcome → State → Prop} {XC : String → State → State → Prop} {mc ms : Nat} {free : Addr → Prop} {cc : ByteArray} {maxL : Nat} {ret : Option FieldType} {hh : List (Nat × Nat × Nat × Nat)}
    (hy : plainName y.cls = true) (hw : ws = Cond.codeWith y cc maxL ret hh :: ws')
    (body : ∀ p e s m args below meth c s₁, BodyLoose p l y (headSpec ws rm) cc maxL ret e s m args below meth c s₁ → c.maxLocals = maxL → Pc args s →
      W p l e (headSpec ws rm).room s m args below meth c s.heap [] 0 0 (vx_MQ below Qc XC args s mc ms free) (entryFrame m args maxL)) : vx_Met l y ws rm Pc Qc XC mc ms free := by
  refine MetFree.of_bodyS (code := cc) (maxLocals := maxL) (ret := ret) hy ?_ ?_
  · intro args s m h hn
    obtain ⟨m9, meth, c, hn9, h1, h2, h3, h4, -, h5, h6, -⟩ := Cond.codeWith_spec (atoms_spec (ws := ws) h _ (by rw [hw]; exact List.mem_cons_self))
    cases hn.symm.trans hn9
    exact ⟨meth, c, h1, h2, h3, h4, h5, h6⟩
  · intro p e s m args below meth c s₁ B hml hP _
    have hh0 : s₁.heap = s.heap := by rw [B.state]; rfl
    obtain ⟨t, a1, o, b1, b2, b3⟩ := body p e s m args below meth c s₁ B hml hP s₁ hh0 (Stand.of_body B)
    exact ⟨t, o, a1, b1, b2, b3⟩
/-! ===== END ===== -/
end
section
/-! ===== BEGIN printed: names, fields, word lists, decode rows ===== -/
def RX0 : String := "RainReservoir$RainText"
def TX0 : u_T := fun k => match k with
  | 0 => ("RainReservoir$RainText", "bytes", "[B", true)
  | 1 => ("RainReservoir$RainText", "length", "I", false)
  | 2 => ("RainReservoir$RainText", "found", "[I", true)
  | 3 => ("RainReservoir$RainText", "foundCount", "I", false)
  | 4 => ("RainReservoir$RainText", "at", "I", false)
  | _ => ("RainReservoir$RainText", "number", "I", false)
def tyX0 : Nat → FieldType := fun k => match k with
  | 0 => .array .byte
  | 1 => .int
  | 2 => .array .int
  | 3 => .int
  | 4 => .int
  | _ => .int
abbrev wsX00 : List Cond := u_ws RX0 TX0 6
theorem nmX0 : ∀ a, a < 6 → ∀ b, b < 6 → a ≠ b → (TX0 a).2.1 ≠ (TX0 b).2.1 := by decide +kernel
theorem tyX0_ok : ∀ k, k < 6 → parseFieldDescriptor (TX0 k).2.2.1 = some (tyX0 k) := by decide +kernel
abbrev cX0_init : ByteArray := prog_2_method_1_code
def yX0_init : MethodName := ⟨RX0, "<init>", "()V"⟩
def RX1 : String := "RainReservoir$Roof"
def TX1 : u_T := fun k => match k with
  | 0 => ("RainReservoir$Roof", "area", "I", false)
  | 1 => ("RainReservoir$Roof", "yieldPercent", "I", false)
  | 2 => ("RainReservoir$Roof", "flush", "I", false)
  | 3 => ("RainReservoir$Roof", "gutter", "I", false)
  | 4 => ("RainReservoir$Roof", "water", "I", false)
  | _ => ("RainReservoir$Roof", "spilledInAll", "I", false)
def tyX1 : Nat → FieldType := fun k => match k with
  | 0 => .int
  | 1 => .int
  | 2 => .int
  | 3 => .int
  | 4 => .int
  | _ => .int
abbrev wsX10 : List Cond := u_ws RX1 TX1 6
theorem nmX1 : ∀ a, a < 6 → ∀ b, b < 6 → a ≠ b → (TX1 a).2.1 ≠ (TX1 b).2.1 := by decide +kernel
theorem tyX1_ok : ∀ k, k < 6 → parseFieldDescriptor (TX1 k).2.2.1 = some (tyX1 k) := by decide +kernel
abbrev cX1_init : ByteArray := prog_3_method_1_code
def yX1_init : MethodName := ⟨RX1, "<init>", "()V"⟩
abbrev cX1_set : ByteArray := prog_3_method_2_code
def yX1_set : MethodName := ⟨RX1, "set", "(IIII)V"⟩
abbrev cX1_copyFrom : ByteArray := prog_3_method_3_code
def yX1_copyFrom : MethodName := ⟨RX1, "copyFrom", "(LRainReservoir$Roof;)V"⟩
abbrev cX1_clearAmounts : ByteArray := prog_3_method_4_code
def yX1_clearAmounts : MethodName := ⟨RX1, "clearAmounts", "()V"⟩
abbrev cX1_value : ByteArray := prog_3_method_5_code
def yX1_value : MethodName := ⟨RX1, "value", "(I)I"⟩
abbrev cX1_caught : ByteArray := prog_3_method_6_code
def yX1_caught : MethodName := ⟨RX1, "caught", "(I)I"⟩
abbrev cX1_divert : ByteArray := prog_3_method_7_code
def yX1_divert : MethodName := ⟨RX1, "divert", "(I)I"⟩
abbrev cX1_spill : ByteArray := prog_3_method_8_code
def yX1_spill : MethodName := ⟨RX1, "spill", "(I)I"⟩
abbrev cX1_drain : ByteArray := prog_3_method_9_code
def yX1_drain : MethodName := ⟨RX1, "drain", "()I"⟩
def RX2 : String := "RainReservoir$State"
def TX2 : u_T := fun k => match k with
  | 0 => ("RainReservoir$State", "capacity", "I", false)
  | 1 => ("RainReservoir$State", "floor", "I", false)
  | 2 => ("RainReservoir$State", "topUp", "I", false)
  | 3 => ("RainReservoir$State", "evaporation", "I", false)
  | 4 => ("RainReservoir$State", "dryLimit", "I", false)
  | 5 => ("RainReservoir$State", "rule", "I", false)
  | 6 => ("RainReservoir$State", "roofs", "[LRainReservoir$Roof;", true)
  | 7 => ("RainReservoir$State", "roofCount", "I", false)
  | 8 => ("RainReservoir$State", "users", "LRainReservoir$Users;", true)
  | 9 => ("RainReservoir$State", "rains", "[I", true)
  | 10 => ("RainReservoir$State", "rainCount", "I", false)
  | 11 => ("RainReservoir$State", "doneCount", "I", false)
  | 12 => ("RainReservoir$State", "level", "I", false)
  | 13 => ("RainReservoir$State", "dryDays", "I", false)
  | 14 => ("RainReservoir$State", "looseOverflow", "J", false)
  | _ => ("RainReservoir$State", "accounts", "[I", true)
def tyX2 : Nat → FieldType := fun k => match k with
  | 0 => .int
  | 1 => .int
  | 2 => .int
  | 3 => .int
  | 4 => .int
  | 5 => .int
  | 6 => .array (.object "RainReservoir$Roof")
  | 7 => .int
  | 8 => .object "RainReservoir$Users"
  | 9 => .array .int
  | 10 => .int
  | 11 => .int
  | 12 => .int
  | 13 => .int
  | 14 => .long
  | _ => .array .int
abbrev wsX20 : List Cond := u_ws RX2 TX2 16
theorem nmX2 : ∀ a, a < 16 → ∀ b, b < 16 → a ≠ b → (TX2 a).2.1 ≠ (TX2 b).2.1 := by decide +kernel
theorem tyX2_ok : ∀ k, k < 16 → parseFieldDescriptor (TX2 k).2.2.1 = some (tyX2 k) := by decide +kernel
abbrev cX2_init : ByteArray := prog_4_method_1_code
def yX2_init : MethodName := ⟨RX2, "<init>", "()V"⟩
abbrev cX2_copyFrom : ByteArray := prog_4_method_2_code
def yX2_copyFrom : MethodName := ⟨RX2, "copyFrom", "(LRainReservoir$State;)V"⟩
abbrev cX2_goBack : ByteArray := prog_4_method_3_code
def yX2_goBack : MethodName := ⟨RX2, "goBack", "()V"⟩
abbrev cX2_settingValue : ByteArray := prog_4_method_4_code
def yX2_settingValue : MethodName := ⟨RX2, "settingValue", "(I)I"⟩
abbrev cX2_putRain : ByteArray := prog_4_method_5_code
def yX2_putRain : MethodName := ⟨RX2, "putRain", "(I)V"⟩
abbrev cX2_account : ByteArray := prog_4_method_6_code
def yX2_account : MethodName := ⟨RX2, "account", "(II)I"⟩
abbrev cX2_isShort : ByteArray := prog_4_method_7_code
def yX2_isShort : MethodName := ⟨RX2, "isShort", "(I)Z"⟩
abbrev cX2_dropAboveCapacity : ByteArray := prog_4_method_8_code
def yX2_dropAboveCapacity : MethodName := ⟨RX2, "dropAboveCapacity", "()I"⟩
abbrev cX2_collect : ByteArray := prog_4_method_9_code
def yX2_collect : MethodName := ⟨RX2, "collect", "(I)V"⟩
abbrev cX2_serve : ByteArray := prog_4_method_10_code
def yX2_serve : MethodName := ⟨RX2, "serve", "(I)V"⟩
abbrev cX2_serveAll : ByteArray := prog_4_method_11_code
def yX2_serveAll : MethodName := ⟨RX2, "serveAll", "(I)I"⟩
abbrev cX2_drainWhenDry : ByteArray := prog_4_method_12_code
def yX2_drainWhenDry : MethodName := ⟨RX2, "drainWhenDry", "(I)I"⟩
abbrev cX2_put : ByteArray := prog_4_method_13_code
def yX2_put : MethodName := ⟨RX2, "put", "(III)V"⟩
def RX3 : String := "RainReservoir$User"
def TX3 : u_T := fun k => match k with
  | 0 => ("RainReservoir$User", "demand", "I", false)
  | 1 => ("RainReservoir$User", "weight", "I", false)
  | 2 => ("RainReservoir$User", "gotLatest", "I", false)
  | _ => ("RainReservoir$User", "gotInAll", "I", false)
def tyX3 : Nat → FieldType := fun k => match k with
  | 0 => .int
  | 1 => .int
  | 2 => .int
  | _ => .int
abbrev wsX30 : List Cond := u_ws RX3 TX3 4
theorem nmX3 : ∀ a, a < 4 → ∀ b, b < 4 → a ≠ b → (TX3 a).2.1 ≠ (TX3 b).2.1 := by decide +kernel
theorem tyX3_ok : ∀ k, k < 4 → parseFieldDescriptor (TX3 k).2.2.1 = some (tyX3 k) := by decide +kernel
abbrev cX3_init : ByteArray := prog_5_method_1_code
def yX3_init : MethodName := ⟨RX3, "<init>", "()V"⟩
abbrev cX3_set : ByteArray := prog_5_method_2_code
def yX3_set : MethodName := ⟨RX3, "set", "(II)V"⟩
abbrev cX3_copyFrom : ByteArray := prog_5_method_3_code
def yX3_copyFrom : MethodName := ⟨RX3, "copyFrom", "(LRainReservoir$User;)V"⟩
abbrev cX3_clearAmounts : ByteArray := prog_5_method_4_code
def yX3_clearAmounts : MethodName := ⟨RX3, "clearAmounts", "()V"⟩
abbrev cX3_value : ByteArray := prog_5_method_5_code
def yX3_value : MethodName := ⟨RX3, "value", "(I)I"⟩
abbrev cX3_lack : ByteArray := prog_5_method_6_code
def yX3_lack : MethodName := ⟨RX3, "lack", "()I"⟩
abbrev cX3_portion : ByteArray := prog_5_method_7_code
def yX3_portion : MethodName := ⟨RX3, "portion", "()I"⟩
abbrev cX3_give : ByteArray := prog_5_method_8_code
def yX3_give : MethodName := ⟨RX3, "give", "(I)I"⟩
def RX4 : String := "RainReservoir$Users"
def TX4 : u_T := fun k => match k with
  | 0 => ("RainReservoir$Users", "rows", "[LRainReservoir$User;", true)
  | 1 => ("RainReservoir$Users", "count", "I", false)
  | _ => ("RainReservoir$Users", "order", "[I", true)
def tyX4 : Nat → FieldType := fun k => match k with
  | 0 => .array (.object "RainReservoir$User")
  | 1 => .int
  | _ => .array .int
abbrev wsX40 : List Cond := u_ws RX4 TX4 3
theorem nmX4 : ∀ a, a < 3 → ∀ b, b < 3 → a ≠ b → (TX4 a).2.1 ≠ (TX4 b).2.1 := by decide +kernel
theorem tyX4_ok : ∀ k, k < 3 → parseFieldDescriptor (TX4 k).2.2.1 = some (tyX4 k) := by decide +kernel
abbrev cX4_init : ByteArray := prog_6_method_1_code
def yX4_init : MethodName := ⟨RX4, "<init>", "()V"⟩
abbrev cX4_copyFrom : ByteArray := prog_6_method_2_code
def yX4_copyFrom : MethodName := ⟨RX4, "copyFrom", "(LRainReservoir$Users;)V"⟩
abbrev cX4_clearAmounts : ByteArray := prog_6_method_3_code
def yX4_clearAmounts : MethodName := ⟨RX4, "clearAmounts", "()V"⟩
abbrev cX4_scaleDemands : ByteArray := prog_6_method_4_code
def yX4_scaleDemands : MethodName := ⟨RX4, "scaleDemands", "(LRainReservoir$Users;I)V"⟩
abbrev cX4_demandInAll : ByteArray := prog_6_method_5_code
def yX4_demandInAll : MethodName := ⟨RX4, "demandInAll", "()I"⟩
abbrev cX4_greatestLack : ByteArray := prog_6_method_6_code
def yX4_greatestLack : MethodName := ⟨RX4, "greatestLack", "(I)I"⟩
abbrev cX4_handOut : ByteArray := prog_6_method_7_code
def yX4_handOut : MethodName := ⟨RX4, "handOut", "(II)I"⟩
abbrev cX4_share : ByteArray := prog_6_method_8_code
def yX4_share : MethodName := ⟨RX4, "share", "(III)V"⟩
abbrev cX4_shareByDemand : ByteArray := prog_6_method_9_code
def yX4_shareByDemand : MethodName := ⟨RX4, "shareByDemand", "(II)V"⟩
abbrev cX4_orderByNumber : ByteArray := prog_6_method_10_code
def yX4_orderByNumber : MethodName := ⟨RX4, "orderByNumber", "()V"⟩
abbrev cX4_orderByDemand : ByteArray := prog_6_method_11_code
def yX4_orderByDemand : MethodName := ⟨RX4, "orderByDemand", "()V"⟩
abbrev cX4_serveOrder : ByteArray := prog_6_method_12_code
def yX4_serveOrder : MethodName := ⟨RX4, "serveOrder", "(I)V"⟩
abbrev cX4_shareInRounds : ByteArray := prog_6_method_13_code
def yX4_shareInRounds : MethodName := ⟨RX4, "shareInRounds", "(I)V"⟩
abbrev cX4_fullRounds : ByteArray := prog_6_method_14_code
def yX4_fullRounds : MethodName := ⟨RX4, "fullRounds", "(I)I"⟩
def RX5 : String := "RainReservoir"
def TX5 : u_T := fun k => match k with
  | 0 => ("RainReservoir", "now", "LRainReservoir$State;", true)
  | 1 => ("RainReservoir", "trial", "LRainReservoir$State;", true)
  | 2 => ("RainReservoir", "saved", "[LRainReservoir$State;", true)
  | 3 => ("RainReservoir", "savedCount", "I", false)
  | _ => ("RainReservoir", "text", "LRainReservoir$RainText;", true)
def tyX5 : Nat → FieldType := fun k => match k with
  | 0 => .object "RainReservoir$State"
  | 1 => .object "RainReservoir$State"
  | 2 => .array (.object "RainReservoir$State")
  | 3 => .int
  | _ => .object "RainReservoir$RainText"
abbrev wsX50 : List Cond := u_ws RX5 TX5 5
theorem nmX5 : ∀ a, a < 5 → ∀ b, b < 5 → a ≠ b → (TX5 a).2.1 ≠ (TX5 b).2.1 := by decide +kernel
theorem tyX5_ok : ∀ k, k < 5 → parseFieldDescriptor (TX5 k).2.2.1 = some (tyX5 k) := by decide +kernel
abbrev cX5_init : ByteArray := prog_1_method_1_code
def yX5_init : MethodName := ⟨RX5, "<init>", "()V"⟩
abbrev cX5_addRoof : ByteArray := prog_1_method_2_code
def yX5_addRoof : MethodName := ⟨RX5, "addRoof", "(IIII)I"⟩
abbrev cX5_addUser : ByteArray := prog_1_method_3_code
def yX5_addUser : MethodName := ⟨RX5, "addUser", "(II)I"⟩
abbrev cX5_setReservoir : ByteArray := prog_1_method_5_code
def yX5_setReservoir : MethodName := ⟨RX5, "setReservoir", "(III)I"⟩
abbrev cX5_setWays : ByteArray := prog_1_method_6_code
def yX5_setWays : MethodName := ⟨RX5, "setWays", "(III)I"⟩
abbrev cX5_setting : ByteArray := prog_1_method_7_code
def yX5_setting : MethodName := ⟨RX5, "setting", "(I)I"⟩
abbrev cX5_roof : ByteArray := prog_1_method_8_code
def yX5_roof : MethodName := ⟨RX5, "roof", "(II)I"⟩
abbrev cX5_user : ByteArray := prog_1_method_9_code
def yX5_user : MethodName := ⟨RX5, "user", "(II)I"⟩
abbrev cX5_addRandomRain : ByteArray := prog_1_method_11_code
def yX5_addRandomRain : MethodName := ⟨RX5, "addRandomRain", "(IIII)I"⟩
abbrev cX5_rain : ByteArray := prog_1_method_12_code
def yX5_rain : MethodName := ⟨RX5, "rain", "(I)I"⟩
abbrev cX5_run : ByteArray := prog_1_method_13_code
def yX5_run : MethodName := ⟨RX5, "run", "(I)I"⟩
abbrev cX5_restart : ByteArray := prog_1_method_14_code
def yX5_restart : MethodName := ⟨RX5, "restart", "()I"⟩
abbrev cX5_day : ByteArray := prog_1_method_15_code
def yX5_day : MethodName := ⟨RX5, "day", "(II)I"⟩
abbrev cX5_sum : ByteArray := prog_1_method_16_code
def yX5_sum : MethodName := ⟨RX5, "sum", "(I)J"⟩
abbrev cX5_reliability : ByteArray := prog_1_method_17_code
def yX5_reliability : MethodName := ⟨RX5, "reliability", "()D"⟩
abbrev cX5_longestShortage : ByteArray := prog_1_method_18_code
def yX5_longestShortage : MethodName := ⟨RX5, "longestShortage", "()I"⟩
abbrev cX5_shortDaysWith : ByteArray := prog_1_method_19_code
def yX5_shortDaysWith : MethodName := ⟨RX5, "shortDaysWith", "(I)I"⟩
abbrev cX5_capacityFor : ByteArray := prog_1_method_20_code
def yX5_capacityFor : MethodName := ⟨RX5, "capacityFor", "(I)I"⟩
abbrev cX5_bestRule : ByteArray := prog_1_method_21_code
def yX5_bestRule : MethodName := ⟨RX5, "bestRule", "()I"⟩
abbrev cX5_sustainable : ByteArray := prog_1_method_22_code
def yX5_sustainable : MethodName := ⟨RX5, "sustainable", "()I"⟩
abbrev cX5_gutterLoss : ByteArray := prog_1_method_23_code
def yX5_gutterLoss : MethodName := ⟨RX5, "gutterLoss", "(I)J"⟩
abbrev cX5_undo : ByteArray := prog_1_method_27_code
def yX5_undo : MethodName := ⟨RX5, "undo", "()I"⟩
abbrev cX5_digest : ByteArray := prog_1_method_28_code
def yX5_digest : MethodName := ⟨RX5, "digest", "()J"⟩
abbrev cX5_checkRange : ByteArray := prog_1_method_29_code
def yX5_checkRange : MethodName := ⟨RX5, "checkRange", "(III)V"⟩
abbrev cX5_checkIndex : ByteArray := prog_1_method_30_code
def yX5_checkIndex : MethodName := ⟨RX5, "checkIndex", "(II)V"⟩
abbrev cX5_checkRoomForDays : ByteArray := prog_1_method_31_code
def yX5_checkRoomForDays : MethodName := ⟨RX5, "checkRoomForDays", "(I)V"⟩
abbrev cX5_nextRandom : ByteArray := prog_1_method_32_code
def yX5_nextRandom : MethodName := ⟨RX5, "nextRandom", "(J)J"⟩
abbrev cX5_save : ByteArray := prog_1_method_33_code
def yX5_save : MethodName := ⟨RX5, "save", "()V"⟩
abbrev cX5_prepareTrial : ByteArray := prog_1_method_34_code
def yX5_prepareTrial : MethodName := ⟨RX5, "prepareTrial", "()V"⟩
abbrev cX5_setTrialCapacity : ByteArray := prog_1_method_35_code
def yX5_setTrialCapacity : MethodName := ⟨RX5, "setTrialCapacity", "(I)V"⟩
def RX6 : String := "RainReservoirModel"
def TX6 : u_T := fun k => match k with
  | _ => ("", "", "", false)
def tyX6 : Nat → FieldType := fun k => match k with
  | _ => .int
abbrev wsX60 : List Cond := u_ws RX6 TX6 0
theorem nmX6 : ∀ a, a < 0 → ∀ b, b < 0 → a ≠ b → (TX6 a).2.1 ≠ (TX6 b).2.1 := by decide +kernel
theorem tyX6_ok : ∀ k, k < 0 → parseFieldDescriptor (TX6 k).2.2.1 = some (tyX6 k) := by decide +kernel
def RJ9 : String := "java/lang/Math"
def TJ9 : u_T := fun k => match k with
  | _ => ("", "", "", false)
def tyJ9 : Nat → FieldType := fun k => match k with
  | _ => .int
abbrev wsJ90 : List Cond := u_ws RJ9 TJ9 0
theorem nmJ9 : ∀ a, a < 0 → ∀ b, b < 0 → a ≠ b → (TJ9 a).2.1 ≠ (TJ9 b).2.1 := by decide +kernel
theorem tyJ9_ok : ∀ k, k < 0 → parseFieldDescriptor (TJ9 k).2.2.1 = some (tyJ9 k) := by decide +kernel
abbrev cJ9_max_7cf53 : ByteArray := prog_13_method_65_code
def yJ9_max_7cf53 : MethodName := ⟨RJ9, "max", "(II)I"⟩
abbrev cJ9_min_7cf53 : ByteArray := prog_13_method_69_code
def yJ9_min_7cf53 : MethodName := ⟨RJ9, "min", "(II)I"⟩
def RJ0 : String := "java/lang/String"
def TJ0 : u_T := fun k => match k with
  | _ => ("", "", "", false)
def tyJ0 : Nat → FieldType := fun k => match k with
  | _ => .int
abbrev wsJ00 : List Cond := u_ws RJ0 TJ0 0
theorem nmJ0 : ∀ a, a < 0 → ∀ b, b < 0 → a ≠ b → (TJ0 a).2.1 ≠ (TJ0 b).2.1 := by decide +kernel
theorem tyJ0_ok : ∀ k, k < 0 → parseFieldDescriptor (TJ0 k).2.2.1 = some (tyJ0 k) := by decide +kernel
def RJ10 : String := "java/lang/System"
def TJ10 : u_T := fun k => match k with
  | _ => ("", "", "", false)
def tyJ10 : Nat → FieldType := fun k => match k with
  | _ => .int
abbrev wsJ100 : List Cond := u_ws RJ10 TJ10 0
theorem nmJ10 : ∀ a, a < 0 → ∀ b, b < 0 → a ≠ b → (TJ10 a).2.1 ≠ (TJ10 b).2.1 := by decide +kernel
theorem tyJ10_ok : ∀ k, k < 0 → parseFieldDescriptor (TJ10 k).2.2.1 = some (tyJ10 k) := by decide +kernel
def RL : String := "RainReservoirLaw"
abbrev cL_cell : ByteArray := method_2_code
def yL_cell : MethodName := ⟨RL, "cell", "([II)I"⟩
abbrev cL_up : ByteArray := method_3_code
def yL_up : MethodName := ⟨RL, "up", "(II)I"⟩
abbrev cL_plans : ByteArray := method_4_code
def yL_plans : MethodName := ⟨RL, "plans", "(LRainReservoir;LRainReservoir;[I)Z"⟩
abbrev cL_sets : ByteArray := method_5_code
def yL_sets : MethodName := ⟨RL, "sets", "(LRainReservoir;LRainReservoir;I)Z"⟩
abbrev cL_isStep : ByteArray := method_6_code
def yL_isStep : MethodName := ⟨RL, "isStep", "(LRainReservoir;LRainReservoir;I)Z"⟩
abbrev cL_areAlike : ByteArray := method_7_code
def yL_areAlike : MethodName := ⟨RL, "areAlike", "(LRainReservoir;LRainReservoir;)Z"⟩
abbrev cL_isSound : ByteArray := method_8_code
def yL_isSound : MethodName := ⟨RL, "isSound", "(LRainReservoir;)Z"⟩
abbrev cL_law : ByteArray := code
def yL_law : MethodName := ⟨RL, "law", "([I)Z"⟩
def wsX0_init : List Cond := .code yX0_init cX0_init 1 none :: ([.methodLink RX0 3 objectInit, .instanceMethod objectInit, .code objectInit ⟨#[0xb1]⟩ 1 none, .arrayClass .byte, .fieldLink RX0 9 "RainReservoir$RainText" "bytes" "[B", .arrayClass .int, .fieldLink RX0 15 "RainReservoir$RainText" "found" "[I"] ++ wsX00)
def wsX1_init : List Cond := .code yX1_init cX1_init 1 none :: ([.methodLink RX1 1 objectInit, .instanceMethod objectInit, .code objectInit ⟨#[0xb1]⟩ 1 none])
def wsX1_clearAmounts : List Cond := .code yX1_clearAmounts cX1_clearAmounts 1 none :: ([.fieldLink RX1 29 "RainReservoir$Roof" "water" "I", .fieldLink RX1 32 "RainReservoir$Roof" "spilledInAll" "I"] ++ wsX10)
def wsX1_set : List Cond := .code yX1_set cX1_set 5 none :: ([.fieldLink RX1 7 "RainReservoir$Roof" "area" "I", .fieldLink RX1 13 "RainReservoir$Roof" "yieldPercent" "I", .fieldLink RX1 16 "RainReservoir$Roof" "flush" "I", .fieldLink RX1 19 "RainReservoir$Roof" "gutter" "I", .methodLink RX1 22 yX1_clearAmounts, .instanceMethod yX1_clearAmounts, .selects RX1 yX1_clearAmounts yX1_clearAmounts, .initialized RX1, .code yX1_clearAmounts cX1_clearAmounts 1 none, .fieldLink RX1 29 "RainReservoir$Roof" "water" "I", .fieldLink RX1 32 "RainReservoir$Roof" "spilledInAll" "I"] ++ wsX10)
def wsX1_copyFrom : List Cond := .code yX1_copyFrom cX1_copyFrom 2 none :: ([.fieldLink RX1 7 "RainReservoir$Roof" "area" "I", .fieldLink RX1 13 "RainReservoir$Roof" "yieldPercent" "I", .fieldLink RX1 16 "RainReservoir$Roof" "flush" "I", .fieldLink RX1 19 "RainReservoir$Roof" "gutter" "I", .fieldLink RX1 29 "RainReservoir$Roof" "water" "I", .fieldLink RX1 32 "RainReservoir$Roof" "spilledInAll" "I", .methodLink RX1 25 yX1_set, .instanceMethod yX1_set, .selects RX1 yX1_set yX1_set, .initialized RX1, .code yX1_set cX1_set 5 none, .methodLink RX1 22 yX1_clearAmounts, .instanceMethod yX1_clearAmounts, .selects RX1 yX1_clearAmounts yX1_clearAmounts, .code yX1_clearAmounts cX1_clearAmounts 1 none] ++ wsX10)
def wsX1_value : List Cond := .code yX1_value cX1_value 2 (some .int) :: ([.fieldLink RX1 7 "RainReservoir$Roof" "area" "I", .fieldLink RX1 13 "RainReservoir$Roof" "yieldPercent" "I", .fieldLink RX1 16 "RainReservoir$Roof" "flush" "I", .fieldLink RX1 19 "RainReservoir$Roof" "gutter" "I", .fieldLink RX1 29 "RainReservoir$Roof" "water" "I"] ++ wsX10)
def wsX1_caught : List Cond := .code yX1_caught cX1_caught 2 (some .int) :: ([.fieldLink RX1 7 "RainReservoir$Roof" "area" "I", .fieldLink RX1 13 "RainReservoir$Roof" "yieldPercent" "I"] ++ wsX10)
def wsX1_divert : List Cond := .code yX1_divert cX1_divert 3 (some .int) :: ([.fieldLink RX1 16 "RainReservoir$Roof" "flush" "I", .fieldLink RX1 29 "RainReservoir$Roof" "water" "I", .methodLink RX1 35 Lib.Math.min.name, .static Lib.Math.min.name, .initialized "java/lang/Math", .code Lib.Math.min.name Lib.Math.min.code 2 (some .int)] ++ wsX10)
def wsX1_spill : List Cond := .code yX1_spill cX1_spill 3 (some .int) :: ([.fieldLink RX1 19 "RainReservoir$Roof" "gutter" "I", .methodLink RX1 41 Lib.Math.max.name, .static Lib.Math.max.name, .initialized "java/lang/Math", .code Lib.Math.max.name Lib.Math.max.code 2 (some .int), .fieldLink RX1 32 "RainReservoir$Roof" "spilledInAll" "I"] ++ wsX10)
def wsX1_drain : List Cond := .code yX1_drain cX1_drain 2 (some .int) :: ([.fieldLink RX1 29 "RainReservoir$Roof" "water" "I"] ++ wsX10)
def wsX3_init : List Cond := .code yX3_init cX3_init 1 none :: ([.methodLink RX3 3 objectInit, .instanceMethod objectInit, .code objectInit ⟨#[0xb1]⟩ 1 none])
def wsX4_init : List Cond := .code yX4_init cX4_init 2 none :: ([.methodLink RX4 3 objectInit, .instanceMethod objectInit, .code objectInit ⟨#[0xb1]⟩ 1 none, .classLink RX4 9 RX3, .fieldLink RX4 11 "RainReservoir$Users" "rows" "[LRainReservoir$User;", .instantiable RX3 4, .initialized RX3, .arrayClass .int, .fieldLink RX4 18 "RainReservoir$Users" "order" "[I", .instanceMethod yX3_init, .code yX3_init cX3_init 1 none, .methodLink RX3 3 objectInit] ++ wsX40 ++ wsX30)
def wsX2_init_r1 : List Cond := [Cond.methodLink RX2 3 objectInit, Cond.instanceMethod objectInit, Cond.code objectInit ⟨#[0xb1]⟩ 1 none, Cond.fieldLink RX2 9 "RainReservoir$State" "capacity" "I", Cond.fieldLink RX2 15 "RainReservoir$State" "dryLimit" "I", Cond.classLink RX2 18 RX1, Cond.fieldLink RX2 20 "RainReservoir$State" "roofs" "[LRainReservoir$Roof;", Cond.instantiable RX1 6, Cond.initialized RX1, Cond.classLink RX2 25 RX4, Cond.instantiable RX4 3, Cond.initialized RX4, Cond.fieldLink RX2 28 "RainReservoir$State" "users" "LRainReservoir$Users;", Cond.arrayClass .int, Cond.fieldLink RX2 32 "RainReservoir$State" "rains" "[I", Cond.fieldLink RX2 36 "RainReservoir$State" "accounts" "[I", Cond.instanceMethod yX1_init, Cond.code yX1_init cX1_init 1 none, Cond.methodLink RX1 1 objectInit, Cond.methodLink RX2 27 yX4_init, Cond.instanceMethod yX4_init, Cond.code yX4_init cX4_init 2 none, Cond.methodLink RX4 3 objectInit, Cond.classLink RX4 9 RX3]
def wsX2_init_r2 : List Cond := [Cond.fieldLink RX4 11 "RainReservoir$Users" "rows" "[LRainReservoir$User;", Cond.instantiable RX3 4, Cond.initialized RX3, Cond.fieldLink RX4 18 "RainReservoir$Users" "order" "[I", Cond.instanceMethod yX3_init, Cond.code yX3_init cX3_init 1 none, Cond.methodLink RX3 3 objectInit]
def wsX2_init : List Cond := .code yX2_init cX2_init 2 none :: ((wsX2_init_r1 ++ wsX2_init_r2) ++ wsX20 ++ wsX10 ++ wsX40 ++ wsX30)
def wsX3_clearAmounts : List Cond := .code yX3_clearAmounts cX3_clearAmounts 1 none :: ([.fieldLink RX3 25 "RainReservoir$User" "gotLatest" "I", .fieldLink RX3 28 "RainReservoir$User" "gotInAll" "I"] ++ wsX30)
def wsX3_set : List Cond := .code yX3_set cX3_set 3 none :: ([.fieldLink RX3 9 "RainReservoir$User" "demand" "I", .fieldLink RX3 15 "RainReservoir$User" "weight" "I", .methodLink RX3 18 yX3_clearAmounts, .instanceMethod yX3_clearAmounts, .selects RX3 yX3_clearAmounts yX3_clearAmounts, .initialized RX3, .code yX3_clearAmounts cX3_clearAmounts 1 none, .fieldLink RX3 25 "RainReservoir$User" "gotLatest" "I", .fieldLink RX3 28 "RainReservoir$User" "gotInAll" "I"] ++ wsX30)
def wsX3_copyFrom : List Cond := .code yX3_copyFrom cX3_copyFrom 2 none :: ([.fieldLink RX3 9 "RainReservoir$User" "demand" "I", .fieldLink RX3 15 "RainReservoir$User" "weight" "I", .fieldLink RX3 25 "RainReservoir$User" "gotLatest" "I", .fieldLink RX3 28 "RainReservoir$User" "gotInAll" "I", .methodLink RX3 21 yX3_set, .instanceMethod yX3_set, .selects RX3 yX3_set yX3_set, .initialized RX3, .code yX3_set cX3_set 3 none, .methodLink RX3 18 yX3_clearAmounts, .instanceMethod yX3_clearAmounts, .selects RX3 yX3_clearAmounts yX3_clearAmounts, .code yX3_clearAmounts cX3_clearAmounts 1 none] ++ wsX30)
def wsX4_copyFrom : List Cond := .code yX4_copyFrom cX4_copyFrom 3 none :: ([.fieldLink RX4 22 "RainReservoir$Users" "count" "I", .fieldLink RX4 11 "RainReservoir$Users" "rows" "[LRainReservoir$User;", .methodLink RX4 26 yX3_copyFrom, .instanceMethod yX3_copyFrom, .selects RX3 yX3_copyFrom yX3_copyFrom, .initialized RX3, .code yX3_copyFrom cX3_copyFrom 2 none, .fieldLink RX3 9 "RainReservoir$User" "demand" "I", .fieldLink RX3 15 "RainReservoir$User" "weight" "I", .fieldLink RX3 25 "RainReservoir$User" "gotLatest" "I", .fieldLink RX3 28 "RainReservoir$User" "gotInAll" "I", .methodLink RX3 21 yX3_set, .instanceMethod yX3_set, .selects RX3 yX3_set yX3_set, .code yX3_set cX3_set 3 none, .methodLink RX3 18 yX3_clearAmounts, .instanceMethod yX3_clearAmounts, .selects RX3 yX3_clearAmounts yX3_clearAmounts, .code yX3_clearAmounts cX3_clearAmounts 1 none] ++ wsX40 ++ wsX30)
def wsX2_copyFrom_r1 : List Cond := [Cond.fieldLink RX2 9 "RainReservoir$State" "capacity" "I", Cond.fieldLink RX2 39 "RainReservoir$State" "floor" "I", Cond.fieldLink RX2 42 "RainReservoir$State" "topUp" "I", Cond.fieldLink RX2 45 "RainReservoir$State" "evaporation" "I", Cond.fieldLink RX2 15 "RainReservoir$State" "dryLimit" "I", Cond.fieldLink RX2 48 "RainReservoir$State" "rule" "I", Cond.fieldLink RX2 51 "RainReservoir$State" "roofCount" "I", Cond.fieldLink RX2 20 "RainReservoir$State" "roofs" "[LRainReservoir$Roof;", Cond.fieldLink RX2 28 "RainReservoir$State" "users" "LRainReservoir$Users;", Cond.fieldLink RX2 61 "RainReservoir$State" "rainCount" "I", Cond.fieldLink RX2 32 "RainReservoir$State" "rains" "[I", Cond.methodLink RX2 64 arraycopyName, Cond.native arraycopyName, Cond.static arraycopyName, Cond.initialized "java/lang/System", Cond.fieldLink RX2 70 "RainReservoir$State" "doneCount" "I", Cond.fieldLink RX2 36 "RainReservoir$State" "accounts" "[I", Cond.fieldLink RX2 73 "RainReservoir$State" "level" "I", Cond.fieldLink RX2 76 "RainReservoir$State" "dryDays" "I", Cond.fieldLink RX2 79 "RainReservoir$State" "looseOverflow" "J", Cond.methodLink RX2 54 yX1_copyFrom, Cond.instanceMethod yX1_copyFrom, Cond.selects RX1 yX1_copyFrom yX1_copyFrom, Cond.initialized RX1]
def wsX2_copyFrom_r2 : List Cond := [Cond.code yX1_copyFrom cX1_copyFrom 2 none, Cond.fieldLink RX1 7 "RainReservoir$Roof" "area" "I", Cond.fieldLink RX1 13 "RainReservoir$Roof" "yieldPercent" "I", Cond.fieldLink RX1 16 "RainReservoir$Roof" "flush" "I", Cond.fieldLink RX1 19 "RainReservoir$Roof" "gutter" "I", Cond.fieldLink RX1 29 "RainReservoir$Roof" "water" "I", Cond.fieldLink RX1 32 "RainReservoir$Roof" "spilledInAll" "I", Cond.methodLink RX1 25 yX1_set, Cond.instanceMethod yX1_set, Cond.selects RX1 yX1_set yX1_set, Cond.code yX1_set cX1_set 5 none, Cond.methodLink RX1 22 yX1_clearAmounts, Cond.instanceMethod yX1_clearAmounts, Cond.selects RX1 yX1_clearAmounts yX1_clearAmounts, Cond.code yX1_clearAmounts cX1_clearAmounts 1 none, Cond.methodLink RX2 58 yX4_copyFrom, Cond.instanceMethod yX4_copyFrom, Cond.selects RX4 yX4_copyFrom yX4_copyFrom, Cond.initialized RX4, Cond.code yX4_copyFrom cX4_copyFrom 3 none, Cond.fieldLink RX4 22 "RainReservoir$Users" "count" "I", Cond.fieldLink RX4 11 "RainReservoir$Users" "rows" "[LRainReservoir$User;", Cond.methodLink RX4 26 yX3_copyFrom, Cond.instanceMethod yX3_copyFrom]
def wsX2_copyFrom_r3 : List Cond := [Cond.selects RX3 yX3_copyFrom yX3_copyFrom, Cond.initialized RX3, Cond.code yX3_copyFrom cX3_copyFrom 2 none, Cond.fieldLink RX3 9 "RainReservoir$User" "demand" "I", Cond.fieldLink RX3 15 "RainReservoir$User" "weight" "I", Cond.fieldLink RX3 25 "RainReservoir$User" "gotLatest" "I", Cond.fieldLink RX3 28 "RainReservoir$User" "gotInAll" "I", Cond.methodLink RX3 21 yX3_set, Cond.instanceMethod yX3_set, Cond.selects RX3 yX3_set yX3_set, Cond.code yX3_set cX3_set 3 none, Cond.methodLink RX3 18 yX3_clearAmounts, Cond.instanceMethod yX3_clearAmounts, Cond.selects RX3 yX3_clearAmounts yX3_clearAmounts, Cond.code yX3_clearAmounts cX3_clearAmounts 1 none]
def wsX2_copyFrom : List Cond := .code yX2_copyFrom cX2_copyFrom 3 none :: ((wsX2_copyFrom_r1 ++ (wsX2_copyFrom_r2 ++ wsX2_copyFrom_r3)) ++ wsX20 ++ wsX10 ++ wsX40 ++ wsX30)
def wsX4_clearAmounts : List Cond := .code yX4_clearAmounts cX4_clearAmounts 2 none :: ([.fieldLink RX4 22 "RainReservoir$Users" "count" "I", .fieldLink RX4 11 "RainReservoir$Users" "rows" "[LRainReservoir$User;", .methodLink RX4 30 yX3_clearAmounts, .instanceMethod yX3_clearAmounts, .selects RX3 yX3_clearAmounts yX3_clearAmounts, .initialized RX3, .code yX3_clearAmounts cX3_clearAmounts 1 none, .fieldLink RX3 25 "RainReservoir$User" "gotLatest" "I", .fieldLink RX3 28 "RainReservoir$User" "gotInAll" "I"] ++ wsX40 ++ wsX30)
def wsX2_goBack_r1 : List Cond := [Cond.fieldLink RX2 70 "RainReservoir$State" "doneCount" "I", Cond.fieldLink RX2 73 "RainReservoir$State" "level" "I", Cond.fieldLink RX2 76 "RainReservoir$State" "dryDays" "I", Cond.fieldLink RX2 79 "RainReservoir$State" "looseOverflow" "J", Cond.fieldLink RX2 51 "RainReservoir$State" "roofCount" "I", Cond.fieldLink RX2 20 "RainReservoir$State" "roofs" "[LRainReservoir$Roof;", Cond.fieldLink RX2 28 "RainReservoir$State" "users" "LRainReservoir$Users;", Cond.methodLink RX2 83 yX1_clearAmounts, Cond.instanceMethod yX1_clearAmounts, Cond.selects RX1 yX1_clearAmounts yX1_clearAmounts, Cond.initialized RX1, Cond.code yX1_clearAmounts cX1_clearAmounts 1 none, Cond.fieldLink RX1 29 "RainReservoir$Roof" "water" "I", Cond.fieldLink RX1 32 "RainReservoir$Roof" "spilledInAll" "I", Cond.methodLink RX2 86 yX4_clearAmounts, Cond.instanceMethod yX4_clearAmounts, Cond.selects RX4 yX4_clearAmounts yX4_clearAmounts, Cond.initialized RX4, Cond.code yX4_clearAmounts cX4_clearAmounts 2 none, Cond.fieldLink RX4 22 "RainReservoir$Users" "count" "I", Cond.fieldLink RX4 11 "RainReservoir$Users" "rows" "[LRainReservoir$User;", Cond.methodLink RX4 30 yX3_clearAmounts, Cond.instanceMethod yX3_clearAmounts, Cond.selects RX3 yX3_clearAmounts yX3_clearAmounts]
def wsX2_goBack_r2 : List Cond := [Cond.initialized RX3, Cond.code yX3_clearAmounts cX3_clearAmounts 1 none, Cond.fieldLink RX3 25 "RainReservoir$User" "gotLatest" "I", Cond.fieldLink RX3 28 "RainReservoir$User" "gotInAll" "I"]
def wsX2_goBack : List Cond := .code yX2_goBack cX2_goBack 2 none :: ((wsX2_goBack_r1 ++ wsX2_goBack_r2) ++ wsX20 ++ wsX10 ++ wsX40 ++ wsX30)
def wsX2_settingValue : List Cond := .code yX2_settingValue cX2_settingValue 2 (some .int) :: ([.fieldLink RX2 9 "RainReservoir$State" "capacity" "I", .fieldLink RX2 39 "RainReservoir$State" "floor" "I", .fieldLink RX2 42 "RainReservoir$State" "topUp" "I", .fieldLink RX2 45 "RainReservoir$State" "evaporation" "I", .fieldLink RX2 15 "RainReservoir$State" "dryLimit" "I", .fieldLink RX2 48 "RainReservoir$State" "rule" "I", .fieldLink RX2 51 "RainReservoir$State" "roofCount" "I", .fieldLink RX2 28 "RainReservoir$State" "users" "LRainReservoir$Users;", .fieldLink RX2 87 "RainReservoir$Users" "count" "I", .fieldLink RX2 61 "RainReservoir$State" "rainCount" "I", .fieldLink RX2 70 "RainReservoir$State" "doneCount" "I", .fieldLink RX2 73 "RainReservoir$State" "level" "I", .fieldLink RX2 76 "RainReservoir$State" "dryDays" "I"] ++ wsX20 ++ wsX40)
def wsX2_putRain : List Cond := .code yX2_putRain cX2_putRain 2 none :: ([.fieldLink RX2 32 "RainReservoir$State" "rains" "[I", .fieldLink RX2 61 "RainReservoir$State" "rainCount" "I"] ++ wsX20)
def wsX2_account : List Cond := .code yX2_account cX2_account 3 (some .int) :: ([.fieldLink RX2 36 "RainReservoir$State" "accounts" "[I"] ++ wsX20)
def wsX2_isShort : List Cond := .code yX2_isShort cX2_isShort 2 (some .boolean) :: ([.methodLink RX2 90 yX2_account, .instanceMethod yX2_account, .selects RX2 yX2_account yX2_account, .initialized RX2, .code yX2_account cX2_account 3 (some .int), .fieldLink RX2 36 "RainReservoir$State" "accounts" "[I"] ++ wsX20)
def wsX2_dropAboveCapacity : List Cond := .code yX2_dropAboveCapacity cX2_dropAboveCapacity 2 (some .int) :: ([.fieldLink RX2 73 "RainReservoir$State" "level" "I", .fieldLink RX2 9 "RainReservoir$State" "capacity" "I", .methodLink RX2 94 Lib.Math.max.name, .static Lib.Math.max.name, .initialized "java/lang/Math", .code Lib.Math.max.name Lib.Math.max.code 2 (some .int)] ++ wsX20)
def wsX2_drainWhenDry : List Cond := .code yX2_drainWhenDry cX2_drainWhenDry 4 (some .int) :: ([.fieldLink RX2 76 "RainReservoir$State" "dryDays" "I", .fieldLink RX2 15 "RainReservoir$State" "dryLimit" "I", .fieldLink RX2 51 "RainReservoir$State" "roofCount" "I", .fieldLink RX2 20 "RainReservoir$State" "roofs" "[LRainReservoir$Roof;", .methodLink RX2 134 yX1_drain, .instanceMethod yX1_drain, .selects RX1 yX1_drain yX1_drain, .initialized RX1, .code yX1_drain cX1_drain 2 (some .int), .fieldLink RX1 29 "RainReservoir$Roof" "water" "I"] ++ wsX20 ++ wsX10)
def wsX2_put : List Cond := .code yX2_put cX2_put 4 none :: ([.fieldLink RX2 36 "RainReservoir$State" "accounts" "[I"] ++ wsX20)
def wsX2_collect_r1 : List Cond := [Cond.fieldLink RX2 32 "RainReservoir$State" "rains" "[I", Cond.fieldLink RX2 51 "RainReservoir$State" "roofCount" "I", Cond.fieldLink RX2 20 "RainReservoir$State" "roofs" "[LRainReservoir$Roof;", Cond.methodLink RX2 99 yX2_drainWhenDry, Cond.instanceMethod yX2_drainWhenDry, Cond.selects RX2 yX2_drainWhenDry yX2_drainWhenDry, Cond.initialized RX2, Cond.code yX2_drainWhenDry cX2_drainWhenDry 4 (some .int), Cond.fieldLink RX2 76 "RainReservoir$State" "dryDays" "I", Cond.fieldLink RX2 15 "RainReservoir$State" "dryLimit" "I", Cond.methodLink RX2 134 yX1_drain, Cond.instanceMethod yX1_drain, Cond.selects RX1 yX1_drain yX1_drain, Cond.initialized RX1, Cond.code yX1_drain cX1_drain 2 (some .int), Cond.fieldLink RX1 29 "RainReservoir$Roof" "water" "I", Cond.methodLink RX2 103 yX1_caught, Cond.instanceMethod yX1_caught, Cond.selects RX1 yX1_caught yX1_caught, Cond.code yX1_caught cX1_caught 2 (some .int), Cond.fieldLink RX1 7 "RainReservoir$Roof" "area" "I", Cond.fieldLink RX1 13 "RainReservoir$Roof" "yieldPercent" "I", Cond.methodLink RX2 106 yX1_divert, Cond.instanceMethod yX1_divert]
def wsX2_collect_r2 : List Cond := [Cond.selects RX1 yX1_divert yX1_divert, Cond.code yX1_divert cX1_divert 3 (some .int), Cond.fieldLink RX1 16 "RainReservoir$Roof" "flush" "I", Cond.methodLink RX1 35 Lib.Math.min.name, Cond.static Lib.Math.min.name, Cond.initialized "java/lang/Math", Cond.code Lib.Math.min.name Lib.Math.min.code 2 (some .int), Cond.methodLink RX2 109 yX1_spill, Cond.instanceMethod yX1_spill, Cond.selects RX1 yX1_spill yX1_spill, Cond.code yX1_spill cX1_spill 3 (some .int), Cond.fieldLink RX1 19 "RainReservoir$Roof" "gutter" "I", Cond.methodLink RX1 41 Lib.Math.max.name, Cond.static Lib.Math.max.name, Cond.code Lib.Math.max.name Lib.Math.max.code 2 (some .int), Cond.fieldLink RX1 32 "RainReservoir$Roof" "spilledInAll" "I", Cond.methodLink RX2 112 yX2_put, Cond.instanceMethod yX2_put, Cond.selects RX2 yX2_put yX2_put, Cond.code yX2_put cX2_put 4 none, Cond.fieldLink RX2 36 "RainReservoir$State" "accounts" "[I"]
def wsX2_collect : List Cond := .code yX2_collect cX2_collect 11 none :: ((wsX2_collect_r1 ++ wsX2_collect_r2) ++ wsX20 ++ wsX10)
def wsX4_demandInAll : List Cond := .code yX4_demandInAll cX4_demandInAll 3 (some .int) :: ([.fieldLink RX4 22 "RainReservoir$Users" "count" "I", .fieldLink RX4 11 "RainReservoir$Users" "rows" "[LRainReservoir$User;", .fieldLink RX4 33 "RainReservoir$User" "demand" "I"] ++ wsX40 ++ wsX30)
def wsX4_orderByNumber : List Cond := .code yX4_orderByNumber cX4_orderByNumber 2 none :: ([.fieldLink RX4 22 "RainReservoir$Users" "count" "I", .fieldLink RX4 18 "RainReservoir$Users" "order" "[I"] ++ wsX40)
def wsX3_lack : List Cond := .code yX3_lack cX3_lack 1 (some .int) :: ([.fieldLink RX3 9 "RainReservoir$User" "demand" "I", .fieldLink RX3 25 "RainReservoir$User" "gotLatest" "I"] ++ wsX30)
def wsX3_give : List Cond := .code yX3_give cX3_give 3 (some .int) :: ([.methodLink RX3 35 Lib.Math.min.name, .static Lib.Math.min.name, .initialized "java/lang/Math", .code Lib.Math.min.name Lib.Math.min.code 2 (some .int), .fieldLink RX3 25 "RainReservoir$User" "gotLatest" "I", .methodLink RX3 31 yX3_lack, .instanceMethod yX3_lack, .selects RX3 yX3_lack yX3_lack, .initialized RX3, .code yX3_lack cX3_lack 1 (some .int), .fieldLink RX3 9 "RainReservoir$User" "demand" "I"] ++ wsX30)
def wsX4_serveOrder : List Cond := .code yX4_serveOrder cX4_serveOrder 4 none :: ([.fieldLink RX4 22 "RainReservoir$Users" "count" "I", .fieldLink RX4 11 "RainReservoir$Users" "rows" "[LRainReservoir$User;", .fieldLink RX4 18 "RainReservoir$Users" "order" "[I", .methodLink RX4 73 yX3_give, .instanceMethod yX3_give, .selects RX3 yX3_give yX3_give, .initialized RX3, .code yX3_give cX3_give 3 (some .int), .methodLink RX3 35 Lib.Math.min.name, .static Lib.Math.min.name, .initialized "java/lang/Math", .code Lib.Math.min.name Lib.Math.min.code 2 (some .int), .fieldLink RX3 25 "RainReservoir$User" "gotLatest" "I", .methodLink RX3 31 yX3_lack, .instanceMethod yX3_lack, .selects RX3 yX3_lack yX3_lack, .code yX3_lack cX3_lack 1 (some .int), .fieldLink RX3 9 "RainReservoir$User" "demand" "I"] ++ wsX40 ++ wsX30)
def wsX4_shareByDemand : List Cond := .code yX4_shareByDemand cX4_shareByDemand 7 none :: ([.fieldLink RX4 22 "RainReservoir$Users" "count" "I", .fieldLink RX4 11 "RainReservoir$Users" "rows" "[LRainReservoir$User;", .fieldLink RX4 33 "RainReservoir$User" "demand" "I", .methodLink RX4 73 yX3_give, .instanceMethod yX3_give, .selects RX3 yX3_give yX3_give, .initialized RX3, .code yX3_give cX3_give 3 (some .int), .methodLink RX3 35 Lib.Math.min.name, .static Lib.Math.min.name, .initialized "java/lang/Math", .code Lib.Math.min.name Lib.Math.min.code 2 (some .int), .fieldLink RX3 25 "RainReservoir$User" "gotLatest" "I", .methodLink RX3 31 yX3_lack, .instanceMethod yX3_lack, .selects RX3 yX3_lack yX3_lack, .code yX3_lack cX3_lack 1 (some .int), .fieldLink RX3 9 "RainReservoir$User" "demand" "I"] ++ wsX40 ++ wsX30)
def wsX3_portion : List Cond := .code yX3_portion cX3_portion 1 (some .int) :: ([.fieldLink RX3 15 "RainReservoir$User" "weight" "I"] ++ wsX30)
def wsX4_fullRounds : List Cond := .code yX4_fullRounds cX4_fullRounds 4 (some .int) :: ([.fieldLink RX4 22 "RainReservoir$Users" "count" "I", .fieldLink RX4 11 "RainReservoir$Users" "rows" "[LRainReservoir$User;", .methodLink RX4 86 yX3_lack, .instanceMethod yX3_lack, .selects RX3 yX3_lack yX3_lack, .initialized RX3, .code yX3_lack cX3_lack 1 (some .int), .fieldLink RX3 9 "RainReservoir$User" "demand" "I", .fieldLink RX3 25 "RainReservoir$User" "gotLatest" "I", .methodLink RX4 80 yX3_portion, .instanceMethod yX3_portion, .selects RX3 yX3_portion yX3_portion, .code yX3_portion cX3_portion 1 (some .int), .fieldLink RX3 15 "RainReservoir$User" "weight" "I"] ++ wsX40 ++ wsX30)
def wsX4_shareInRounds_r1 : List Cond := [Cond.fieldLink RX4 22 "RainReservoir$Users" "count" "I", Cond.fieldLink RX4 11 "RainReservoir$Users" "rows" "[LRainReservoir$User;", Cond.methodLink RX4 83 Lib.Math.min.name, Cond.static Lib.Math.min.name, Cond.initialized "java/lang/Math", Cond.code Lib.Math.min.name Lib.Math.min.code 2 (some .int), Cond.methodLink RX4 77 yX4_fullRounds, Cond.instanceMethod yX4_fullRounds, Cond.selects RX4 yX4_fullRounds yX4_fullRounds, Cond.initialized RX4, Cond.code yX4_fullRounds cX4_fullRounds 4 (some .int), Cond.methodLink RX4 86 yX3_lack, Cond.instanceMethod yX3_lack, Cond.selects RX3 yX3_lack yX3_lack, Cond.initialized RX3, Cond.code yX3_lack cX3_lack 1 (some .int), Cond.fieldLink RX3 9 "RainReservoir$User" "demand" "I", Cond.fieldLink RX3 25 "RainReservoir$User" "gotLatest" "I", Cond.methodLink RX4 80 yX3_portion, Cond.instanceMethod yX3_portion, Cond.selects RX3 yX3_portion yX3_portion, Cond.code yX3_portion cX3_portion 1 (some .int), Cond.fieldLink RX3 15 "RainReservoir$User" "weight" "I", Cond.methodLink RX4 73 yX3_give]
def wsX4_shareInRounds_r2 : List Cond := [Cond.instanceMethod yX3_give, Cond.selects RX3 yX3_give yX3_give, Cond.code yX3_give cX3_give 3 (some .int), Cond.methodLink RX3 35 Lib.Math.min.name, Cond.methodLink RX3 31 yX3_lack]
def wsX4_shareInRounds : List Cond := .code yX4_shareInRounds cX4_shareInRounds 6 none :: ((wsX4_shareInRounds_r1 ++ wsX4_shareInRounds_r2) ++ wsX40 ++ wsX30)
def wsX4_orderByDemand : List Cond := .code yX4_orderByDemand cX4_orderByDemand 3 none :: ([.fieldLink RX4 22 "RainReservoir$Users" "count" "I", .fieldLink RX4 11 "RainReservoir$Users" "rows" "[LRainReservoir$User;", .fieldLink RX4 18 "RainReservoir$Users" "order" "[I", .fieldLink RX4 33 "RainReservoir$User" "demand" "I"] ++ wsX40 ++ wsX30)
def wsX4_share_r1 : List Cond := [Cond.methodLink RX4 63 yX4_shareByDemand, Cond.instanceMethod yX4_shareByDemand, Cond.selects RX4 yX4_shareByDemand yX4_shareByDemand, Cond.initialized RX4, Cond.code yX4_shareByDemand cX4_shareByDemand 7 none, Cond.fieldLink RX4 22 "RainReservoir$Users" "count" "I", Cond.fieldLink RX4 11 "RainReservoir$Users" "rows" "[LRainReservoir$User;", Cond.fieldLink RX4 33 "RainReservoir$User" "demand" "I", Cond.methodLink RX4 73 yX3_give, Cond.instanceMethod yX3_give, Cond.selects RX3 yX3_give yX3_give, Cond.initialized RX3, Cond.code yX3_give cX3_give 3 (some .int), Cond.methodLink RX3 35 Lib.Math.min.name, Cond.static Lib.Math.min.name, Cond.initialized "java/lang/Math", Cond.code Lib.Math.min.name Lib.Math.min.code 2 (some .int), Cond.fieldLink RX3 25 "RainReservoir$User" "gotLatest" "I", Cond.methodLink RX3 31 yX3_lack, Cond.instanceMethod yX3_lack, Cond.selects RX3 yX3_lack yX3_lack, Cond.code yX3_lack cX3_lack 1 (some .int), Cond.fieldLink RX3 9 "RainReservoir$User" "demand" "I", Cond.methodLink RX4 52 yX4_orderByNumber]
def wsX4_share_r2 : List Cond := [Cond.instanceMethod yX4_orderByNumber, Cond.selects RX4 yX4_orderByNumber yX4_orderByNumber, Cond.code yX4_orderByNumber cX4_orderByNumber 2 none, Cond.fieldLink RX4 18 "RainReservoir$Users" "order" "[I", Cond.methodLink RX4 55 yX4_serveOrder, Cond.instanceMethod yX4_serveOrder, Cond.selects RX4 yX4_serveOrder yX4_serveOrder, Cond.code yX4_serveOrder cX4_serveOrder 4 none, Cond.methodLink RX4 67 yX4_shareInRounds, Cond.instanceMethod yX4_shareInRounds, Cond.selects RX4 yX4_shareInRounds yX4_shareInRounds, Cond.code yX4_shareInRounds cX4_shareInRounds 6 none, Cond.methodLink RX4 83 Lib.Math.min.name, Cond.methodLink RX4 77 yX4_fullRounds, Cond.instanceMethod yX4_fullRounds, Cond.selects RX4 yX4_fullRounds yX4_fullRounds, Cond.code yX4_fullRounds cX4_fullRounds 4 (some .int), Cond.methodLink RX4 86 yX3_lack, Cond.methodLink RX4 80 yX3_portion, Cond.instanceMethod yX3_portion, Cond.selects RX3 yX3_portion yX3_portion, Cond.code yX3_portion cX3_portion 1 (some .int), Cond.fieldLink RX3 15 "RainReservoir$User" "weight" "I", Cond.methodLink RX4 70 yX4_orderByDemand]
def wsX4_share_r3 : List Cond := [Cond.instanceMethod yX4_orderByDemand, Cond.selects RX4 yX4_orderByDemand yX4_orderByDemand, Cond.code yX4_orderByDemand cX4_orderByDemand 3 none]
def wsX4_share : List Cond := .code yX4_share cX4_share 4 none :: ((wsX4_share_r1 ++ (wsX4_share_r2 ++ wsX4_share_r3)) ++ wsX40 ++ wsX30)
def wsX4_handOut_r1 : List Cond := [Cond.fieldLink RX4 22 "RainReservoir$Users" "count" "I", Cond.fieldLink RX4 11 "RainReservoir$Users" "rows" "[LRainReservoir$User;", Cond.fieldLink RX4 45 "RainReservoir$User" "gotLatest" "I", Cond.fieldLink RX4 36 "RainReservoir$User" "gotInAll" "I", Cond.methodLink RX4 48 yX4_demandInAll, Cond.instanceMethod yX4_demandInAll, Cond.selects RX4 yX4_demandInAll yX4_demandInAll, Cond.initialized RX4, Cond.code yX4_demandInAll cX4_demandInAll 3 (some .int), Cond.fieldLink RX4 33 "RainReservoir$User" "demand" "I", Cond.methodLink RX4 52 yX4_orderByNumber, Cond.instanceMethod yX4_orderByNumber, Cond.selects RX4 yX4_orderByNumber yX4_orderByNumber, Cond.code yX4_orderByNumber cX4_orderByNumber 2 none, Cond.fieldLink RX4 18 "RainReservoir$Users" "order" "[I", Cond.methodLink RX4 55 yX4_serveOrder, Cond.instanceMethod yX4_serveOrder, Cond.selects RX4 yX4_serveOrder yX4_serveOrder, Cond.code yX4_serveOrder cX4_serveOrder 4 none, Cond.methodLink RX4 73 yX3_give, Cond.instanceMethod yX3_give, Cond.selects RX3 yX3_give yX3_give, Cond.initialized RX3, Cond.code yX3_give cX3_give 3 (some .int)]
def wsX4_handOut_r2 : List Cond := [Cond.methodLink RX3 35 Lib.Math.min.name, Cond.static Lib.Math.min.name, Cond.initialized "java/lang/Math", Cond.code Lib.Math.min.name Lib.Math.min.code 2 (some .int), Cond.fieldLink RX3 25 "RainReservoir$User" "gotLatest" "I", Cond.methodLink RX3 31 yX3_lack, Cond.instanceMethod yX3_lack, Cond.selects RX3 yX3_lack yX3_lack, Cond.code yX3_lack cX3_lack 1 (some .int), Cond.fieldLink RX3 9 "RainReservoir$User" "demand" "I", Cond.methodLink RX4 59 yX4_share, Cond.instanceMethod yX4_share, Cond.selects RX4 yX4_share yX4_share, Cond.code yX4_share cX4_share 4 none, Cond.methodLink RX4 63 yX4_shareByDemand, Cond.instanceMethod yX4_shareByDemand, Cond.selects RX4 yX4_shareByDemand yX4_shareByDemand, Cond.code yX4_shareByDemand cX4_shareByDemand 7 none, Cond.methodLink RX4 67 yX4_shareInRounds, Cond.instanceMethod yX4_shareInRounds, Cond.selects RX4 yX4_shareInRounds yX4_shareInRounds, Cond.code yX4_shareInRounds cX4_shareInRounds 6 none, Cond.methodLink RX4 83 Lib.Math.min.name, Cond.methodLink RX4 77 yX4_fullRounds]
def wsX4_handOut_r3 : List Cond := [Cond.instanceMethod yX4_fullRounds, Cond.selects RX4 yX4_fullRounds yX4_fullRounds, Cond.code yX4_fullRounds cX4_fullRounds 4 (some .int), Cond.methodLink RX4 86 yX3_lack, Cond.methodLink RX4 80 yX3_portion, Cond.instanceMethod yX3_portion, Cond.selects RX3 yX3_portion yX3_portion, Cond.code yX3_portion cX3_portion 1 (some .int), Cond.fieldLink RX3 15 "RainReservoir$User" "weight" "I", Cond.methodLink RX4 70 yX4_orderByDemand, Cond.instanceMethod yX4_orderByDemand, Cond.selects RX4 yX4_orderByDemand yX4_orderByDemand, Cond.code yX4_orderByDemand cX4_orderByDemand 3 none]
def wsX4_handOut : List Cond := .code yX4_handOut cX4_handOut 6 (some .int) :: ((wsX4_handOut_r1 ++ (wsX4_handOut_r2 ++ wsX4_handOut_r3)) ++ wsX40 ++ wsX30)
def wsX2_serve_r1 : List Cond := [Cond.fieldLink RX2 73 "RainReservoir$State" "level" "I", Cond.fieldLink RX2 45 "RainReservoir$State" "evaporation" "I", Cond.fieldLink RX2 28 "RainReservoir$State" "users" "LRainReservoir$Users;", Cond.fieldLink RX2 39 "RainReservoir$State" "floor" "I", Cond.methodLink RX2 94 Lib.Math.max.name, Cond.static Lib.Math.max.name, Cond.initialized "java/lang/Math", Cond.code Lib.Math.max.name Lib.Math.max.code 2 (some .int), Cond.fieldLink RX2 48 "RainReservoir$State" "rule" "I", Cond.fieldLink RX2 42 "RainReservoir$State" "topUp" "I", Cond.methodLink RX2 90 yX2_account, Cond.instanceMethod yX2_account, Cond.selects RX2 yX2_account yX2_account, Cond.initialized RX2, Cond.code yX2_account cX2_account 3 (some .int), Cond.fieldLink RX2 36 "RainReservoir$State" "accounts" "[I", Cond.methodLink RX2 116 yX2_dropAboveCapacity, Cond.instanceMethod yX2_dropAboveCapacity, Cond.selects RX2 yX2_dropAboveCapacity yX2_dropAboveCapacity, Cond.code yX2_dropAboveCapacity cX2_dropAboveCapacity 2 (some .int), Cond.fieldLink RX2 9 "RainReservoir$State" "capacity" "I", Cond.methodLink RX2 112 yX2_put, Cond.instanceMethod yX2_put, Cond.selects RX2 yX2_put yX2_put]
def wsX2_serve_r2 : List Cond := [Cond.code yX2_put cX2_put 4 none, Cond.methodLink RX2 120 yX4_handOut, Cond.instanceMethod yX4_handOut, Cond.selects RX4 yX4_handOut yX4_handOut, Cond.initialized RX4, Cond.code yX4_handOut cX4_handOut 6 (some .int), Cond.fieldLink RX4 22 "RainReservoir$Users" "count" "I", Cond.fieldLink RX4 11 "RainReservoir$Users" "rows" "[LRainReservoir$User;", Cond.fieldLink RX4 45 "RainReservoir$User" "gotLatest" "I", Cond.fieldLink RX4 36 "RainReservoir$User" "gotInAll" "I", Cond.methodLink RX4 48 yX4_demandInAll, Cond.instanceMethod yX4_demandInAll, Cond.selects RX4 yX4_demandInAll yX4_demandInAll, Cond.code yX4_demandInAll cX4_demandInAll 3 (some .int), Cond.fieldLink RX4 33 "RainReservoir$User" "demand" "I", Cond.methodLink RX4 52 yX4_orderByNumber, Cond.instanceMethod yX4_orderByNumber, Cond.selects RX4 yX4_orderByNumber yX4_orderByNumber, Cond.code yX4_orderByNumber cX4_orderByNumber 2 none, Cond.fieldLink RX4 18 "RainReservoir$Users" "order" "[I", Cond.methodLink RX4 55 yX4_serveOrder, Cond.instanceMethod yX4_serveOrder, Cond.selects RX4 yX4_serveOrder yX4_serveOrder, Cond.code yX4_serveOrder cX4_serveOrder 4 none]
def wsX2_serve_r3 : List Cond := [Cond.methodLink RX4 73 yX3_give, Cond.instanceMethod yX3_give, Cond.selects RX3 yX3_give yX3_give, Cond.initialized RX3, Cond.code yX3_give cX3_give 3 (some .int), Cond.methodLink RX3 35 Lib.Math.min.name, Cond.static Lib.Math.min.name, Cond.code Lib.Math.min.name Lib.Math.min.code 2 (some .int), Cond.fieldLink RX3 25 "RainReservoir$User" "gotLatest" "I", Cond.methodLink RX3 31 yX3_lack, Cond.instanceMethod yX3_lack, Cond.selects RX3 yX3_lack yX3_lack, Cond.code yX3_lack cX3_lack 1 (some .int), Cond.fieldLink RX3 9 "RainReservoir$User" "demand" "I", Cond.methodLink RX4 59 yX4_share, Cond.instanceMethod yX4_share, Cond.selects RX4 yX4_share yX4_share, Cond.code yX4_share cX4_share 4 none, Cond.methodLink RX4 63 yX4_shareByDemand, Cond.instanceMethod yX4_shareByDemand, Cond.selects RX4 yX4_shareByDemand yX4_shareByDemand, Cond.code yX4_shareByDemand cX4_shareByDemand 7 none, Cond.methodLink RX4 67 yX4_shareInRounds, Cond.instanceMethod yX4_shareInRounds]
def wsX2_serve_r4 : List Cond := [Cond.selects RX4 yX4_shareInRounds yX4_shareInRounds, Cond.code yX4_shareInRounds cX4_shareInRounds 6 none, Cond.methodLink RX4 83 Lib.Math.min.name, Cond.methodLink RX4 77 yX4_fullRounds, Cond.instanceMethod yX4_fullRounds, Cond.selects RX4 yX4_fullRounds yX4_fullRounds, Cond.code yX4_fullRounds cX4_fullRounds 4 (some .int), Cond.methodLink RX4 86 yX3_lack, Cond.methodLink RX4 80 yX3_portion, Cond.instanceMethod yX3_portion, Cond.selects RX3 yX3_portion yX3_portion, Cond.code yX3_portion cX3_portion 1 (some .int), Cond.fieldLink RX3 15 "RainReservoir$User" "weight" "I", Cond.methodLink RX4 70 yX4_orderByDemand, Cond.instanceMethod yX4_orderByDemand, Cond.selects RX4 yX4_orderByDemand yX4_orderByDemand, Cond.code yX4_orderByDemand cX4_orderByDemand 3 none, Cond.methodLink RX2 123 yX4_demandInAll]
def wsX2_serve : List Cond := .code yX2_serve cX2_serve 5 none :: ((wsX2_serve_r1 ++ (wsX2_serve_r2 ++ (wsX2_serve_r3 ++ wsX2_serve_r4))) ++ wsX20 ++ wsX40 ++ wsX30)
def wsX2_serveAll_r1 : List Cond := [Cond.fieldLink RX2 73 "RainReservoir$State" "level" "I", Cond.fieldLink RX2 28 "RainReservoir$State" "users" "LRainReservoir$Users;", Cond.fieldLink RX2 61 "RainReservoir$State" "rainCount" "I", Cond.methodLink RX2 86 yX4_clearAmounts, Cond.instanceMethod yX4_clearAmounts, Cond.selects RX4 yX4_clearAmounts yX4_clearAmounts, Cond.initialized RX4, Cond.code yX4_clearAmounts cX4_clearAmounts 2 none, Cond.fieldLink RX4 22 "RainReservoir$Users" "count" "I", Cond.fieldLink RX4 11 "RainReservoir$Users" "rows" "[LRainReservoir$User;", Cond.methodLink RX4 30 yX3_clearAmounts, Cond.instanceMethod yX3_clearAmounts, Cond.selects RX3 yX3_clearAmounts yX3_clearAmounts, Cond.initialized RX3, Cond.code yX3_clearAmounts cX3_clearAmounts 1 none, Cond.fieldLink RX3 25 "RainReservoir$User" "gotLatest" "I", Cond.fieldLink RX3 28 "RainReservoir$User" "gotInAll" "I", Cond.methodLink RX2 126 yX2_serve, Cond.instanceMethod yX2_serve, Cond.selects RX2 yX2_serve yX2_serve, Cond.initialized RX2, Cond.code yX2_serve cX2_serve 5 none, Cond.fieldLink RX2 45 "RainReservoir$State" "evaporation" "I", Cond.fieldLink RX2 39 "RainReservoir$State" "floor" "I"]
def wsX2_serveAll_r2 : List Cond := [Cond.methodLink RX2 94 Lib.Math.max.name, Cond.static Lib.Math.max.name, Cond.initialized "java/lang/Math", Cond.code Lib.Math.max.name Lib.Math.max.code 2 (some .int), Cond.fieldLink RX2 48 "RainReservoir$State" "rule" "I", Cond.fieldLink RX2 42 "RainReservoir$State" "topUp" "I", Cond.methodLink RX2 90 yX2_account, Cond.instanceMethod yX2_account, Cond.selects RX2 yX2_account yX2_account, Cond.code yX2_account cX2_account 3 (some .int), Cond.fieldLink RX2 36 "RainReservoir$State" "accounts" "[I", Cond.methodLink RX2 116 yX2_dropAboveCapacity, Cond.instanceMethod yX2_dropAboveCapacity, Cond.selects RX2 yX2_dropAboveCapacity yX2_dropAboveCapacity, Cond.code yX2_dropAboveCapacity cX2_dropAboveCapacity 2 (some .int), Cond.fieldLink RX2 9 "RainReservoir$State" "capacity" "I", Cond.methodLink RX2 112 yX2_put, Cond.instanceMethod yX2_put, Cond.selects RX2 yX2_put yX2_put, Cond.code yX2_put cX2_put 4 none, Cond.methodLink RX2 120 yX4_handOut, Cond.instanceMethod yX4_handOut, Cond.selects RX4 yX4_handOut yX4_handOut, Cond.code yX4_handOut cX4_handOut 6 (some .int)]
def wsX2_serveAll_r3 : List Cond := [Cond.fieldLink RX4 45 "RainReservoir$User" "gotLatest" "I", Cond.fieldLink RX4 36 "RainReservoir$User" "gotInAll" "I", Cond.methodLink RX4 48 yX4_demandInAll, Cond.instanceMethod yX4_demandInAll, Cond.selects RX4 yX4_demandInAll yX4_demandInAll, Cond.code yX4_demandInAll cX4_demandInAll 3 (some .int), Cond.fieldLink RX4 33 "RainReservoir$User" "demand" "I", Cond.methodLink RX4 52 yX4_orderByNumber, Cond.instanceMethod yX4_orderByNumber, Cond.selects RX4 yX4_orderByNumber yX4_orderByNumber, Cond.code yX4_orderByNumber cX4_orderByNumber 2 none, Cond.fieldLink RX4 18 "RainReservoir$Users" "order" "[I", Cond.methodLink RX4 55 yX4_serveOrder, Cond.instanceMethod yX4_serveOrder, Cond.selects RX4 yX4_serveOrder yX4_serveOrder, Cond.code yX4_serveOrder cX4_serveOrder 4 none, Cond.methodLink RX4 73 yX3_give, Cond.instanceMethod yX3_give, Cond.selects RX3 yX3_give yX3_give, Cond.code yX3_give cX3_give 3 (some .int), Cond.methodLink RX3 35 Lib.Math.min.name, Cond.static Lib.Math.min.name, Cond.code Lib.Math.min.name Lib.Math.min.code 2 (some .int), Cond.methodLink RX3 31 yX3_lack]
def wsX2_serveAll_r4 : List Cond := [Cond.instanceMethod yX3_lack, Cond.selects RX3 yX3_lack yX3_lack, Cond.code yX3_lack cX3_lack 1 (some .int), Cond.fieldLink RX3 9 "RainReservoir$User" "demand" "I", Cond.methodLink RX4 59 yX4_share, Cond.instanceMethod yX4_share, Cond.selects RX4 yX4_share yX4_share, Cond.code yX4_share cX4_share 4 none, Cond.methodLink RX4 63 yX4_shareByDemand, Cond.instanceMethod yX4_shareByDemand, Cond.selects RX4 yX4_shareByDemand yX4_shareByDemand, Cond.code yX4_shareByDemand cX4_shareByDemand 7 none, Cond.methodLink RX4 67 yX4_shareInRounds, Cond.instanceMethod yX4_shareInRounds, Cond.selects RX4 yX4_shareInRounds yX4_shareInRounds, Cond.code yX4_shareInRounds cX4_shareInRounds 6 none, Cond.methodLink RX4 83 Lib.Math.min.name, Cond.methodLink RX4 77 yX4_fullRounds, Cond.instanceMethod yX4_fullRounds, Cond.selects RX4 yX4_fullRounds yX4_fullRounds, Cond.code yX4_fullRounds cX4_fullRounds 4 (some .int), Cond.methodLink RX4 86 yX3_lack, Cond.methodLink RX4 80 yX3_portion, Cond.instanceMethod yX3_portion]
def wsX2_serveAll_r5 : List Cond := [Cond.selects RX3 yX3_portion yX3_portion, Cond.code yX3_portion cX3_portion 1 (some .int), Cond.fieldLink RX3 15 "RainReservoir$User" "weight" "I", Cond.methodLink RX4 70 yX4_orderByDemand, Cond.instanceMethod yX4_orderByDemand, Cond.selects RX4 yX4_orderByDemand yX4_orderByDemand, Cond.code yX4_orderByDemand cX4_orderByDemand 3 none, Cond.methodLink RX2 123 yX4_demandInAll, Cond.methodLink RX2 130 yX2_isShort, Cond.instanceMethod yX2_isShort, Cond.selects RX2 yX2_isShort yX2_isShort, Cond.code yX2_isShort cX2_isShort 2 (some .boolean)]
def wsX2_serveAll : List Cond := .code yX2_serveAll cX2_serveAll 4 (some .int) :: ((wsX2_serveAll_r1 ++ (wsX2_serveAll_r2 ++ (wsX2_serveAll_r3 ++ (wsX2_serveAll_r4 ++ wsX2_serveAll_r5)))) ++ wsX20 ++ wsX40 ++ wsX30)
def wsX3_value : List Cond := .code yX3_value cX3_value 2 (some .int) :: ([.fieldLink RX3 9 "RainReservoir$User" "demand" "I", .fieldLink RX3 15 "RainReservoir$User" "weight" "I", .fieldLink RX3 25 "RainReservoir$User" "gotLatest" "I", .fieldLink RX3 28 "RainReservoir$User" "gotInAll" "I"] ++ wsX30)
def wsX4_scaleDemands : List Cond := .code yX4_scaleDemands cX4_scaleDemands 4 none :: ([.fieldLink RX4 22 "RainReservoir$Users" "count" "I", .fieldLink RX4 11 "RainReservoir$Users" "rows" "[LRainReservoir$User;", .fieldLink RX4 33 "RainReservoir$User" "demand" "I"] ++ wsX40 ++ wsX30)
def wsX4_greatestLack : List Cond := .code yX4_greatestLack cX4_greatestLack 4 (some .int) :: ([.fieldLink RX4 22 "RainReservoir$Users" "count" "I", .fieldLink RX4 11 "RainReservoir$Users" "rows" "[LRainReservoir$User;", .fieldLink RX4 33 "RainReservoir$User" "demand" "I", .fieldLink RX4 36 "RainReservoir$User" "gotInAll" "I", .methodLink RX4 39 Lib.Math.max.name, .static Lib.Math.max.name, .initialized "java/lang/Math", .code Lib.Math.max.name Lib.Math.max.code 2 (some .int)] ++ wsX40 ++ wsX30)
def wsX5_init_r1 : List Cond := [Cond.methodLink RX5 1 objectInit, Cond.instanceMethod objectInit, Cond.code objectInit ⟨#[0xb1]⟩ 1 none, Cond.classLink RX5 7 RX2, Cond.instantiable RX2 16, Cond.initialized RX2, Cond.fieldLink RX5 10 "RainReservoir" "now" "LRainReservoir$State;", Cond.fieldLink RX5 16 "RainReservoir" "trial" "LRainReservoir$State;", Cond.fieldLink RX5 19 "RainReservoir" "saved" "[LRainReservoir$State;", Cond.classLink RX5 23 RX0, Cond.instantiable RX0 6, Cond.initialized RX0, Cond.fieldLink RX5 26 "RainReservoir" "text" "LRainReservoir$RainText;", Cond.methodLink RX5 9 yX2_init, Cond.instanceMethod yX2_init, Cond.code yX2_init cX2_init 2 none, Cond.methodLink RX2 3 objectInit, Cond.fieldLink RX2 9 "RainReservoir$State" "capacity" "I", Cond.fieldLink RX2 15 "RainReservoir$State" "dryLimit" "I", Cond.classLink RX2 18 RX1, Cond.fieldLink RX2 20 "RainReservoir$State" "roofs" "[LRainReservoir$Roof;", Cond.instantiable RX1 6, Cond.initialized RX1, Cond.classLink RX2 25 RX4]
def wsX5_init_r2 : List Cond := [Cond.instantiable RX4 3, Cond.initialized RX4, Cond.fieldLink RX2 28 "RainReservoir$State" "users" "LRainReservoir$Users;", Cond.arrayClass .int, Cond.fieldLink RX2 32 "RainReservoir$State" "rains" "[I", Cond.fieldLink RX2 36 "RainReservoir$State" "accounts" "[I", Cond.instanceMethod yX1_init, Cond.code yX1_init cX1_init 1 none, Cond.methodLink RX1 1 objectInit, Cond.methodLink RX2 27 yX4_init, Cond.instanceMethod yX4_init, Cond.code yX4_init cX4_init 2 none, Cond.methodLink RX4 3 objectInit, Cond.classLink RX4 9 RX3, Cond.fieldLink RX4 11 "RainReservoir$Users" "rows" "[LRainReservoir$User;", Cond.instantiable RX3 4, Cond.initialized RX3, Cond.fieldLink RX4 18 "RainReservoir$Users" "order" "[I", Cond.instanceMethod yX3_init, Cond.code yX3_init cX3_init 1 none, Cond.methodLink RX3 3 objectInit, Cond.methodLink RX5 25 yX0_init, Cond.instanceMethod yX0_init, Cond.code yX0_init cX0_init 1 none]
def wsX5_init_r3 : List Cond := [Cond.methodLink RX0 3 objectInit, Cond.arrayClass .byte, Cond.fieldLink RX0 9 "RainReservoir$RainText" "bytes" "[B", Cond.fieldLink RX0 15 "RainReservoir$RainText" "found" "[I"]
def wsX5_init : List Cond := .code yX5_init cX5_init 2 none :: ((wsX5_init_r1 ++ (wsX5_init_r2 ++ wsX5_init_r3)) ++ wsX20 ++ wsX50 ++ wsX00 ++ wsX10 ++ wsX40 ++ wsX30)
def wsX5_checkRange : List Cond := .code yX5_checkRange cX5_checkRange 3 none :: ([.classLink RX5 224 "java/lang/IllegalArgumentException", .initialized "java/lang/IllegalArgumentException"] ++ (vx_atS RX5 228 "java/lang/IllegalArgumentException" ["java/lang/RuntimeException", "java/lang/Exception"]).filter goodWord)
def wsX5_save_r1 : List Cond := [Cond.fieldLink RX5 207 "RainReservoir" "savedCount" "I", Cond.fieldLink RX5 19 "RainReservoir" "saved" "[LRainReservoir$State;", Cond.fieldLink RX5 10 "RainReservoir" "now" "LRainReservoir$State;", Cond.methodLink RX5 212 yX2_copyFrom, Cond.instanceMethod yX2_copyFrom, Cond.selects RX2 yX2_copyFrom yX2_copyFrom, Cond.initialized RX2, Cond.code yX2_copyFrom cX2_copyFrom 3 none, Cond.fieldLink RX2 9 "RainReservoir$State" "capacity" "I", Cond.fieldLink RX2 39 "RainReservoir$State" "floor" "I", Cond.fieldLink RX2 42 "RainReservoir$State" "topUp" "I", Cond.fieldLink RX2 45 "RainReservoir$State" "evaporation" "I", Cond.fieldLink RX2 15 "RainReservoir$State" "dryLimit" "I", Cond.fieldLink RX2 48 "RainReservoir$State" "rule" "I", Cond.fieldLink RX2 51 "RainReservoir$State" "roofCount" "I", Cond.fieldLink RX2 20 "RainReservoir$State" "roofs" "[LRainReservoir$Roof;", Cond.fieldLink RX2 28 "RainReservoir$State" "users" "LRainReservoir$Users;", Cond.fieldLink RX2 61 "RainReservoir$State" "rainCount" "I", Cond.fieldLink RX2 32 "RainReservoir$State" "rains" "[I", Cond.methodLink RX2 64 arraycopyName, Cond.native arraycopyName, Cond.static arraycopyName, Cond.initialized "java/lang/System", Cond.fieldLink RX2 70 "RainReservoir$State" "doneCount" "I"]
def wsX5_save_r2 : List Cond := [Cond.fieldLink RX2 36 "RainReservoir$State" "accounts" "[I", Cond.fieldLink RX2 73 "RainReservoir$State" "level" "I", Cond.fieldLink RX2 76 "RainReservoir$State" "dryDays" "I", Cond.fieldLink RX2 79 "RainReservoir$State" "looseOverflow" "J", Cond.methodLink RX2 54 yX1_copyFrom, Cond.instanceMethod yX1_copyFrom, Cond.selects RX1 yX1_copyFrom yX1_copyFrom, Cond.initialized RX1, Cond.code yX1_copyFrom cX1_copyFrom 2 none, Cond.fieldLink RX1 7 "RainReservoir$Roof" "area" "I", Cond.fieldLink RX1 13 "RainReservoir$Roof" "yieldPercent" "I", Cond.fieldLink RX1 16 "RainReservoir$Roof" "flush" "I", Cond.fieldLink RX1 19 "RainReservoir$Roof" "gutter" "I", Cond.fieldLink RX1 29 "RainReservoir$Roof" "water" "I", Cond.fieldLink RX1 32 "RainReservoir$Roof" "spilledInAll" "I", Cond.methodLink RX1 25 yX1_set, Cond.instanceMethod yX1_set, Cond.selects RX1 yX1_set yX1_set, Cond.code yX1_set cX1_set 5 none, Cond.methodLink RX1 22 yX1_clearAmounts, Cond.instanceMethod yX1_clearAmounts, Cond.selects RX1 yX1_clearAmounts yX1_clearAmounts, Cond.code yX1_clearAmounts cX1_clearAmounts 1 none, Cond.methodLink RX2 58 yX4_copyFrom]
def wsX5_save_r3 : List Cond := [Cond.instanceMethod yX4_copyFrom, Cond.selects RX4 yX4_copyFrom yX4_copyFrom, Cond.initialized RX4, Cond.code yX4_copyFrom cX4_copyFrom 3 none, Cond.fieldLink RX4 22 "RainReservoir$Users" "count" "I", Cond.fieldLink RX4 11 "RainReservoir$Users" "rows" "[LRainReservoir$User;", Cond.methodLink RX4 26 yX3_copyFrom, Cond.instanceMethod yX3_copyFrom, Cond.selects RX3 yX3_copyFrom yX3_copyFrom, Cond.initialized RX3, Cond.code yX3_copyFrom cX3_copyFrom 2 none, Cond.fieldLink RX3 9 "RainReservoir$User" "demand" "I", Cond.fieldLink RX3 15 "RainReservoir$User" "weight" "I", Cond.fieldLink RX3 25 "RainReservoir$User" "gotLatest" "I", Cond.fieldLink RX3 28 "RainReservoir$User" "gotInAll" "I", Cond.methodLink RX3 21 yX3_set, Cond.instanceMethod yX3_set, Cond.selects RX3 yX3_set yX3_set, Cond.code yX3_set cX3_set 3 none, Cond.methodLink RX3 18 yX3_clearAmounts, Cond.instanceMethod yX3_clearAmounts, Cond.selects RX3 yX3_clearAmounts yX3_clearAmounts, Cond.code yX3_clearAmounts cX3_clearAmounts 1 none]
def wsX5_save : List Cond := .code yX5_save cX5_save 3 none :: ((wsX5_save_r1 ++ (wsX5_save_r2 ++ wsX5_save_r3)) ++ wsX50 ++ wsX20 ++ wsX10 ++ wsX40 ++ wsX30)
def wsX5_addRoof_r1 : List Cond := [Cond.classLink RX5 39 "java/lang/IllegalStateException", Cond.initialized "java/lang/IllegalStateException", Cond.constant RX5 34 (50000), Cond.fieldLink RX5 10 "RainReservoir" "now" "LRainReservoir$State;", Cond.fieldLink RX5 35 "RainReservoir$State" "roofCount" "I", Cond.fieldLink RX5 49 "RainReservoir$State" "roofs" "[LRainReservoir$Roof;", Cond.methodLink RX5 30 yX5_checkRange, Cond.static yX5_checkRange, Cond.initialized RX5, Cond.code yX5_checkRange cX5_checkRange 3 none, Cond.classLink RX5 224 "java/lang/IllegalArgumentException", Cond.initialized "java/lang/IllegalArgumentException", Cond.methodLink RX5 46 yX5_save, Cond.instanceMethod yX5_save, Cond.selects RX5 yX5_save yX5_save, Cond.code yX5_save cX5_save 3 none, Cond.fieldLink RX5 207 "RainReservoir" "savedCount" "I", Cond.fieldLink RX5 19 "RainReservoir" "saved" "[LRainReservoir$State;", Cond.methodLink RX5 212 yX2_copyFrom, Cond.instanceMethod yX2_copyFrom, Cond.selects RX2 yX2_copyFrom yX2_copyFrom, Cond.initialized RX2, Cond.code yX2_copyFrom cX2_copyFrom 3 none, Cond.fieldLink RX2 9 "RainReservoir$State" "capacity" "I"]
def wsX5_addRoof_r2 : List Cond := [Cond.fieldLink RX2 39 "RainReservoir$State" "floor" "I", Cond.fieldLink RX2 42 "RainReservoir$State" "topUp" "I", Cond.fieldLink RX2 45 "RainReservoir$State" "evaporation" "I", Cond.fieldLink RX2 15 "RainReservoir$State" "dryLimit" "I", Cond.fieldLink RX2 48 "RainReservoir$State" "rule" "I", Cond.fieldLink RX2 51 "RainReservoir$State" "roofCount" "I", Cond.fieldLink RX2 20 "RainReservoir$State" "roofs" "[LRainReservoir$Roof;", Cond.fieldLink RX2 28 "RainReservoir$State" "users" "LRainReservoir$Users;", Cond.fieldLink RX2 61 "RainReservoir$State" "rainCount" "I", Cond.fieldLink RX2 32 "RainReservoir$State" "rains" "[I", Cond.methodLink RX2 64 arraycopyName, Cond.native arraycopyName, Cond.static arraycopyName, Cond.initialized "java/lang/System", Cond.fieldLink RX2 70 "RainReservoir$State" "doneCount" "I", Cond.fieldLink RX2 36 "RainReservoir$State" "accounts" "[I", Cond.fieldLink RX2 73 "RainReservoir$State" "level" "I", Cond.fieldLink RX2 76 "RainReservoir$State" "dryDays" "I", Cond.fieldLink RX2 79 "RainReservoir$State" "looseOverflow" "J", Cond.methodLink RX2 54 yX1_copyFrom, Cond.instanceMethod yX1_copyFrom, Cond.selects RX1 yX1_copyFrom yX1_copyFrom, Cond.initialized RX1, Cond.code yX1_copyFrom cX1_copyFrom 2 none]
def wsX5_addRoof_r3 : List Cond := [Cond.fieldLink RX1 7 "RainReservoir$Roof" "area" "I", Cond.fieldLink RX1 13 "RainReservoir$Roof" "yieldPercent" "I", Cond.fieldLink RX1 16 "RainReservoir$Roof" "flush" "I", Cond.fieldLink RX1 19 "RainReservoir$Roof" "gutter" "I", Cond.fieldLink RX1 29 "RainReservoir$Roof" "water" "I", Cond.fieldLink RX1 32 "RainReservoir$Roof" "spilledInAll" "I", Cond.methodLink RX1 25 yX1_set, Cond.instanceMethod yX1_set, Cond.selects RX1 yX1_set yX1_set, Cond.code yX1_set cX1_set 5 none, Cond.methodLink RX1 22 yX1_clearAmounts, Cond.instanceMethod yX1_clearAmounts, Cond.selects RX1 yX1_clearAmounts yX1_clearAmounts, Cond.code yX1_clearAmounts cX1_clearAmounts 1 none, Cond.methodLink RX2 58 yX4_copyFrom, Cond.instanceMethod yX4_copyFrom, Cond.selects RX4 yX4_copyFrom yX4_copyFrom, Cond.initialized RX4, Cond.code yX4_copyFrom cX4_copyFrom 3 none, Cond.fieldLink RX4 22 "RainReservoir$Users" "count" "I", Cond.fieldLink RX4 11 "RainReservoir$Users" "rows" "[LRainReservoir$User;", Cond.methodLink RX4 26 yX3_copyFrom, Cond.instanceMethod yX3_copyFrom, Cond.selects RX3 yX3_copyFrom yX3_copyFrom]
def wsX5_addRoof_r4 : List Cond := [Cond.initialized RX3, Cond.code yX3_copyFrom cX3_copyFrom 2 none, Cond.fieldLink RX3 9 "RainReservoir$User" "demand" "I", Cond.fieldLink RX3 15 "RainReservoir$User" "weight" "I", Cond.fieldLink RX3 25 "RainReservoir$User" "gotLatest" "I", Cond.fieldLink RX3 28 "RainReservoir$User" "gotInAll" "I", Cond.methodLink RX3 21 yX3_set, Cond.instanceMethod yX3_set, Cond.selects RX3 yX3_set yX3_set, Cond.code yX3_set cX3_set 3 none, Cond.methodLink RX3 18 yX3_clearAmounts, Cond.instanceMethod yX3_clearAmounts, Cond.selects RX3 yX3_clearAmounts yX3_clearAmounts, Cond.code yX3_clearAmounts cX3_clearAmounts 1 none, Cond.methodLink RX5 53 yX1_set]
def wsX5_addRoof : List Cond := .code yX5_addRoof cX5_addRoof 5 (some .int) :: ((wsX5_addRoof_r1 ++ (wsX5_addRoof_r2 ++ (wsX5_addRoof_r3 ++ wsX5_addRoof_r4))) ++ wsX50 ++ wsX20 ++ wsX10 ++ wsX40 ++ wsX30 ++ (vx_atS RX5 43 "java/lang/IllegalStateException" ["java/lang/RuntimeException", "java/lang/Exception"]).filter goodWord ++ (vx_atS RX5 228 "java/lang/IllegalArgumentException" ["java/lang/RuntimeException", "java/lang/Exception"]).filter goodWord)
def wsX5_addUser_r1 : List Cond := [Cond.classLink RX5 39 "java/lang/IllegalStateException", Cond.initialized "java/lang/IllegalStateException", Cond.fieldLink RX5 10 "RainReservoir" "now" "LRainReservoir$State;", Cond.fieldLink RX5 59 "RainReservoir$State" "users" "LRainReservoir$Users;", Cond.fieldLink RX5 63 "RainReservoir$Users" "count" "I", Cond.fieldLink RX5 70 "RainReservoir$Users" "rows" "[LRainReservoir$User;", Cond.methodLink RX5 30 yX5_checkRange, Cond.static yX5_checkRange, Cond.initialized RX5, Cond.code yX5_checkRange cX5_checkRange 3 none, Cond.classLink RX5 224 "java/lang/IllegalArgumentException", Cond.initialized "java/lang/IllegalArgumentException", Cond.methodLink RX5 46 yX5_save, Cond.instanceMethod yX5_save, Cond.selects RX5 yX5_save yX5_save, Cond.code yX5_save cX5_save 3 none, Cond.fieldLink RX5 207 "RainReservoir" "savedCount" "I", Cond.fieldLink RX5 19 "RainReservoir" "saved" "[LRainReservoir$State;", Cond.methodLink RX5 212 yX2_copyFrom, Cond.instanceMethod yX2_copyFrom, Cond.selects RX2 yX2_copyFrom yX2_copyFrom, Cond.initialized RX2, Cond.code yX2_copyFrom cX2_copyFrom 3 none, Cond.fieldLink RX2 9 "RainReservoir$State" "capacity" "I"]
def wsX5_addUser_r2 : List Cond := [Cond.fieldLink RX2 39 "RainReservoir$State" "floor" "I", Cond.fieldLink RX2 42 "RainReservoir$State" "topUp" "I", Cond.fieldLink RX2 45 "RainReservoir$State" "evaporation" "I", Cond.fieldLink RX2 15 "RainReservoir$State" "dryLimit" "I", Cond.fieldLink RX2 48 "RainReservoir$State" "rule" "I", Cond.fieldLink RX2 51 "RainReservoir$State" "roofCount" "I", Cond.fieldLink RX2 20 "RainReservoir$State" "roofs" "[LRainReservoir$Roof;", Cond.fieldLink RX2 28 "RainReservoir$State" "users" "LRainReservoir$Users;", Cond.fieldLink RX2 61 "RainReservoir$State" "rainCount" "I", Cond.fieldLink RX2 32 "RainReservoir$State" "rains" "[I", Cond.methodLink RX2 64 arraycopyName, Cond.native arraycopyName, Cond.static arraycopyName, Cond.initialized "java/lang/System", Cond.fieldLink RX2 70 "RainReservoir$State" "doneCount" "I", Cond.fieldLink RX2 36 "RainReservoir$State" "accounts" "[I", Cond.fieldLink RX2 73 "RainReservoir$State" "level" "I", Cond.fieldLink RX2 76 "RainReservoir$State" "dryDays" "I", Cond.fieldLink RX2 79 "RainReservoir$State" "looseOverflow" "J", Cond.methodLink RX2 54 yX1_copyFrom, Cond.instanceMethod yX1_copyFrom, Cond.selects RX1 yX1_copyFrom yX1_copyFrom, Cond.initialized RX1, Cond.code yX1_copyFrom cX1_copyFrom 2 none]
def wsX5_addUser_r3 : List Cond := [Cond.fieldLink RX1 7 "RainReservoir$Roof" "area" "I", Cond.fieldLink RX1 13 "RainReservoir$Roof" "yieldPercent" "I", Cond.fieldLink RX1 16 "RainReservoir$Roof" "flush" "I", Cond.fieldLink RX1 19 "RainReservoir$Roof" "gutter" "I", Cond.fieldLink RX1 29 "RainReservoir$Roof" "water" "I", Cond.fieldLink RX1 32 "RainReservoir$Roof" "spilledInAll" "I", Cond.methodLink RX1 25 yX1_set, Cond.instanceMethod yX1_set, Cond.selects RX1 yX1_set yX1_set, Cond.code yX1_set cX1_set 5 none, Cond.methodLink RX1 22 yX1_clearAmounts, Cond.instanceMethod yX1_clearAmounts, Cond.selects RX1 yX1_clearAmounts yX1_clearAmounts, Cond.code yX1_clearAmounts cX1_clearAmounts 1 none, Cond.methodLink RX2 58 yX4_copyFrom, Cond.instanceMethod yX4_copyFrom, Cond.selects RX4 yX4_copyFrom yX4_copyFrom, Cond.initialized RX4, Cond.code yX4_copyFrom cX4_copyFrom 3 none, Cond.fieldLink RX4 22 "RainReservoir$Users" "count" "I", Cond.fieldLink RX4 11 "RainReservoir$Users" "rows" "[LRainReservoir$User;", Cond.methodLink RX4 26 yX3_copyFrom, Cond.instanceMethod yX3_copyFrom, Cond.selects RX3 yX3_copyFrom yX3_copyFrom]
def wsX5_addUser_r4 : List Cond := [Cond.initialized RX3, Cond.code yX3_copyFrom cX3_copyFrom 2 none, Cond.fieldLink RX3 9 "RainReservoir$User" "demand" "I", Cond.fieldLink RX3 15 "RainReservoir$User" "weight" "I", Cond.fieldLink RX3 25 "RainReservoir$User" "gotLatest" "I", Cond.fieldLink RX3 28 "RainReservoir$User" "gotInAll" "I", Cond.methodLink RX3 21 yX3_set, Cond.instanceMethod yX3_set, Cond.selects RX3 yX3_set yX3_set, Cond.code yX3_set cX3_set 3 none, Cond.methodLink RX3 18 yX3_clearAmounts, Cond.instanceMethod yX3_clearAmounts, Cond.selects RX3 yX3_clearAmounts yX3_clearAmounts, Cond.code yX3_clearAmounts cX3_clearAmounts 1 none, Cond.methodLink RX5 74 yX3_set]
def wsX5_addUser : List Cond := .code yX5_addUser cX5_addUser 3 (some .int) :: ((wsX5_addUser_r1 ++ (wsX5_addUser_r2 ++ (wsX5_addUser_r3 ++ wsX5_addUser_r4))) ++ wsX50 ++ wsX20 ++ wsX40 ++ wsX10 ++ wsX30 ++ (vx_atS RX5 43 "java/lang/IllegalStateException" ["java/lang/RuntimeException", "java/lang/Exception"]).filter goodWord ++ (vx_atS RX5 228 "java/lang/IllegalArgumentException" ["java/lang/RuntimeException", "java/lang/Exception"]).filter goodWord)
def wsX5_setReservoir_r1 : List Cond := [Cond.constant RX5 85 (60000), Cond.fieldLink RX5 10 "RainReservoir" "now" "LRainReservoir$State;", Cond.fieldLink RX5 86 "RainReservoir$State" "capacity" "I", Cond.fieldLink RX5 89 "RainReservoir$State" "floor" "I", Cond.fieldLink RX5 92 "RainReservoir$State" "topUp" "I", Cond.fieldLink RX5 95 "RainReservoir$State" "looseOverflow" "J", Cond.methodLink RX5 30 yX5_checkRange, Cond.static yX5_checkRange, Cond.initialized RX5, Cond.code yX5_checkRange cX5_checkRange 3 none, Cond.classLink RX5 224 "java/lang/IllegalArgumentException", Cond.initialized "java/lang/IllegalArgumentException", Cond.methodLink RX5 46 yX5_save, Cond.instanceMethod yX5_save, Cond.selects RX5 yX5_save yX5_save, Cond.code yX5_save cX5_save 3 none, Cond.fieldLink RX5 207 "RainReservoir" "savedCount" "I", Cond.fieldLink RX5 19 "RainReservoir" "saved" "[LRainReservoir$State;", Cond.methodLink RX5 212 yX2_copyFrom, Cond.instanceMethod yX2_copyFrom, Cond.selects RX2 yX2_copyFrom yX2_copyFrom, Cond.initialized RX2, Cond.code yX2_copyFrom cX2_copyFrom 3 none, Cond.fieldLink RX2 9 "RainReservoir$State" "capacity" "I"]
def wsX5_setReservoir_r2 : List Cond := [Cond.fieldLink RX2 39 "RainReservoir$State" "floor" "I", Cond.fieldLink RX2 42 "RainReservoir$State" "topUp" "I", Cond.fieldLink RX2 45 "RainReservoir$State" "evaporation" "I", Cond.fieldLink RX2 15 "RainReservoir$State" "dryLimit" "I", Cond.fieldLink RX2 48 "RainReservoir$State" "rule" "I", Cond.fieldLink RX2 51 "RainReservoir$State" "roofCount" "I", Cond.fieldLink RX2 20 "RainReservoir$State" "roofs" "[LRainReservoir$Roof;", Cond.fieldLink RX2 28 "RainReservoir$State" "users" "LRainReservoir$Users;", Cond.fieldLink RX2 61 "RainReservoir$State" "rainCount" "I", Cond.fieldLink RX2 32 "RainReservoir$State" "rains" "[I", Cond.methodLink RX2 64 arraycopyName, Cond.native arraycopyName, Cond.static arraycopyName, Cond.initialized "java/lang/System", Cond.fieldLink RX2 70 "RainReservoir$State" "doneCount" "I", Cond.fieldLink RX2 36 "RainReservoir$State" "accounts" "[I", Cond.fieldLink RX2 73 "RainReservoir$State" "level" "I", Cond.fieldLink RX2 76 "RainReservoir$State" "dryDays" "I", Cond.fieldLink RX2 79 "RainReservoir$State" "looseOverflow" "J", Cond.methodLink RX2 54 yX1_copyFrom, Cond.instanceMethod yX1_copyFrom, Cond.selects RX1 yX1_copyFrom yX1_copyFrom, Cond.initialized RX1, Cond.code yX1_copyFrom cX1_copyFrom 2 none]
def wsX5_setReservoir_r3 : List Cond := [Cond.fieldLink RX1 7 "RainReservoir$Roof" "area" "I", Cond.fieldLink RX1 13 "RainReservoir$Roof" "yieldPercent" "I", Cond.fieldLink RX1 16 "RainReservoir$Roof" "flush" "I", Cond.fieldLink RX1 19 "RainReservoir$Roof" "gutter" "I", Cond.fieldLink RX1 29 "RainReservoir$Roof" "water" "I", Cond.fieldLink RX1 32 "RainReservoir$Roof" "spilledInAll" "I", Cond.methodLink RX1 25 yX1_set, Cond.instanceMethod yX1_set, Cond.selects RX1 yX1_set yX1_set, Cond.code yX1_set cX1_set 5 none, Cond.methodLink RX1 22 yX1_clearAmounts, Cond.instanceMethod yX1_clearAmounts, Cond.selects RX1 yX1_clearAmounts yX1_clearAmounts, Cond.code yX1_clearAmounts cX1_clearAmounts 1 none, Cond.methodLink RX2 58 yX4_copyFrom, Cond.instanceMethod yX4_copyFrom, Cond.selects RX4 yX4_copyFrom yX4_copyFrom, Cond.initialized RX4, Cond.code yX4_copyFrom cX4_copyFrom 3 none, Cond.fieldLink RX4 22 "RainReservoir$Users" "count" "I", Cond.fieldLink RX4 11 "RainReservoir$Users" "rows" "[LRainReservoir$User;", Cond.methodLink RX4 26 yX3_copyFrom, Cond.instanceMethod yX3_copyFrom, Cond.selects RX3 yX3_copyFrom yX3_copyFrom]
def wsX5_setReservoir_r4 : List Cond := [Cond.initialized RX3, Cond.code yX3_copyFrom cX3_copyFrom 2 none, Cond.fieldLink RX3 9 "RainReservoir$User" "demand" "I", Cond.fieldLink RX3 15 "RainReservoir$User" "weight" "I", Cond.fieldLink RX3 25 "RainReservoir$User" "gotLatest" "I", Cond.fieldLink RX3 28 "RainReservoir$User" "gotInAll" "I", Cond.methodLink RX3 21 yX3_set, Cond.instanceMethod yX3_set, Cond.selects RX3 yX3_set yX3_set, Cond.code yX3_set cX3_set 3 none, Cond.methodLink RX3 18 yX3_clearAmounts, Cond.instanceMethod yX3_clearAmounts, Cond.selects RX3 yX3_clearAmounts yX3_clearAmounts, Cond.code yX3_clearAmounts cX3_clearAmounts 1 none, Cond.methodLink RX5 99 yX2_dropAboveCapacity, Cond.instanceMethod yX2_dropAboveCapacity, Cond.selects RX2 yX2_dropAboveCapacity yX2_dropAboveCapacity, Cond.code yX2_dropAboveCapacity cX2_dropAboveCapacity 2 (some .int), Cond.methodLink RX2 94 Lib.Math.max.name, Cond.static Lib.Math.max.name, Cond.initialized "java/lang/Math", Cond.code Lib.Math.max.name Lib.Math.max.code 2 (some .int)]
def wsX5_setReservoir : List Cond := .code yX5_setReservoir cX5_setReservoir 5 (some .int) :: ((wsX5_setReservoir_r1 ++ (wsX5_setReservoir_r2 ++ (wsX5_setReservoir_r3 ++ wsX5_setReservoir_r4))) ++ wsX50 ++ wsX20 ++ wsX10 ++ wsX40 ++ wsX30 ++ (vx_atS RX5 228 "java/lang/IllegalArgumentException" ["java/lang/RuntimeException", "java/lang/Exception"]).filter goodWord)
def wsX5_setWays_r1 : List Cond := [Cond.fieldLink RX5 10 "RainReservoir" "now" "LRainReservoir$State;", Cond.fieldLink RX5 103 "RainReservoir$State" "rule" "I", Cond.fieldLink RX5 106 "RainReservoir$State" "evaporation" "I", Cond.fieldLink RX5 109 "RainReservoir$State" "dryLimit" "I", Cond.methodLink RX5 30 yX5_checkRange, Cond.static yX5_checkRange, Cond.initialized RX5, Cond.code yX5_checkRange cX5_checkRange 3 none, Cond.classLink RX5 224 "java/lang/IllegalArgumentException", Cond.initialized "java/lang/IllegalArgumentException", Cond.methodLink RX5 46 yX5_save, Cond.instanceMethod yX5_save, Cond.selects RX5 yX5_save yX5_save, Cond.code yX5_save cX5_save 3 none, Cond.fieldLink RX5 207 "RainReservoir" "savedCount" "I", Cond.fieldLink RX5 19 "RainReservoir" "saved" "[LRainReservoir$State;", Cond.methodLink RX5 212 yX2_copyFrom, Cond.instanceMethod yX2_copyFrom, Cond.selects RX2 yX2_copyFrom yX2_copyFrom, Cond.initialized RX2, Cond.code yX2_copyFrom cX2_copyFrom 3 none, Cond.fieldLink RX2 9 "RainReservoir$State" "capacity" "I", Cond.fieldLink RX2 39 "RainReservoir$State" "floor" "I", Cond.fieldLink RX2 42 "RainReservoir$State" "topUp" "I"]
def wsX5_setWays_r2 : List Cond := [Cond.fieldLink RX2 45 "RainReservoir$State" "evaporation" "I", Cond.fieldLink RX2 15 "RainReservoir$State" "dryLimit" "I", Cond.fieldLink RX2 48 "RainReservoir$State" "rule" "I", Cond.fieldLink RX2 51 "RainReservoir$State" "roofCount" "I", Cond.fieldLink RX2 20 "RainReservoir$State" "roofs" "[LRainReservoir$Roof;", Cond.fieldLink RX2 28 "RainReservoir$State" "users" "LRainReservoir$Users;", Cond.fieldLink RX2 61 "RainReservoir$State" "rainCount" "I", Cond.fieldLink RX2 32 "RainReservoir$State" "rains" "[I", Cond.methodLink RX2 64 arraycopyName, Cond.native arraycopyName, Cond.static arraycopyName, Cond.initialized "java/lang/System", Cond.fieldLink RX2 70 "RainReservoir$State" "doneCount" "I", Cond.fieldLink RX2 36 "RainReservoir$State" "accounts" "[I", Cond.fieldLink RX2 73 "RainReservoir$State" "level" "I", Cond.fieldLink RX2 76 "RainReservoir$State" "dryDays" "I", Cond.fieldLink RX2 79 "RainReservoir$State" "looseOverflow" "J", Cond.methodLink RX2 54 yX1_copyFrom, Cond.instanceMethod yX1_copyFrom, Cond.selects RX1 yX1_copyFrom yX1_copyFrom, Cond.initialized RX1, Cond.code yX1_copyFrom cX1_copyFrom 2 none, Cond.fieldLink RX1 7 "RainReservoir$Roof" "area" "I", Cond.fieldLink RX1 13 "RainReservoir$Roof" "yieldPercent" "I"]
def wsX5_setWays_r3 : List Cond := [Cond.fieldLink RX1 16 "RainReservoir$Roof" "flush" "I", Cond.fieldLink RX1 19 "RainReservoir$Roof" "gutter" "I", Cond.fieldLink RX1 29 "RainReservoir$Roof" "water" "I", Cond.fieldLink RX1 32 "RainReservoir$Roof" "spilledInAll" "I", Cond.methodLink RX1 25 yX1_set, Cond.instanceMethod yX1_set, Cond.selects RX1 yX1_set yX1_set, Cond.code yX1_set cX1_set 5 none, Cond.methodLink RX1 22 yX1_clearAmounts, Cond.instanceMethod yX1_clearAmounts, Cond.selects RX1 yX1_clearAmounts yX1_clearAmounts, Cond.code yX1_clearAmounts cX1_clearAmounts 1 none, Cond.methodLink RX2 58 yX4_copyFrom, Cond.instanceMethod yX4_copyFrom, Cond.selects RX4 yX4_copyFrom yX4_copyFrom, Cond.initialized RX4, Cond.code yX4_copyFrom cX4_copyFrom 3 none, Cond.fieldLink RX4 22 "RainReservoir$Users" "count" "I", Cond.fieldLink RX4 11 "RainReservoir$Users" "rows" "[LRainReservoir$User;", Cond.methodLink RX4 26 yX3_copyFrom, Cond.instanceMethod yX3_copyFrom, Cond.selects RX3 yX3_copyFrom yX3_copyFrom, Cond.initialized RX3, Cond.code yX3_copyFrom cX3_copyFrom 2 none]
def wsX5_setWays_r4 : List Cond := [Cond.fieldLink RX3 9 "RainReservoir$User" "demand" "I", Cond.fieldLink RX3 15 "RainReservoir$User" "weight" "I", Cond.fieldLink RX3 25 "RainReservoir$User" "gotLatest" "I", Cond.fieldLink RX3 28 "RainReservoir$User" "gotInAll" "I", Cond.methodLink RX3 21 yX3_set, Cond.instanceMethod yX3_set, Cond.selects RX3 yX3_set yX3_set, Cond.code yX3_set cX3_set 3 none, Cond.methodLink RX3 18 yX3_clearAmounts, Cond.instanceMethod yX3_clearAmounts, Cond.selects RX3 yX3_clearAmounts yX3_clearAmounts, Cond.code yX3_clearAmounts cX3_clearAmounts 1 none]
def wsX5_setWays : List Cond := .code yX5_setWays cX5_setWays 5 (some .int) :: ((wsX5_setWays_r1 ++ (wsX5_setWays_r2 ++ (wsX5_setWays_r3 ++ wsX5_setWays_r4))) ++ wsX50 ++ wsX20 ++ wsX10 ++ wsX40 ++ wsX30 ++ (vx_atS RX5 228 "java/lang/IllegalArgumentException" ["java/lang/RuntimeException", "java/lang/Exception"]).filter goodWord)
def wsX5_setting_r1 : List Cond := [Cond.fieldLink RX5 10 "RainReservoir" "now" "LRainReservoir$State;", Cond.methodLink RX5 30 yX5_checkRange, Cond.static yX5_checkRange, Cond.initialized RX5, Cond.code yX5_checkRange cX5_checkRange 3 none, Cond.classLink RX5 224 "java/lang/IllegalArgumentException", Cond.initialized "java/lang/IllegalArgumentException", Cond.methodLink RX5 112 yX2_settingValue, Cond.instanceMethod yX2_settingValue, Cond.selects RX2 yX2_settingValue yX2_settingValue, Cond.initialized RX2, Cond.code yX2_settingValue cX2_settingValue 2 (some .int), Cond.fieldLink RX2 9 "RainReservoir$State" "capacity" "I", Cond.fieldLink RX2 39 "RainReservoir$State" "floor" "I", Cond.fieldLink RX2 42 "RainReservoir$State" "topUp" "I", Cond.fieldLink RX2 45 "RainReservoir$State" "evaporation" "I", Cond.fieldLink RX2 15 "RainReservoir$State" "dryLimit" "I", Cond.fieldLink RX2 48 "RainReservoir$State" "rule" "I", Cond.fieldLink RX2 51 "RainReservoir$State" "roofCount" "I", Cond.fieldLink RX2 28 "RainReservoir$State" "users" "LRainReservoir$Users;", Cond.fieldLink RX2 87 "RainReservoir$Users" "count" "I", Cond.fieldLink RX2 61 "RainReservoir$State" "rainCount" "I", Cond.fieldLink RX2 70 "RainReservoir$State" "doneCount" "I", Cond.fieldLink RX2 73 "RainReservoir$State" "level" "I"]
def wsX5_setting_r2 : List Cond := [Cond.fieldLink RX2 76 "RainReservoir$State" "dryDays" "I"]
def wsX5_setting : List Cond := .code yX5_setting cX5_setting 2 (some .int) :: ((wsX5_setting_r1 ++ wsX5_setting_r2) ++ wsX50 ++ wsX20 ++ wsX40 ++ (vx_atS RX5 228 "java/lang/IllegalArgumentException" ["java/lang/RuntimeException", "java/lang/Exception"]).filter goodWord)
def wsX5_checkIndex : List Cond := .code yX5_checkIndex cX5_checkIndex 2 none :: ([.classLink RX5 229 "java/lang/IndexOutOfBoundsException", .initialized "java/lang/IndexOutOfBoundsException"] ++ (vx_atS RX5 233 "java/lang/IndexOutOfBoundsException" ["java/lang/RuntimeException", "java/lang/Exception"]).filter goodWord)
def wsX5_roof : List Cond := .code yX5_roof cX5_roof 3 (some .int) :: ([.fieldLink RX5 10 "RainReservoir" "now" "LRainReservoir$State;", .fieldLink RX5 35 "RainReservoir$State" "roofCount" "I", .fieldLink RX5 49 "RainReservoir$State" "roofs" "[LRainReservoir$Roof;", .methodLink RX5 79 yX5_checkIndex, .static yX5_checkIndex, .initialized RX5, .code yX5_checkIndex cX5_checkIndex 2 none, .classLink RX5 229 "java/lang/IndexOutOfBoundsException", .initialized "java/lang/IndexOutOfBoundsException", .methodLink RX5 30 yX5_checkRange, .static yX5_checkRange, .code yX5_checkRange cX5_checkRange 3 none, .classLink RX5 224 "java/lang/IllegalArgumentException", .initialized "java/lang/IllegalArgumentException", .methodLink RX5 116 yX1_value, .instanceMethod yX1_value, .selects RX1 yX1_value yX1_value, .initialized RX1, .code yX1_value cX1_value 2 (some .int), .fieldLink RX1 7 "RainReservoir$Roof" "area" "I", .fieldLink RX1 13 "RainReservoir$Roof" "yieldPercent" "I", .fieldLink RX1 16 "RainReservoir$Roof" "flush" "I", .fieldLink RX1 19 "RainReservoir$Roof" "gutter" "I", .fieldLink RX1 29 "RainReservoir$Roof" "water" "I"] ++ wsX50 ++ wsX20 ++ wsX10 ++ (vx_atS RX5 233 "java/lang/IndexOutOfBoundsException" ["java/lang/RuntimeException", "java/lang/Exception"]).filter goodWord ++ (vx_atS RX5 228 "java/lang/IllegalArgumentException" ["java/lang/RuntimeException", "java/lang/Exception"]).filter goodWord)
def wsX5_user : List Cond := .code yX5_user cX5_user 3 (some .int) :: ([.fieldLink RX5 10 "RainReservoir" "now" "LRainReservoir$State;", .fieldLink RX5 59 "RainReservoir$State" "users" "LRainReservoir$Users;", .fieldLink RX5 63 "RainReservoir$Users" "count" "I", .fieldLink RX5 70 "RainReservoir$Users" "rows" "[LRainReservoir$User;", .methodLink RX5 79 yX5_checkIndex, .static yX5_checkIndex, .initialized RX5, .code yX5_checkIndex cX5_checkIndex 2 none, .classLink RX5 229 "java/lang/IndexOutOfBoundsException", .initialized "java/lang/IndexOutOfBoundsException", .methodLink RX5 30 yX5_checkRange, .static yX5_checkRange, .code yX5_checkRange cX5_checkRange 3 none, .classLink RX5 224 "java/lang/IllegalArgumentException", .initialized "java/lang/IllegalArgumentException", .methodLink RX5 119 yX3_value, .instanceMethod yX3_value, .selects RX3 yX3_value yX3_value, .initialized RX3, .code yX3_value cX3_value 2 (some .int), .fieldLink RX3 9 "RainReservoir$User" "demand" "I", .fieldLink RX3 15 "RainReservoir$User" "weight" "I", .fieldLink RX3 25 "RainReservoir$User" "gotLatest" "I", .fieldLink RX3 28 "RainReservoir$User" "gotInAll" "I"] ++ wsX50 ++ wsX20 ++ wsX40 ++ wsX30 ++ (vx_atS RX5 233 "java/lang/IndexOutOfBoundsException" ["java/lang/RuntimeException", "java/lang/Exception"]).filter goodWord ++ (vx_atS RX5 228 "java/lang/IllegalArgumentException" ["java/lang/RuntimeException", "java/lang/Exception"]).filter goodWord)
def wsX5_checkRoomForDays : List Cond := .code yX5_checkRoomForDays cX5_checkRoomForDays 2 none :: ([.classLink RX5 39 "java/lang/IllegalStateException", .initialized "java/lang/IllegalStateException", .fieldLink RX5 10 "RainReservoir" "now" "LRainReservoir$State;", .fieldLink RX5 127 "RainReservoir$State" "rainCount" "I"] ++ wsX50 ++ wsX20 ++ (vx_atS RX5 43 "java/lang/IllegalStateException" ["java/lang/RuntimeException", "java/lang/Exception"]).filter goodWord)
def wsX5_nextRandom : List Cond := .code yX5_nextRandom cX5_nextRandom 2 (some .long) :: ([.constantLong RX5 236 (1103515245), .constantLong RX5 238 (12345), .constantLong RX5 240 (2147483648)])
def wsX5_addRandomRain_r1 : List Cond := [Cond.constant RX5 130 (999999), Cond.constantLong RX5 135 (65536), Cond.constantLong RX5 137 (100), Cond.fieldLink RX5 10 "RainReservoir" "now" "LRainReservoir$State;", Cond.fieldLink RX5 127 "RainReservoir$State" "rainCount" "I", Cond.methodLink RX5 30 yX5_checkRange, Cond.static yX5_checkRange, Cond.initialized RX5, Cond.code yX5_checkRange cX5_checkRange 3 none, Cond.classLink RX5 224 "java/lang/IllegalArgumentException", Cond.initialized "java/lang/IllegalArgumentException", Cond.methodLink RX5 120 yX5_checkRoomForDays, Cond.instanceMethod yX5_checkRoomForDays, Cond.selects RX5 yX5_checkRoomForDays yX5_checkRoomForDays, Cond.code yX5_checkRoomForDays cX5_checkRoomForDays 2 none, Cond.classLink RX5 39 "java/lang/IllegalStateException", Cond.initialized "java/lang/IllegalStateException", Cond.methodLink RX5 46 yX5_save, Cond.instanceMethod yX5_save, Cond.selects RX5 yX5_save yX5_save, Cond.code yX5_save cX5_save 3 none, Cond.fieldLink RX5 207 "RainReservoir" "savedCount" "I", Cond.fieldLink RX5 19 "RainReservoir" "saved" "[LRainReservoir$State;", Cond.methodLink RX5 212 yX2_copyFrom]
def wsX5_addRandomRain_r2 : List Cond := [Cond.instanceMethod yX2_copyFrom, Cond.selects RX2 yX2_copyFrom yX2_copyFrom, Cond.initialized RX2, Cond.code yX2_copyFrom cX2_copyFrom 3 none, Cond.fieldLink RX2 9 "RainReservoir$State" "capacity" "I", Cond.fieldLink RX2 39 "RainReservoir$State" "floor" "I", Cond.fieldLink RX2 42 "RainReservoir$State" "topUp" "I", Cond.fieldLink RX2 45 "RainReservoir$State" "evaporation" "I", Cond.fieldLink RX2 15 "RainReservoir$State" "dryLimit" "I", Cond.fieldLink RX2 48 "RainReservoir$State" "rule" "I", Cond.fieldLink RX2 51 "RainReservoir$State" "roofCount" "I", Cond.fieldLink RX2 20 "RainReservoir$State" "roofs" "[LRainReservoir$Roof;", Cond.fieldLink RX2 28 "RainReservoir$State" "users" "LRainReservoir$Users;", Cond.fieldLink RX2 61 "RainReservoir$State" "rainCount" "I", Cond.fieldLink RX2 32 "RainReservoir$State" "rains" "[I", Cond.methodLink RX2 64 arraycopyName, Cond.native arraycopyName, Cond.static arraycopyName, Cond.initialized "java/lang/System", Cond.fieldLink RX2 70 "RainReservoir$State" "doneCount" "I", Cond.fieldLink RX2 36 "RainReservoir$State" "accounts" "[I", Cond.fieldLink RX2 73 "RainReservoir$State" "level" "I", Cond.fieldLink RX2 76 "RainReservoir$State" "dryDays" "I", Cond.fieldLink RX2 79 "RainReservoir$State" "looseOverflow" "J"]
def wsX5_addRandomRain_r3 : List Cond := [Cond.methodLink RX2 54 yX1_copyFrom, Cond.instanceMethod yX1_copyFrom, Cond.selects RX1 yX1_copyFrom yX1_copyFrom, Cond.initialized RX1, Cond.code yX1_copyFrom cX1_copyFrom 2 none, Cond.fieldLink RX1 7 "RainReservoir$Roof" "area" "I", Cond.fieldLink RX1 13 "RainReservoir$Roof" "yieldPercent" "I", Cond.fieldLink RX1 16 "RainReservoir$Roof" "flush" "I", Cond.fieldLink RX1 19 "RainReservoir$Roof" "gutter" "I", Cond.fieldLink RX1 29 "RainReservoir$Roof" "water" "I", Cond.fieldLink RX1 32 "RainReservoir$Roof" "spilledInAll" "I", Cond.methodLink RX1 25 yX1_set, Cond.instanceMethod yX1_set, Cond.selects RX1 yX1_set yX1_set, Cond.code yX1_set cX1_set 5 none, Cond.methodLink RX1 22 yX1_clearAmounts, Cond.instanceMethod yX1_clearAmounts, Cond.selects RX1 yX1_clearAmounts yX1_clearAmounts, Cond.code yX1_clearAmounts cX1_clearAmounts 1 none, Cond.methodLink RX2 58 yX4_copyFrom, Cond.instanceMethod yX4_copyFrom, Cond.selects RX4 yX4_copyFrom yX4_copyFrom, Cond.initialized RX4, Cond.code yX4_copyFrom cX4_copyFrom 3 none]
def wsX5_addRandomRain_r4 : List Cond := [Cond.fieldLink RX4 22 "RainReservoir$Users" "count" "I", Cond.fieldLink RX4 11 "RainReservoir$Users" "rows" "[LRainReservoir$User;", Cond.methodLink RX4 26 yX3_copyFrom, Cond.instanceMethod yX3_copyFrom, Cond.selects RX3 yX3_copyFrom yX3_copyFrom, Cond.initialized RX3, Cond.code yX3_copyFrom cX3_copyFrom 2 none, Cond.fieldLink RX3 9 "RainReservoir$User" "demand" "I", Cond.fieldLink RX3 15 "RainReservoir$User" "weight" "I", Cond.fieldLink RX3 25 "RainReservoir$User" "gotLatest" "I", Cond.fieldLink RX3 28 "RainReservoir$User" "gotInAll" "I", Cond.methodLink RX3 21 yX3_set, Cond.instanceMethod yX3_set, Cond.selects RX3 yX3_set yX3_set, Cond.code yX3_set cX3_set 3 none, Cond.methodLink RX3 18 yX3_clearAmounts, Cond.instanceMethod yX3_clearAmounts, Cond.selects RX3 yX3_clearAmounts yX3_clearAmounts, Cond.code yX3_clearAmounts cX3_clearAmounts 1 none, Cond.methodLink RX5 131 yX5_nextRandom, Cond.static yX5_nextRandom, Cond.code yX5_nextRandom cX5_nextRandom 2 (some .long), Cond.constantLong RX5 236 (1103515245), Cond.constantLong RX5 238 (12345)]
def wsX5_addRandomRain_r5 : List Cond := [Cond.constantLong RX5 240 (2147483648), Cond.methodLink RX5 124 yX2_putRain, Cond.instanceMethod yX2_putRain, Cond.selects RX2 yX2_putRain yX2_putRain, Cond.code yX2_putRain cX2_putRain 2 none]
def wsX5_addRandomRain : List Cond := .code yX5_addRandomRain cX5_addRandomRain 9 (some .int) :: ((wsX5_addRandomRain_r1 ++ (wsX5_addRandomRain_r2 ++ (wsX5_addRandomRain_r3 ++ (wsX5_addRandomRain_r4 ++ wsX5_addRandomRain_r5)))) ++ wsX50 ++ wsX20 ++ wsX10 ++ wsX40 ++ wsX30 ++ (vx_atS RX5 228 "java/lang/IllegalArgumentException" ["java/lang/RuntimeException", "java/lang/Exception"]).filter goodWord ++ (vx_atS RX5 43 "java/lang/IllegalStateException" ["java/lang/RuntimeException", "java/lang/Exception"]).filter goodWord)
def wsX5_rain : List Cond := .code yX5_rain cX5_rain 2 (some .int) :: ([.fieldLink RX5 10 "RainReservoir" "now" "LRainReservoir$State;", .fieldLink RX5 127 "RainReservoir$State" "rainCount" "I", .fieldLink RX5 139 "RainReservoir$State" "rains" "[I", .methodLink RX5 79 yX5_checkIndex, .static yX5_checkIndex, .initialized RX5, .code yX5_checkIndex cX5_checkIndex 2 none, .classLink RX5 229 "java/lang/IndexOutOfBoundsException", .initialized "java/lang/IndexOutOfBoundsException"] ++ wsX50 ++ wsX20 ++ (vx_atS RX5 233 "java/lang/IndexOutOfBoundsException" ["java/lang/RuntimeException", "java/lang/Exception"]).filter goodWord)
def wsX5_run_r1 : List Cond := [Cond.classLink RX5 39 "java/lang/IllegalStateException", Cond.initialized "java/lang/IllegalStateException", Cond.fieldLink RX5 10 "RainReservoir" "now" "LRainReservoir$State;", Cond.fieldLink RX5 127 "RainReservoir$State" "rainCount" "I", Cond.fieldLink RX5 143 "RainReservoir$State" "doneCount" "I", Cond.methodLink RX5 30 yX5_checkRange, Cond.static yX5_checkRange, Cond.initialized RX5, Cond.code yX5_checkRange cX5_checkRange 3 none, Cond.classLink RX5 224 "java/lang/IllegalArgumentException", Cond.initialized "java/lang/IllegalArgumentException", Cond.methodLink RX5 46 yX5_save, Cond.instanceMethod yX5_save, Cond.selects RX5 yX5_save yX5_save, Cond.code yX5_save cX5_save 3 none, Cond.fieldLink RX5 207 "RainReservoir" "savedCount" "I", Cond.fieldLink RX5 19 "RainReservoir" "saved" "[LRainReservoir$State;", Cond.methodLink RX5 212 yX2_copyFrom, Cond.instanceMethod yX2_copyFrom, Cond.selects RX2 yX2_copyFrom yX2_copyFrom, Cond.initialized RX2, Cond.code yX2_copyFrom cX2_copyFrom 3 none, Cond.fieldLink RX2 9 "RainReservoir$State" "capacity" "I", Cond.fieldLink RX2 39 "RainReservoir$State" "floor" "I"]
def wsX5_run_r2 : List Cond := [Cond.fieldLink RX2 42 "RainReservoir$State" "topUp" "I", Cond.fieldLink RX2 45 "RainReservoir$State" "evaporation" "I", Cond.fieldLink RX2 15 "RainReservoir$State" "dryLimit" "I", Cond.fieldLink RX2 48 "RainReservoir$State" "rule" "I", Cond.fieldLink RX2 51 "RainReservoir$State" "roofCount" "I", Cond.fieldLink RX2 20 "RainReservoir$State" "roofs" "[LRainReservoir$Roof;", Cond.fieldLink RX2 28 "RainReservoir$State" "users" "LRainReservoir$Users;", Cond.fieldLink RX2 61 "RainReservoir$State" "rainCount" "I", Cond.fieldLink RX2 32 "RainReservoir$State" "rains" "[I", Cond.methodLink RX2 64 arraycopyName, Cond.native arraycopyName, Cond.static arraycopyName, Cond.initialized "java/lang/System", Cond.fieldLink RX2 70 "RainReservoir$State" "doneCount" "I", Cond.fieldLink RX2 36 "RainReservoir$State" "accounts" "[I", Cond.fieldLink RX2 73 "RainReservoir$State" "level" "I", Cond.fieldLink RX2 76 "RainReservoir$State" "dryDays" "I", Cond.fieldLink RX2 79 "RainReservoir$State" "looseOverflow" "J", Cond.methodLink RX2 54 yX1_copyFrom, Cond.instanceMethod yX1_copyFrom, Cond.selects RX1 yX1_copyFrom yX1_copyFrom, Cond.initialized RX1, Cond.code yX1_copyFrom cX1_copyFrom 2 none, Cond.fieldLink RX1 7 "RainReservoir$Roof" "area" "I"]
def wsX5_run_r3 : List Cond := [Cond.fieldLink RX1 13 "RainReservoir$Roof" "yieldPercent" "I", Cond.fieldLink RX1 16 "RainReservoir$Roof" "flush" "I", Cond.fieldLink RX1 19 "RainReservoir$Roof" "gutter" "I", Cond.fieldLink RX1 29 "RainReservoir$Roof" "water" "I", Cond.fieldLink RX1 32 "RainReservoir$Roof" "spilledInAll" "I", Cond.methodLink RX1 25 yX1_set, Cond.instanceMethod yX1_set, Cond.selects RX1 yX1_set yX1_set, Cond.code yX1_set cX1_set 5 none, Cond.methodLink RX1 22 yX1_clearAmounts, Cond.instanceMethod yX1_clearAmounts, Cond.selects RX1 yX1_clearAmounts yX1_clearAmounts, Cond.code yX1_clearAmounts cX1_clearAmounts 1 none, Cond.methodLink RX2 58 yX4_copyFrom, Cond.instanceMethod yX4_copyFrom, Cond.selects RX4 yX4_copyFrom yX4_copyFrom, Cond.initialized RX4, Cond.code yX4_copyFrom cX4_copyFrom 3 none, Cond.fieldLink RX4 22 "RainReservoir$Users" "count" "I", Cond.fieldLink RX4 11 "RainReservoir$Users" "rows" "[LRainReservoir$User;", Cond.methodLink RX4 26 yX3_copyFrom, Cond.instanceMethod yX3_copyFrom, Cond.selects RX3 yX3_copyFrom yX3_copyFrom, Cond.initialized RX3]
def wsX5_run_r4 : List Cond := [Cond.code yX3_copyFrom cX3_copyFrom 2 none, Cond.fieldLink RX3 9 "RainReservoir$User" "demand" "I", Cond.fieldLink RX3 15 "RainReservoir$User" "weight" "I", Cond.fieldLink RX3 25 "RainReservoir$User" "gotLatest" "I", Cond.fieldLink RX3 28 "RainReservoir$User" "gotInAll" "I", Cond.methodLink RX3 21 yX3_set, Cond.instanceMethod yX3_set, Cond.selects RX3 yX3_set yX3_set, Cond.code yX3_set cX3_set 3 none, Cond.methodLink RX3 18 yX3_clearAmounts, Cond.instanceMethod yX3_clearAmounts, Cond.selects RX3 yX3_clearAmounts yX3_clearAmounts, Cond.code yX3_clearAmounts cX3_clearAmounts 1 none, Cond.methodLink RX5 148 yX2_collect, Cond.instanceMethod yX2_collect, Cond.selects RX2 yX2_collect yX2_collect, Cond.code yX2_collect cX2_collect 11 none, Cond.methodLink RX2 99 yX2_drainWhenDry, Cond.instanceMethod yX2_drainWhenDry, Cond.selects RX2 yX2_drainWhenDry yX2_drainWhenDry, Cond.code yX2_drainWhenDry cX2_drainWhenDry 4 (some .int), Cond.methodLink RX2 134 yX1_drain, Cond.instanceMethod yX1_drain, Cond.selects RX1 yX1_drain yX1_drain]
def wsX5_run_r5 : List Cond := [Cond.code yX1_drain cX1_drain 2 (some .int), Cond.methodLink RX2 103 yX1_caught, Cond.instanceMethod yX1_caught, Cond.selects RX1 yX1_caught yX1_caught, Cond.code yX1_caught cX1_caught 2 (some .int), Cond.methodLink RX2 106 yX1_divert, Cond.instanceMethod yX1_divert, Cond.selects RX1 yX1_divert yX1_divert, Cond.code yX1_divert cX1_divert 3 (some .int), Cond.methodLink RX1 35 Lib.Math.min.name, Cond.static Lib.Math.min.name, Cond.initialized "java/lang/Math", Cond.code Lib.Math.min.name Lib.Math.min.code 2 (some .int), Cond.methodLink RX2 109 yX1_spill, Cond.instanceMethod yX1_spill, Cond.selects RX1 yX1_spill yX1_spill, Cond.code yX1_spill cX1_spill 3 (some .int), Cond.methodLink RX1 41 Lib.Math.max.name, Cond.static Lib.Math.max.name, Cond.code Lib.Math.max.name Lib.Math.max.code 2 (some .int), Cond.methodLink RX2 112 yX2_put, Cond.instanceMethod yX2_put, Cond.selects RX2 yX2_put yX2_put, Cond.code yX2_put cX2_put 4 none]
def wsX5_run_r6 : List Cond := [Cond.methodLink RX5 151 yX2_serve, Cond.instanceMethod yX2_serve, Cond.selects RX2 yX2_serve yX2_serve, Cond.code yX2_serve cX2_serve 5 none, Cond.methodLink RX2 94 Lib.Math.max.name, Cond.methodLink RX2 90 yX2_account, Cond.instanceMethod yX2_account, Cond.selects RX2 yX2_account yX2_account, Cond.code yX2_account cX2_account 3 (some .int), Cond.methodLink RX2 116 yX2_dropAboveCapacity, Cond.instanceMethod yX2_dropAboveCapacity, Cond.selects RX2 yX2_dropAboveCapacity yX2_dropAboveCapacity, Cond.code yX2_dropAboveCapacity cX2_dropAboveCapacity 2 (some .int), Cond.methodLink RX2 120 yX4_handOut, Cond.instanceMethod yX4_handOut, Cond.selects RX4 yX4_handOut yX4_handOut, Cond.code yX4_handOut cX4_handOut 6 (some .int), Cond.fieldLink RX4 45 "RainReservoir$User" "gotLatest" "I", Cond.fieldLink RX4 36 "RainReservoir$User" "gotInAll" "I", Cond.methodLink RX4 48 yX4_demandInAll, Cond.instanceMethod yX4_demandInAll, Cond.selects RX4 yX4_demandInAll yX4_demandInAll, Cond.code yX4_demandInAll cX4_demandInAll 3 (some .int), Cond.fieldLink RX4 33 "RainReservoir$User" "demand" "I"]
def wsX5_run_r7 : List Cond := [Cond.methodLink RX4 52 yX4_orderByNumber, Cond.instanceMethod yX4_orderByNumber, Cond.selects RX4 yX4_orderByNumber yX4_orderByNumber, Cond.code yX4_orderByNumber cX4_orderByNumber 2 none, Cond.fieldLink RX4 18 "RainReservoir$Users" "order" "[I", Cond.methodLink RX4 55 yX4_serveOrder, Cond.instanceMethod yX4_serveOrder, Cond.selects RX4 yX4_serveOrder yX4_serveOrder, Cond.code yX4_serveOrder cX4_serveOrder 4 none, Cond.methodLink RX4 73 yX3_give, Cond.instanceMethod yX3_give, Cond.selects RX3 yX3_give yX3_give, Cond.code yX3_give cX3_give 3 (some .int), Cond.methodLink RX3 35 Lib.Math.min.name, Cond.methodLink RX3 31 yX3_lack, Cond.instanceMethod yX3_lack, Cond.selects RX3 yX3_lack yX3_lack, Cond.code yX3_lack cX3_lack 1 (some .int), Cond.methodLink RX4 59 yX4_share, Cond.instanceMethod yX4_share, Cond.selects RX4 yX4_share yX4_share, Cond.code yX4_share cX4_share 4 none, Cond.methodLink RX4 63 yX4_shareByDemand, Cond.instanceMethod yX4_shareByDemand]
def wsX5_run_r8 : List Cond := [Cond.selects RX4 yX4_shareByDemand yX4_shareByDemand, Cond.code yX4_shareByDemand cX4_shareByDemand 7 none, Cond.methodLink RX4 67 yX4_shareInRounds, Cond.instanceMethod yX4_shareInRounds, Cond.selects RX4 yX4_shareInRounds yX4_shareInRounds, Cond.code yX4_shareInRounds cX4_shareInRounds 6 none, Cond.methodLink RX4 83 Lib.Math.min.name, Cond.methodLink RX4 77 yX4_fullRounds, Cond.instanceMethod yX4_fullRounds, Cond.selects RX4 yX4_fullRounds yX4_fullRounds, Cond.code yX4_fullRounds cX4_fullRounds 4 (some .int), Cond.methodLink RX4 86 yX3_lack, Cond.methodLink RX4 80 yX3_portion, Cond.instanceMethod yX3_portion, Cond.selects RX3 yX3_portion yX3_portion, Cond.code yX3_portion cX3_portion 1 (some .int), Cond.methodLink RX4 70 yX4_orderByDemand, Cond.instanceMethod yX4_orderByDemand, Cond.selects RX4 yX4_orderByDemand yX4_orderByDemand, Cond.code yX4_orderByDemand cX4_orderByDemand 3 none, Cond.methodLink RX2 123 yX4_demandInAll, Cond.methodLink RX5 154 yX2_isShort, Cond.instanceMethod yX2_isShort, Cond.selects RX2 yX2_isShort yX2_isShort]
def wsX5_run_r9 : List Cond := [Cond.code yX2_isShort cX2_isShort 2 (some .boolean)]
def wsX5_run : List Cond := .code yX5_run cX5_run 5 (some .int) :: ((wsX5_run_r1 ++ (wsX5_run_r2 ++ (wsX5_run_r3 ++ (wsX5_run_r4 ++ (wsX5_run_r5 ++ (wsX5_run_r6 ++ (wsX5_run_r7 ++ (wsX5_run_r8 ++ wsX5_run_r9)))))))) ++ wsX50 ++ wsX20 ++ wsX10 ++ wsX40 ++ wsX30 ++ (vx_atS RX5 43 "java/lang/IllegalStateException" ["java/lang/RuntimeException", "java/lang/Exception"]).filter goodWord ++ (vx_atS RX5 228 "java/lang/IllegalArgumentException" ["java/lang/RuntimeException", "java/lang/Exception"]).filter goodWord)
def wsX5_restart_r1 : List Cond := [Cond.fieldLink RX5 10 "RainReservoir" "now" "LRainReservoir$State;", Cond.fieldLink RX5 143 "RainReservoir$State" "doneCount" "I", Cond.methodLink RX5 46 yX5_save, Cond.instanceMethod yX5_save, Cond.selects RX5 yX5_save yX5_save, Cond.initialized RX5, Cond.code yX5_save cX5_save 3 none, Cond.fieldLink RX5 207 "RainReservoir" "savedCount" "I", Cond.fieldLink RX5 19 "RainReservoir" "saved" "[LRainReservoir$State;", Cond.methodLink RX5 212 yX2_copyFrom, Cond.instanceMethod yX2_copyFrom, Cond.selects RX2 yX2_copyFrom yX2_copyFrom, Cond.initialized RX2, Cond.code yX2_copyFrom cX2_copyFrom 3 none, Cond.fieldLink RX2 9 "RainReservoir$State" "capacity" "I", Cond.fieldLink RX2 39 "RainReservoir$State" "floor" "I", Cond.fieldLink RX2 42 "RainReservoir$State" "topUp" "I", Cond.fieldLink RX2 45 "RainReservoir$State" "evaporation" "I", Cond.fieldLink RX2 15 "RainReservoir$State" "dryLimit" "I", Cond.fieldLink RX2 48 "RainReservoir$State" "rule" "I", Cond.fieldLink RX2 51 "RainReservoir$State" "roofCount" "I", Cond.fieldLink RX2 20 "RainReservoir$State" "roofs" "[LRainReservoir$Roof;", Cond.fieldLink RX2 28 "RainReservoir$State" "users" "LRainReservoir$Users;", Cond.fieldLink RX2 61 "RainReservoir$State" "rainCount" "I"]
def wsX5_restart_r2 : List Cond := [Cond.fieldLink RX2 32 "RainReservoir$State" "rains" "[I", Cond.methodLink RX2 64 arraycopyName, Cond.native arraycopyName, Cond.static arraycopyName, Cond.initialized "java/lang/System", Cond.fieldLink RX2 70 "RainReservoir$State" "doneCount" "I", Cond.fieldLink RX2 36 "RainReservoir$State" "accounts" "[I", Cond.fieldLink RX2 73 "RainReservoir$State" "level" "I", Cond.fieldLink RX2 76 "RainReservoir$State" "dryDays" "I", Cond.fieldLink RX2 79 "RainReservoir$State" "looseOverflow" "J", Cond.methodLink RX2 54 yX1_copyFrom, Cond.instanceMethod yX1_copyFrom, Cond.selects RX1 yX1_copyFrom yX1_copyFrom, Cond.initialized RX1, Cond.code yX1_copyFrom cX1_copyFrom 2 none, Cond.fieldLink RX1 7 "RainReservoir$Roof" "area" "I", Cond.fieldLink RX1 13 "RainReservoir$Roof" "yieldPercent" "I", Cond.fieldLink RX1 16 "RainReservoir$Roof" "flush" "I", Cond.fieldLink RX1 19 "RainReservoir$Roof" "gutter" "I", Cond.fieldLink RX1 29 "RainReservoir$Roof" "water" "I", Cond.fieldLink RX1 32 "RainReservoir$Roof" "spilledInAll" "I", Cond.methodLink RX1 25 yX1_set, Cond.instanceMethod yX1_set, Cond.selects RX1 yX1_set yX1_set]
def wsX5_restart_r3 : List Cond := [Cond.code yX1_set cX1_set 5 none, Cond.methodLink RX1 22 yX1_clearAmounts, Cond.instanceMethod yX1_clearAmounts, Cond.selects RX1 yX1_clearAmounts yX1_clearAmounts, Cond.code yX1_clearAmounts cX1_clearAmounts 1 none, Cond.methodLink RX2 58 yX4_copyFrom, Cond.instanceMethod yX4_copyFrom, Cond.selects RX4 yX4_copyFrom yX4_copyFrom, Cond.initialized RX4, Cond.code yX4_copyFrom cX4_copyFrom 3 none, Cond.fieldLink RX4 22 "RainReservoir$Users" "count" "I", Cond.fieldLink RX4 11 "RainReservoir$Users" "rows" "[LRainReservoir$User;", Cond.methodLink RX4 26 yX3_copyFrom, Cond.instanceMethod yX3_copyFrom, Cond.selects RX3 yX3_copyFrom yX3_copyFrom, Cond.initialized RX3, Cond.code yX3_copyFrom cX3_copyFrom 2 none, Cond.fieldLink RX3 9 "RainReservoir$User" "demand" "I", Cond.fieldLink RX3 15 "RainReservoir$User" "weight" "I", Cond.fieldLink RX3 25 "RainReservoir$User" "gotLatest" "I", Cond.fieldLink RX3 28 "RainReservoir$User" "gotInAll" "I", Cond.methodLink RX3 21 yX3_set, Cond.instanceMethod yX3_set, Cond.selects RX3 yX3_set yX3_set]
def wsX5_restart_r4 : List Cond := [Cond.code yX3_set cX3_set 3 none, Cond.methodLink RX3 18 yX3_clearAmounts, Cond.instanceMethod yX3_clearAmounts, Cond.selects RX3 yX3_clearAmounts yX3_clearAmounts, Cond.code yX3_clearAmounts cX3_clearAmounts 1 none, Cond.methodLink RX5 158 yX2_goBack, Cond.instanceMethod yX2_goBack, Cond.selects RX2 yX2_goBack yX2_goBack, Cond.code yX2_goBack cX2_goBack 2 none, Cond.methodLink RX2 83 yX1_clearAmounts, Cond.methodLink RX2 86 yX4_clearAmounts, Cond.instanceMethod yX4_clearAmounts, Cond.selects RX4 yX4_clearAmounts yX4_clearAmounts, Cond.code yX4_clearAmounts cX4_clearAmounts 2 none, Cond.methodLink RX4 30 yX3_clearAmounts]
def wsX5_restart : List Cond := .code yX5_restart cX5_restart 2 (some .int) :: ((wsX5_restart_r1 ++ (wsX5_restart_r2 ++ (wsX5_restart_r3 ++ wsX5_restart_r4))) ++ wsX50 ++ wsX20 ++ wsX10 ++ wsX40 ++ wsX30)
def wsX5_day : List Cond := .code yX5_day cX5_day 3 (some .int) :: ([.fieldLink RX5 10 "RainReservoir" "now" "LRainReservoir$State;", .fieldLink RX5 143 "RainReservoir$State" "doneCount" "I", .methodLink RX5 79 yX5_checkIndex, .static yX5_checkIndex, .initialized RX5, .code yX5_checkIndex cX5_checkIndex 2 none, .classLink RX5 229 "java/lang/IndexOutOfBoundsException", .initialized "java/lang/IndexOutOfBoundsException", .methodLink RX5 30 yX5_checkRange, .static yX5_checkRange, .code yX5_checkRange cX5_checkRange 3 none, .classLink RX5 224 "java/lang/IllegalArgumentException", .initialized "java/lang/IllegalArgumentException", .methodLink RX5 161 yX2_account, .instanceMethod yX2_account, .selects RX2 yX2_account yX2_account, .initialized RX2, .code yX2_account cX2_account 3 (some .int), .fieldLink RX2 36 "RainReservoir$State" "accounts" "[I"] ++ wsX50 ++ wsX20 ++ (vx_atS RX5 233 "java/lang/IndexOutOfBoundsException" ["java/lang/RuntimeException", "java/lang/Exception"]).filter goodWord ++ (vx_atS RX5 228 "java/lang/IllegalArgumentException" ["java/lang/RuntimeException", "java/lang/Exception"]).filter goodWord)
def wsX5_sum : List Cond := .code yX5_sum cX5_sum 5 (some .long) :: ([.fieldLink RX5 10 "RainReservoir" "now" "LRainReservoir$State;", .fieldLink RX5 95 "RainReservoir$State" "looseOverflow" "J", .fieldLink RX5 143 "RainReservoir$State" "doneCount" "I", .methodLink RX5 30 yX5_checkRange, .static yX5_checkRange, .initialized RX5, .code yX5_checkRange cX5_checkRange 3 none, .classLink RX5 224 "java/lang/IllegalArgumentException", .initialized "java/lang/IllegalArgumentException", .methodLink RX5 161 yX2_account, .instanceMethod yX2_account, .selects RX2 yX2_account yX2_account, .initialized RX2, .code yX2_account cX2_account 3 (some .int), .fieldLink RX2 36 "RainReservoir$State" "accounts" "[I"] ++ wsX50 ++ wsX20 ++ (vx_atS RX5 228 "java/lang/IllegalArgumentException" ["java/lang/RuntimeException", "java/lang/Exception"]).filter goodWord)
def wsX5_reliability : List Cond := .code yX5_reliability cX5_reliability 4 (some .double) :: ([.fieldLink RX5 10 "RainReservoir" "now" "LRainReservoir$State;", .fieldLink RX5 143 "RainReservoir$State" "doneCount" "I", .methodLink RX5 154 yX2_isShort, .instanceMethod yX2_isShort, .selects RX2 yX2_isShort yX2_isShort, .initialized RX2, .code yX2_isShort cX2_isShort 2 (some .boolean), .methodLink RX2 90 yX2_account, .instanceMethod yX2_account, .selects RX2 yX2_account yX2_account, .code yX2_account cX2_account 3 (some .int), .fieldLink RX2 36 "RainReservoir$State" "accounts" "[I"] ++ wsX50 ++ wsX20)
def wsX5_longestShortage : List Cond := .code yX5_longestShortage cX5_longestShortage 4 (some .int) :: ([.fieldLink RX5 10 "RainReservoir" "now" "LRainReservoir$State;", .fieldLink RX5 143 "RainReservoir$State" "doneCount" "I", .methodLink RX5 165 Lib.Math.max.name, .static Lib.Math.max.name, .initialized "java/lang/Math", .code Lib.Math.max.name Lib.Math.max.code 2 (some .int), .methodLink RX5 154 yX2_isShort, .instanceMethod yX2_isShort, .selects RX2 yX2_isShort yX2_isShort, .initialized RX2, .code yX2_isShort cX2_isShort 2 (some .boolean), .methodLink RX2 90 yX2_account, .instanceMethod yX2_account, .selects RX2 yX2_account yX2_account, .code yX2_account cX2_account 3 (some .int), .fieldLink RX2 36 "RainReservoir$State" "accounts" "[I"] ++ wsX50 ++ wsX20)
def wsX5_prepareTrial_r1 : List Cond := [Cond.fieldLink RX5 16 "RainReservoir" "trial" "LRainReservoir$State;", Cond.fieldLink RX5 10 "RainReservoir" "now" "LRainReservoir$State;", Cond.fieldLink RX5 127 "RainReservoir$State" "rainCount" "I", Cond.methodLink RX5 212 yX2_copyFrom, Cond.instanceMethod yX2_copyFrom, Cond.selects RX2 yX2_copyFrom yX2_copyFrom, Cond.initialized RX2, Cond.code yX2_copyFrom cX2_copyFrom 3 none, Cond.fieldLink RX2 9 "RainReservoir$State" "capacity" "I", Cond.fieldLink RX2 39 "RainReservoir$State" "floor" "I", Cond.fieldLink RX2 42 "RainReservoir$State" "topUp" "I", Cond.fieldLink RX2 45 "RainReservoir$State" "evaporation" "I", Cond.fieldLink RX2 15 "RainReservoir$State" "dryLimit" "I", Cond.fieldLink RX2 48 "RainReservoir$State" "rule" "I", Cond.fieldLink RX2 51 "RainReservoir$State" "roofCount" "I", Cond.fieldLink RX2 20 "RainReservoir$State" "roofs" "[LRainReservoir$Roof;", Cond.fieldLink RX2 28 "RainReservoir$State" "users" "LRainReservoir$Users;", Cond.fieldLink RX2 61 "RainReservoir$State" "rainCount" "I", Cond.fieldLink RX2 32 "RainReservoir$State" "rains" "[I", Cond.methodLink RX2 64 arraycopyName, Cond.native arraycopyName, Cond.static arraycopyName, Cond.initialized "java/lang/System", Cond.fieldLink RX2 70 "RainReservoir$State" "doneCount" "I"]
def wsX5_prepareTrial_r2 : List Cond := [Cond.fieldLink RX2 36 "RainReservoir$State" "accounts" "[I", Cond.fieldLink RX2 73 "RainReservoir$State" "level" "I", Cond.fieldLink RX2 76 "RainReservoir$State" "dryDays" "I", Cond.fieldLink RX2 79 "RainReservoir$State" "looseOverflow" "J", Cond.methodLink RX2 54 yX1_copyFrom, Cond.instanceMethod yX1_copyFrom, Cond.selects RX1 yX1_copyFrom yX1_copyFrom, Cond.initialized RX1, Cond.code yX1_copyFrom cX1_copyFrom 2 none, Cond.fieldLink RX1 7 "RainReservoir$Roof" "area" "I", Cond.fieldLink RX1 13 "RainReservoir$Roof" "yieldPercent" "I", Cond.fieldLink RX1 16 "RainReservoir$Roof" "flush" "I", Cond.fieldLink RX1 19 "RainReservoir$Roof" "gutter" "I", Cond.fieldLink RX1 29 "RainReservoir$Roof" "water" "I", Cond.fieldLink RX1 32 "RainReservoir$Roof" "spilledInAll" "I", Cond.methodLink RX1 25 yX1_set, Cond.instanceMethod yX1_set, Cond.selects RX1 yX1_set yX1_set, Cond.code yX1_set cX1_set 5 none, Cond.methodLink RX1 22 yX1_clearAmounts, Cond.instanceMethod yX1_clearAmounts, Cond.selects RX1 yX1_clearAmounts yX1_clearAmounts, Cond.code yX1_clearAmounts cX1_clearAmounts 1 none, Cond.methodLink RX2 58 yX4_copyFrom]
def wsX5_prepareTrial_r3 : List Cond := [Cond.instanceMethod yX4_copyFrom, Cond.selects RX4 yX4_copyFrom yX4_copyFrom, Cond.initialized RX4, Cond.code yX4_copyFrom cX4_copyFrom 3 none, Cond.fieldLink RX4 22 "RainReservoir$Users" "count" "I", Cond.fieldLink RX4 11 "RainReservoir$Users" "rows" "[LRainReservoir$User;", Cond.methodLink RX4 26 yX3_copyFrom, Cond.instanceMethod yX3_copyFrom, Cond.selects RX3 yX3_copyFrom yX3_copyFrom, Cond.initialized RX3, Cond.code yX3_copyFrom cX3_copyFrom 2 none, Cond.fieldLink RX3 9 "RainReservoir$User" "demand" "I", Cond.fieldLink RX3 15 "RainReservoir$User" "weight" "I", Cond.fieldLink RX3 25 "RainReservoir$User" "gotLatest" "I", Cond.fieldLink RX3 28 "RainReservoir$User" "gotInAll" "I", Cond.methodLink RX3 21 yX3_set, Cond.instanceMethod yX3_set, Cond.selects RX3 yX3_set yX3_set, Cond.code yX3_set cX3_set 3 none, Cond.methodLink RX3 18 yX3_clearAmounts, Cond.instanceMethod yX3_clearAmounts, Cond.selects RX3 yX3_clearAmounts yX3_clearAmounts, Cond.code yX3_clearAmounts cX3_clearAmounts 1 none, Cond.methodLink RX5 158 yX2_goBack]
def wsX5_prepareTrial_r4 : List Cond := [Cond.instanceMethod yX2_goBack, Cond.selects RX2 yX2_goBack yX2_goBack, Cond.code yX2_goBack cX2_goBack 2 none, Cond.methodLink RX2 83 yX1_clearAmounts, Cond.methodLink RX2 86 yX4_clearAmounts, Cond.instanceMethod yX4_clearAmounts, Cond.selects RX4 yX4_clearAmounts yX4_clearAmounts, Cond.code yX4_clearAmounts cX4_clearAmounts 2 none, Cond.methodLink RX4 30 yX3_clearAmounts, Cond.methodLink RX5 148 yX2_collect, Cond.instanceMethod yX2_collect, Cond.selects RX2 yX2_collect yX2_collect, Cond.code yX2_collect cX2_collect 11 none, Cond.methodLink RX2 99 yX2_drainWhenDry, Cond.instanceMethod yX2_drainWhenDry, Cond.selects RX2 yX2_drainWhenDry yX2_drainWhenDry, Cond.code yX2_drainWhenDry cX2_drainWhenDry 4 (some .int), Cond.methodLink RX2 134 yX1_drain, Cond.instanceMethod yX1_drain, Cond.selects RX1 yX1_drain yX1_drain, Cond.code yX1_drain cX1_drain 2 (some .int), Cond.methodLink RX2 103 yX1_caught, Cond.instanceMethod yX1_caught, Cond.selects RX1 yX1_caught yX1_caught]
def wsX5_prepareTrial_r5 : List Cond := [Cond.code yX1_caught cX1_caught 2 (some .int), Cond.methodLink RX2 106 yX1_divert, Cond.instanceMethod yX1_divert, Cond.selects RX1 yX1_divert yX1_divert, Cond.code yX1_divert cX1_divert 3 (some .int), Cond.methodLink RX1 35 Lib.Math.min.name, Cond.static Lib.Math.min.name, Cond.initialized "java/lang/Math", Cond.code Lib.Math.min.name Lib.Math.min.code 2 (some .int), Cond.methodLink RX2 109 yX1_spill, Cond.instanceMethod yX1_spill, Cond.selects RX1 yX1_spill yX1_spill, Cond.code yX1_spill cX1_spill 3 (some .int), Cond.methodLink RX1 41 Lib.Math.max.name, Cond.static Lib.Math.max.name, Cond.code Lib.Math.max.name Lib.Math.max.code 2 (some .int), Cond.methodLink RX2 112 yX2_put, Cond.instanceMethod yX2_put, Cond.selects RX2 yX2_put yX2_put, Cond.code yX2_put cX2_put 4 none]
def wsX5_prepareTrial : List Cond := .code yX5_prepareTrial cX5_prepareTrial 2 none :: ((wsX5_prepareTrial_r1 ++ (wsX5_prepareTrial_r2 ++ (wsX5_prepareTrial_r3 ++ (wsX5_prepareTrial_r4 ++ wsX5_prepareTrial_r5)))) ++ wsX50 ++ wsX20 ++ wsX10 ++ wsX40 ++ wsX30)
def wsX5_setTrialCapacity : List Cond := .code yX5_setTrialCapacity cX5_setTrialCapacity 2 none :: ([.fieldLink RX5 16 "RainReservoir" "trial" "LRainReservoir$State;", .fieldLink RX5 86 "RainReservoir$State" "capacity" "I", .fieldLink RX5 10 "RainReservoir" "now" "LRainReservoir$State;", .fieldLink RX5 89 "RainReservoir$State" "floor" "I", .methodLink RX5 242 Lib.Math.min.name, .static Lib.Math.min.name, .initialized "java/lang/Math", .code Lib.Math.min.name Lib.Math.min.code 2 (some .int), .fieldLink RX5 92 "RainReservoir$State" "topUp" "I"] ++ wsX50 ++ wsX20)
def wsX5_shortDaysWith_r1 : List Cond := [Cond.constant RX5 85 (60000), Cond.fieldLink RX5 16 "RainReservoir" "trial" "LRainReservoir$State;", Cond.methodLink RX5 30 yX5_checkRange, Cond.static yX5_checkRange, Cond.initialized RX5, Cond.code yX5_checkRange cX5_checkRange 3 none, Cond.classLink RX5 224 "java/lang/IllegalArgumentException", Cond.initialized "java/lang/IllegalArgumentException", Cond.methodLink RX5 170 yX5_prepareTrial, Cond.instanceMethod yX5_prepareTrial, Cond.selects RX5 yX5_prepareTrial yX5_prepareTrial, Cond.code yX5_prepareTrial cX5_prepareTrial 2 none, Cond.fieldLink RX5 10 "RainReservoir" "now" "LRainReservoir$State;", Cond.fieldLink RX5 127 "RainReservoir$State" "rainCount" "I", Cond.methodLink RX5 212 yX2_copyFrom, Cond.instanceMethod yX2_copyFrom, Cond.selects RX2 yX2_copyFrom yX2_copyFrom, Cond.initialized RX2, Cond.code yX2_copyFrom cX2_copyFrom 3 none, Cond.fieldLink RX2 9 "RainReservoir$State" "capacity" "I", Cond.fieldLink RX2 39 "RainReservoir$State" "floor" "I", Cond.fieldLink RX2 42 "RainReservoir$State" "topUp" "I", Cond.fieldLink RX2 45 "RainReservoir$State" "evaporation" "I", Cond.fieldLink RX2 15 "RainReservoir$State" "dryLimit" "I"]
def wsX5_shortDaysWith_r2 : List Cond := [Cond.fieldLink RX2 48 "RainReservoir$State" "rule" "I", Cond.fieldLink RX2 51 "RainReservoir$State" "roofCount" "I", Cond.fieldLink RX2 20 "RainReservoir$State" "roofs" "[LRainReservoir$Roof;", Cond.fieldLink RX2 28 "RainReservoir$State" "users" "LRainReservoir$Users;", Cond.fieldLink RX2 61 "RainReservoir$State" "rainCount" "I", Cond.fieldLink RX2 32 "RainReservoir$State" "rains" "[I", Cond.methodLink RX2 64 arraycopyName, Cond.native arraycopyName, Cond.static arraycopyName, Cond.initialized "java/lang/System", Cond.fieldLink RX2 70 "RainReservoir$State" "doneCount" "I", Cond.fieldLink RX2 36 "RainReservoir$State" "accounts" "[I", Cond.fieldLink RX2 73 "RainReservoir$State" "level" "I", Cond.fieldLink RX2 76 "RainReservoir$State" "dryDays" "I", Cond.fieldLink RX2 79 "RainReservoir$State" "looseOverflow" "J", Cond.methodLink RX2 54 yX1_copyFrom, Cond.instanceMethod yX1_copyFrom, Cond.selects RX1 yX1_copyFrom yX1_copyFrom, Cond.initialized RX1, Cond.code yX1_copyFrom cX1_copyFrom 2 none, Cond.fieldLink RX1 7 "RainReservoir$Roof" "area" "I", Cond.fieldLink RX1 13 "RainReservoir$Roof" "yieldPercent" "I", Cond.fieldLink RX1 16 "RainReservoir$Roof" "flush" "I", Cond.fieldLink RX1 19 "RainReservoir$Roof" "gutter" "I"]
def wsX5_shortDaysWith_r3 : List Cond := [Cond.fieldLink RX1 29 "RainReservoir$Roof" "water" "I", Cond.fieldLink RX1 32 "RainReservoir$Roof" "spilledInAll" "I", Cond.methodLink RX1 25 yX1_set, Cond.instanceMethod yX1_set, Cond.selects RX1 yX1_set yX1_set, Cond.code yX1_set cX1_set 5 none, Cond.methodLink RX1 22 yX1_clearAmounts, Cond.instanceMethod yX1_clearAmounts, Cond.selects RX1 yX1_clearAmounts yX1_clearAmounts, Cond.code yX1_clearAmounts cX1_clearAmounts 1 none, Cond.methodLink RX2 58 yX4_copyFrom, Cond.instanceMethod yX4_copyFrom, Cond.selects RX4 yX4_copyFrom yX4_copyFrom, Cond.initialized RX4, Cond.code yX4_copyFrom cX4_copyFrom 3 none, Cond.fieldLink RX4 22 "RainReservoir$Users" "count" "I", Cond.fieldLink RX4 11 "RainReservoir$Users" "rows" "[LRainReservoir$User;", Cond.methodLink RX4 26 yX3_copyFrom, Cond.instanceMethod yX3_copyFrom, Cond.selects RX3 yX3_copyFrom yX3_copyFrom, Cond.initialized RX3, Cond.code yX3_copyFrom cX3_copyFrom 2 none, Cond.fieldLink RX3 9 "RainReservoir$User" "demand" "I", Cond.fieldLink RX3 15 "RainReservoir$User" "weight" "I"]
def wsX5_shortDaysWith_r4 : List Cond := [Cond.fieldLink RX3 25 "RainReservoir$User" "gotLatest" "I", Cond.fieldLink RX3 28 "RainReservoir$User" "gotInAll" "I", Cond.methodLink RX3 21 yX3_set, Cond.instanceMethod yX3_set, Cond.selects RX3 yX3_set yX3_set, Cond.code yX3_set cX3_set 3 none, Cond.methodLink RX3 18 yX3_clearAmounts, Cond.instanceMethod yX3_clearAmounts, Cond.selects RX3 yX3_clearAmounts yX3_clearAmounts, Cond.code yX3_clearAmounts cX3_clearAmounts 1 none, Cond.methodLink RX5 158 yX2_goBack, Cond.instanceMethod yX2_goBack, Cond.selects RX2 yX2_goBack yX2_goBack, Cond.code yX2_goBack cX2_goBack 2 none, Cond.methodLink RX2 83 yX1_clearAmounts, Cond.methodLink RX2 86 yX4_clearAmounts, Cond.instanceMethod yX4_clearAmounts, Cond.selects RX4 yX4_clearAmounts yX4_clearAmounts, Cond.code yX4_clearAmounts cX4_clearAmounts 2 none, Cond.methodLink RX4 30 yX3_clearAmounts, Cond.methodLink RX5 148 yX2_collect, Cond.instanceMethod yX2_collect, Cond.selects RX2 yX2_collect yX2_collect, Cond.code yX2_collect cX2_collect 11 none]
def wsX5_shortDaysWith_r5 : List Cond := [Cond.methodLink RX2 99 yX2_drainWhenDry, Cond.instanceMethod yX2_drainWhenDry, Cond.selects RX2 yX2_drainWhenDry yX2_drainWhenDry, Cond.code yX2_drainWhenDry cX2_drainWhenDry 4 (some .int), Cond.methodLink RX2 134 yX1_drain, Cond.instanceMethod yX1_drain, Cond.selects RX1 yX1_drain yX1_drain, Cond.code yX1_drain cX1_drain 2 (some .int), Cond.methodLink RX2 103 yX1_caught, Cond.instanceMethod yX1_caught, Cond.selects RX1 yX1_caught yX1_caught, Cond.code yX1_caught cX1_caught 2 (some .int), Cond.methodLink RX2 106 yX1_divert, Cond.instanceMethod yX1_divert, Cond.selects RX1 yX1_divert yX1_divert, Cond.code yX1_divert cX1_divert 3 (some .int), Cond.methodLink RX1 35 Lib.Math.min.name, Cond.static Lib.Math.min.name, Cond.initialized "java/lang/Math", Cond.code Lib.Math.min.name Lib.Math.min.code 2 (some .int), Cond.methodLink RX2 109 yX1_spill, Cond.instanceMethod yX1_spill, Cond.selects RX1 yX1_spill yX1_spill, Cond.code yX1_spill cX1_spill 3 (some .int)]
def wsX5_shortDaysWith_r6 : List Cond := [Cond.methodLink RX1 41 Lib.Math.max.name, Cond.static Lib.Math.max.name, Cond.code Lib.Math.max.name Lib.Math.max.code 2 (some .int), Cond.methodLink RX2 112 yX2_put, Cond.instanceMethod yX2_put, Cond.selects RX2 yX2_put yX2_put, Cond.code yX2_put cX2_put 4 none, Cond.methodLink RX5 173 yX5_setTrialCapacity, Cond.instanceMethod yX5_setTrialCapacity, Cond.selects RX5 yX5_setTrialCapacity yX5_setTrialCapacity, Cond.code yX5_setTrialCapacity cX5_setTrialCapacity 2 none, Cond.fieldLink RX5 86 "RainReservoir$State" "capacity" "I", Cond.fieldLink RX5 89 "RainReservoir$State" "floor" "I", Cond.methodLink RX5 242 Lib.Math.min.name, Cond.fieldLink RX5 92 "RainReservoir$State" "topUp" "I", Cond.methodLink RX5 176 yX2_serveAll, Cond.instanceMethod yX2_serveAll, Cond.selects RX2 yX2_serveAll yX2_serveAll, Cond.code yX2_serveAll cX2_serveAll 4 (some .int), Cond.methodLink RX2 126 yX2_serve, Cond.instanceMethod yX2_serve, Cond.selects RX2 yX2_serve yX2_serve, Cond.code yX2_serve cX2_serve 5 none, Cond.methodLink RX2 94 Lib.Math.max.name]
def wsX5_shortDaysWith_r7 : List Cond := [Cond.methodLink RX2 90 yX2_account, Cond.instanceMethod yX2_account, Cond.selects RX2 yX2_account yX2_account, Cond.code yX2_account cX2_account 3 (some .int), Cond.methodLink RX2 116 yX2_dropAboveCapacity, Cond.instanceMethod yX2_dropAboveCapacity, Cond.selects RX2 yX2_dropAboveCapacity yX2_dropAboveCapacity, Cond.code yX2_dropAboveCapacity cX2_dropAboveCapacity 2 (some .int), Cond.methodLink RX2 120 yX4_handOut, Cond.instanceMethod yX4_handOut, Cond.selects RX4 yX4_handOut yX4_handOut, Cond.code yX4_handOut cX4_handOut 6 (some .int), Cond.fieldLink RX4 45 "RainReservoir$User" "gotLatest" "I", Cond.fieldLink RX4 36 "RainReservoir$User" "gotInAll" "I", Cond.methodLink RX4 48 yX4_demandInAll, Cond.instanceMethod yX4_demandInAll, Cond.selects RX4 yX4_demandInAll yX4_demandInAll, Cond.code yX4_demandInAll cX4_demandInAll 3 (some .int), Cond.fieldLink RX4 33 "RainReservoir$User" "demand" "I", Cond.methodLink RX4 52 yX4_orderByNumber, Cond.instanceMethod yX4_orderByNumber, Cond.selects RX4 yX4_orderByNumber yX4_orderByNumber, Cond.code yX4_orderByNumber cX4_orderByNumber 2 none, Cond.fieldLink RX4 18 "RainReservoir$Users" "order" "[I"]
def wsX5_shortDaysWith_r8 : List Cond := [Cond.methodLink RX4 55 yX4_serveOrder, Cond.instanceMethod yX4_serveOrder, Cond.selects RX4 yX4_serveOrder yX4_serveOrder, Cond.code yX4_serveOrder cX4_serveOrder 4 none, Cond.methodLink RX4 73 yX3_give, Cond.instanceMethod yX3_give, Cond.selects RX3 yX3_give yX3_give, Cond.code yX3_give cX3_give 3 (some .int), Cond.methodLink RX3 35 Lib.Math.min.name, Cond.methodLink RX3 31 yX3_lack, Cond.instanceMethod yX3_lack, Cond.selects RX3 yX3_lack yX3_lack, Cond.code yX3_lack cX3_lack 1 (some .int), Cond.methodLink RX4 59 yX4_share, Cond.instanceMethod yX4_share, Cond.selects RX4 yX4_share yX4_share, Cond.code yX4_share cX4_share 4 none, Cond.methodLink RX4 63 yX4_shareByDemand, Cond.instanceMethod yX4_shareByDemand, Cond.selects RX4 yX4_shareByDemand yX4_shareByDemand, Cond.code yX4_shareByDemand cX4_shareByDemand 7 none, Cond.methodLink RX4 67 yX4_shareInRounds, Cond.instanceMethod yX4_shareInRounds, Cond.selects RX4 yX4_shareInRounds yX4_shareInRounds]
def wsX5_shortDaysWith_r9 : List Cond := [Cond.code yX4_shareInRounds cX4_shareInRounds 6 none, Cond.methodLink RX4 83 Lib.Math.min.name, Cond.methodLink RX4 77 yX4_fullRounds, Cond.instanceMethod yX4_fullRounds, Cond.selects RX4 yX4_fullRounds yX4_fullRounds, Cond.code yX4_fullRounds cX4_fullRounds 4 (some .int), Cond.methodLink RX4 86 yX3_lack, Cond.methodLink RX4 80 yX3_portion, Cond.instanceMethod yX3_portion, Cond.selects RX3 yX3_portion yX3_portion, Cond.code yX3_portion cX3_portion 1 (some .int), Cond.methodLink RX4 70 yX4_orderByDemand, Cond.instanceMethod yX4_orderByDemand, Cond.selects RX4 yX4_orderByDemand yX4_orderByDemand, Cond.code yX4_orderByDemand cX4_orderByDemand 3 none, Cond.methodLink RX2 123 yX4_demandInAll, Cond.methodLink RX2 130 yX2_isShort, Cond.instanceMethod yX2_isShort, Cond.selects RX2 yX2_isShort yX2_isShort, Cond.code yX2_isShort cX2_isShort 2 (some .boolean)]
def wsX5_shortDaysWith : List Cond := .code yX5_shortDaysWith cX5_shortDaysWith 2 (some .int) :: ((wsX5_shortDaysWith_r1 ++ (wsX5_shortDaysWith_r2 ++ (wsX5_shortDaysWith_r3 ++ (wsX5_shortDaysWith_r4 ++ (wsX5_shortDaysWith_r5 ++ (wsX5_shortDaysWith_r6 ++ (wsX5_shortDaysWith_r7 ++ (wsX5_shortDaysWith_r8 ++ wsX5_shortDaysWith_r9)))))))) ++ wsX50 ++ wsX20 ++ wsX10 ++ wsX40 ++ wsX30 ++ (vx_atS RX5 228 "java/lang/IllegalArgumentException" ["java/lang/RuntimeException", "java/lang/Exception"]).filter goodWord)
def wsX5_capacityFor_r1 : List Cond := [Cond.constant RX5 85 (60000), Cond.fieldLink RX5 16 "RainReservoir" "trial" "LRainReservoir$State;", Cond.methodLink RX5 30 yX5_checkRange, Cond.static yX5_checkRange, Cond.initialized RX5, Cond.code yX5_checkRange cX5_checkRange 3 none, Cond.classLink RX5 224 "java/lang/IllegalArgumentException", Cond.initialized "java/lang/IllegalArgumentException", Cond.methodLink RX5 170 yX5_prepareTrial, Cond.instanceMethod yX5_prepareTrial, Cond.selects RX5 yX5_prepareTrial yX5_prepareTrial, Cond.code yX5_prepareTrial cX5_prepareTrial 2 none, Cond.fieldLink RX5 10 "RainReservoir" "now" "LRainReservoir$State;", Cond.fieldLink RX5 127 "RainReservoir$State" "rainCount" "I", Cond.methodLink RX5 212 yX2_copyFrom, Cond.instanceMethod yX2_copyFrom, Cond.selects RX2 yX2_copyFrom yX2_copyFrom, Cond.initialized RX2, Cond.code yX2_copyFrom cX2_copyFrom 3 none, Cond.fieldLink RX2 9 "RainReservoir$State" "capacity" "I", Cond.fieldLink RX2 39 "RainReservoir$State" "floor" "I", Cond.fieldLink RX2 42 "RainReservoir$State" "topUp" "I", Cond.fieldLink RX2 45 "RainReservoir$State" "evaporation" "I", Cond.fieldLink RX2 15 "RainReservoir$State" "dryLimit" "I"]
def wsX5_capacityFor_r2 : List Cond := [Cond.fieldLink RX2 48 "RainReservoir$State" "rule" "I", Cond.fieldLink RX2 51 "RainReservoir$State" "roofCount" "I", Cond.fieldLink RX2 20 "RainReservoir$State" "roofs" "[LRainReservoir$Roof;", Cond.fieldLink RX2 28 "RainReservoir$State" "users" "LRainReservoir$Users;", Cond.fieldLink RX2 61 "RainReservoir$State" "rainCount" "I", Cond.fieldLink RX2 32 "RainReservoir$State" "rains" "[I", Cond.methodLink RX2 64 arraycopyName, Cond.native arraycopyName, Cond.static arraycopyName, Cond.initialized "java/lang/System", Cond.fieldLink RX2 70 "RainReservoir$State" "doneCount" "I", Cond.fieldLink RX2 36 "RainReservoir$State" "accounts" "[I", Cond.fieldLink RX2 73 "RainReservoir$State" "level" "I", Cond.fieldLink RX2 76 "RainReservoir$State" "dryDays" "I", Cond.fieldLink RX2 79 "RainReservoir$State" "looseOverflow" "J", Cond.methodLink RX2 54 yX1_copyFrom, Cond.instanceMethod yX1_copyFrom, Cond.selects RX1 yX1_copyFrom yX1_copyFrom, Cond.initialized RX1, Cond.code yX1_copyFrom cX1_copyFrom 2 none, Cond.fieldLink RX1 7 "RainReservoir$Roof" "area" "I", Cond.fieldLink RX1 13 "RainReservoir$Roof" "yieldPercent" "I", Cond.fieldLink RX1 16 "RainReservoir$Roof" "flush" "I", Cond.fieldLink RX1 19 "RainReservoir$Roof" "gutter" "I"]
def wsX5_capacityFor_r3 : List Cond := [Cond.fieldLink RX1 29 "RainReservoir$Roof" "water" "I", Cond.fieldLink RX1 32 "RainReservoir$Roof" "spilledInAll" "I", Cond.methodLink RX1 25 yX1_set, Cond.instanceMethod yX1_set, Cond.selects RX1 yX1_set yX1_set, Cond.code yX1_set cX1_set 5 none, Cond.methodLink RX1 22 yX1_clearAmounts, Cond.instanceMethod yX1_clearAmounts, Cond.selects RX1 yX1_clearAmounts yX1_clearAmounts, Cond.code yX1_clearAmounts cX1_clearAmounts 1 none, Cond.methodLink RX2 58 yX4_copyFrom, Cond.instanceMethod yX4_copyFrom, Cond.selects RX4 yX4_copyFrom yX4_copyFrom, Cond.initialized RX4, Cond.code yX4_copyFrom cX4_copyFrom 3 none, Cond.fieldLink RX4 22 "RainReservoir$Users" "count" "I", Cond.fieldLink RX4 11 "RainReservoir$Users" "rows" "[LRainReservoir$User;", Cond.methodLink RX4 26 yX3_copyFrom, Cond.instanceMethod yX3_copyFrom, Cond.selects RX3 yX3_copyFrom yX3_copyFrom, Cond.initialized RX3, Cond.code yX3_copyFrom cX3_copyFrom 2 none, Cond.fieldLink RX3 9 "RainReservoir$User" "demand" "I", Cond.fieldLink RX3 15 "RainReservoir$User" "weight" "I"]
def wsX5_capacityFor_r4 : List Cond := [Cond.fieldLink RX3 25 "RainReservoir$User" "gotLatest" "I", Cond.fieldLink RX3 28 "RainReservoir$User" "gotInAll" "I", Cond.methodLink RX3 21 yX3_set, Cond.instanceMethod yX3_set, Cond.selects RX3 yX3_set yX3_set, Cond.code yX3_set cX3_set 3 none, Cond.methodLink RX3 18 yX3_clearAmounts, Cond.instanceMethod yX3_clearAmounts, Cond.selects RX3 yX3_clearAmounts yX3_clearAmounts, Cond.code yX3_clearAmounts cX3_clearAmounts 1 none, Cond.methodLink RX5 158 yX2_goBack, Cond.instanceMethod yX2_goBack, Cond.selects RX2 yX2_goBack yX2_goBack, Cond.code yX2_goBack cX2_goBack 2 none, Cond.methodLink RX2 83 yX1_clearAmounts, Cond.methodLink RX2 86 yX4_clearAmounts, Cond.instanceMethod yX4_clearAmounts, Cond.selects RX4 yX4_clearAmounts yX4_clearAmounts, Cond.code yX4_clearAmounts cX4_clearAmounts 2 none, Cond.methodLink RX4 30 yX3_clearAmounts, Cond.methodLink RX5 148 yX2_collect, Cond.instanceMethod yX2_collect, Cond.selects RX2 yX2_collect yX2_collect, Cond.code yX2_collect cX2_collect 11 none]
def wsX5_capacityFor_r5 : List Cond := [Cond.methodLink RX2 99 yX2_drainWhenDry, Cond.instanceMethod yX2_drainWhenDry, Cond.selects RX2 yX2_drainWhenDry yX2_drainWhenDry, Cond.code yX2_drainWhenDry cX2_drainWhenDry 4 (some .int), Cond.methodLink RX2 134 yX1_drain, Cond.instanceMethod yX1_drain, Cond.selects RX1 yX1_drain yX1_drain, Cond.code yX1_drain cX1_drain 2 (some .int), Cond.methodLink RX2 103 yX1_caught, Cond.instanceMethod yX1_caught, Cond.selects RX1 yX1_caught yX1_caught, Cond.code yX1_caught cX1_caught 2 (some .int), Cond.methodLink RX2 106 yX1_divert, Cond.instanceMethod yX1_divert, Cond.selects RX1 yX1_divert yX1_divert, Cond.code yX1_divert cX1_divert 3 (some .int), Cond.methodLink RX1 35 Lib.Math.min.name, Cond.static Lib.Math.min.name, Cond.initialized "java/lang/Math", Cond.code Lib.Math.min.name Lib.Math.min.code 2 (some .int), Cond.methodLink RX2 109 yX1_spill, Cond.instanceMethod yX1_spill, Cond.selects RX1 yX1_spill yX1_spill, Cond.code yX1_spill cX1_spill 3 (some .int)]
def wsX5_capacityFor_r6 : List Cond := [Cond.methodLink RX1 41 Lib.Math.max.name, Cond.static Lib.Math.max.name, Cond.code Lib.Math.max.name Lib.Math.max.code 2 (some .int), Cond.methodLink RX2 112 yX2_put, Cond.instanceMethod yX2_put, Cond.selects RX2 yX2_put yX2_put, Cond.code yX2_put cX2_put 4 none, Cond.methodLink RX5 173 yX5_setTrialCapacity, Cond.instanceMethod yX5_setTrialCapacity, Cond.selects RX5 yX5_setTrialCapacity yX5_setTrialCapacity, Cond.code yX5_setTrialCapacity cX5_setTrialCapacity 2 none, Cond.fieldLink RX5 86 "RainReservoir$State" "capacity" "I", Cond.fieldLink RX5 89 "RainReservoir$State" "floor" "I", Cond.methodLink RX5 242 Lib.Math.min.name, Cond.fieldLink RX5 92 "RainReservoir$State" "topUp" "I", Cond.methodLink RX5 176 yX2_serveAll, Cond.instanceMethod yX2_serveAll, Cond.selects RX2 yX2_serveAll yX2_serveAll, Cond.code yX2_serveAll cX2_serveAll 4 (some .int), Cond.methodLink RX2 126 yX2_serve, Cond.instanceMethod yX2_serve, Cond.selects RX2 yX2_serve yX2_serve, Cond.code yX2_serve cX2_serve 5 none, Cond.methodLink RX2 94 Lib.Math.max.name]
def wsX5_capacityFor_r7 : List Cond := [Cond.methodLink RX2 90 yX2_account, Cond.instanceMethod yX2_account, Cond.selects RX2 yX2_account yX2_account, Cond.code yX2_account cX2_account 3 (some .int), Cond.methodLink RX2 116 yX2_dropAboveCapacity, Cond.instanceMethod yX2_dropAboveCapacity, Cond.selects RX2 yX2_dropAboveCapacity yX2_dropAboveCapacity, Cond.code yX2_dropAboveCapacity cX2_dropAboveCapacity 2 (some .int), Cond.methodLink RX2 120 yX4_handOut, Cond.instanceMethod yX4_handOut, Cond.selects RX4 yX4_handOut yX4_handOut, Cond.code yX4_handOut cX4_handOut 6 (some .int), Cond.fieldLink RX4 45 "RainReservoir$User" "gotLatest" "I", Cond.fieldLink RX4 36 "RainReservoir$User" "gotInAll" "I", Cond.methodLink RX4 48 yX4_demandInAll, Cond.instanceMethod yX4_demandInAll, Cond.selects RX4 yX4_demandInAll yX4_demandInAll, Cond.code yX4_demandInAll cX4_demandInAll 3 (some .int), Cond.fieldLink RX4 33 "RainReservoir$User" "demand" "I", Cond.methodLink RX4 52 yX4_orderByNumber, Cond.instanceMethod yX4_orderByNumber, Cond.selects RX4 yX4_orderByNumber yX4_orderByNumber, Cond.code yX4_orderByNumber cX4_orderByNumber 2 none, Cond.fieldLink RX4 18 "RainReservoir$Users" "order" "[I"]
def wsX5_capacityFor_r8 : List Cond := [Cond.methodLink RX4 55 yX4_serveOrder, Cond.instanceMethod yX4_serveOrder, Cond.selects RX4 yX4_serveOrder yX4_serveOrder, Cond.code yX4_serveOrder cX4_serveOrder 4 none, Cond.methodLink RX4 73 yX3_give, Cond.instanceMethod yX3_give, Cond.selects RX3 yX3_give yX3_give, Cond.code yX3_give cX3_give 3 (some .int), Cond.methodLink RX3 35 Lib.Math.min.name, Cond.methodLink RX3 31 yX3_lack, Cond.instanceMethod yX3_lack, Cond.selects RX3 yX3_lack yX3_lack, Cond.code yX3_lack cX3_lack 1 (some .int), Cond.methodLink RX4 59 yX4_share, Cond.instanceMethod yX4_share, Cond.selects RX4 yX4_share yX4_share, Cond.code yX4_share cX4_share 4 none, Cond.methodLink RX4 63 yX4_shareByDemand, Cond.instanceMethod yX4_shareByDemand, Cond.selects RX4 yX4_shareByDemand yX4_shareByDemand, Cond.code yX4_shareByDemand cX4_shareByDemand 7 none, Cond.methodLink RX4 67 yX4_shareInRounds, Cond.instanceMethod yX4_shareInRounds, Cond.selects RX4 yX4_shareInRounds yX4_shareInRounds]
def wsX5_capacityFor_r9 : List Cond := [Cond.code yX4_shareInRounds cX4_shareInRounds 6 none, Cond.methodLink RX4 83 Lib.Math.min.name, Cond.methodLink RX4 77 yX4_fullRounds, Cond.instanceMethod yX4_fullRounds, Cond.selects RX4 yX4_fullRounds yX4_fullRounds, Cond.code yX4_fullRounds cX4_fullRounds 4 (some .int), Cond.methodLink RX4 86 yX3_lack, Cond.methodLink RX4 80 yX3_portion, Cond.instanceMethod yX3_portion, Cond.selects RX3 yX3_portion yX3_portion, Cond.code yX3_portion cX3_portion 1 (some .int), Cond.methodLink RX4 70 yX4_orderByDemand, Cond.instanceMethod yX4_orderByDemand, Cond.selects RX4 yX4_orderByDemand yX4_orderByDemand, Cond.code yX4_orderByDemand cX4_orderByDemand 3 none, Cond.methodLink RX2 123 yX4_demandInAll, Cond.methodLink RX2 130 yX2_isShort, Cond.instanceMethod yX2_isShort, Cond.selects RX2 yX2_isShort yX2_isShort, Cond.code yX2_isShort cX2_isShort 2 (some .boolean)]
def wsX5_capacityFor : List Cond := .code yX5_capacityFor cX5_capacityFor 3 (some .int) :: ((wsX5_capacityFor_r1 ++ (wsX5_capacityFor_r2 ++ (wsX5_capacityFor_r3 ++ (wsX5_capacityFor_r4 ++ (wsX5_capacityFor_r5 ++ (wsX5_capacityFor_r6 ++ (wsX5_capacityFor_r7 ++ (wsX5_capacityFor_r8 ++ wsX5_capacityFor_r9)))))))) ++ wsX50 ++ wsX20 ++ wsX10 ++ wsX40 ++ wsX30 ++ (vx_atS RX5 228 "java/lang/IllegalArgumentException" ["java/lang/RuntimeException", "java/lang/Exception"]).filter goodWord)
def wsX5_bestRule_r1 : List Cond := [Cond.fieldLink RX5 16 "RainReservoir" "trial" "LRainReservoir$State;", Cond.fieldLink RX5 103 "RainReservoir$State" "rule" "I", Cond.fieldLink RX5 59 "RainReservoir$State" "users" "LRainReservoir$Users;", Cond.fieldLink RX5 127 "RainReservoir$State" "rainCount" "I", Cond.methodLink RX5 170 yX5_prepareTrial, Cond.instanceMethod yX5_prepareTrial, Cond.selects RX5 yX5_prepareTrial yX5_prepareTrial, Cond.initialized RX5, Cond.code yX5_prepareTrial cX5_prepareTrial 2 none, Cond.fieldLink RX5 10 "RainReservoir" "now" "LRainReservoir$State;", Cond.methodLink RX5 212 yX2_copyFrom, Cond.instanceMethod yX2_copyFrom, Cond.selects RX2 yX2_copyFrom yX2_copyFrom, Cond.initialized RX2, Cond.code yX2_copyFrom cX2_copyFrom 3 none, Cond.fieldLink RX2 9 "RainReservoir$State" "capacity" "I", Cond.fieldLink RX2 39 "RainReservoir$State" "floor" "I", Cond.fieldLink RX2 42 "RainReservoir$State" "topUp" "I", Cond.fieldLink RX2 45 "RainReservoir$State" "evaporation" "I", Cond.fieldLink RX2 15 "RainReservoir$State" "dryLimit" "I", Cond.fieldLink RX2 48 "RainReservoir$State" "rule" "I", Cond.fieldLink RX2 51 "RainReservoir$State" "roofCount" "I", Cond.fieldLink RX2 20 "RainReservoir$State" "roofs" "[LRainReservoir$Roof;", Cond.fieldLink RX2 28 "RainReservoir$State" "users" "LRainReservoir$Users;"]
def wsX5_bestRule_r2 : List Cond := [Cond.fieldLink RX2 61 "RainReservoir$State" "rainCount" "I", Cond.fieldLink RX2 32 "RainReservoir$State" "rains" "[I", Cond.methodLink RX2 64 arraycopyName, Cond.native arraycopyName, Cond.static arraycopyName, Cond.initialized "java/lang/System", Cond.fieldLink RX2 70 "RainReservoir$State" "doneCount" "I", Cond.fieldLink RX2 36 "RainReservoir$State" "accounts" "[I", Cond.fieldLink RX2 73 "RainReservoir$State" "level" "I", Cond.fieldLink RX2 76 "RainReservoir$State" "dryDays" "I", Cond.fieldLink RX2 79 "RainReservoir$State" "looseOverflow" "J", Cond.methodLink RX2 54 yX1_copyFrom, Cond.instanceMethod yX1_copyFrom, Cond.selects RX1 yX1_copyFrom yX1_copyFrom, Cond.initialized RX1, Cond.code yX1_copyFrom cX1_copyFrom 2 none, Cond.fieldLink RX1 7 "RainReservoir$Roof" "area" "I", Cond.fieldLink RX1 13 "RainReservoir$Roof" "yieldPercent" "I", Cond.fieldLink RX1 16 "RainReservoir$Roof" "flush" "I", Cond.fieldLink RX1 19 "RainReservoir$Roof" "gutter" "I", Cond.fieldLink RX1 29 "RainReservoir$Roof" "water" "I", Cond.fieldLink RX1 32 "RainReservoir$Roof" "spilledInAll" "I", Cond.methodLink RX1 25 yX1_set, Cond.instanceMethod yX1_set]
def wsX5_bestRule_r3 : List Cond := [Cond.selects RX1 yX1_set yX1_set, Cond.code yX1_set cX1_set 5 none, Cond.methodLink RX1 22 yX1_clearAmounts, Cond.instanceMethod yX1_clearAmounts, Cond.selects RX1 yX1_clearAmounts yX1_clearAmounts, Cond.code yX1_clearAmounts cX1_clearAmounts 1 none, Cond.methodLink RX2 58 yX4_copyFrom, Cond.instanceMethod yX4_copyFrom, Cond.selects RX4 yX4_copyFrom yX4_copyFrom, Cond.initialized RX4, Cond.code yX4_copyFrom cX4_copyFrom 3 none, Cond.fieldLink RX4 22 "RainReservoir$Users" "count" "I", Cond.fieldLink RX4 11 "RainReservoir$Users" "rows" "[LRainReservoir$User;", Cond.methodLink RX4 26 yX3_copyFrom, Cond.instanceMethod yX3_copyFrom, Cond.selects RX3 yX3_copyFrom yX3_copyFrom, Cond.initialized RX3, Cond.code yX3_copyFrom cX3_copyFrom 2 none, Cond.fieldLink RX3 9 "RainReservoir$User" "demand" "I", Cond.fieldLink RX3 15 "RainReservoir$User" "weight" "I", Cond.fieldLink RX3 25 "RainReservoir$User" "gotLatest" "I", Cond.fieldLink RX3 28 "RainReservoir$User" "gotInAll" "I", Cond.methodLink RX3 21 yX3_set, Cond.instanceMethod yX3_set]
def wsX5_bestRule_r4 : List Cond := [Cond.selects RX3 yX3_set yX3_set, Cond.code yX3_set cX3_set 3 none, Cond.methodLink RX3 18 yX3_clearAmounts, Cond.instanceMethod yX3_clearAmounts, Cond.selects RX3 yX3_clearAmounts yX3_clearAmounts, Cond.code yX3_clearAmounts cX3_clearAmounts 1 none, Cond.methodLink RX5 158 yX2_goBack, Cond.instanceMethod yX2_goBack, Cond.selects RX2 yX2_goBack yX2_goBack, Cond.code yX2_goBack cX2_goBack 2 none, Cond.methodLink RX2 83 yX1_clearAmounts, Cond.methodLink RX2 86 yX4_clearAmounts, Cond.instanceMethod yX4_clearAmounts, Cond.selects RX4 yX4_clearAmounts yX4_clearAmounts, Cond.code yX4_clearAmounts cX4_clearAmounts 2 none, Cond.methodLink RX4 30 yX3_clearAmounts, Cond.methodLink RX5 148 yX2_collect, Cond.instanceMethod yX2_collect, Cond.selects RX2 yX2_collect yX2_collect, Cond.code yX2_collect cX2_collect 11 none, Cond.methodLink RX2 99 yX2_drainWhenDry, Cond.instanceMethod yX2_drainWhenDry, Cond.selects RX2 yX2_drainWhenDry yX2_drainWhenDry, Cond.code yX2_drainWhenDry cX2_drainWhenDry 4 (some .int)]
def wsX5_bestRule_r5 : List Cond := [Cond.methodLink RX2 134 yX1_drain, Cond.instanceMethod yX1_drain, Cond.selects RX1 yX1_drain yX1_drain, Cond.code yX1_drain cX1_drain 2 (some .int), Cond.methodLink RX2 103 yX1_caught, Cond.instanceMethod yX1_caught, Cond.selects RX1 yX1_caught yX1_caught, Cond.code yX1_caught cX1_caught 2 (some .int), Cond.methodLink RX2 106 yX1_divert, Cond.instanceMethod yX1_divert, Cond.selects RX1 yX1_divert yX1_divert, Cond.code yX1_divert cX1_divert 3 (some .int), Cond.methodLink RX1 35 Lib.Math.min.name, Cond.static Lib.Math.min.name, Cond.initialized "java/lang/Math", Cond.code Lib.Math.min.name Lib.Math.min.code 2 (some .int), Cond.methodLink RX2 109 yX1_spill, Cond.instanceMethod yX1_spill, Cond.selects RX1 yX1_spill yX1_spill, Cond.code yX1_spill cX1_spill 3 (some .int), Cond.methodLink RX1 41 Lib.Math.max.name, Cond.static Lib.Math.max.name, Cond.code Lib.Math.max.name Lib.Math.max.code 2 (some .int), Cond.methodLink RX2 112 yX2_put]
def wsX5_bestRule_r6 : List Cond := [Cond.instanceMethod yX2_put, Cond.selects RX2 yX2_put yX2_put, Cond.code yX2_put cX2_put 4 none, Cond.methodLink RX5 176 yX2_serveAll, Cond.instanceMethod yX2_serveAll, Cond.selects RX2 yX2_serveAll yX2_serveAll, Cond.code yX2_serveAll cX2_serveAll 4 (some .int), Cond.methodLink RX2 126 yX2_serve, Cond.instanceMethod yX2_serve, Cond.selects RX2 yX2_serve yX2_serve, Cond.code yX2_serve cX2_serve 5 none, Cond.methodLink RX2 94 Lib.Math.max.name, Cond.methodLink RX2 90 yX2_account, Cond.instanceMethod yX2_account, Cond.selects RX2 yX2_account yX2_account, Cond.code yX2_account cX2_account 3 (some .int), Cond.methodLink RX2 116 yX2_dropAboveCapacity, Cond.instanceMethod yX2_dropAboveCapacity, Cond.selects RX2 yX2_dropAboveCapacity yX2_dropAboveCapacity, Cond.code yX2_dropAboveCapacity cX2_dropAboveCapacity 2 (some .int), Cond.methodLink RX2 120 yX4_handOut, Cond.instanceMethod yX4_handOut, Cond.selects RX4 yX4_handOut yX4_handOut, Cond.code yX4_handOut cX4_handOut 6 (some .int)]
def wsX5_bestRule_r7 : List Cond := [Cond.fieldLink RX4 45 "RainReservoir$User" "gotLatest" "I", Cond.fieldLink RX4 36 "RainReservoir$User" "gotInAll" "I", Cond.methodLink RX4 48 yX4_demandInAll, Cond.instanceMethod yX4_demandInAll, Cond.selects RX4 yX4_demandInAll yX4_demandInAll, Cond.code yX4_demandInAll cX4_demandInAll 3 (some .int), Cond.fieldLink RX4 33 "RainReservoir$User" "demand" "I", Cond.methodLink RX4 52 yX4_orderByNumber, Cond.instanceMethod yX4_orderByNumber, Cond.selects RX4 yX4_orderByNumber yX4_orderByNumber, Cond.code yX4_orderByNumber cX4_orderByNumber 2 none, Cond.fieldLink RX4 18 "RainReservoir$Users" "order" "[I", Cond.methodLink RX4 55 yX4_serveOrder, Cond.instanceMethod yX4_serveOrder, Cond.selects RX4 yX4_serveOrder yX4_serveOrder, Cond.code yX4_serveOrder cX4_serveOrder 4 none, Cond.methodLink RX4 73 yX3_give, Cond.instanceMethod yX3_give, Cond.selects RX3 yX3_give yX3_give, Cond.code yX3_give cX3_give 3 (some .int), Cond.methodLink RX3 35 Lib.Math.min.name, Cond.methodLink RX3 31 yX3_lack, Cond.instanceMethod yX3_lack, Cond.selects RX3 yX3_lack yX3_lack]
def wsX5_bestRule_r8 : List Cond := [Cond.code yX3_lack cX3_lack 1 (some .int), Cond.methodLink RX4 59 yX4_share, Cond.instanceMethod yX4_share, Cond.selects RX4 yX4_share yX4_share, Cond.code yX4_share cX4_share 4 none, Cond.methodLink RX4 63 yX4_shareByDemand, Cond.instanceMethod yX4_shareByDemand, Cond.selects RX4 yX4_shareByDemand yX4_shareByDemand, Cond.code yX4_shareByDemand cX4_shareByDemand 7 none, Cond.methodLink RX4 67 yX4_shareInRounds, Cond.instanceMethod yX4_shareInRounds, Cond.selects RX4 yX4_shareInRounds yX4_shareInRounds, Cond.code yX4_shareInRounds cX4_shareInRounds 6 none, Cond.methodLink RX4 83 Lib.Math.min.name, Cond.methodLink RX4 77 yX4_fullRounds, Cond.instanceMethod yX4_fullRounds, Cond.selects RX4 yX4_fullRounds yX4_fullRounds, Cond.code yX4_fullRounds cX4_fullRounds 4 (some .int), Cond.methodLink RX4 86 yX3_lack, Cond.methodLink RX4 80 yX3_portion, Cond.instanceMethod yX3_portion, Cond.selects RX3 yX3_portion yX3_portion, Cond.code yX3_portion cX3_portion 1 (some .int), Cond.methodLink RX4 70 yX4_orderByDemand]
def wsX5_bestRule_r9 : List Cond := [Cond.instanceMethod yX4_orderByDemand, Cond.selects RX4 yX4_orderByDemand yX4_orderByDemand, Cond.code yX4_orderByDemand cX4_orderByDemand 3 none, Cond.methodLink RX2 123 yX4_demandInAll, Cond.methodLink RX2 130 yX2_isShort, Cond.instanceMethod yX2_isShort, Cond.selects RX2 yX2_isShort yX2_isShort, Cond.code yX2_isShort cX2_isShort 2 (some .boolean), Cond.methodLink RX5 179 yX4_greatestLack, Cond.instanceMethod yX4_greatestLack, Cond.selects RX4 yX4_greatestLack yX4_greatestLack, Cond.code yX4_greatestLack cX4_greatestLack 4 (some .int), Cond.methodLink RX4 39 Lib.Math.max.name]
def wsX5_bestRule : List Cond := .code yX5_bestRule cX5_bestRule 5 (some .int) :: ((wsX5_bestRule_r1 ++ (wsX5_bestRule_r2 ++ (wsX5_bestRule_r3 ++ (wsX5_bestRule_r4 ++ (wsX5_bestRule_r5 ++ (wsX5_bestRule_r6 ++ (wsX5_bestRule_r7 ++ (wsX5_bestRule_r8 ++ wsX5_bestRule_r9)))))))) ++ wsX50 ++ wsX20 ++ wsX10 ++ wsX40 ++ wsX30)
def wsX5_sustainable_r1 : List Cond := [Cond.fieldLink RX5 16 "RainReservoir" "trial" "LRainReservoir$State;", Cond.fieldLink RX5 59 "RainReservoir$State" "users" "LRainReservoir$Users;", Cond.fieldLink RX5 10 "RainReservoir" "now" "LRainReservoir$State;", Cond.methodLink RX5 170 yX5_prepareTrial, Cond.instanceMethod yX5_prepareTrial, Cond.selects RX5 yX5_prepareTrial yX5_prepareTrial, Cond.initialized RX5, Cond.code yX5_prepareTrial cX5_prepareTrial 2 none, Cond.fieldLink RX5 127 "RainReservoir$State" "rainCount" "I", Cond.methodLink RX5 212 yX2_copyFrom, Cond.instanceMethod yX2_copyFrom, Cond.selects RX2 yX2_copyFrom yX2_copyFrom, Cond.initialized RX2, Cond.code yX2_copyFrom cX2_copyFrom 3 none, Cond.fieldLink RX2 9 "RainReservoir$State" "capacity" "I", Cond.fieldLink RX2 39 "RainReservoir$State" "floor" "I", Cond.fieldLink RX2 42 "RainReservoir$State" "topUp" "I", Cond.fieldLink RX2 45 "RainReservoir$State" "evaporation" "I", Cond.fieldLink RX2 15 "RainReservoir$State" "dryLimit" "I", Cond.fieldLink RX2 48 "RainReservoir$State" "rule" "I", Cond.fieldLink RX2 51 "RainReservoir$State" "roofCount" "I", Cond.fieldLink RX2 20 "RainReservoir$State" "roofs" "[LRainReservoir$Roof;", Cond.fieldLink RX2 28 "RainReservoir$State" "users" "LRainReservoir$Users;", Cond.fieldLink RX2 61 "RainReservoir$State" "rainCount" "I"]
def wsX5_sustainable_r2 : List Cond := [Cond.fieldLink RX2 32 "RainReservoir$State" "rains" "[I", Cond.methodLink RX2 64 arraycopyName, Cond.native arraycopyName, Cond.static arraycopyName, Cond.initialized "java/lang/System", Cond.fieldLink RX2 70 "RainReservoir$State" "doneCount" "I", Cond.fieldLink RX2 36 "RainReservoir$State" "accounts" "[I", Cond.fieldLink RX2 73 "RainReservoir$State" "level" "I", Cond.fieldLink RX2 76 "RainReservoir$State" "dryDays" "I", Cond.fieldLink RX2 79 "RainReservoir$State" "looseOverflow" "J", Cond.methodLink RX2 54 yX1_copyFrom, Cond.instanceMethod yX1_copyFrom, Cond.selects RX1 yX1_copyFrom yX1_copyFrom, Cond.initialized RX1, Cond.code yX1_copyFrom cX1_copyFrom 2 none, Cond.fieldLink RX1 7 "RainReservoir$Roof" "area" "I", Cond.fieldLink RX1 13 "RainReservoir$Roof" "yieldPercent" "I", Cond.fieldLink RX1 16 "RainReservoir$Roof" "flush" "I", Cond.fieldLink RX1 19 "RainReservoir$Roof" "gutter" "I", Cond.fieldLink RX1 29 "RainReservoir$Roof" "water" "I", Cond.fieldLink RX1 32 "RainReservoir$Roof" "spilledInAll" "I", Cond.methodLink RX1 25 yX1_set, Cond.instanceMethod yX1_set, Cond.selects RX1 yX1_set yX1_set]
def wsX5_sustainable_r3 : List Cond := [Cond.code yX1_set cX1_set 5 none, Cond.methodLink RX1 22 yX1_clearAmounts, Cond.instanceMethod yX1_clearAmounts, Cond.selects RX1 yX1_clearAmounts yX1_clearAmounts, Cond.code yX1_clearAmounts cX1_clearAmounts 1 none, Cond.methodLink RX2 58 yX4_copyFrom, Cond.instanceMethod yX4_copyFrom, Cond.selects RX4 yX4_copyFrom yX4_copyFrom, Cond.initialized RX4, Cond.code yX4_copyFrom cX4_copyFrom 3 none, Cond.fieldLink RX4 22 "RainReservoir$Users" "count" "I", Cond.fieldLink RX4 11 "RainReservoir$Users" "rows" "[LRainReservoir$User;", Cond.methodLink RX4 26 yX3_copyFrom, Cond.instanceMethod yX3_copyFrom, Cond.selects RX3 yX3_copyFrom yX3_copyFrom, Cond.initialized RX3, Cond.code yX3_copyFrom cX3_copyFrom 2 none, Cond.fieldLink RX3 9 "RainReservoir$User" "demand" "I", Cond.fieldLink RX3 15 "RainReservoir$User" "weight" "I", Cond.fieldLink RX3 25 "RainReservoir$User" "gotLatest" "I", Cond.fieldLink RX3 28 "RainReservoir$User" "gotInAll" "I", Cond.methodLink RX3 21 yX3_set, Cond.instanceMethod yX3_set, Cond.selects RX3 yX3_set yX3_set]
def wsX5_sustainable_r4 : List Cond := [Cond.code yX3_set cX3_set 3 none, Cond.methodLink RX3 18 yX3_clearAmounts, Cond.instanceMethod yX3_clearAmounts, Cond.selects RX3 yX3_clearAmounts yX3_clearAmounts, Cond.code yX3_clearAmounts cX3_clearAmounts 1 none, Cond.methodLink RX5 158 yX2_goBack, Cond.instanceMethod yX2_goBack, Cond.selects RX2 yX2_goBack yX2_goBack, Cond.code yX2_goBack cX2_goBack 2 none, Cond.methodLink RX2 83 yX1_clearAmounts, Cond.methodLink RX2 86 yX4_clearAmounts, Cond.instanceMethod yX4_clearAmounts, Cond.selects RX4 yX4_clearAmounts yX4_clearAmounts, Cond.code yX4_clearAmounts cX4_clearAmounts 2 none, Cond.methodLink RX4 30 yX3_clearAmounts, Cond.methodLink RX5 148 yX2_collect, Cond.instanceMethod yX2_collect, Cond.selects RX2 yX2_collect yX2_collect, Cond.code yX2_collect cX2_collect 11 none, Cond.methodLink RX2 99 yX2_drainWhenDry, Cond.instanceMethod yX2_drainWhenDry, Cond.selects RX2 yX2_drainWhenDry yX2_drainWhenDry, Cond.code yX2_drainWhenDry cX2_drainWhenDry 4 (some .int), Cond.methodLink RX2 134 yX1_drain]
def wsX5_sustainable_r5 : List Cond := [Cond.instanceMethod yX1_drain, Cond.selects RX1 yX1_drain yX1_drain, Cond.code yX1_drain cX1_drain 2 (some .int), Cond.methodLink RX2 103 yX1_caught, Cond.instanceMethod yX1_caught, Cond.selects RX1 yX1_caught yX1_caught, Cond.code yX1_caught cX1_caught 2 (some .int), Cond.methodLink RX2 106 yX1_divert, Cond.instanceMethod yX1_divert, Cond.selects RX1 yX1_divert yX1_divert, Cond.code yX1_divert cX1_divert 3 (some .int), Cond.methodLink RX1 35 Lib.Math.min.name, Cond.static Lib.Math.min.name, Cond.initialized "java/lang/Math", Cond.code Lib.Math.min.name Lib.Math.min.code 2 (some .int), Cond.methodLink RX2 109 yX1_spill, Cond.instanceMethod yX1_spill, Cond.selects RX1 yX1_spill yX1_spill, Cond.code yX1_spill cX1_spill 3 (some .int), Cond.methodLink RX1 41 Lib.Math.max.name, Cond.static Lib.Math.max.name, Cond.code Lib.Math.max.name Lib.Math.max.code 2 (some .int), Cond.methodLink RX2 112 yX2_put, Cond.instanceMethod yX2_put]
def wsX5_sustainable_r6 : List Cond := [Cond.selects RX2 yX2_put yX2_put, Cond.code yX2_put cX2_put 4 none, Cond.methodLink RX5 182 yX4_scaleDemands, Cond.instanceMethod yX4_scaleDemands, Cond.selects RX4 yX4_scaleDemands yX4_scaleDemands, Cond.code yX4_scaleDemands cX4_scaleDemands 4 none, Cond.fieldLink RX4 33 "RainReservoir$User" "demand" "I", Cond.methodLink RX5 176 yX2_serveAll, Cond.instanceMethod yX2_serveAll, Cond.selects RX2 yX2_serveAll yX2_serveAll, Cond.code yX2_serveAll cX2_serveAll 4 (some .int), Cond.methodLink RX2 126 yX2_serve, Cond.instanceMethod yX2_serve, Cond.selects RX2 yX2_serve yX2_serve, Cond.code yX2_serve cX2_serve 5 none, Cond.methodLink RX2 94 Lib.Math.max.name, Cond.methodLink RX2 90 yX2_account, Cond.instanceMethod yX2_account, Cond.selects RX2 yX2_account yX2_account, Cond.code yX2_account cX2_account 3 (some .int), Cond.methodLink RX2 116 yX2_dropAboveCapacity, Cond.instanceMethod yX2_dropAboveCapacity, Cond.selects RX2 yX2_dropAboveCapacity yX2_dropAboveCapacity, Cond.code yX2_dropAboveCapacity cX2_dropAboveCapacity 2 (some .int)]
def wsX5_sustainable_r7 : List Cond := [Cond.methodLink RX2 120 yX4_handOut, Cond.instanceMethod yX4_handOut, Cond.selects RX4 yX4_handOut yX4_handOut, Cond.code yX4_handOut cX4_handOut 6 (some .int), Cond.fieldLink RX4 45 "RainReservoir$User" "gotLatest" "I", Cond.fieldLink RX4 36 "RainReservoir$User" "gotInAll" "I", Cond.methodLink RX4 48 yX4_demandInAll, Cond.instanceMethod yX4_demandInAll, Cond.selects RX4 yX4_demandInAll yX4_demandInAll, Cond.code yX4_demandInAll cX4_demandInAll 3 (some .int), Cond.methodLink RX4 52 yX4_orderByNumber, Cond.instanceMethod yX4_orderByNumber, Cond.selects RX4 yX4_orderByNumber yX4_orderByNumber, Cond.code yX4_orderByNumber cX4_orderByNumber 2 none, Cond.fieldLink RX4 18 "RainReservoir$Users" "order" "[I", Cond.methodLink RX4 55 yX4_serveOrder, Cond.instanceMethod yX4_serveOrder, Cond.selects RX4 yX4_serveOrder yX4_serveOrder, Cond.code yX4_serveOrder cX4_serveOrder 4 none, Cond.methodLink RX4 73 yX3_give, Cond.instanceMethod yX3_give, Cond.selects RX3 yX3_give yX3_give, Cond.code yX3_give cX3_give 3 (some .int), Cond.methodLink RX3 35 Lib.Math.min.name]
def wsX5_sustainable_r8 : List Cond := [Cond.methodLink RX3 31 yX3_lack, Cond.instanceMethod yX3_lack, Cond.selects RX3 yX3_lack yX3_lack, Cond.code yX3_lack cX3_lack 1 (some .int), Cond.methodLink RX4 59 yX4_share, Cond.instanceMethod yX4_share, Cond.selects RX4 yX4_share yX4_share, Cond.code yX4_share cX4_share 4 none, Cond.methodLink RX4 63 yX4_shareByDemand, Cond.instanceMethod yX4_shareByDemand, Cond.selects RX4 yX4_shareByDemand yX4_shareByDemand, Cond.code yX4_shareByDemand cX4_shareByDemand 7 none, Cond.methodLink RX4 67 yX4_shareInRounds, Cond.instanceMethod yX4_shareInRounds, Cond.selects RX4 yX4_shareInRounds yX4_shareInRounds, Cond.code yX4_shareInRounds cX4_shareInRounds 6 none, Cond.methodLink RX4 83 Lib.Math.min.name, Cond.methodLink RX4 77 yX4_fullRounds, Cond.instanceMethod yX4_fullRounds, Cond.selects RX4 yX4_fullRounds yX4_fullRounds, Cond.code yX4_fullRounds cX4_fullRounds 4 (some .int), Cond.methodLink RX4 86 yX3_lack, Cond.methodLink RX4 80 yX3_portion, Cond.instanceMethod yX3_portion]
def wsX5_sustainable_r9 : List Cond := [Cond.selects RX3 yX3_portion yX3_portion, Cond.code yX3_portion cX3_portion 1 (some .int), Cond.methodLink RX4 70 yX4_orderByDemand, Cond.instanceMethod yX4_orderByDemand, Cond.selects RX4 yX4_orderByDemand yX4_orderByDemand, Cond.code yX4_orderByDemand cX4_orderByDemand 3 none, Cond.methodLink RX2 123 yX4_demandInAll, Cond.methodLink RX2 130 yX2_isShort, Cond.instanceMethod yX2_isShort, Cond.selects RX2 yX2_isShort yX2_isShort, Cond.code yX2_isShort cX2_isShort 2 (some .boolean)]
def wsX5_sustainable : List Cond := .code yX5_sustainable cX5_sustainable 2 (some .int) :: ((wsX5_sustainable_r1 ++ (wsX5_sustainable_r2 ++ (wsX5_sustainable_r3 ++ (wsX5_sustainable_r4 ++ (wsX5_sustainable_r5 ++ (wsX5_sustainable_r6 ++ (wsX5_sustainable_r7 ++ (wsX5_sustainable_r8 ++ wsX5_sustainable_r9)))))))) ++ wsX50 ++ wsX20 ++ wsX10 ++ wsX40 ++ wsX30)
def wsX5_gutterLoss_r1 : List Cond := [Cond.fieldLink RX5 10 "RainReservoir" "now" "LRainReservoir$State;", Cond.fieldLink RX5 35 "RainReservoir$State" "roofCount" "I", Cond.fieldLink RX5 16 "RainReservoir" "trial" "LRainReservoir$State;", Cond.fieldLink RX5 49 "RainReservoir$State" "roofs" "[LRainReservoir$Roof;", Cond.fieldLink RX5 186 "RainReservoir$Roof" "spilledInAll" "I", Cond.methodLink RX5 79 yX5_checkIndex, Cond.static yX5_checkIndex, Cond.initialized RX5, Cond.code yX5_checkIndex cX5_checkIndex 2 none, Cond.classLink RX5 229 "java/lang/IndexOutOfBoundsException", Cond.initialized "java/lang/IndexOutOfBoundsException", Cond.methodLink RX5 170 yX5_prepareTrial, Cond.instanceMethod yX5_prepareTrial, Cond.selects RX5 yX5_prepareTrial yX5_prepareTrial, Cond.code yX5_prepareTrial cX5_prepareTrial 2 none, Cond.fieldLink RX5 127 "RainReservoir$State" "rainCount" "I", Cond.methodLink RX5 212 yX2_copyFrom, Cond.instanceMethod yX2_copyFrom, Cond.selects RX2 yX2_copyFrom yX2_copyFrom, Cond.initialized RX2, Cond.code yX2_copyFrom cX2_copyFrom 3 none, Cond.fieldLink RX2 9 "RainReservoir$State" "capacity" "I", Cond.fieldLink RX2 39 "RainReservoir$State" "floor" "I", Cond.fieldLink RX2 42 "RainReservoir$State" "topUp" "I"]
def wsX5_gutterLoss_r2 : List Cond := [Cond.fieldLink RX2 45 "RainReservoir$State" "evaporation" "I", Cond.fieldLink RX2 15 "RainReservoir$State" "dryLimit" "I", Cond.fieldLink RX2 48 "RainReservoir$State" "rule" "I", Cond.fieldLink RX2 51 "RainReservoir$State" "roofCount" "I", Cond.fieldLink RX2 20 "RainReservoir$State" "roofs" "[LRainReservoir$Roof;", Cond.fieldLink RX2 28 "RainReservoir$State" "users" "LRainReservoir$Users;", Cond.fieldLink RX2 61 "RainReservoir$State" "rainCount" "I", Cond.fieldLink RX2 32 "RainReservoir$State" "rains" "[I", Cond.methodLink RX2 64 arraycopyName, Cond.native arraycopyName, Cond.static arraycopyName, Cond.initialized "java/lang/System", Cond.fieldLink RX2 70 "RainReservoir$State" "doneCount" "I", Cond.fieldLink RX2 36 "RainReservoir$State" "accounts" "[I", Cond.fieldLink RX2 73 "RainReservoir$State" "level" "I", Cond.fieldLink RX2 76 "RainReservoir$State" "dryDays" "I", Cond.fieldLink RX2 79 "RainReservoir$State" "looseOverflow" "J", Cond.methodLink RX2 54 yX1_copyFrom, Cond.instanceMethod yX1_copyFrom, Cond.selects RX1 yX1_copyFrom yX1_copyFrom, Cond.initialized RX1, Cond.code yX1_copyFrom cX1_copyFrom 2 none, Cond.fieldLink RX1 7 "RainReservoir$Roof" "area" "I", Cond.fieldLink RX1 13 "RainReservoir$Roof" "yieldPercent" "I"]
def wsX5_gutterLoss_r3 : List Cond := [Cond.fieldLink RX1 16 "RainReservoir$Roof" "flush" "I", Cond.fieldLink RX1 19 "RainReservoir$Roof" "gutter" "I", Cond.fieldLink RX1 29 "RainReservoir$Roof" "water" "I", Cond.fieldLink RX1 32 "RainReservoir$Roof" "spilledInAll" "I", Cond.methodLink RX1 25 yX1_set, Cond.instanceMethod yX1_set, Cond.selects RX1 yX1_set yX1_set, Cond.code yX1_set cX1_set 5 none, Cond.methodLink RX1 22 yX1_clearAmounts, Cond.instanceMethod yX1_clearAmounts, Cond.selects RX1 yX1_clearAmounts yX1_clearAmounts, Cond.code yX1_clearAmounts cX1_clearAmounts 1 none, Cond.methodLink RX2 58 yX4_copyFrom, Cond.instanceMethod yX4_copyFrom, Cond.selects RX4 yX4_copyFrom yX4_copyFrom, Cond.initialized RX4, Cond.code yX4_copyFrom cX4_copyFrom 3 none, Cond.fieldLink RX4 22 "RainReservoir$Users" "count" "I", Cond.fieldLink RX4 11 "RainReservoir$Users" "rows" "[LRainReservoir$User;", Cond.methodLink RX4 26 yX3_copyFrom, Cond.instanceMethod yX3_copyFrom, Cond.selects RX3 yX3_copyFrom yX3_copyFrom, Cond.initialized RX3, Cond.code yX3_copyFrom cX3_copyFrom 2 none]
def wsX5_gutterLoss_r4 : List Cond := [Cond.fieldLink RX3 9 "RainReservoir$User" "demand" "I", Cond.fieldLink RX3 15 "RainReservoir$User" "weight" "I", Cond.fieldLink RX3 25 "RainReservoir$User" "gotLatest" "I", Cond.fieldLink RX3 28 "RainReservoir$User" "gotInAll" "I", Cond.methodLink RX3 21 yX3_set, Cond.instanceMethod yX3_set, Cond.selects RX3 yX3_set yX3_set, Cond.code yX3_set cX3_set 3 none, Cond.methodLink RX3 18 yX3_clearAmounts, Cond.instanceMethod yX3_clearAmounts, Cond.selects RX3 yX3_clearAmounts yX3_clearAmounts, Cond.code yX3_clearAmounts cX3_clearAmounts 1 none, Cond.methodLink RX5 158 yX2_goBack, Cond.instanceMethod yX2_goBack, Cond.selects RX2 yX2_goBack yX2_goBack, Cond.code yX2_goBack cX2_goBack 2 none, Cond.methodLink RX2 83 yX1_clearAmounts, Cond.methodLink RX2 86 yX4_clearAmounts, Cond.instanceMethod yX4_clearAmounts, Cond.selects RX4 yX4_clearAmounts yX4_clearAmounts, Cond.code yX4_clearAmounts cX4_clearAmounts 2 none, Cond.methodLink RX4 30 yX3_clearAmounts, Cond.methodLink RX5 148 yX2_collect, Cond.instanceMethod yX2_collect]
def wsX5_gutterLoss_r5 : List Cond := [Cond.selects RX2 yX2_collect yX2_collect, Cond.code yX2_collect cX2_collect 11 none, Cond.methodLink RX2 99 yX2_drainWhenDry, Cond.instanceMethod yX2_drainWhenDry, Cond.selects RX2 yX2_drainWhenDry yX2_drainWhenDry, Cond.code yX2_drainWhenDry cX2_drainWhenDry 4 (some .int), Cond.methodLink RX2 134 yX1_drain, Cond.instanceMethod yX1_drain, Cond.selects RX1 yX1_drain yX1_drain, Cond.code yX1_drain cX1_drain 2 (some .int), Cond.methodLink RX2 103 yX1_caught, Cond.instanceMethod yX1_caught, Cond.selects RX1 yX1_caught yX1_caught, Cond.code yX1_caught cX1_caught 2 (some .int), Cond.methodLink RX2 106 yX1_divert, Cond.instanceMethod yX1_divert, Cond.selects RX1 yX1_divert yX1_divert, Cond.code yX1_divert cX1_divert 3 (some .int), Cond.methodLink RX1 35 Lib.Math.min.name, Cond.static Lib.Math.min.name, Cond.initialized "java/lang/Math", Cond.code Lib.Math.min.name Lib.Math.min.code 2 (some .int), Cond.methodLink RX2 109 yX1_spill, Cond.instanceMethod yX1_spill]
def wsX5_gutterLoss_r6 : List Cond := [Cond.selects RX1 yX1_spill yX1_spill, Cond.code yX1_spill cX1_spill 3 (some .int), Cond.methodLink RX1 41 Lib.Math.max.name, Cond.static Lib.Math.max.name, Cond.code Lib.Math.max.name Lib.Math.max.code 2 (some .int), Cond.methodLink RX2 112 yX2_put, Cond.instanceMethod yX2_put, Cond.selects RX2 yX2_put yX2_put, Cond.code yX2_put cX2_put 4 none]
def wsX5_gutterLoss : List Cond := .code yX5_gutterLoss cX5_gutterLoss 2 (some .long) :: ((wsX5_gutterLoss_r1 ++ (wsX5_gutterLoss_r2 ++ (wsX5_gutterLoss_r3 ++ (wsX5_gutterLoss_r4 ++ (wsX5_gutterLoss_r5 ++ wsX5_gutterLoss_r6))))) ++ wsX50 ++ wsX20 ++ wsX10 ++ wsX40 ++ wsX30 ++ (vx_atS RX5 233 "java/lang/IndexOutOfBoundsException" ["java/lang/RuntimeException", "java/lang/Exception"]).filter goodWord)
def wsX5_undo_r1 : List Cond := [Cond.classLink RX5 39 "java/lang/IllegalStateException", Cond.initialized "java/lang/IllegalStateException", Cond.fieldLink RX5 207 "RainReservoir" "savedCount" "I", Cond.fieldLink RX5 10 "RainReservoir" "now" "LRainReservoir$State;", Cond.fieldLink RX5 19 "RainReservoir" "saved" "[LRainReservoir$State;", Cond.methodLink RX5 212 yX2_copyFrom, Cond.instanceMethod yX2_copyFrom, Cond.selects RX2 yX2_copyFrom yX2_copyFrom, Cond.initialized RX2, Cond.code yX2_copyFrom cX2_copyFrom 3 none, Cond.fieldLink RX2 9 "RainReservoir$State" "capacity" "I", Cond.fieldLink RX2 39 "RainReservoir$State" "floor" "I", Cond.fieldLink RX2 42 "RainReservoir$State" "topUp" "I", Cond.fieldLink RX2 45 "RainReservoir$State" "evaporation" "I", Cond.fieldLink RX2 15 "RainReservoir$State" "dryLimit" "I", Cond.fieldLink RX2 48 "RainReservoir$State" "rule" "I", Cond.fieldLink RX2 51 "RainReservoir$State" "roofCount" "I", Cond.fieldLink RX2 20 "RainReservoir$State" "roofs" "[LRainReservoir$Roof;", Cond.fieldLink RX2 28 "RainReservoir$State" "users" "LRainReservoir$Users;", Cond.fieldLink RX2 61 "RainReservoir$State" "rainCount" "I", Cond.fieldLink RX2 32 "RainReservoir$State" "rains" "[I", Cond.methodLink RX2 64 arraycopyName, Cond.native arraycopyName, Cond.static arraycopyName]
def wsX5_undo_r2 : List Cond := [Cond.initialized "java/lang/System", Cond.fieldLink RX2 70 "RainReservoir$State" "doneCount" "I", Cond.fieldLink RX2 36 "RainReservoir$State" "accounts" "[I", Cond.fieldLink RX2 73 "RainReservoir$State" "level" "I", Cond.fieldLink RX2 76 "RainReservoir$State" "dryDays" "I", Cond.fieldLink RX2 79 "RainReservoir$State" "looseOverflow" "J", Cond.methodLink RX2 54 yX1_copyFrom, Cond.instanceMethod yX1_copyFrom, Cond.selects RX1 yX1_copyFrom yX1_copyFrom, Cond.initialized RX1, Cond.code yX1_copyFrom cX1_copyFrom 2 none, Cond.fieldLink RX1 7 "RainReservoir$Roof" "area" "I", Cond.fieldLink RX1 13 "RainReservoir$Roof" "yieldPercent" "I", Cond.fieldLink RX1 16 "RainReservoir$Roof" "flush" "I", Cond.fieldLink RX1 19 "RainReservoir$Roof" "gutter" "I", Cond.fieldLink RX1 29 "RainReservoir$Roof" "water" "I", Cond.fieldLink RX1 32 "RainReservoir$Roof" "spilledInAll" "I", Cond.methodLink RX1 25 yX1_set, Cond.instanceMethod yX1_set, Cond.selects RX1 yX1_set yX1_set, Cond.code yX1_set cX1_set 5 none, Cond.methodLink RX1 22 yX1_clearAmounts, Cond.instanceMethod yX1_clearAmounts, Cond.selects RX1 yX1_clearAmounts yX1_clearAmounts]
def wsX5_undo_r3 : List Cond := [Cond.code yX1_clearAmounts cX1_clearAmounts 1 none, Cond.methodLink RX2 58 yX4_copyFrom, Cond.instanceMethod yX4_copyFrom, Cond.selects RX4 yX4_copyFrom yX4_copyFrom, Cond.initialized RX4, Cond.code yX4_copyFrom cX4_copyFrom 3 none, Cond.fieldLink RX4 22 "RainReservoir$Users" "count" "I", Cond.fieldLink RX4 11 "RainReservoir$Users" "rows" "[LRainReservoir$User;", Cond.methodLink RX4 26 yX3_copyFrom, Cond.instanceMethod yX3_copyFrom, Cond.selects RX3 yX3_copyFrom yX3_copyFrom, Cond.initialized RX3, Cond.code yX3_copyFrom cX3_copyFrom 2 none, Cond.fieldLink RX3 9 "RainReservoir$User" "demand" "I", Cond.fieldLink RX3 15 "RainReservoir$User" "weight" "I", Cond.fieldLink RX3 25 "RainReservoir$User" "gotLatest" "I", Cond.fieldLink RX3 28 "RainReservoir$User" "gotInAll" "I", Cond.methodLink RX3 21 yX3_set, Cond.instanceMethod yX3_set, Cond.selects RX3 yX3_set yX3_set, Cond.code yX3_set cX3_set 3 none, Cond.methodLink RX3 18 yX3_clearAmounts, Cond.instanceMethod yX3_clearAmounts, Cond.selects RX3 yX3_clearAmounts yX3_clearAmounts]
def wsX5_undo_r4 : List Cond := [Cond.code yX3_clearAmounts cX3_clearAmounts 1 none]
def wsX5_undo : List Cond := .code yX5_undo cX5_undo 1 (some .int) :: ((wsX5_undo_r1 ++ (wsX5_undo_r2 ++ (wsX5_undo_r3 ++ wsX5_undo_r4))) ++ wsX50 ++ wsX20 ++ wsX10 ++ wsX40 ++ wsX30 ++ (vx_atS RX5 43 "java/lang/IllegalStateException" ["java/lang/RuntimeException", "java/lang/Exception"]).filter goodWord)
def wsX5_digest_r1 : List Cond := [Cond.constantLong RX5 216 (99293), Cond.fieldLink RX5 26 "RainReservoir" "text" "LRainReservoir$RainText;", Cond.fieldLink RX5 189 "RainReservoir$RainText" "length" "I", Cond.constantLong RX5 218 (31), Cond.fieldLink RX5 10 "RainReservoir" "now" "LRainReservoir$State;", Cond.fieldLink RX5 35 "RainReservoir$State" "roofCount" "I", Cond.fieldLink RX5 49 "RainReservoir$State" "roofs" "[LRainReservoir$Roof;", Cond.fieldLink RX5 59 "RainReservoir$State" "users" "LRainReservoir$Users;", Cond.fieldLink RX5 63 "RainReservoir$Users" "count" "I", Cond.fieldLink RX5 70 "RainReservoir$Users" "rows" "[LRainReservoir$User;", Cond.fieldLink RX5 127 "RainReservoir$State" "rainCount" "I", Cond.fieldLink RX5 139 "RainReservoir$State" "rains" "[I", Cond.fieldLink RX5 143 "RainReservoir$State" "doneCount" "I", Cond.fieldLink RX5 207 "RainReservoir" "savedCount" "I", Cond.methodLink RX5 112 yX2_settingValue, Cond.instanceMethod yX2_settingValue, Cond.selects RX2 yX2_settingValue yX2_settingValue, Cond.initialized RX2, Cond.code yX2_settingValue cX2_settingValue 2 (some .int), Cond.fieldLink RX2 9 "RainReservoir$State" "capacity" "I", Cond.fieldLink RX2 39 "RainReservoir$State" "floor" "I", Cond.fieldLink RX2 42 "RainReservoir$State" "topUp" "I", Cond.fieldLink RX2 45 "RainReservoir$State" "evaporation" "I", Cond.fieldLink RX2 15 "RainReservoir$State" "dryLimit" "I"]
def wsX5_digest_r2 : List Cond := [Cond.fieldLink RX2 48 "RainReservoir$State" "rule" "I", Cond.fieldLink RX2 51 "RainReservoir$State" "roofCount" "I", Cond.fieldLink RX2 28 "RainReservoir$State" "users" "LRainReservoir$Users;", Cond.fieldLink RX2 87 "RainReservoir$Users" "count" "I", Cond.fieldLink RX2 61 "RainReservoir$State" "rainCount" "I", Cond.fieldLink RX2 70 "RainReservoir$State" "doneCount" "I", Cond.fieldLink RX2 73 "RainReservoir$State" "level" "I", Cond.fieldLink RX2 76 "RainReservoir$State" "dryDays" "I", Cond.methodLink RX5 116 yX1_value, Cond.instanceMethod yX1_value, Cond.selects RX1 yX1_value yX1_value, Cond.initialized RX1, Cond.code yX1_value cX1_value 2 (some .int), Cond.fieldLink RX1 7 "RainReservoir$Roof" "area" "I", Cond.fieldLink RX1 13 "RainReservoir$Roof" "yieldPercent" "I", Cond.fieldLink RX1 16 "RainReservoir$Roof" "flush" "I", Cond.fieldLink RX1 19 "RainReservoir$Roof" "gutter" "I", Cond.fieldLink RX1 29 "RainReservoir$Roof" "water" "I", Cond.methodLink RX5 119 yX3_value, Cond.instanceMethod yX3_value, Cond.selects RX3 yX3_value yX3_value, Cond.initialized RX3, Cond.code yX3_value cX3_value 2 (some .int), Cond.fieldLink RX3 9 "RainReservoir$User" "demand" "I"]
def wsX5_digest_r3 : List Cond := [Cond.fieldLink RX3 15 "RainReservoir$User" "weight" "I", Cond.fieldLink RX3 25 "RainReservoir$User" "gotLatest" "I", Cond.fieldLink RX3 28 "RainReservoir$User" "gotInAll" "I", Cond.methodLink RX5 161 yX2_account, Cond.instanceMethod yX2_account, Cond.selects RX2 yX2_account yX2_account, Cond.code yX2_account cX2_account 3 (some .int), Cond.fieldLink RX2 36 "RainReservoir$State" "accounts" "[I", Cond.methodLink RX5 220 yX5_sum, Cond.instanceMethod yX5_sum, Cond.selects RX5 yX5_sum yX5_sum, Cond.initialized RX5, Cond.code yX5_sum cX5_sum 5 (some .long), Cond.fieldLink RX5 95 "RainReservoir$State" "looseOverflow" "J", Cond.methodLink RX5 30 yX5_checkRange, Cond.static yX5_checkRange, Cond.code yX5_checkRange cX5_checkRange 3 none, Cond.classLink RX5 224 "java/lang/IllegalArgumentException", Cond.initialized "java/lang/IllegalArgumentException"]
def wsX5_digest : List Cond := .code yX5_digest cX5_digest 5 (some .long) :: ((wsX5_digest_r1 ++ (wsX5_digest_r2 ++ wsX5_digest_r3)) ++ wsX50 ++ wsX00 ++ wsX20 ++ wsX40 ++ wsX10 ++ wsX30 ++ (vx_atS RX5 228 "java/lang/IllegalArgumentException" ["java/lang/RuntimeException", "java/lang/Exception"]).filter goodWord)
def wsJ9_max_7cf53 : List Cond := .code yJ9_max_7cf53 cJ9_max_7cf53 2 (some .int) :: ([])
def wsJ9_min_7cf53 : List Cond := .code yJ9_min_7cf53 cJ9_min_7cf53 2 (some .int) :: ([])
def wsL_cell : List Cond := .code yL_cell cL_cell 2 (some .int) :: ([.constant RL 7 (1013904242)])
def wsL_up : List Cond := .code yL_up cL_up 2 (some .int) :: ([.constant RL 8 (2147483647)])
def wsL_plans_r1 : List Cond := [Cond.methodLink RL 9 yL_cell, Cond.static yL_cell, Cond.initialized RL, Cond.code yL_cell cL_cell 2 (some .int), Cond.constant RL 7 (1013904242), Cond.methodLink RL 15 yL_up, Cond.static yL_up, Cond.code yL_up cL_up 2 (some .int), Cond.constant RL 8 (2147483647), Cond.methodLink RL 19 yX5_addRoof, Cond.instanceMethod yX5_addRoof, Cond.selects RX5 yX5_addRoof yX5_addRoof, Cond.initialized RX5, Cond.code yX5_addRoof cX5_addRoof 5 (some .int), Cond.classLink RX5 39 "java/lang/IllegalStateException", Cond.initialized "java/lang/IllegalStateException", Cond.constant RX5 34 (50000), Cond.fieldLink RX5 10 "RainReservoir" "now" "LRainReservoir$State;", Cond.fieldLink RX5 35 "RainReservoir$State" "roofCount" "I", Cond.fieldLink RX5 49 "RainReservoir$State" "roofs" "[LRainReservoir$Roof;", Cond.methodLink RX5 30 yX5_checkRange, Cond.static yX5_checkRange, Cond.code yX5_checkRange cX5_checkRange 3 none, Cond.classLink RX5 224 "java/lang/IllegalArgumentException"]
def wsL_plans_r2 : List Cond := [Cond.initialized "java/lang/IllegalArgumentException", Cond.methodLink RX5 46 yX5_save, Cond.instanceMethod yX5_save, Cond.selects RX5 yX5_save yX5_save, Cond.code yX5_save cX5_save 3 none, Cond.fieldLink RX5 207 "RainReservoir" "savedCount" "I", Cond.fieldLink RX5 19 "RainReservoir" "saved" "[LRainReservoir$State;", Cond.methodLink RX5 212 yX2_copyFrom, Cond.instanceMethod yX2_copyFrom, Cond.selects RX2 yX2_copyFrom yX2_copyFrom, Cond.initialized RX2, Cond.code yX2_copyFrom cX2_copyFrom 3 none, Cond.fieldLink RX2 9 "RainReservoir$State" "capacity" "I", Cond.fieldLink RX2 39 "RainReservoir$State" "floor" "I", Cond.fieldLink RX2 42 "RainReservoir$State" "topUp" "I", Cond.fieldLink RX2 45 "RainReservoir$State" "evaporation" "I", Cond.fieldLink RX2 15 "RainReservoir$State" "dryLimit" "I", Cond.fieldLink RX2 48 "RainReservoir$State" "rule" "I", Cond.fieldLink RX2 51 "RainReservoir$State" "roofCount" "I", Cond.fieldLink RX2 20 "RainReservoir$State" "roofs" "[LRainReservoir$Roof;", Cond.fieldLink RX2 28 "RainReservoir$State" "users" "LRainReservoir$Users;", Cond.fieldLink RX2 61 "RainReservoir$State" "rainCount" "I", Cond.fieldLink RX2 32 "RainReservoir$State" "rains" "[I", Cond.methodLink RX2 64 arraycopyName]
def wsL_plans_r3 : List Cond := [Cond.native arraycopyName, Cond.static arraycopyName, Cond.initialized "java/lang/System", Cond.fieldLink RX2 70 "RainReservoir$State" "doneCount" "I", Cond.fieldLink RX2 36 "RainReservoir$State" "accounts" "[I", Cond.fieldLink RX2 73 "RainReservoir$State" "level" "I", Cond.fieldLink RX2 76 "RainReservoir$State" "dryDays" "I", Cond.fieldLink RX2 79 "RainReservoir$State" "looseOverflow" "J", Cond.methodLink RX2 54 yX1_copyFrom, Cond.instanceMethod yX1_copyFrom, Cond.selects RX1 yX1_copyFrom yX1_copyFrom, Cond.initialized RX1, Cond.code yX1_copyFrom cX1_copyFrom 2 none, Cond.fieldLink RX1 7 "RainReservoir$Roof" "area" "I", Cond.fieldLink RX1 13 "RainReservoir$Roof" "yieldPercent" "I", Cond.fieldLink RX1 16 "RainReservoir$Roof" "flush" "I", Cond.fieldLink RX1 19 "RainReservoir$Roof" "gutter" "I", Cond.fieldLink RX1 29 "RainReservoir$Roof" "water" "I", Cond.fieldLink RX1 32 "RainReservoir$Roof" "spilledInAll" "I", Cond.methodLink RX1 25 yX1_set, Cond.instanceMethod yX1_set, Cond.selects RX1 yX1_set yX1_set, Cond.code yX1_set cX1_set 5 none, Cond.methodLink RX1 22 yX1_clearAmounts]
def wsL_plans_r4 : List Cond := [Cond.instanceMethod yX1_clearAmounts, Cond.selects RX1 yX1_clearAmounts yX1_clearAmounts, Cond.code yX1_clearAmounts cX1_clearAmounts 1 none, Cond.methodLink RX2 58 yX4_copyFrom, Cond.instanceMethod yX4_copyFrom, Cond.selects RX4 yX4_copyFrom yX4_copyFrom, Cond.initialized RX4, Cond.code yX4_copyFrom cX4_copyFrom 3 none, Cond.fieldLink RX4 22 "RainReservoir$Users" "count" "I", Cond.fieldLink RX4 11 "RainReservoir$Users" "rows" "[LRainReservoir$User;", Cond.methodLink RX4 26 yX3_copyFrom, Cond.instanceMethod yX3_copyFrom, Cond.selects RX3 yX3_copyFrom yX3_copyFrom, Cond.initialized RX3, Cond.code yX3_copyFrom cX3_copyFrom 2 none, Cond.fieldLink RX3 9 "RainReservoir$User" "demand" "I", Cond.fieldLink RX3 15 "RainReservoir$User" "weight" "I", Cond.fieldLink RX3 25 "RainReservoir$User" "gotLatest" "I", Cond.fieldLink RX3 28 "RainReservoir$User" "gotInAll" "I", Cond.methodLink RX3 21 yX3_set, Cond.instanceMethod yX3_set, Cond.selects RX3 yX3_set yX3_set, Cond.code yX3_set cX3_set 3 none, Cond.methodLink RX3 18 yX3_clearAmounts]
def wsL_plans_r5 : List Cond := [Cond.instanceMethod yX3_clearAmounts, Cond.selects RX3 yX3_clearAmounts yX3_clearAmounts, Cond.code yX3_clearAmounts cX3_clearAmounts 1 none, Cond.methodLink RX5 53 yX1_set, Cond.methodLink RL 25 yX5_addUser, Cond.instanceMethod yX5_addUser, Cond.selects RX5 yX5_addUser yX5_addUser, Cond.code yX5_addUser cX5_addUser 3 (some .int), Cond.fieldLink RX5 59 "RainReservoir$State" "users" "LRainReservoir$Users;", Cond.fieldLink RX5 63 "RainReservoir$Users" "count" "I", Cond.fieldLink RX5 70 "RainReservoir$Users" "rows" "[LRainReservoir$User;", Cond.methodLink RX5 74 yX3_set]
def wsL_plans : List Cond := .code yL_plans cL_plans 11 (some .boolean) :: ((wsL_plans_r1 ++ (wsL_plans_r2 ++ (wsL_plans_r3 ++ (wsL_plans_r4 ++ wsL_plans_r5)))) ++ wsX50 ++ wsX20 ++ wsX10 ++ wsX40 ++ wsX30 ++ (vx_atS RX5 43 "java/lang/IllegalStateException" ["java/lang/RuntimeException", "java/lang/Exception"]).filter goodWord ++ (vx_atS RX5 228 "java/lang/IllegalArgumentException" ["java/lang/RuntimeException", "java/lang/Exception"]).filter goodWord)
def wsL_sets_r1 : List Cond := [Cond.methodLink RL 15 yL_up, Cond.static yL_up, Cond.initialized RL, Cond.code yL_up cL_up 2 (some .int), Cond.constant RL 8 (2147483647), Cond.methodLink RL 28 yX5_setReservoir, Cond.instanceMethod yX5_setReservoir, Cond.selects RX5 yX5_setReservoir yX5_setReservoir, Cond.initialized RX5, Cond.code yX5_setReservoir cX5_setReservoir 5 (some .int), Cond.constant RX5 85 (60000), Cond.fieldLink RX5 10 "RainReservoir" "now" "LRainReservoir$State;", Cond.fieldLink RX5 86 "RainReservoir$State" "capacity" "I", Cond.fieldLink RX5 89 "RainReservoir$State" "floor" "I", Cond.fieldLink RX5 92 "RainReservoir$State" "topUp" "I", Cond.fieldLink RX5 95 "RainReservoir$State" "looseOverflow" "J", Cond.methodLink RX5 30 yX5_checkRange, Cond.static yX5_checkRange, Cond.code yX5_checkRange cX5_checkRange 3 none, Cond.classLink RX5 224 "java/lang/IllegalArgumentException", Cond.initialized "java/lang/IllegalArgumentException", Cond.methodLink RX5 46 yX5_save, Cond.instanceMethod yX5_save, Cond.selects RX5 yX5_save yX5_save]
def wsL_sets_r2 : List Cond := [Cond.code yX5_save cX5_save 3 none, Cond.fieldLink RX5 207 "RainReservoir" "savedCount" "I", Cond.fieldLink RX5 19 "RainReservoir" "saved" "[LRainReservoir$State;", Cond.methodLink RX5 212 yX2_copyFrom, Cond.instanceMethod yX2_copyFrom, Cond.selects RX2 yX2_copyFrom yX2_copyFrom, Cond.initialized RX2, Cond.code yX2_copyFrom cX2_copyFrom 3 none, Cond.fieldLink RX2 9 "RainReservoir$State" "capacity" "I", Cond.fieldLink RX2 39 "RainReservoir$State" "floor" "I", Cond.fieldLink RX2 42 "RainReservoir$State" "topUp" "I", Cond.fieldLink RX2 45 "RainReservoir$State" "evaporation" "I", Cond.fieldLink RX2 15 "RainReservoir$State" "dryLimit" "I", Cond.fieldLink RX2 48 "RainReservoir$State" "rule" "I", Cond.fieldLink RX2 51 "RainReservoir$State" "roofCount" "I", Cond.fieldLink RX2 20 "RainReservoir$State" "roofs" "[LRainReservoir$Roof;", Cond.fieldLink RX2 28 "RainReservoir$State" "users" "LRainReservoir$Users;", Cond.fieldLink RX2 61 "RainReservoir$State" "rainCount" "I", Cond.fieldLink RX2 32 "RainReservoir$State" "rains" "[I", Cond.methodLink RX2 64 arraycopyName, Cond.native arraycopyName, Cond.static arraycopyName, Cond.initialized "java/lang/System", Cond.fieldLink RX2 70 "RainReservoir$State" "doneCount" "I"]
def wsL_sets_r3 : List Cond := [Cond.fieldLink RX2 36 "RainReservoir$State" "accounts" "[I", Cond.fieldLink RX2 73 "RainReservoir$State" "level" "I", Cond.fieldLink RX2 76 "RainReservoir$State" "dryDays" "I", Cond.fieldLink RX2 79 "RainReservoir$State" "looseOverflow" "J", Cond.methodLink RX2 54 yX1_copyFrom, Cond.instanceMethod yX1_copyFrom, Cond.selects RX1 yX1_copyFrom yX1_copyFrom, Cond.initialized RX1, Cond.code yX1_copyFrom cX1_copyFrom 2 none, Cond.fieldLink RX1 7 "RainReservoir$Roof" "area" "I", Cond.fieldLink RX1 13 "RainReservoir$Roof" "yieldPercent" "I", Cond.fieldLink RX1 16 "RainReservoir$Roof" "flush" "I", Cond.fieldLink RX1 19 "RainReservoir$Roof" "gutter" "I", Cond.fieldLink RX1 29 "RainReservoir$Roof" "water" "I", Cond.fieldLink RX1 32 "RainReservoir$Roof" "spilledInAll" "I", Cond.methodLink RX1 25 yX1_set, Cond.instanceMethod yX1_set, Cond.selects RX1 yX1_set yX1_set, Cond.code yX1_set cX1_set 5 none, Cond.methodLink RX1 22 yX1_clearAmounts, Cond.instanceMethod yX1_clearAmounts, Cond.selects RX1 yX1_clearAmounts yX1_clearAmounts, Cond.code yX1_clearAmounts cX1_clearAmounts 1 none, Cond.methodLink RX2 58 yX4_copyFrom]
def wsL_sets_r4 : List Cond := [Cond.instanceMethod yX4_copyFrom, Cond.selects RX4 yX4_copyFrom yX4_copyFrom, Cond.initialized RX4, Cond.code yX4_copyFrom cX4_copyFrom 3 none, Cond.fieldLink RX4 22 "RainReservoir$Users" "count" "I", Cond.fieldLink RX4 11 "RainReservoir$Users" "rows" "[LRainReservoir$User;", Cond.methodLink RX4 26 yX3_copyFrom, Cond.instanceMethod yX3_copyFrom, Cond.selects RX3 yX3_copyFrom yX3_copyFrom, Cond.initialized RX3, Cond.code yX3_copyFrom cX3_copyFrom 2 none, Cond.fieldLink RX3 9 "RainReservoir$User" "demand" "I", Cond.fieldLink RX3 15 "RainReservoir$User" "weight" "I", Cond.fieldLink RX3 25 "RainReservoir$User" "gotLatest" "I", Cond.fieldLink RX3 28 "RainReservoir$User" "gotInAll" "I", Cond.methodLink RX3 21 yX3_set, Cond.instanceMethod yX3_set, Cond.selects RX3 yX3_set yX3_set, Cond.code yX3_set cX3_set 3 none, Cond.methodLink RX3 18 yX3_clearAmounts, Cond.instanceMethod yX3_clearAmounts, Cond.selects RX3 yX3_clearAmounts yX3_clearAmounts, Cond.code yX3_clearAmounts cX3_clearAmounts 1 none, Cond.methodLink RX5 99 yX2_dropAboveCapacity]
def wsL_sets_r5 : List Cond := [Cond.instanceMethod yX2_dropAboveCapacity, Cond.selects RX2 yX2_dropAboveCapacity yX2_dropAboveCapacity, Cond.code yX2_dropAboveCapacity cX2_dropAboveCapacity 2 (some .int), Cond.methodLink RX2 94 Lib.Math.max.name, Cond.static Lib.Math.max.name, Cond.initialized "java/lang/Math", Cond.code Lib.Math.max.name Lib.Math.max.code 2 (some .int)]
def wsL_sets : List Cond := .code yL_sets cL_sets 6 (some .boolean) :: ((wsL_sets_r1 ++ (wsL_sets_r2 ++ (wsL_sets_r3 ++ (wsL_sets_r4 ++ wsL_sets_r5)))) ++ wsX50 ++ wsX20 ++ wsX10 ++ wsX40 ++ wsX30 ++ (vx_atS RX5 228 "java/lang/IllegalArgumentException" ["java/lang/RuntimeException", "java/lang/Exception"]).filter goodWord)
def wsL_isStep_r1 : List Cond := [Cond.constant RL 43 (1000000), Cond.methodLink RL 15 yL_up, Cond.static yL_up, Cond.initialized RL, Cond.code yL_up cL_up 2 (some .int), Cond.constant RL 8 (2147483647), Cond.methodLink RL 32 yL_sets, Cond.static yL_sets, Cond.code yL_sets cL_sets 6 (some .boolean), Cond.methodLink RL 28 yX5_setReservoir, Cond.instanceMethod yX5_setReservoir, Cond.selects RX5 yX5_setReservoir yX5_setReservoir, Cond.initialized RX5, Cond.code yX5_setReservoir cX5_setReservoir 5 (some .int), Cond.constant RX5 85 (60000), Cond.fieldLink RX5 10 "RainReservoir" "now" "LRainReservoir$State;", Cond.fieldLink RX5 86 "RainReservoir$State" "capacity" "I", Cond.fieldLink RX5 89 "RainReservoir$State" "floor" "I", Cond.fieldLink RX5 92 "RainReservoir$State" "topUp" "I", Cond.fieldLink RX5 95 "RainReservoir$State" "looseOverflow" "J", Cond.methodLink RX5 30 yX5_checkRange, Cond.static yX5_checkRange, Cond.code yX5_checkRange cX5_checkRange 3 none, Cond.classLink RX5 224 "java/lang/IllegalArgumentException"]
def wsL_isStep_r2 : List Cond := [Cond.initialized "java/lang/IllegalArgumentException", Cond.methodLink RX5 46 yX5_save, Cond.instanceMethod yX5_save, Cond.selects RX5 yX5_save yX5_save, Cond.code yX5_save cX5_save 3 none, Cond.fieldLink RX5 207 "RainReservoir" "savedCount" "I", Cond.fieldLink RX5 19 "RainReservoir" "saved" "[LRainReservoir$State;", Cond.methodLink RX5 212 yX2_copyFrom, Cond.instanceMethod yX2_copyFrom, Cond.selects RX2 yX2_copyFrom yX2_copyFrom, Cond.initialized RX2, Cond.code yX2_copyFrom cX2_copyFrom 3 none, Cond.fieldLink RX2 9 "RainReservoir$State" "capacity" "I", Cond.fieldLink RX2 39 "RainReservoir$State" "floor" "I", Cond.fieldLink RX2 42 "RainReservoir$State" "topUp" "I", Cond.fieldLink RX2 45 "RainReservoir$State" "evaporation" "I", Cond.fieldLink RX2 15 "RainReservoir$State" "dryLimit" "I", Cond.fieldLink RX2 48 "RainReservoir$State" "rule" "I", Cond.fieldLink RX2 51 "RainReservoir$State" "roofCount" "I", Cond.fieldLink RX2 20 "RainReservoir$State" "roofs" "[LRainReservoir$Roof;", Cond.fieldLink RX2 28 "RainReservoir$State" "users" "LRainReservoir$Users;", Cond.fieldLink RX2 61 "RainReservoir$State" "rainCount" "I", Cond.fieldLink RX2 32 "RainReservoir$State" "rains" "[I", Cond.methodLink RX2 64 arraycopyName]
def wsL_isStep_r3 : List Cond := [Cond.native arraycopyName, Cond.static arraycopyName, Cond.initialized "java/lang/System", Cond.fieldLink RX2 70 "RainReservoir$State" "doneCount" "I", Cond.fieldLink RX2 36 "RainReservoir$State" "accounts" "[I", Cond.fieldLink RX2 73 "RainReservoir$State" "level" "I", Cond.fieldLink RX2 76 "RainReservoir$State" "dryDays" "I", Cond.fieldLink RX2 79 "RainReservoir$State" "looseOverflow" "J", Cond.methodLink RX2 54 yX1_copyFrom, Cond.instanceMethod yX1_copyFrom, Cond.selects RX1 yX1_copyFrom yX1_copyFrom, Cond.initialized RX1, Cond.code yX1_copyFrom cX1_copyFrom 2 none, Cond.fieldLink RX1 7 "RainReservoir$Roof" "area" "I", Cond.fieldLink RX1 13 "RainReservoir$Roof" "yieldPercent" "I", Cond.fieldLink RX1 16 "RainReservoir$Roof" "flush" "I", Cond.fieldLink RX1 19 "RainReservoir$Roof" "gutter" "I", Cond.fieldLink RX1 29 "RainReservoir$Roof" "water" "I", Cond.fieldLink RX1 32 "RainReservoir$Roof" "spilledInAll" "I", Cond.methodLink RX1 25 yX1_set, Cond.instanceMethod yX1_set, Cond.selects RX1 yX1_set yX1_set, Cond.code yX1_set cX1_set 5 none, Cond.methodLink RX1 22 yX1_clearAmounts]
def wsL_isStep_r4 : List Cond := [Cond.instanceMethod yX1_clearAmounts, Cond.selects RX1 yX1_clearAmounts yX1_clearAmounts, Cond.code yX1_clearAmounts cX1_clearAmounts 1 none, Cond.methodLink RX2 58 yX4_copyFrom, Cond.instanceMethod yX4_copyFrom, Cond.selects RX4 yX4_copyFrom yX4_copyFrom, Cond.initialized RX4, Cond.code yX4_copyFrom cX4_copyFrom 3 none, Cond.fieldLink RX4 22 "RainReservoir$Users" "count" "I", Cond.fieldLink RX4 11 "RainReservoir$Users" "rows" "[LRainReservoir$User;", Cond.methodLink RX4 26 yX3_copyFrom, Cond.instanceMethod yX3_copyFrom, Cond.selects RX3 yX3_copyFrom yX3_copyFrom, Cond.initialized RX3, Cond.code yX3_copyFrom cX3_copyFrom 2 none, Cond.fieldLink RX3 9 "RainReservoir$User" "demand" "I", Cond.fieldLink RX3 15 "RainReservoir$User" "weight" "I", Cond.fieldLink RX3 25 "RainReservoir$User" "gotLatest" "I", Cond.fieldLink RX3 28 "RainReservoir$User" "gotInAll" "I", Cond.methodLink RX3 21 yX3_set, Cond.instanceMethod yX3_set, Cond.selects RX3 yX3_set yX3_set, Cond.code yX3_set cX3_set 3 none, Cond.methodLink RX3 18 yX3_clearAmounts]
def wsL_isStep_r5 : List Cond := [Cond.instanceMethod yX3_clearAmounts, Cond.selects RX3 yX3_clearAmounts yX3_clearAmounts, Cond.code yX3_clearAmounts cX3_clearAmounts 1 none, Cond.methodLink RX5 99 yX2_dropAboveCapacity, Cond.instanceMethod yX2_dropAboveCapacity, Cond.selects RX2 yX2_dropAboveCapacity yX2_dropAboveCapacity, Cond.code yX2_dropAboveCapacity cX2_dropAboveCapacity 2 (some .int), Cond.methodLink RX2 94 Lib.Math.max.name, Cond.static Lib.Math.max.name, Cond.initialized "java/lang/Math", Cond.code Lib.Math.max.name Lib.Math.max.code 2 (some .int), Cond.methodLink RL 36 yX5_setWays, Cond.instanceMethod yX5_setWays, Cond.selects RX5 yX5_setWays yX5_setWays, Cond.code yX5_setWays cX5_setWays 5 (some .int), Cond.fieldLink RX5 103 "RainReservoir$State" "rule" "I", Cond.fieldLink RX5 106 "RainReservoir$State" "evaporation" "I", Cond.fieldLink RX5 109 "RainReservoir$State" "dryLimit" "I", Cond.methodLink RL 39 yX5_setting, Cond.instanceMethod yX5_setting, Cond.selects RX5 yX5_setting yX5_setting, Cond.code yX5_setting cX5_setting 2 (some .int), Cond.methodLink RX5 112 yX2_settingValue, Cond.instanceMethod yX2_settingValue]
def wsL_isStep_r6 : List Cond := [Cond.selects RX2 yX2_settingValue yX2_settingValue, Cond.code yX2_settingValue cX2_settingValue 2 (some .int), Cond.fieldLink RX2 87 "RainReservoir$Users" "count" "I", Cond.methodLink RL 44 yX5_addRandomRain, Cond.instanceMethod yX5_addRandomRain, Cond.selects RX5 yX5_addRandomRain yX5_addRandomRain, Cond.code yX5_addRandomRain cX5_addRandomRain 9 (some .int), Cond.constant RX5 130 (999999), Cond.constantLong RX5 135 (65536), Cond.constantLong RX5 137 (100), Cond.fieldLink RX5 127 "RainReservoir$State" "rainCount" "I", Cond.methodLink RX5 120 yX5_checkRoomForDays, Cond.instanceMethod yX5_checkRoomForDays, Cond.selects RX5 yX5_checkRoomForDays yX5_checkRoomForDays, Cond.code yX5_checkRoomForDays cX5_checkRoomForDays 2 none, Cond.classLink RX5 39 "java/lang/IllegalStateException", Cond.initialized "java/lang/IllegalStateException", Cond.methodLink RX5 131 yX5_nextRandom, Cond.static yX5_nextRandom, Cond.code yX5_nextRandom cX5_nextRandom 2 (some .long), Cond.constantLong RX5 236 (1103515245), Cond.constantLong RX5 238 (12345), Cond.constantLong RX5 240 (2147483648), Cond.methodLink RX5 124 yX2_putRain]
def wsL_isStep_r7 : List Cond := [Cond.instanceMethod yX2_putRain, Cond.selects RX2 yX2_putRain yX2_putRain, Cond.code yX2_putRain cX2_putRain 2 none, Cond.methodLink RL 47 yX5_restart, Cond.instanceMethod yX5_restart, Cond.selects RX5 yX5_restart yX5_restart, Cond.code yX5_restart cX5_restart 2 (some .int), Cond.fieldLink RX5 143 "RainReservoir$State" "doneCount" "I", Cond.methodLink RX5 158 yX2_goBack, Cond.instanceMethod yX2_goBack, Cond.selects RX2 yX2_goBack yX2_goBack, Cond.code yX2_goBack cX2_goBack 2 none, Cond.methodLink RX2 83 yX1_clearAmounts, Cond.methodLink RX2 86 yX4_clearAmounts, Cond.instanceMethod yX4_clearAmounts, Cond.selects RX4 yX4_clearAmounts yX4_clearAmounts, Cond.code yX4_clearAmounts cX4_clearAmounts 2 none, Cond.methodLink RX4 30 yX3_clearAmounts, Cond.methodLink RL 51 yX5_run, Cond.instanceMethod yX5_run, Cond.selects RX5 yX5_run yX5_run, Cond.code yX5_run cX5_run 5 (some .int), Cond.methodLink RX5 148 yX2_collect, Cond.instanceMethod yX2_collect]
def wsL_isStep_r8 : List Cond := [Cond.selects RX2 yX2_collect yX2_collect, Cond.code yX2_collect cX2_collect 11 none, Cond.methodLink RX2 99 yX2_drainWhenDry, Cond.instanceMethod yX2_drainWhenDry, Cond.selects RX2 yX2_drainWhenDry yX2_drainWhenDry, Cond.code yX2_drainWhenDry cX2_drainWhenDry 4 (some .int), Cond.methodLink RX2 134 yX1_drain, Cond.instanceMethod yX1_drain, Cond.selects RX1 yX1_drain yX1_drain, Cond.code yX1_drain cX1_drain 2 (some .int), Cond.methodLink RX2 103 yX1_caught, Cond.instanceMethod yX1_caught, Cond.selects RX1 yX1_caught yX1_caught, Cond.code yX1_caught cX1_caught 2 (some .int), Cond.methodLink RX2 106 yX1_divert, Cond.instanceMethod yX1_divert, Cond.selects RX1 yX1_divert yX1_divert, Cond.code yX1_divert cX1_divert 3 (some .int), Cond.methodLink RX1 35 Lib.Math.min.name, Cond.static Lib.Math.min.name, Cond.code Lib.Math.min.name Lib.Math.min.code 2 (some .int), Cond.methodLink RX2 109 yX1_spill, Cond.instanceMethod yX1_spill, Cond.selects RX1 yX1_spill yX1_spill]
def wsL_isStep_r9 : List Cond := [Cond.code yX1_spill cX1_spill 3 (some .int), Cond.methodLink RX1 41 Lib.Math.max.name, Cond.methodLink RX2 112 yX2_put, Cond.instanceMethod yX2_put, Cond.selects RX2 yX2_put yX2_put, Cond.code yX2_put cX2_put 4 none, Cond.methodLink RX5 151 yX2_serve, Cond.instanceMethod yX2_serve, Cond.selects RX2 yX2_serve yX2_serve, Cond.code yX2_serve cX2_serve 5 none, Cond.methodLink RX2 90 yX2_account, Cond.instanceMethod yX2_account, Cond.selects RX2 yX2_account yX2_account, Cond.code yX2_account cX2_account 3 (some .int), Cond.methodLink RX2 116 yX2_dropAboveCapacity, Cond.methodLink RX2 120 yX4_handOut, Cond.instanceMethod yX4_handOut, Cond.selects RX4 yX4_handOut yX4_handOut, Cond.code yX4_handOut cX4_handOut 6 (some .int), Cond.fieldLink RX4 45 "RainReservoir$User" "gotLatest" "I", Cond.fieldLink RX4 36 "RainReservoir$User" "gotInAll" "I", Cond.methodLink RX4 48 yX4_demandInAll, Cond.instanceMethod yX4_demandInAll, Cond.selects RX4 yX4_demandInAll yX4_demandInAll]
def wsL_isStep_r10 : List Cond := [Cond.code yX4_demandInAll cX4_demandInAll 3 (some .int), Cond.fieldLink RX4 33 "RainReservoir$User" "demand" "I", Cond.methodLink RX4 52 yX4_orderByNumber, Cond.instanceMethod yX4_orderByNumber, Cond.selects RX4 yX4_orderByNumber yX4_orderByNumber, Cond.code yX4_orderByNumber cX4_orderByNumber 2 none, Cond.fieldLink RX4 18 "RainReservoir$Users" "order" "[I", Cond.methodLink RX4 55 yX4_serveOrder, Cond.instanceMethod yX4_serveOrder, Cond.selects RX4 yX4_serveOrder yX4_serveOrder, Cond.code yX4_serveOrder cX4_serveOrder 4 none, Cond.methodLink RX4 73 yX3_give, Cond.instanceMethod yX3_give, Cond.selects RX3 yX3_give yX3_give, Cond.code yX3_give cX3_give 3 (some .int), Cond.methodLink RX3 35 Lib.Math.min.name, Cond.methodLink RX3 31 yX3_lack, Cond.instanceMethod yX3_lack, Cond.selects RX3 yX3_lack yX3_lack, Cond.code yX3_lack cX3_lack 1 (some .int), Cond.methodLink RX4 59 yX4_share, Cond.instanceMethod yX4_share, Cond.selects RX4 yX4_share yX4_share, Cond.code yX4_share cX4_share 4 none]
def wsL_isStep_r11 : List Cond := [Cond.methodLink RX4 63 yX4_shareByDemand, Cond.instanceMethod yX4_shareByDemand, Cond.selects RX4 yX4_shareByDemand yX4_shareByDemand, Cond.code yX4_shareByDemand cX4_shareByDemand 7 none, Cond.methodLink RX4 67 yX4_shareInRounds, Cond.instanceMethod yX4_shareInRounds, Cond.selects RX4 yX4_shareInRounds yX4_shareInRounds, Cond.code yX4_shareInRounds cX4_shareInRounds 6 none, Cond.methodLink RX4 83 Lib.Math.min.name, Cond.methodLink RX4 77 yX4_fullRounds, Cond.instanceMethod yX4_fullRounds, Cond.selects RX4 yX4_fullRounds yX4_fullRounds, Cond.code yX4_fullRounds cX4_fullRounds 4 (some .int), Cond.methodLink RX4 86 yX3_lack, Cond.methodLink RX4 80 yX3_portion, Cond.instanceMethod yX3_portion, Cond.selects RX3 yX3_portion yX3_portion, Cond.code yX3_portion cX3_portion 1 (some .int), Cond.methodLink RX4 70 yX4_orderByDemand, Cond.instanceMethod yX4_orderByDemand, Cond.selects RX4 yX4_orderByDemand yX4_orderByDemand, Cond.code yX4_orderByDemand cX4_orderByDemand 3 none, Cond.methodLink RX2 123 yX4_demandInAll, Cond.methodLink RX5 154 yX2_isShort]
def wsL_isStep_r12 : List Cond := [Cond.instanceMethod yX2_isShort, Cond.selects RX2 yX2_isShort yX2_isShort, Cond.code yX2_isShort cX2_isShort 2 (some .boolean)]
def wsL_isStep : List Cond := .code yL_isStep cL_isStep 6 (some .boolean) :: ((wsL_isStep_r1 ++ (wsL_isStep_r2 ++ (wsL_isStep_r3 ++ (wsL_isStep_r4 ++ (wsL_isStep_r5 ++ (wsL_isStep_r6 ++ (wsL_isStep_r7 ++ (wsL_isStep_r8 ++ (wsL_isStep_r9 ++ (wsL_isStep_r10 ++ (wsL_isStep_r11 ++ wsL_isStep_r12))))))))))) ++ wsX50 ++ wsX20 ++ wsX10 ++ wsX40 ++ wsX30 ++ (vx_atS RX5 228 "java/lang/IllegalArgumentException" ["java/lang/RuntimeException", "java/lang/Exception"]).filter goodWord ++ (vx_atS RX5 43 "java/lang/IllegalStateException" ["java/lang/RuntimeException", "java/lang/Exception"]).filter goodWord)
def wsL_areAlike_r1 : List Cond := [Cond.methodLink RL 39 yX5_setting, Cond.instanceMethod yX5_setting, Cond.selects RX5 yX5_setting yX5_setting, Cond.initialized RX5, Cond.code yX5_setting cX5_setting 2 (some .int), Cond.fieldLink RX5 10 "RainReservoir" "now" "LRainReservoir$State;", Cond.methodLink RX5 30 yX5_checkRange, Cond.static yX5_checkRange, Cond.code yX5_checkRange cX5_checkRange 3 none, Cond.classLink RX5 224 "java/lang/IllegalArgumentException", Cond.initialized "java/lang/IllegalArgumentException", Cond.methodLink RX5 112 yX2_settingValue, Cond.instanceMethod yX2_settingValue, Cond.selects RX2 yX2_settingValue yX2_settingValue, Cond.initialized RX2, Cond.code yX2_settingValue cX2_settingValue 2 (some .int), Cond.fieldLink RX2 9 "RainReservoir$State" "capacity" "I", Cond.fieldLink RX2 39 "RainReservoir$State" "floor" "I", Cond.fieldLink RX2 42 "RainReservoir$State" "topUp" "I", Cond.fieldLink RX2 45 "RainReservoir$State" "evaporation" "I", Cond.fieldLink RX2 15 "RainReservoir$State" "dryLimit" "I", Cond.fieldLink RX2 48 "RainReservoir$State" "rule" "I", Cond.fieldLink RX2 51 "RainReservoir$State" "roofCount" "I", Cond.fieldLink RX2 28 "RainReservoir$State" "users" "LRainReservoir$Users;"]
def wsL_areAlike_r2 : List Cond := [Cond.fieldLink RX2 87 "RainReservoir$Users" "count" "I", Cond.fieldLink RX2 61 "RainReservoir$State" "rainCount" "I", Cond.fieldLink RX2 70 "RainReservoir$State" "doneCount" "I", Cond.fieldLink RX2 73 "RainReservoir$State" "level" "I", Cond.fieldLink RX2 76 "RainReservoir$State" "dryDays" "I", Cond.methodLink RL 54 yX5_sum, Cond.instanceMethod yX5_sum, Cond.selects RX5 yX5_sum yX5_sum, Cond.code yX5_sum cX5_sum 5 (some .long), Cond.fieldLink RX5 95 "RainReservoir$State" "looseOverflow" "J", Cond.fieldLink RX5 143 "RainReservoir$State" "doneCount" "I", Cond.methodLink RX5 161 yX2_account, Cond.instanceMethod yX2_account, Cond.selects RX2 yX2_account yX2_account, Cond.code yX2_account cX2_account 3 (some .int), Cond.fieldLink RX2 36 "RainReservoir$State" "accounts" "[I", Cond.methodLink RL 58 yX5_user, Cond.instanceMethod yX5_user, Cond.selects RX5 yX5_user yX5_user, Cond.code yX5_user cX5_user 3 (some .int), Cond.fieldLink RX5 59 "RainReservoir$State" "users" "LRainReservoir$Users;", Cond.fieldLink RX5 63 "RainReservoir$Users" "count" "I", Cond.fieldLink RX5 70 "RainReservoir$Users" "rows" "[LRainReservoir$User;", Cond.methodLink RX5 79 yX5_checkIndex]
def wsL_areAlike_r3 : List Cond := [Cond.static yX5_checkIndex, Cond.code yX5_checkIndex cX5_checkIndex 2 none, Cond.classLink RX5 229 "java/lang/IndexOutOfBoundsException", Cond.initialized "java/lang/IndexOutOfBoundsException", Cond.methodLink RX5 119 yX3_value, Cond.instanceMethod yX3_value, Cond.selects RX3 yX3_value yX3_value, Cond.initialized RX3, Cond.code yX3_value cX3_value 2 (some .int), Cond.fieldLink RX3 9 "RainReservoir$User" "demand" "I", Cond.fieldLink RX3 15 "RainReservoir$User" "weight" "I", Cond.fieldLink RX3 25 "RainReservoir$User" "gotLatest" "I", Cond.fieldLink RX3 28 "RainReservoir$User" "gotInAll" "I", Cond.methodLink RL 61 yX5_reliability, Cond.instanceMethod yX5_reliability, Cond.selects RX5 yX5_reliability yX5_reliability, Cond.code yX5_reliability cX5_reliability 4 (some .double), Cond.methodLink RX5 154 yX2_isShort, Cond.instanceMethod yX2_isShort, Cond.selects RX2 yX2_isShort yX2_isShort, Cond.code yX2_isShort cX2_isShort 2 (some .boolean), Cond.methodLink RX2 90 yX2_account, Cond.methodLink RL 65 yX5_longestShortage, Cond.instanceMethod yX5_longestShortage]
def wsL_areAlike_r4 : List Cond := [Cond.selects RX5 yX5_longestShortage yX5_longestShortage, Cond.code yX5_longestShortage cX5_longestShortage 4 (some .int), Cond.methodLink RX5 165 Lib.Math.max.name, Cond.static Lib.Math.max.name, Cond.initialized "java/lang/Math", Cond.code Lib.Math.max.name Lib.Math.max.code 2 (some .int)]
def wsL_areAlike : List Cond := .code yL_areAlike cL_areAlike 4 (some .boolean) :: ((wsL_areAlike_r1 ++ (wsL_areAlike_r2 ++ (wsL_areAlike_r3 ++ wsL_areAlike_r4))) ++ wsX50 ++ wsX20 ++ wsX40 ++ wsX30 ++ (vx_atS RX5 228 "java/lang/IllegalArgumentException" ["java/lang/RuntimeException", "java/lang/Exception"]).filter goodWord ++ (vx_atS RX5 233 "java/lang/IndexOutOfBoundsException" ["java/lang/RuntimeException", "java/lang/Exception"]).filter goodWord)
def wsL_isSound_r1 : List Cond := [Cond.methodLink RL 39 yX5_setting, Cond.instanceMethod yX5_setting, Cond.selects RX5 yX5_setting yX5_setting, Cond.initialized RX5, Cond.code yX5_setting cX5_setting 2 (some .int), Cond.fieldLink RX5 10 "RainReservoir" "now" "LRainReservoir$State;", Cond.methodLink RX5 30 yX5_checkRange, Cond.static yX5_checkRange, Cond.code yX5_checkRange cX5_checkRange 3 none, Cond.classLink RX5 224 "java/lang/IllegalArgumentException", Cond.initialized "java/lang/IllegalArgumentException", Cond.methodLink RX5 112 yX2_settingValue, Cond.instanceMethod yX2_settingValue, Cond.selects RX2 yX2_settingValue yX2_settingValue, Cond.initialized RX2, Cond.code yX2_settingValue cX2_settingValue 2 (some .int), Cond.fieldLink RX2 9 "RainReservoir$State" "capacity" "I", Cond.fieldLink RX2 39 "RainReservoir$State" "floor" "I", Cond.fieldLink RX2 42 "RainReservoir$State" "topUp" "I", Cond.fieldLink RX2 45 "RainReservoir$State" "evaporation" "I", Cond.fieldLink RX2 15 "RainReservoir$State" "dryLimit" "I", Cond.fieldLink RX2 48 "RainReservoir$State" "rule" "I", Cond.fieldLink RX2 51 "RainReservoir$State" "roofCount" "I", Cond.fieldLink RX2 28 "RainReservoir$State" "users" "LRainReservoir$Users;"]
def wsL_isSound_r2 : List Cond := [Cond.fieldLink RX2 87 "RainReservoir$Users" "count" "I", Cond.fieldLink RX2 61 "RainReservoir$State" "rainCount" "I", Cond.fieldLink RX2 70 "RainReservoir$State" "doneCount" "I", Cond.fieldLink RX2 73 "RainReservoir$State" "level" "I", Cond.fieldLink RX2 76 "RainReservoir$State" "dryDays" "I", Cond.methodLink RL 68 yX5_roof, Cond.instanceMethod yX5_roof, Cond.selects RX5 yX5_roof yX5_roof, Cond.code yX5_roof cX5_roof 3 (some .int), Cond.fieldLink RX5 35 "RainReservoir$State" "roofCount" "I", Cond.fieldLink RX5 49 "RainReservoir$State" "roofs" "[LRainReservoir$Roof;", Cond.methodLink RX5 79 yX5_checkIndex, Cond.static yX5_checkIndex, Cond.code yX5_checkIndex cX5_checkIndex 2 none, Cond.classLink RX5 229 "java/lang/IndexOutOfBoundsException", Cond.initialized "java/lang/IndexOutOfBoundsException", Cond.methodLink RX5 116 yX1_value, Cond.instanceMethod yX1_value, Cond.selects RX1 yX1_value yX1_value, Cond.initialized RX1, Cond.code yX1_value cX1_value 2 (some .int), Cond.fieldLink RX1 7 "RainReservoir$Roof" "area" "I", Cond.fieldLink RX1 13 "RainReservoir$Roof" "yieldPercent" "I", Cond.fieldLink RX1 16 "RainReservoir$Roof" "flush" "I"]
def wsL_isSound_r3 : List Cond := [Cond.fieldLink RX1 19 "RainReservoir$Roof" "gutter" "I", Cond.fieldLink RX1 29 "RainReservoir$Roof" "water" "I", Cond.methodLink RL 54 yX5_sum, Cond.instanceMethod yX5_sum, Cond.selects RX5 yX5_sum yX5_sum, Cond.code yX5_sum cX5_sum 5 (some .long), Cond.fieldLink RX5 95 "RainReservoir$State" "looseOverflow" "J", Cond.fieldLink RX5 143 "RainReservoir$State" "doneCount" "I", Cond.methodLink RX5 161 yX2_account, Cond.instanceMethod yX2_account, Cond.selects RX2 yX2_account yX2_account, Cond.code yX2_account cX2_account 3 (some .int), Cond.fieldLink RX2 36 "RainReservoir$State" "accounts" "[I", Cond.methodLink RL 58 yX5_user, Cond.instanceMethod yX5_user, Cond.selects RX5 yX5_user yX5_user, Cond.code yX5_user cX5_user 3 (some .int), Cond.fieldLink RX5 59 "RainReservoir$State" "users" "LRainReservoir$Users;", Cond.fieldLink RX5 63 "RainReservoir$Users" "count" "I", Cond.fieldLink RX5 70 "RainReservoir$Users" "rows" "[LRainReservoir$User;", Cond.methodLink RX5 119 yX3_value, Cond.instanceMethod yX3_value, Cond.selects RX3 yX3_value yX3_value, Cond.initialized RX3]
def wsL_isSound_r4 : List Cond := [Cond.code yX3_value cX3_value 2 (some .int), Cond.fieldLink RX3 9 "RainReservoir$User" "demand" "I", Cond.fieldLink RX3 15 "RainReservoir$User" "weight" "I", Cond.fieldLink RX3 25 "RainReservoir$User" "gotLatest" "I", Cond.fieldLink RX3 28 "RainReservoir$User" "gotInAll" "I", Cond.methodLink RL 71 yX5_day, Cond.instanceMethod yX5_day, Cond.selects RX5 yX5_day yX5_day, Cond.code yX5_day cX5_day 3 (some .int), Cond.methodLink RL 74 yX5_rain, Cond.instanceMethod yX5_rain, Cond.selects RX5 yX5_rain yX5_rain, Cond.code yX5_rain cX5_rain 2 (some .int), Cond.fieldLink RX5 127 "RainReservoir$State" "rainCount" "I", Cond.fieldLink RX5 139 "RainReservoir$State" "rains" "[I", Cond.methodLink RL 65 yX5_longestShortage, Cond.instanceMethod yX5_longestShortage, Cond.selects RX5 yX5_longestShortage yX5_longestShortage, Cond.code yX5_longestShortage cX5_longestShortage 4 (some .int), Cond.methodLink RX5 165 Lib.Math.max.name, Cond.static Lib.Math.max.name, Cond.initialized "java/lang/Math", Cond.code Lib.Math.max.name Lib.Math.max.code 2 (some .int), Cond.methodLink RX5 154 yX2_isShort]
def wsL_isSound_r5 : List Cond := [Cond.instanceMethod yX2_isShort, Cond.selects RX2 yX2_isShort yX2_isShort, Cond.code yX2_isShort cX2_isShort 2 (some .boolean), Cond.methodLink RX2 90 yX2_account, Cond.methodLink RL 61 yX5_reliability, Cond.instanceMethod yX5_reliability, Cond.selects RX5 yX5_reliability yX5_reliability, Cond.code yX5_reliability cX5_reliability 4 (some .double)]
def wsL_isSound : List Cond := .code yL_isSound cL_isSound 8 (some .boolean) :: ((wsL_isSound_r1 ++ (wsL_isSound_r2 ++ (wsL_isSound_r3 ++ (wsL_isSound_r4 ++ wsL_isSound_r5)))) ++ wsX50 ++ wsX20 ++ wsX40 ++ wsX10 ++ wsX30 ++ (vx_atS RX5 228 "java/lang/IllegalArgumentException" ["java/lang/RuntimeException", "java/lang/Exception"]).filter goodWord ++ (vx_atS RX5 233 "java/lang/IndexOutOfBoundsException" ["java/lang/RuntimeException", "java/lang/Exception"]).filter goodWord)
def wsL_law0_r1 : List Cond := [Cond.classLink RL 20 RX5, Cond.instantiable RX5 5, Cond.initialized RX5, Cond.methodLink RL 77 yX5_init, Cond.instanceMethod yX5_init, Cond.code yX5_init cX5_init 2 none, Cond.methodLink RX5 1 objectInit, Cond.instanceMethod objectInit, Cond.code objectInit ⟨#[0xb1]⟩ 1 none, Cond.classLink RX5 7 RX2, Cond.instantiable RX2 16, Cond.initialized RX2, Cond.fieldLink RX5 10 "RainReservoir" "now" "LRainReservoir$State;", Cond.fieldLink RX5 16 "RainReservoir" "trial" "LRainReservoir$State;", Cond.fieldLink RX5 19 "RainReservoir" "saved" "[LRainReservoir$State;", Cond.classLink RX5 23 RX0, Cond.instantiable RX0 6, Cond.initialized RX0, Cond.fieldLink RX5 26 "RainReservoir" "text" "LRainReservoir$RainText;", Cond.methodLink RX5 9 yX2_init, Cond.instanceMethod yX2_init, Cond.code yX2_init cX2_init 2 none, Cond.methodLink RX2 3 objectInit, Cond.fieldLink RX2 9 "RainReservoir$State" "capacity" "I"]
def wsL_law0_r2 : List Cond := [Cond.fieldLink RX2 15 "RainReservoir$State" "dryLimit" "I", Cond.classLink RX2 18 RX1, Cond.fieldLink RX2 20 "RainReservoir$State" "roofs" "[LRainReservoir$Roof;", Cond.instantiable RX1 6, Cond.initialized RX1, Cond.classLink RX2 25 RX4, Cond.instantiable RX4 3, Cond.initialized RX4, Cond.fieldLink RX2 28 "RainReservoir$State" "users" "LRainReservoir$Users;", Cond.arrayClass .int, Cond.fieldLink RX2 32 "RainReservoir$State" "rains" "[I", Cond.fieldLink RX2 36 "RainReservoir$State" "accounts" "[I", Cond.instanceMethod yX1_init, Cond.code yX1_init cX1_init 1 none, Cond.methodLink RX1 1 objectInit, Cond.methodLink RX2 27 yX4_init, Cond.instanceMethod yX4_init, Cond.code yX4_init cX4_init 2 none, Cond.methodLink RX4 3 objectInit, Cond.classLink RX4 9 RX3, Cond.fieldLink RX4 11 "RainReservoir$Users" "rows" "[LRainReservoir$User;", Cond.instantiable RX3 4, Cond.initialized RX3, Cond.fieldLink RX4 18 "RainReservoir$Users" "order" "[I"]
def wsL_law0_r3 : List Cond := [Cond.instanceMethod yX3_init, Cond.code yX3_init cX3_init 1 none, Cond.methodLink RX3 3 objectInit, Cond.methodLink RX5 25 yX0_init, Cond.instanceMethod yX0_init, Cond.code yX0_init cX0_init 1 none, Cond.methodLink RX0 3 objectInit, Cond.arrayClass .byte, Cond.fieldLink RX0 9 "RainReservoir$RainText" "bytes" "[B", Cond.fieldLink RX0 15 "RainReservoir$RainText" "found" "[I", Cond.methodLink RL 78 yL_plans, Cond.static yL_plans, Cond.initialized RL, Cond.code yL_plans cL_plans 11 (some .boolean), Cond.methodLink RL 9 yL_cell, Cond.static yL_cell, Cond.code yL_cell cL_cell 2 (some .int), Cond.constant RL 7 (1013904242), Cond.methodLink RL 15 yL_up, Cond.static yL_up, Cond.code yL_up cL_up 2 (some .int), Cond.constant RL 8 (2147483647), Cond.methodLink RL 19 yX5_addRoof, Cond.instanceMethod yX5_addRoof]
def wsL_law0_r4 : List Cond := [Cond.selects RX5 yX5_addRoof yX5_addRoof, Cond.code yX5_addRoof cX5_addRoof 5 (some .int), Cond.classLink RX5 39 "java/lang/IllegalStateException", Cond.initialized "java/lang/IllegalStateException", Cond.constant RX5 34 (50000), Cond.fieldLink RX5 35 "RainReservoir$State" "roofCount" "I", Cond.fieldLink RX5 49 "RainReservoir$State" "roofs" "[LRainReservoir$Roof;", Cond.methodLink RX5 30 yX5_checkRange, Cond.static yX5_checkRange, Cond.code yX5_checkRange cX5_checkRange 3 none, Cond.classLink RX5 224 "java/lang/IllegalArgumentException", Cond.initialized "java/lang/IllegalArgumentException", Cond.methodLink RX5 46 yX5_save, Cond.instanceMethod yX5_save, Cond.selects RX5 yX5_save yX5_save, Cond.code yX5_save cX5_save 3 none, Cond.fieldLink RX5 207 "RainReservoir" "savedCount" "I", Cond.methodLink RX5 212 yX2_copyFrom, Cond.instanceMethod yX2_copyFrom, Cond.selects RX2 yX2_copyFrom yX2_copyFrom, Cond.code yX2_copyFrom cX2_copyFrom 3 none, Cond.fieldLink RX2 39 "RainReservoir$State" "floor" "I", Cond.fieldLink RX2 42 "RainReservoir$State" "topUp" "I", Cond.fieldLink RX2 45 "RainReservoir$State" "evaporation" "I"]
def wsL_law0_r5 : List Cond := [Cond.fieldLink RX2 48 "RainReservoir$State" "rule" "I", Cond.fieldLink RX2 51 "RainReservoir$State" "roofCount" "I", Cond.fieldLink RX2 61 "RainReservoir$State" "rainCount" "I", Cond.methodLink RX2 64 arraycopyName, Cond.native arraycopyName, Cond.static arraycopyName, Cond.initialized "java/lang/System", Cond.fieldLink RX2 70 "RainReservoir$State" "doneCount" "I", Cond.fieldLink RX2 73 "RainReservoir$State" "level" "I", Cond.fieldLink RX2 76 "RainReservoir$State" "dryDays" "I", Cond.fieldLink RX2 79 "RainReservoir$State" "looseOverflow" "J", Cond.methodLink RX2 54 yX1_copyFrom, Cond.instanceMethod yX1_copyFrom, Cond.selects RX1 yX1_copyFrom yX1_copyFrom, Cond.code yX1_copyFrom cX1_copyFrom 2 none, Cond.fieldLink RX1 7 "RainReservoir$Roof" "area" "I", Cond.fieldLink RX1 13 "RainReservoir$Roof" "yieldPercent" "I", Cond.fieldLink RX1 16 "RainReservoir$Roof" "flush" "I", Cond.fieldLink RX1 19 "RainReservoir$Roof" "gutter" "I", Cond.fieldLink RX1 29 "RainReservoir$Roof" "water" "I", Cond.fieldLink RX1 32 "RainReservoir$Roof" "spilledInAll" "I", Cond.methodLink RX1 25 yX1_set, Cond.instanceMethod yX1_set, Cond.selects RX1 yX1_set yX1_set]
def wsL_law0_r6 : List Cond := [Cond.code yX1_set cX1_set 5 none, Cond.methodLink RX1 22 yX1_clearAmounts, Cond.instanceMethod yX1_clearAmounts, Cond.selects RX1 yX1_clearAmounts yX1_clearAmounts, Cond.code yX1_clearAmounts cX1_clearAmounts 1 none, Cond.methodLink RX2 58 yX4_copyFrom, Cond.instanceMethod yX4_copyFrom, Cond.selects RX4 yX4_copyFrom yX4_copyFrom, Cond.code yX4_copyFrom cX4_copyFrom 3 none, Cond.fieldLink RX4 22 "RainReservoir$Users" "count" "I", Cond.methodLink RX4 26 yX3_copyFrom, Cond.instanceMethod yX3_copyFrom, Cond.selects RX3 yX3_copyFrom yX3_copyFrom, Cond.code yX3_copyFrom cX3_copyFrom 2 none, Cond.fieldLink RX3 9 "RainReservoir$User" "demand" "I", Cond.fieldLink RX3 15 "RainReservoir$User" "weight" "I", Cond.fieldLink RX3 25 "RainReservoir$User" "gotLatest" "I", Cond.fieldLink RX3 28 "RainReservoir$User" "gotInAll" "I", Cond.methodLink RX3 21 yX3_set, Cond.instanceMethod yX3_set, Cond.selects RX3 yX3_set yX3_set, Cond.code yX3_set cX3_set 3 none, Cond.methodLink RX3 18 yX3_clearAmounts, Cond.instanceMethod yX3_clearAmounts]
def wsL_law0_r7 : List Cond := [Cond.selects RX3 yX3_clearAmounts yX3_clearAmounts, Cond.code yX3_clearAmounts cX3_clearAmounts 1 none, Cond.methodLink RX5 53 yX1_set, Cond.methodLink RL 25 yX5_addUser, Cond.instanceMethod yX5_addUser, Cond.selects RX5 yX5_addUser yX5_addUser, Cond.code yX5_addUser cX5_addUser 3 (some .int), Cond.fieldLink RX5 59 "RainReservoir$State" "users" "LRainReservoir$Users;", Cond.fieldLink RX5 63 "RainReservoir$Users" "count" "I", Cond.fieldLink RX5 70 "RainReservoir$Users" "rows" "[LRainReservoir$User;", Cond.methodLink RX5 74 yX3_set, Cond.methodLink RL 82 yL_isStep, Cond.static yL_isStep, Cond.code yL_isStep cL_isStep 6 (some .boolean), Cond.constant RL 43 (1000000), Cond.methodLink RL 32 yL_sets, Cond.static yL_sets, Cond.code yL_sets cL_sets 6 (some .boolean), Cond.methodLink RL 28 yX5_setReservoir, Cond.instanceMethod yX5_setReservoir, Cond.selects RX5 yX5_setReservoir yX5_setReservoir, Cond.code yX5_setReservoir cX5_setReservoir 5 (some .int), Cond.constant RX5 85 (60000), Cond.fieldLink RX5 86 "RainReservoir$State" "capacity" "I"]
def wsL_law0_r8 : List Cond := [Cond.fieldLink RX5 89 "RainReservoir$State" "floor" "I", Cond.fieldLink RX5 92 "RainReservoir$State" "topUp" "I", Cond.fieldLink RX5 95 "RainReservoir$State" "looseOverflow" "J", Cond.methodLink RX5 99 yX2_dropAboveCapacity, Cond.instanceMethod yX2_dropAboveCapacity, Cond.selects RX2 yX2_dropAboveCapacity yX2_dropAboveCapacity, Cond.code yX2_dropAboveCapacity cX2_dropAboveCapacity 2 (some .int), Cond.methodLink RX2 94 Lib.Math.max.name, Cond.static Lib.Math.max.name, Cond.initialized "java/lang/Math", Cond.code Lib.Math.max.name Lib.Math.max.code 2 (some .int), Cond.methodLink RL 36 yX5_setWays, Cond.instanceMethod yX5_setWays, Cond.selects RX5 yX5_setWays yX5_setWays, Cond.code yX5_setWays cX5_setWays 5 (some .int), Cond.fieldLink RX5 103 "RainReservoir$State" "rule" "I", Cond.fieldLink RX5 106 "RainReservoir$State" "evaporation" "I", Cond.fieldLink RX5 109 "RainReservoir$State" "dryLimit" "I", Cond.methodLink RL 39 yX5_setting, Cond.instanceMethod yX5_setting, Cond.selects RX5 yX5_setting yX5_setting, Cond.code yX5_setting cX5_setting 2 (some .int), Cond.methodLink RX5 112 yX2_settingValue, Cond.instanceMethod yX2_settingValue]
def wsL_law0_r9 : List Cond := [Cond.selects RX2 yX2_settingValue yX2_settingValue, Cond.code yX2_settingValue cX2_settingValue 2 (some .int), Cond.fieldLink RX2 87 "RainReservoir$Users" "count" "I", Cond.methodLink RL 44 yX5_addRandomRain, Cond.instanceMethod yX5_addRandomRain, Cond.selects RX5 yX5_addRandomRain yX5_addRandomRain, Cond.code yX5_addRandomRain cX5_addRandomRain 9 (some .int), Cond.constant RX5 130 (999999), Cond.constantLong RX5 135 (65536), Cond.constantLong RX5 137 (100), Cond.fieldLink RX5 127 "RainReservoir$State" "rainCount" "I", Cond.methodLink RX5 120 yX5_checkRoomForDays, Cond.instanceMethod yX5_checkRoomForDays, Cond.selects RX5 yX5_checkRoomForDays yX5_checkRoomForDays, Cond.code yX5_checkRoomForDays cX5_checkRoomForDays 2 none, Cond.methodLink RX5 131 yX5_nextRandom, Cond.static yX5_nextRandom, Cond.code yX5_nextRandom cX5_nextRandom 2 (some .long), Cond.constantLong RX5 236 (1103515245), Cond.constantLong RX5 238 (12345), Cond.constantLong RX5 240 (2147483648), Cond.methodLink RX5 124 yX2_putRain, Cond.instanceMethod yX2_putRain, Cond.selects RX2 yX2_putRain yX2_putRain]
def wsL_law0_r10 : List Cond := [Cond.code yX2_putRain cX2_putRain 2 none, Cond.methodLink RL 47 yX5_restart, Cond.instanceMethod yX5_restart, Cond.selects RX5 yX5_restart yX5_restart, Cond.code yX5_restart cX5_restart 2 (some .int), Cond.fieldLink RX5 143 "RainReservoir$State" "doneCount" "I", Cond.methodLink RX5 158 yX2_goBack, Cond.instanceMethod yX2_goBack, Cond.selects RX2 yX2_goBack yX2_goBack, Cond.code yX2_goBack cX2_goBack 2 none, Cond.methodLink RX2 83 yX1_clearAmounts, Cond.methodLink RX2 86 yX4_clearAmounts, Cond.instanceMethod yX4_clearAmounts, Cond.selects RX4 yX4_clearAmounts yX4_clearAmounts, Cond.code yX4_clearAmounts cX4_clearAmounts 2 none, Cond.methodLink RX4 30 yX3_clearAmounts, Cond.methodLink RL 51 yX5_run, Cond.instanceMethod yX5_run, Cond.selects RX5 yX5_run yX5_run, Cond.code yX5_run cX5_run 5 (some .int), Cond.methodLink RX5 148 yX2_collect, Cond.instanceMethod yX2_collect, Cond.selects RX2 yX2_collect yX2_collect, Cond.code yX2_collect cX2_collect 11 none]
def wsL_law0_r11 : List Cond := [Cond.methodLink RX2 99 yX2_drainWhenDry, Cond.instanceMethod yX2_drainWhenDry, Cond.selects RX2 yX2_drainWhenDry yX2_drainWhenDry, Cond.code yX2_drainWhenDry cX2_drainWhenDry 4 (some .int), Cond.methodLink RX2 134 yX1_drain, Cond.instanceMethod yX1_drain, Cond.selects RX1 yX1_drain yX1_drain, Cond.code yX1_drain cX1_drain 2 (some .int), Cond.methodLink RX2 103 yX1_caught, Cond.instanceMethod yX1_caught, Cond.selects RX1 yX1_caught yX1_caught, Cond.code yX1_caught cX1_caught 2 (some .int), Cond.methodLink RX2 106 yX1_divert, Cond.instanceMethod yX1_divert, Cond.selects RX1 yX1_divert yX1_divert, Cond.code yX1_divert cX1_divert 3 (some .int), Cond.methodLink RX1 35 Lib.Math.min.name, Cond.static Lib.Math.min.name, Cond.code Lib.Math.min.name Lib.Math.min.code 2 (some .int), Cond.methodLink RX2 109 yX1_spill, Cond.instanceMethod yX1_spill, Cond.selects RX1 yX1_spill yX1_spill, Cond.code yX1_spill cX1_spill 3 (some .int), Cond.methodLink RX1 41 Lib.Math.max.name]
def wsL_law0_r12 : List Cond := [Cond.methodLink RX2 112 yX2_put, Cond.instanceMethod yX2_put, Cond.selects RX2 yX2_put yX2_put, Cond.code yX2_put cX2_put 4 none, Cond.methodLink RX5 151 yX2_serve, Cond.instanceMethod yX2_serve, Cond.selects RX2 yX2_serve yX2_serve, Cond.code yX2_serve cX2_serve 5 none, Cond.methodLink RX2 90 yX2_account, Cond.instanceMethod yX2_account, Cond.selects RX2 yX2_account yX2_account, Cond.code yX2_account cX2_account 3 (some .int), Cond.methodLink RX2 116 yX2_dropAboveCapacity, Cond.methodLink RX2 120 yX4_handOut, Cond.instanceMethod yX4_handOut, Cond.selects RX4 yX4_handOut yX4_handOut, Cond.code yX4_handOut cX4_handOut 6 (some .int), Cond.fieldLink RX4 45 "RainReservoir$User" "gotLatest" "I", Cond.fieldLink RX4 36 "RainReservoir$User" "gotInAll" "I", Cond.methodLink RX4 48 yX4_demandInAll, Cond.instanceMethod yX4_demandInAll, Cond.selects RX4 yX4_demandInAll yX4_demandInAll, Cond.code yX4_demandInAll cX4_demandInAll 3 (some .int), Cond.fieldLink RX4 33 "RainReservoir$User" "demand" "I"]
def wsL_law0_r13 : List Cond := [Cond.methodLink RX4 52 yX4_orderByNumber, Cond.instanceMethod yX4_orderByNumber, Cond.selects RX4 yX4_orderByNumber yX4_orderByNumber, Cond.code yX4_orderByNumber cX4_orderByNumber 2 none, Cond.methodLink RX4 55 yX4_serveOrder, Cond.instanceMethod yX4_serveOrder, Cond.selects RX4 yX4_serveOrder yX4_serveOrder, Cond.code yX4_serveOrder cX4_serveOrder 4 none, Cond.methodLink RX4 73 yX3_give, Cond.instanceMethod yX3_give, Cond.selects RX3 yX3_give yX3_give, Cond.code yX3_give cX3_give 3 (some .int), Cond.methodLink RX3 35 Lib.Math.min.name, Cond.methodLink RX3 31 yX3_lack, Cond.instanceMethod yX3_lack, Cond.selects RX3 yX3_lack yX3_lack, Cond.code yX3_lack cX3_lack 1 (some .int), Cond.methodLink RX4 59 yX4_share, Cond.instanceMethod yX4_share, Cond.selects RX4 yX4_share yX4_share, Cond.code yX4_share cX4_share 4 none, Cond.methodLink RX4 63 yX4_shareByDemand, Cond.instanceMethod yX4_shareByDemand, Cond.selects RX4 yX4_shareByDemand yX4_shareByDemand]
def wsL_law0_r14 : List Cond := [Cond.code yX4_shareByDemand cX4_shareByDemand 7 none, Cond.methodLink RX4 67 yX4_shareInRounds, Cond.instanceMethod yX4_shareInRounds, Cond.selects RX4 yX4_shareInRounds yX4_shareInRounds, Cond.code yX4_shareInRounds cX4_shareInRounds 6 none, Cond.methodLink RX4 83 Lib.Math.min.name, Cond.methodLink RX4 77 yX4_fullRounds, Cond.instanceMethod yX4_fullRounds, Cond.selects RX4 yX4_fullRounds yX4_fullRounds, Cond.code yX4_fullRounds cX4_fullRounds 4 (some .int), Cond.methodLink RX4 86 yX3_lack, Cond.methodLink RX4 80 yX3_portion, Cond.instanceMethod yX3_portion, Cond.selects RX3 yX3_portion yX3_portion, Cond.code yX3_portion cX3_portion 1 (some .int), Cond.methodLink RX4 70 yX4_orderByDemand, Cond.instanceMethod yX4_orderByDemand, Cond.selects RX4 yX4_orderByDemand yX4_orderByDemand, Cond.code yX4_orderByDemand cX4_orderByDemand 3 none, Cond.methodLink RX2 123 yX4_demandInAll, Cond.methodLink RX5 154 yX2_isShort, Cond.instanceMethod yX2_isShort, Cond.selects RX2 yX2_isShort yX2_isShort, Cond.code yX2_isShort cX2_isShort 2 (some .boolean)]
def wsL_law0_r15 : List Cond := [Cond.methodLink RL 85 yL_areAlike, Cond.static yL_areAlike, Cond.code yL_areAlike cL_areAlike 4 (some .boolean), Cond.methodLink RL 54 yX5_sum, Cond.instanceMethod yX5_sum, Cond.selects RX5 yX5_sum yX5_sum, Cond.code yX5_sum cX5_sum 5 (some .long), Cond.methodLink RX5 161 yX2_account, Cond.methodLink RL 58 yX5_user, Cond.instanceMethod yX5_user, Cond.selects RX5 yX5_user yX5_user, Cond.code yX5_user cX5_user 3 (some .int), Cond.methodLink RX5 79 yX5_checkIndex, Cond.static yX5_checkIndex, Cond.code yX5_checkIndex cX5_checkIndex 2 none, Cond.classLink RX5 229 "java/lang/IndexOutOfBoundsException", Cond.initialized "java/lang/IndexOutOfBoundsException", Cond.methodLink RX5 119 yX3_value, Cond.instanceMethod yX3_value, Cond.selects RX3 yX3_value yX3_value, Cond.code yX3_value cX3_value 2 (some .int), Cond.methodLink RL 61 yX5_reliability, Cond.instanceMethod yX5_reliability, Cond.selects RX5 yX5_reliability yX5_reliability]
def wsL_law0_r16 : List Cond := [Cond.code yX5_reliability cX5_reliability 4 (some .double), Cond.methodLink RL 65 yX5_longestShortage, Cond.instanceMethod yX5_longestShortage, Cond.selects RX5 yX5_longestShortage yX5_longestShortage, Cond.code yX5_longestShortage cX5_longestShortage 4 (some .int), Cond.methodLink RX5 165 Lib.Math.max.name, Cond.methodLink RL 89 yL_isSound, Cond.static yL_isSound, Cond.code yL_isSound cL_isSound 8 (some .boolean), Cond.methodLink RL 68 yX5_roof, Cond.instanceMethod yX5_roof, Cond.selects RX5 yX5_roof yX5_roof, Cond.code yX5_roof cX5_roof 3 (some .int), Cond.methodLink RX5 116 yX1_value, Cond.instanceMethod yX1_value, Cond.selects RX1 yX1_value yX1_value, Cond.code yX1_value cX1_value 2 (some .int), Cond.methodLink RL 71 yX5_day, Cond.instanceMethod yX5_day, Cond.selects RX5 yX5_day yX5_day, Cond.code yX5_day cX5_day 3 (some .int), Cond.methodLink RL 74 yX5_rain, Cond.instanceMethod yX5_rain, Cond.selects RX5 yX5_rain yX5_rain]
def wsL_law0_r17 : List Cond := [Cond.code yX5_rain cX5_rain 2 (some .int), Cond.fieldLink RX5 139 "RainReservoir$State" "rains" "[I", Cond.methodLink RL 93 yX5_shortDaysWith, Cond.instanceMethod yX5_shortDaysWith, Cond.selects RX5 yX5_shortDaysWith yX5_shortDaysWith, Cond.code yX5_shortDaysWith cX5_shortDaysWith 2 (some .int), Cond.methodLink RX5 170 yX5_prepareTrial, Cond.instanceMethod yX5_prepareTrial, Cond.selects RX5 yX5_prepareTrial yX5_prepareTrial, Cond.code yX5_prepareTrial cX5_prepareTrial 2 none, Cond.methodLink RX5 173 yX5_setTrialCapacity, Cond.instanceMethod yX5_setTrialCapacity, Cond.selects RX5 yX5_setTrialCapacity yX5_setTrialCapacity, Cond.code yX5_setTrialCapacity cX5_setTrialCapacity 2 none, Cond.methodLink RX5 242 Lib.Math.min.name, Cond.methodLink RX5 176 yX2_serveAll, Cond.instanceMethod yX2_serveAll, Cond.selects RX2 yX2_serveAll yX2_serveAll, Cond.code yX2_serveAll cX2_serveAll 4 (some .int), Cond.methodLink RX2 126 yX2_serve, Cond.methodLink RX2 130 yX2_isShort, Cond.methodLink RL 96 yX5_capacityFor, Cond.instanceMethod yX5_capacityFor, Cond.selects RX5 yX5_capacityFor yX5_capacityFor]
def wsL_law0_r18 : List Cond := [Cond.code yX5_capacityFor cX5_capacityFor 3 (some .int), Cond.methodLink RL 99 yX5_bestRule, Cond.instanceMethod yX5_bestRule, Cond.selects RX5 yX5_bestRule yX5_bestRule, Cond.code yX5_bestRule cX5_bestRule 5 (some .int), Cond.methodLink RX5 179 yX4_greatestLack, Cond.instanceMethod yX4_greatestLack, Cond.selects RX4 yX4_greatestLack yX4_greatestLack, Cond.code yX4_greatestLack cX4_greatestLack 4 (some .int), Cond.methodLink RX4 39 Lib.Math.max.name, Cond.methodLink RL 102 yX5_sustainable, Cond.instanceMethod yX5_sustainable, Cond.selects RX5 yX5_sustainable yX5_sustainable, Cond.code yX5_sustainable cX5_sustainable 2 (some .int), Cond.methodLink RX5 182 yX4_scaleDemands, Cond.instanceMethod yX4_scaleDemands, Cond.selects RX4 yX4_scaleDemands yX4_scaleDemands, Cond.code yX4_scaleDemands cX4_scaleDemands 4 none, Cond.methodLink RL 105 yX5_gutterLoss, Cond.instanceMethod yX5_gutterLoss, Cond.selects RX5 yX5_gutterLoss yX5_gutterLoss, Cond.code yX5_gutterLoss cX5_gutterLoss 2 (some .long), Cond.fieldLink RX5 186 "RainReservoir$Roof" "spilledInAll" "I", Cond.methodLink RL 108 yX5_digest]
def wsL_law0_r19 : List Cond := [Cond.instanceMethod yX5_digest, Cond.selects RX5 yX5_digest yX5_digest, Cond.code yX5_digest cX5_digest 5 (some .long), Cond.constantLong RX5 216 (99293), Cond.fieldLink RX5 189 "RainReservoir$RainText" "length" "I", Cond.constantLong RX5 218 (31), Cond.methodLink RX5 220 yX5_sum, Cond.methodLink RL 112 yX5_undo, Cond.instanceMethod yX5_undo, Cond.selects RX5 yX5_undo yX5_undo, Cond.code yX5_undo cX5_undo 1 (some .int)]
def wsL_law0 : List Cond := (wsL_law0_r1 ++ (wsL_law0_r2 ++ (wsL_law0_r3 ++ (wsL_law0_r4 ++ (wsL_law0_r5 ++ (wsL_law0_r6 ++ (wsL_law0_r7 ++ (wsL_law0_r8 ++ (wsL_law0_r9 ++ (wsL_law0_r10 ++ (wsL_law0_r11 ++ (wsL_law0_r12 ++ (wsL_law0_r13 ++ (wsL_law0_r14 ++ (wsL_law0_r15 ++ (wsL_law0_r16 ++ (wsL_law0_r17 ++ (wsL_law0_r18 ++ wsL_law0_r19)))))))))))))))))) ++ wsX50 ++ wsX20 ++ wsX00 ++ wsX10 ++ wsX40 ++ wsX30 ++ ([] : List Cond)
def wsL_law : List Cond := wsL_law0 ++ (vx_atS RX5 43 "java/lang/IllegalStateException" ["java/lang/RuntimeException", "java/lang/Exception"]).filter goodWord ++ (vx_atS RX5 228 "java/lang/IllegalArgumentException" ["java/lang/RuntimeException", "java/lang/Exception"]).filter goodWord ++ (vx_atS RX5 233 "java/lang/IndexOutOfBoundsException" ["java/lang/RuntimeException", "java/lang/Exception"]).filter goodWord
abbrev vwCl : List vw_C := [(RX0, TX0, 6), (RX1, TX1, 6), (RX2, TX2, 16), (RX3, TX3, 4), (RX4, TX4, 3), (RX5, TX5, 5)]
end
section
theorem dX0_init_0 : decode cX0_init 0 = .ok (.aload_n 0, 1) := by decide +kernel
theorem dX0_init_1 : decode cX0_init 1 = .ok (.invokespecial 3, 3) := by decide +kernel
theorem dX0_init_4 : decode cX0_init 4 = .ok (.aload_n 0, 1) := by decide +kernel
theorem dX0_init_5 : decode cX0_init 5 = .ok (.bipush 120, 2) := by decide +kernel
theorem dX0_init_7 : decode cX0_init 7 = .ok (.newarray .byte, 2) := by decide +kernel
theorem dX0_init_9 : decode cX0_init 9 = .ok (.putfield 9, 3) := by decide +kernel
theorem dX0_init_12 : decode cX0_init 12 = .ok (.aload_n 0, 1) := by decide +kernel
theorem dX0_init_13 : decode cX0_init 13 = .ok (.bipush 100, 2) := by decide +kernel
theorem dX0_init_15 : decode cX0_init 15 = .ok (.newarray .int, 2) := by decide +kernel
theorem dX0_init_17 : decode cX0_init 17 = .ok (.putfield 15, 3) := by decide +kernel
theorem dX0_init_20 : decode cX0_init 20 = .ok (.return_, 1) := by decide +kernel
theorem dX1_init_0 : decode cX1_init 0 = .ok (.aload_n 0, 1) := by decide +kernel
theorem dX1_init_1 : decode cX1_init 1 = .ok (.invokespecial 1, 3) := by decide +kernel
theorem dX1_init_4 : decode cX1_init 4 = .ok (.return_, 1) := by decide +kernel
set_option maxRecDepth 20000 in
theorem ggX1_set_X1_clearAmounts : GoodIn wsX1_set wsX1_clearAmounts := goodIn_r _ [9, 10, 11, 12, 13, 14, 15, 16, 17] (by decide +kernel) (by decide +kernel)
set_option maxRecDepth 20000 in
theorem gX1_set_X1_clearAmounts : GoodIn wsX1_set (wsV RX1 22 RX1 yX1_clearAmounts wsX1_clearAmounts) := goodIn_app (goodIn_of _ (by decide +kernel)) ggX1_set_X1_clearAmounts
theorem dX1_set_0 : decode cX1_set 0 = .ok (.aload_n 0, 1) := by decide +kernel
theorem dX1_set_1 : decode cX1_set 1 = .ok (.iload_n 1, 1) := by decide +kernel
theorem dX1_set_2 : decode cX1_set 2 = .ok (.putfield 7, 3) := by decide +kernel
theorem dX1_set_5 : decode cX1_set 5 = .ok (.aload_n 0, 1) := by decide +kernel
theorem dX1_set_6 : decode cX1_set 6 = .ok (.iload_n 2, 1) := by decide +kernel
theorem dX1_set_7 : decode cX1_set 7 = .ok (.putfield 13, 3) := by decide +kernel
theorem dX1_set_10 : decode cX1_set 10 = .ok (.aload_n 0, 1) := by decide +kernel
theorem dX1_set_11 : decode cX1_set 11 = .ok (.iload_n 3, 1) := by decide +kernel
theorem dX1_set_12 : decode cX1_set 12 = .ok (.putfield 16, 3) := by decide +kernel
theorem dX1_set_15 : decode cX1_set 15 = .ok (.aload_n 0, 1) := by decide +kernel
theorem dX1_set_16 : decode cX1_set 16 = .ok (.iload 4, 2) := by decide +kernel
theorem dX1_set_18 : decode cX1_set 18 = .ok (.putfield 19, 3) := by decide +kernel
theorem dX1_set_21 : decode cX1_set 21 = .ok (.aload_n 0, 1) := by decide +kernel
theorem dX1_set_22 : decode cX1_set 22 = .ok (.invokevirtual 22, 3) := by decide +kernel
theorem dX1_set_25 : decode cX1_set 25 = .ok (.return_, 1) := by decide +kernel
set_option maxRecDepth 20000 in
theorem ggX1_copyFrom_X1_set : GoodIn wsX1_copyFrom wsX1_set := goodIn_r _ [11, 1, 2, 3, 4, 12, 13, 14, 10, 15, 5, 6, 16, 17, 18, 19, 20, 21] (by decide +kernel) (by decide +kernel)
set_option maxRecDepth 20000 in
theorem gX1_copyFrom_X1_set : GoodIn wsX1_copyFrom (wsV RX1 25 RX1 yX1_set wsX1_set) := goodIn_app (goodIn_of _ (by decide +kernel)) ggX1_copyFrom_X1_set
theorem dX1_copyFrom_0 : decode cX1_copyFrom 0 = .ok (.aload_n 0, 1) := by decide +kernel
theorem dX1_copyFrom_1 : decode cX1_copyFrom 1 = .ok (.aload_n 1, 1) := by decide +kernel
theorem dX1_copyFrom_2 : decode cX1_copyFrom 2 = .ok (.getfield 7, 3) := by decide +kernel
theorem dX1_copyFrom_5 : decode cX1_copyFrom 5 = .ok (.aload_n 1, 1) := by decide +kernel
theorem dX1_copyFrom_6 : decode cX1_copyFrom 6 = .ok (.getfield 13, 3) := by decide +kernel
theorem dX1_copyFrom_9 : decode cX1_copyFrom 9 = .ok (.aload_n 1, 1) := by decide +kernel
theorem dX1_copyFrom_10 : decode cX1_copyFrom 10 = .ok (.getfield 16, 3) := by decide +kernel
theorem dX1_copyFrom_13 : decode cX1_copyFrom 13 = .ok (.aload_n 1, 1) := by decide +kernel
theorem dX1_copyFrom_14 : decode cX1_copyFrom 14 = .ok (.getfield 19, 3) := by decide +kernel
theorem dX1_copyFrom_17 : decode cX1_copyFrom 17 = .ok (.invokevirtual 25, 3) := by decide +kernel
theorem dX1_copyFrom_20 : decode cX1_copyFrom 20 = .ok (.aload_n 0, 1) := by decide +kernel
theorem dX1_copyFrom_21 : decode cX1_copyFrom 21 = .ok (.aload_n 1, 1) := by decide +kernel
theorem dX1_copyFrom_22 : decode cX1_copyFrom 22 = .ok (.getfield 29, 3) := by decide +kernel
theorem dX1_copyFrom_25 : decode cX1_copyFrom 25 = .ok (.putfield 29, 3) := by decide +kernel
theorem dX1_copyFrom_28 : decode cX1_copyFrom 28 = .ok (.aload_n 0, 1) := by decide +kernel
theorem dX1_copyFrom_29 : decode cX1_copyFrom 29 = .ok (.aload_n 1, 1) := by decide +kernel
theorem dX1_copyFrom_30 : decode cX1_copyFrom 30 = .ok (.getfield 32, 3) := by decide +kernel
theorem dX1_copyFrom_33 : decode cX1_copyFrom 33 = .ok (.putfield 32, 3) := by decide +kernel
theorem dX1_copyFrom_36 : decode cX1_copyFrom 36 = .ok (.return_, 1) := by decide +kernel
theorem dX1_clearAmounts_0 : decode cX1_clearAmounts 0 = .ok (.aload_n 0, 1) := by decide +kernel
theorem dX1_clearAmounts_1 : decode cX1_clearAmounts 1 = .ok (.iconst 0, 1) := by decide +kernel
theorem dX1_clearAmounts_2 : decode cX1_clearAmounts 2 = .ok (.putfield 29, 3) := by decide +kernel
theorem dX1_clearAmounts_5 : decode cX1_clearAmounts 5 = .ok (.aload_n 0, 1) := by decide +kernel
theorem dX1_clearAmounts_6 : decode cX1_clearAmounts 6 = .ok (.iconst 0, 1) := by decide +kernel
theorem dX1_clearAmounts_7 : decode cX1_clearAmounts 7 = .ok (.putfield 32, 3) := by decide +kernel
theorem dX1_clearAmounts_10 : decode cX1_clearAmounts 10 = .ok (.return_, 1) := by decide +kernel
theorem dX1_value_0 : decode cX1_value 0 = .ok (.iload_n 1, 1) := by decide +kernel
theorem dX1_value_1 : decode cX1_value 1 = .ok (.tableswitch 51 0 3 #[31, 36, 41, 46], 31) := by decide +kernel
theorem dX1_value_32 : decode cX1_value 32 = .ok (.aload_n 0, 1) := by decide +kernel
theorem dX1_value_33 : decode cX1_value 33 = .ok (.getfield 7, 3) := by decide +kernel
theorem dX1_value_36 : decode cX1_value 36 = .ok (.ireturn, 1) := by decide +kernel
theorem dX1_value_37 : decode cX1_value 37 = .ok (.aload_n 0, 1) := by decide +kernel
theorem dX1_value_38 : decode cX1_value 38 = .ok (.getfield 13, 3) := by decide +kernel
theorem dX1_value_41 : decode cX1_value 41 = .ok (.ireturn, 1) := by decide +kernel
theorem dX1_value_42 : decode cX1_value 42 = .ok (.aload_n 0, 1) := by decide +kernel
theorem dX1_value_43 : decode cX1_value 43 = .ok (.getfield 16, 3) := by decide +kernel
theorem dX1_value_46 : decode cX1_value 46 = .ok (.ireturn, 1) := by decide +kernel
theorem dX1_value_47 : decode cX1_value 47 = .ok (.aload_n 0, 1) := by decide +kernel
theorem dX1_value_48 : decode cX1_value 48 = .ok (.getfield 19, 3) := by decide +kernel
theorem dX1_value_51 : decode cX1_value 51 = .ok (.ireturn, 1) := by decide +kernel
theorem dX1_value_52 : decode cX1_value 52 = .ok (.aload_n 0, 1) := by decide +kernel
theorem dX1_value_53 : decode cX1_value 53 = .ok (.getfield 29, 3) := by decide +kernel
theorem dX1_value_56 : decode cX1_value 56 = .ok (.ireturn, 1) := by decide +kernel
theorem dX1_caught_0 : decode cX1_caught 0 = .ok (.aload_n 0, 1) := by decide +kernel
theorem dX1_caught_1 : decode cX1_caught 1 = .ok (.getfield 7, 3) := by decide +kernel
theorem dX1_caught_4 : decode cX1_caught 4 = .ok (.iload_n 1, 1) := by decide +kernel
theorem dX1_caught_5 : decode cX1_caught 5 = .ok (.imul, 1) := by decide +kernel
theorem dX1_caught_6 : decode cX1_caught 6 = .ok (.aload_n 0, 1) := by decide +kernel
theorem dX1_caught_7 : decode cX1_caught 7 = .ok (.getfield 13, 3) := by decide +kernel
theorem dX1_caught_10 : decode cX1_caught 10 = .ok (.imul, 1) := by decide +kernel
theorem dX1_caught_11 : decode cX1_caught 11 = .ok (.bipush 100, 2) := by decide +kernel
theorem dX1_caught_13 : decode cX1_caught 13 = .ok (.idiv, 1) := by decide +kernel
theorem dX1_caught_14 : decode cX1_caught 14 = .ok (.ireturn, 1) := by decide +kernel
theorem dX1_divert_0 : decode cX1_divert 0 = .ok (.iload_n 1, 1) := by decide +kernel
theorem dX1_divert_1 : decode cX1_divert 1 = .ok (.aload_n 0, 1) := by decide +kernel
theorem dX1_divert_2 : decode cX1_divert 2 = .ok (.getfield 16, 3) := by decide +kernel
theorem dX1_divert_5 : decode cX1_divert 5 = .ok (.aload_n 0, 1) := by decide +kernel
theorem dX1_divert_6 : decode cX1_divert 6 = .ok (.getfield 29, 3) := by decide +kernel
theorem dX1_divert_9 : decode cX1_divert 9 = .ok (.isub, 1) := by decide +kernel
theorem dX1_divert_10 : decode cX1_divert 10 = .ok (.invokestatic 35, 3) := by decide +kernel
theorem dX1_divert_13 : decode cX1_divert 13 = .ok (.istore_n 2, 1) := by decide +kernel
theorem dX1_divert_14 : decode cX1_divert 14 = .ok (.aload_n 0, 1) := by decide +kernel
theorem dX1_divert_15 : decode cX1_divert 15 = .ok (.dup, 1) := by decide +kernel
theorem dX1_divert_16 : decode cX1_divert 16 = .ok (.getfield 29, 3) := by decide +kernel
theorem dX1_divert_19 : decode cX1_divert 19 = .ok (.iload_n 2, 1) := by decide +kernel
theorem dX1_divert_20 : decode cX1_divert 20 = .ok (.iadd, 1) := by decide +kernel
theorem dX1_divert_21 : decode cX1_divert 21 = .ok (.putfield 29, 3) := by decide +kernel
theorem dX1_divert_24 : decode cX1_divert 24 = .ok (.iload_n 2, 1) := by decide +kernel
theorem dX1_divert_25 : decode cX1_divert 25 = .ok (.ireturn, 1) := by decide +kernel
theorem dX1_spill_0 : decode cX1_spill 0 = .ok (.iload_n 1, 1) := by decide +kernel
theorem dX1_spill_1 : decode cX1_spill 1 = .ok (.aload_n 0, 1) := by decide +kernel
theorem dX1_spill_2 : decode cX1_spill 2 = .ok (.getfield 19, 3) := by decide +kernel
theorem dX1_spill_5 : decode cX1_spill 5 = .ok (.isub, 1) := by decide +kernel
theorem dX1_spill_6 : decode cX1_spill 6 = .ok (.iconst 0, 1) := by decide +kernel
theorem dX1_spill_7 : decode cX1_spill 7 = .ok (.invokestatic 41, 3) := by decide +kernel
theorem dX1_spill_10 : decode cX1_spill 10 = .ok (.istore_n 2, 1) := by decide +kernel
theorem dX1_spill_11 : decode cX1_spill 11 = .ok (.aload_n 0, 1) := by decide +kernel
theorem dX1_spill_12 : decode cX1_spill 12 = .ok (.dup, 1) := by decide +kernel
theorem dX1_spill_13 : decode cX1_spill 13 = .ok (.getfield 32, 3) := by decide +kernel
theorem dX1_spill_16 : decode cX1_spill 16 = .ok (.iload_n 2, 1) := by decide +kernel
theorem dX1_spill_17 : decode cX1_spill 17 = .ok (.iadd, 1) := by decide +kernel
theorem dX1_spill_18 : decode cX1_spill 18 = .ok (.putfield 32, 3) := by decide +kernel
theorem dX1_spill_21 : decode cX1_spill 21 = .ok (.iload_n 2, 1) := by decide +kernel
theorem dX1_spill_22 : decode cX1_spill 22 = .ok (.ireturn, 1) := by decide +kernel
theorem dX1_drain_0 : decode cX1_drain 0 = .ok (.aload_n 0, 1) := by decide +kernel
theorem dX1_drain_1 : decode cX1_drain 1 = .ok (.getfield 29, 3) := by decide +kernel
theorem dX1_drain_4 : decode cX1_drain 4 = .ok (.istore_n 1, 1) := by decide +kernel
theorem dX1_drain_5 : decode cX1_drain 5 = .ok (.aload_n 0, 1) := by decide +kernel
theorem dX1_drain_6 : decode cX1_drain 6 = .ok (.iconst 0, 1) := by decide +kernel
theorem dX1_drain_7 : decode cX1_drain 7 = .ok (.putfield 29, 3) := by decide +kernel
theorem dX1_drain_10 : decode cX1_drain 10 = .ok (.iload_n 1, 1) := by decide +kernel
theorem dX1_drain_11 : decode cX1_drain 11 = .ok (.ireturn, 1) := by decide +kernel
set_option maxRecDepth 20000 in
theorem ggX2_init_X1_init : GoodIn wsX2_init wsX1_init := goodIn_r _ [18, 19, 2, 3] (by decide +kernel) (by decide +kernel)
set_option maxRecDepth 20000 in
theorem gX2_init_X1_init_n24 : GoodIn wsX2_init (wsX1_init) := ggX2_init_X1_init
set_option maxRecDepth 20000 in
theorem ggX2_init_X4_init : GoodIn wsX2_init wsX4_init := goodIn_r _ [22, 23, 2, 3, 24, 25, 26, 27, 14, 28, 29, 30, 31, 54, 55, 56, 57, 58, 59, 60] (by decide +kernel) (by decide +kernel)
set_option maxRecDepth 20000 in
theorem gX2_init_X4_init : GoodIn wsX2_init (wsX4_init) := ggX2_init_X4_init
theorem dX2_init_0 : decode cX2_init 0 = .ok (.aload_n 0, 1) := by decide +kernel
theorem dX2_init_1 : decode cX2_init 1 = .ok (.invokespecial 3, 3) := by decide +kernel
theorem dX2_init_4 : decode cX2_init 4 = .ok (.aload_n 0, 1) := by decide +kernel
theorem dX2_init_5 : decode cX2_init 5 = .ok (.sipush 10000, 3) := by decide +kernel
theorem dX2_init_8 : decode cX2_init 8 = .ok (.putfield 9, 3) := by decide +kernel
theorem dX2_init_11 : decode cX2_init 11 = .ok (.aload_n 0, 1) := by decide +kernel
theorem dX2_init_12 : decode cX2_init 12 = .ok (.iconst 3, 1) := by decide +kernel
theorem dX2_init_13 : decode cX2_init 13 = .ok (.putfield 15, 3) := by decide +kernel
theorem dX2_init_16 : decode cX2_init 16 = .ok (.aload_n 0, 1) := by decide +kernel
theorem dX2_init_17 : decode cX2_init 17 = .ok (.bipush 6, 2) := by decide +kernel
theorem dX2_init_19 : decode cX2_init 19 = .ok (.anewarray 18, 3) := by decide +kernel
theorem dX2_init_22 : decode cX2_init 22 = .ok (.putfield 20, 3) := by decide +kernel
theorem dX2_init_25 : decode cX2_init 25 = .ok (.iconst 0, 1) := by decide +kernel
theorem dX2_init_26 : decode cX2_init 26 = .ok (.istore_n 1, 1) := by decide +kernel
theorem dX2_init_27 : decode cX2_init 27 = .ok (.iload_n 1, 1) := by decide +kernel
theorem dX2_init_28 : decode cX2_init 28 = .ok (.aload_n 0, 1) := by decide +kernel
theorem dX2_init_29 : decode cX2_init 29 = .ok (.getfield 20, 3) := by decide +kernel
theorem dX2_init_32 : decode cX2_init 32 = .ok (.arraylength, 1) := by decide +kernel
theorem dX2_init_33 : decode cX2_init 33 = .ok (.if_icmp .ge 22, 3) := by decide +kernel
theorem dX2_init_36 : decode cX2_init 36 = .ok (.aload_n 0, 1) := by decide +kernel
theorem dX2_init_37 : decode cX2_init 37 = .ok (.getfield 20, 3) := by decide +kernel
theorem dX2_init_40 : decode cX2_init 40 = .ok (.iload_n 1, 1) := by decide +kernel
theorem dX2_init_41 : decode cX2_init 41 = .ok (.new 18, 3) := by decide +kernel
theorem dX2_init_44 : decode cX2_init 44 = .ok (.dup, 1) := by decide +kernel
theorem dX2_init_45 : decode cX2_init 45 = .ok (.invokespecial 24, 3) := by decide +kernel
theorem dX2_init_48 : decode cX2_init 48 = .ok (.aastore, 1) := by decide +kernel
theorem dX2_init_49 : decode cX2_init 49 = .ok (.iinc 1 1, 3) := by decide +kernel
theorem dX2_init_52 : decode cX2_init 52 = .ok (.goto (-25), 3) := by decide +kernel
theorem dX2_init_55 : decode cX2_init 55 = .ok (.aload_n 0, 1) := by decide +kernel
theorem dX2_init_56 : decode cX2_init 56 = .ok (.new 25, 3) := by decide +kernel
theorem dX2_init_59 : decode cX2_init 59 = .ok (.dup, 1) := by decide +kernel
theorem dX2_init_60 : decode cX2_init 60 = .ok (.invokespecial 27, 3) := by decide +kernel
theorem dX2_init_63 : decode cX2_init 63 = .ok (.putfield 28, 3) := by decide +kernel
theorem dX2_init_66 : decode cX2_init 66 = .ok (.aload_n 0, 1) := by decide +kernel
theorem dX2_init_67 : decode cX2_init 67 = .ok (.bipush 100, 2) := by decide +kernel
theorem dX2_init_69 : decode cX2_init 69 = .ok (.newarray .int, 2) := by decide +kernel
theorem dX2_init_71 : decode cX2_init 71 = .ok (.putfield 32, 3) := by decide +kernel
theorem dX2_init_74 : decode cX2_init 74 = .ok (.aload_n 0, 1) := by decide +kernel
theorem dX2_init_75 : decode cX2_init 75 = .ok (.sipush 1000, 3) := by decide +kernel
theorem dX2_init_78 : decode cX2_init 78 = .ok (.newarray .int, 2) := by decide +kernel
theorem dX2_init_80 : decode cX2_init 80 = .ok (.putfield 36, 3) := by decide +kernel
theorem dX2_init_83 : decode cX2_init 83 = .ok (.return_, 1) := by decide +kernel
set_option maxRecDepth 20000 in
theorem ggX2_copyFrom_X1_copyFrom : GoodIn wsX2_copyFrom wsX1_copyFrom := goodIn_r _ [25, 26, 27, 28, 29, 30, 31, 32, 33, 34, 24, 35, 36, 37, 38, 39, 80, 81, 82, 83, 84, 85] (by decide +kernel) (by decide +kernel)
set_option maxRecDepth 20000 in
theorem gX2_copyFrom_X1_copyFrom : GoodIn wsX2_copyFrom (wsV RX2 54 RX1 yX1_copyFrom wsX1_copyFrom) := goodIn_app (goodIn_of _ (by decide +kernel)) ggX2_copyFrom_X1_copyFrom
set_option maxRecDepth 20000 in
theorem ggX2_copyFrom_X4_copyFrom : GoodIn wsX2_copyFrom wsX4_copyFrom := goodIn_r _ [44, 45, 46, 47, 48, 49, 50, 51, 52, 53, 54, 55, 56, 57, 58, 59, 60, 61, 62, 63, 86, 87, 88, 89, 90, 91, 92] (by decide +kernel) (by decide +kernel)
set_option maxRecDepth 20000 in
theorem gX2_copyFrom_X4_copyFrom : GoodIn wsX2_copyFrom (wsV RX2 58 RX4 yX4_copyFrom wsX4_copyFrom) := goodIn_app (goodIn_of _ (by decide +kernel)) ggX2_copyFrom_X4_copyFrom
theorem dX2_copyFrom_0 : decode cX2_copyFrom 0 = .ok (.aload_n 0, 1) := by decide +kernel
theorem dX2_copyFrom_1 : decode cX2_copyFrom 1 = .ok (.aload_n 1, 1) := by decide +kernel
theorem dX2_copyFrom_2 : decode cX2_copyFrom 2 = .ok (.getfield 9, 3) := by decide +kernel
theorem dX2_copyFrom_5 : decode cX2_copyFrom 5 = .ok (.putfield 9, 3) := by decide +kernel
theorem dX2_copyFrom_8 : decode cX2_copyFrom 8 = .ok (.aload_n 0, 1) := by decide +kernel
theorem dX2_copyFrom_9 : decode cX2_copyFrom 9 = .ok (.aload_n 1, 1) := by decide +kernel
theorem dX2_copyFrom_10 : decode cX2_copyFrom 10 = .ok (.getfield 39, 3) := by decide +kernel
theorem dX2_copyFrom_13 : decode cX2_copyFrom 13 = .ok (.putfield 39, 3) := by decide +kernel
theorem dX2_copyFrom_16 : decode cX2_copyFrom 16 = .ok (.aload_n 0, 1) := by decide +kernel
theorem dX2_copyFrom_17 : decode cX2_copyFrom 17 = .ok (.aload_n 1, 1) := by decide +kernel
theorem dX2_copyFrom_18 : decode cX2_copyFrom 18 = .ok (.getfield 42, 3) := by decide +kernel
theorem dX2_copyFrom_21 : decode cX2_copyFrom 21 = .ok (.putfield 42, 3) := by decide +kernel
theorem dX2_copyFrom_24 : decode cX2_copyFrom 24 = .ok (.aload_n 0, 1) := by decide +kernel
theorem dX2_copyFrom_25 : decode cX2_copyFrom 25 = .ok (.aload_n 1, 1) := by decide +kernel
theorem dX2_copyFrom_26 : decode cX2_copyFrom 26 = .ok (.getfield 45, 3) := by decide +kernel
theorem dX2_copyFrom_29 : decode cX2_copyFrom 29 = .ok (.putfield 45, 3) := by decide +kernel
theorem dX2_copyFrom_32 : decode cX2_copyFrom 32 = .ok (.aload_n 0, 1) := by decide +kernel
theorem dX2_copyFrom_33 : decode cX2_copyFrom 33 = .ok (.aload_n 1, 1) := by decide +kernel
theorem dX2_copyFrom_34 : decode cX2_copyFrom 34 = .ok (.getfield 15, 3) := by decide +kernel
theorem dX2_copyFrom_37 : decode cX2_copyFrom 37 = .ok (.putfield 15, 3) := by decide +kernel
theorem dX2_copyFrom_40 : decode cX2_copyFrom 40 = .ok (.aload_n 0, 1) := by decide +kernel
theorem dX2_copyFrom_41 : decode cX2_copyFrom 41 = .ok (.aload_n 1, 1) := by decide +kernel
theorem dX2_copyFrom_42 : decode cX2_copyFrom 42 = .ok (.getfield 48, 3) := by decide +kernel
theorem dX2_copyFrom_45 : decode cX2_copyFrom 45 = .ok (.putfield 48, 3) := by decide +kernel
theorem dX2_copyFrom_48 : decode cX2_copyFrom 48 = .ok (.aload_n 0, 1) := by decide +kernel
theorem dX2_copyFrom_49 : decode cX2_copyFrom 49 = .ok (.aload_n 1, 1) := by decide +kernel
theorem dX2_copyFrom_50 : decode cX2_copyFrom 50 = .ok (.getfield 51, 3) := by decide +kernel
theorem dX2_copyFrom_53 : decode cX2_copyFrom 53 = .ok (.putfield 51, 3) := by decide +kernel
theorem dX2_copyFrom_56 : decode cX2_copyFrom 56 = .ok (.iconst 0, 1) := by decide +kernel
theorem dX2_copyFrom_57 : decode cX2_copyFrom 57 = .ok (.istore_n 2, 1) := by decide +kernel
theorem dX2_copyFrom_58 : decode cX2_copyFrom 58 = .ok (.iload_n 2, 1) := by decide +kernel
theorem dX2_copyFrom_59 : decode cX2_copyFrom 59 = .ok (.aload_n 0, 1) := by decide +kernel
theorem dX2_copyFrom_60 : decode cX2_copyFrom 60 = .ok (.getfield 51, 3) := by decide +kernel
theorem dX2_copyFrom_63 : decode cX2_copyFrom 63 = .ok (.if_icmp .ge 24, 3) := by decide +kernel
theorem dX2_copyFrom_66 : decode cX2_copyFrom 66 = .ok (.aload_n 0, 1) := by decide +kernel
theorem dX2_copyFrom_67 : decode cX2_copyFrom 67 = .ok (.getfield 20, 3) := by decide +kernel
theorem dX2_copyFrom_70 : decode cX2_copyFrom 70 = .ok (.iload_n 2, 1) := by decide +kernel
theorem dX2_copyFrom_71 : decode cX2_copyFrom 71 = .ok (.aaload, 1) := by decide +kernel
theorem dX2_copyFrom_72 : decode cX2_copyFrom 72 = .ok (.aload_n 1, 1) := by decide +kernel
theorem dX2_copyFrom_73 : decode cX2_copyFrom 73 = .ok (.getfield 20, 3) := by decide +kernel
theorem dX2_copyFrom_76 : decode cX2_copyFrom 76 = .ok (.iload_n 2, 1) := by decide +kernel
theorem dX2_copyFrom_77 : decode cX2_copyFrom 77 = .ok (.aaload, 1) := by decide +kernel
theorem dX2_copyFrom_78 : decode cX2_copyFrom 78 = .ok (.invokevirtual 54, 3) := by decide +kernel
theorem dX2_copyFrom_81 : decode cX2_copyFrom 81 = .ok (.iinc 2 1, 3) := by decide +kernel
theorem dX2_copyFrom_84 : decode cX2_copyFrom 84 = .ok (.goto (-26), 3) := by decide +kernel
theorem dX2_copyFrom_87 : decode cX2_copyFrom 87 = .ok (.aload_n 0, 1) := by decide +kernel
theorem dX2_copyFrom_88 : decode cX2_copyFrom 88 = .ok (.getfield 28, 3) := by decide +kernel
theorem dX2_copyFrom_91 : decode cX2_copyFrom 91 = .ok (.aload_n 1, 1) := by decide +kernel
theorem dX2_copyFrom_92 : decode cX2_copyFrom 92 = .ok (.getfield 28, 3) := by decide +kernel
theorem dX2_copyFrom_95 : decode cX2_copyFrom 95 = .ok (.invokevirtual 58, 3) := by decide +kernel
theorem dX2_copyFrom_98 : decode cX2_copyFrom 98 = .ok (.aload_n 0, 1) := by decide +kernel
theorem dX2_copyFrom_99 : decode cX2_copyFrom 99 = .ok (.aload_n 1, 1) := by decide +kernel
theorem dX2_copyFrom_100 : decode cX2_copyFrom 100 = .ok (.getfield 61, 3) := by decide +kernel
theorem dX2_copyFrom_103 : decode cX2_copyFrom 103 = .ok (.putfield 61, 3) := by decide +kernel
theorem dX2_copyFrom_106 : decode cX2_copyFrom 106 = .ok (.aload_n 1, 1) := by decide +kernel
theorem dX2_copyFrom_107 : decode cX2_copyFrom 107 = .ok (.getfield 32, 3) := by decide +kernel
theorem dX2_copyFrom_110 : decode cX2_copyFrom 110 = .ok (.iconst 0, 1) := by decide +kernel
theorem dX2_copyFrom_111 : decode cX2_copyFrom 111 = .ok (.aload_n 0, 1) := by decide +kernel
theorem dX2_copyFrom_112 : decode cX2_copyFrom 112 = .ok (.getfield 32, 3) := by decide +kernel
theorem dX2_copyFrom_115 : decode cX2_copyFrom 115 = .ok (.iconst 0, 1) := by decide +kernel
theorem dX2_copyFrom_116 : decode cX2_copyFrom 116 = .ok (.aload_n 0, 1) := by decide +kernel
theorem dX2_copyFrom_117 : decode cX2_copyFrom 117 = .ok (.getfield 61, 3) := by decide +kernel
theorem dX2_copyFrom_120 : decode cX2_copyFrom 120 = .ok (.invokestatic 64, 3) := by decide +kernel
theorem dX2_copyFrom_123 : decode cX2_copyFrom 123 = .ok (.aload_n 0, 1) := by decide +kernel
theorem dX2_copyFrom_124 : decode cX2_copyFrom 124 = .ok (.aload_n 1, 1) := by decide +kernel
theorem dX2_copyFrom_125 : decode cX2_copyFrom 125 = .ok (.getfield 70, 3) := by decide +kernel
theorem dX2_copyFrom_128 : decode cX2_copyFrom 128 = .ok (.putfield 70, 3) := by decide +kernel
theorem dX2_copyFrom_131 : decode cX2_copyFrom 131 = .ok (.aload_n 1, 1) := by decide +kernel
theorem dX2_copyFrom_132 : decode cX2_copyFrom 132 = .ok (.getfield 36, 3) := by decide +kernel
theorem dX2_copyFrom_135 : decode cX2_copyFrom 135 = .ok (.iconst 0, 1) := by decide +kernel
theorem dX2_copyFrom_136 : decode cX2_copyFrom 136 = .ok (.aload_n 0, 1) := by decide +kernel
theorem dX2_copyFrom_137 : decode cX2_copyFrom 137 = .ok (.getfield 36, 3) := by decide +kernel
theorem dX2_copyFrom_140 : decode cX2_copyFrom 140 = .ok (.iconst 0, 1) := by decide +kernel
theorem dX2_copyFrom_141 : decode cX2_copyFrom 141 = .ok (.aload_n 0, 1) := by decide +kernel
theorem dX2_copyFrom_142 : decode cX2_copyFrom 142 = .ok (.getfield 70, 3) := by decide +kernel
theorem dX2_copyFrom_145 : decode cX2_copyFrom 145 = .ok (.bipush 10, 2) := by decide +kernel
theorem dX2_copyFrom_147 : decode cX2_copyFrom 147 = .ok (.imul, 1) := by decide +kernel
theorem dX2_copyFrom_148 : decode cX2_copyFrom 148 = .ok (.invokestatic 64, 3) := by decide +kernel
theorem dX2_copyFrom_151 : decode cX2_copyFrom 151 = .ok (.aload_n 0, 1) := by decide +kernel
theorem dX2_copyFrom_152 : decode cX2_copyFrom 152 = .ok (.aload_n 1, 1) := by decide +kernel
theorem dX2_copyFrom_153 : decode cX2_copyFrom 153 = .ok (.getfield 73, 3) := by decide +kernel
theorem dX2_copyFrom_156 : decode cX2_copyFrom 156 = .ok (.putfield 73, 3) := by decide +kernel
theorem dX2_copyFrom_159 : decode cX2_copyFrom 159 = .ok (.aload_n 0, 1) := by decide +kernel
theorem dX2_copyFrom_160 : decode cX2_copyFrom 160 = .ok (.aload_n 1, 1) := by decide +kernel
theorem dX2_copyFrom_161 : decode cX2_copyFrom 161 = .ok (.getfield 76, 3) := by decide +kernel
theorem dX2_copyFrom_164 : decode cX2_copyFrom 164 = .ok (.putfield 76, 3) := by decide +kernel
theorem dX2_copyFrom_167 : decode cX2_copyFrom 167 = .ok (.aload_n 0, 1) := by decide +kernel
theorem dX2_copyFrom_168 : decode cX2_copyFrom 168 = .ok (.aload_n 1, 1) := by decide +kernel
theorem dX2_copyFrom_169 : decode cX2_copyFrom 169 = .ok (.getfield 79, 3) := by decide +kernel
theorem dX2_copyFrom_172 : decode cX2_copyFrom 172 = .ok (.putfield 79, 3) := by decide +kernel
theorem dX2_copyFrom_175 : decode cX2_copyFrom 175 = .ok (.return_, 1) := by decide +kernel
set_option maxRecDepth 20000 in
theorem ggX2_goBack_X1_clearAmounts : GoodIn wsX2_goBack wsX1_clearAmounts := goodIn_r _ [12, 13, 14, 45, 46, 47, 48, 49, 50] (by decide +kernel) (by decide +kernel)
set_option maxRecDepth 20000 in
theorem gX2_goBack_X1_clearAmounts : GoodIn wsX2_goBack (wsV RX2 83 RX1 yX1_clearAmounts wsX1_clearAmounts) := goodIn_app (goodIn_of _ (by decide +kernel)) ggX2_goBack_X1_clearAmounts
set_option maxRecDepth 20000 in
theorem ggX2_goBack_X4_clearAmounts : GoodIn wsX2_goBack wsX4_clearAmounts := goodIn_r _ [19, 20, 21, 22, 23, 24, 25, 26, 27, 28, 51, 52, 53, 54, 55, 56, 57] (by decide +kernel) (by decide +kernel)
set_option maxRecDepth 20000 in
theorem gX2_goBack_X4_clearAmounts : GoodIn wsX2_goBack (wsV RX2 86 RX4 yX4_clearAmounts wsX4_clearAmounts) := goodIn_app (goodIn_of _ (by decide +kernel)) ggX2_goBack_X4_clearAmounts
theorem dX2_goBack_0 : decode cX2_goBack 0 = .ok (.aload_n 0, 1) := by decide +kernel
theorem dX2_goBack_1 : decode cX2_goBack 1 = .ok (.iconst 0, 1) := by decide +kernel
theorem dX2_goBack_2 : decode cX2_goBack 2 = .ok (.putfield 70, 3) := by decide +kernel
theorem dX2_goBack_5 : decode cX2_goBack 5 = .ok (.aload_n 0, 1) := by decide +kernel
theorem dX2_goBack_6 : decode cX2_goBack 6 = .ok (.iconst 0, 1) := by decide +kernel
theorem dX2_goBack_7 : decode cX2_goBack 7 = .ok (.putfield 73, 3) := by decide +kernel
theorem dX2_goBack_10 : decode cX2_goBack 10 = .ok (.aload_n 0, 1) := by decide +kernel
theorem dX2_goBack_11 : decode cX2_goBack 11 = .ok (.iconst 0, 1) := by decide +kernel
theorem dX2_goBack_12 : decode cX2_goBack 12 = .ok (.putfield 76, 3) := by decide +kernel
theorem dX2_goBack_15 : decode cX2_goBack 15 = .ok (.aload_n 0, 1) := by decide +kernel
theorem dX2_goBack_16 : decode cX2_goBack 16 = .ok (.lconst 0, 1) := by decide +kernel
theorem dX2_goBack_17 : decode cX2_goBack 17 = .ok (.putfield 79, 3) := by decide +kernel
theorem dX2_goBack_20 : decode cX2_goBack 20 = .ok (.iconst 0, 1) := by decide +kernel
theorem dX2_goBack_21 : decode cX2_goBack 21 = .ok (.istore_n 1, 1) := by decide +kernel
theorem dX2_goBack_22 : decode cX2_goBack 22 = .ok (.iload_n 1, 1) := by decide +kernel
theorem dX2_goBack_23 : decode cX2_goBack 23 = .ok (.aload_n 0, 1) := by decide +kernel
theorem dX2_goBack_24 : decode cX2_goBack 24 = .ok (.getfield 51, 3) := by decide +kernel
theorem dX2_goBack_27 : decode cX2_goBack 27 = .ok (.if_icmp .ge 18, 3) := by decide +kernel
theorem dX2_goBack_30 : decode cX2_goBack 30 = .ok (.aload_n 0, 1) := by decide +kernel
theorem dX2_goBack_31 : decode cX2_goBack 31 = .ok (.getfield 20, 3) := by decide +kernel
theorem dX2_goBack_34 : decode cX2_goBack 34 = .ok (.iload_n 1, 1) := by decide +kernel
theorem dX2_goBack_35 : decode cX2_goBack 35 = .ok (.aaload, 1) := by decide +kernel
theorem dX2_goBack_36 : decode cX2_goBack 36 = .ok (.invokevirtual 83, 3) := by decide +kernel
theorem dX2_goBack_39 : decode cX2_goBack 39 = .ok (.iinc 1 1, 3) := by decide +kernel
theorem dX2_goBack_42 : decode cX2_goBack 42 = .ok (.goto (-20), 3) := by decide +kernel
theorem dX2_goBack_45 : decode cX2_goBack 45 = .ok (.aload_n 0, 1) := by decide +kernel
theorem dX2_goBack_46 : decode cX2_goBack 46 = .ok (.getfield 28, 3) := by decide +kernel
theorem dX2_goBack_49 : decode cX2_goBack 49 = .ok (.invokevirtual 86, 3) := by decide +kernel
theorem dX2_goBack_52 : decode cX2_goBack 52 = .ok (.return_, 1) := by decide +kernel
theorem dX2_settingValue_0 : decode cX2_settingValue 0 = .ok (.iload_n 1, 1) := by decide +kernel
theorem dX2_settingValue_1 : decode cX2_settingValue 1 = .ok (.tableswitch 117 0 10 #[59, 64, 69, 74, 79, 84, 89, 94, 102, 107, 112], 59) := by decide +kernel
theorem dX2_settingValue_60 : decode cX2_settingValue 60 = .ok (.aload_n 0, 1) := by decide +kernel
theorem dX2_settingValue_61 : decode cX2_settingValue 61 = .ok (.getfield 9, 3) := by decide +kernel
theorem dX2_settingValue_64 : decode cX2_settingValue 64 = .ok (.ireturn, 1) := by decide +kernel
theorem dX2_settingValue_65 : decode cX2_settingValue 65 = .ok (.aload_n 0, 1) := by decide +kernel
theorem dX2_settingValue_66 : decode cX2_settingValue 66 = .ok (.getfield 39, 3) := by decide +kernel
theorem dX2_settingValue_69 : decode cX2_settingValue 69 = .ok (.ireturn, 1) := by decide +kernel
theorem dX2_settingValue_70 : decode cX2_settingValue 70 = .ok (.aload_n 0, 1) := by decide +kernel
theorem dX2_settingValue_71 : decode cX2_settingValue 71 = .ok (.getfield 42, 3) := by decide +kernel
theorem dX2_settingValue_74 : decode cX2_settingValue 74 = .ok (.ireturn, 1) := by decide +kernel
theorem dX2_settingValue_75 : decode cX2_settingValue 75 = .ok (.aload_n 0, 1) := by decide +kernel
theorem dX2_settingValue_76 : decode cX2_settingValue 76 = .ok (.getfield 45, 3) := by decide +kernel
theorem dX2_settingValue_79 : decode cX2_settingValue 79 = .ok (.ireturn, 1) := by decide +kernel
theorem dX2_settingValue_80 : decode cX2_settingValue 80 = .ok (.aload_n 0, 1) := by decide +kernel
theorem dX2_settingValue_81 : decode cX2_settingValue 81 = .ok (.getfield 15, 3) := by decide +kernel
theorem dX2_settingValue_84 : decode cX2_settingValue 84 = .ok (.ireturn, 1) := by decide +kernel
theorem dX2_settingValue_85 : decode cX2_settingValue 85 = .ok (.aload_n 0, 1) := by decide +kernel
theorem dX2_settingValue_86 : decode cX2_settingValue 86 = .ok (.getfield 48, 3) := by decide +kernel
theorem dX2_settingValue_89 : decode cX2_settingValue 89 = .ok (.ireturn, 1) := by decide +kernel
theorem dX2_settingValue_90 : decode cX2_settingValue 90 = .ok (.aload_n 0, 1) := by decide +kernel
theorem dX2_settingValue_91 : decode cX2_settingValue 91 = .ok (.getfield 51, 3) := by decide +kernel
theorem dX2_settingValue_94 : decode cX2_settingValue 94 = .ok (.ireturn, 1) := by decide +kernel
theorem dX2_settingValue_95 : decode cX2_settingValue 95 = .ok (.aload_n 0, 1) := by decide +kernel
theorem dX2_settingValue_96 : decode cX2_settingValue 96 = .ok (.getfield 28, 3) := by decide +kernel
theorem dX2_settingValue_99 : decode cX2_settingValue 99 = .ok (.getfield 87, 3) := by decide +kernel
theorem dX2_settingValue_102 : decode cX2_settingValue 102 = .ok (.ireturn, 1) := by decide +kernel
theorem dX2_settingValue_103 : decode cX2_settingValue 103 = .ok (.aload_n 0, 1) := by decide +kernel
theorem dX2_settingValue_104 : decode cX2_settingValue 104 = .ok (.getfield 61, 3) := by decide +kernel
theorem dX2_settingValue_107 : decode cX2_settingValue 107 = .ok (.ireturn, 1) := by decide +kernel
theorem dX2_settingValue_108 : decode cX2_settingValue 108 = .ok (.aload_n 0, 1) := by decide +kernel
theorem dX2_settingValue_109 : decode cX2_settingValue 109 = .ok (.getfield 70, 3) := by decide +kernel
theorem dX2_settingValue_112 : decode cX2_settingValue 112 = .ok (.ireturn, 1) := by decide +kernel
theorem dX2_settingValue_113 : decode cX2_settingValue 113 = .ok (.aload_n 0, 1) := by decide +kernel
theorem dX2_settingValue_114 : decode cX2_settingValue 114 = .ok (.getfield 73, 3) := by decide +kernel
theorem dX2_settingValue_117 : decode cX2_settingValue 117 = .ok (.ireturn, 1) := by decide +kernel
theorem dX2_settingValue_118 : decode cX2_settingValue 118 = .ok (.aload_n 0, 1) := by decide +kernel
theorem dX2_settingValue_119 : decode cX2_settingValue 119 = .ok (.getfield 76, 3) := by decide +kernel
theorem dX2_settingValue_122 : decode cX2_settingValue 122 = .ok (.ireturn, 1) := by decide +kernel
theorem dX2_putRain_0 : decode cX2_putRain 0 = .ok (.aload_n 0, 1) := by decide +kernel
theorem dX2_putRain_1 : decode cX2_putRain 1 = .ok (.getfield 32, 3) := by decide +kernel
theorem dX2_putRain_4 : decode cX2_putRain 4 = .ok (.aload_n 0, 1) := by decide +kernel
theorem dX2_putRain_5 : decode cX2_putRain 5 = .ok (.getfield 61, 3) := by decide +kernel
theorem dX2_putRain_8 : decode cX2_putRain 8 = .ok (.iload_n 1, 1) := by decide +kernel
theorem dX2_putRain_9 : decode cX2_putRain 9 = .ok (.iastore, 1) := by decide +kernel
theorem dX2_putRain_10 : decode cX2_putRain 10 = .ok (.aload_n 0, 1) := by decide +kernel
theorem dX2_putRain_11 : decode cX2_putRain 11 = .ok (.dup, 1) := by decide +kernel
theorem dX2_putRain_12 : decode cX2_putRain 12 = .ok (.getfield 61, 3) := by decide +kernel
theorem dX2_putRain_15 : decode cX2_putRain 15 = .ok (.iconst 1, 1) := by decide +kernel
theorem dX2_putRain_16 : decode cX2_putRain 16 = .ok (.iadd, 1) := by decide +kernel
theorem dX2_putRain_17 : decode cX2_putRain 17 = .ok (.putfield 61, 3) := by decide +kernel
theorem dX2_putRain_20 : decode cX2_putRain 20 = .ok (.return_, 1) := by decide +kernel
theorem dX2_account_0 : decode cX2_account 0 = .ok (.aload_n 0, 1) := by decide +kernel
theorem dX2_account_1 : decode cX2_account 1 = .ok (.getfield 36, 3) := by decide +kernel
theorem dX2_account_4 : decode cX2_account 4 = .ok (.iload_n 1, 1) := by decide +kernel
theorem dX2_account_5 : decode cX2_account 5 = .ok (.bipush 10, 2) := by decide +kernel
theorem dX2_account_7 : decode cX2_account 7 = .ok (.imul, 1) := by decide +kernel
theorem dX2_account_8 : decode cX2_account 8 = .ok (.iload_n 2, 1) := by decide +kernel
theorem dX2_account_9 : decode cX2_account 9 = .ok (.iadd, 1) := by decide +kernel
theorem dX2_account_10 : decode cX2_account 10 = .ok (.iaload, 1) := by decide +kernel
theorem dX2_account_11 : decode cX2_account 11 = .ok (.ireturn, 1) := by decide +kernel
set_option maxRecDepth 20000 in
theorem ggX2_isShort_X2_account : GoodIn wsX2_isShort wsX2_account := goodIn_r _ [5, 6, 7, 8, 9, 10, 11, 12, 13, 14, 15, 16, 17, 18, 19, 20, 21, 22] (by decide +kernel) (by decide +kernel)
set_option maxRecDepth 20000 in
theorem gX2_isShort_X2_account : GoodIn wsX2_isShort (wsV RX2 90 RX2 yX2_account wsX2_account) := goodIn_app (goodIn_of _ (by decide +kernel)) ggX2_isShort_X2_account
theorem dX2_isShort_0 : decode cX2_isShort 0 = .ok (.aload_n 0, 1) := by decide +kernel
theorem dX2_isShort_1 : decode cX2_isShort 1 = .ok (.iload_n 1, 1) := by decide +kernel
theorem dX2_isShort_2 : decode cX2_isShort 2 = .ok (.bipush 7, 2) := by decide +kernel
theorem dX2_isShort_4 : decode cX2_isShort 4 = .ok (.invokevirtual 90, 3) := by decide +kernel
theorem dX2_isShort_7 : decode cX2_isShort 7 = .ok (.ifCond .le 7, 3) := by decide +kernel
theorem dX2_isShort_10 : decode cX2_isShort 10 = .ok (.iconst 1, 1) := by decide +kernel
theorem dX2_isShort_11 : decode cX2_isShort 11 = .ok (.goto 4, 3) := by decide +kernel
theorem dX2_isShort_14 : decode cX2_isShort 14 = .ok (.iconst 0, 1) := by decide +kernel
theorem dX2_isShort_15 : decode cX2_isShort 15 = .ok (.ireturn, 1) := by decide +kernel
theorem dX2_dropAboveCapacity_0 : decode cX2_dropAboveCapacity 0 = .ok (.aload_n 0, 1) := by decide +kernel
theorem dX2_dropAboveCapacity_1 : decode cX2_dropAboveCapacity 1 = .ok (.getfield 73, 3) := by decide +kernel
theorem dX2_dropAboveCapacity_4 : decode cX2_dropAboveCapacity 4 = .ok (.aload_n 0, 1) := by decide +kernel
theorem dX2_dropAboveCapacity_5 : decode cX2_dropAboveCapacity 5 = .ok (.getfield 9, 3) := by decide +kernel
theorem dX2_dropAboveCapacity_8 : decode cX2_dropAboveCapacity 8 = .ok (.isub, 1) := by decide +kernel
theorem dX2_dropAboveCapacity_9 : decode cX2_dropAboveCapacity 9 = .ok (.iconst 0, 1) := by decide +kernel
theorem dX2_dropAboveCapacity_10 : decode cX2_dropAboveCapacity 10 = .ok (.invokestatic 94, 3) := by decide +kernel
theorem dX2_dropAboveCapacity_13 : decode cX2_dropAboveCapacity 13 = .ok (.istore_n 1, 1) := by decide +kernel
theorem dX2_dropAboveCapacity_14 : decode cX2_dropAboveCapacity 14 = .ok (.aload_n 0, 1) := by decide +kernel
theorem dX2_dropAboveCapacity_15 : decode cX2_dropAboveCapacity 15 = .ok (.dup, 1) := by decide +kernel
theorem dX2_dropAboveCapacity_16 : decode cX2_dropAboveCapacity 16 = .ok (.getfield 73, 3) := by decide +kernel
theorem dX2_dropAboveCapacity_19 : decode cX2_dropAboveCapacity 19 = .ok (.iload_n 1, 1) := by decide +kernel
theorem dX2_dropAboveCapacity_20 : decode cX2_dropAboveCapacity 20 = .ok (.isub, 1) := by decide +kernel
theorem dX2_dropAboveCapacity_21 : decode cX2_dropAboveCapacity 21 = .ok (.putfield 73, 3) := by decide +kernel
theorem dX2_dropAboveCapacity_24 : decode cX2_dropAboveCapacity 24 = .ok (.iload_n 1, 1) := by decide +kernel
theorem dX2_dropAboveCapacity_25 : decode cX2_dropAboveCapacity 25 = .ok (.ireturn, 1) := by decide +kernel
set_option maxRecDepth 20000 in
theorem ggX2_collect_X2_drainWhenDry : GoodIn wsX2_collect wsX2_drainWhenDry := goodIn_r _ [8, 9, 10, 2, 3, 11, 12, 13, 14, 15, 16, 46, 47, 48, 49, 50, 51, 52, 53, 54, 55, 56, 57, 58, 59, 60, 61, 62, 63, 64, 65, 66, 67] (by decide +kernel) (by decide +kernel)
set_option maxRecDepth 20000 in
theorem gX2_collect_X2_drainWhenDry : GoodIn wsX2_collect (wsV RX2 99 RX2 yX2_drainWhenDry wsX2_drainWhenDry) := goodIn_app (goodIn_of _ (by decide +kernel)) ggX2_collect_X2_drainWhenDry
set_option maxRecDepth 20000 in
theorem ggX2_collect_X1_caught : GoodIn wsX2_collect wsX1_caught := goodIn_r _ [20, 21, 22, 62, 63, 64, 65, 66, 67] (by decide +kernel) (by decide +kernel)
set_option maxRecDepth 20000 in
theorem gX2_collect_X1_caught : GoodIn wsX2_collect (wsV RX2 103 RX1 yX1_caught wsX1_caught) := goodIn_app (goodIn_of _ (by decide +kernel)) ggX2_collect_X1_caught
set_option maxRecDepth 20000 in
theorem ggX2_collect_X1_divert : GoodIn wsX2_collect wsX1_divert := goodIn_r _ [26, 27, 16, 28, 29, 30, 31, 62, 63, 64, 65, 66, 67] (by decide +kernel) (by decide +kernel)
set_option maxRecDepth 20000 in
theorem gX2_collect_X1_divert : GoodIn wsX2_collect (wsV RX2 106 RX1 yX1_divert wsX1_divert) := goodIn_app (goodIn_of _ (by decide +kernel)) ggX2_collect_X1_divert
set_option maxRecDepth 20000 in
theorem ggX2_collect_X1_spill : GoodIn wsX2_collect wsX1_spill := goodIn_r _ [35, 36, 37, 38, 30, 39, 40, 62, 63, 64, 65, 66, 67] (by decide +kernel) (by decide +kernel)
set_option maxRecDepth 20000 in
theorem gX2_collect_X1_spill : GoodIn wsX2_collect (wsV RX2 109 RX1 yX1_spill wsX1_spill) := goodIn_app (goodIn_of _ (by decide +kernel)) ggX2_collect_X1_spill
set_option maxRecDepth 20000 in
theorem ggX2_collect_X2_put : GoodIn wsX2_collect wsX2_put := goodIn_r _ [44, 45, 46, 47, 48, 49, 50, 51, 52, 53, 54, 55, 56, 57, 58, 59, 60, 61] (by decide +kernel) (by decide +kernel)
set_option maxRecDepth 20000 in
theorem gX2_collect_X2_put : GoodIn wsX2_collect (wsV RX2 112 RX2 yX2_put wsX2_put) := goodIn_app (goodIn_of _ (by decide +kernel)) ggX2_collect_X2_put
theorem dX2_collect_0 : decode cX2_collect 0 = .ok (.aload_n 0, 1) := by decide +kernel
theorem dX2_collect_1 : decode cX2_collect 1 = .ok (.getfield 32, 3) := by decide +kernel
theorem dX2_collect_4 : decode cX2_collect 4 = .ok (.iload_n 1, 1) := by decide +kernel
theorem dX2_collect_5 : decode cX2_collect 5 = .ok (.iaload, 1) := by decide +kernel
theorem dX2_collect_6 : decode cX2_collect 6 = .ok (.istore_n 2, 1) := by decide +kernel
theorem dX2_collect_7 : decode cX2_collect 7 = .ok (.aload_n 0, 1) := by decide +kernel
theorem dX2_collect_8 : decode cX2_collect 8 = .ok (.iload_n 2, 1) := by decide +kernel
theorem dX2_collect_9 : decode cX2_collect 9 = .ok (.invokevirtual 99, 3) := by decide +kernel
theorem dX2_collect_12 : decode cX2_collect 12 = .ok (.istore_n 3, 1) := by decide +kernel
theorem dX2_collect_13 : decode cX2_collect 13 = .ok (.iconst 0, 1) := by decide +kernel
theorem dX2_collect_14 : decode cX2_collect 14 = .ok (.istore 4, 2) := by decide +kernel
theorem dX2_collect_16 : decode cX2_collect 16 = .ok (.iconst 0, 1) := by decide +kernel
theorem dX2_collect_17 : decode cX2_collect 17 = .ok (.istore 5, 2) := by decide +kernel
theorem dX2_collect_19 : decode cX2_collect 19 = .ok (.iconst 0, 1) := by decide +kernel
theorem dX2_collect_20 : decode cX2_collect 20 = .ok (.istore 6, 2) := by decide +kernel
theorem dX2_collect_22 : decode cX2_collect 22 = .ok (.iconst 0, 1) := by decide +kernel
theorem dX2_collect_23 : decode cX2_collect 23 = .ok (.istore 7, 2) := by decide +kernel
theorem dX2_collect_25 : decode cX2_collect 25 = .ok (.iload 7, 2) := by decide +kernel
theorem dX2_collect_27 : decode cX2_collect 27 = .ok (.aload_n 0, 1) := by decide +kernel
theorem dX2_collect_28 : decode cX2_collect 28 = .ok (.getfield 51, 3) := by decide +kernel
theorem dX2_collect_31 : decode cX2_collect 31 = .ok (.if_icmp .ge 80, 3) := by decide +kernel
theorem dX2_collect_34 : decode cX2_collect 34 = .ok (.aload_n 0, 1) := by decide +kernel
theorem dX2_collect_35 : decode cX2_collect 35 = .ok (.getfield 20, 3) := by decide +kernel
theorem dX2_collect_38 : decode cX2_collect 38 = .ok (.iload 7, 2) := by decide +kernel
theorem dX2_collect_40 : decode cX2_collect 40 = .ok (.aaload, 1) := by decide +kernel
theorem dX2_collect_41 : decode cX2_collect 41 = .ok (.iload_n 2, 1) := by decide +kernel
theorem dX2_collect_42 : decode cX2_collect 42 = .ok (.invokevirtual 103, 3) := by decide +kernel
theorem dX2_collect_45 : decode cX2_collect 45 = .ok (.istore 8, 2) := by decide +kernel
theorem dX2_collect_47 : decode cX2_collect 47 = .ok (.aload_n 0, 1) := by decide +kernel
theorem dX2_collect_48 : decode cX2_collect 48 = .ok (.getfield 20, 3) := by decide +kernel
theorem dX2_collect_51 : decode cX2_collect 51 = .ok (.iload 7, 2) := by decide +kernel
theorem dX2_collect_53 : decode cX2_collect 53 = .ok (.aaload, 1) := by decide +kernel
theorem dX2_collect_54 : decode cX2_collect 54 = .ok (.iload 8, 2) := by decide +kernel
theorem dX2_collect_56 : decode cX2_collect 56 = .ok (.invokevirtual 106, 3) := by decide +kernel
theorem dX2_collect_59 : decode cX2_collect 59 = .ok (.istore 9, 2) := by decide +kernel
theorem dX2_collect_61 : decode cX2_collect 61 = .ok (.aload_n 0, 1) := by decide +kernel
theorem dX2_collect_62 : decode cX2_collect 62 = .ok (.getfield 20, 3) := by decide +kernel
theorem dX2_collect_65 : decode cX2_collect 65 = .ok (.iload 7, 2) := by decide +kernel
theorem dX2_collect_67 : decode cX2_collect 67 = .ok (.aaload, 1) := by decide +kernel
theorem dX2_collect_68 : decode cX2_collect 68 = .ok (.iload 8, 2) := by decide +kernel
theorem dX2_collect_70 : decode cX2_collect 70 = .ok (.iload 9, 2) := by decide +kernel
theorem dX2_collect_72 : decode cX2_collect 72 = .ok (.isub, 1) := by decide +kernel
theorem dX2_collect_73 : decode cX2_collect 73 = .ok (.invokevirtual 109, 3) := by decide +kernel
theorem dX2_collect_76 : decode cX2_collect 76 = .ok (.istore 10, 2) := by decide +kernel
theorem dX2_collect_78 : decode cX2_collect 78 = .ok (.iload 4, 2) := by decide +kernel
theorem dX2_collect_80 : decode cX2_collect 80 = .ok (.iload 8, 2) := by decide +kernel
theorem dX2_collect_82 : decode cX2_collect 82 = .ok (.iload 9, 2) := by decide +kernel
theorem dX2_collect_84 : decode cX2_collect 84 = .ok (.isub, 1) := by decide +kernel
theorem dX2_collect_85 : decode cX2_collect 85 = .ok (.iload 10, 2) := by decide +kernel
theorem dX2_collect_87 : decode cX2_collect 87 = .ok (.isub, 1) := by decide +kernel
theorem dX2_collect_88 : decode cX2_collect 88 = .ok (.iadd, 1) := by decide +kernel
theorem dX2_collect_89 : decode cX2_collect 89 = .ok (.istore 4, 2) := by decide +kernel
theorem dX2_collect_91 : decode cX2_collect 91 = .ok (.iload 5, 2) := by decide +kernel
theorem dX2_collect_93 : decode cX2_collect 93 = .ok (.iload 9, 2) := by decide +kernel
theorem dX2_collect_95 : decode cX2_collect 95 = .ok (.iadd, 1) := by decide +kernel
theorem dX2_collect_96 : decode cX2_collect 96 = .ok (.istore 5, 2) := by decide +kernel
theorem dX2_collect_98 : decode cX2_collect 98 = .ok (.iload 6, 2) := by decide +kernel
theorem dX2_collect_100 : decode cX2_collect 100 = .ok (.iload 10, 2) := by decide +kernel
theorem dX2_collect_102 : decode cX2_collect 102 = .ok (.iadd, 1) := by decide +kernel
theorem dX2_collect_103 : decode cX2_collect 103 = .ok (.istore 6, 2) := by decide +kernel
theorem dX2_collect_105 : decode cX2_collect 105 = .ok (.iinc 7 1, 3) := by decide +kernel
theorem dX2_collect_108 : decode cX2_collect 108 = .ok (.goto (-83), 3) := by decide +kernel
theorem dX2_collect_111 : decode cX2_collect 111 = .ok (.aload_n 0, 1) := by decide +kernel
theorem dX2_collect_112 : decode cX2_collect 112 = .ok (.iload_n 1, 1) := by decide +kernel
theorem dX2_collect_113 : decode cX2_collect 113 = .ok (.iconst 1, 1) := by decide +kernel
theorem dX2_collect_114 : decode cX2_collect 114 = .ok (.iload 4, 2) := by decide +kernel
theorem dX2_collect_116 : decode cX2_collect 116 = .ok (.invokevirtual 112, 3) := by decide +kernel
theorem dX2_collect_119 : decode cX2_collect 119 = .ok (.aload_n 0, 1) := by decide +kernel
theorem dX2_collect_120 : decode cX2_collect 120 = .ok (.iload_n 1, 1) := by decide +kernel
theorem dX2_collect_121 : decode cX2_collect 121 = .ok (.iconst 2, 1) := by decide +kernel
theorem dX2_collect_122 : decode cX2_collect 122 = .ok (.iload 5, 2) := by decide +kernel
theorem dX2_collect_124 : decode cX2_collect 124 = .ok (.invokevirtual 112, 3) := by decide +kernel
theorem dX2_collect_127 : decode cX2_collect 127 = .ok (.aload_n 0, 1) := by decide +kernel
theorem dX2_collect_128 : decode cX2_collect 128 = .ok (.iload_n 1, 1) := by decide +kernel
theorem dX2_collect_129 : decode cX2_collect 129 = .ok (.iconst 3, 1) := by decide +kernel
theorem dX2_collect_130 : decode cX2_collect 130 = .ok (.iload 6, 2) := by decide +kernel
theorem dX2_collect_132 : decode cX2_collect 132 = .ok (.invokevirtual 112, 3) := by decide +kernel
theorem dX2_collect_135 : decode cX2_collect 135 = .ok (.aload_n 0, 1) := by decide +kernel
theorem dX2_collect_136 : decode cX2_collect 136 = .ok (.iload_n 1, 1) := by decide +kernel
theorem dX2_collect_137 : decode cX2_collect 137 = .ok (.bipush 9, 2) := by decide +kernel
theorem dX2_collect_139 : decode cX2_collect 139 = .ok (.iload_n 3, 1) := by decide +kernel
theorem dX2_collect_140 : decode cX2_collect 140 = .ok (.invokevirtual 112, 3) := by decide +kernel
theorem dX2_collect_143 : decode cX2_collect 143 = .ok (.return_, 1) := by decide +kernel
set_option maxRecDepth 20000 in
theorem ggX2_serve_X2_account : GoodIn wsX2_serve wsX2_account := goodIn_r _ [15, 16, 91, 92, 93, 94, 95, 96, 97, 98, 99, 100, 101, 102, 103, 104, 105, 106] (by decide +kernel) (by decide +kernel)
set_option maxRecDepth 20000 in
theorem gX2_serve_X2_account : GoodIn wsX2_serve (wsV RX2 90 RX2 yX2_account wsX2_account) := goodIn_app (goodIn_of _ (by decide +kernel)) ggX2_serve_X2_account
set_option maxRecDepth 20000 in
theorem ggX2_serve_X2_dropAboveCapacity : GoodIn wsX2_serve wsX2_dropAboveCapacity := goodIn_r _ [20, 1, 21, 5, 6, 7, 8, 91, 92, 93, 94, 95, 96, 97, 98, 99, 100, 101, 102, 103, 104, 105, 106] (by decide +kernel) (by decide +kernel)
set_option maxRecDepth 20000 in
theorem gX2_serve_X2_dropAboveCapacity : GoodIn wsX2_serve (wsV RX2 116 RX2 yX2_dropAboveCapacity wsX2_dropAboveCapacity) := goodIn_app (goodIn_of _ (by decide +kernel)) ggX2_serve_X2_dropAboveCapacity
set_option maxRecDepth 20000 in
theorem ggX2_serve_X2_put : GoodIn wsX2_serve wsX2_put := goodIn_r _ [25, 16, 91, 92, 93, 94, 95, 96, 97, 98, 99, 100, 101, 102, 103, 104, 105, 106] (by decide +kernel) (by decide +kernel)
set_option maxRecDepth 20000 in
theorem gX2_serve_X2_put : GoodIn wsX2_serve (wsV RX2 112 RX2 yX2_put wsX2_put) := goodIn_app (goodIn_of _ (by decide +kernel)) ggX2_serve_X2_put
set_option maxRecDepth 20000 in
theorem ggX2_serve_X4_handOut : GoodIn wsX2_serve wsX4_handOut := goodIn_r _ [30, 31, 32, 33, 34, 35, 36, 37, 29, 38, 39, 40, 41, 42, 43, 44, 45, 46, 47, 48, 49, 50, 51, 52, 53, 54, 55, 7, 56, 57, 58, 59, 60, 61, 62, 63, 64, 65, 66, 67, 68, 69, 70, 71, 72, 73, 74, 75, 76, 77, 78, 79, 80, 81, 82, 83, 84, 85, 86, 87, 88, 89, 107, 108, 109, 110, 111, 112, 113] (by decide +kernel) (by decide +kernel)
set_option maxRecDepth 20000 in
theorem gX2_serve_X4_handOut : GoodIn wsX2_serve (wsV RX2 120 RX4 yX4_handOut wsX4_handOut) := goodIn_app (goodIn_of _ (by decide +kernel)) ggX2_serve_X4_handOut
set_option maxRecDepth 20000 in
theorem ggX2_serve_X4_demandInAll : GoodIn wsX2_serve wsX4_demandInAll := goodIn_r _ [38, 31, 32, 39, 107, 108, 109, 110, 111, 112, 113] (by decide +kernel) (by decide +kernel)
set_option maxRecDepth 20000 in
theorem gX2_serve_X4_demandInAll : GoodIn wsX2_serve (wsV RX2 123 RX4 yX4_demandInAll wsX4_demandInAll) := goodIn_app (goodIn_of _ (by decide +kernel)) ggX2_serve_X4_demandInAll
theorem dX2_serve_0 : decode cX2_serve 0 = .ok (.aload_n 0, 1) := by decide +kernel
theorem dX2_serve_1 : decode cX2_serve 1 = .ok (.dup, 1) := by decide +kernel
theorem dX2_serve_2 : decode cX2_serve 2 = .ok (.getfield 73, 3) := by decide +kernel
theorem dX2_serve_5 : decode cX2_serve 5 = .ok (.aload_n 0, 1) := by decide +kernel
theorem dX2_serve_6 : decode cX2_serve 6 = .ok (.iload_n 1, 1) := by decide +kernel
theorem dX2_serve_7 : decode cX2_serve 7 = .ok (.iconst 1, 1) := by decide +kernel
theorem dX2_serve_8 : decode cX2_serve 8 = .ok (.invokevirtual 90, 3) := by decide +kernel
theorem dX2_serve_11 : decode cX2_serve 11 = .ok (.iadd, 1) := by decide +kernel
theorem dX2_serve_12 : decode cX2_serve 12 = .ok (.putfield 73, 3) := by decide +kernel
theorem dX2_serve_15 : decode cX2_serve 15 = .ok (.aload_n 0, 1) := by decide +kernel
theorem dX2_serve_16 : decode cX2_serve 16 = .ok (.iload_n 1, 1) := by decide +kernel
theorem dX2_serve_17 : decode cX2_serve 17 = .ok (.iconst 4, 1) := by decide +kernel
theorem dX2_serve_18 : decode cX2_serve 18 = .ok (.aload_n 0, 1) := by decide +kernel
theorem dX2_serve_19 : decode cX2_serve 19 = .ok (.invokevirtual 116, 3) := by decide +kernel
theorem dX2_serve_22 : decode cX2_serve 22 = .ok (.invokevirtual 112, 3) := by decide +kernel
theorem dX2_serve_25 : decode cX2_serve 25 = .ok (.aload_n 0, 1) := by decide +kernel
theorem dX2_serve_26 : decode cX2_serve 26 = .ok (.getfield 73, 3) := by decide +kernel
theorem dX2_serve_29 : decode cX2_serve 29 = .ok (.aload_n 0, 1) := by decide +kernel
theorem dX2_serve_30 : decode cX2_serve 30 = .ok (.getfield 45, 3) := by decide +kernel
theorem dX2_serve_33 : decode cX2_serve 33 = .ok (.imul, 1) := by decide +kernel
theorem dX2_serve_34 : decode cX2_serve 34 = .ok (.sipush 1000, 3) := by decide +kernel
theorem dX2_serve_37 : decode cX2_serve 37 = .ok (.idiv, 1) := by decide +kernel
theorem dX2_serve_38 : decode cX2_serve 38 = .ok (.istore_n 2, 1) := by decide +kernel
theorem dX2_serve_39 : decode cX2_serve 39 = .ok (.aload_n 0, 1) := by decide +kernel
theorem dX2_serve_40 : decode cX2_serve 40 = .ok (.dup, 1) := by decide +kernel
theorem dX2_serve_41 : decode cX2_serve 41 = .ok (.getfield 73, 3) := by decide +kernel
theorem dX2_serve_44 : decode cX2_serve 44 = .ok (.iload_n 2, 1) := by decide +kernel
theorem dX2_serve_45 : decode cX2_serve 45 = .ok (.isub, 1) := by decide +kernel
theorem dX2_serve_46 : decode cX2_serve 46 = .ok (.putfield 73, 3) := by decide +kernel
theorem dX2_serve_49 : decode cX2_serve 49 = .ok (.aload_n 0, 1) := by decide +kernel
theorem dX2_serve_50 : decode cX2_serve 50 = .ok (.getfield 28, 3) := by decide +kernel
theorem dX2_serve_53 : decode cX2_serve 53 = .ok (.aload_n 0, 1) := by decide +kernel
theorem dX2_serve_54 : decode cX2_serve 54 = .ok (.getfield 73, 3) := by decide +kernel
theorem dX2_serve_57 : decode cX2_serve 57 = .ok (.aload_n 0, 1) := by decide +kernel
theorem dX2_serve_58 : decode cX2_serve 58 = .ok (.getfield 39, 3) := by decide +kernel
theorem dX2_serve_61 : decode cX2_serve 61 = .ok (.isub, 1) := by decide +kernel
theorem dX2_serve_62 : decode cX2_serve 62 = .ok (.iconst 0, 1) := by decide +kernel
theorem dX2_serve_63 : decode cX2_serve 63 = .ok (.invokestatic 94, 3) := by decide +kernel
theorem dX2_serve_66 : decode cX2_serve 66 = .ok (.aload_n 0, 1) := by decide +kernel
theorem dX2_serve_67 : decode cX2_serve 67 = .ok (.getfield 48, 3) := by decide +kernel
theorem dX2_serve_70 : decode cX2_serve 70 = .ok (.invokevirtual 120, 3) := by decide +kernel
theorem dX2_serve_73 : decode cX2_serve 73 = .ok (.istore_n 3, 1) := by decide +kernel
theorem dX2_serve_74 : decode cX2_serve 74 = .ok (.aload_n 0, 1) := by decide +kernel
theorem dX2_serve_75 : decode cX2_serve 75 = .ok (.dup, 1) := by decide +kernel
theorem dX2_serve_76 : decode cX2_serve 76 = .ok (.getfield 73, 3) := by decide +kernel
theorem dX2_serve_79 : decode cX2_serve 79 = .ok (.iload_n 3, 1) := by decide +kernel
theorem dX2_serve_80 : decode cX2_serve 80 = .ok (.isub, 1) := by decide +kernel
theorem dX2_serve_81 : decode cX2_serve 81 = .ok (.putfield 73, 3) := by decide +kernel
theorem dX2_serve_84 : decode cX2_serve 84 = .ok (.aload_n 0, 1) := by decide +kernel
theorem dX2_serve_85 : decode cX2_serve 85 = .ok (.getfield 42, 3) := by decide +kernel
theorem dX2_serve_88 : decode cX2_serve 88 = .ok (.aload_n 0, 1) := by decide +kernel
theorem dX2_serve_89 : decode cX2_serve 89 = .ok (.getfield 73, 3) := by decide +kernel
theorem dX2_serve_92 : decode cX2_serve 92 = .ok (.isub, 1) := by decide +kernel
theorem dX2_serve_93 : decode cX2_serve 93 = .ok (.iconst 0, 1) := by decide +kernel
theorem dX2_serve_94 : decode cX2_serve 94 = .ok (.invokestatic 94, 3) := by decide +kernel
theorem dX2_serve_97 : decode cX2_serve 97 = .ok (.istore 4, 2) := by decide +kernel
theorem dX2_serve_99 : decode cX2_serve 99 = .ok (.aload_n 0, 1) := by decide +kernel
theorem dX2_serve_100 : decode cX2_serve 100 = .ok (.dup, 1) := by decide +kernel
theorem dX2_serve_101 : decode cX2_serve 101 = .ok (.getfield 73, 3) := by decide +kernel
theorem dX2_serve_104 : decode cX2_serve 104 = .ok (.iload 4, 2) := by decide +kernel
theorem dX2_serve_106 : decode cX2_serve 106 = .ok (.iadd, 1) := by decide +kernel
theorem dX2_serve_107 : decode cX2_serve 107 = .ok (.putfield 73, 3) := by decide +kernel
theorem dX2_serve_110 : decode cX2_serve 110 = .ok (.aload_n 0, 1) := by decide +kernel
theorem dX2_serve_111 : decode cX2_serve 111 = .ok (.iload_n 1, 1) := by decide +kernel
theorem dX2_serve_112 : decode cX2_serve 112 = .ok (.iconst 5, 1) := by decide +kernel
theorem dX2_serve_113 : decode cX2_serve 113 = .ok (.iload_n 2, 1) := by decide +kernel
theorem dX2_serve_114 : decode cX2_serve 114 = .ok (.invokevirtual 112, 3) := by decide +kernel
theorem dX2_serve_117 : decode cX2_serve 117 = .ok (.aload_n 0, 1) := by decide +kernel
theorem dX2_serve_118 : decode cX2_serve 118 = .ok (.iload_n 1, 1) := by decide +kernel
theorem dX2_serve_119 : decode cX2_serve 119 = .ok (.bipush 6, 2) := by decide +kernel
theorem dX2_serve_121 : decode cX2_serve 121 = .ok (.iload_n 3, 1) := by decide +kernel
theorem dX2_serve_122 : decode cX2_serve 122 = .ok (.invokevirtual 112, 3) := by decide +kernel
theorem dX2_serve_125 : decode cX2_serve 125 = .ok (.aload_n 0, 1) := by decide +kernel
theorem dX2_serve_126 : decode cX2_serve 126 = .ok (.iload_n 1, 1) := by decide +kernel
theorem dX2_serve_127 : decode cX2_serve 127 = .ok (.bipush 7, 2) := by decide +kernel
theorem dX2_serve_129 : decode cX2_serve 129 = .ok (.aload_n 0, 1) := by decide +kernel
theorem dX2_serve_130 : decode cX2_serve 130 = .ok (.getfield 28, 3) := by decide +kernel
theorem dX2_serve_133 : decode cX2_serve 133 = .ok (.invokevirtual 123, 3) := by decide +kernel
theorem dX2_serve_136 : decode cX2_serve 136 = .ok (.iload_n 3, 1) := by decide +kernel
theorem dX2_serve_137 : decode cX2_serve 137 = .ok (.isub, 1) := by decide +kernel
theorem dX2_serve_138 : decode cX2_serve 138 = .ok (.invokevirtual 112, 3) := by decide +kernel
theorem dX2_serve_141 : decode cX2_serve 141 = .ok (.aload_n 0, 1) := by decide +kernel
theorem dX2_serve_142 : decode cX2_serve 142 = .ok (.iload_n 1, 1) := by decide +kernel
theorem dX2_serve_143 : decode cX2_serve 143 = .ok (.bipush 8, 2) := by decide +kernel
theorem dX2_serve_145 : decode cX2_serve 145 = .ok (.iload 4, 2) := by decide +kernel
theorem dX2_serve_147 : decode cX2_serve 147 = .ok (.invokevirtual 112, 3) := by decide +kernel
theorem dX2_serve_150 : decode cX2_serve 150 = .ok (.aload_n 0, 1) := by decide +kernel
theorem dX2_serve_151 : decode cX2_serve 151 = .ok (.iload_n 1, 1) := by decide +kernel
theorem dX2_serve_152 : decode cX2_serve 152 = .ok (.iconst 0, 1) := by decide +kernel
theorem dX2_serve_153 : decode cX2_serve 153 = .ok (.aload_n 0, 1) := by decide +kernel
theorem dX2_serve_154 : decode cX2_serve 154 = .ok (.getfield 73, 3) := by decide +kernel
theorem dX2_serve_157 : decode cX2_serve 157 = .ok (.invokevirtual 112, 3) := by decide +kernel
theorem dX2_serve_160 : decode cX2_serve 160 = .ok (.return_, 1) := by decide +kernel
set_option maxRecDepth 20000 in
theorem ggX2_serveAll_X4_clearAmounts : GoodIn wsX2_serveAll wsX4_clearAmounts := goodIn_r _ [8, 9, 10, 11, 12, 13, 14, 15, 16, 17, 125, 126, 127, 128, 129, 130, 131] (by decide +kernel) (by decide +kernel)
set_option maxRecDepth 20000 in
theorem gX2_serveAll_X4_clearAmounts : GoodIn wsX2_serveAll (wsV RX2 86 RX4 yX4_clearAmounts wsX4_clearAmounts) := goodIn_app (goodIn_of _ (by decide +kernel)) ggX2_serveAll_X4_clearAmounts
set_option maxRecDepth 20000 in
theorem ggX2_serveAll_X2_serve : GoodIn wsX2_serveAll wsX2_serve := goodIn_r _ [22, 1, 23, 2, 24, 25, 26, 27, 28, 29, 30, 31, 32, 33, 21, 34, 35, 36, 37, 38, 39, 40, 41, 42, 43, 44, 45, 46, 47, 7, 48, 9, 10, 49, 50, 51, 52, 53, 54, 55, 56, 57, 58, 59, 60, 61, 62, 63, 64, 65, 66, 67, 14, 68, 69, 70, 71, 16, 72, 73, 74, 75, 76, 77, 78, 79, 80, 81, 82, 83, 84, 85, 86, 87, 88, 89, 90, 91, 92, 93, 94, 95, 96, 97, 98, 99, 100, 101, 102, 103, 104, 109, 110, 111, 112, 113, 114, 115, 116, 117, 118, 119, 120, 121, 122, 123, 124, 125, 126, 127, 128, 129, 130, 131] (by decide +kernel) (by decide +kernel)
set_option maxRecDepth 20000 in
theorem gX2_serveAll_X2_serve : GoodIn wsX2_serveAll (wsV RX2 126 RX2 yX2_serve wsX2_serve) := goodIn_app (goodIn_of _ (by decide +kernel)) ggX2_serveAll_X2_serve
set_option maxRecDepth 20000 in
theorem ggX2_serveAll_X2_isShort : GoodIn wsX2_serveAll wsX2_isShort := goodIn_r _ [108, 31, 32, 33, 21, 34, 35, 109, 110, 111, 112, 113, 114, 115, 116, 117, 118, 119, 120, 121, 122, 123, 124] (by decide +kernel) (by decide +kernel)
set_option maxRecDepth 20000 in
theorem gX2_serveAll_X2_isShort : GoodIn wsX2_serveAll (wsV RX2 130 RX2 yX2_isShort wsX2_isShort) := goodIn_app (goodIn_of _ (by decide +kernel)) ggX2_serveAll_X2_isShort
theorem dX2_serveAll_0 : decode cX2_serveAll 0 = .ok (.aload_n 0, 1) := by decide +kernel
theorem dX2_serveAll_1 : decode cX2_serveAll 1 = .ok (.iconst 0, 1) := by decide +kernel
theorem dX2_serveAll_2 : decode cX2_serveAll 2 = .ok (.putfield 73, 3) := by decide +kernel
theorem dX2_serveAll_5 : decode cX2_serveAll 5 = .ok (.aload_n 0, 1) := by decide +kernel
theorem dX2_serveAll_6 : decode cX2_serveAll 6 = .ok (.getfield 28, 3) := by decide +kernel
theorem dX2_serveAll_9 : decode cX2_serveAll 9 = .ok (.invokevirtual 86, 3) := by decide +kernel
theorem dX2_serveAll_12 : decode cX2_serveAll 12 = .ok (.iconst 0, 1) := by decide +kernel
theorem dX2_serveAll_13 : decode cX2_serveAll 13 = .ok (.istore_n 2, 1) := by decide +kernel
theorem dX2_serveAll_14 : decode cX2_serveAll 14 = .ok (.iconst 0, 1) := by decide +kernel
theorem dX2_serveAll_15 : decode cX2_serveAll 15 = .ok (.istore_n 3, 1) := by decide +kernel
theorem dX2_serveAll_16 : decode cX2_serveAll 16 = .ok (.iload_n 3, 1) := by decide +kernel
theorem dX2_serveAll_17 : decode cX2_serveAll 17 = .ok (.aload_n 0, 1) := by decide +kernel
theorem dX2_serveAll_18 : decode cX2_serveAll 18 = .ok (.getfield 61, 3) := by decide +kernel
theorem dX2_serveAll_21 : decode cX2_serveAll 21 = .ok (.if_icmp .ge 30, 3) := by decide +kernel
theorem dX2_serveAll_24 : decode cX2_serveAll 24 = .ok (.iload_n 2, 1) := by decide +kernel
theorem dX2_serveAll_25 : decode cX2_serveAll 25 = .ok (.iload_n 1, 1) := by decide +kernel
theorem dX2_serveAll_26 : decode cX2_serveAll 26 = .ok (.if_icmp .gt 25, 3) := by decide +kernel
theorem dX2_serveAll_29 : decode cX2_serveAll 29 = .ok (.aload_n 0, 1) := by decide +kernel
theorem dX2_serveAll_30 : decode cX2_serveAll 30 = .ok (.iload_n 3, 1) := by decide +kernel
theorem dX2_serveAll_31 : decode cX2_serveAll 31 = .ok (.invokevirtual 126, 3) := by decide +kernel
theorem dX2_serveAll_34 : decode cX2_serveAll 34 = .ok (.aload_n 0, 1) := by decide +kernel
theorem dX2_serveAll_35 : decode cX2_serveAll 35 = .ok (.iload_n 3, 1) := by decide +kernel
theorem dX2_serveAll_36 : decode cX2_serveAll 36 = .ok (.invokevirtual 130, 3) := by decide +kernel
theorem dX2_serveAll_39 : decode cX2_serveAll 39 = .ok (.ifCond .eq 6, 3) := by decide +kernel
theorem dX2_serveAll_42 : decode cX2_serveAll 42 = .ok (.iinc 2 1, 3) := by decide +kernel
theorem dX2_serveAll_45 : decode cX2_serveAll 45 = .ok (.iinc 3 1, 3) := by decide +kernel
theorem dX2_serveAll_48 : decode cX2_serveAll 48 = .ok (.goto (-32), 3) := by decide +kernel
theorem dX2_serveAll_51 : decode cX2_serveAll 51 = .ok (.iload_n 2, 1) := by decide +kernel
theorem dX2_serveAll_52 : decode cX2_serveAll 52 = .ok (.ireturn, 1) := by decide +kernel
set_option maxRecDepth 20000 in
theorem ggX2_drainWhenDry_X1_drain : GoodIn wsX2_drainWhenDry wsX1_drain := goodIn_r _ [9, 10, 27, 28, 29, 30, 31, 32] (by decide +kernel) (by decide +kernel)
set_option maxRecDepth 20000 in
theorem gX2_drainWhenDry_X1_drain : GoodIn wsX2_drainWhenDry (wsV RX2 134 RX1 yX1_drain wsX1_drain) := goodIn_app (goodIn_of _ (by decide +kernel)) ggX2_drainWhenDry_X1_drain
theorem dX2_drainWhenDry_0 : decode cX2_drainWhenDry 0 = .ok (.iload_n 1, 1) := by decide +kernel
theorem dX2_drainWhenDry_1 : decode cX2_drainWhenDry 1 = .ok (.ifCond .le 10, 3) := by decide +kernel
theorem dX2_drainWhenDry_4 : decode cX2_drainWhenDry 4 = .ok (.aload_n 0, 1) := by decide +kernel
theorem dX2_drainWhenDry_5 : decode cX2_drainWhenDry 5 = .ok (.iconst 0, 1) := by decide +kernel
theorem dX2_drainWhenDry_6 : decode cX2_drainWhenDry 6 = .ok (.putfield 76, 3) := by decide +kernel
theorem dX2_drainWhenDry_9 : decode cX2_drainWhenDry 9 = .ok (.iconst 0, 1) := by decide +kernel
theorem dX2_drainWhenDry_10 : decode cX2_drainWhenDry 10 = .ok (.ireturn, 1) := by decide +kernel
theorem dX2_drainWhenDry_11 : decode cX2_drainWhenDry 11 = .ok (.aload_n 0, 1) := by decide +kernel
theorem dX2_drainWhenDry_12 : decode cX2_drainWhenDry 12 = .ok (.dup, 1) := by decide +kernel
theorem dX2_drainWhenDry_13 : decode cX2_drainWhenDry 13 = .ok (.getfield 76, 3) := by decide +kernel
theorem dX2_drainWhenDry_16 : decode cX2_drainWhenDry 16 = .ok (.iconst 1, 1) := by decide +kernel
theorem dX2_drainWhenDry_17 : decode cX2_drainWhenDry 17 = .ok (.iadd, 1) := by decide +kernel
theorem dX2_drainWhenDry_18 : decode cX2_drainWhenDry 18 = .ok (.putfield 76, 3) := by decide +kernel
theorem dX2_drainWhenDry_21 : decode cX2_drainWhenDry 21 = .ok (.iconst 0, 1) := by decide +kernel
theorem dX2_drainWhenDry_22 : decode cX2_drainWhenDry 22 = .ok (.istore_n 2, 1) := by decide +kernel
theorem dX2_drainWhenDry_23 : decode cX2_drainWhenDry 23 = .ok (.aload_n 0, 1) := by decide +kernel
theorem dX2_drainWhenDry_24 : decode cX2_drainWhenDry 24 = .ok (.getfield 76, 3) := by decide +kernel
theorem dX2_drainWhenDry_27 : decode cX2_drainWhenDry 27 = .ok (.aload_n 0, 1) := by decide +kernel
theorem dX2_drainWhenDry_28 : decode cX2_drainWhenDry 28 = .ok (.getfield 15, 3) := by decide +kernel
theorem dX2_drainWhenDry_31 : decode cX2_drainWhenDry 31 = .ok (.if_icmp .lt 31, 3) := by decide +kernel
theorem dX2_drainWhenDry_34 : decode cX2_drainWhenDry 34 = .ok (.iconst 0, 1) := by decide +kernel
theorem dX2_drainWhenDry_35 : decode cX2_drainWhenDry 35 = .ok (.istore_n 3, 1) := by decide +kernel
theorem dX2_drainWhenDry_36 : decode cX2_drainWhenDry 36 = .ok (.iload_n 3, 1) := by decide +kernel
theorem dX2_drainWhenDry_37 : decode cX2_drainWhenDry 37 = .ok (.aload_n 0, 1) := by decide +kernel
theorem dX2_drainWhenDry_38 : decode cX2_drainWhenDry 38 = .ok (.getfield 51, 3) := by decide +kernel
theorem dX2_drainWhenDry_41 : decode cX2_drainWhenDry 41 = .ok (.if_icmp .ge 21, 3) := by decide +kernel
theorem dX2_drainWhenDry_44 : decode cX2_drainWhenDry 44 = .ok (.iload_n 2, 1) := by decide +kernel
theorem dX2_drainWhenDry_45 : decode cX2_drainWhenDry 45 = .ok (.aload_n 0, 1) := by decide +kernel
theorem dX2_drainWhenDry_46 : decode cX2_drainWhenDry 46 = .ok (.getfield 20, 3) := by decide +kernel
theorem dX2_drainWhenDry_49 : decode cX2_drainWhenDry 49 = .ok (.iload_n 3, 1) := by decide +kernel
theorem dX2_drainWhenDry_50 : decode cX2_drainWhenDry 50 = .ok (.aaload, 1) := by decide +kernel
theorem dX2_drainWhenDry_51 : decode cX2_drainWhenDry 51 = .ok (.invokevirtual 134, 3) := by decide +kernel
theorem dX2_drainWhenDry_54 : decode cX2_drainWhenDry 54 = .ok (.iadd, 1) := by decide +kernel
theorem dX2_drainWhenDry_55 : decode cX2_drainWhenDry 55 = .ok (.istore_n 2, 1) := by decide +kernel
theorem dX2_drainWhenDry_56 : decode cX2_drainWhenDry 56 = .ok (.iinc 3 1, 3) := by decide +kernel
theorem dX2_drainWhenDry_59 : decode cX2_drainWhenDry 59 = .ok (.goto (-23), 3) := by decide +kernel
theorem dX2_drainWhenDry_62 : decode cX2_drainWhenDry 62 = .ok (.iload_n 2, 1) := by decide +kernel
theorem dX2_drainWhenDry_63 : decode cX2_drainWhenDry 63 = .ok (.ireturn, 1) := by decide +kernel
theorem dX2_put_0 : decode cX2_put 0 = .ok (.aload_n 0, 1) := by decide +kernel
theorem dX2_put_1 : decode cX2_put 1 = .ok (.getfield 36, 3) := by decide +kernel
theorem dX2_put_4 : decode cX2_put 4 = .ok (.iload_n 1, 1) := by decide +kernel
theorem dX2_put_5 : decode cX2_put 5 = .ok (.bipush 10, 2) := by decide +kernel
theorem dX2_put_7 : decode cX2_put 7 = .ok (.imul, 1) := by decide +kernel
theorem dX2_put_8 : decode cX2_put 8 = .ok (.iload_n 2, 1) := by decide +kernel
theorem dX2_put_9 : decode cX2_put 9 = .ok (.iadd, 1) := by decide +kernel
theorem dX2_put_10 : decode cX2_put 10 = .ok (.iload_n 3, 1) := by decide +kernel
theorem dX2_put_11 : decode cX2_put 11 = .ok (.iastore, 1) := by decide +kernel
theorem dX2_put_12 : decode cX2_put 12 = .ok (.return_, 1) := by decide +kernel
theorem dX3_init_0 : decode cX3_init 0 = .ok (.aload_n 0, 1) := by decide +kernel
theorem dX3_init_1 : decode cX3_init 1 = .ok (.invokespecial 3, 3) := by decide +kernel
theorem dX3_init_4 : decode cX3_init 4 = .ok (.return_, 1) := by decide +kernel
set_option maxRecDepth 20000 in
theorem ggX3_set_X3_clearAmounts : GoodIn wsX3_set wsX3_clearAmounts := goodIn_r _ [7, 8, 9, 10, 11, 12, 13] (by decide +kernel) (by decide +kernel)
set_option maxRecDepth 20000 in
theorem gX3_set_X3_clearAmounts : GoodIn wsX3_set (wsV RX3 18 RX3 yX3_clearAmounts wsX3_clearAmounts) := goodIn_app (goodIn_of _ (by decide +kernel)) ggX3_set_X3_clearAmounts
theorem dX3_set_0 : decode cX3_set 0 = .ok (.aload_n 0, 1) := by decide +kernel
theorem dX3_set_1 : decode cX3_set 1 = .ok (.iload_n 1, 1) := by decide +kernel
theorem dX3_set_2 : decode cX3_set 2 = .ok (.putfield 9, 3) := by decide +kernel
theorem dX3_set_5 : decode cX3_set 5 = .ok (.aload_n 0, 1) := by decide +kernel
theorem dX3_set_6 : decode cX3_set 6 = .ok (.iload_n 2, 1) := by decide +kernel
theorem dX3_set_7 : decode cX3_set 7 = .ok (.putfield 15, 3) := by decide +kernel
theorem dX3_set_10 : decode cX3_set 10 = .ok (.aload_n 0, 1) := by decide +kernel
theorem dX3_set_11 : decode cX3_set 11 = .ok (.invokevirtual 18, 3) := by decide +kernel
theorem dX3_set_14 : decode cX3_set 14 = .ok (.return_, 1) := by decide +kernel
set_option maxRecDepth 20000 in
theorem ggX3_copyFrom_X3_set : GoodIn wsX3_copyFrom wsX3_set := goodIn_r _ [9, 1, 2, 10, 11, 12, 8, 13, 3, 4, 14, 15, 16, 17] (by decide +kernel) (by decide +kernel)
set_option maxRecDepth 20000 in
theorem gX3_copyFrom_X3_set : GoodIn wsX3_copyFrom (wsV RX3 21 RX3 yX3_set wsX3_set) := goodIn_app (goodIn_of _ (by decide +kernel)) ggX3_copyFrom_X3_set
theorem dX3_copyFrom_0 : decode cX3_copyFrom 0 = .ok (.aload_n 0, 1) := by decide +kernel
theorem dX3_copyFrom_1 : decode cX3_copyFrom 1 = .ok (.aload_n 1, 1) := by decide +kernel
theorem dX3_copyFrom_2 : decode cX3_copyFrom 2 = .ok (.getfield 9, 3) := by decide +kernel
theorem dX3_copyFrom_5 : decode cX3_copyFrom 5 = .ok (.aload_n 1, 1) := by decide +kernel
theorem dX3_copyFrom_6 : decode cX3_copyFrom 6 = .ok (.getfield 15, 3) := by decide +kernel
theorem dX3_copyFrom_9 : decode cX3_copyFrom 9 = .ok (.invokevirtual 21, 3) := by decide +kernel
theorem dX3_copyFrom_12 : decode cX3_copyFrom 12 = .ok (.aload_n 0, 1) := by decide +kernel
theorem dX3_copyFrom_13 : decode cX3_copyFrom 13 = .ok (.aload_n 1, 1) := by decide +kernel
theorem dX3_copyFrom_14 : decode cX3_copyFrom 14 = .ok (.getfield 25, 3) := by decide +kernel
theorem dX3_copyFrom_17 : decode cX3_copyFrom 17 = .ok (.putfield 25, 3) := by decide +kernel
theorem dX3_copyFrom_20 : decode cX3_copyFrom 20 = .ok (.aload_n 0, 1) := by decide +kernel
theorem dX3_copyFrom_21 : decode cX3_copyFrom 21 = .ok (.aload_n 1, 1) := by decide +kernel
theorem dX3_copyFrom_22 : decode cX3_copyFrom 22 = .ok (.getfield 28, 3) := by decide +kernel
theorem dX3_copyFrom_25 : decode cX3_copyFrom 25 = .ok (.putfield 28, 3) := by decide +kernel
theorem dX3_copyFrom_28 : decode cX3_copyFrom 28 = .ok (.return_, 1) := by decide +kernel
theorem dX3_clearAmounts_0 : decode cX3_clearAmounts 0 = .ok (.aload_n 0, 1) := by decide +kernel
theorem dX3_clearAmounts_1 : decode cX3_clearAmounts 1 = .ok (.iconst 0, 1) := by decide +kernel
theorem dX3_clearAmounts_2 : decode cX3_clearAmounts 2 = .ok (.putfield 25, 3) := by decide +kernel
theorem dX3_clearAmounts_5 : decode cX3_clearAmounts 5 = .ok (.aload_n 0, 1) := by decide +kernel
theorem dX3_clearAmounts_6 : decode cX3_clearAmounts 6 = .ok (.iconst 0, 1) := by decide +kernel
theorem dX3_clearAmounts_7 : decode cX3_clearAmounts 7 = .ok (.putfield 28, 3) := by decide +kernel
theorem dX3_clearAmounts_10 : decode cX3_clearAmounts 10 = .ok (.return_, 1) := by decide +kernel
theorem dX3_value_0 : decode cX3_value 0 = .ok (.iload_n 1, 1) := by decide +kernel
theorem dX3_value_1 : decode cX3_value 1 = .ok (.tableswitch 42 0 2 #[27, 32, 37], 27) := by decide +kernel
theorem dX3_value_28 : decode cX3_value 28 = .ok (.aload_n 0, 1) := by decide +kernel
theorem dX3_value_29 : decode cX3_value 29 = .ok (.getfield 9, 3) := by decide +kernel
theorem dX3_value_32 : decode cX3_value 32 = .ok (.ireturn, 1) := by decide +kernel
theorem dX3_value_33 : decode cX3_value 33 = .ok (.aload_n 0, 1) := by decide +kernel
theorem dX3_value_34 : decode cX3_value 34 = .ok (.getfield 15, 3) := by decide +kernel
theorem dX3_value_37 : decode cX3_value 37 = .ok (.ireturn, 1) := by decide +kernel
theorem dX3_value_38 : decode cX3_value 38 = .ok (.aload_n 0, 1) := by decide +kernel
theorem dX3_value_39 : decode cX3_value 39 = .ok (.getfield 25, 3) := by decide +kernel
theorem dX3_value_42 : decode cX3_value 42 = .ok (.ireturn, 1) := by decide +kernel
theorem dX3_value_43 : decode cX3_value 43 = .ok (.aload_n 0, 1) := by decide +kernel
theorem dX3_value_44 : decode cX3_value 44 = .ok (.getfield 28, 3) := by decide +kernel
theorem dX3_value_47 : decode cX3_value 47 = .ok (.ireturn, 1) := by decide +kernel
theorem dX3_lack_0 : decode cX3_lack 0 = .ok (.aload_n 0, 1) := by decide +kernel
theorem dX3_lack_1 : decode cX3_lack 1 = .ok (.getfield 9, 3) := by decide +kernel
theorem dX3_lack_4 : decode cX3_lack 4 = .ok (.aload_n 0, 1) := by decide +kernel
theorem dX3_lack_5 : decode cX3_lack 5 = .ok (.getfield 25, 3) := by decide +kernel
theorem dX3_lack_8 : decode cX3_lack 8 = .ok (.isub, 1) := by decide +kernel
theorem dX3_lack_9 : decode cX3_lack 9 = .ok (.ireturn, 1) := by decide +kernel
theorem dX3_portion_0 : decode cX3_portion 0 = .ok (.bipush 10, 2) := by decide +kernel
theorem dX3_portion_2 : decode cX3_portion 2 = .ok (.aload_n 0, 1) := by decide +kernel
theorem dX3_portion_3 : decode cX3_portion 3 = .ok (.getfield 15, 3) := by decide +kernel
theorem dX3_portion_6 : decode cX3_portion 6 = .ok (.imul, 1) := by decide +kernel
theorem dX3_portion_7 : decode cX3_portion 7 = .ok (.ireturn, 1) := by decide +kernel
set_option maxRecDepth 20000 in
theorem ggX3_give_X3_lack : GoodIn wsX3_give wsX3_lack := goodIn_r _ [10, 11, 5, 12, 13, 14, 15] (by decide +kernel) (by decide +kernel)
set_option maxRecDepth 20000 in
theorem gX3_give_X3_lack : GoodIn wsX3_give (wsV RX3 31 RX3 yX3_lack wsX3_lack) := goodIn_app (goodIn_of _ (by decide +kernel)) ggX3_give_X3_lack
theorem dX3_give_0 : decode cX3_give 0 = .ok (.iload_n 1, 1) := by decide +kernel
theorem dX3_give_1 : decode cX3_give 1 = .ok (.aload_n 0, 1) := by decide +kernel
theorem dX3_give_2 : decode cX3_give 2 = .ok (.invokevirtual 31, 3) := by decide +kernel
theorem dX3_give_5 : decode cX3_give 5 = .ok (.invokestatic 35, 3) := by decide +kernel
theorem dX3_give_8 : decode cX3_give 8 = .ok (.istore_n 2, 1) := by decide +kernel
theorem dX3_give_9 : decode cX3_give 9 = .ok (.aload_n 0, 1) := by decide +kernel
theorem dX3_give_10 : decode cX3_give 10 = .ok (.dup, 1) := by decide +kernel
theorem dX3_give_11 : decode cX3_give 11 = .ok (.getfield 25, 3) := by decide +kernel
theorem dX3_give_14 : decode cX3_give 14 = .ok (.iload_n 2, 1) := by decide +kernel
theorem dX3_give_15 : decode cX3_give 15 = .ok (.iadd, 1) := by decide +kernel
theorem dX3_give_16 : decode cX3_give 16 = .ok (.putfield 25, 3) := by decide +kernel
theorem dX3_give_19 : decode cX3_give 19 = .ok (.iload_n 2, 1) := by decide +kernel
theorem dX3_give_20 : decode cX3_give 20 = .ok (.ireturn, 1) := by decide +kernel
set_option maxRecDepth 20000 in
theorem ggX4_init_X3_init : GoodIn wsX4_init wsX3_init := goodIn_r _ [11, 12, 2, 3] (by decide +kernel) (by decide +kernel)
set_option maxRecDepth 20000 in
theorem gX4_init_X3_init_n17 : GoodIn wsX4_init (wsX3_init) := ggX4_init_X3_init
theorem dX4_init_0 : decode cX4_init 0 = .ok (.aload_n 0, 1) := by decide +kernel
theorem dX4_init_1 : decode cX4_init 1 = .ok (.invokespecial 3, 3) := by decide +kernel
theorem dX4_init_4 : decode cX4_init 4 = .ok (.aload_n 0, 1) := by decide +kernel
theorem dX4_init_5 : decode cX4_init 5 = .ok (.iconst 5, 1) := by decide +kernel
theorem dX4_init_6 : decode cX4_init 6 = .ok (.anewarray 9, 3) := by decide +kernel
theorem dX4_init_9 : decode cX4_init 9 = .ok (.putfield 11, 3) := by decide +kernel
theorem dX4_init_12 : decode cX4_init 12 = .ok (.iconst 0, 1) := by decide +kernel
theorem dX4_init_13 : decode cX4_init 13 = .ok (.istore_n 1, 1) := by decide +kernel
theorem dX4_init_14 : decode cX4_init 14 = .ok (.iload_n 1, 1) := by decide +kernel
theorem dX4_init_15 : decode cX4_init 15 = .ok (.aload_n 0, 1) := by decide +kernel
theorem dX4_init_16 : decode cX4_init 16 = .ok (.getfield 11, 3) := by decide +kernel
theorem dX4_init_19 : decode cX4_init 19 = .ok (.arraylength, 1) := by decide +kernel
theorem dX4_init_20 : decode cX4_init 20 = .ok (.if_icmp .ge 22, 3) := by decide +kernel
theorem dX4_init_23 : decode cX4_init 23 = .ok (.aload_n 0, 1) := by decide +kernel
theorem dX4_init_24 : decode cX4_init 24 = .ok (.getfield 11, 3) := by decide +kernel
theorem dX4_init_27 : decode cX4_init 27 = .ok (.iload_n 1, 1) := by decide +kernel
theorem dX4_init_28 : decode cX4_init 28 = .ok (.new 9, 3) := by decide +kernel
theorem dX4_init_31 : decode cX4_init 31 = .ok (.dup, 1) := by decide +kernel
theorem dX4_init_32 : decode cX4_init 32 = .ok (.invokespecial 17, 3) := by decide +kernel
theorem dX4_init_35 : decode cX4_init 35 = .ok (.aastore, 1) := by decide +kernel
theorem dX4_init_36 : decode cX4_init 36 = .ok (.iinc 1 1, 3) := by decide +kernel
theorem dX4_init_39 : decode cX4_init 39 = .ok (.goto (-25), 3) := by decide +kernel
theorem dX4_init_42 : decode cX4_init 42 = .ok (.aload_n 0, 1) := by decide +kernel
theorem dX4_init_43 : decode cX4_init 43 = .ok (.iconst 5, 1) := by decide +kernel
theorem dX4_init_44 : decode cX4_init 44 = .ok (.newarray .int, 2) := by decide +kernel
theorem dX4_init_46 : decode cX4_init 46 = .ok (.putfield 18, 3) := by decide +kernel
theorem dX4_init_49 : decode cX4_init 49 = .ok (.return_, 1) := by decide +kernel
set_option maxRecDepth 20000 in
theorem ggX4_copyFrom_X3_copyFrom : GoodIn wsX4_copyFrom wsX3_copyFrom := goodIn_r _ [7, 8, 9, 10, 11, 12, 13, 14, 6, 15, 16, 17, 18, 19, 23, 24, 25, 26] (by decide +kernel) (by decide +kernel)
set_option maxRecDepth 20000 in
theorem gX4_copyFrom_X3_copyFrom : GoodIn wsX4_copyFrom (wsV RX4 26 RX3 yX3_copyFrom wsX3_copyFrom) := goodIn_app (goodIn_of _ (by decide +kernel)) ggX4_copyFrom_X3_copyFrom
theorem dX4_copyFrom_0 : decode cX4_copyFrom 0 = .ok (.aload_n 0, 1) := by decide +kernel
theorem dX4_copyFrom_1 : decode cX4_copyFrom 1 = .ok (.aload_n 1, 1) := by decide +kernel
theorem dX4_copyFrom_2 : decode cX4_copyFrom 2 = .ok (.getfield 22, 3) := by decide +kernel
theorem dX4_copyFrom_5 : decode cX4_copyFrom 5 = .ok (.putfield 22, 3) := by decide +kernel
theorem dX4_copyFrom_8 : decode cX4_copyFrom 8 = .ok (.iconst 0, 1) := by decide +kernel
theorem dX4_copyFrom_9 : decode cX4_copyFrom 9 = .ok (.istore_n 2, 1) := by decide +kernel
theorem dX4_copyFrom_10 : decode cX4_copyFrom 10 = .ok (.iload_n 2, 1) := by decide +kernel
theorem dX4_copyFrom_11 : decode cX4_copyFrom 11 = .ok (.aload_n 0, 1) := by decide +kernel
theorem dX4_copyFrom_12 : decode cX4_copyFrom 12 = .ok (.getfield 22, 3) := by decide +kernel
theorem dX4_copyFrom_15 : decode cX4_copyFrom 15 = .ok (.if_icmp .ge 24, 3) := by decide +kernel
theorem dX4_copyFrom_18 : decode cX4_copyFrom 18 = .ok (.aload_n 0, 1) := by decide +kernel
theorem dX4_copyFrom_19 : decode cX4_copyFrom 19 = .ok (.getfield 11, 3) := by decide +kernel
theorem dX4_copyFrom_22 : decode cX4_copyFrom 22 = .ok (.iload_n 2, 1) := by decide +kernel
theorem dX4_copyFrom_23 : decode cX4_copyFrom 23 = .ok (.aaload, 1) := by decide +kernel
theorem dX4_copyFrom_24 : decode cX4_copyFrom 24 = .ok (.aload_n 1, 1) := by decide +kernel
theorem dX4_copyFrom_25 : decode cX4_copyFrom 25 = .ok (.getfield 11, 3) := by decide +kernel
theorem dX4_copyFrom_28 : decode cX4_copyFrom 28 = .ok (.iload_n 2, 1) := by decide +kernel
theorem dX4_copyFrom_29 : decode cX4_copyFrom 29 = .ok (.aaload, 1) := by decide +kernel
theorem dX4_copyFrom_30 : decode cX4_copyFrom 30 = .ok (.invokevirtual 26, 3) := by decide +kernel
theorem dX4_copyFrom_33 : decode cX4_copyFrom 33 = .ok (.iinc 2 1, 3) := by decide +kernel
theorem dX4_copyFrom_36 : decode cX4_copyFrom 36 = .ok (.goto (-26), 3) := by decide +kernel
theorem dX4_copyFrom_39 : decode cX4_copyFrom 39 = .ok (.return_, 1) := by decide +kernel
set_option maxRecDepth 20000 in
theorem ggX4_clearAmounts_X3_clearAmounts : GoodIn wsX4_clearAmounts wsX3_clearAmounts := goodIn_r _ [7, 8, 9, 13, 14, 15, 16] (by decide +kernel) (by decide +kernel)
set_option maxRecDepth 20000 in
theorem gX4_clearAmounts_X3_clearAmounts : GoodIn wsX4_clearAmounts (wsV RX4 30 RX3 yX3_clearAmounts wsX3_clearAmounts) := goodIn_app (goodIn_of _ (by decide +kernel)) ggX4_clearAmounts_X3_clearAmounts
theorem dX4_clearAmounts_0 : decode cX4_clearAmounts 0 = .ok (.iconst 0, 1) := by decide +kernel
theorem dX4_clearAmounts_1 : decode cX4_clearAmounts 1 = .ok (.istore_n 1, 1) := by decide +kernel
theorem dX4_clearAmounts_2 : decode cX4_clearAmounts 2 = .ok (.iload_n 1, 1) := by decide +kernel
theorem dX4_clearAmounts_3 : decode cX4_clearAmounts 3 = .ok (.aload_n 0, 1) := by decide +kernel
theorem dX4_clearAmounts_4 : decode cX4_clearAmounts 4 = .ok (.getfield 22, 3) := by decide +kernel
theorem dX4_clearAmounts_7 : decode cX4_clearAmounts 7 = .ok (.if_icmp .ge 18, 3) := by decide +kernel
theorem dX4_clearAmounts_10 : decode cX4_clearAmounts 10 = .ok (.aload_n 0, 1) := by decide +kernel
theorem dX4_clearAmounts_11 : decode cX4_clearAmounts 11 = .ok (.getfield 11, 3) := by decide +kernel
theorem dX4_clearAmounts_14 : decode cX4_clearAmounts 14 = .ok (.iload_n 1, 1) := by decide +kernel
theorem dX4_clearAmounts_15 : decode cX4_clearAmounts 15 = .ok (.aaload, 1) := by decide +kernel
theorem dX4_clearAmounts_16 : decode cX4_clearAmounts 16 = .ok (.invokevirtual 30, 3) := by decide +kernel
theorem dX4_clearAmounts_19 : decode cX4_clearAmounts 19 = .ok (.iinc 1 1, 3) := by decide +kernel
theorem dX4_clearAmounts_22 : decode cX4_clearAmounts 22 = .ok (.goto (-20), 3) := by decide +kernel
theorem dX4_clearAmounts_25 : decode cX4_clearAmounts 25 = .ok (.return_, 1) := by decide +kernel
theorem dX4_scaleDemands_0 : decode cX4_scaleDemands 0 = .ok (.iconst 0, 1) := by decide +kernel
theorem dX4_scaleDemands_1 : decode cX4_scaleDemands 1 = .ok (.istore_n 3, 1) := by decide +kernel
theorem dX4_scaleDemands_2 : decode cX4_scaleDemands 2 = .ok (.iload_n 3, 1) := by decide +kernel
theorem dX4_scaleDemands_3 : decode cX4_scaleDemands 3 = .ok (.aload_n 0, 1) := by decide +kernel
theorem dX4_scaleDemands_4 : decode cX4_scaleDemands 4 = .ok (.getfield 22, 3) := by decide +kernel
theorem dX4_scaleDemands_7 : decode cX4_scaleDemands 7 = .ok (.if_icmp .ge 32, 3) := by decide +kernel
theorem dX4_scaleDemands_10 : decode cX4_scaleDemands 10 = .ok (.aload_n 0, 1) := by decide +kernel
theorem dX4_scaleDemands_11 : decode cX4_scaleDemands 11 = .ok (.getfield 11, 3) := by decide +kernel
theorem dX4_scaleDemands_14 : decode cX4_scaleDemands 14 = .ok (.iload_n 3, 1) := by decide +kernel
theorem dX4_scaleDemands_15 : decode cX4_scaleDemands 15 = .ok (.aaload, 1) := by decide +kernel
theorem dX4_scaleDemands_16 : decode cX4_scaleDemands 16 = .ok (.aload_n 1, 1) := by decide +kernel
theorem dX4_scaleDemands_17 : decode cX4_scaleDemands 17 = .ok (.getfield 11, 3) := by decide +kernel
theorem dX4_scaleDemands_20 : decode cX4_scaleDemands 20 = .ok (.iload_n 3, 1) := by decide +kernel
theorem dX4_scaleDemands_21 : decode cX4_scaleDemands 21 = .ok (.aaload, 1) := by decide +kernel
theorem dX4_scaleDemands_22 : decode cX4_scaleDemands 22 = .ok (.getfield 33, 3) := by decide +kernel
theorem dX4_scaleDemands_25 : decode cX4_scaleDemands 25 = .ok (.iload_n 2, 1) := by decide +kernel
theorem dX4_scaleDemands_26 : decode cX4_scaleDemands 26 = .ok (.imul, 1) := by decide +kernel
theorem dX4_scaleDemands_27 : decode cX4_scaleDemands 27 = .ok (.bipush 100, 2) := by decide +kernel
theorem dX4_scaleDemands_29 : decode cX4_scaleDemands 29 = .ok (.idiv, 1) := by decide +kernel
theorem dX4_scaleDemands_30 : decode cX4_scaleDemands 30 = .ok (.putfield 33, 3) := by decide +kernel
theorem dX4_scaleDemands_33 : decode cX4_scaleDemands 33 = .ok (.iinc 3 1, 3) := by decide +kernel
theorem dX4_scaleDemands_36 : decode cX4_scaleDemands 36 = .ok (.goto (-34), 3) := by decide +kernel
theorem dX4_scaleDemands_39 : decode cX4_scaleDemands 39 = .ok (.return_, 1) := by decide +kernel
theorem dX4_demandInAll_0 : decode cX4_demandInAll 0 = .ok (.iconst 0, 1) := by decide +kernel
theorem dX4_demandInAll_1 : decode cX4_demandInAll 1 = .ok (.istore_n 1, 1) := by decide +kernel
theorem dX4_demandInAll_2 : decode cX4_demandInAll 2 = .ok (.iconst 0, 1) := by decide +kernel
theorem dX4_demandInAll_3 : decode cX4_demandInAll 3 = .ok (.istore_n 2, 1) := by decide +kernel
theorem dX4_demandInAll_4 : decode cX4_demandInAll 4 = .ok (.iload_n 2, 1) := by decide +kernel
theorem dX4_demandInAll_5 : decode cX4_demandInAll 5 = .ok (.aload_n 0, 1) := by decide +kernel
theorem dX4_demandInAll_6 : decode cX4_demandInAll 6 = .ok (.getfield 22, 3) := by decide +kernel
theorem dX4_demandInAll_9 : decode cX4_demandInAll 9 = .ok (.if_icmp .ge 21, 3) := by decide +kernel
theorem dX4_demandInAll_12 : decode cX4_demandInAll 12 = .ok (.iload_n 1, 1) := by decide +kernel
theorem dX4_demandInAll_13 : decode cX4_demandInAll 13 = .ok (.aload_n 0, 1) := by decide +kernel
theorem dX4_demandInAll_14 : decode cX4_demandInAll 14 = .ok (.getfield 11, 3) := by decide +kernel
theorem dX4_demandInAll_17 : decode cX4_demandInAll 17 = .ok (.iload_n 2, 1) := by decide +kernel
theorem dX4_demandInAll_18 : decode cX4_demandInAll 18 = .ok (.aaload, 1) := by decide +kernel
theorem dX4_demandInAll_19 : decode cX4_demandInAll 19 = .ok (.getfield 33, 3) := by decide +kernel
theorem dX4_demandInAll_22 : decode cX4_demandInAll 22 = .ok (.iadd, 1) := by decide +kernel
theorem dX4_demandInAll_23 : decode cX4_demandInAll 23 = .ok (.istore_n 1, 1) := by decide +kernel
theorem dX4_demandInAll_24 : decode cX4_demandInAll 24 = .ok (.iinc 2 1, 3) := by decide +kernel
theorem dX4_demandInAll_27 : decode cX4_demandInAll 27 = .ok (.goto (-23), 3) := by decide +kernel
theorem dX4_demandInAll_30 : decode cX4_demandInAll 30 = .ok (.iload_n 1, 1) := by decide +kernel
theorem dX4_demandInAll_31 : decode cX4_demandInAll 31 = .ok (.ireturn, 1) := by decide +kernel
theorem dX4_greatestLack_0 : decode cX4_greatestLack 0 = .ok (.iconst 0, 1) := by decide +kernel
theorem dX4_greatestLack_1 : decode cX4_greatestLack 1 = .ok (.istore_n 2, 1) := by decide +kernel
theorem dX4_greatestLack_2 : decode cX4_greatestLack 2 = .ok (.iconst 0, 1) := by decide +kernel
theorem dX4_greatestLack_3 : decode cX4_greatestLack 3 = .ok (.istore_n 3, 1) := by decide +kernel
theorem dX4_greatestLack_4 : decode cX4_greatestLack 4 = .ok (.iload_n 3, 1) := by decide +kernel
theorem dX4_greatestLack_5 : decode cX4_greatestLack 5 = .ok (.aload_n 0, 1) := by decide +kernel
theorem dX4_greatestLack_6 : decode cX4_greatestLack 6 = .ok (.getfield 22, 3) := by decide +kernel
theorem dX4_greatestLack_9 : decode cX4_greatestLack 9 = .ok (.if_icmp .ge 35, 3) := by decide +kernel
theorem dX4_greatestLack_12 : decode cX4_greatestLack 12 = .ok (.iload_n 2, 1) := by decide +kernel
theorem dX4_greatestLack_13 : decode cX4_greatestLack 13 = .ok (.aload_n 0, 1) := by decide +kernel
theorem dX4_greatestLack_14 : decode cX4_greatestLack 14 = .ok (.getfield 11, 3) := by decide +kernel
theorem dX4_greatestLack_17 : decode cX4_greatestLack 17 = .ok (.iload_n 3, 1) := by decide +kernel
theorem dX4_greatestLack_18 : decode cX4_greatestLack 18 = .ok (.aaload, 1) := by decide +kernel
theorem dX4_greatestLack_19 : decode cX4_greatestLack 19 = .ok (.getfield 33, 3) := by decide +kernel
theorem dX4_greatestLack_22 : decode cX4_greatestLack 22 = .ok (.iload_n 1, 1) := by decide +kernel
theorem dX4_greatestLack_23 : decode cX4_greatestLack 23 = .ok (.imul, 1) := by decide +kernel
theorem dX4_greatestLack_24 : decode cX4_greatestLack 24 = .ok (.aload_n 0, 1) := by decide +kernel
theorem dX4_greatestLack_25 : decode cX4_greatestLack 25 = .ok (.getfield 11, 3) := by decide +kernel
theorem dX4_greatestLack_28 : decode cX4_greatestLack 28 = .ok (.iload_n 3, 1) := by decide +kernel
theorem dX4_greatestLack_29 : decode cX4_greatestLack 29 = .ok (.aaload, 1) := by decide +kernel
theorem dX4_greatestLack_30 : decode cX4_greatestLack 30 = .ok (.getfield 36, 3) := by decide +kernel
theorem dX4_greatestLack_33 : decode cX4_greatestLack 33 = .ok (.isub, 1) := by decide +kernel
theorem dX4_greatestLack_34 : decode cX4_greatestLack 34 = .ok (.invokestatic 39, 3) := by decide +kernel
theorem dX4_greatestLack_37 : decode cX4_greatestLack 37 = .ok (.istore_n 2, 1) := by decide +kernel
theorem dX4_greatestLack_38 : decode cX4_greatestLack 38 = .ok (.iinc 3 1, 3) := by decide +kernel
theorem dX4_greatestLack_41 : decode cX4_greatestLack 41 = .ok (.goto (-37), 3) := by decide +kernel
theorem dX4_greatestLack_44 : decode cX4_greatestLack 44 = .ok (.iload_n 2, 1) := by decide +kernel
theorem dX4_greatestLack_45 : decode cX4_greatestLack 45 = .ok (.ireturn, 1) := by decide +kernel
set_option maxRecDepth 20000 in
theorem ggX4_handOut_X4_demandInAll : GoodIn wsX4_handOut wsX4_demandInAll := goodIn_r _ [9, 1, 2, 10, 62, 63, 64, 65, 66, 67, 68] (by decide +kernel) (by decide +kernel)
set_option maxRecDepth 20000 in
theorem gX4_handOut_X4_demandInAll : GoodIn wsX4_handOut (wsV RX4 48 RX4 yX4_demandInAll wsX4_demandInAll) := goodIn_app (goodIn_of _ (by decide +kernel)) ggX4_handOut_X4_demandInAll
set_option maxRecDepth 20000 in
theorem ggX4_handOut_X4_orderByNumber : GoodIn wsX4_handOut wsX4_orderByNumber := goodIn_r _ [14, 1, 15, 62, 63, 64] (by decide +kernel) (by decide +kernel)
set_option maxRecDepth 20000 in
theorem gX4_handOut_X4_orderByNumber : GoodIn wsX4_handOut (wsV RX4 52 RX4 yX4_orderByNumber wsX4_orderByNumber) := goodIn_app (goodIn_of _ (by decide +kernel)) ggX4_handOut_X4_orderByNumber
set_option maxRecDepth 20000 in
theorem ggX4_handOut_X4_serveOrder : GoodIn wsX4_handOut wsX4_serveOrder := goodIn_r _ [19, 1, 2, 15, 20, 21, 22, 23, 24, 25, 26, 27, 28, 29, 30, 31, 32, 33, 34, 62, 63, 64, 65, 66, 67, 68] (by decide +kernel) (by decide +kernel)
set_option maxRecDepth 20000 in
theorem gX4_handOut_X4_serveOrder : GoodIn wsX4_handOut (wsV RX4 55 RX4 yX4_serveOrder wsX4_serveOrder) := goodIn_app (goodIn_of _ (by decide +kernel)) ggX4_handOut_X4_serveOrder
set_option maxRecDepth 20000 in
theorem ggX4_handOut_X4_share : GoodIn wsX4_handOut wsX4_share := goodIn_r _ [38, 39, 40, 41, 8, 42, 1, 2, 10, 20, 21, 22, 23, 24, 25, 26, 27, 28, 29, 30, 31, 32, 33, 34, 11, 12, 13, 14, 15, 16, 17, 18, 19, 43, 44, 45, 46, 47, 48, 49, 50, 51, 52, 53, 54, 55, 56, 57, 58, 59, 60, 61, 62, 63, 64, 65, 66, 67, 68] (by decide +kernel) (by decide +kernel)
set_option maxRecDepth 20000 in
theorem gX4_handOut_X4_share : GoodIn wsX4_handOut (wsV RX4 59 RX4 yX4_share wsX4_share) := goodIn_app (goodIn_of _ (by decide +kernel)) ggX4_handOut_X4_share
theorem dX4_handOut_0 : decode cX4_handOut 0 = .ok (.iconst 0, 1) := by decide +kernel
theorem dX4_handOut_1 : decode cX4_handOut 1 = .ok (.istore_n 3, 1) := by decide +kernel
theorem dX4_handOut_2 : decode cX4_handOut 2 = .ok (.iload_n 3, 1) := by decide +kernel
theorem dX4_handOut_3 : decode cX4_handOut 3 = .ok (.aload_n 0, 1) := by decide +kernel
theorem dX4_handOut_4 : decode cX4_handOut 4 = .ok (.getfield 22, 3) := by decide +kernel
theorem dX4_handOut_7 : decode cX4_handOut 7 = .ok (.if_icmp .ge 19, 3) := by decide +kernel
theorem dX4_handOut_10 : decode cX4_handOut 10 = .ok (.aload_n 0, 1) := by decide +kernel
theorem dX4_handOut_11 : decode cX4_handOut 11 = .ok (.getfield 11, 3) := by decide +kernel
theorem dX4_handOut_14 : decode cX4_handOut 14 = .ok (.iload_n 3, 1) := by decide +kernel
theorem dX4_handOut_15 : decode cX4_handOut 15 = .ok (.aaload, 1) := by decide +kernel
theorem dX4_handOut_16 : decode cX4_handOut 16 = .ok (.iconst 0, 1) := by decide +kernel
theorem dX4_handOut_17 : decode cX4_handOut 17 = .ok (.putfield 45, 3) := by decide +kernel
theorem dX4_handOut_20 : decode cX4_handOut 20 = .ok (.iinc 3 1, 3) := by decide +kernel
theorem dX4_handOut_23 : decode cX4_handOut 23 = .ok (.goto (-21), 3) := by decide +kernel
theorem dX4_handOut_26 : decode cX4_handOut 26 = .ok (.aload_n 0, 1) := by decide +kernel
theorem dX4_handOut_27 : decode cX4_handOut 27 = .ok (.invokevirtual 48, 3) := by decide +kernel
theorem dX4_handOut_30 : decode cX4_handOut 30 = .ok (.istore_n 3, 1) := by decide +kernel
theorem dX4_handOut_31 : decode cX4_handOut 31 = .ok (.iload_n 1, 1) := by decide +kernel
theorem dX4_handOut_32 : decode cX4_handOut 32 = .ok (.iload_n 3, 1) := by decide +kernel
theorem dX4_handOut_33 : decode cX4_handOut 33 = .ok (.if_icmp .lt 15, 3) := by decide +kernel
theorem dX4_handOut_36 : decode cX4_handOut 36 = .ok (.aload_n 0, 1) := by decide +kernel
theorem dX4_handOut_37 : decode cX4_handOut 37 = .ok (.invokevirtual 52, 3) := by decide +kernel
theorem dX4_handOut_40 : decode cX4_handOut 40 = .ok (.aload_n 0, 1) := by decide +kernel
theorem dX4_handOut_41 : decode cX4_handOut 41 = .ok (.iload_n 3, 1) := by decide +kernel
theorem dX4_handOut_42 : decode cX4_handOut 42 = .ok (.invokevirtual 55, 3) := by decide +kernel
theorem dX4_handOut_45 : decode cX4_handOut 45 = .ok (.goto 10, 3) := by decide +kernel
theorem dX4_handOut_48 : decode cX4_handOut 48 = .ok (.aload_n 0, 1) := by decide +kernel
theorem dX4_handOut_49 : decode cX4_handOut 49 = .ok (.iload_n 1, 1) := by decide +kernel
theorem dX4_handOut_50 : decode cX4_handOut 50 = .ok (.iload_n 3, 1) := by decide +kernel
theorem dX4_handOut_51 : decode cX4_handOut 51 = .ok (.iload_n 2, 1) := by decide +kernel
theorem dX4_handOut_52 : decode cX4_handOut 52 = .ok (.invokevirtual 59, 3) := by decide +kernel
theorem dX4_handOut_55 : decode cX4_handOut 55 = .ok (.iconst 0, 1) := by decide +kernel
theorem dX4_handOut_56 : decode cX4_handOut 56 = .ok (.istore 4, 2) := by decide +kernel
theorem dX4_handOut_58 : decode cX4_handOut 58 = .ok (.iconst 0, 1) := by decide +kernel
theorem dX4_handOut_59 : decode cX4_handOut 59 = .ok (.istore 5, 2) := by decide +kernel
theorem dX4_handOut_61 : decode cX4_handOut 61 = .ok (.iload 5, 2) := by decide +kernel
theorem dX4_handOut_63 : decode cX4_handOut 63 = .ok (.aload_n 0, 1) := by decide +kernel
theorem dX4_handOut_64 : decode cX4_handOut 64 = .ok (.getfield 22, 3) := by decide +kernel
theorem dX4_handOut_67 : decode cX4_handOut 67 = .ok (.if_icmp .ge 49, 3) := by decide +kernel
theorem dX4_handOut_70 : decode cX4_handOut 70 = .ok (.aload_n 0, 1) := by decide +kernel
theorem dX4_handOut_71 : decode cX4_handOut 71 = .ok (.getfield 11, 3) := by decide +kernel
theorem dX4_handOut_74 : decode cX4_handOut 74 = .ok (.iload 5, 2) := by decide +kernel
theorem dX4_handOut_76 : decode cX4_handOut 76 = .ok (.aaload, 1) := by decide +kernel
theorem dX4_handOut_77 : decode cX4_handOut 77 = .ok (.dup, 1) := by decide +kernel
theorem dX4_handOut_78 : decode cX4_handOut 78 = .ok (.getfield 36, 3) := by decide +kernel
theorem dX4_handOut_81 : decode cX4_handOut 81 = .ok (.aload_n 0, 1) := by decide +kernel
theorem dX4_handOut_82 : decode cX4_handOut 82 = .ok (.getfield 11, 3) := by decide +kernel
theorem dX4_handOut_85 : decode cX4_handOut 85 = .ok (.iload 5, 2) := by decide +kernel
theorem dX4_handOut_87 : decode cX4_handOut 87 = .ok (.aaload, 1) := by decide +kernel
theorem dX4_handOut_88 : decode cX4_handOut 88 = .ok (.getfield 45, 3) := by decide +kernel
theorem dX4_handOut_91 : decode cX4_handOut 91 = .ok (.iadd, 1) := by decide +kernel
theorem dX4_handOut_92 : decode cX4_handOut 92 = .ok (.putfield 36, 3) := by decide +kernel
theorem dX4_handOut_95 : decode cX4_handOut 95 = .ok (.iload 4, 2) := by decide +kernel
theorem dX4_handOut_97 : decode cX4_handOut 97 = .ok (.aload_n 0, 1) := by decide +kernel
theorem dX4_handOut_98 : decode cX4_handOut 98 = .ok (.getfield 11, 3) := by decide +kernel
theorem dX4_handOut_101 : decode cX4_handOut 101 = .ok (.iload 5, 2) := by decide +kernel
theorem dX4_handOut_103 : decode cX4_handOut 103 = .ok (.aaload, 1) := by decide +kernel
theorem dX4_handOut_104 : decode cX4_handOut 104 = .ok (.getfield 45, 3) := by decide +kernel
theorem dX4_handOut_107 : decode cX4_handOut 107 = .ok (.iadd, 1) := by decide +kernel
theorem dX4_handOut_108 : decode cX4_handOut 108 = .ok (.istore 4, 2) := by decide +kernel
theorem dX4_handOut_110 : decode cX4_handOut 110 = .ok (.iinc 5 1, 3) := by decide +kernel
theorem dX4_handOut_113 : decode cX4_handOut 113 = .ok (.goto (-52), 3) := by decide +kernel
theorem dX4_handOut_116 : decode cX4_handOut 116 = .ok (.iload 4, 2) := by decide +kernel
theorem dX4_handOut_118 : decode cX4_handOut 118 = .ok (.ireturn, 1) := by decide +kernel
set_option maxRecDepth 20000 in
theorem ggX4_share_X4_shareByDemand : GoodIn wsX4_share wsX4_shareByDemand := goodIn_r _ [5, 6, 7, 8, 9, 10, 11, 12, 13, 14, 15, 16, 17, 18, 19, 20, 21, 22, 23, 52, 53, 54, 55, 56, 57, 58] (by decide +kernel) (by decide +kernel)
set_option maxRecDepth 20000 in
theorem gX4_share_X4_shareByDemand : GoodIn wsX4_share (wsV RX4 63 RX4 yX4_shareByDemand wsX4_shareByDemand) := goodIn_app (goodIn_of _ (by decide +kernel)) ggX4_share_X4_shareByDemand
set_option maxRecDepth 20000 in
theorem ggX4_share_X4_orderByNumber : GoodIn wsX4_share wsX4_orderByNumber := goodIn_r _ [27, 6, 28, 52, 53, 54] (by decide +kernel) (by decide +kernel)
set_option maxRecDepth 20000 in
theorem gX4_share_X4_orderByNumber : GoodIn wsX4_share (wsV RX4 52 RX4 yX4_orderByNumber wsX4_orderByNumber) := goodIn_app (goodIn_of _ (by decide +kernel)) ggX4_share_X4_orderByNumber
set_option maxRecDepth 20000 in
theorem ggX4_share_X4_serveOrder : GoodIn wsX4_share wsX4_serveOrder := goodIn_r _ [32, 6, 7, 28, 9, 10, 11, 12, 13, 14, 15, 16, 17, 18, 19, 20, 21, 22, 23, 52, 53, 54, 55, 56, 57, 58] (by decide +kernel) (by decide +kernel)
set_option maxRecDepth 20000 in
theorem gX4_share_X4_serveOrder : GoodIn wsX4_share (wsV RX4 55 RX4 yX4_serveOrder wsX4_serveOrder) := goodIn_app (goodIn_of _ (by decide +kernel)) ggX4_share_X4_serveOrder
set_option maxRecDepth 20000 in
theorem ggX4_share_X4_shareInRounds : GoodIn wsX4_share wsX4_shareInRounds := goodIn_r _ [36, 6, 7, 37, 15, 16, 17, 38, 39, 40, 4, 41, 42, 20, 21, 12, 22, 23, 18, 43, 44, 45, 46, 47, 9, 10, 11, 13, 14, 19, 52, 53, 54, 55, 56, 57, 58] (by decide +kernel) (by decide +kernel)
set_option maxRecDepth 20000 in
theorem gX4_share_X4_shareInRounds : GoodIn wsX4_share (wsV RX4 67 RX4 yX4_shareInRounds wsX4_shareInRounds) := goodIn_app (goodIn_of _ (by decide +kernel)) ggX4_share_X4_shareInRounds
set_option maxRecDepth 20000 in
theorem ggX4_share_X4_orderByDemand : GoodIn wsX4_share wsX4_orderByDemand := goodIn_r _ [51, 6, 7, 28, 8, 52, 53, 54, 55, 56, 57, 58] (by decide +kernel) (by decide +kernel)
set_option maxRecDepth 20000 in
theorem gX4_share_X4_orderByDemand : GoodIn wsX4_share (wsV RX4 70 RX4 yX4_orderByDemand wsX4_orderByDemand) := goodIn_app (goodIn_of _ (by decide +kernel)) ggX4_share_X4_orderByDemand
theorem dX4_share_0 : decode cX4_share 0 = .ok (.iload_n 3, 1) := by decide +kernel
theorem dX4_share_1 : decode cX4_share 1 = .ok (.tableswitch 56 0 2 #[27, 36, 48], 27) := by decide +kernel
theorem dX4_share_28 : decode cX4_share 28 = .ok (.aload_n 0, 1) := by decide +kernel
theorem dX4_share_29 : decode cX4_share 29 = .ok (.iload_n 1, 1) := by decide +kernel
theorem dX4_share_30 : decode cX4_share 30 = .ok (.iload_n 2, 1) := by decide +kernel
theorem dX4_share_31 : decode cX4_share 31 = .ok (.invokevirtual 63, 3) := by decide +kernel
theorem dX4_share_34 : decode cX4_share 34 = .ok (.goto 32, 3) := by decide +kernel
theorem dX4_share_37 : decode cX4_share 37 = .ok (.aload_n 0, 1) := by decide +kernel
theorem dX4_share_38 : decode cX4_share 38 = .ok (.invokevirtual 52, 3) := by decide +kernel
theorem dX4_share_41 : decode cX4_share 41 = .ok (.aload_n 0, 1) := by decide +kernel
theorem dX4_share_42 : decode cX4_share 42 = .ok (.iload_n 1, 1) := by decide +kernel
theorem dX4_share_43 : decode cX4_share 43 = .ok (.invokevirtual 55, 3) := by decide +kernel
theorem dX4_share_46 : decode cX4_share 46 = .ok (.goto 20, 3) := by decide +kernel
theorem dX4_share_49 : decode cX4_share 49 = .ok (.aload_n 0, 1) := by decide +kernel
theorem dX4_share_50 : decode cX4_share 50 = .ok (.iload_n 1, 1) := by decide +kernel
theorem dX4_share_51 : decode cX4_share 51 = .ok (.invokevirtual 67, 3) := by decide +kernel
theorem dX4_share_54 : decode cX4_share 54 = .ok (.goto 12, 3) := by decide +kernel
theorem dX4_share_57 : decode cX4_share 57 = .ok (.aload_n 0, 1) := by decide +kernel
theorem dX4_share_58 : decode cX4_share 58 = .ok (.invokevirtual 70, 3) := by decide +kernel
theorem dX4_share_61 : decode cX4_share 61 = .ok (.aload_n 0, 1) := by decide +kernel
theorem dX4_share_62 : decode cX4_share 62 = .ok (.iload_n 1, 1) := by decide +kernel
theorem dX4_share_63 : decode cX4_share 63 = .ok (.invokevirtual 55, 3) := by decide +kernel
theorem dX4_share_66 : decode cX4_share 66 = .ok (.return_, 1) := by decide +kernel
set_option maxRecDepth 20000 in
theorem ggX4_shareByDemand_X3_give : GoodIn wsX4_shareByDemand wsX3_give := goodIn_r _ [8, 9, 10, 11, 12, 13, 14, 15, 16, 7, 17, 18, 22, 23, 24, 25] (by decide +kernel) (by decide +kernel)
set_option maxRecDepth 20000 in
theorem gX4_shareByDemand_X3_give : GoodIn wsX4_shareByDemand (wsV RX4 73 RX3 yX3_give wsX3_give) := goodIn_app (goodIn_of _ (by decide +kernel)) ggX4_shareByDemand_X3_give
theorem dX4_shareByDemand_0 : decode cX4_shareByDemand 0 = .ok (.iload_n 2, 1) := by decide +kernel
theorem dX4_shareByDemand_1 : decode cX4_shareByDemand 1 = .ok (.ifCond .gt 4, 3) := by decide +kernel
theorem dX4_shareByDemand_4 : decode cX4_shareByDemand 4 = .ok (.return_, 1) := by decide +kernel
theorem dX4_shareByDemand_5 : decode cX4_shareByDemand 5 = .ok (.iload_n 1, 1) := by decide +kernel
theorem dX4_shareByDemand_6 : decode cX4_shareByDemand 6 = .ok (.istore_n 3, 1) := by decide +kernel
theorem dX4_shareByDemand_7 : decode cX4_shareByDemand 7 = .ok (.iconst 0, 1) := by decide +kernel
theorem dX4_shareByDemand_8 : decode cX4_shareByDemand 8 = .ok (.istore 4, 2) := by decide +kernel
theorem dX4_shareByDemand_10 : decode cX4_shareByDemand 10 = .ok (.iload 4, 2) := by decide +kernel
theorem dX4_shareByDemand_12 : decode cX4_shareByDemand 12 = .ok (.aload_n 0, 1) := by decide +kernel
theorem dX4_shareByDemand_13 : decode cX4_shareByDemand 13 = .ok (.getfield 22, 3) := by decide +kernel
theorem dX4_shareByDemand_16 : decode cX4_shareByDemand 16 = .ok (.if_icmp .ge 44, 3) := by decide +kernel
theorem dX4_shareByDemand_19 : decode cX4_shareByDemand 19 = .ok (.aload_n 0, 1) := by decide +kernel
theorem dX4_shareByDemand_20 : decode cX4_shareByDemand 20 = .ok (.getfield 11, 3) := by decide +kernel
theorem dX4_shareByDemand_23 : decode cX4_shareByDemand 23 = .ok (.iload 4, 2) := by decide +kernel
theorem dX4_shareByDemand_25 : decode cX4_shareByDemand 25 = .ok (.aaload, 1) := by decide +kernel
theorem dX4_shareByDemand_26 : decode cX4_shareByDemand 26 = .ok (.getfield 33, 3) := by decide +kernel
theorem dX4_shareByDemand_29 : decode cX4_shareByDemand 29 = .ok (.i2l, 1) := by decide +kernel
theorem dX4_shareByDemand_30 : decode cX4_shareByDemand 30 = .ok (.iload_n 1, 1) := by decide +kernel
theorem dX4_shareByDemand_31 : decode cX4_shareByDemand 31 = .ok (.i2l, 1) := by decide +kernel
theorem dX4_shareByDemand_32 : decode cX4_shareByDemand 32 = .ok (.lmul, 1) := by decide +kernel
theorem dX4_shareByDemand_33 : decode cX4_shareByDemand 33 = .ok (.iload_n 2, 1) := by decide +kernel
theorem dX4_shareByDemand_34 : decode cX4_shareByDemand 34 = .ok (.i2l, 1) := by decide +kernel
theorem dX4_shareByDemand_35 : decode cX4_shareByDemand 35 = .ok (.ldiv, 1) := by decide +kernel
theorem dX4_shareByDemand_36 : decode cX4_shareByDemand 36 = .ok (.lstore 5, 2) := by decide +kernel
theorem dX4_shareByDemand_38 : decode cX4_shareByDemand 38 = .ok (.iload_n 3, 1) := by decide +kernel
theorem dX4_shareByDemand_39 : decode cX4_shareByDemand 39 = .ok (.aload_n 0, 1) := by decide +kernel
theorem dX4_shareByDemand_40 : decode cX4_shareByDemand 40 = .ok (.getfield 11, 3) := by decide +kernel
theorem dX4_shareByDemand_43 : decode cX4_shareByDemand 43 = .ok (.iload 4, 2) := by decide +kernel
theorem dX4_shareByDemand_45 : decode cX4_shareByDemand 45 = .ok (.aaload, 1) := by decide +kernel
theorem dX4_shareByDemand_46 : decode cX4_shareByDemand 46 = .ok (.lload 5, 2) := by decide +kernel
theorem dX4_shareByDemand_48 : decode cX4_shareByDemand 48 = .ok (.l2i, 1) := by decide +kernel
theorem dX4_shareByDemand_49 : decode cX4_shareByDemand 49 = .ok (.invokevirtual 73, 3) := by decide +kernel
theorem dX4_shareByDemand_52 : decode cX4_shareByDemand 52 = .ok (.isub, 1) := by decide +kernel
theorem dX4_shareByDemand_53 : decode cX4_shareByDemand 53 = .ok (.istore_n 3, 1) := by decide +kernel
theorem dX4_shareByDemand_54 : decode cX4_shareByDemand 54 = .ok (.iinc 4 1, 3) := by decide +kernel
theorem dX4_shareByDemand_57 : decode cX4_shareByDemand 57 = .ok (.goto (-47), 3) := by decide +kernel
theorem dX4_shareByDemand_60 : decode cX4_shareByDemand 60 = .ok (.iconst 0, 1) := by decide +kernel
theorem dX4_shareByDemand_61 : decode cX4_shareByDemand 61 = .ok (.istore 4, 2) := by decide +kernel
theorem dX4_shareByDemand_63 : decode cX4_shareByDemand 63 = .ok (.iload 4, 2) := by decide +kernel
theorem dX4_shareByDemand_65 : decode cX4_shareByDemand 65 = .ok (.aload_n 0, 1) := by decide +kernel
theorem dX4_shareByDemand_66 : decode cX4_shareByDemand 66 = .ok (.getfield 22, 3) := by decide +kernel
theorem dX4_shareByDemand_69 : decode cX4_shareByDemand 69 = .ok (.if_icmp .ge 27, 3) := by decide +kernel
theorem dX4_shareByDemand_72 : decode cX4_shareByDemand 72 = .ok (.iload_n 3, 1) := by decide +kernel
theorem dX4_shareByDemand_73 : decode cX4_shareByDemand 73 = .ok (.ifCond .le 23, 3) := by decide +kernel
theorem dX4_shareByDemand_76 : decode cX4_shareByDemand 76 = .ok (.iload_n 3, 1) := by decide +kernel
theorem dX4_shareByDemand_77 : decode cX4_shareByDemand 77 = .ok (.aload_n 0, 1) := by decide +kernel
theorem dX4_shareByDemand_78 : decode cX4_shareByDemand 78 = .ok (.getfield 11, 3) := by decide +kernel
theorem dX4_shareByDemand_81 : decode cX4_shareByDemand 81 = .ok (.iload 4, 2) := by decide +kernel
theorem dX4_shareByDemand_83 : decode cX4_shareByDemand 83 = .ok (.aaload, 1) := by decide +kernel
theorem dX4_shareByDemand_84 : decode cX4_shareByDemand 84 = .ok (.iconst 1, 1) := by decide +kernel
theorem dX4_shareByDemand_85 : decode cX4_shareByDemand 85 = .ok (.invokevirtual 73, 3) := by decide +kernel
theorem dX4_shareByDemand_88 : decode cX4_shareByDemand 88 = .ok (.isub, 1) := by decide +kernel
theorem dX4_shareByDemand_89 : decode cX4_shareByDemand 89 = .ok (.istore_n 3, 1) := by decide +kernel
theorem dX4_shareByDemand_90 : decode cX4_shareByDemand 90 = .ok (.iinc 4 1, 3) := by decide +kernel
theorem dX4_shareByDemand_93 : decode cX4_shareByDemand 93 = .ok (.goto (-30), 3) := by decide +kernel
theorem dX4_shareByDemand_96 : decode cX4_shareByDemand 96 = .ok (.return_, 1) := by decide +kernel
theorem dX4_orderByNumber_0 : decode cX4_orderByNumber 0 = .ok (.iconst 0, 1) := by decide +kernel
theorem dX4_orderByNumber_1 : decode cX4_orderByNumber 1 = .ok (.istore_n 1, 1) := by decide +kernel
theorem dX4_orderByNumber_2 : decode cX4_orderByNumber 2 = .ok (.iload_n 1, 1) := by decide +kernel
theorem dX4_orderByNumber_3 : decode cX4_orderByNumber 3 = .ok (.aload_n 0, 1) := by decide +kernel
theorem dX4_orderByNumber_4 : decode cX4_orderByNumber 4 = .ok (.getfield 22, 3) := by decide +kernel
theorem dX4_orderByNumber_7 : decode cX4_orderByNumber 7 = .ok (.if_icmp .ge 16, 3) := by decide +kernel
theorem dX4_orderByNumber_10 : decode cX4_orderByNumber 10 = .ok (.aload_n 0, 1) := by decide +kernel
theorem dX4_orderByNumber_11 : decode cX4_orderByNumber 11 = .ok (.getfield 18, 3) := by decide +kernel
theorem dX4_orderByNumber_14 : decode cX4_orderByNumber 14 = .ok (.iload_n 1, 1) := by decide +kernel
theorem dX4_orderByNumber_15 : decode cX4_orderByNumber 15 = .ok (.iload_n 1, 1) := by decide +kernel
theorem dX4_orderByNumber_16 : decode cX4_orderByNumber 16 = .ok (.iastore, 1) := by decide +kernel
theorem dX4_orderByNumber_17 : decode cX4_orderByNumber 17 = .ok (.iinc 1 1, 3) := by decide +kernel
theorem dX4_orderByNumber_20 : decode cX4_orderByNumber 20 = .ok (.goto (-18), 3) := by decide +kernel
theorem dX4_orderByNumber_23 : decode cX4_orderByNumber 23 = .ok (.return_, 1) := by decide +kernel
theorem dX4_orderByDemand_0 : decode cX4_orderByDemand 0 = .ok (.iconst 0, 1) := by decide +kernel
theorem dX4_orderByDemand_1 : decode cX4_orderByDemand 1 = .ok (.istore_n 1, 1) := by decide +kernel
theorem dX4_orderByDemand_2 : decode cX4_orderByDemand 2 = .ok (.iload_n 1, 1) := by decide +kernel
theorem dX4_orderByDemand_3 : decode cX4_orderByDemand 3 = .ok (.aload_n 0, 1) := by decide +kernel
theorem dX4_orderByDemand_4 : decode cX4_orderByDemand 4 = .ok (.getfield 22, 3) := by decide +kernel
theorem dX4_orderByDemand_7 : decode cX4_orderByDemand 7 = .ok (.if_icmp .ge 70, 3) := by decide +kernel
theorem dX4_orderByDemand_10 : decode cX4_orderByDemand 10 = .ok (.iload_n 1, 1) := by decide +kernel
theorem dX4_orderByDemand_11 : decode cX4_orderByDemand 11 = .ok (.istore_n 2, 1) := by decide +kernel
theorem dX4_orderByDemand_12 : decode cX4_orderByDemand 12 = .ok (.iload_n 2, 1) := by decide +kernel
theorem dX4_orderByDemand_13 : decode cX4_orderByDemand 13 = .ok (.ifCond .le 51, 3) := by decide +kernel
theorem dX4_orderByDemand_16 : decode cX4_orderByDemand 16 = .ok (.aload_n 0, 1) := by decide +kernel
theorem dX4_orderByDemand_17 : decode cX4_orderByDemand 17 = .ok (.getfield 11, 3) := by decide +kernel
theorem dX4_orderByDemand_20 : decode cX4_orderByDemand 20 = .ok (.aload_n 0, 1) := by decide +kernel
theorem dX4_orderByDemand_21 : decode cX4_orderByDemand 21 = .ok (.getfield 18, 3) := by decide +kernel
theorem dX4_orderByDemand_24 : decode cX4_orderByDemand 24 = .ok (.iload_n 2, 1) := by decide +kernel
theorem dX4_orderByDemand_25 : decode cX4_orderByDemand 25 = .ok (.iconst 1, 1) := by decide +kernel
theorem dX4_orderByDemand_26 : decode cX4_orderByDemand 26 = .ok (.isub, 1) := by decide +kernel
theorem dX4_orderByDemand_27 : decode cX4_orderByDemand 27 = .ok (.iaload, 1) := by decide +kernel
theorem dX4_orderByDemand_28 : decode cX4_orderByDemand 28 = .ok (.aaload, 1) := by decide +kernel
theorem dX4_orderByDemand_29 : decode cX4_orderByDemand 29 = .ok (.getfield 33, 3) := by decide +kernel
theorem dX4_orderByDemand_32 : decode cX4_orderByDemand 32 = .ok (.aload_n 0, 1) := by decide +kernel
theorem dX4_orderByDemand_33 : decode cX4_orderByDemand 33 = .ok (.getfield 11, 3) := by decide +kernel
theorem dX4_orderByDemand_36 : decode cX4_orderByDemand 36 = .ok (.iload_n 1, 1) := by decide +kernel
theorem dX4_orderByDemand_37 : decode cX4_orderByDemand 37 = .ok (.aaload, 1) := by decide +kernel
theorem dX4_orderByDemand_38 : decode cX4_orderByDemand 38 = .ok (.getfield 33, 3) := by decide +kernel
theorem dX4_orderByDemand_41 : decode cX4_orderByDemand 41 = .ok (.if_icmp .le 23, 3) := by decide +kernel
theorem dX4_orderByDemand_44 : decode cX4_orderByDemand 44 = .ok (.aload_n 0, 1) := by decide +kernel
theorem dX4_orderByDemand_45 : decode cX4_orderByDemand 45 = .ok (.getfield 18, 3) := by decide +kernel
theorem dX4_orderByDemand_48 : decode cX4_orderByDemand 48 = .ok (.iload_n 2, 1) := by decide +kernel
theorem dX4_orderByDemand_49 : decode cX4_orderByDemand 49 = .ok (.aload_n 0, 1) := by decide +kernel
theorem dX4_orderByDemand_50 : decode cX4_orderByDemand 50 = .ok (.getfield 18, 3) := by decide +kernel
theorem dX4_orderByDemand_53 : decode cX4_orderByDemand 53 = .ok (.iload_n 2, 1) := by decide +kernel
theorem dX4_orderByDemand_54 : decode cX4_orderByDemand 54 = .ok (.iconst 1, 1) := by decide +kernel
theorem dX4_orderByDemand_55 : decode cX4_orderByDemand 55 = .ok (.isub, 1) := by decide +kernel
theorem dX4_orderByDemand_56 : decode cX4_orderByDemand 56 = .ok (.iaload, 1) := by decide +kernel
theorem dX4_orderByDemand_57 : decode cX4_orderByDemand 57 = .ok (.iastore, 1) := by decide +kernel
theorem dX4_orderByDemand_58 : decode cX4_orderByDemand 58 = .ok (.iinc 2 (-1), 3) := by decide +kernel
theorem dX4_orderByDemand_61 : decode cX4_orderByDemand 61 = .ok (.goto (-49), 3) := by decide +kernel
theorem dX4_orderByDemand_64 : decode cX4_orderByDemand 64 = .ok (.aload_n 0, 1) := by decide +kernel
theorem dX4_orderByDemand_65 : decode cX4_orderByDemand 65 = .ok (.getfield 18, 3) := by decide +kernel
theorem dX4_orderByDemand_68 : decode cX4_orderByDemand 68 = .ok (.iload_n 2, 1) := by decide +kernel
theorem dX4_orderByDemand_69 : decode cX4_orderByDemand 69 = .ok (.iload_n 1, 1) := by decide +kernel
theorem dX4_orderByDemand_70 : decode cX4_orderByDemand 70 = .ok (.iastore, 1) := by decide +kernel
theorem dX4_orderByDemand_71 : decode cX4_orderByDemand 71 = .ok (.iinc 1 1, 3) := by decide +kernel
theorem dX4_orderByDemand_74 : decode cX4_orderByDemand 74 = .ok (.goto (-72), 3) := by decide +kernel
theorem dX4_orderByDemand_77 : decode cX4_orderByDemand 77 = .ok (.return_, 1) := by decide +kernel
set_option maxRecDepth 20000 in
theorem ggX4_serveOrder_X3_give : GoodIn wsX4_serveOrder wsX3_give := goodIn_r _ [8, 9, 10, 11, 12, 13, 14, 15, 16, 7, 17, 18, 22, 23, 24, 25] (by decide +kernel) (by decide +kernel)
set_option maxRecDepth 20000 in
theorem gX4_serveOrder_X3_give : GoodIn wsX4_serveOrder (wsV RX4 73 RX3 yX3_give wsX3_give) := goodIn_app (goodIn_of _ (by decide +kernel)) ggX4_serveOrder_X3_give
theorem dX4_serveOrder_0 : decode cX4_serveOrder 0 = .ok (.iload_n 1, 1) := by decide +kernel
theorem dX4_serveOrder_1 : decode cX4_serveOrder 1 = .ok (.istore_n 2, 1) := by decide +kernel
theorem dX4_serveOrder_2 : decode cX4_serveOrder 2 = .ok (.iconst 0, 1) := by decide +kernel
theorem dX4_serveOrder_3 : decode cX4_serveOrder 3 = .ok (.istore_n 3, 1) := by decide +kernel
theorem dX4_serveOrder_4 : decode cX4_serveOrder 4 = .ok (.iload_n 3, 1) := by decide +kernel
theorem dX4_serveOrder_5 : decode cX4_serveOrder 5 = .ok (.aload_n 0, 1) := by decide +kernel
theorem dX4_serveOrder_6 : decode cX4_serveOrder 6 = .ok (.getfield 22, 3) := by decide +kernel
theorem dX4_serveOrder_9 : decode cX4_serveOrder 9 = .ok (.if_icmp .ge 27, 3) := by decide +kernel
theorem dX4_serveOrder_12 : decode cX4_serveOrder 12 = .ok (.iload_n 2, 1) := by decide +kernel
theorem dX4_serveOrder_13 : decode cX4_serveOrder 13 = .ok (.aload_n 0, 1) := by decide +kernel
theorem dX4_serveOrder_14 : decode cX4_serveOrder 14 = .ok (.getfield 11, 3) := by decide +kernel
theorem dX4_serveOrder_17 : decode cX4_serveOrder 17 = .ok (.aload_n 0, 1) := by decide +kernel
theorem dX4_serveOrder_18 : decode cX4_serveOrder 18 = .ok (.getfield 18, 3) := by decide +kernel
theorem dX4_serveOrder_21 : decode cX4_serveOrder 21 = .ok (.iload_n 3, 1) := by decide +kernel
theorem dX4_serveOrder_22 : decode cX4_serveOrder 22 = .ok (.iaload, 1) := by decide +kernel
theorem dX4_serveOrder_23 : decode cX4_serveOrder 23 = .ok (.aaload, 1) := by decide +kernel
theorem dX4_serveOrder_24 : decode cX4_serveOrder 24 = .ok (.iload_n 2, 1) := by decide +kernel
theorem dX4_serveOrder_25 : decode cX4_serveOrder 25 = .ok (.invokevirtual 73, 3) := by decide +kernel
theorem dX4_serveOrder_28 : decode cX4_serveOrder 28 = .ok (.isub, 1) := by decide +kernel
theorem dX4_serveOrder_29 : decode cX4_serveOrder 29 = .ok (.istore_n 2, 1) := by decide +kernel
theorem dX4_serveOrder_30 : decode cX4_serveOrder 30 = .ok (.iinc 3 1, 3) := by decide +kernel
theorem dX4_serveOrder_33 : decode cX4_serveOrder 33 = .ok (.goto (-29), 3) := by decide +kernel
theorem dX4_serveOrder_36 : decode cX4_serveOrder 36 = .ok (.return_, 1) := by decide +kernel
set_option maxRecDepth 20000 in
theorem ggX4_shareInRounds_X4_fullRounds : GoodIn wsX4_shareInRounds wsX4_fullRounds := goodIn_r _ [11, 1, 2, 12, 13, 14, 15, 16, 17, 18, 19, 20, 21, 22, 23, 30, 31, 32, 33, 34, 35, 36] (by decide +kernel) (by decide +kernel)
set_option maxRecDepth 20000 in
theorem gX4_shareInRounds_X4_fullRounds : GoodIn wsX4_shareInRounds (wsV RX4 77 RX4 yX4_fullRounds wsX4_fullRounds) := goodIn_app (goodIn_of _ (by decide +kernel)) ggX4_shareInRounds_X4_fullRounds
set_option maxRecDepth 20000 in
theorem ggX4_shareInRounds_X3_portion : GoodIn wsX4_shareInRounds wsX3_portion := goodIn_r _ [22, 23, 33, 34, 35, 36] (by decide +kernel) (by decide +kernel)
set_option maxRecDepth 20000 in
theorem gX4_shareInRounds_X3_portion : GoodIn wsX4_shareInRounds (wsV RX4 80 RX3 yX3_portion wsX3_portion) := goodIn_app (goodIn_of _ (by decide +kernel)) ggX4_shareInRounds_X3_portion
set_option maxRecDepth 20000 in
theorem ggX4_shareInRounds_X3_give : GoodIn wsX4_shareInRounds wsX3_give := goodIn_r _ [27, 28, 4, 5, 6, 18, 29, 13, 14, 15, 16, 17, 33, 34, 35, 36] (by decide +kernel) (by decide +kernel)
set_option maxRecDepth 20000 in
theorem gX4_shareInRounds_X3_give : GoodIn wsX4_shareInRounds (wsV RX4 73 RX3 yX3_give wsX3_give) := goodIn_app (goodIn_of _ (by decide +kernel)) ggX4_shareInRounds_X3_give
theorem dX4_shareInRounds_0 : decode cX4_shareInRounds 0 = .ok (.iload_n 1, 1) := by decide +kernel
theorem dX4_shareInRounds_1 : decode cX4_shareInRounds 1 = .ok (.istore_n 2, 1) := by decide +kernel
theorem dX4_shareInRounds_2 : decode cX4_shareInRounds 2 = .ok (.iconst 0, 1) := by decide +kernel
theorem dX4_shareInRounds_3 : decode cX4_shareInRounds 3 = .ok (.istore_n 3, 1) := by decide +kernel
theorem dX4_shareInRounds_4 : decode cX4_shareInRounds 4 = .ok (.iload_n 3, 1) := by decide +kernel
theorem dX4_shareInRounds_5 : decode cX4_shareInRounds 5 = .ok (.aload_n 0, 1) := by decide +kernel
theorem dX4_shareInRounds_6 : decode cX4_shareInRounds 6 = .ok (.getfield 22, 3) := by decide +kernel
theorem dX4_shareInRounds_9 : decode cX4_shareInRounds 9 = .ok (.if_icmp .gt 109, 3) := by decide +kernel
theorem dX4_shareInRounds_12 : decode cX4_shareInRounds 12 = .ok (.iload_n 2, 1) := by decide +kernel
theorem dX4_shareInRounds_13 : decode cX4_shareInRounds 13 = .ok (.ifCond .le 105, 3) := by decide +kernel
theorem dX4_shareInRounds_16 : decode cX4_shareInRounds 16 = .ok (.aload_n 0, 1) := by decide +kernel
theorem dX4_shareInRounds_17 : decode cX4_shareInRounds 17 = .ok (.iload_n 2, 1) := by decide +kernel
theorem dX4_shareInRounds_18 : decode cX4_shareInRounds 18 = .ok (.invokevirtual 77, 3) := by decide +kernel
theorem dX4_shareInRounds_21 : decode cX4_shareInRounds 21 = .ok (.istore 4, 2) := by decide +kernel
theorem dX4_shareInRounds_23 : decode cX4_shareInRounds 23 = .ok (.iconst 0, 1) := by decide +kernel
theorem dX4_shareInRounds_24 : decode cX4_shareInRounds 24 = .ok (.istore 5, 2) := by decide +kernel
theorem dX4_shareInRounds_26 : decode cX4_shareInRounds 26 = .ok (.iload 5, 2) := by decide +kernel
theorem dX4_shareInRounds_28 : decode cX4_shareInRounds 28 = .ok (.aload_n 0, 1) := by decide +kernel
theorem dX4_shareInRounds_29 : decode cX4_shareInRounds 29 = .ok (.getfield 22, 3) := by decide +kernel
theorem dX4_shareInRounds_32 : decode cX4_shareInRounds 32 = .ok (.if_icmp .ge 35, 3) := by decide +kernel
theorem dX4_shareInRounds_35 : decode cX4_shareInRounds 35 = .ok (.iload_n 2, 1) := by decide +kernel
theorem dX4_shareInRounds_36 : decode cX4_shareInRounds 36 = .ok (.aload_n 0, 1) := by decide +kernel
theorem dX4_shareInRounds_37 : decode cX4_shareInRounds 37 = .ok (.getfield 11, 3) := by decide +kernel
theorem dX4_shareInRounds_40 : decode cX4_shareInRounds 40 = .ok (.iload 5, 2) := by decide +kernel
theorem dX4_shareInRounds_42 : decode cX4_shareInRounds 42 = .ok (.aaload, 1) := by decide +kernel
theorem dX4_shareInRounds_43 : decode cX4_shareInRounds 43 = .ok (.iload 4, 2) := by decide +kernel
theorem dX4_shareInRounds_45 : decode cX4_shareInRounds 45 = .ok (.aload_n 0, 1) := by decide +kernel
theorem dX4_shareInRounds_46 : decode cX4_shareInRounds 46 = .ok (.getfield 11, 3) := by decide +kernel
theorem dX4_shareInRounds_49 : decode cX4_shareInRounds 49 = .ok (.iload 5, 2) := by decide +kernel
theorem dX4_shareInRounds_51 : decode cX4_shareInRounds 51 = .ok (.aaload, 1) := by decide +kernel
theorem dX4_shareInRounds_52 : decode cX4_shareInRounds 52 = .ok (.invokevirtual 80, 3) := by decide +kernel
theorem dX4_shareInRounds_55 : decode cX4_shareInRounds 55 = .ok (.imul, 1) := by decide +kernel
theorem dX4_shareInRounds_56 : decode cX4_shareInRounds 56 = .ok (.invokevirtual 73, 3) := by decide +kernel
theorem dX4_shareInRounds_59 : decode cX4_shareInRounds 59 = .ok (.isub, 1) := by decide +kernel
theorem dX4_shareInRounds_60 : decode cX4_shareInRounds 60 = .ok (.istore_n 2, 1) := by decide +kernel
theorem dX4_shareInRounds_61 : decode cX4_shareInRounds 61 = .ok (.iinc 5 1, 3) := by decide +kernel
theorem dX4_shareInRounds_64 : decode cX4_shareInRounds 64 = .ok (.goto (-38), 3) := by decide +kernel
theorem dX4_shareInRounds_67 : decode cX4_shareInRounds 67 = .ok (.iconst 0, 1) := by decide +kernel
theorem dX4_shareInRounds_68 : decode cX4_shareInRounds 68 = .ok (.istore 5, 2) := by decide +kernel
theorem dX4_shareInRounds_70 : decode cX4_shareInRounds 70 = .ok (.iload 5, 2) := by decide +kernel
theorem dX4_shareInRounds_72 : decode cX4_shareInRounds 72 = .ok (.aload_n 0, 1) := by decide +kernel
theorem dX4_shareInRounds_73 : decode cX4_shareInRounds 73 = .ok (.getfield 22, 3) := by decide +kernel
theorem dX4_shareInRounds_76 : decode cX4_shareInRounds 76 = .ok (.if_icmp .ge 36, 3) := by decide +kernel
theorem dX4_shareInRounds_79 : decode cX4_shareInRounds 79 = .ok (.iload_n 2, 1) := by decide +kernel
theorem dX4_shareInRounds_80 : decode cX4_shareInRounds 80 = .ok (.aload_n 0, 1) := by decide +kernel
theorem dX4_shareInRounds_81 : decode cX4_shareInRounds 81 = .ok (.getfield 11, 3) := by decide +kernel
theorem dX4_shareInRounds_84 : decode cX4_shareInRounds 84 = .ok (.iload 5, 2) := by decide +kernel
theorem dX4_shareInRounds_86 : decode cX4_shareInRounds 86 = .ok (.aaload, 1) := by decide +kernel
theorem dX4_shareInRounds_87 : decode cX4_shareInRounds 87 = .ok (.iload_n 2, 1) := by decide +kernel
theorem dX4_shareInRounds_88 : decode cX4_shareInRounds 88 = .ok (.aload_n 0, 1) := by decide +kernel
theorem dX4_shareInRounds_89 : decode cX4_shareInRounds 89 = .ok (.getfield 11, 3) := by decide +kernel
theorem dX4_shareInRounds_92 : decode cX4_shareInRounds 92 = .ok (.iload 5, 2) := by decide +kernel
theorem dX4_shareInRounds_94 : decode cX4_shareInRounds 94 = .ok (.aaload, 1) := by decide +kernel
theorem dX4_shareInRounds_95 : decode cX4_shareInRounds 95 = .ok (.invokevirtual 80, 3) := by decide +kernel
theorem dX4_shareInRounds_98 : decode cX4_shareInRounds 98 = .ok (.invokestatic 83, 3) := by decide +kernel
theorem dX4_shareInRounds_101 : decode cX4_shareInRounds 101 = .ok (.invokevirtual 73, 3) := by decide +kernel
theorem dX4_shareInRounds_104 : decode cX4_shareInRounds 104 = .ok (.isub, 1) := by decide +kernel
theorem dX4_shareInRounds_105 : decode cX4_shareInRounds 105 = .ok (.istore_n 2, 1) := by decide +kernel
theorem dX4_shareInRounds_106 : decode cX4_shareInRounds 106 = .ok (.iinc 5 1, 3) := by decide +kernel
theorem dX4_shareInRounds_109 : decode cX4_shareInRounds 109 = .ok (.goto (-39), 3) := by decide +kernel
theorem dX4_shareInRounds_112 : decode cX4_shareInRounds 112 = .ok (.iinc 3 1, 3) := by decide +kernel
theorem dX4_shareInRounds_115 : decode cX4_shareInRounds 115 = .ok (.goto (-111), 3) := by decide +kernel
theorem dX4_shareInRounds_118 : decode cX4_shareInRounds 118 = .ok (.return_, 1) := by decide +kernel
set_option maxRecDepth 20000 in
theorem ggX4_fullRounds_X3_lack : GoodIn wsX4_fullRounds wsX3_lack := goodIn_r _ [7, 8, 9, 18, 19, 20, 21] (by decide +kernel) (by decide +kernel)
set_option maxRecDepth 20000 in
theorem gX4_fullRounds_X3_lack : GoodIn wsX4_fullRounds (wsV RX4 86 RX3 yX3_lack wsX3_lack) := goodIn_app (goodIn_of _ (by decide +kernel)) ggX4_fullRounds_X3_lack
set_option maxRecDepth 20000 in
theorem ggX4_fullRounds_X3_portion : GoodIn wsX4_fullRounds wsX3_portion := goodIn_r _ [13, 14, 18, 19, 20, 21] (by decide +kernel) (by decide +kernel)
set_option maxRecDepth 20000 in
theorem gX4_fullRounds_X3_portion : GoodIn wsX4_fullRounds (wsV RX4 80 RX3 yX3_portion wsX3_portion) := goodIn_app (goodIn_of _ (by decide +kernel)) ggX4_fullRounds_X3_portion
theorem dX4_fullRounds_0 : decode cX4_fullRounds 0 = .ok (.iconst 0, 1) := by decide +kernel
theorem dX4_fullRounds_1 : decode cX4_fullRounds 1 = .ok (.istore_n 2, 1) := by decide +kernel
theorem dX4_fullRounds_2 : decode cX4_fullRounds 2 = .ok (.iconst 0, 1) := by decide +kernel
theorem dX4_fullRounds_3 : decode cX4_fullRounds 3 = .ok (.istore_n 3, 1) := by decide +kernel
theorem dX4_fullRounds_4 : decode cX4_fullRounds 4 = .ok (.iload_n 3, 1) := by decide +kernel
theorem dX4_fullRounds_5 : decode cX4_fullRounds 5 = .ok (.aload_n 0, 1) := by decide +kernel
theorem dX4_fullRounds_6 : decode cX4_fullRounds 6 = .ok (.getfield 22, 3) := by decide +kernel
theorem dX4_fullRounds_9 : decode cX4_fullRounds 9 = .ok (.if_icmp .ge 33, 3) := by decide +kernel
theorem dX4_fullRounds_12 : decode cX4_fullRounds 12 = .ok (.aload_n 0, 1) := by decide +kernel
theorem dX4_fullRounds_13 : decode cX4_fullRounds 13 = .ok (.getfield 11, 3) := by decide +kernel
theorem dX4_fullRounds_16 : decode cX4_fullRounds 16 = .ok (.iload_n 3, 1) := by decide +kernel
theorem dX4_fullRounds_17 : decode cX4_fullRounds 17 = .ok (.aaload, 1) := by decide +kernel
theorem dX4_fullRounds_18 : decode cX4_fullRounds 18 = .ok (.invokevirtual 86, 3) := by decide +kernel
theorem dX4_fullRounds_21 : decode cX4_fullRounds 21 = .ok (.ifCond .le 15, 3) := by decide +kernel
theorem dX4_fullRounds_24 : decode cX4_fullRounds 24 = .ok (.iload_n 2, 1) := by decide +kernel
theorem dX4_fullRounds_25 : decode cX4_fullRounds 25 = .ok (.aload_n 0, 1) := by decide +kernel
theorem dX4_fullRounds_26 : decode cX4_fullRounds 26 = .ok (.getfield 11, 3) := by decide +kernel
theorem dX4_fullRounds_29 : decode cX4_fullRounds 29 = .ok (.iload_n 3, 1) := by decide +kernel
theorem dX4_fullRounds_30 : decode cX4_fullRounds 30 = .ok (.aaload, 1) := by decide +kernel
theorem dX4_fullRounds_31 : decode cX4_fullRounds 31 = .ok (.invokevirtual 80, 3) := by decide +kernel
theorem dX4_fullRounds_34 : decode cX4_fullRounds 34 = .ok (.iadd, 1) := by decide +kernel
theorem dX4_fullRounds_35 : decode cX4_fullRounds 35 = .ok (.istore_n 2, 1) := by decide +kernel
theorem dX4_fullRounds_36 : decode cX4_fullRounds 36 = .ok (.iinc 3 1, 3) := by decide +kernel
theorem dX4_fullRounds_39 : decode cX4_fullRounds 39 = .ok (.goto (-35), 3) := by decide +kernel
theorem dX4_fullRounds_42 : decode cX4_fullRounds 42 = .ok (.iload_n 2, 1) := by decide +kernel
theorem dX4_fullRounds_43 : decode cX4_fullRounds 43 = .ok (.ifCond .le 9, 3) := by decide +kernel
theorem dX4_fullRounds_46 : decode cX4_fullRounds 46 = .ok (.iload_n 1, 1) := by decide +kernel
theorem dX4_fullRounds_47 : decode cX4_fullRounds 47 = .ok (.iload_n 2, 1) := by decide +kernel
theorem dX4_fullRounds_48 : decode cX4_fullRounds 48 = .ok (.idiv, 1) := by decide +kernel
theorem dX4_fullRounds_49 : decode cX4_fullRounds 49 = .ok (.goto 4, 3) := by decide +kernel
theorem dX4_fullRounds_52 : decode cX4_fullRounds 52 = .ok (.iconst 0, 1) := by decide +kernel
theorem dX4_fullRounds_53 : decode cX4_fullRounds 53 = .ok (.ireturn, 1) := by decide +kernel
end
section
set_option maxRecDepth 20000 in
theorem ggX5_init_X2_init : GoodIn wsX5_init wsX2_init := goodIn_r _ [16, 17, 2, 3, 18, 19, 20, 21, 22, 23, 24, 25, 26, 27, 28, 29, 30, 31, 32, 33, 34, 35, 36, 37, 38, 39, 40, 41, 42, 43, 44, 45, 53, 54, 55, 56, 57, 58, 59, 60, 61, 62, 63, 64, 65, 66, 67, 68, 80, 81, 82, 83, 84, 85, 86, 87, 88, 89, 90, 91, 92] (by decide +kernel) (by decide +kernel)
set_option maxRecDepth 20000 in
theorem gX5_init_X2_init : GoodIn wsX5_init (wsX2_init) := ggX5_init_X2_init
set_option maxRecDepth 20000 in
theorem ggX5_init_X0_init : GoodIn wsX5_init wsX0_init := goodIn_r _ [48, 49, 2, 3, 50, 51, 28, 52, 74, 75, 76, 77, 78, 79] (by decide +kernel) (by decide +kernel)
set_option maxRecDepth 20000 in
theorem gX5_init_X0_init : GoodIn wsX5_init (wsX0_init) := ggX5_init_X0_init
theorem dX5_init_0 : decode cX5_init 0 = .ok (.aload_n 0, 1) := by decide +kernel
theorem dX5_init_1 : decode cX5_init 1 = .ok (.invokespecial 1, 3) := by decide +kernel
theorem dX5_init_4 : decode cX5_init 4 = .ok (.aload_n 0, 1) := by decide +kernel
theorem dX5_init_5 : decode cX5_init 5 = .ok (.new 7, 3) := by decide +kernel
theorem dX5_init_8 : decode cX5_init 8 = .ok (.dup, 1) := by decide +kernel
theorem dX5_init_9 : decode cX5_init 9 = .ok (.invokespecial 9, 3) := by decide +kernel
theorem dX5_init_12 : decode cX5_init 12 = .ok (.putfield 10, 3) := by decide +kernel
theorem dX5_init_15 : decode cX5_init 15 = .ok (.aload_n 0, 1) := by decide +kernel
theorem dX5_init_16 : decode cX5_init 16 = .ok (.new 7, 3) := by decide +kernel
theorem dX5_init_19 : decode cX5_init 19 = .ok (.dup, 1) := by decide +kernel
theorem dX5_init_20 : decode cX5_init 20 = .ok (.invokespecial 9, 3) := by decide +kernel
theorem dX5_init_23 : decode cX5_init 23 = .ok (.putfield 16, 3) := by decide +kernel
theorem dX5_init_26 : decode cX5_init 26 = .ok (.aload_n 0, 1) := by decide +kernel
theorem dX5_init_27 : decode cX5_init 27 = .ok (.iconst 4, 1) := by decide +kernel
theorem dX5_init_28 : decode cX5_init 28 = .ok (.anewarray 7, 3) := by decide +kernel
theorem dX5_init_31 : decode cX5_init 31 = .ok (.putfield 19, 3) := by decide +kernel
theorem dX5_init_34 : decode cX5_init 34 = .ok (.iconst 0, 1) := by decide +kernel
theorem dX5_init_35 : decode cX5_init 35 = .ok (.istore_n 1, 1) := by decide +kernel
theorem dX5_init_36 : decode cX5_init 36 = .ok (.iload_n 1, 1) := by decide +kernel
theorem dX5_init_37 : decode cX5_init 37 = .ok (.aload_n 0, 1) := by decide +kernel
theorem dX5_init_38 : decode cX5_init 38 = .ok (.getfield 19, 3) := by decide +kernel
theorem dX5_init_41 : decode cX5_init 41 = .ok (.arraylength, 1) := by decide +kernel
theorem dX5_init_42 : decode cX5_init 42 = .ok (.if_icmp .ge 22, 3) := by decide +kernel
theorem dX5_init_45 : decode cX5_init 45 = .ok (.aload_n 0, 1) := by decide +kernel
theorem dX5_init_46 : decode cX5_init 46 = .ok (.getfield 19, 3) := by decide +kernel
theorem dX5_init_49 : decode cX5_init 49 = .ok (.iload_n 1, 1) := by decide +kernel
theorem dX5_init_50 : decode cX5_init 50 = .ok (.new 7, 3) := by decide +kernel
theorem dX5_init_53 : decode cX5_init 53 = .ok (.dup, 1) := by decide +kernel
theorem dX5_init_54 : decode cX5_init 54 = .ok (.invokespecial 9, 3) := by decide +kernel
theorem dX5_init_57 : decode cX5_init 57 = .ok (.aastore, 1) := by decide +kernel
theorem dX5_init_58 : decode cX5_init 58 = .ok (.iinc 1 1, 3) := by decide +kernel
theorem dX5_init_61 : decode cX5_init 61 = .ok (.goto (-25), 3) := by decide +kernel
theorem dX5_init_64 : decode cX5_init 64 = .ok (.aload_n 0, 1) := by decide +kernel
theorem dX5_init_65 : decode cX5_init 65 = .ok (.new 23, 3) := by decide +kernel
theorem dX5_init_68 : decode cX5_init 68 = .ok (.dup, 1) := by decide +kernel
theorem dX5_init_69 : decode cX5_init 69 = .ok (.invokespecial 25, 3) := by decide +kernel
theorem dX5_init_72 : decode cX5_init 72 = .ok (.putfield 26, 3) := by decide +kernel
theorem dX5_init_75 : decode cX5_init 75 = .ok (.return_, 1) := by decide +kernel
set_option maxRecDepth 20000 in
theorem ggX5_addRoof_X5_checkRange : GoodIn wsX5_addRoof wsX5_checkRange := goodIn_ca (goodIn_r _ [10, 11, 12] (by decide +kernel) (by decide +kernel)) (goodIn_sub (fun _ h => List.mem_cons_of_mem _ (List.mem_append_right _ h)) (by decide +kernel))
set_option maxRecDepth 20000 in
theorem gX5_addRoof_X5_checkRange : GoodIn wsX5_addRoof (va_wsS RX5 30 yX5_checkRange wsX5_checkRange) := goodIn_app (goodIn_of _ (by decide +kernel)) ggX5_addRoof_X5_checkRange
set_option maxRecDepth 20000 in
theorem ggX5_addRoof_X5_save : GoodIn wsX5_addRoof wsX5_save := goodIn_r _ [16, 17, 18, 4, 19, 20, 21, 22, 23, 24, 25, 26, 27, 28, 29, 30, 31, 32, 33, 34, 35, 36, 37, 38, 39, 40, 41, 42, 43, 44, 45, 46, 47, 48, 49, 50, 51, 52, 53, 54, 55, 56, 57, 58, 59, 60, 61, 62, 63, 64, 65, 66, 67, 68, 69, 70, 71, 72, 73, 74, 75, 76, 77, 78, 79, 80, 81, 82, 83, 84, 85, 86, 88, 89, 90, 91, 92, 93, 94, 95, 96, 97, 98, 99, 100, 101, 102, 103, 104, 105, 106, 107, 108, 109, 110, 111, 112, 113, 114, 115, 116, 117, 118, 119, 120, 121] (by decide +kernel) (by decide +kernel)
set_option maxRecDepth 20000 in
theorem gX5_addRoof_X5_save : GoodIn wsX5_addRoof (wsV RX5 46 RX5 yX5_save wsX5_save) := goodIn_app (goodIn_of _ (by decide +kernel)) ggX5_addRoof_X5_save
set_option maxRecDepth 20000 in
theorem ggX5_addRoof_X1_set : GoodIn wsX5_addRoof wsX1_set := goodIn_r _ [58, 49, 50, 51, 52, 59, 60, 61, 47, 62, 53, 54, 109, 110, 111, 112, 113, 114] (by decide +kernel) (by decide +kernel)
set_option maxRecDepth 20000 in
theorem gX5_addRoof_X1_set : GoodIn wsX5_addRoof (wsV RX5 53 RX1 yX1_set wsX1_set) := goodIn_app (goodIn_of _ (by decide +kernel)) ggX5_addRoof_X1_set
theorem dX5_addRoof_0 : decode cX5_addRoof 0 = .ok (.iload_n 1, 1) := by decide +kernel
theorem dX5_addRoof_1 : decode cX5_addRoof 1 = .ok (.iconst 1, 1) := by decide +kernel
theorem dX5_addRoof_2 : decode cX5_addRoof 2 = .ok (.sipush 500, 3) := by decide +kernel
theorem dX5_addRoof_5 : decode cX5_addRoof 5 = .ok (.invokestatic 30, 3) := by decide +kernel
theorem dX5_addRoof_8 : decode cX5_addRoof 8 = .ok (.iload_n 2, 1) := by decide +kernel
theorem dX5_addRoof_9 : decode cX5_addRoof 9 = .ok (.iconst 1, 1) := by decide +kernel
theorem dX5_addRoof_10 : decode cX5_addRoof 10 = .ok (.bipush 100, 2) := by decide +kernel
theorem dX5_addRoof_12 : decode cX5_addRoof 12 = .ok (.invokestatic 30, 3) := by decide +kernel
theorem dX5_addRoof_15 : decode cX5_addRoof 15 = .ok (.iload_n 3, 1) := by decide +kernel
theorem dX5_addRoof_16 : decode cX5_addRoof 16 = .ok (.iconst 0, 1) := by decide +kernel
theorem dX5_addRoof_17 : decode cX5_addRoof 17 = .ok (.sipush 999, 3) := by decide +kernel
theorem dX5_addRoof_20 : decode cX5_addRoof 20 = .ok (.invokestatic 30, 3) := by decide +kernel
theorem dX5_addRoof_23 : decode cX5_addRoof 23 = .ok (.iload 4, 2) := by decide +kernel
theorem dX5_addRoof_25 : decode cX5_addRoof 25 = .ok (.iconst 1, 1) := by decide +kernel
theorem dX5_addRoof_26 : decode cX5_addRoof 26 = .ok (.ldc 34, 2) := by decide +kernel
theorem dX5_addRoof_28 : decode cX5_addRoof 28 = .ok (.invokestatic 30, 3) := by decide +kernel
theorem dX5_addRoof_31 : decode cX5_addRoof 31 = .ok (.aload_n 0, 1) := by decide +kernel
theorem dX5_addRoof_32 : decode cX5_addRoof 32 = .ok (.getfield 10, 3) := by decide +kernel
theorem dX5_addRoof_35 : decode cX5_addRoof 35 = .ok (.getfield 35, 3) := by decide +kernel
theorem dX5_addRoof_38 : decode cX5_addRoof 38 = .ok (.bipush 6, 2) := by decide +kernel
theorem dX5_addRoof_40 : decode cX5_addRoof 40 = .ok (.if_icmp .lt 13, 3) := by decide +kernel
theorem dX5_addRoof_43 : decode cX5_addRoof 43 = .ok (.new 39, 3) := by decide +kernel
theorem dX5_addRoof_46 : decode cX5_addRoof 46 = .ok (.dup, 1) := by decide +kernel
theorem dX5_addRoof_47 : decode cX5_addRoof 47 = .ok (.ldc 41, 2) := by decide +kernel
theorem dX5_addRoof_49 : decode cX5_addRoof 49 = .ok (.invokespecial 43, 3) := by decide +kernel
theorem dX5_addRoof_52 : decode cX5_addRoof 52 = .ok (.athrow, 1) := by decide +kernel
theorem dX5_addRoof_53 : decode cX5_addRoof 53 = .ok (.aload_n 0, 1) := by decide +kernel
theorem dX5_addRoof_54 : decode cX5_addRoof 54 = .ok (.invokevirtual 46, 3) := by decide +kernel
theorem dX5_addRoof_57 : decode cX5_addRoof 57 = .ok (.aload_n 0, 1) := by decide +kernel
theorem dX5_addRoof_58 : decode cX5_addRoof 58 = .ok (.getfield 10, 3) := by decide +kernel
theorem dX5_addRoof_61 : decode cX5_addRoof 61 = .ok (.getfield 49, 3) := by decide +kernel
theorem dX5_addRoof_64 : decode cX5_addRoof 64 = .ok (.aload_n 0, 1) := by decide +kernel
theorem dX5_addRoof_65 : decode cX5_addRoof 65 = .ok (.getfield 10, 3) := by decide +kernel
theorem dX5_addRoof_68 : decode cX5_addRoof 68 = .ok (.getfield 35, 3) := by decide +kernel
theorem dX5_addRoof_71 : decode cX5_addRoof 71 = .ok (.aaload, 1) := by decide +kernel
theorem dX5_addRoof_72 : decode cX5_addRoof 72 = .ok (.iload_n 1, 1) := by decide +kernel
theorem dX5_addRoof_73 : decode cX5_addRoof 73 = .ok (.iload_n 2, 1) := by decide +kernel
theorem dX5_addRoof_74 : decode cX5_addRoof 74 = .ok (.iload_n 3, 1) := by decide +kernel
theorem dX5_addRoof_75 : decode cX5_addRoof 75 = .ok (.iload 4, 2) := by decide +kernel
theorem dX5_addRoof_77 : decode cX5_addRoof 77 = .ok (.invokevirtual 53, 3) := by decide +kernel
theorem dX5_addRoof_80 : decode cX5_addRoof 80 = .ok (.aload_n 0, 1) := by decide +kernel
theorem dX5_addRoof_81 : decode cX5_addRoof 81 = .ok (.getfield 10, 3) := by decide +kernel
theorem dX5_addRoof_84 : decode cX5_addRoof 84 = .ok (.dup, 1) := by decide +kernel
theorem dX5_addRoof_85 : decode cX5_addRoof 85 = .ok (.getfield 35, 3) := by decide +kernel
theorem dX5_addRoof_88 : decode cX5_addRoof 88 = .ok (.iconst 1, 1) := by decide +kernel
theorem dX5_addRoof_89 : decode cX5_addRoof 89 = .ok (.iadd, 1) := by decide +kernel
theorem dX5_addRoof_90 : decode cX5_addRoof 90 = .ok (.putfield 35, 3) := by decide +kernel
theorem dX5_addRoof_93 : decode cX5_addRoof 93 = .ok (.aload_n 0, 1) := by decide +kernel
theorem dX5_addRoof_94 : decode cX5_addRoof 94 = .ok (.getfield 10, 3) := by decide +kernel
theorem dX5_addRoof_97 : decode cX5_addRoof 97 = .ok (.getfield 35, 3) := by decide +kernel
theorem dX5_addRoof_100 : decode cX5_addRoof 100 = .ok (.iconst 1, 1) := by decide +kernel
theorem dX5_addRoof_101 : decode cX5_addRoof 101 = .ok (.isub, 1) := by decide +kernel
theorem dX5_addRoof_102 : decode cX5_addRoof 102 = .ok (.ireturn, 1) := by decide +kernel
set_option maxRecDepth 20000 in
theorem ggX5_addUser_X5_checkRange : GoodIn wsX5_addUser wsX5_checkRange := goodIn_ca (goodIn_r _ [10, 11, 12] (by decide +kernel) (by decide +kernel)) (goodIn_sub (fun _ h => List.mem_cons_of_mem _ (List.mem_append_right _ h)) (by decide +kernel))
set_option maxRecDepth 20000 in
theorem gX5_addUser_X5_checkRange : GoodIn wsX5_addUser (va_wsS RX5 30 yX5_checkRange wsX5_checkRange) := goodIn_app (goodIn_of _ (by decide +kernel)) ggX5_addUser_X5_checkRange
set_option maxRecDepth 20000 in
theorem ggX5_addUser_X5_save : GoodIn wsX5_addUser wsX5_save := goodIn_r _ [16, 17, 18, 3, 19, 20, 21, 22, 23, 24, 25, 26, 27, 28, 29, 30, 31, 32, 33, 34, 35, 36, 37, 38, 39, 40, 41, 42, 43, 44, 45, 46, 47, 48, 49, 50, 51, 52, 53, 54, 55, 56, 57, 58, 59, 60, 61, 62, 63, 64, 65, 66, 67, 68, 69, 70, 71, 72, 73, 74, 75, 76, 77, 78, 79, 80, 81, 82, 83, 84, 85, 86, 88, 89, 90, 91, 92, 93, 94, 95, 96, 97, 98, 99, 100, 101, 102, 103, 104, 105, 106, 107, 108, 112, 113, 114, 115, 116, 117, 109, 110, 111, 118, 119, 120, 121] (by decide +kernel) (by decide +kernel)
set_option maxRecDepth 20000 in
theorem gX5_addUser_X5_save : GoodIn wsX5_addUser (wsV RX5 46 RX5 yX5_save wsX5_save) := goodIn_app (goodIn_of _ (by decide +kernel)) ggX5_addUser_X5_save
set_option maxRecDepth 20000 in
theorem ggX5_addUser_X3_set : GoodIn wsX5_addUser wsX3_set := goodIn_r _ [82, 75, 76, 83, 84, 85, 73, 86, 77, 78, 118, 119, 120, 121] (by decide +kernel) (by decide +kernel)
set_option maxRecDepth 20000 in
theorem gX5_addUser_X3_set : GoodIn wsX5_addUser (wsV RX5 74 RX3 yX3_set wsX3_set) := goodIn_app (goodIn_of _ (by decide +kernel)) ggX5_addUser_X3_set
theorem dX5_addUser_0 : decode cX5_addUser 0 = .ok (.iload_n 1, 1) := by decide +kernel
theorem dX5_addUser_1 : decode cX5_addUser 1 = .ok (.iconst 0, 1) := by decide +kernel
theorem dX5_addUser_2 : decode cX5_addUser 2 = .ok (.sipush 9999, 3) := by decide +kernel
theorem dX5_addUser_5 : decode cX5_addUser 5 = .ok (.invokestatic 30, 3) := by decide +kernel
theorem dX5_addUser_8 : decode cX5_addUser 8 = .ok (.iload_n 2, 1) := by decide +kernel
theorem dX5_addUser_9 : decode cX5_addUser 9 = .ok (.iconst 1, 1) := by decide +kernel
theorem dX5_addUser_10 : decode cX5_addUser 10 = .ok (.bipush 9, 2) := by decide +kernel
theorem dX5_addUser_12 : decode cX5_addUser 12 = .ok (.invokestatic 30, 3) := by decide +kernel
theorem dX5_addUser_15 : decode cX5_addUser 15 = .ok (.aload_n 0, 1) := by decide +kernel
theorem dX5_addUser_16 : decode cX5_addUser 16 = .ok (.getfield 10, 3) := by decide +kernel
theorem dX5_addUser_19 : decode cX5_addUser 19 = .ok (.getfield 59, 3) := by decide +kernel
theorem dX5_addUser_22 : decode cX5_addUser 22 = .ok (.getfield 63, 3) := by decide +kernel
theorem dX5_addUser_25 : decode cX5_addUser 25 = .ok (.iconst 5, 1) := by decide +kernel
theorem dX5_addUser_26 : decode cX5_addUser 26 = .ok (.if_icmp .lt 13, 3) := by decide +kernel
theorem dX5_addUser_29 : decode cX5_addUser 29 = .ok (.new 39, 3) := by decide +kernel
theorem dX5_addUser_32 : decode cX5_addUser 32 = .ok (.dup, 1) := by decide +kernel
theorem dX5_addUser_33 : decode cX5_addUser 33 = .ok (.ldc 68, 2) := by decide +kernel
theorem dX5_addUser_35 : decode cX5_addUser 35 = .ok (.invokespecial 43, 3) := by decide +kernel
theorem dX5_addUser_38 : decode cX5_addUser 38 = .ok (.athrow, 1) := by decide +kernel
theorem dX5_addUser_39 : decode cX5_addUser 39 = .ok (.aload_n 0, 1) := by decide +kernel
theorem dX5_addUser_40 : decode cX5_addUser 40 = .ok (.invokevirtual 46, 3) := by decide +kernel
theorem dX5_addUser_43 : decode cX5_addUser 43 = .ok (.aload_n 0, 1) := by decide +kernel
theorem dX5_addUser_44 : decode cX5_addUser 44 = .ok (.getfield 10, 3) := by decide +kernel
theorem dX5_addUser_47 : decode cX5_addUser 47 = .ok (.getfield 59, 3) := by decide +kernel
theorem dX5_addUser_50 : decode cX5_addUser 50 = .ok (.getfield 70, 3) := by decide +kernel
theorem dX5_addUser_53 : decode cX5_addUser 53 = .ok (.aload_n 0, 1) := by decide +kernel
theorem dX5_addUser_54 : decode cX5_addUser 54 = .ok (.getfield 10, 3) := by decide +kernel
theorem dX5_addUser_57 : decode cX5_addUser 57 = .ok (.getfield 59, 3) := by decide +kernel
theorem dX5_addUser_60 : decode cX5_addUser 60 = .ok (.getfield 63, 3) := by decide +kernel
theorem dX5_addUser_63 : decode cX5_addUser 63 = .ok (.aaload, 1) := by decide +kernel
theorem dX5_addUser_64 : decode cX5_addUser 64 = .ok (.iload_n 1, 1) := by decide +kernel
theorem dX5_addUser_65 : decode cX5_addUser 65 = .ok (.iload_n 2, 1) := by decide +kernel
theorem dX5_addUser_66 : decode cX5_addUser 66 = .ok (.invokevirtual 74, 3) := by decide +kernel
theorem dX5_addUser_69 : decode cX5_addUser 69 = .ok (.aload_n 0, 1) := by decide +kernel
theorem dX5_addUser_70 : decode cX5_addUser 70 = .ok (.getfield 10, 3) := by decide +kernel
theorem dX5_addUser_73 : decode cX5_addUser 73 = .ok (.getfield 59, 3) := by decide +kernel
theorem dX5_addUser_76 : decode cX5_addUser 76 = .ok (.dup, 1) := by decide +kernel
theorem dX5_addUser_77 : decode cX5_addUser 77 = .ok (.getfield 63, 3) := by decide +kernel
theorem dX5_addUser_80 : decode cX5_addUser 80 = .ok (.iconst 1, 1) := by decide +kernel
theorem dX5_addUser_81 : decode cX5_addUser 81 = .ok (.iadd, 1) := by decide +kernel
theorem dX5_addUser_82 : decode cX5_addUser 82 = .ok (.putfield 63, 3) := by decide +kernel
theorem dX5_addUser_85 : decode cX5_addUser 85 = .ok (.aload_n 0, 1) := by decide +kernel
theorem dX5_addUser_86 : decode cX5_addUser 86 = .ok (.getfield 10, 3) := by decide +kernel
theorem dX5_addUser_89 : decode cX5_addUser 89 = .ok (.getfield 59, 3) := by decide +kernel
theorem dX5_addUser_92 : decode cX5_addUser 92 = .ok (.getfield 63, 3) := by decide +kernel
theorem dX5_addUser_95 : decode cX5_addUser 95 = .ok (.iconst 1, 1) := by decide +kernel
theorem dX5_addUser_96 : decode cX5_addUser 96 = .ok (.isub, 1) := by decide +kernel
theorem dX5_addUser_97 : decode cX5_addUser 97 = .ok (.ireturn, 1) := by decide +kernel
set_option maxRecDepth 20000 in
theorem ggX5_setReservoir_X5_checkRange : GoodIn wsX5_setReservoir wsX5_checkRange := goodIn_ca (goodIn_r _ [10, 11, 12] (by decide +kernel) (by decide +kernel)) (goodIn_sub (fun _ h => List.mem_cons_of_mem _ (List.mem_append_right _ h)) (by decide +kernel))
set_option maxRecDepth 20000 in
theorem gX5_setReservoir_X5_checkRange : GoodIn wsX5_setReservoir (va_wsS RX5 30 yX5_checkRange wsX5_checkRange) := goodIn_app (goodIn_of _ (by decide +kernel)) ggX5_setReservoir_X5_checkRange
set_option maxRecDepth 20000 in
theorem ggX5_setReservoir_X5_save : GoodIn wsX5_setReservoir wsX5_save := goodIn_r _ [16, 17, 18, 2, 19, 20, 21, 22, 23, 24, 25, 26, 27, 28, 29, 30, 31, 32, 33, 34, 35, 36, 37, 38, 39, 40, 41, 42, 43, 44, 45, 46, 47, 48, 49, 50, 51, 52, 53, 54, 55, 56, 57, 58, 59, 60, 61, 62, 63, 64, 65, 66, 67, 68, 69, 70, 71, 72, 73, 74, 75, 76, 77, 78, 79, 80, 81, 82, 83, 84, 85, 86, 95, 96, 97, 98, 99, 100, 101, 102, 103, 104, 105, 106, 107, 108, 109, 110, 111, 112, 113, 114, 115, 116, 117, 118, 119, 120, 121, 122, 123, 124, 125, 126, 127, 128] (by decide +kernel) (by decide +kernel)
set_option maxRecDepth 20000 in
theorem gX5_setReservoir_X5_save : GoodIn wsX5_setReservoir (wsV RX5 46 RX5 yX5_save wsX5_save) := goodIn_app (goodIn_of _ (by decide +kernel)) ggX5_setReservoir_X5_save
set_option maxRecDepth 20000 in
theorem ggX5_setReservoir_X2_dropAboveCapacity : GoodIn wsX5_setReservoir wsX2_dropAboveCapacity := goodIn_r _ [90, 41, 24, 91, 92, 93, 94, 100, 101, 102, 103, 104, 105, 106, 107, 108, 109, 110, 111, 112, 113, 114, 115] (by decide +kernel) (by decide +kernel)
set_option maxRecDepth 20000 in
theorem gX5_setReservoir_X2_dropAboveCapacity : GoodIn wsX5_setReservoir (wsV RX5 99 RX2 yX2_dropAboveCapacity wsX2_dropAboveCapacity) := goodIn_app (goodIn_of _ (by decide +kernel)) ggX5_setReservoir_X2_dropAboveCapacity
theorem dX5_setReservoir_0 : decode cX5_setReservoir 0 = .ok (.iload_n 1, 1) := by decide +kernel
theorem dX5_setReservoir_1 : decode cX5_setReservoir 1 = .ok (.bipush 100, 2) := by decide +kernel
theorem dX5_setReservoir_3 : decode cX5_setReservoir 3 = .ok (.ldc 85, 2) := by decide +kernel
theorem dX5_setReservoir_5 : decode cX5_setReservoir 5 = .ok (.invokestatic 30, 3) := by decide +kernel
theorem dX5_setReservoir_8 : decode cX5_setReservoir 8 = .ok (.iload_n 2, 1) := by decide +kernel
theorem dX5_setReservoir_9 : decode cX5_setReservoir 9 = .ok (.iconst 0, 1) := by decide +kernel
theorem dX5_setReservoir_10 : decode cX5_setReservoir 10 = .ok (.iload_n 1, 1) := by decide +kernel
theorem dX5_setReservoir_11 : decode cX5_setReservoir 11 = .ok (.invokestatic 30, 3) := by decide +kernel
theorem dX5_setReservoir_14 : decode cX5_setReservoir 14 = .ok (.iload_n 3, 1) := by decide +kernel
theorem dX5_setReservoir_15 : decode cX5_setReservoir 15 = .ok (.iconst 0, 1) := by decide +kernel
theorem dX5_setReservoir_16 : decode cX5_setReservoir 16 = .ok (.iload_n 1, 1) := by decide +kernel
theorem dX5_setReservoir_17 : decode cX5_setReservoir 17 = .ok (.invokestatic 30, 3) := by decide +kernel
theorem dX5_setReservoir_20 : decode cX5_setReservoir 20 = .ok (.aload_n 0, 1) := by decide +kernel
theorem dX5_setReservoir_21 : decode cX5_setReservoir 21 = .ok (.invokevirtual 46, 3) := by decide +kernel
theorem dX5_setReservoir_24 : decode cX5_setReservoir 24 = .ok (.aload_n 0, 1) := by decide +kernel
theorem dX5_setReservoir_25 : decode cX5_setReservoir 25 = .ok (.getfield 10, 3) := by decide +kernel
theorem dX5_setReservoir_28 : decode cX5_setReservoir 28 = .ok (.getfield 86, 3) := by decide +kernel
theorem dX5_setReservoir_31 : decode cX5_setReservoir 31 = .ok (.istore 4, 2) := by decide +kernel
theorem dX5_setReservoir_33 : decode cX5_setReservoir 33 = .ok (.aload_n 0, 1) := by decide +kernel
theorem dX5_setReservoir_34 : decode cX5_setReservoir 34 = .ok (.getfield 10, 3) := by decide +kernel
theorem dX5_setReservoir_37 : decode cX5_setReservoir 37 = .ok (.iload_n 1, 1) := by decide +kernel
theorem dX5_setReservoir_38 : decode cX5_setReservoir 38 = .ok (.putfield 86, 3) := by decide +kernel
theorem dX5_setReservoir_41 : decode cX5_setReservoir 41 = .ok (.aload_n 0, 1) := by decide +kernel
theorem dX5_setReservoir_42 : decode cX5_setReservoir 42 = .ok (.getfield 10, 3) := by decide +kernel
theorem dX5_setReservoir_45 : decode cX5_setReservoir 45 = .ok (.iload_n 2, 1) := by decide +kernel
theorem dX5_setReservoir_46 : decode cX5_setReservoir 46 = .ok (.putfield 89, 3) := by decide +kernel
theorem dX5_setReservoir_49 : decode cX5_setReservoir 49 = .ok (.aload_n 0, 1) := by decide +kernel
theorem dX5_setReservoir_50 : decode cX5_setReservoir 50 = .ok (.getfield 10, 3) := by decide +kernel
theorem dX5_setReservoir_53 : decode cX5_setReservoir 53 = .ok (.iload_n 3, 1) := by decide +kernel
theorem dX5_setReservoir_54 : decode cX5_setReservoir 54 = .ok (.putfield 92, 3) := by decide +kernel
theorem dX5_setReservoir_57 : decode cX5_setReservoir 57 = .ok (.aload_n 0, 1) := by decide +kernel
theorem dX5_setReservoir_58 : decode cX5_setReservoir 58 = .ok (.getfield 10, 3) := by decide +kernel
theorem dX5_setReservoir_61 : decode cX5_setReservoir 61 = .ok (.dup, 1) := by decide +kernel
theorem dX5_setReservoir_62 : decode cX5_setReservoir 62 = .ok (.getfield 95, 3) := by decide +kernel
theorem dX5_setReservoir_65 : decode cX5_setReservoir 65 = .ok (.aload_n 0, 1) := by decide +kernel
theorem dX5_setReservoir_66 : decode cX5_setReservoir 66 = .ok (.getfield 10, 3) := by decide +kernel
theorem dX5_setReservoir_69 : decode cX5_setReservoir 69 = .ok (.invokevirtual 99, 3) := by decide +kernel
theorem dX5_setReservoir_72 : decode cX5_setReservoir 72 = .ok (.i2l, 1) := by decide +kernel
theorem dX5_setReservoir_73 : decode cX5_setReservoir 73 = .ok (.ladd, 1) := by decide +kernel
theorem dX5_setReservoir_74 : decode cX5_setReservoir 74 = .ok (.putfield 95, 3) := by decide +kernel
theorem dX5_setReservoir_77 : decode cX5_setReservoir 77 = .ok (.iload 4, 2) := by decide +kernel
theorem dX5_setReservoir_79 : decode cX5_setReservoir 79 = .ok (.ireturn, 1) := by decide +kernel
set_option maxRecDepth 20000 in
theorem ggX5_setWays_X5_checkRange : GoodIn wsX5_setWays wsX5_checkRange := goodIn_ca (goodIn_r _ [8, 9, 10] (by decide +kernel) (by decide +kernel)) (goodIn_sub (fun _ h => List.mem_cons_of_mem _ (List.mem_append_right _ h)) (by decide +kernel))
set_option maxRecDepth 20000 in
theorem gX5_setWays_X5_checkRange : GoodIn wsX5_setWays (va_wsS RX5 30 yX5_checkRange wsX5_checkRange) := goodIn_app (goodIn_of _ (by decide +kernel)) ggX5_setWays_X5_checkRange
set_option maxRecDepth 20000 in
theorem ggX5_setWays_X5_save : GoodIn wsX5_setWays wsX5_save := goodIn_r _ [14, 15, 16, 1, 17, 18, 19, 20, 21, 22, 23, 24, 25, 26, 27, 28, 29, 30, 31, 32, 33, 34, 35, 36, 37, 38, 39, 40, 41, 42, 43, 44, 45, 46, 47, 48, 49, 50, 51, 52, 53, 54, 55, 56, 57, 58, 59, 60, 61, 62, 63, 64, 65, 66, 67, 68, 69, 70, 71, 72, 73, 74, 75, 76, 77, 78, 79, 80, 81, 82, 83, 84, 85, 86, 87, 88, 89, 90, 91, 92, 93, 94, 95, 96, 97, 98, 99, 100, 101, 102, 103, 104, 105, 106, 107, 108, 109, 110, 111, 112, 113, 114, 115, 116, 117, 118] (by decide +kernel) (by decide +kernel)
set_option maxRecDepth 20000 in
theorem gX5_setWays_X5_save : GoodIn wsX5_setWays (wsV RX5 46 RX5 yX5_save wsX5_save) := goodIn_app (goodIn_of _ (by decide +kernel)) ggX5_setWays_X5_save
theorem dX5_setWays_0 : decode cX5_setWays 0 = .ok (.iload_n 1, 1) := by decide +kernel
theorem dX5_setWays_1 : decode cX5_setWays 1 = .ok (.iconst 0, 1) := by decide +kernel
theorem dX5_setWays_2 : decode cX5_setWays 2 = .ok (.bipush 100, 2) := by decide +kernel
theorem dX5_setWays_4 : decode cX5_setWays 4 = .ok (.invokestatic 30, 3) := by decide +kernel
theorem dX5_setWays_7 : decode cX5_setWays 7 = .ok (.iload_n 2, 1) := by decide +kernel
theorem dX5_setWays_8 : decode cX5_setWays 8 = .ok (.iconst 1, 1) := by decide +kernel
theorem dX5_setWays_9 : decode cX5_setWays 9 = .ok (.bipush 20, 2) := by decide +kernel
theorem dX5_setWays_11 : decode cX5_setWays 11 = .ok (.invokestatic 30, 3) := by decide +kernel
theorem dX5_setWays_14 : decode cX5_setWays 14 = .ok (.iload_n 3, 1) := by decide +kernel
theorem dX5_setWays_15 : decode cX5_setWays 15 = .ok (.iconst 0, 1) := by decide +kernel
theorem dX5_setWays_16 : decode cX5_setWays 16 = .ok (.iconst 3, 1) := by decide +kernel
theorem dX5_setWays_17 : decode cX5_setWays 17 = .ok (.invokestatic 30, 3) := by decide +kernel
theorem dX5_setWays_20 : decode cX5_setWays 20 = .ok (.aload_n 0, 1) := by decide +kernel
theorem dX5_setWays_21 : decode cX5_setWays 21 = .ok (.invokevirtual 46, 3) := by decide +kernel
theorem dX5_setWays_24 : decode cX5_setWays 24 = .ok (.aload_n 0, 1) := by decide +kernel
theorem dX5_setWays_25 : decode cX5_setWays 25 = .ok (.getfield 10, 3) := by decide +kernel
theorem dX5_setWays_28 : decode cX5_setWays 28 = .ok (.getfield 103, 3) := by decide +kernel
theorem dX5_setWays_31 : decode cX5_setWays 31 = .ok (.istore 4, 2) := by decide +kernel
theorem dX5_setWays_33 : decode cX5_setWays 33 = .ok (.aload_n 0, 1) := by decide +kernel
theorem dX5_setWays_34 : decode cX5_setWays 34 = .ok (.getfield 10, 3) := by decide +kernel
theorem dX5_setWays_37 : decode cX5_setWays 37 = .ok (.iload_n 1, 1) := by decide +kernel
theorem dX5_setWays_38 : decode cX5_setWays 38 = .ok (.putfield 106, 3) := by decide +kernel
theorem dX5_setWays_41 : decode cX5_setWays 41 = .ok (.aload_n 0, 1) := by decide +kernel
theorem dX5_setWays_42 : decode cX5_setWays 42 = .ok (.getfield 10, 3) := by decide +kernel
theorem dX5_setWays_45 : decode cX5_setWays 45 = .ok (.iload_n 2, 1) := by decide +kernel
theorem dX5_setWays_46 : decode cX5_setWays 46 = .ok (.putfield 109, 3) := by decide +kernel
theorem dX5_setWays_49 : decode cX5_setWays 49 = .ok (.aload_n 0, 1) := by decide +kernel
theorem dX5_setWays_50 : decode cX5_setWays 50 = .ok (.getfield 10, 3) := by decide +kernel
theorem dX5_setWays_53 : decode cX5_setWays 53 = .ok (.iload_n 3, 1) := by decide +kernel
theorem dX5_setWays_54 : decode cX5_setWays 54 = .ok (.putfield 103, 3) := by decide +kernel
theorem dX5_setWays_57 : decode cX5_setWays 57 = .ok (.iload 4, 2) := by decide +kernel
theorem dX5_setWays_59 : decode cX5_setWays 59 = .ok (.ireturn, 1) := by decide +kernel
set_option maxRecDepth 20000 in
theorem ggX5_setting_X5_checkRange : GoodIn wsX5_setting wsX5_checkRange := goodIn_ca (goodIn_r _ [5, 6, 7] (by decide +kernel) (by decide +kernel)) (goodIn_sub (fun _ h => List.mem_cons_of_mem _ (List.mem_append_right _ h)) (by decide +kernel))
set_option maxRecDepth 20000 in
theorem gX5_setting_X5_checkRange : GoodIn wsX5_setting (va_wsS RX5 30 yX5_checkRange wsX5_checkRange) := goodIn_app (goodIn_of _ (by decide +kernel)) ggX5_setting_X5_checkRange
set_option maxRecDepth 20000 in
theorem ggX5_setting_X2_settingValue : GoodIn wsX5_setting wsX2_settingValue := goodIn_r _ [12, 13, 14, 15, 16, 17, 18, 19, 20, 21, 22, 23, 24, 25, 31, 32, 33, 34, 35, 36, 37, 38, 39, 40, 41, 42, 43, 44, 45, 46, 47, 48, 49] (by decide +kernel) (by decide +kernel)
set_option maxRecDepth 20000 in
theorem gX5_setting_X2_settingValue : GoodIn wsX5_setting (wsV RX5 112 RX2 yX2_settingValue wsX2_settingValue) := goodIn_app (goodIn_of _ (by decide +kernel)) ggX5_setting_X2_settingValue
theorem dX5_setting_0 : decode cX5_setting 0 = .ok (.iload_n 1, 1) := by decide +kernel
theorem dX5_setting_1 : decode cX5_setting 1 = .ok (.iconst 0, 1) := by decide +kernel
theorem dX5_setting_2 : decode cX5_setting 2 = .ok (.bipush 11, 2) := by decide +kernel
theorem dX5_setting_4 : decode cX5_setting 4 = .ok (.invokestatic 30, 3) := by decide +kernel
theorem dX5_setting_7 : decode cX5_setting 7 = .ok (.aload_n 0, 1) := by decide +kernel
theorem dX5_setting_8 : decode cX5_setting 8 = .ok (.getfield 10, 3) := by decide +kernel
theorem dX5_setting_11 : decode cX5_setting 11 = .ok (.iload_n 1, 1) := by decide +kernel
theorem dX5_setting_12 : decode cX5_setting 12 = .ok (.invokevirtual 112, 3) := by decide +kernel
theorem dX5_setting_15 : decode cX5_setting 15 = .ok (.ireturn, 1) := by decide +kernel
set_option maxRecDepth 20000 in
theorem ggX5_roof_X5_checkIndex : GoodIn wsX5_roof wsX5_checkIndex := goodIn_ca (goodIn_r _ [7, 8, 9] (by decide +kernel) (by decide +kernel)) (goodIn_sub (fun _ h => List.mem_cons_of_mem _ (List.mem_append_left _ (List.mem_append_right _ h))) (by decide +kernel))
set_option maxRecDepth 20000 in
theorem gX5_roof_X5_checkIndex : GoodIn wsX5_roof (va_wsS RX5 79 yX5_checkIndex wsX5_checkIndex) := goodIn_app (goodIn_of _ (by decide +kernel)) ggX5_roof_X5_checkIndex
set_option maxRecDepth 20000 in
theorem ggX5_roof_X5_checkRange : GoodIn wsX5_roof wsX5_checkRange := goodIn_ca (goodIn_r _ [12, 13, 14] (by decide +kernel) (by decide +kernel)) (goodIn_sub (fun _ h => List.mem_cons_of_mem _ (List.mem_append_right _ h)) (by decide +kernel))
set_option maxRecDepth 20000 in
theorem gX5_roof_X5_checkRange : GoodIn wsX5_roof (va_wsS RX5 30 yX5_checkRange wsX5_checkRange) := goodIn_app (goodIn_of _ (by decide +kernel)) ggX5_roof_X5_checkRange
set_option maxRecDepth 20000 in
theorem ggX5_roof_X1_value : GoodIn wsX5_roof wsX1_value := goodIn_r _ [19, 20, 21, 22, 23, 24, 46, 47, 48, 49, 50, 51] (by decide +kernel) (by decide +kernel)
set_option maxRecDepth 20000 in
theorem gX5_roof_X1_value : GoodIn wsX5_roof (wsV RX5 116 RX1 yX1_value wsX1_value) := goodIn_app (goodIn_of _ (by decide +kernel)) ggX5_roof_X1_value
theorem dX5_roof_0 : decode cX5_roof 0 = .ok (.iload_n 1, 1) := by decide +kernel
theorem dX5_roof_1 : decode cX5_roof 1 = .ok (.aload_n 0, 1) := by decide +kernel
theorem dX5_roof_2 : decode cX5_roof 2 = .ok (.getfield 10, 3) := by decide +kernel
theorem dX5_roof_5 : decode cX5_roof 5 = .ok (.getfield 35, 3) := by decide +kernel
theorem dX5_roof_8 : decode cX5_roof 8 = .ok (.invokestatic 79, 3) := by decide +kernel
theorem dX5_roof_11 : decode cX5_roof 11 = .ok (.iload_n 2, 1) := by decide +kernel
theorem dX5_roof_12 : decode cX5_roof 12 = .ok (.iconst 0, 1) := by decide +kernel
theorem dX5_roof_13 : decode cX5_roof 13 = .ok (.iconst 4, 1) := by decide +kernel
theorem dX5_roof_14 : decode cX5_roof 14 = .ok (.invokestatic 30, 3) := by decide +kernel
theorem dX5_roof_17 : decode cX5_roof 17 = .ok (.aload_n 0, 1) := by decide +kernel
theorem dX5_roof_18 : decode cX5_roof 18 = .ok (.getfield 10, 3) := by decide +kernel
theorem dX5_roof_21 : decode cX5_roof 21 = .ok (.getfield 49, 3) := by decide +kernel
theorem dX5_roof_24 : decode cX5_roof 24 = .ok (.iload_n 1, 1) := by decide +kernel
theorem dX5_roof_25 : decode cX5_roof 25 = .ok (.aaload, 1) := by decide +kernel
theorem dX5_roof_26 : decode cX5_roof 26 = .ok (.iload_n 2, 1) := by decide +kernel
theorem dX5_roof_27 : decode cX5_roof 27 = .ok (.invokevirtual 116, 3) := by decide +kernel
theorem dX5_roof_30 : decode cX5_roof 30 = .ok (.ireturn, 1) := by decide +kernel
set_option maxRecDepth 20000 in
theorem ggX5_user_X5_checkIndex : GoodIn wsX5_user wsX5_checkIndex := goodIn_ca (goodIn_r _ [8, 9, 10] (by decide +kernel) (by decide +kernel)) (goodIn_sub (fun _ h => List.mem_cons_of_mem _ (List.mem_append_left _ (List.mem_append_right _ h))) (by decide +kernel))
set_option maxRecDepth 20000 in
theorem gX5_user_X5_checkIndex : GoodIn wsX5_user (va_wsS RX5 79 yX5_checkIndex wsX5_checkIndex) := goodIn_app (goodIn_of _ (by decide +kernel)) ggX5_user_X5_checkIndex
set_option maxRecDepth 20000 in
theorem ggX5_user_X5_checkRange : GoodIn wsX5_user wsX5_checkRange := goodIn_ca (goodIn_r _ [13, 14, 15] (by decide +kernel) (by decide +kernel)) (goodIn_sub (fun _ h => List.mem_cons_of_mem _ (List.mem_append_right _ h)) (by decide +kernel))
set_option maxRecDepth 20000 in
theorem gX5_user_X5_checkRange : GoodIn wsX5_user (va_wsS RX5 30 yX5_checkRange wsX5_checkRange) := goodIn_app (goodIn_of _ (by decide +kernel)) ggX5_user_X5_checkRange
set_option maxRecDepth 20000 in
theorem ggX5_user_X3_value : GoodIn wsX5_user wsX3_value := goodIn_r _ [20, 21, 22, 23, 24, 49, 50, 51, 52] (by decide +kernel) (by decide +kernel)
set_option maxRecDepth 20000 in
theorem gX5_user_X3_value : GoodIn wsX5_user (wsV RX5 119 RX3 yX3_value wsX3_value) := goodIn_app (goodIn_of _ (by decide +kernel)) ggX5_user_X3_value
theorem dX5_user_0 : decode cX5_user 0 = .ok (.iload_n 1, 1) := by decide +kernel
theorem dX5_user_1 : decode cX5_user 1 = .ok (.aload_n 0, 1) := by decide +kernel
theorem dX5_user_2 : decode cX5_user 2 = .ok (.getfield 10, 3) := by decide +kernel
theorem dX5_user_5 : decode cX5_user 5 = .ok (.getfield 59, 3) := by decide +kernel
theorem dX5_user_8 : decode cX5_user 8 = .ok (.getfield 63, 3) := by decide +kernel
theorem dX5_user_11 : decode cX5_user 11 = .ok (.invokestatic 79, 3) := by decide +kernel
theorem dX5_user_14 : decode cX5_user 14 = .ok (.iload_n 2, 1) := by decide +kernel
theorem dX5_user_15 : decode cX5_user 15 = .ok (.iconst 0, 1) := by decide +kernel
theorem dX5_user_16 : decode cX5_user 16 = .ok (.iconst 3, 1) := by decide +kernel
theorem dX5_user_17 : decode cX5_user 17 = .ok (.invokestatic 30, 3) := by decide +kernel
theorem dX5_user_20 : decode cX5_user 20 = .ok (.aload_n 0, 1) := by decide +kernel
theorem dX5_user_21 : decode cX5_user 21 = .ok (.getfield 10, 3) := by decide +kernel
theorem dX5_user_24 : decode cX5_user 24 = .ok (.getfield 59, 3) := by decide +kernel
theorem dX5_user_27 : decode cX5_user 27 = .ok (.getfield 70, 3) := by decide +kernel
theorem dX5_user_30 : decode cX5_user 30 = .ok (.iload_n 1, 1) := by decide +kernel
theorem dX5_user_31 : decode cX5_user 31 = .ok (.aaload, 1) := by decide +kernel
theorem dX5_user_32 : decode cX5_user 32 = .ok (.iload_n 2, 1) := by decide +kernel
theorem dX5_user_33 : decode cX5_user 33 = .ok (.invokevirtual 119, 3) := by decide +kernel
theorem dX5_user_36 : decode cX5_user 36 = .ok (.ireturn, 1) := by decide +kernel
set_option maxRecDepth 20000 in
theorem ggX5_addRandomRain_X5_checkRange : GoodIn wsX5_addRandomRain wsX5_checkRange := goodIn_ca (goodIn_r _ [9, 10, 11] (by decide +kernel) (by decide +kernel)) (goodIn_sub (fun _ h => List.mem_cons_of_mem _ (List.mem_append_left _ (List.mem_append_right _ h))) (by decide +kernel))
set_option maxRecDepth 20000 in
theorem gX5_addRandomRain_X5_checkRange : GoodIn wsX5_addRandomRain (va_wsS RX5 30 yX5_checkRange wsX5_checkRange) := goodIn_app (goodIn_of _ (by decide +kernel)) ggX5_addRandomRain_X5_checkRange
set_option maxRecDepth 20000 in
theorem ggX5_addRandomRain_X5_checkRoomForDays : GoodIn wsX5_addRandomRain wsX5_checkRoomForDays := goodIn_ca (goodIn_r _ [15, 16, 17, 4, 5, 102, 103, 104, 105, 106, 107, 108, 109, 110, 111, 112, 113, 114, 115, 116, 117, 118, 119, 120, 121, 122] (by decide +kernel) (by decide +kernel)) (goodIn_sub (fun _ h => List.mem_cons_of_mem _ (List.mem_append_right _ h)) (by decide +kernel))
set_option maxRecDepth 20000 in
theorem gX5_addRandomRain_X5_checkRoomForDays : GoodIn wsX5_addRandomRain (wsV RX5 120 RX5 yX5_checkRoomForDays wsX5_checkRoomForDays) := goodIn_app (goodIn_of _ (by decide +kernel)) ggX5_addRandomRain_X5_checkRoomForDays
set_option maxRecDepth 20000 in
theorem ggX5_addRandomRain_X5_save : GoodIn wsX5_addRandomRain wsX5_save := goodIn_r _ [21, 22, 23, 4, 24, 25, 26, 27, 28, 29, 30, 31, 32, 33, 34, 35, 36, 37, 38, 39, 40, 41, 42, 43, 44, 45, 46, 47, 48, 49, 50, 51, 52, 53, 54, 55, 56, 57, 58, 59, 60, 61, 62, 63, 64, 65, 66, 67, 68, 69, 70, 71, 72, 73, 74, 75, 76, 77, 78, 79, 80, 81, 82, 83, 84, 85, 86, 87, 88, 89, 90, 91, 102, 103, 104, 105, 106, 107, 108, 109, 110, 111, 112, 113, 114, 115, 116, 117, 118, 119, 120, 121, 122, 123, 124, 125, 126, 127, 128, 129, 130, 131, 132, 133, 134, 135] (by decide +kernel) (by decide +kernel)
set_option maxRecDepth 20000 in
theorem gX5_addRandomRain_X5_save : GoodIn wsX5_addRandomRain (wsV RX5 46 RX5 yX5_save wsX5_save) := goodIn_app (goodIn_of _ (by decide +kernel)) ggX5_addRandomRain_X5_save
set_option maxRecDepth 20000 in
theorem ggX5_addRandomRain_X5_nextRandom : GoodIn wsX5_addRandomRain wsX5_nextRandom := goodIn_r _ [94, 95, 96, 97] (by decide +kernel) (by decide +kernel)
set_option maxRecDepth 20000 in
theorem gX5_addRandomRain_X5_nextRandom : GoodIn wsX5_addRandomRain (va_wsS RX5 131 yX5_nextRandom wsX5_nextRandom) := goodIn_app (goodIn_of _ (by decide +kernel)) ggX5_addRandomRain_X5_nextRandom
set_option maxRecDepth 20000 in
theorem ggX5_addRandomRain_X2_putRain : GoodIn wsX5_addRandomRain wsX2_putRain := goodIn_r _ [101, 39, 38, 107, 108, 109, 110, 111, 112, 113, 114, 115, 116, 117, 118, 119, 120, 121, 122] (by decide +kernel) (by decide +kernel)
set_option maxRecDepth 20000 in
theorem gX5_addRandomRain_X2_putRain : GoodIn wsX5_addRandomRain (wsV RX5 124 RX2 yX2_putRain wsX2_putRain) := goodIn_app (goodIn_of _ (by decide +kernel)) ggX5_addRandomRain_X2_putRain
theorem dX5_addRandomRain_0 : decode cX5_addRandomRain 0 = .ok (.iload_n 1, 1) := by decide +kernel
theorem dX5_addRandomRain_1 : decode cX5_addRandomRain 1 = .ok (.iconst 0, 1) := by decide +kernel
theorem dX5_addRandomRain_2 : decode cX5_addRandomRain 2 = .ok (.ldc 130, 2) := by decide +kernel
theorem dX5_addRandomRain_4 : decode cX5_addRandomRain 4 = .ok (.invokestatic 30, 3) := by decide +kernel
theorem dX5_addRandomRain_7 : decode cX5_addRandomRain 7 = .ok (.iload_n 2, 1) := by decide +kernel
theorem dX5_addRandomRain_8 : decode cX5_addRandomRain 8 = .ok (.iconst 1, 1) := by decide +kernel
theorem dX5_addRandomRain_9 : decode cX5_addRandomRain 9 = .ok (.bipush 100, 2) := by decide +kernel
theorem dX5_addRandomRain_11 : decode cX5_addRandomRain 11 = .ok (.invokestatic 30, 3) := by decide +kernel
theorem dX5_addRandomRain_14 : decode cX5_addRandomRain 14 = .ok (.iload_n 3, 1) := by decide +kernel
theorem dX5_addRandomRain_15 : decode cX5_addRandomRain 15 = .ok (.iconst 0, 1) := by decide +kernel
theorem dX5_addRandomRain_16 : decode cX5_addRandomRain 16 = .ok (.bipush 100, 2) := by decide +kernel
theorem dX5_addRandomRain_18 : decode cX5_addRandomRain 18 = .ok (.invokestatic 30, 3) := by decide +kernel
theorem dX5_addRandomRain_21 : decode cX5_addRandomRain 21 = .ok (.iload 4, 2) := by decide +kernel
theorem dX5_addRandomRain_23 : decode cX5_addRandomRain 23 = .ok (.iconst 1, 1) := by decide +kernel
theorem dX5_addRandomRain_24 : decode cX5_addRandomRain 24 = .ok (.sipush 200, 3) := by decide +kernel
theorem dX5_addRandomRain_27 : decode cX5_addRandomRain 27 = .ok (.invokestatic 30, 3) := by decide +kernel
theorem dX5_addRandomRain_30 : decode cX5_addRandomRain 30 = .ok (.aload_n 0, 1) := by decide +kernel
theorem dX5_addRandomRain_31 : decode cX5_addRandomRain 31 = .ok (.iload_n 2, 1) := by decide +kernel
theorem dX5_addRandomRain_32 : decode cX5_addRandomRain 32 = .ok (.invokevirtual 120, 3) := by decide +kernel
theorem dX5_addRandomRain_35 : decode cX5_addRandomRain 35 = .ok (.aload_n 0, 1) := by decide +kernel
theorem dX5_addRandomRain_36 : decode cX5_addRandomRain 36 = .ok (.invokevirtual 46, 3) := by decide +kernel
theorem dX5_addRandomRain_39 : decode cX5_addRandomRain 39 = .ok (.iload_n 1, 1) := by decide +kernel
theorem dX5_addRandomRain_40 : decode cX5_addRandomRain 40 = .ok (.i2l, 1) := by decide +kernel
theorem dX5_addRandomRain_41 : decode cX5_addRandomRain 41 = .ok (.lstore 5, 2) := by decide +kernel
theorem dX5_addRandomRain_43 : decode cX5_addRandomRain 43 = .ok (.iconst 0, 1) := by decide +kernel
theorem dX5_addRandomRain_44 : decode cX5_addRandomRain 44 = .ok (.istore 7, 2) := by decide +kernel
theorem dX5_addRandomRain_46 : decode cX5_addRandomRain 46 = .ok (.iload 7, 2) := by decide +kernel
theorem dX5_addRandomRain_48 : decode cX5_addRandomRain 48 = .ok (.iload_n 2, 1) := by decide +kernel
theorem dX5_addRandomRain_49 : decode cX5_addRandomRain 49 = .ok (.if_icmp .ge 66, 3) := by decide +kernel
theorem dX5_addRandomRain_52 : decode cX5_addRandomRain 52 = .ok (.iconst 0, 1) := by decide +kernel
theorem dX5_addRandomRain_53 : decode cX5_addRandomRain 53 = .ok (.istore 8, 2) := by decide +kernel
theorem dX5_addRandomRain_55 : decode cX5_addRandomRain 55 = .ok (.lload 5, 2) := by decide +kernel
theorem dX5_addRandomRain_57 : decode cX5_addRandomRain 57 = .ok (.invokestatic 131, 3) := by decide +kernel
theorem dX5_addRandomRain_60 : decode cX5_addRandomRain 60 = .ok (.lstore 5, 2) := by decide +kernel
theorem dX5_addRandomRain_62 : decode cX5_addRandomRain 62 = .ok (.lload 5, 2) := by decide +kernel
theorem dX5_addRandomRain_64 : decode cX5_addRandomRain 64 = .ok (.ldc2_w 135, 3) := by decide +kernel
theorem dX5_addRandomRain_67 : decode cX5_addRandomRain 67 = .ok (.ldiv, 1) := by decide +kernel
theorem dX5_addRandomRain_68 : decode cX5_addRandomRain 68 = .ok (.ldc2_w 137, 3) := by decide +kernel
theorem dX5_addRandomRain_71 : decode cX5_addRandomRain 71 = .ok (.lrem, 1) := by decide +kernel
theorem dX5_addRandomRain_72 : decode cX5_addRandomRain 72 = .ok (.iload_n 3, 1) := by decide +kernel
theorem dX5_addRandomRain_73 : decode cX5_addRandomRain 73 = .ok (.i2l, 1) := by decide +kernel
theorem dX5_addRandomRain_74 : decode cX5_addRandomRain 74 = .ok (.lcmp, 1) := by decide +kernel
theorem dX5_addRandomRain_75 : decode cX5_addRandomRain 75 = .ok (.ifCond .ge 25, 3) := by decide +kernel
theorem dX5_addRandomRain_78 : decode cX5_addRandomRain 78 = .ok (.lload 5, 2) := by decide +kernel
theorem dX5_addRandomRain_80 : decode cX5_addRandomRain 80 = .ok (.invokestatic 131, 3) := by decide +kernel
theorem dX5_addRandomRain_83 : decode cX5_addRandomRain 83 = .ok (.lstore 5, 2) := by decide +kernel
theorem dX5_addRandomRain_85 : decode cX5_addRandomRain 85 = .ok (.iconst 1, 1) := by decide +kernel
theorem dX5_addRandomRain_86 : decode cX5_addRandomRain 86 = .ok (.lload 5, 2) := by decide +kernel
theorem dX5_addRandomRain_88 : decode cX5_addRandomRain 88 = .ok (.ldc2_w 135, 3) := by decide +kernel
theorem dX5_addRandomRain_91 : decode cX5_addRandomRain 91 = .ok (.ldiv, 1) := by decide +kernel
theorem dX5_addRandomRain_92 : decode cX5_addRandomRain 92 = .ok (.iload 4, 2) := by decide +kernel
theorem dX5_addRandomRain_94 : decode cX5_addRandomRain 94 = .ok (.i2l, 1) := by decide +kernel
theorem dX5_addRandomRain_95 : decode cX5_addRandomRain 95 = .ok (.lrem, 1) := by decide +kernel
theorem dX5_addRandomRain_96 : decode cX5_addRandomRain 96 = .ok (.l2i, 1) := by decide +kernel
theorem dX5_addRandomRain_97 : decode cX5_addRandomRain 97 = .ok (.iadd, 1) := by decide +kernel
theorem dX5_addRandomRain_98 : decode cX5_addRandomRain 98 = .ok (.istore 8, 2) := by decide +kernel
theorem dX5_addRandomRain_100 : decode cX5_addRandomRain 100 = .ok (.aload_n 0, 1) := by decide +kernel
theorem dX5_addRandomRain_101 : decode cX5_addRandomRain 101 = .ok (.getfield 10, 3) := by decide +kernel
theorem dX5_addRandomRain_104 : decode cX5_addRandomRain 104 = .ok (.iload 8, 2) := by decide +kernel
theorem dX5_addRandomRain_106 : decode cX5_addRandomRain 106 = .ok (.invokevirtual 124, 3) := by decide +kernel
theorem dX5_addRandomRain_109 : decode cX5_addRandomRain 109 = .ok (.iinc 7 1, 3) := by decide +kernel
theorem dX5_addRandomRain_112 : decode cX5_addRandomRain 112 = .ok (.goto (-66), 3) := by decide +kernel
theorem dX5_addRandomRain_115 : decode cX5_addRandomRain 115 = .ok (.aload_n 0, 1) := by decide +kernel
theorem dX5_addRandomRain_116 : decode cX5_addRandomRain 116 = .ok (.getfield 10, 3) := by decide +kernel
theorem dX5_addRandomRain_119 : decode cX5_addRandomRain 119 = .ok (.getfield 127, 3) := by decide +kernel
theorem dX5_addRandomRain_122 : decode cX5_addRandomRain 122 = .ok (.ireturn, 1) := by decide +kernel
set_option maxRecDepth 20000 in
theorem ggX5_rain_X5_checkIndex : GoodIn wsX5_rain wsX5_checkIndex := goodIn_ca (goodIn_r _ [7, 8, 9] (by decide +kernel) (by decide +kernel)) (goodIn_sub (fun _ h => List.mem_cons_of_mem _ (List.mem_append_right _ h)) (by decide +kernel))
set_option maxRecDepth 20000 in
theorem gX5_rain_X5_checkIndex : GoodIn wsX5_rain (va_wsS RX5 79 yX5_checkIndex wsX5_checkIndex) := goodIn_app (goodIn_of _ (by decide +kernel)) ggX5_rain_X5_checkIndex
theorem dX5_rain_0 : decode cX5_rain 0 = .ok (.iload_n 1, 1) := by decide +kernel
theorem dX5_rain_1 : decode cX5_rain 1 = .ok (.aload_n 0, 1) := by decide +kernel
theorem dX5_rain_2 : decode cX5_rain 2 = .ok (.getfield 10, 3) := by decide +kernel
theorem dX5_rain_5 : decode cX5_rain 5 = .ok (.getfield 127, 3) := by decide +kernel
theorem dX5_rain_8 : decode cX5_rain 8 = .ok (.invokestatic 79, 3) := by decide +kernel
theorem dX5_rain_11 : decode cX5_rain 11 = .ok (.aload_n 0, 1) := by decide +kernel
theorem dX5_rain_12 : decode cX5_rain 12 = .ok (.getfield 10, 3) := by decide +kernel
theorem dX5_rain_15 : decode cX5_rain 15 = .ok (.getfield 139, 3) := by decide +kernel
theorem dX5_rain_18 : decode cX5_rain 18 = .ok (.iload_n 1, 1) := by decide +kernel
theorem dX5_rain_19 : decode cX5_rain 19 = .ok (.iaload, 1) := by decide +kernel
theorem dX5_rain_20 : decode cX5_rain 20 = .ok (.ireturn, 1) := by decide +kernel
set_option maxRecDepth 20000 in
theorem ggX5_run_X5_checkRange : GoodIn wsX5_run wsX5_checkRange := goodIn_ca (goodIn_r _ [9, 10, 11] (by decide +kernel) (by decide +kernel)) (goodIn_sub (fun _ h => List.mem_cons_of_mem _ (List.mem_append_right _ h)) (by decide +kernel))
set_option maxRecDepth 20000 in
theorem gX5_run_X5_checkRange : GoodIn wsX5_run (va_wsS RX5 30 yX5_checkRange wsX5_checkRange) := goodIn_app (goodIn_of _ (by decide +kernel)) ggX5_run_X5_checkRange
set_option maxRecDepth 20000 in
theorem ggX5_run_X5_save : GoodIn wsX5_run wsX5_save := goodIn_r _ [15, 16, 17, 3, 18, 19, 20, 21, 22, 23, 24, 25, 26, 27, 28, 29, 30, 31, 32, 33, 34, 35, 36, 37, 38, 39, 40, 41, 42, 43, 44, 45, 46, 47, 48, 49, 50, 51, 52, 53, 54, 55, 56, 57, 58, 59, 60, 61, 62, 63, 64, 65, 66, 67, 68, 69, 70, 71, 72, 73, 74, 75, 76, 77, 78, 79, 80, 81, 82, 83, 84, 85, 194, 195, 196, 197, 198, 199, 200, 201, 202, 203, 204, 205, 206, 207, 208, 209, 210, 211, 212, 213, 214, 215, 216, 217, 218, 219, 220, 221, 222, 223, 224, 225, 226, 227] (by decide +kernel) (by decide +kernel)
set_option maxRecDepth 20000 in
theorem gX5_run_X5_save : GoodIn wsX5_run (wsV RX5 46 RX5 yX5_save wsX5_save) := goodIn_app (goodIn_of _ (by decide +kernel)) ggX5_run_X5_save
set_option maxRecDepth 20000 in
theorem ggX5_run_X2_collect : GoodIn wsX5_run wsX2_collect := goodIn_r _ [89, 33, 29, 30, 90, 91, 92, 21, 93, 41, 27, 94, 95, 96, 46, 97, 52, 98, 99, 100, 101, 48, 49, 102, 103, 104, 105, 50, 106, 107, 108, 109, 110, 111, 112, 113, 51, 114, 115, 116, 53, 117, 118, 119, 120, 39, 199, 200, 201, 202, 203, 204, 205, 206, 207, 208, 209, 210, 211, 212, 213, 214, 215, 216, 217, 218, 219, 220] (by decide +kernel) (by decide +kernel)
set_option maxRecDepth 20000 in
theorem gX5_run_X2_collect : GoodIn wsX5_run (wsV RX5 148 RX2 yX2_collect wsX2_collect) := goodIn_app (goodIn_of _ (by decide +kernel)) ggX5_run_X2_collect
set_option maxRecDepth 20000 in
theorem ggX5_run_X2_serve : GoodIn wsX5_run wsX2_serve := goodIn_r _ [124, 40, 26, 31, 24, 125, 115, 108, 116, 28, 25, 126, 127, 128, 21, 129, 39, 130, 131, 132, 133, 23, 117, 118, 119, 120, 134, 135, 136, 65, 137, 67, 68, 138, 139, 140, 141, 142, 143, 144, 145, 146, 147, 148, 149, 150, 151, 152, 153, 154, 155, 156, 72, 157, 158, 107, 109, 76, 159, 160, 161, 162, 74, 163, 164, 165, 166, 167, 168, 169, 170, 171, 172, 173, 174, 175, 176, 177, 178, 179, 180, 181, 182, 183, 184, 75, 185, 186, 187, 188, 189, 199, 200, 201, 202, 203, 204, 205, 206, 207, 208, 209, 210, 211, 212, 213, 214, 221, 222, 223, 224, 225, 226, 227] (by decide +kernel) (by decide +kernel)
set_option maxRecDepth 20000 in
theorem gX5_run_X2_serve : GoodIn wsX5_run (wsV RX5 151 RX2 yX2_serve wsX2_serve) := goodIn_app (goodIn_of _ (by decide +kernel)) ggX5_run_X2_serve
set_option maxRecDepth 20000 in
theorem ggX5_run_X2_isShort : GoodIn wsX5_run wsX2_isShort := goodIn_r _ [193, 126, 127, 128, 21, 129, 39, 199, 200, 201, 202, 203, 204, 205, 206, 207, 208, 209, 210, 211, 212, 213, 214] (by decide +kernel) (by decide +kernel)
set_option maxRecDepth 20000 in
theorem gX5_run_X2_isShort : GoodIn wsX5_run (wsV RX5 154 RX2 yX2_isShort wsX2_isShort) := goodIn_app (goodIn_of _ (by decide +kernel)) ggX5_run_X2_isShort
theorem dX5_run_0 : decode cX5_run 0 = .ok (.iload_n 1, 1) := by decide +kernel
theorem dX5_run_1 : decode cX5_run 1 = .ok (.iconst 0, 1) := by decide +kernel
theorem dX5_run_2 : decode cX5_run 2 = .ok (.bipush 100, 2) := by decide +kernel
theorem dX5_run_4 : decode cX5_run 4 = .ok (.invokestatic 30, 3) := by decide +kernel
theorem dX5_run_7 : decode cX5_run 7 = .ok (.iload_n 1, 1) := by decide +kernel
theorem dX5_run_8 : decode cX5_run 8 = .ok (.aload_n 0, 1) := by decide +kernel
theorem dX5_run_9 : decode cX5_run 9 = .ok (.getfield 10, 3) := by decide +kernel
theorem dX5_run_12 : decode cX5_run 12 = .ok (.getfield 127, 3) := by decide +kernel
theorem dX5_run_15 : decode cX5_run 15 = .ok (.aload_n 0, 1) := by decide +kernel
theorem dX5_run_16 : decode cX5_run 16 = .ok (.getfield 10, 3) := by decide +kernel
theorem dX5_run_19 : decode cX5_run 19 = .ok (.getfield 143, 3) := by decide +kernel
theorem dX5_run_22 : decode cX5_run 22 = .ok (.isub, 1) := by decide +kernel
theorem dX5_run_23 : decode cX5_run 23 = .ok (.if_icmp .le 13, 3) := by decide +kernel
theorem dX5_run_26 : decode cX5_run 26 = .ok (.new 39, 3) := by decide +kernel
theorem dX5_run_29 : decode cX5_run 29 = .ok (.dup, 1) := by decide +kernel
theorem dX5_run_30 : decode cX5_run 30 = .ok (.ldc 146, 2) := by decide +kernel
theorem dX5_run_32 : decode cX5_run 32 = .ok (.invokespecial 43, 3) := by decide +kernel
theorem dX5_run_35 : decode cX5_run 35 = .ok (.athrow, 1) := by decide +kernel
theorem dX5_run_36 : decode cX5_run 36 = .ok (.aload_n 0, 1) := by decide +kernel
theorem dX5_run_37 : decode cX5_run 37 = .ok (.invokevirtual 46, 3) := by decide +kernel
theorem dX5_run_40 : decode cX5_run 40 = .ok (.iconst 0, 1) := by decide +kernel
theorem dX5_run_41 : decode cX5_run 41 = .ok (.istore_n 2, 1) := by decide +kernel
theorem dX5_run_42 : decode cX5_run 42 = .ok (.iconst 0, 1) := by decide +kernel
theorem dX5_run_43 : decode cX5_run 43 = .ok (.istore_n 3, 1) := by decide +kernel
theorem dX5_run_44 : decode cX5_run 44 = .ok (.iload_n 3, 1) := by decide +kernel
theorem dX5_run_45 : decode cX5_run 45 = .ok (.iload_n 1, 1) := by decide +kernel
theorem dX5_run_46 : decode cX5_run 46 = .ok (.if_icmp .ge 64, 3) := by decide +kernel
theorem dX5_run_49 : decode cX5_run 49 = .ok (.aload_n 0, 1) := by decide +kernel
theorem dX5_run_50 : decode cX5_run 50 = .ok (.getfield 10, 3) := by decide +kernel
theorem dX5_run_53 : decode cX5_run 53 = .ok (.getfield 143, 3) := by decide +kernel
theorem dX5_run_56 : decode cX5_run 56 = .ok (.istore 4, 2) := by decide +kernel
theorem dX5_run_58 : decode cX5_run 58 = .ok (.aload_n 0, 1) := by decide +kernel
theorem dX5_run_59 : decode cX5_run 59 = .ok (.getfield 10, 3) := by decide +kernel
theorem dX5_run_62 : decode cX5_run 62 = .ok (.iload 4, 2) := by decide +kernel
theorem dX5_run_64 : decode cX5_run 64 = .ok (.invokevirtual 148, 3) := by decide +kernel
theorem dX5_run_67 : decode cX5_run 67 = .ok (.aload_n 0, 1) := by decide +kernel
theorem dX5_run_68 : decode cX5_run 68 = .ok (.getfield 10, 3) := by decide +kernel
theorem dX5_run_71 : decode cX5_run 71 = .ok (.iload 4, 2) := by decide +kernel
theorem dX5_run_73 : decode cX5_run 73 = .ok (.invokevirtual 151, 3) := by decide +kernel
theorem dX5_run_76 : decode cX5_run 76 = .ok (.aload_n 0, 1) := by decide +kernel
theorem dX5_run_77 : decode cX5_run 77 = .ok (.getfield 10, 3) := by decide +kernel
theorem dX5_run_80 : decode cX5_run 80 = .ok (.dup, 1) := by decide +kernel
theorem dX5_run_81 : decode cX5_run 81 = .ok (.getfield 143, 3) := by decide +kernel
theorem dX5_run_84 : decode cX5_run 84 = .ok (.iconst 1, 1) := by decide +kernel
theorem dX5_run_85 : decode cX5_run 85 = .ok (.iadd, 1) := by decide +kernel
theorem dX5_run_86 : decode cX5_run 86 = .ok (.putfield 143, 3) := by decide +kernel
theorem dX5_run_89 : decode cX5_run 89 = .ok (.aload_n 0, 1) := by decide +kernel
theorem dX5_run_90 : decode cX5_run 90 = .ok (.getfield 10, 3) := by decide +kernel
theorem dX5_run_93 : decode cX5_run 93 = .ok (.iload 4, 2) := by decide +kernel
theorem dX5_run_95 : decode cX5_run 95 = .ok (.invokevirtual 154, 3) := by decide +kernel
theorem dX5_run_98 : decode cX5_run 98 = .ok (.ifCond .eq 6, 3) := by decide +kernel
theorem dX5_run_101 : decode cX5_run 101 = .ok (.iinc 2 1, 3) := by decide +kernel
theorem dX5_run_104 : decode cX5_run 104 = .ok (.iinc 3 1, 3) := by decide +kernel
theorem dX5_run_107 : decode cX5_run 107 = .ok (.goto (-63), 3) := by decide +kernel
theorem dX5_run_110 : decode cX5_run 110 = .ok (.iload_n 2, 1) := by decide +kernel
theorem dX5_run_111 : decode cX5_run 111 = .ok (.ireturn, 1) := by decide +kernel
set_option maxRecDepth 20000 in
theorem ggX5_restart_X5_save : GoodIn wsX5_restart wsX5_save := goodIn_r _ [7, 8, 9, 1, 10, 11, 12, 13, 14, 15, 16, 17, 18, 19, 20, 21, 22, 23, 24, 25, 26, 27, 28, 29, 30, 31, 32, 33, 34, 35, 36, 37, 38, 39, 40, 41, 42, 43, 44, 45, 46, 47, 48, 49, 50, 51, 52, 53, 54, 55, 56, 57, 58, 59, 60, 61, 62, 63, 64, 65, 66, 67, 68, 69, 70, 71, 72, 73, 74, 75, 76, 77, 88, 89, 90, 91, 92, 93, 94, 95, 96, 97, 98, 99, 100, 101, 102, 103, 104, 105, 106, 107, 108, 109, 110, 111, 112, 113, 114, 115, 116, 117, 118, 119, 120, 121] (by decide +kernel) (by decide +kernel)
set_option maxRecDepth 20000 in
theorem gX5_restart_X5_save : GoodIn wsX5_restart (wsV RX5 46 RX5 yX5_save wsX5_save) := goodIn_app (goodIn_of _ (by decide +kernel)) ggX5_restart_X5_save
set_option maxRecDepth 20000 in
theorem ggX5_restart_X2_goBack : GoodIn wsX5_restart wsX2_goBack := goodIn_r _ [81, 30, 32, 33, 34, 21, 22, 23, 82, 51, 52, 38, 53, 44, 45, 83, 84, 85, 57, 86, 59, 60, 87, 75, 76, 64, 77, 68, 69, 93, 94, 95, 96, 97, 98, 99, 100, 101, 102, 103, 104, 105, 106, 107, 108, 109, 110, 111, 112, 113, 114, 115, 116, 117, 118, 119, 120, 121] (by decide +kernel) (by decide +kernel)
set_option maxRecDepth 20000 in
theorem gX5_restart_X2_goBack : GoodIn wsX5_restart (wsV RX5 158 RX2 yX2_goBack wsX2_goBack) := goodIn_app (goodIn_of _ (by decide +kernel)) ggX5_restart_X2_goBack
theorem dX5_restart_0 : decode cX5_restart 0 = .ok (.aload_n 0, 1) := by decide +kernel
theorem dX5_restart_1 : decode cX5_restart 1 = .ok (.invokevirtual 46, 3) := by decide +kernel
theorem dX5_restart_4 : decode cX5_restart 4 = .ok (.aload_n 0, 1) := by decide +kernel
theorem dX5_restart_5 : decode cX5_restart 5 = .ok (.getfield 10, 3) := by decide +kernel
theorem dX5_restart_8 : decode cX5_restart 8 = .ok (.getfield 143, 3) := by decide +kernel
theorem dX5_restart_11 : decode cX5_restart 11 = .ok (.istore_n 1, 1) := by decide +kernel
theorem dX5_restart_12 : decode cX5_restart 12 = .ok (.aload_n 0, 1) := by decide +kernel
theorem dX5_restart_13 : decode cX5_restart 13 = .ok (.getfield 10, 3) := by decide +kernel
theorem dX5_restart_16 : decode cX5_restart 16 = .ok (.invokevirtual 158, 3) := by decide +kernel
theorem dX5_restart_19 : decode cX5_restart 19 = .ok (.iload_n 1, 1) := by decide +kernel
theorem dX5_restart_20 : decode cX5_restart 20 = .ok (.ireturn, 1) := by decide +kernel
set_option maxRecDepth 20000 in
theorem ggX5_day_X5_checkIndex : GoodIn wsX5_day wsX5_checkIndex := goodIn_ca (goodIn_r _ [6, 7, 8] (by decide +kernel) (by decide +kernel)) (goodIn_sub (fun _ h => List.mem_cons_of_mem _ (List.mem_append_left _ (List.mem_append_right _ h))) (by decide +kernel))
set_option maxRecDepth 20000 in
theorem gX5_day_X5_checkIndex : GoodIn wsX5_day (va_wsS RX5 79 yX5_checkIndex wsX5_checkIndex) := goodIn_app (goodIn_of _ (by decide +kernel)) ggX5_day_X5_checkIndex
set_option maxRecDepth 20000 in
theorem ggX5_day_X5_checkRange : GoodIn wsX5_day wsX5_checkRange := goodIn_ca (goodIn_r _ [11, 12, 13] (by decide +kernel) (by decide +kernel)) (goodIn_sub (fun _ h => List.mem_cons_of_mem _ (List.mem_append_right _ h)) (by decide +kernel))
set_option maxRecDepth 20000 in
theorem gX5_day_X5_checkRange : GoodIn wsX5_day (va_wsS RX5 30 yX5_checkRange wsX5_checkRange) := goodIn_app (goodIn_of _ (by decide +kernel)) ggX5_day_X5_checkRange
set_option maxRecDepth 20000 in
theorem ggX5_day_X2_account : GoodIn wsX5_day wsX2_account := goodIn_r _ [18, 19, 25, 26, 27, 28, 29, 30, 31, 32, 33, 34, 35, 36, 37, 38, 39, 40] (by decide +kernel) (by decide +kernel)
set_option maxRecDepth 20000 in
theorem gX5_day_X2_account : GoodIn wsX5_day (wsV RX5 161 RX2 yX2_account wsX2_account) := goodIn_app (goodIn_of _ (by decide +kernel)) ggX5_day_X2_account
theorem dX5_day_0 : decode cX5_day 0 = .ok (.iload_n 1, 1) := by decide +kernel
theorem dX5_day_1 : decode cX5_day 1 = .ok (.aload_n 0, 1) := by decide +kernel
theorem dX5_day_2 : decode cX5_day 2 = .ok (.getfield 10, 3) := by decide +kernel
theorem dX5_day_5 : decode cX5_day 5 = .ok (.getfield 143, 3) := by decide +kernel
theorem dX5_day_8 : decode cX5_day 8 = .ok (.invokestatic 79, 3) := by decide +kernel
theorem dX5_day_11 : decode cX5_day 11 = .ok (.iload_n 2, 1) := by decide +kernel
theorem dX5_day_12 : decode cX5_day 12 = .ok (.iconst 0, 1) := by decide +kernel
theorem dX5_day_13 : decode cX5_day 13 = .ok (.bipush 9, 2) := by decide +kernel
theorem dX5_day_15 : decode cX5_day 15 = .ok (.invokestatic 30, 3) := by decide +kernel
theorem dX5_day_18 : decode cX5_day 18 = .ok (.aload_n 0, 1) := by decide +kernel
theorem dX5_day_19 : decode cX5_day 19 = .ok (.getfield 10, 3) := by decide +kernel
theorem dX5_day_22 : decode cX5_day 22 = .ok (.iload_n 1, 1) := by decide +kernel
theorem dX5_day_23 : decode cX5_day 23 = .ok (.iload_n 2, 1) := by decide +kernel
theorem dX5_day_24 : decode cX5_day 24 = .ok (.invokevirtual 161, 3) := by decide +kernel
theorem dX5_day_27 : decode cX5_day 27 = .ok (.ireturn, 1) := by decide +kernel
set_option maxRecDepth 20000 in
theorem ggX5_sum_X5_checkRange : GoodIn wsX5_sum wsX5_checkRange := goodIn_ca (goodIn_r _ [7, 8, 9] (by decide +kernel) (by decide +kernel)) (goodIn_sub (fun _ h => List.mem_cons_of_mem _ (List.mem_append_right _ h)) (by decide +kernel))
set_option maxRecDepth 20000 in
theorem gX5_sum_X5_checkRange : GoodIn wsX5_sum (va_wsS RX5 30 yX5_checkRange wsX5_checkRange) := goodIn_app (goodIn_of _ (by decide +kernel)) ggX5_sum_X5_checkRange
set_option maxRecDepth 20000 in
theorem ggX5_sum_X2_account : GoodIn wsX5_sum wsX2_account := goodIn_r _ [14, 15, 21, 22, 23, 24, 25, 26, 27, 28, 29, 30, 31, 32, 33, 34, 35, 36] (by decide +kernel) (by decide +kernel)
set_option maxRecDepth 20000 in
theorem gX5_sum_X2_account : GoodIn wsX5_sum (wsV RX5 161 RX2 yX2_account wsX2_account) := goodIn_app (goodIn_of _ (by decide +kernel)) ggX5_sum_X2_account
theorem dX5_sum_0 : decode cX5_sum 0 = .ok (.iload_n 1, 1) := by decide +kernel
theorem dX5_sum_1 : decode cX5_sum 1 = .ok (.iconst 1, 1) := by decide +kernel
theorem dX5_sum_2 : decode cX5_sum 2 = .ok (.bipush 9, 2) := by decide +kernel
theorem dX5_sum_4 : decode cX5_sum 4 = .ok (.invokestatic 30, 3) := by decide +kernel
theorem dX5_sum_7 : decode cX5_sum 7 = .ok (.iload_n 1, 1) := by decide +kernel
theorem dX5_sum_8 : decode cX5_sum 8 = .ok (.iconst 4, 1) := by decide +kernel
theorem dX5_sum_9 : decode cX5_sum 9 = .ok (.if_icmp .ne 13, 3) := by decide +kernel
theorem dX5_sum_12 : decode cX5_sum 12 = .ok (.aload_n 0, 1) := by decide +kernel
theorem dX5_sum_13 : decode cX5_sum 13 = .ok (.getfield 10, 3) := by decide +kernel
theorem dX5_sum_16 : decode cX5_sum 16 = .ok (.getfield 95, 3) := by decide +kernel
theorem dX5_sum_19 : decode cX5_sum 19 = .ok (.goto 4, 3) := by decide +kernel
theorem dX5_sum_22 : decode cX5_sum 22 = .ok (.lconst 0, 1) := by decide +kernel
theorem dX5_sum_23 : decode cX5_sum 23 = .ok (.lstore_n 2, 1) := by decide +kernel
theorem dX5_sum_24 : decode cX5_sum 24 = .ok (.iconst 0, 1) := by decide +kernel
theorem dX5_sum_25 : decode cX5_sum 25 = .ok (.istore 4, 2) := by decide +kernel
theorem dX5_sum_27 : decode cX5_sum 27 = .ok (.iload 4, 2) := by decide +kernel
theorem dX5_sum_29 : decode cX5_sum 29 = .ok (.aload_n 0, 1) := by decide +kernel
theorem dX5_sum_30 : decode cX5_sum 30 = .ok (.getfield 10, 3) := by decide +kernel
theorem dX5_sum_33 : decode cX5_sum 33 = .ok (.getfield 143, 3) := by decide +kernel
theorem dX5_sum_36 : decode cX5_sum 36 = .ok (.if_icmp .ge 23, 3) := by decide +kernel
theorem dX5_sum_39 : decode cX5_sum 39 = .ok (.lload_n 2, 1) := by decide +kernel
theorem dX5_sum_40 : decode cX5_sum 40 = .ok (.aload_n 0, 1) := by decide +kernel
theorem dX5_sum_41 : decode cX5_sum 41 = .ok (.getfield 10, 3) := by decide +kernel
theorem dX5_sum_44 : decode cX5_sum 44 = .ok (.iload 4, 2) := by decide +kernel
theorem dX5_sum_46 : decode cX5_sum 46 = .ok (.iload_n 1, 1) := by decide +kernel
theorem dX5_sum_47 : decode cX5_sum 47 = .ok (.invokevirtual 161, 3) := by decide +kernel
theorem dX5_sum_50 : decode cX5_sum 50 = .ok (.i2l, 1) := by decide +kernel
theorem dX5_sum_51 : decode cX5_sum 51 = .ok (.ladd, 1) := by decide +kernel
theorem dX5_sum_52 : decode cX5_sum 52 = .ok (.lstore_n 2, 1) := by decide +kernel
theorem dX5_sum_53 : decode cX5_sum 53 = .ok (.iinc 4 1, 3) := by decide +kernel
theorem dX5_sum_56 : decode cX5_sum 56 = .ok (.goto (-29), 3) := by decide +kernel
theorem dX5_sum_59 : decode cX5_sum 59 = .ok (.lload_n 2, 1) := by decide +kernel
theorem dX5_sum_60 : decode cX5_sum 60 = .ok (.lreturn, 1) := by decide +kernel
set_option maxRecDepth 20000 in
theorem ggX5_reliability_X2_isShort : GoodIn wsX5_reliability wsX2_isShort := goodIn_r _ [7, 8, 9, 10, 6, 11, 12, 18, 19, 20, 21, 22, 23, 24, 25, 26, 27, 28, 29, 30, 31, 32, 33] (by decide +kernel) (by decide +kernel)
set_option maxRecDepth 20000 in
theorem gX5_reliability_X2_isShort : GoodIn wsX5_reliability (wsV RX5 154 RX2 yX2_isShort wsX2_isShort) := goodIn_app (goodIn_of _ (by decide +kernel)) ggX5_reliability_X2_isShort
theorem dX5_reliability_0 : decode cX5_reliability 0 = .ok (.aload_n 0, 1) := by decide +kernel
theorem dX5_reliability_1 : decode cX5_reliability 1 = .ok (.getfield 10, 3) := by decide +kernel
theorem dX5_reliability_4 : decode cX5_reliability 4 = .ok (.getfield 143, 3) := by decide +kernel
theorem dX5_reliability_7 : decode cX5_reliability 7 = .ok (.istore_n 1, 1) := by decide +kernel
theorem dX5_reliability_8 : decode cX5_reliability 8 = .ok (.iload_n 1, 1) := by decide +kernel
theorem dX5_reliability_9 : decode cX5_reliability 9 = .ok (.ifCond .ne 5, 3) := by decide +kernel
theorem dX5_reliability_12 : decode cX5_reliability 12 = .ok (.dconst 1, 1) := by decide +kernel
theorem dX5_reliability_13 : decode cX5_reliability 13 = .ok (.dreturn, 1) := by decide +kernel
theorem dX5_reliability_14 : decode cX5_reliability 14 = .ok (.iconst 0, 1) := by decide +kernel
theorem dX5_reliability_15 : decode cX5_reliability 15 = .ok (.istore_n 2, 1) := by decide +kernel
theorem dX5_reliability_16 : decode cX5_reliability 16 = .ok (.iconst 0, 1) := by decide +kernel
theorem dX5_reliability_17 : decode cX5_reliability 17 = .ok (.istore_n 3, 1) := by decide +kernel
theorem dX5_reliability_18 : decode cX5_reliability 18 = .ok (.iload_n 3, 1) := by decide +kernel
theorem dX5_reliability_19 : decode cX5_reliability 19 = .ok (.iload_n 1, 1) := by decide +kernel
theorem dX5_reliability_20 : decode cX5_reliability 20 = .ok (.if_icmp .ge 23, 3) := by decide +kernel
theorem dX5_reliability_23 : decode cX5_reliability 23 = .ok (.aload_n 0, 1) := by decide +kernel
theorem dX5_reliability_24 : decode cX5_reliability 24 = .ok (.getfield 10, 3) := by decide +kernel
theorem dX5_reliability_27 : decode cX5_reliability 27 = .ok (.iload_n 3, 1) := by decide +kernel
theorem dX5_reliability_28 : decode cX5_reliability 28 = .ok (.invokevirtual 154, 3) := by decide +kernel
theorem dX5_reliability_31 : decode cX5_reliability 31 = .ok (.ifCond .ne 6, 3) := by decide +kernel
theorem dX5_reliability_34 : decode cX5_reliability 34 = .ok (.iinc 2 1, 3) := by decide +kernel
theorem dX5_reliability_37 : decode cX5_reliability 37 = .ok (.iinc 3 1, 3) := by decide +kernel
theorem dX5_reliability_40 : decode cX5_reliability 40 = .ok (.goto (-22), 3) := by decide +kernel
theorem dX5_reliability_43 : decode cX5_reliability 43 = .ok (.iload_n 2, 1) := by decide +kernel
theorem dX5_reliability_44 : decode cX5_reliability 44 = .ok (.i2d, 1) := by decide +kernel
theorem dX5_reliability_45 : decode cX5_reliability 45 = .ok (.iload_n 1, 1) := by decide +kernel
theorem dX5_reliability_46 : decode cX5_reliability 46 = .ok (.i2d, 1) := by decide +kernel
theorem dX5_reliability_47 : decode cX5_reliability 47 = .ok (.ddiv, 1) := by decide +kernel
theorem dX5_reliability_48 : decode cX5_reliability 48 = .ok (.dreturn, 1) := by decide +kernel
set_option maxRecDepth 20000 in
theorem ggX5_longestShortage_X2_isShort : GoodIn wsX5_longestShortage wsX2_isShort := goodIn_r _ [11, 12, 13, 14, 10, 15, 16, 22, 23, 24, 25, 26, 27, 28, 29, 30, 31, 32, 33, 34, 35, 36, 37] (by decide +kernel) (by decide +kernel)
set_option maxRecDepth 20000 in
theorem gX5_longestShortage_X2_isShort : GoodIn wsX5_longestShortage (wsV RX5 154 RX2 yX2_isShort wsX2_isShort) := goodIn_app (goodIn_of _ (by decide +kernel)) ggX5_longestShortage_X2_isShort
theorem dX5_longestShortage_0 : decode cX5_longestShortage 0 = .ok (.iconst 0, 1) := by decide +kernel
theorem dX5_longestShortage_1 : decode cX5_longestShortage 1 = .ok (.istore_n 1, 1) := by decide +kernel
theorem dX5_longestShortage_2 : decode cX5_longestShortage 2 = .ok (.iconst 0, 1) := by decide +kernel
theorem dX5_longestShortage_3 : decode cX5_longestShortage 3 = .ok (.istore_n 2, 1) := by decide +kernel
theorem dX5_longestShortage_4 : decode cX5_longestShortage 4 = .ok (.iconst 0, 1) := by decide +kernel
theorem dX5_longestShortage_5 : decode cX5_longestShortage 5 = .ok (.istore_n 3, 1) := by decide +kernel
theorem dX5_longestShortage_6 : decode cX5_longestShortage 6 = .ok (.iload_n 3, 1) := by decide +kernel
theorem dX5_longestShortage_7 : decode cX5_longestShortage 7 = .ok (.aload_n 0, 1) := by decide +kernel
theorem dX5_longestShortage_8 : decode cX5_longestShortage 8 = .ok (.getfield 10, 3) := by decide +kernel
theorem dX5_longestShortage_11 : decode cX5_longestShortage 11 = .ok (.getfield 143, 3) := by decide +kernel
theorem dX5_longestShortage_14 : decode cX5_longestShortage 14 = .ok (.if_icmp .ge 34, 3) := by decide +kernel
theorem dX5_longestShortage_17 : decode cX5_longestShortage 17 = .ok (.aload_n 0, 1) := by decide +kernel
theorem dX5_longestShortage_18 : decode cX5_longestShortage 18 = .ok (.getfield 10, 3) := by decide +kernel
theorem dX5_longestShortage_21 : decode cX5_longestShortage 21 = .ok (.iload_n 3, 1) := by decide +kernel
theorem dX5_longestShortage_22 : decode cX5_longestShortage 22 = .ok (.invokevirtual 154, 3) := by decide +kernel
theorem dX5_longestShortage_25 : decode cX5_longestShortage 25 = .ok (.ifCond .eq 9, 3) := by decide +kernel
theorem dX5_longestShortage_28 : decode cX5_longestShortage 28 = .ok (.iload_n 2, 1) := by decide +kernel
theorem dX5_longestShortage_29 : decode cX5_longestShortage 29 = .ok (.iconst 1, 1) := by decide +kernel
theorem dX5_longestShortage_30 : decode cX5_longestShortage 30 = .ok (.iadd, 1) := by decide +kernel
theorem dX5_longestShortage_31 : decode cX5_longestShortage 31 = .ok (.goto 4, 3) := by decide +kernel
theorem dX5_longestShortage_34 : decode cX5_longestShortage 34 = .ok (.iconst 0, 1) := by decide +kernel
theorem dX5_longestShortage_35 : decode cX5_longestShortage 35 = .ok (.istore_n 2, 1) := by decide +kernel
theorem dX5_longestShortage_36 : decode cX5_longestShortage 36 = .ok (.iload_n 1, 1) := by decide +kernel
theorem dX5_longestShortage_37 : decode cX5_longestShortage 37 = .ok (.iload_n 2, 1) := by decide +kernel
theorem dX5_longestShortage_38 : decode cX5_longestShortage 38 = .ok (.invokestatic 165, 3) := by decide +kernel
theorem dX5_longestShortage_41 : decode cX5_longestShortage 41 = .ok (.istore_n 1, 1) := by decide +kernel
theorem dX5_longestShortage_42 : decode cX5_longestShortage 42 = .ok (.iinc 3 1, 3) := by decide +kernel
theorem dX5_longestShortage_45 : decode cX5_longestShortage 45 = .ok (.goto (-39), 3) := by decide +kernel
theorem dX5_longestShortage_48 : decode cX5_longestShortage 48 = .ok (.iload_n 1, 1) := by decide +kernel
theorem dX5_longestShortage_49 : decode cX5_longestShortage 49 = .ok (.ireturn, 1) := by decide +kernel
set_option maxRecDepth 20000 in
theorem ggX5_shortDaysWith_X5_checkRange : GoodIn wsX5_shortDaysWith wsX5_checkRange := goodIn_ca (goodIn_r _ [6, 7, 8] (by decide +kernel) (by decide +kernel)) (goodIn_sub (fun _ h => List.mem_cons_of_mem _ (List.mem_append_right _ h)) (by decide +kernel))
set_option maxRecDepth 20000 in
theorem gX5_shortDaysWith_X5_checkRange : GoodIn wsX5_shortDaysWith (va_wsS RX5 30 yX5_checkRange wsX5_checkRange) := goodIn_app (goodIn_of _ (by decide +kernel)) ggX5_shortDaysWith_X5_checkRange
set_option maxRecDepth 20000 in
theorem ggX5_shortDaysWith_X5_prepareTrial : GoodIn wsX5_shortDaysWith wsX5_prepareTrial := goodIn_r _ [12, 2, 13, 14, 15, 16, 17, 18, 19, 20, 21, 22, 23, 24, 25, 26, 27, 28, 29, 30, 31, 32, 33, 34, 35, 36, 37, 38, 39, 40, 41, 42, 43, 44, 45, 46, 47, 48, 49, 50, 51, 52, 53, 54, 55, 56, 57, 58, 59, 60, 61, 62, 63, 64, 65, 66, 67, 68, 69, 70, 71, 72, 73, 74, 75, 76, 77, 78, 79, 80, 81, 82, 83, 84, 85, 86, 87, 88, 89, 90, 91, 92, 93, 94, 95, 96, 97, 98, 99, 100, 101, 102, 103, 104, 105, 106, 107, 108, 109, 110, 111, 112, 113, 114, 115, 116, 117, 118, 119, 120, 121, 122, 123, 124, 125, 126, 127, 213, 214, 215, 216, 217, 218, 219, 220, 221, 222, 223, 224, 225, 226, 227, 228, 229, 230, 231, 232, 233, 234, 235, 236, 237, 238, 239, 240, 241, 242, 243, 244, 245, 246] (by decide +kernel) (by decide +kernel)
set_option maxRecDepth 20000 in
theorem gX5_shortDaysWith_X5_prepareTrial : GoodIn wsX5_shortDaysWith (wsV RX5 170 RX5 yX5_prepareTrial wsX5_prepareTrial) := goodIn_app (goodIn_of _ (by decide +kernel)) ggX5_shortDaysWith_X5_prepareTrial
set_option maxRecDepth 20000 in
theorem ggX5_shortDaysWith_X5_setTrialCapacity : GoodIn wsX5_shortDaysWith wsX5_setTrialCapacity := goodIn_r _ [131, 2, 132, 13, 133, 134, 114, 115, 116, 135, 213, 214, 215, 216, 217, 218, 219, 220, 221, 222, 223, 224, 225, 226, 227, 228, 229, 230, 231, 232, 233] (by decide +kernel) (by decide +kernel)
set_option maxRecDepth 20000 in
theorem gX5_shortDaysWith_X5_setTrialCapacity : GoodIn wsX5_shortDaysWith (wsV RX5 173 RX5 yX5_setTrialCapacity wsX5_setTrialCapacity) := goodIn_app (goodIn_of _ (by decide +kernel)) ggX5_shortDaysWith_X5_setTrialCapacity
set_option maxRecDepth 20000 in
theorem ggX5_shortDaysWith_X2_serveAll : GoodIn wsX5_shortDaysWith wsX2_serveAll := goodIn_r _ [139, 37, 28, 29, 88, 89, 90, 62, 91, 64, 65, 92, 80, 81, 69, 82, 73, 74, 140, 141, 142, 18, 143, 23, 21, 144, 122, 115, 123, 25, 22, 145, 146, 147, 148, 36, 149, 150, 151, 152, 20, 124, 125, 126, 127, 153, 154, 155, 156, 157, 158, 159, 160, 161, 162, 163, 164, 165, 166, 167, 168, 169, 170, 171, 172, 173, 174, 175, 176, 177, 114, 116, 178, 179, 180, 181, 71, 182, 183, 184, 185, 186, 187, 188, 189, 190, 191, 192, 193, 194, 195, 196, 197, 198, 199, 200, 201, 202, 203, 72, 204, 205, 206, 207, 208, 209, 210, 211, 212, 218, 219, 220, 221, 222, 223, 224, 225, 226, 227, 228, 229, 230, 231, 232, 233, 240, 241, 242, 243, 244, 245, 246] (by decide +kernel) (by decide +kernel)
set_option maxRecDepth 20000 in
theorem gX5_shortDaysWith_X2_serveAll : GoodIn wsX5_shortDaysWith (wsV RX5 176 RX2 yX2_serveAll wsX2_serveAll) := goodIn_app (goodIn_of _ (by decide +kernel)) ggX5_shortDaysWith_X2_serveAll
theorem dX5_shortDaysWith_0 : decode cX5_shortDaysWith 0 = .ok (.iload_n 1, 1) := by decide +kernel
theorem dX5_shortDaysWith_1 : decode cX5_shortDaysWith 1 = .ok (.bipush 100, 2) := by decide +kernel
theorem dX5_shortDaysWith_3 : decode cX5_shortDaysWith 3 = .ok (.ldc 85, 2) := by decide +kernel
theorem dX5_shortDaysWith_5 : decode cX5_shortDaysWith 5 = .ok (.invokestatic 30, 3) := by decide +kernel
theorem dX5_shortDaysWith_8 : decode cX5_shortDaysWith 8 = .ok (.aload_n 0, 1) := by decide +kernel
theorem dX5_shortDaysWith_9 : decode cX5_shortDaysWith 9 = .ok (.invokevirtual 170, 3) := by decide +kernel
theorem dX5_shortDaysWith_12 : decode cX5_shortDaysWith 12 = .ok (.aload_n 0, 1) := by decide +kernel
theorem dX5_shortDaysWith_13 : decode cX5_shortDaysWith 13 = .ok (.iload_n 1, 1) := by decide +kernel
theorem dX5_shortDaysWith_14 : decode cX5_shortDaysWith 14 = .ok (.invokevirtual 173, 3) := by decide +kernel
theorem dX5_shortDaysWith_17 : decode cX5_shortDaysWith 17 = .ok (.aload_n 0, 1) := by decide +kernel
theorem dX5_shortDaysWith_18 : decode cX5_shortDaysWith 18 = .ok (.getfield 16, 3) := by decide +kernel
theorem dX5_shortDaysWith_21 : decode cX5_shortDaysWith 21 = .ok (.bipush 100, 2) := by decide +kernel
theorem dX5_shortDaysWith_23 : decode cX5_shortDaysWith 23 = .ok (.invokevirtual 176, 3) := by decide +kernel
theorem dX5_shortDaysWith_26 : decode cX5_shortDaysWith 26 = .ok (.ireturn, 1) := by decide +kernel
set_option maxRecDepth 20000 in
theorem ggX5_capacityFor_X5_checkRange : GoodIn wsX5_capacityFor wsX5_checkRange := goodIn_ca (goodIn_r _ [6, 7, 8] (by decide +kernel) (by decide +kernel)) (goodIn_sub (fun _ h => List.mem_cons_of_mem _ (List.mem_append_right _ h)) (by decide +kernel))
set_option maxRecDepth 20000 in
theorem gX5_capacityFor_X5_checkRange : GoodIn wsX5_capacityFor (va_wsS RX5 30 yX5_checkRange wsX5_checkRange) := goodIn_app (goodIn_of _ (by decide +kernel)) ggX5_capacityFor_X5_checkRange
set_option maxRecDepth 20000 in
theorem ggX5_capacityFor_X5_prepareTrial : GoodIn wsX5_capacityFor wsX5_prepareTrial := goodIn_r _ [12, 2, 13, 14, 15, 16, 17, 18, 19, 20, 21, 22, 23, 24, 25, 26, 27, 28, 29, 30, 31, 32, 33, 34, 35, 36, 37, 38, 39, 40, 41, 42, 43, 44, 45, 46, 47, 48, 49, 50, 51, 52, 53, 54, 55, 56, 57, 58, 59, 60, 61, 62, 63, 64, 65, 66, 67, 68, 69, 70, 71, 72, 73, 74, 75, 76, 77, 78, 79, 80, 81, 82, 83, 84, 85, 86, 87, 88, 89, 90, 91, 92, 93, 94, 95, 96, 97, 98, 99, 100, 101, 102, 103, 104, 105, 106, 107, 108, 109, 110, 111, 112, 113, 114, 115, 116, 117, 118, 119, 120, 121, 122, 123, 124, 125, 126, 127, 213, 214, 215, 216, 217, 218, 219, 220, 221, 222, 223, 224, 225, 226, 227, 228, 229, 230, 231, 232, 233, 234, 235, 236, 237, 238, 239, 240, 241, 242, 243, 244, 245, 246] (by decide +kernel) (by decide +kernel)
set_option maxRecDepth 20000 in
theorem gX5_capacityFor_X5_prepareTrial : GoodIn wsX5_capacityFor (wsV RX5 170 RX5 yX5_prepareTrial wsX5_prepareTrial) := goodIn_app (goodIn_of _ (by decide +kernel)) ggX5_capacityFor_X5_prepareTrial
set_option maxRecDepth 20000 in
theorem ggX5_capacityFor_X5_setTrialCapacity : GoodIn wsX5_capacityFor wsX5_setTrialCapacity := goodIn_r _ [131, 2, 132, 13, 133, 134, 114, 115, 116, 135, 213, 214, 215, 216, 217, 218, 219, 220, 221, 222, 223, 224, 225, 226, 227, 228, 229, 230, 231, 232, 233] (by decide +kernel) (by decide +kernel)
set_option maxRecDepth 20000 in
theorem gX5_capacityFor_X5_setTrialCapacity : GoodIn wsX5_capacityFor (wsV RX5 173 RX5 yX5_setTrialCapacity wsX5_setTrialCapacity) := goodIn_app (goodIn_of _ (by decide +kernel)) ggX5_capacityFor_X5_setTrialCapacity
set_option maxRecDepth 20000 in
theorem ggX5_capacityFor_X2_serveAll : GoodIn wsX5_capacityFor wsX2_serveAll := goodIn_r _ [139, 37, 28, 29, 88, 89, 90, 62, 91, 64, 65, 92, 80, 81, 69, 82, 73, 74, 140, 141, 142, 18, 143, 23, 21, 144, 122, 115, 123, 25, 22, 145, 146, 147, 148, 36, 149, 150, 151, 152, 20, 124, 125, 126, 127, 153, 154, 155, 156, 157, 158, 159, 160, 161, 162, 163, 164, 165, 166, 167, 168, 169, 170, 171, 172, 173, 174, 175, 176, 177, 114, 116, 178, 179, 180, 181, 71, 182, 183, 184, 185, 186, 187, 188, 189, 190, 191, 192, 193, 194, 195, 196, 197, 198, 199, 200, 201, 202, 203, 72, 204, 205, 206, 207, 208, 209, 210, 211, 212, 218, 219, 220, 221, 222, 223, 224, 225, 226, 227, 228, 229, 230, 231, 232, 233, 240, 241, 242, 243, 244, 245, 246] (by decide +kernel) (by decide +kernel)
set_option maxRecDepth 20000 in
theorem gX5_capacityFor_X2_serveAll : GoodIn wsX5_capacityFor (wsV RX5 176 RX2 yX2_serveAll wsX2_serveAll) := goodIn_app (goodIn_of _ (by decide +kernel)) ggX5_capacityFor_X2_serveAll
theorem dX5_capacityFor_0 : decode cX5_capacityFor 0 = .ok (.iload_n 1, 1) := by decide +kernel
theorem dX5_capacityFor_1 : decode cX5_capacityFor 1 = .ok (.iconst 0, 1) := by decide +kernel
theorem dX5_capacityFor_2 : decode cX5_capacityFor 2 = .ok (.bipush 100, 2) := by decide +kernel
theorem dX5_capacityFor_4 : decode cX5_capacityFor 4 = .ok (.invokestatic 30, 3) := by decide +kernel
theorem dX5_capacityFor_7 : decode cX5_capacityFor 7 = .ok (.aload_n 0, 1) := by decide +kernel
theorem dX5_capacityFor_8 : decode cX5_capacityFor 8 = .ok (.invokevirtual 170, 3) := by decide +kernel
theorem dX5_capacityFor_11 : decode cX5_capacityFor 11 = .ok (.sipush 500, 3) := by decide +kernel
theorem dX5_capacityFor_14 : decode cX5_capacityFor 14 = .ok (.istore_n 2, 1) := by decide +kernel
theorem dX5_capacityFor_15 : decode cX5_capacityFor 15 = .ok (.iload_n 2, 1) := by decide +kernel
theorem dX5_capacityFor_16 : decode cX5_capacityFor 16 = .ok (.ldc 85, 2) := by decide +kernel
theorem dX5_capacityFor_18 : decode cX5_capacityFor 18 = .ok (.if_icmp .gt 31, 3) := by decide +kernel
theorem dX5_capacityFor_21 : decode cX5_capacityFor 21 = .ok (.aload_n 0, 1) := by decide +kernel
theorem dX5_capacityFor_22 : decode cX5_capacityFor 22 = .ok (.iload_n 2, 1) := by decide +kernel
theorem dX5_capacityFor_23 : decode cX5_capacityFor 23 = .ok (.invokevirtual 173, 3) := by decide +kernel
theorem dX5_capacityFor_26 : decode cX5_capacityFor 26 = .ok (.aload_n 0, 1) := by decide +kernel
theorem dX5_capacityFor_27 : decode cX5_capacityFor 27 = .ok (.getfield 16, 3) := by decide +kernel
theorem dX5_capacityFor_30 : decode cX5_capacityFor 30 = .ok (.iload_n 1, 1) := by decide +kernel
theorem dX5_capacityFor_31 : decode cX5_capacityFor 31 = .ok (.invokevirtual 176, 3) := by decide +kernel
theorem dX5_capacityFor_34 : decode cX5_capacityFor 34 = .ok (.iload_n 1, 1) := by decide +kernel
theorem dX5_capacityFor_35 : decode cX5_capacityFor 35 = .ok (.if_icmp .gt 5, 3) := by decide +kernel
theorem dX5_capacityFor_38 : decode cX5_capacityFor 38 = .ok (.iload_n 2, 1) := by decide +kernel
theorem dX5_capacityFor_39 : decode cX5_capacityFor 39 = .ok (.ireturn, 1) := by decide +kernel
theorem dX5_capacityFor_40 : decode cX5_capacityFor 40 = .ok (.iinc 2 500, 6) := by decide +kernel
theorem dX5_capacityFor_46 : decode cX5_capacityFor 46 = .ok (.goto (-31), 3) := by decide +kernel
theorem dX5_capacityFor_49 : decode cX5_capacityFor 49 = .ok (.iconst (-1), 1) := by decide +kernel
theorem dX5_capacityFor_50 : decode cX5_capacityFor 50 = .ok (.ireturn, 1) := by decide +kernel
set_option maxRecDepth 20000 in
theorem ggX5_bestRule_X5_prepareTrial : GoodIn wsX5_bestRule wsX5_prepareTrial := goodIn_r _ [9, 1, 10, 4, 11, 12, 13, 14, 15, 16, 17, 18, 19, 20, 21, 22, 23, 24, 25, 26, 27, 28, 29, 30, 31, 32, 33, 34, 35, 36, 37, 38, 39, 40, 41, 42, 43, 44, 45, 46, 47, 48, 49, 50, 51, 52, 53, 54, 55, 56, 57, 58, 59, 60, 61, 62, 63, 64, 65, 66, 67, 68, 69, 70, 71, 72, 73, 74, 75, 76, 77, 78, 79, 80, 81, 82, 83, 84, 85, 86, 87, 88, 89, 90, 91, 92, 93, 94, 95, 96, 97, 98, 99, 100, 101, 102, 103, 104, 105, 106, 107, 108, 109, 110, 111, 112, 113, 114, 115, 116, 117, 118, 119, 120, 121, 122, 123, 206, 207, 208, 209, 210, 211, 212, 213, 214, 215, 216, 217, 218, 219, 220, 221, 222, 223, 224, 225, 226, 227, 228, 229, 230, 231, 232, 233, 234, 235, 236, 237, 238, 239] (by decide +kernel) (by decide +kernel)
set_option maxRecDepth 20000 in
theorem gX5_bestRule_X5_prepareTrial : GoodIn wsX5_bestRule (wsV RX5 170 RX5 yX5_prepareTrial wsX5_prepareTrial) := goodIn_app (goodIn_of _ (by decide +kernel)) ggX5_bestRule_X5_prepareTrial
set_option maxRecDepth 20000 in
theorem ggX5_bestRule_X2_serveAll : GoodIn wsX5_bestRule wsX2_serveAll := goodIn_r _ [127, 33, 24, 25, 84, 85, 86, 58, 87, 60, 61, 88, 76, 77, 65, 78, 69, 70, 128, 129, 130, 14, 131, 19, 17, 132, 118, 111, 119, 21, 18, 133, 134, 135, 136, 32, 137, 138, 139, 140, 16, 120, 121, 122, 123, 141, 142, 143, 144, 145, 146, 147, 148, 149, 150, 151, 152, 153, 154, 155, 156, 157, 158, 159, 160, 161, 162, 163, 164, 165, 110, 112, 166, 167, 168, 169, 67, 170, 171, 172, 173, 174, 175, 176, 177, 178, 179, 180, 181, 182, 183, 184, 185, 186, 187, 188, 189, 190, 191, 68, 192, 193, 194, 195, 196, 197, 198, 199, 200, 211, 212, 213, 214, 215, 216, 217, 218, 219, 220, 221, 222, 223, 224, 225, 226, 233, 234, 235, 236, 237, 238, 239] (by decide +kernel) (by decide +kernel)
set_option maxRecDepth 20000 in
theorem gX5_bestRule_X2_serveAll : GoodIn wsX5_bestRule (wsV RX5 176 RX2 yX2_serveAll wsX2_serveAll) := goodIn_app (goodIn_of _ (by decide +kernel)) ggX5_bestRule_X2_serveAll
set_option maxRecDepth 20000 in
theorem ggX5_bestRule_X4_greatestLack : GoodIn wsX5_bestRule wsX4_greatestLack := goodIn_r _ [204, 60, 61, 151, 146, 205, 118, 111, 119, 233, 234, 235, 236, 237, 238, 239] (by decide +kernel) (by decide +kernel)
set_option maxRecDepth 20000 in
theorem gX5_bestRule_X4_greatestLack : GoodIn wsX5_bestRule (wsV RX5 179 RX4 yX4_greatestLack wsX4_greatestLack) := goodIn_app (goodIn_of _ (by decide +kernel)) ggX5_bestRule_X4_greatestLack
theorem dX5_bestRule_0 : decode cX5_bestRule 0 = .ok (.aload_n 0, 1) := by decide +kernel
theorem dX5_bestRule_1 : decode cX5_bestRule 1 = .ok (.invokevirtual 170, 3) := by decide +kernel
theorem dX5_bestRule_4 : decode cX5_bestRule 4 = .ok (.iconst 0, 1) := by decide +kernel
theorem dX5_bestRule_5 : decode cX5_bestRule 5 = .ok (.istore_n 1, 1) := by decide +kernel
theorem dX5_bestRule_6 : decode cX5_bestRule 6 = .ok (.iconst 0, 1) := by decide +kernel
theorem dX5_bestRule_7 : decode cX5_bestRule 7 = .ok (.istore_n 2, 1) := by decide +kernel
theorem dX5_bestRule_8 : decode cX5_bestRule 8 = .ok (.iconst 0, 1) := by decide +kernel
theorem dX5_bestRule_9 : decode cX5_bestRule 9 = .ok (.istore_n 3, 1) := by decide +kernel
theorem dX5_bestRule_10 : decode cX5_bestRule 10 = .ok (.iload_n 3, 1) := by decide +kernel
theorem dX5_bestRule_11 : decode cX5_bestRule 11 = .ok (.iconst 4, 1) := by decide +kernel
theorem dX5_bestRule_12 : decode cX5_bestRule 12 = .ok (.if_icmp .ge 61, 3) := by decide +kernel
theorem dX5_bestRule_15 : decode cX5_bestRule 15 = .ok (.aload_n 0, 1) := by decide +kernel
theorem dX5_bestRule_16 : decode cX5_bestRule 16 = .ok (.getfield 16, 3) := by decide +kernel
theorem dX5_bestRule_19 : decode cX5_bestRule 19 = .ok (.iload_n 3, 1) := by decide +kernel
theorem dX5_bestRule_20 : decode cX5_bestRule 20 = .ok (.putfield 103, 3) := by decide +kernel
theorem dX5_bestRule_23 : decode cX5_bestRule 23 = .ok (.aload_n 0, 1) := by decide +kernel
theorem dX5_bestRule_24 : decode cX5_bestRule 24 = .ok (.getfield 16, 3) := by decide +kernel
theorem dX5_bestRule_27 : decode cX5_bestRule 27 = .ok (.bipush 100, 2) := by decide +kernel
theorem dX5_bestRule_29 : decode cX5_bestRule 29 = .ok (.invokevirtual 176, 3) := by decide +kernel
theorem dX5_bestRule_32 : decode cX5_bestRule 32 = .ok (.pop, 1) := by decide +kernel
theorem dX5_bestRule_33 : decode cX5_bestRule 33 = .ok (.aload_n 0, 1) := by decide +kernel
theorem dX5_bestRule_34 : decode cX5_bestRule 34 = .ok (.getfield 16, 3) := by decide +kernel
theorem dX5_bestRule_37 : decode cX5_bestRule 37 = .ok (.getfield 59, 3) := by decide +kernel
theorem dX5_bestRule_40 : decode cX5_bestRule 40 = .ok (.aload_n 0, 1) := by decide +kernel
theorem dX5_bestRule_41 : decode cX5_bestRule 41 = .ok (.getfield 16, 3) := by decide +kernel
theorem dX5_bestRule_44 : decode cX5_bestRule 44 = .ok (.getfield 127, 3) := by decide +kernel
theorem dX5_bestRule_47 : decode cX5_bestRule 47 = .ok (.invokevirtual 179, 3) := by decide +kernel
theorem dX5_bestRule_50 : decode cX5_bestRule 50 = .ok (.istore 4, 2) := by decide +kernel
theorem dX5_bestRule_52 : decode cX5_bestRule 52 = .ok (.iload_n 3, 1) := by decide +kernel
theorem dX5_bestRule_53 : decode cX5_bestRule 53 = .ok (.ifCond .eq 9, 3) := by decide +kernel
theorem dX5_bestRule_56 : decode cX5_bestRule 56 = .ok (.iload 4, 2) := by decide +kernel
theorem dX5_bestRule_58 : decode cX5_bestRule 58 = .ok (.iload_n 2, 1) := by decide +kernel
theorem dX5_bestRule_59 : decode cX5_bestRule 59 = .ok (.if_icmp .ge 8, 3) := by decide +kernel
theorem dX5_bestRule_62 : decode cX5_bestRule 62 = .ok (.iload_n 3, 1) := by decide +kernel
theorem dX5_bestRule_63 : decode cX5_bestRule 63 = .ok (.istore_n 1, 1) := by decide +kernel
theorem dX5_bestRule_64 : decode cX5_bestRule 64 = .ok (.iload 4, 2) := by decide +kernel
theorem dX5_bestRule_66 : decode cX5_bestRule 66 = .ok (.istore_n 2, 1) := by decide +kernel
theorem dX5_bestRule_67 : decode cX5_bestRule 67 = .ok (.iinc 3 1, 3) := by decide +kernel
theorem dX5_bestRule_70 : decode cX5_bestRule 70 = .ok (.goto (-60), 3) := by decide +kernel
theorem dX5_bestRule_73 : decode cX5_bestRule 73 = .ok (.iload_n 1, 1) := by decide +kernel
theorem dX5_bestRule_74 : decode cX5_bestRule 74 = .ok (.ireturn, 1) := by decide +kernel
set_option maxRecDepth 20000 in
theorem ggX5_sustainable_X5_prepareTrial : GoodIn wsX5_sustainable wsX5_prepareTrial := goodIn_r _ [8, 1, 3, 9, 10, 11, 12, 13, 14, 15, 16, 17, 18, 19, 20, 21, 22, 23, 24, 25, 26, 27, 28, 29, 30, 31, 32, 33, 34, 35, 36, 37, 38, 39, 40, 41, 42, 43, 44, 45, 46, 47, 48, 49, 50, 51, 52, 53, 54, 55, 56, 57, 58, 59, 60, 61, 62, 63, 64, 65, 66, 67, 68, 69, 70, 71, 72, 73, 74, 75, 76, 77, 78, 79, 80, 81, 82, 83, 84, 85, 86, 87, 88, 89, 90, 91, 92, 93, 94, 95, 96, 97, 98, 99, 100, 101, 102, 103, 104, 105, 106, 107, 108, 109, 110, 111, 112, 113, 114, 115, 116, 117, 118, 119, 120, 121, 122, 204, 205, 206, 207, 208, 209, 210, 211, 212, 213, 214, 215, 216, 217, 218, 219, 220, 221, 222, 223, 224, 225, 226, 227, 228, 229, 230, 231, 232, 233, 234, 235, 236, 237] (by decide +kernel) (by decide +kernel)
set_option maxRecDepth 20000 in
theorem gX5_sustainable_X5_prepareTrial : GoodIn wsX5_sustainable (wsV RX5 170 RX5 yX5_prepareTrial wsX5_prepareTrial) := goodIn_app (goodIn_of _ (by decide +kernel)) ggX5_sustainable_X5_prepareTrial
set_option maxRecDepth 20000 in
theorem ggX5_sustainable_X4_scaleDemands : GoodIn wsX5_sustainable wsX4_scaleDemands := goodIn_r _ [126, 59, 60, 127, 231, 232, 233, 234, 235, 236, 237] (by decide +kernel) (by decide +kernel)
set_option maxRecDepth 20000 in
theorem gX5_sustainable_X4_scaleDemands : GoodIn wsX5_sustainable (wsV RX5 182 RX4 yX4_scaleDemands wsX4_scaleDemands) := goodIn_app (goodIn_of _ (by decide +kernel)) ggX5_sustainable_X4_scaleDemands
set_option maxRecDepth 20000 in
theorem ggX5_sustainable_X2_serveAll : GoodIn wsX5_sustainable wsX2_serveAll := goodIn_r _ [131, 32, 23, 24, 83, 84, 85, 57, 86, 59, 60, 87, 75, 76, 64, 77, 68, 69, 132, 133, 134, 13, 135, 18, 16, 136, 117, 110, 118, 20, 17, 137, 138, 139, 140, 31, 141, 142, 143, 144, 15, 119, 120, 121, 122, 145, 146, 147, 148, 149, 150, 151, 152, 153, 154, 127, 155, 156, 157, 158, 159, 160, 161, 162, 163, 164, 165, 166, 167, 168, 109, 111, 169, 170, 171, 172, 66, 173, 174, 175, 176, 177, 178, 179, 180, 181, 182, 183, 184, 185, 186, 187, 188, 189, 190, 191, 192, 193, 194, 67, 195, 196, 197, 198, 199, 200, 201, 202, 203, 209, 210, 211, 212, 213, 214, 215, 216, 217, 218, 219, 220, 221, 222, 223, 224, 231, 232, 233, 234, 235, 236, 237] (by decide +kernel) (by decide +kernel)
set_option maxRecDepth 20000 in
theorem gX5_sustainable_X2_serveAll : GoodIn wsX5_sustainable (wsV RX5 176 RX2 yX2_serveAll wsX2_serveAll) := goodIn_app (goodIn_of _ (by decide +kernel)) ggX5_sustainable_X2_serveAll
theorem dX5_sustainable_0 : decode cX5_sustainable 0 = .ok (.aload_n 0, 1) := by decide +kernel
theorem dX5_sustainable_1 : decode cX5_sustainable 1 = .ok (.invokevirtual 170, 3) := by decide +kernel
theorem dX5_sustainable_4 : decode cX5_sustainable 4 = .ok (.sipush 300, 3) := by decide +kernel
theorem dX5_sustainable_7 : decode cX5_sustainable 7 = .ok (.istore_n 1, 1) := by decide +kernel
theorem dX5_sustainable_8 : decode cX5_sustainable 8 = .ok (.iload_n 1, 1) := by decide +kernel
theorem dX5_sustainable_9 : decode cX5_sustainable 9 = .ok (.iconst 5, 1) := by decide +kernel
theorem dX5_sustainable_10 : decode cX5_sustainable 10 = .ok (.if_icmp .lt 40, 3) := by decide +kernel
theorem dX5_sustainable_13 : decode cX5_sustainable 13 = .ok (.aload_n 0, 1) := by decide +kernel
theorem dX5_sustainable_14 : decode cX5_sustainable 14 = .ok (.getfield 16, 3) := by decide +kernel
theorem dX5_sustainable_17 : decode cX5_sustainable 17 = .ok (.getfield 59, 3) := by decide +kernel
theorem dX5_sustainable_20 : decode cX5_sustainable 20 = .ok (.aload_n 0, 1) := by decide +kernel
theorem dX5_sustainable_21 : decode cX5_sustainable 21 = .ok (.getfield 10, 3) := by decide +kernel
theorem dX5_sustainable_24 : decode cX5_sustainable 24 = .ok (.getfield 59, 3) := by decide +kernel
theorem dX5_sustainable_27 : decode cX5_sustainable 27 = .ok (.iload_n 1, 1) := by decide +kernel
theorem dX5_sustainable_28 : decode cX5_sustainable 28 = .ok (.invokevirtual 182, 3) := by decide +kernel
theorem dX5_sustainable_31 : decode cX5_sustainable 31 = .ok (.aload_n 0, 1) := by decide +kernel
theorem dX5_sustainable_32 : decode cX5_sustainable 32 = .ok (.getfield 16, 3) := by decide +kernel
theorem dX5_sustainable_35 : decode cX5_sustainable 35 = .ok (.iconst 0, 1) := by decide +kernel
theorem dX5_sustainable_36 : decode cX5_sustainable 36 = .ok (.invokevirtual 176, 3) := by decide +kernel
theorem dX5_sustainable_39 : decode cX5_sustainable 39 = .ok (.ifCond .ne 5, 3) := by decide +kernel
theorem dX5_sustainable_42 : decode cX5_sustainable 42 = .ok (.iload_n 1, 1) := by decide +kernel
theorem dX5_sustainable_43 : decode cX5_sustainable 43 = .ok (.ireturn, 1) := by decide +kernel
theorem dX5_sustainable_44 : decode cX5_sustainable 44 = .ok (.iinc 1 (-5), 3) := by decide +kernel
theorem dX5_sustainable_47 : decode cX5_sustainable 47 = .ok (.goto (-39), 3) := by decide +kernel
theorem dX5_sustainable_50 : decode cX5_sustainable 50 = .ok (.iconst (-1), 1) := by decide +kernel
theorem dX5_sustainable_51 : decode cX5_sustainable 51 = .ok (.ireturn, 1) := by decide +kernel
set_option maxRecDepth 20000 in
theorem ggX5_gutterLoss_X5_checkIndex : GoodIn wsX5_gutterLoss wsX5_checkIndex := goodIn_ca (goodIn_r _ [9, 10, 11] (by decide +kernel) (by decide +kernel)) (goodIn_sub (fun _ h => List.mem_cons_of_mem _ (List.mem_append_right _ h)) (by decide +kernel))
set_option maxRecDepth 20000 in
theorem gX5_gutterLoss_X5_checkIndex : GoodIn wsX5_gutterLoss (va_wsS RX5 79 yX5_checkIndex wsX5_checkIndex) := goodIn_app (goodIn_of _ (by decide +kernel)) ggX5_gutterLoss_X5_checkIndex
set_option maxRecDepth 20000 in
theorem ggX5_gutterLoss_X5_prepareTrial : GoodIn wsX5_gutterLoss wsX5_prepareTrial := goodIn_r _ [15, 3, 1, 16, 17, 18, 19, 20, 21, 22, 23, 24, 25, 26, 27, 28, 29, 30, 31, 32, 33, 34, 35, 36, 37, 38, 39, 40, 41, 42, 43, 44, 45, 46, 47, 48, 49, 50, 51, 52, 53, 54, 55, 56, 57, 58, 59, 60, 61, 62, 63, 64, 65, 66, 67, 68, 69, 70, 71, 72, 73, 74, 75, 76, 77, 78, 79, 80, 81, 82, 83, 84, 85, 86, 87, 88, 89, 90, 91, 92, 93, 94, 95, 96, 97, 98, 99, 100, 101, 102, 103, 104, 105, 106, 107, 108, 109, 110, 111, 112, 113, 114, 115, 116, 117, 118, 119, 120, 121, 122, 123, 124, 125, 126, 127, 128, 129, 130, 131, 132, 133, 134, 135, 136, 137, 138, 139, 140, 141, 142, 143, 144, 145, 146, 147, 148, 149, 150, 151, 152, 153, 154, 155, 156, 157, 158, 159, 160, 161, 162, 163] (by decide +kernel) (by decide +kernel)
set_option maxRecDepth 20000 in
theorem gX5_gutterLoss_X5_prepareTrial : GoodIn wsX5_gutterLoss (wsV RX5 170 RX5 yX5_prepareTrial wsX5_prepareTrial) := goodIn_app (goodIn_of _ (by decide +kernel)) ggX5_gutterLoss_X5_prepareTrial
theorem dX5_gutterLoss_0 : decode cX5_gutterLoss 0 = .ok (.iload_n 1, 1) := by decide +kernel
theorem dX5_gutterLoss_1 : decode cX5_gutterLoss 1 = .ok (.aload_n 0, 1) := by decide +kernel
theorem dX5_gutterLoss_2 : decode cX5_gutterLoss 2 = .ok (.getfield 10, 3) := by decide +kernel
theorem dX5_gutterLoss_5 : decode cX5_gutterLoss 5 = .ok (.getfield 35, 3) := by decide +kernel
theorem dX5_gutterLoss_8 : decode cX5_gutterLoss 8 = .ok (.invokestatic 79, 3) := by decide +kernel
theorem dX5_gutterLoss_11 : decode cX5_gutterLoss 11 = .ok (.aload_n 0, 1) := by decide +kernel
theorem dX5_gutterLoss_12 : decode cX5_gutterLoss 12 = .ok (.invokevirtual 170, 3) := by decide +kernel
theorem dX5_gutterLoss_15 : decode cX5_gutterLoss 15 = .ok (.aload_n 0, 1) := by decide +kernel
theorem dX5_gutterLoss_16 : decode cX5_gutterLoss 16 = .ok (.getfield 16, 3) := by decide +kernel
theorem dX5_gutterLoss_19 : decode cX5_gutterLoss 19 = .ok (.getfield 49, 3) := by decide +kernel
theorem dX5_gutterLoss_22 : decode cX5_gutterLoss 22 = .ok (.iload_n 1, 1) := by decide +kernel
theorem dX5_gutterLoss_23 : decode cX5_gutterLoss 23 = .ok (.aaload, 1) := by decide +kernel
theorem dX5_gutterLoss_24 : decode cX5_gutterLoss 24 = .ok (.getfield 186, 3) := by decide +kernel
theorem dX5_gutterLoss_27 : decode cX5_gutterLoss 27 = .ok (.i2l, 1) := by decide +kernel
theorem dX5_gutterLoss_28 : decode cX5_gutterLoss 28 = .ok (.lreturn, 1) := by decide +kernel
set_option maxRecDepth 20000 in
theorem ggX5_undo_X2_copyFrom : GoodIn wsX5_undo wsX2_copyFrom := goodIn_r _ [10, 11, 12, 13, 14, 15, 16, 17, 18, 19, 20, 21, 22, 23, 24, 25, 26, 27, 28, 29, 30, 31, 32, 33, 34, 35, 36, 37, 38, 39, 40, 41, 42, 43, 44, 45, 46, 47, 48, 49, 50, 51, 52, 53, 54, 55, 56, 57, 58, 59, 60, 61, 62, 63, 64, 65, 66, 67, 68, 69, 70, 71, 72, 73, 79, 80, 81, 82, 83, 84, 85, 86, 87, 88, 89, 90, 91, 92, 93, 94, 95, 96, 97, 98, 99, 100, 101, 102, 103, 104, 105, 106, 107] (by decide +kernel) (by decide +kernel)
set_option maxRecDepth 20000 in
theorem gX5_undo_X2_copyFrom : GoodIn wsX5_undo (wsV RX5 212 RX2 yX2_copyFrom wsX2_copyFrom) := goodIn_app (goodIn_of _ (by decide +kernel)) ggX5_undo_X2_copyFrom
theorem dX5_undo_0 : decode cX5_undo 0 = .ok (.aload_n 0, 1) := by decide +kernel
theorem dX5_undo_1 : decode cX5_undo 1 = .ok (.getfield 207, 3) := by decide +kernel
theorem dX5_undo_4 : decode cX5_undo 4 = .ok (.iconst 1, 1) := by decide +kernel
theorem dX5_undo_5 : decode cX5_undo 5 = .ok (.if_icmp .ge 13, 3) := by decide +kernel
theorem dX5_undo_8 : decode cX5_undo 8 = .ok (.new 39, 3) := by decide +kernel
theorem dX5_undo_11 : decode cX5_undo 11 = .ok (.dup, 1) := by decide +kernel
theorem dX5_undo_12 : decode cX5_undo 12 = .ok (.ldc 210, 2) := by decide +kernel
theorem dX5_undo_14 : decode cX5_undo 14 = .ok (.invokespecial 43, 3) := by decide +kernel
theorem dX5_undo_17 : decode cX5_undo 17 = .ok (.athrow, 1) := by decide +kernel
theorem dX5_undo_18 : decode cX5_undo 18 = .ok (.aload_n 0, 1) := by decide +kernel
theorem dX5_undo_19 : decode cX5_undo 19 = .ok (.dup, 1) := by decide +kernel
theorem dX5_undo_20 : decode cX5_undo 20 = .ok (.getfield 207, 3) := by decide +kernel
theorem dX5_undo_23 : decode cX5_undo 23 = .ok (.iconst 1, 1) := by decide +kernel
theorem dX5_undo_24 : decode cX5_undo 24 = .ok (.isub, 1) := by decide +kernel
theorem dX5_undo_25 : decode cX5_undo 25 = .ok (.putfield 207, 3) := by decide +kernel
theorem dX5_undo_28 : decode cX5_undo 28 = .ok (.aload_n 0, 1) := by decide +kernel
theorem dX5_undo_29 : decode cX5_undo 29 = .ok (.getfield 10, 3) := by decide +kernel
theorem dX5_undo_32 : decode cX5_undo 32 = .ok (.aload_n 0, 1) := by decide +kernel
theorem dX5_undo_33 : decode cX5_undo 33 = .ok (.getfield 19, 3) := by decide +kernel
theorem dX5_undo_36 : decode cX5_undo 36 = .ok (.aload_n 0, 1) := by decide +kernel
theorem dX5_undo_37 : decode cX5_undo 37 = .ok (.getfield 207, 3) := by decide +kernel
theorem dX5_undo_40 : decode cX5_undo 40 = .ok (.aaload, 1) := by decide +kernel
theorem dX5_undo_41 : decode cX5_undo 41 = .ok (.invokevirtual 212, 3) := by decide +kernel
theorem dX5_undo_44 : decode cX5_undo 44 = .ok (.aload_n 0, 1) := by decide +kernel
theorem dX5_undo_45 : decode cX5_undo 45 = .ok (.getfield 207, 3) := by decide +kernel
theorem dX5_undo_48 : decode cX5_undo 48 = .ok (.ireturn, 1) := by decide +kernel
set_option maxRecDepth 20000 in
theorem ggX5_digest_X2_settingValue : GoodIn wsX5_digest wsX2_settingValue := goodIn_r _ [19, 20, 21, 22, 23, 24, 25, 26, 27, 28, 29, 30, 31, 32, 79, 80, 81, 82, 83, 84, 85, 86, 87, 88, 89, 90, 91, 92, 93, 94, 95, 96, 97] (by decide +kernel) (by decide +kernel)
set_option maxRecDepth 20000 in
theorem gX5_digest_X2_settingValue : GoodIn wsX5_digest (wsV RX5 112 RX2 yX2_settingValue wsX2_settingValue) := goodIn_app (goodIn_of _ (by decide +kernel)) ggX5_digest_X2_settingValue
set_option maxRecDepth 20000 in
theorem ggX5_digest_X1_value : GoodIn wsX5_digest wsX1_value := goodIn_r _ [37, 38, 39, 40, 41, 42, 98, 99, 100, 101, 102, 103] (by decide +kernel) (by decide +kernel)
set_option maxRecDepth 20000 in
theorem gX5_digest_X1_value : GoodIn wsX5_digest (wsV RX5 116 RX1 yX1_value wsX1_value) := goodIn_app (goodIn_of _ (by decide +kernel)) ggX5_digest_X1_value
set_option maxRecDepth 20000 in
theorem ggX5_digest_X3_value : GoodIn wsX5_digest wsX3_value := goodIn_r _ [47, 48, 49, 50, 51, 104, 105, 106, 107] (by decide +kernel) (by decide +kernel)
set_option maxRecDepth 20000 in
theorem gX5_digest_X3_value : GoodIn wsX5_digest (wsV RX5 119 RX3 yX3_value wsX3_value) := goodIn_app (goodIn_of _ (by decide +kernel)) ggX5_digest_X3_value
set_option maxRecDepth 20000 in
theorem ggX5_digest_X2_account : GoodIn wsX5_digest wsX2_account := goodIn_r _ [55, 56, 79, 80, 81, 82, 83, 84, 85, 86, 87, 88, 89, 90, 91, 92, 93, 94] (by decide +kernel) (by decide +kernel)
set_option maxRecDepth 20000 in
theorem gX5_digest_X2_account : GoodIn wsX5_digest (wsV RX5 161 RX2 yX2_account wsX2_account) := goodIn_app (goodIn_of _ (by decide +kernel)) ggX5_digest_X2_account
set_option maxRecDepth 20000 in
theorem ggX5_digest_X5_sum : GoodIn wsX5_digest wsX5_sum := goodIn_ca (goodIn_r _ [61, 5, 62, 13, 63, 64, 60, 65, 66, 67, 52, 53, 54, 18, 55, 56, 68, 69, 70, 71, 72, 79, 80, 81, 82, 83, 84, 85, 86, 87, 88, 89, 90, 91, 92, 93, 94] (by decide +kernel) (by decide +kernel)) (goodIn_sub (fun _ h => List.mem_cons_of_mem _ (List.mem_append_right _ h)) (by decide +kernel))
set_option maxRecDepth 20000 in
theorem gX5_digest_X5_sum : GoodIn wsX5_digest (wsV RX5 220 RX5 yX5_sum wsX5_sum) := goodIn_app (goodIn_of _ (by decide +kernel)) ggX5_digest_X5_sum
theorem dX5_digest_0 : decode cX5_digest 0 = .ok (.ldc2_w 216, 3) := by decide +kernel
theorem dX5_digest_3 : decode cX5_digest 3 = .ok (.aload_n 0, 1) := by decide +kernel
theorem dX5_digest_4 : decode cX5_digest 4 = .ok (.getfield 26, 3) := by decide +kernel
theorem dX5_digest_7 : decode cX5_digest 7 = .ok (.getfield 189, 3) := by decide +kernel
theorem dX5_digest_10 : decode cX5_digest 10 = .ok (.i2l, 1) := by decide +kernel
theorem dX5_digest_11 : decode cX5_digest 11 = .ok (.ladd, 1) := by decide +kernel
theorem dX5_digest_12 : decode cX5_digest 12 = .ok (.lstore_n 1, 1) := by decide +kernel
theorem dX5_digest_13 : decode cX5_digest 13 = .ok (.iconst 0, 1) := by decide +kernel
theorem dX5_digest_14 : decode cX5_digest 14 = .ok (.istore_n 3, 1) := by decide +kernel
theorem dX5_digest_15 : decode cX5_digest 15 = .ok (.iload_n 3, 1) := by decide +kernel
theorem dX5_digest_16 : decode cX5_digest 16 = .ok (.bipush 12, 2) := by decide +kernel
theorem dX5_digest_18 : decode cX5_digest 18 = .ok (.if_icmp .ge 25, 3) := by decide +kernel
theorem dX5_digest_21 : decode cX5_digest 21 = .ok (.ldc2_w 218, 3) := by decide +kernel
theorem dX5_digest_24 : decode cX5_digest 24 = .ok (.lload_n 1, 1) := by decide +kernel
theorem dX5_digest_25 : decode cX5_digest 25 = .ok (.lmul, 1) := by decide +kernel
theorem dX5_digest_26 : decode cX5_digest 26 = .ok (.aload_n 0, 1) := by decide +kernel
theorem dX5_digest_27 : decode cX5_digest 27 = .ok (.getfield 10, 3) := by decide +kernel
theorem dX5_digest_30 : decode cX5_digest 30 = .ok (.iload_n 3, 1) := by decide +kernel
theorem dX5_digest_31 : decode cX5_digest 31 = .ok (.invokevirtual 112, 3) := by decide +kernel
theorem dX5_digest_34 : decode cX5_digest 34 = .ok (.i2l, 1) := by decide +kernel
theorem dX5_digest_35 : decode cX5_digest 35 = .ok (.ladd, 1) := by decide +kernel
theorem dX5_digest_36 : decode cX5_digest 36 = .ok (.lstore_n 1, 1) := by decide +kernel
theorem dX5_digest_37 : decode cX5_digest 37 = .ok (.iinc 3 1, 3) := by decide +kernel
theorem dX5_digest_40 : decode cX5_digest 40 = .ok (.goto (-25), 3) := by decide +kernel
theorem dX5_digest_43 : decode cX5_digest 43 = .ok (.iconst 0, 1) := by decide +kernel
theorem dX5_digest_44 : decode cX5_digest 44 = .ok (.istore_n 3, 1) := by decide +kernel
theorem dX5_digest_45 : decode cX5_digest 45 = .ok (.iload_n 3, 1) := by decide +kernel
theorem dX5_digest_46 : decode cX5_digest 46 = .ok (.aload_n 0, 1) := by decide +kernel
theorem dX5_digest_47 : decode cX5_digest 47 = .ok (.getfield 10, 3) := by decide +kernel
theorem dX5_digest_50 : decode cX5_digest 50 = .ok (.getfield 35, 3) := by decide +kernel
theorem dX5_digest_53 : decode cX5_digest 53 = .ok (.if_icmp .ge 46, 3) := by decide +kernel
theorem dX5_digest_56 : decode cX5_digest 56 = .ok (.iconst 0, 1) := by decide +kernel
theorem dX5_digest_57 : decode cX5_digest 57 = .ok (.istore 4, 2) := by decide +kernel
theorem dX5_digest_59 : decode cX5_digest 59 = .ok (.iload 4, 2) := by decide +kernel
theorem dX5_digest_61 : decode cX5_digest 61 = .ok (.iconst 5, 1) := by decide +kernel
theorem dX5_digest_62 : decode cX5_digest 62 = .ok (.if_icmp .ge 31, 3) := by decide +kernel
theorem dX5_digest_65 : decode cX5_digest 65 = .ok (.ldc2_w 218, 3) := by decide +kernel
theorem dX5_digest_68 : decode cX5_digest 68 = .ok (.lload_n 1, 1) := by decide +kernel
theorem dX5_digest_69 : decode cX5_digest 69 = .ok (.lmul, 1) := by decide +kernel
theorem dX5_digest_70 : decode cX5_digest 70 = .ok (.aload_n 0, 1) := by decide +kernel
theorem dX5_digest_71 : decode cX5_digest 71 = .ok (.getfield 10, 3) := by decide +kernel
theorem dX5_digest_74 : decode cX5_digest 74 = .ok (.getfield 49, 3) := by decide +kernel
theorem dX5_digest_77 : decode cX5_digest 77 = .ok (.iload_n 3, 1) := by decide +kernel
theorem dX5_digest_78 : decode cX5_digest 78 = .ok (.aaload, 1) := by decide +kernel
theorem dX5_digest_79 : decode cX5_digest 79 = .ok (.iload 4, 2) := by decide +kernel
theorem dX5_digest_81 : decode cX5_digest 81 = .ok (.invokevirtual 116, 3) := by decide +kernel
theorem dX5_digest_84 : decode cX5_digest 84 = .ok (.i2l, 1) := by decide +kernel
theorem dX5_digest_85 : decode cX5_digest 85 = .ok (.ladd, 1) := by decide +kernel
theorem dX5_digest_86 : decode cX5_digest 86 = .ok (.lstore_n 1, 1) := by decide +kernel
theorem dX5_digest_87 : decode cX5_digest 87 = .ok (.iinc 4 1, 3) := by decide +kernel
theorem dX5_digest_90 : decode cX5_digest 90 = .ok (.goto (-31), 3) := by decide +kernel
theorem dX5_digest_93 : decode cX5_digest 93 = .ok (.iinc 3 1, 3) := by decide +kernel
theorem dX5_digest_96 : decode cX5_digest 96 = .ok (.goto (-51), 3) := by decide +kernel
theorem dX5_digest_99 : decode cX5_digest 99 = .ok (.iconst 0, 1) := by decide +kernel
theorem dX5_digest_100 : decode cX5_digest 100 = .ok (.istore_n 3, 1) := by decide +kernel
theorem dX5_digest_101 : decode cX5_digest 101 = .ok (.iload_n 3, 1) := by decide +kernel
theorem dX5_digest_102 : decode cX5_digest 102 = .ok (.aload_n 0, 1) := by decide +kernel
theorem dX5_digest_103 : decode cX5_digest 103 = .ok (.getfield 10, 3) := by decide +kernel
theorem dX5_digest_106 : decode cX5_digest 106 = .ok (.getfield 59, 3) := by decide +kernel
theorem dX5_digest_109 : decode cX5_digest 109 = .ok (.getfield 63, 3) := by decide +kernel
theorem dX5_digest_112 : decode cX5_digest 112 = .ok (.if_icmp .ge 49, 3) := by decide +kernel
theorem dX5_digest_115 : decode cX5_digest 115 = .ok (.iconst 0, 1) := by decide +kernel
theorem dX5_digest_116 : decode cX5_digest 116 = .ok (.istore 4, 2) := by decide +kernel
theorem dX5_digest_118 : decode cX5_digest 118 = .ok (.iload 4, 2) := by decide +kernel
theorem dX5_digest_120 : decode cX5_digest 120 = .ok (.iconst 4, 1) := by decide +kernel
theorem dX5_digest_121 : decode cX5_digest 121 = .ok (.if_icmp .ge 34, 3) := by decide +kernel
theorem dX5_digest_124 : decode cX5_digest 124 = .ok (.ldc2_w 218, 3) := by decide +kernel
theorem dX5_digest_127 : decode cX5_digest 127 = .ok (.lload_n 1, 1) := by decide +kernel
theorem dX5_digest_128 : decode cX5_digest 128 = .ok (.lmul, 1) := by decide +kernel
theorem dX5_digest_129 : decode cX5_digest 129 = .ok (.aload_n 0, 1) := by decide +kernel
theorem dX5_digest_130 : decode cX5_digest 130 = .ok (.getfield 10, 3) := by decide +kernel
theorem dX5_digest_133 : decode cX5_digest 133 = .ok (.getfield 59, 3) := by decide +kernel
theorem dX5_digest_136 : decode cX5_digest 136 = .ok (.getfield 70, 3) := by decide +kernel
theorem dX5_digest_139 : decode cX5_digest 139 = .ok (.iload_n 3, 1) := by decide +kernel
theorem dX5_digest_140 : decode cX5_digest 140 = .ok (.aaload, 1) := by decide +kernel
theorem dX5_digest_141 : decode cX5_digest 141 = .ok (.iload 4, 2) := by decide +kernel
theorem dX5_digest_143 : decode cX5_digest 143 = .ok (.invokevirtual 119, 3) := by decide +kernel
theorem dX5_digest_146 : decode cX5_digest 146 = .ok (.i2l, 1) := by decide +kernel
theorem dX5_digest_147 : decode cX5_digest 147 = .ok (.ladd, 1) := by decide +kernel
theorem dX5_digest_148 : decode cX5_digest 148 = .ok (.lstore_n 1, 1) := by decide +kernel
theorem dX5_digest_149 : decode cX5_digest 149 = .ok (.iinc 4 1, 3) := by decide +kernel
theorem dX5_digest_152 : decode cX5_digest 152 = .ok (.goto (-34), 3) := by decide +kernel
theorem dX5_digest_155 : decode cX5_digest 155 = .ok (.iinc 3 1, 3) := by decide +kernel
theorem dX5_digest_158 : decode cX5_digest 158 = .ok (.goto (-57), 3) := by decide +kernel
theorem dX5_digest_161 : decode cX5_digest 161 = .ok (.iconst 0, 1) := by decide +kernel
theorem dX5_digest_162 : decode cX5_digest 162 = .ok (.istore_n 3, 1) := by decide +kernel
theorem dX5_digest_163 : decode cX5_digest 163 = .ok (.iload_n 3, 1) := by decide +kernel
theorem dX5_digest_164 : decode cX5_digest 164 = .ok (.aload_n 0, 1) := by decide +kernel
theorem dX5_digest_165 : decode cX5_digest 165 = .ok (.getfield 10, 3) := by decide +kernel
theorem dX5_digest_168 : decode cX5_digest 168 = .ok (.getfield 127, 3) := by decide +kernel
theorem dX5_digest_171 : decode cX5_digest 171 = .ok (.if_icmp .ge 26, 3) := by decide +kernel
theorem dX5_digest_174 : decode cX5_digest 174 = .ok (.ldc2_w 218, 3) := by decide +kernel
theorem dX5_digest_177 : decode cX5_digest 177 = .ok (.lload_n 1, 1) := by decide +kernel
theorem dX5_digest_178 : decode cX5_digest 178 = .ok (.lmul, 1) := by decide +kernel
theorem dX5_digest_179 : decode cX5_digest 179 = .ok (.aload_n 0, 1) := by decide +kernel
theorem dX5_digest_180 : decode cX5_digest 180 = .ok (.getfield 10, 3) := by decide +kernel
theorem dX5_digest_183 : decode cX5_digest 183 = .ok (.getfield 139, 3) := by decide +kernel
theorem dX5_digest_186 : decode cX5_digest 186 = .ok (.iload_n 3, 1) := by decide +kernel
theorem dX5_digest_187 : decode cX5_digest 187 = .ok (.iaload, 1) := by decide +kernel
theorem dX5_digest_188 : decode cX5_digest 188 = .ok (.i2l, 1) := by decide +kernel
theorem dX5_digest_189 : decode cX5_digest 189 = .ok (.ladd, 1) := by decide +kernel
theorem dX5_digest_190 : decode cX5_digest 190 = .ok (.lstore_n 1, 1) := by decide +kernel
theorem dX5_digest_191 : decode cX5_digest 191 = .ok (.iinc 3 1, 3) := by decide +kernel
theorem dX5_digest_194 : decode cX5_digest 194 = .ok (.goto (-31), 3) := by decide +kernel
theorem dX5_digest_197 : decode cX5_digest 197 = .ok (.iconst 0, 1) := by decide +kernel
theorem dX5_digest_198 : decode cX5_digest 198 = .ok (.istore_n 3, 1) := by decide +kernel
theorem dX5_digest_199 : decode cX5_digest 199 = .ok (.iload_n 3, 1) := by decide +kernel
theorem dX5_digest_200 : decode cX5_digest 200 = .ok (.aload_n 0, 1) := by decide +kernel
theorem dX5_digest_201 : decode cX5_digest 201 = .ok (.getfield 10, 3) := by decide +kernel
theorem dX5_digest_204 : decode cX5_digest 204 = .ok (.getfield 143, 3) := by decide +kernel
theorem dX5_digest_207 : decode cX5_digest 207 = .ok (.if_icmp .ge 43, 3) := by decide +kernel
theorem dX5_digest_210 : decode cX5_digest 210 = .ok (.iconst 0, 1) := by decide +kernel
theorem dX5_digest_211 : decode cX5_digest 211 = .ok (.istore 4, 2) := by decide +kernel
theorem dX5_digest_213 : decode cX5_digest 213 = .ok (.iload 4, 2) := by decide +kernel
theorem dX5_digest_215 : decode cX5_digest 215 = .ok (.bipush 10, 2) := by decide +kernel
theorem dX5_digest_217 : decode cX5_digest 217 = .ok (.if_icmp .ge 27, 3) := by decide +kernel
theorem dX5_digest_220 : decode cX5_digest 220 = .ok (.ldc2_w 218, 3) := by decide +kernel
theorem dX5_digest_223 : decode cX5_digest 223 = .ok (.lload_n 1, 1) := by decide +kernel
theorem dX5_digest_224 : decode cX5_digest 224 = .ok (.lmul, 1) := by decide +kernel
theorem dX5_digest_225 : decode cX5_digest 225 = .ok (.aload_n 0, 1) := by decide +kernel
theorem dX5_digest_226 : decode cX5_digest 226 = .ok (.getfield 10, 3) := by decide +kernel
theorem dX5_digest_229 : decode cX5_digest 229 = .ok (.iload_n 3, 1) := by decide +kernel
theorem dX5_digest_230 : decode cX5_digest 230 = .ok (.iload 4, 2) := by decide +kernel
theorem dX5_digest_232 : decode cX5_digest 232 = .ok (.invokevirtual 161, 3) := by decide +kernel
theorem dX5_digest_235 : decode cX5_digest 235 = .ok (.i2l, 1) := by decide +kernel
theorem dX5_digest_236 : decode cX5_digest 236 = .ok (.ladd, 1) := by decide +kernel
theorem dX5_digest_237 : decode cX5_digest 237 = .ok (.lstore_n 1, 1) := by decide +kernel
theorem dX5_digest_238 : decode cX5_digest 238 = .ok (.iinc 4 1, 3) := by decide +kernel
theorem dX5_digest_241 : decode cX5_digest 241 = .ok (.goto (-28), 3) := by decide +kernel
theorem dX5_digest_244 : decode cX5_digest 244 = .ok (.iinc 3 1, 3) := by decide +kernel
theorem dX5_digest_247 : decode cX5_digest 247 = .ok (.goto (-48), 3) := by decide +kernel
theorem dX5_digest_250 : decode cX5_digest 250 = .ok (.iconst 1, 1) := by decide +kernel
theorem dX5_digest_251 : decode cX5_digest 251 = .ok (.istore_n 3, 1) := by decide +kernel
theorem dX5_digest_252 : decode cX5_digest 252 = .ok (.iload_n 3, 1) := by decide +kernel
theorem dX5_digest_253 : decode cX5_digest 253 = .ok (.bipush 10, 2) := by decide +kernel
theorem dX5_digest_255 : decode cX5_digest 255 = .ok (.if_icmp .ge 21, 3) := by decide +kernel
theorem dX5_digest_258 : decode cX5_digest 258 = .ok (.ldc2_w 218, 3) := by decide +kernel
theorem dX5_digest_261 : decode cX5_digest 261 = .ok (.lload_n 1, 1) := by decide +kernel
theorem dX5_digest_262 : decode cX5_digest 262 = .ok (.lmul, 1) := by decide +kernel
theorem dX5_digest_263 : decode cX5_digest 263 = .ok (.aload_n 0, 1) := by decide +kernel
theorem dX5_digest_264 : decode cX5_digest 264 = .ok (.iload_n 3, 1) := by decide +kernel
theorem dX5_digest_265 : decode cX5_digest 265 = .ok (.invokevirtual 220, 3) := by decide +kernel
theorem dX5_digest_268 : decode cX5_digest 268 = .ok (.ladd, 1) := by decide +kernel
theorem dX5_digest_269 : decode cX5_digest 269 = .ok (.lstore_n 1, 1) := by decide +kernel
theorem dX5_digest_270 : decode cX5_digest 270 = .ok (.iinc 3 1, 3) := by decide +kernel
theorem dX5_digest_273 : decode cX5_digest 273 = .ok (.goto (-21), 3) := by decide +kernel
theorem dX5_digest_276 : decode cX5_digest 276 = .ok (.ldc2_w 218, 3) := by decide +kernel
theorem dX5_digest_279 : decode cX5_digest 279 = .ok (.lload_n 1, 1) := by decide +kernel
theorem dX5_digest_280 : decode cX5_digest 280 = .ok (.lmul, 1) := by decide +kernel
theorem dX5_digest_281 : decode cX5_digest 281 = .ok (.aload_n 0, 1) := by decide +kernel
theorem dX5_digest_282 : decode cX5_digest 282 = .ok (.getfield 207, 3) := by decide +kernel
theorem dX5_digest_285 : decode cX5_digest 285 = .ok (.i2l, 1) := by decide +kernel
theorem dX5_digest_286 : decode cX5_digest 286 = .ok (.ladd, 1) := by decide +kernel
theorem dX5_digest_287 : decode cX5_digest 287 = .ok (.lreturn, 1) := by decide +kernel
theorem dX5_checkRange_0 : decode cX5_checkRange 0 = .ok (.iload_n 0, 1) := by decide +kernel
theorem dX5_checkRange_1 : decode cX5_checkRange 1 = .ok (.iload_n 1, 1) := by decide +kernel
theorem dX5_checkRange_2 : decode cX5_checkRange 2 = .ok (.if_icmp .lt 8, 3) := by decide +kernel
theorem dX5_checkRange_5 : decode cX5_checkRange 5 = .ok (.iload_n 0, 1) := by decide +kernel
theorem dX5_checkRange_6 : decode cX5_checkRange 6 = .ok (.iload_n 2, 1) := by decide +kernel
theorem dX5_checkRange_7 : decode cX5_checkRange 7 = .ok (.if_icmp .le 13, 3) := by decide +kernel
theorem dX5_checkRange_10 : decode cX5_checkRange 10 = .ok (.new 224, 3) := by decide +kernel
theorem dX5_checkRange_13 : decode cX5_checkRange 13 = .ok (.dup, 1) := by decide +kernel
theorem dX5_checkRange_14 : decode cX5_checkRange 14 = .ok (.ldc 226, 2) := by decide +kernel
theorem dX5_checkRange_16 : decode cX5_checkRange 16 = .ok (.invokespecial 228, 3) := by decide +kernel
theorem dX5_checkRange_19 : decode cX5_checkRange 19 = .ok (.athrow, 1) := by decide +kernel
theorem dX5_checkRange_20 : decode cX5_checkRange 20 = .ok (.return_, 1) := by decide +kernel
theorem dX5_checkIndex_0 : decode cX5_checkIndex 0 = .ok (.iload_n 0, 1) := by decide +kernel
theorem dX5_checkIndex_1 : decode cX5_checkIndex 1 = .ok (.ifCond .lt 8, 3) := by decide +kernel
theorem dX5_checkIndex_4 : decode cX5_checkIndex 4 = .ok (.iload_n 0, 1) := by decide +kernel
theorem dX5_checkIndex_5 : decode cX5_checkIndex 5 = .ok (.iload_n 1, 1) := by decide +kernel
theorem dX5_checkIndex_6 : decode cX5_checkIndex 6 = .ok (.if_icmp .lt 13, 3) := by decide +kernel
theorem dX5_checkIndex_9 : decode cX5_checkIndex 9 = .ok (.new 229, 3) := by decide +kernel
theorem dX5_checkIndex_12 : decode cX5_checkIndex 12 = .ok (.dup, 1) := by decide +kernel
theorem dX5_checkIndex_13 : decode cX5_checkIndex 13 = .ok (.ldc 231, 2) := by decide +kernel
theorem dX5_checkIndex_15 : decode cX5_checkIndex 15 = .ok (.invokespecial 233, 3) := by decide +kernel
theorem dX5_checkIndex_18 : decode cX5_checkIndex 18 = .ok (.athrow, 1) := by decide +kernel
theorem dX5_checkIndex_19 : decode cX5_checkIndex 19 = .ok (.return_, 1) := by decide +kernel
theorem dX5_checkRoomForDays_0 : decode cX5_checkRoomForDays 0 = .ok (.aload_n 0, 1) := by decide +kernel
theorem dX5_checkRoomForDays_1 : decode cX5_checkRoomForDays 1 = .ok (.getfield 10, 3) := by decide +kernel
theorem dX5_checkRoomForDays_4 : decode cX5_checkRoomForDays 4 = .ok (.getfield 127, 3) := by decide +kernel
theorem dX5_checkRoomForDays_7 : decode cX5_checkRoomForDays 7 = .ok (.iload_n 1, 1) := by decide +kernel
theorem dX5_checkRoomForDays_8 : decode cX5_checkRoomForDays 8 = .ok (.iadd, 1) := by decide +kernel
theorem dX5_checkRoomForDays_9 : decode cX5_checkRoomForDays 9 = .ok (.bipush 100, 2) := by decide +kernel
theorem dX5_checkRoomForDays_11 : decode cX5_checkRoomForDays 11 = .ok (.if_icmp .le 13, 3) := by decide +kernel
theorem dX5_checkRoomForDays_14 : decode cX5_checkRoomForDays 14 = .ok (.new 39, 3) := by decide +kernel
theorem dX5_checkRoomForDays_17 : decode cX5_checkRoomForDays 17 = .ok (.dup, 1) := by decide +kernel
theorem dX5_checkRoomForDays_18 : decode cX5_checkRoomForDays 18 = .ok (.ldc 234, 2) := by decide +kernel
theorem dX5_checkRoomForDays_20 : decode cX5_checkRoomForDays 20 = .ok (.invokespecial 43, 3) := by decide +kernel
theorem dX5_checkRoomForDays_23 : decode cX5_checkRoomForDays 23 = .ok (.athrow, 1) := by decide +kernel
theorem dX5_checkRoomForDays_24 : decode cX5_checkRoomForDays 24 = .ok (.return_, 1) := by decide +kernel
theorem dX5_nextRandom_0 : decode cX5_nextRandom 0 = .ok (.ldc2_w 236, 3) := by decide +kernel
theorem dX5_nextRandom_3 : decode cX5_nextRandom 3 = .ok (.lload_n 0, 1) := by decide +kernel
theorem dX5_nextRandom_4 : decode cX5_nextRandom 4 = .ok (.lmul, 1) := by decide +kernel
theorem dX5_nextRandom_5 : decode cX5_nextRandom 5 = .ok (.ldc2_w 238, 3) := by decide +kernel
theorem dX5_nextRandom_8 : decode cX5_nextRandom 8 = .ok (.ladd, 1) := by decide +kernel
theorem dX5_nextRandom_9 : decode cX5_nextRandom 9 = .ok (.ldc2_w 240, 3) := by decide +kernel
theorem dX5_nextRandom_12 : decode cX5_nextRandom 12 = .ok (.lrem, 1) := by decide +kernel
theorem dX5_nextRandom_13 : decode cX5_nextRandom 13 = .ok (.lreturn, 1) := by decide +kernel
set_option maxRecDepth 20000 in
theorem ggX5_save_X2_copyFrom : GoodIn wsX5_save wsX2_copyFrom := goodIn_r _ [8, 9, 10, 11, 12, 13, 14, 15, 16, 17, 18, 19, 20, 21, 22, 23, 24, 25, 26, 27, 28, 29, 30, 31, 32, 33, 34, 35, 36, 37, 38, 39, 40, 41, 42, 43, 44, 45, 46, 47, 48, 49, 50, 51, 52, 53, 54, 55, 56, 57, 58, 59, 60, 61, 62, 63, 64, 65, 66, 67, 68, 69, 70, 71, 77, 78, 79, 80, 81, 82, 83, 84, 85, 86, 87, 88, 89, 90, 91, 92, 93, 94, 95, 96, 97, 98, 99, 100, 101, 102, 103, 104, 105] (by decide +kernel) (by decide +kernel)
set_option maxRecDepth 20000 in
theorem gX5_save_X2_copyFrom : GoodIn wsX5_save (wsV RX5 212 RX2 yX2_copyFrom wsX2_copyFrom) := goodIn_app (goodIn_of _ (by decide +kernel)) ggX5_save_X2_copyFrom
theorem dX5_save_0 : decode cX5_save 0 = .ok (.aload_n 0, 1) := by decide +kernel
theorem dX5_save_1 : decode cX5_save 1 = .ok (.getfield 207, 3) := by decide +kernel
theorem dX5_save_4 : decode cX5_save 4 = .ok (.iconst 4, 1) := by decide +kernel
theorem dX5_save_5 : decode cX5_save 5 = .ok (.if_icmp .lt 49, 3) := by decide +kernel
theorem dX5_save_8 : decode cX5_save 8 = .ok (.aload_n 0, 1) := by decide +kernel
theorem dX5_save_9 : decode cX5_save 9 = .ok (.getfield 19, 3) := by decide +kernel
theorem dX5_save_12 : decode cX5_save 12 = .ok (.iconst 0, 1) := by decide +kernel
theorem dX5_save_13 : decode cX5_save 13 = .ok (.aaload, 1) := by decide +kernel
theorem dX5_save_14 : decode cX5_save 14 = .ok (.astore_n 1, 1) := by decide +kernel
theorem dX5_save_15 : decode cX5_save 15 = .ok (.iconst 1, 1) := by decide +kernel
theorem dX5_save_16 : decode cX5_save 16 = .ok (.istore_n 2, 1) := by decide +kernel
theorem dX5_save_17 : decode cX5_save 17 = .ok (.iload_n 2, 1) := by decide +kernel
theorem dX5_save_18 : decode cX5_save 18 = .ok (.iconst 4, 1) := by decide +kernel
theorem dX5_save_19 : decode cX5_save 19 = .ok (.if_icmp .ge 23, 3) := by decide +kernel
theorem dX5_save_22 : decode cX5_save 22 = .ok (.aload_n 0, 1) := by decide +kernel
theorem dX5_save_23 : decode cX5_save 23 = .ok (.getfield 19, 3) := by decide +kernel
theorem dX5_save_26 : decode cX5_save 26 = .ok (.iload_n 2, 1) := by decide +kernel
theorem dX5_save_27 : decode cX5_save 27 = .ok (.iconst 1, 1) := by decide +kernel
theorem dX5_save_28 : decode cX5_save 28 = .ok (.isub, 1) := by decide +kernel
theorem dX5_save_29 : decode cX5_save 29 = .ok (.aload_n 0, 1) := by decide +kernel
theorem dX5_save_30 : decode cX5_save 30 = .ok (.getfield 19, 3) := by decide +kernel
theorem dX5_save_33 : decode cX5_save 33 = .ok (.iload_n 2, 1) := by decide +kernel
theorem dX5_save_34 : decode cX5_save 34 = .ok (.aaload, 1) := by decide +kernel
theorem dX5_save_35 : decode cX5_save 35 = .ok (.aastore, 1) := by decide +kernel
theorem dX5_save_36 : decode cX5_save 36 = .ok (.iinc 2 1, 3) := by decide +kernel
theorem dX5_save_39 : decode cX5_save 39 = .ok (.goto (-22), 3) := by decide +kernel
theorem dX5_save_42 : decode cX5_save 42 = .ok (.aload_n 0, 1) := by decide +kernel
theorem dX5_save_43 : decode cX5_save 43 = .ok (.getfield 19, 3) := by decide +kernel
theorem dX5_save_46 : decode cX5_save 46 = .ok (.iconst 3, 1) := by decide +kernel
theorem dX5_save_47 : decode cX5_save 47 = .ok (.aload_n 1, 1) := by decide +kernel
theorem dX5_save_48 : decode cX5_save 48 = .ok (.aastore, 1) := by decide +kernel
theorem dX5_save_49 : decode cX5_save 49 = .ok (.aload_n 0, 1) := by decide +kernel
theorem dX5_save_50 : decode cX5_save 50 = .ok (.iconst 3, 1) := by decide +kernel
theorem dX5_save_51 : decode cX5_save 51 = .ok (.putfield 207, 3) := by decide +kernel
theorem dX5_save_54 : decode cX5_save 54 = .ok (.aload_n 0, 1) := by decide +kernel
theorem dX5_save_55 : decode cX5_save 55 = .ok (.getfield 19, 3) := by decide +kernel
theorem dX5_save_58 : decode cX5_save 58 = .ok (.aload_n 0, 1) := by decide +kernel
theorem dX5_save_59 : decode cX5_save 59 = .ok (.getfield 207, 3) := by decide +kernel
theorem dX5_save_62 : decode cX5_save 62 = .ok (.aaload, 1) := by decide +kernel
theorem dX5_save_63 : decode cX5_save 63 = .ok (.aload_n 0, 1) := by decide +kernel
theorem dX5_save_64 : decode cX5_save 64 = .ok (.getfield 10, 3) := by decide +kernel
theorem dX5_save_67 : decode cX5_save 67 = .ok (.invokevirtual 212, 3) := by decide +kernel
theorem dX5_save_70 : decode cX5_save 70 = .ok (.aload_n 0, 1) := by decide +kernel
theorem dX5_save_71 : decode cX5_save 71 = .ok (.dup, 1) := by decide +kernel
theorem dX5_save_72 : decode cX5_save 72 = .ok (.getfield 207, 3) := by decide +kernel
theorem dX5_save_75 : decode cX5_save 75 = .ok (.iconst 1, 1) := by decide +kernel
theorem dX5_save_76 : decode cX5_save 76 = .ok (.iadd, 1) := by decide +kernel
theorem dX5_save_77 : decode cX5_save 77 = .ok (.putfield 207, 3) := by decide +kernel
theorem dX5_save_80 : decode cX5_save 80 = .ok (.return_, 1) := by decide +kernel
set_option maxRecDepth 20000 in
theorem ggX5_prepareTrial_X2_copyFrom : GoodIn wsX5_prepareTrial wsX2_copyFrom := goodIn_r _ [8, 9, 10, 11, 12, 13, 14, 15, 16, 17, 18, 19, 20, 21, 22, 23, 24, 25, 26, 27, 28, 29, 30, 31, 32, 33, 34, 35, 36, 37, 38, 39, 40, 41, 42, 43, 44, 45, 46, 47, 48, 49, 50, 51, 52, 53, 54, 55, 56, 57, 58, 59, 60, 61, 62, 63, 64, 65, 66, 67, 68, 69, 70, 71, 122, 123, 124, 125, 126, 127, 128, 129, 130, 131, 132, 133, 134, 135, 136, 137, 138, 139, 140, 141, 142, 143, 144, 145, 146, 147, 148, 149, 150] (by decide +kernel) (by decide +kernel)
set_option maxRecDepth 20000 in
theorem gX5_prepareTrial_X2_copyFrom : GoodIn wsX5_prepareTrial (wsV RX5 212 RX2 yX2_copyFrom wsX2_copyFrom) := goodIn_app (goodIn_of _ (by decide +kernel)) ggX5_prepareTrial_X2_copyFrom
set_option maxRecDepth 20000 in
theorem ggX5_prepareTrial_X2_goBack : GoodIn wsX5_prepareTrial wsX2_goBack := goodIn_r _ [75, 24, 26, 27, 28, 15, 16, 17, 76, 45, 46, 32, 47, 38, 39, 77, 78, 79, 51, 80, 53, 54, 81, 69, 70, 58, 71, 62, 63, 122, 123, 124, 125, 126, 127, 128, 129, 130, 131, 132, 133, 134, 135, 136, 137, 138, 139, 140, 141, 142, 143, 144, 145, 146, 147, 148, 149, 150] (by decide +kernel) (by decide +kernel)
set_option maxRecDepth 20000 in
theorem gX5_prepareTrial_X2_goBack : GoodIn wsX5_prepareTrial (wsV RX5 158 RX2 yX2_goBack wsX2_goBack) := goodIn_app (goodIn_of _ (by decide +kernel)) ggX5_prepareTrial_X2_goBack
set_option maxRecDepth 20000 in
theorem ggX5_prepareTrial_X2_collect : GoodIn wsX5_prepareTrial wsX2_collect := goodIn_r _ [85, 19, 15, 16, 86, 87, 88, 7, 89, 27, 13, 90, 91, 92, 32, 93, 38, 94, 95, 96, 97, 34, 35, 98, 99, 100, 101, 36, 102, 103, 104, 105, 106, 107, 108, 109, 37, 110, 111, 112, 39, 113, 114, 115, 116, 25, 122, 123, 124, 125, 126, 127, 128, 129, 130, 131, 132, 133, 134, 135, 136, 137, 138, 139, 140, 141, 142, 143] (by decide +kernel) (by decide +kernel)
set_option maxRecDepth 20000 in
theorem gX5_prepareTrial_X2_collect : GoodIn wsX5_prepareTrial (wsV RX5 148 RX2 yX2_collect wsX2_collect) := goodIn_app (goodIn_of _ (by decide +kernel)) ggX5_prepareTrial_X2_collect
theorem dX5_prepareTrial_0 : decode cX5_prepareTrial 0 = .ok (.aload_n 0, 1) := by decide +kernel
theorem dX5_prepareTrial_1 : decode cX5_prepareTrial 1 = .ok (.getfield 16, 3) := by decide +kernel
theorem dX5_prepareTrial_4 : decode cX5_prepareTrial 4 = .ok (.aload_n 0, 1) := by decide +kernel
theorem dX5_prepareTrial_5 : decode cX5_prepareTrial 5 = .ok (.getfield 10, 3) := by decide +kernel
theorem dX5_prepareTrial_8 : decode cX5_prepareTrial 8 = .ok (.invokevirtual 212, 3) := by decide +kernel
theorem dX5_prepareTrial_11 : decode cX5_prepareTrial 11 = .ok (.aload_n 0, 1) := by decide +kernel
theorem dX5_prepareTrial_12 : decode cX5_prepareTrial 12 = .ok (.getfield 16, 3) := by decide +kernel
theorem dX5_prepareTrial_15 : decode cX5_prepareTrial 15 = .ok (.invokevirtual 158, 3) := by decide +kernel
theorem dX5_prepareTrial_18 : decode cX5_prepareTrial 18 = .ok (.iconst 0, 1) := by decide +kernel
theorem dX5_prepareTrial_19 : decode cX5_prepareTrial 19 = .ok (.istore_n 1, 1) := by decide +kernel
theorem dX5_prepareTrial_20 : decode cX5_prepareTrial 20 = .ok (.iload_n 1, 1) := by decide +kernel
theorem dX5_prepareTrial_21 : decode cX5_prepareTrial 21 = .ok (.aload_n 0, 1) := by decide +kernel
theorem dX5_prepareTrial_22 : decode cX5_prepareTrial 22 = .ok (.getfield 16, 3) := by decide +kernel
theorem dX5_prepareTrial_25 : decode cX5_prepareTrial 25 = .ok (.getfield 127, 3) := by decide +kernel
theorem dX5_prepareTrial_28 : decode cX5_prepareTrial 28 = .ok (.if_icmp .ge 17, 3) := by decide +kernel
theorem dX5_prepareTrial_31 : decode cX5_prepareTrial 31 = .ok (.aload_n 0, 1) := by decide +kernel
theorem dX5_prepareTrial_32 : decode cX5_prepareTrial 32 = .ok (.getfield 16, 3) := by decide +kernel
theorem dX5_prepareTrial_35 : decode cX5_prepareTrial 35 = .ok (.iload_n 1, 1) := by decide +kernel
theorem dX5_prepareTrial_36 : decode cX5_prepareTrial 36 = .ok (.invokevirtual 148, 3) := by decide +kernel
theorem dX5_prepareTrial_39 : decode cX5_prepareTrial 39 = .ok (.iinc 1 1, 3) := by decide +kernel
theorem dX5_prepareTrial_42 : decode cX5_prepareTrial 42 = .ok (.goto (-22), 3) := by decide +kernel
theorem dX5_prepareTrial_45 : decode cX5_prepareTrial 45 = .ok (.return_, 1) := by decide +kernel
theorem dX5_setTrialCapacity_0 : decode cX5_setTrialCapacity 0 = .ok (.aload_n 0, 1) := by decide +kernel
theorem dX5_setTrialCapacity_1 : decode cX5_setTrialCapacity 1 = .ok (.getfield 16, 3) := by decide +kernel
theorem dX5_setTrialCapacity_4 : decode cX5_setTrialCapacity 4 = .ok (.iload_n 1, 1) := by decide +kernel
theorem dX5_setTrialCapacity_5 : decode cX5_setTrialCapacity 5 = .ok (.putfield 86, 3) := by decide +kernel
theorem dX5_setTrialCapacity_8 : decode cX5_setTrialCapacity 8 = .ok (.aload_n 0, 1) := by decide +kernel
theorem dX5_setTrialCapacity_9 : decode cX5_setTrialCapacity 9 = .ok (.getfield 16, 3) := by decide +kernel
theorem dX5_setTrialCapacity_12 : decode cX5_setTrialCapacity 12 = .ok (.aload_n 0, 1) := by decide +kernel
theorem dX5_setTrialCapacity_13 : decode cX5_setTrialCapacity 13 = .ok (.getfield 10, 3) := by decide +kernel
theorem dX5_setTrialCapacity_16 : decode cX5_setTrialCapacity 16 = .ok (.getfield 89, 3) := by decide +kernel
theorem dX5_setTrialCapacity_19 : decode cX5_setTrialCapacity 19 = .ok (.iload_n 1, 1) := by decide +kernel
theorem dX5_setTrialCapacity_20 : decode cX5_setTrialCapacity 20 = .ok (.invokestatic 242, 3) := by decide +kernel
theorem dX5_setTrialCapacity_23 : decode cX5_setTrialCapacity 23 = .ok (.putfield 89, 3) := by decide +kernel
theorem dX5_setTrialCapacity_26 : decode cX5_setTrialCapacity 26 = .ok (.aload_n 0, 1) := by decide +kernel
theorem dX5_setTrialCapacity_27 : decode cX5_setTrialCapacity 27 = .ok (.getfield 16, 3) := by decide +kernel
theorem dX5_setTrialCapacity_30 : decode cX5_setTrialCapacity 30 = .ok (.aload_n 0, 1) := by decide +kernel
theorem dX5_setTrialCapacity_31 : decode cX5_setTrialCapacity 31 = .ok (.getfield 10, 3) := by decide +kernel
theorem dX5_setTrialCapacity_34 : decode cX5_setTrialCapacity 34 = .ok (.getfield 92, 3) := by decide +kernel
theorem dX5_setTrialCapacity_37 : decode cX5_setTrialCapacity 37 = .ok (.iload_n 1, 1) := by decide +kernel
theorem dX5_setTrialCapacity_38 : decode cX5_setTrialCapacity 38 = .ok (.invokestatic 242, 3) := by decide +kernel
theorem dX5_setTrialCapacity_41 : decode cX5_setTrialCapacity 41 = .ok (.putfield 92, 3) := by decide +kernel
theorem dX5_setTrialCapacity_44 : decode cX5_setTrialCapacity 44 = .ok (.return_, 1) := by decide +kernel
end
section
set_option maxRecDepth 20000 in
theorem wsL_law_ip1 : GoodIn lw_tbl wsL_law0_r1 := goodIn_p wsL_law0_r1 [33, 36, 41] (by decide +kernel) (by decide +kernel)
set_option maxRecDepth 20000 in
theorem wsL_law_ip2 : GoodIn lw_tbl wsL_law0_r2 := goodIn_p wsL_law0_r2 [48, 74] (by decide +kernel) (by decide +kernel)
set_option maxRecDepth 20000 in
theorem wsL_law_ip3 : GoodIn lw_tbl wsL_law0_r3 := goodIn_p wsL_law0_r3 [81, 180, 561, 553, 557] (by decide +kernel) (by decide +kernel)
set_option maxRecDepth 20000 in
theorem wsL_law_ip4 : GoodIn lw_tbl wsL_law0_r4 := goodIn_p wsL_law0_r4 [565, 221, 300, 304] (by decide +kernel) (by decide +kernel)
set_option maxRecDepth 20000 in
theorem wsL_law_ip5 : GoodIn lw_tbl wsL_law0_r5 := goodIn_p wsL_law0_r5 [308] (by decide +kernel) (by decide +kernel)
set_option maxRecDepth 20000 in
theorem wsL_law_ip6 : GoodIn lw_tbl wsL_law0_r6 := goodIn_p wsL_law0_r6 [312, 316, 320, 324, 328] (by decide +kernel) (by decide +kernel)
set_option maxRecDepth 20000 in
theorem wsL_law_ip7 : GoodIn lw_tbl wsL_law0_r7 := goodIn_p wsL_law0_r7 [332, 572, 577, 580, 584] (by decide +kernel) (by decide +kernel)
set_option maxRecDepth 20000 in
theorem wsL_law_ip8 : GoodIn lw_tbl wsL_law0_r8 := goodIn_p wsL_law0_r8 [414, 392, 589, 218] (by decide +kernel) (by decide +kernel)
set_option maxRecDepth 20000 in
theorem wsL_law_ip9 : GoodIn lw_tbl wsL_law0_r9 := goodIn_p wsL_law0_r9 [292, 594, 599, 603] (by decide +kernel) (by decide +kernel)
set_option maxRecDepth 20000 in
theorem wsL_law_ip10 : GoodIn lw_tbl wsL_law0_r10 := goodIn_p wsL_law0_r10 [612, 296, 339, 344, 616, 366] (by decide +kernel) (by decide +kernel)
set_option maxRecDepth 20000 in
theorem wsL_law_ip11 : GoodIn lw_tbl wsL_law0_r11 := goodIn_p wsL_law0_r11 [370, 374, 378, 382, 385, 389] (by decide +kernel) (by decide +kernel)
set_option maxRecDepth 20000 in
theorem wsL_law_ip12 : GoodIn lw_tbl wsL_law0_r12 := goodIn_p wsL_law0_r12 [396, 409, 353, 419, 423] (by decide +kernel) (by decide +kernel)
set_option maxRecDepth 20000 in
theorem wsL_law_ip13 : GoodIn lw_tbl wsL_law0_r13 := goodIn_p wsL_law0_r13 [427, 431, 435, 439, 444] (by decide +kernel) (by decide +kernel)
set_option maxRecDepth 20000 in
theorem wsL_law_ip14 : GoodIn lw_tbl wsL_law0_r14 := goodIn_p wsL_law0_r14 [448, 452, 456, 461, 466, 471] (by decide +kernel) (by decide +kernel)
set_option maxRecDepth 20000 in
theorem wsL_law_ip15 : GoodIn lw_tbl wsL_law0_r15 := goodIn_p wsL_law0_r15 [622, 349, 626, 499, 549] (by decide +kernel) (by decide +kernel)
set_option maxRecDepth 20000 in
theorem wsL_law_ip16 : GoodIn lw_tbl wsL_law0_r16 := goodIn_p wsL_law0_r16 [630, 634, 638, 642, 545, 646] (by decide +kernel) (by decide +kernel)
set_option maxRecDepth 20000 in
theorem wsL_law_ip17 : GoodIn lw_tbl wsL_law0_r17 := goodIn_p wsL_law0_r17 [650, 357, 362, 400, 405] (by decide +kernel) (by decide +kernel)
set_option maxRecDepth 20000 in
theorem wsL_law_ip18 : GoodIn lw_tbl wsL_law0_r18 := goodIn_p wsL_law0_r18 [475, 479, 483, 488, 492, 496] (by decide +kernel) (by decide +kernel)
set_option maxRecDepth 20000 in
theorem wsL_law_ip19 : GoodIn lw_tbl wsL_law0_r19 := goodIn_p wsL_law0_r19 [539, 519] (by decide +kernel) (by decide +kernel)
theorem wsL_law_iwsX50 : GoodIn lw_tbl wsX50 := goodIn_p wsX50 [] (by decide +kernel) (by decide +kernel)
theorem wsL_law_iwsX20 : GoodIn lw_tbl wsX20 := goodIn_p wsX20 [] (by decide +kernel) (by decide +kernel)
theorem wsL_law_iwsX00 : GoodIn lw_tbl wsX00 := goodIn_p wsX00 [] (by decide +kernel) (by decide +kernel)
theorem wsL_law_iwsX10 : GoodIn lw_tbl wsX10 := goodIn_p wsX10 [] (by decide +kernel) (by decide +kernel)
theorem wsL_law_iwsX40 : GoodIn lw_tbl wsX40 := goodIn_p wsX40 [] (by decide +kernel) (by decide +kernel)
theorem wsL_law_iwsX30 : GoodIn lw_tbl wsX30 := goodIn_p wsX30 [] (by decide +kernel) (by decide +kernel)
theorem wsL_law_in0 : ∀ w ∈ wsL_law0, w ∈ lw_tbl := fun w h => ((show GoodIn lw_tbl wsL_law0 from (goodIn_app (goodIn_app (goodIn_app (goodIn_app (goodIn_app (goodIn_app (goodIn_app (goodIn_app wsL_law_ip1 (goodIn_app wsL_law_ip2 (goodIn_app wsL_law_ip3 (goodIn_app wsL_law_ip4 (goodIn_app wsL_law_ip5 (goodIn_app wsL_law_ip6 (goodIn_app wsL_law_ip7 (goodIn_app wsL_law_ip8 (goodIn_app wsL_law_ip9 (goodIn_app wsL_law_ip10 (goodIn_app wsL_law_ip11 (goodIn_app wsL_law_ip12 (goodIn_app wsL_law_ip13 (goodIn_app wsL_law_ip14 (goodIn_app wsL_law_ip15 (goodIn_app wsL_law_ip16 (goodIn_app wsL_law_ip17 (goodIn_app wsL_law_ip18 wsL_law_ip19)))))))))))))))))) wsL_law_iwsX50) wsL_law_iwsX20) wsL_law_iwsX00) wsL_law_iwsX10) wsL_law_iwsX40) wsL_law_iwsX30) (fun _ h => absurd h List.not_mem_nil))) w h).1
theorem wsL_law_x0 : ∀ w ∈ (vx_atS RX5 43 "java/lang/IllegalStateException" ["java/lang/RuntimeException", "java/lang/Exception"]).filter goodWord, w ∈ lw_tbl := by decide +kernel
theorem wsL_law_x1 : ∀ w ∈ (vx_atS RX5 228 "java/lang/IllegalArgumentException" ["java/lang/RuntimeException", "java/lang/Exception"]).filter goodWord, w ∈ lw_tbl := by decide +kernel
theorem wsL_law_x2 : ∀ w ∈ (vx_atS RX5 233 "java/lang/IndexOutOfBoundsException" ["java/lang/RuntimeException", "java/lang/Exception"]).filter goodWord, w ∈ lw_tbl := by decide +kernel
theorem wsL_law_in : ∀ w ∈ wsL_law, w ∈ lw_tbl := fun w h => (List.mem_append.mp h).elim (fun h => (List.mem_append.mp h).elim (fun h => (List.mem_append.mp h).elim (fun h => wsL_law_in0 w h) (fun h => wsL_law_x0 w h)) (fun h => wsL_law_x1 w h)) (fun h => wsL_law_x2 w h)
theorem inlX0 : ∀ w ∈ wsX00, w ∈ wsL_law := fun _ h => List.mem_append_left _ (List.mem_append_left _ (List.mem_append_left _ (List.mem_append_left _ (List.mem_append_left _ (List.mem_append_left _ (List.mem_append_left _ (List.mem_append_right _ h)))))))
theorem inX0 : ∀ w ∈ wsX00, w ∈ lw_tbl := fun w h => wsL_law_in w (inlX0 w h)
theorem inlX1 : ∀ w ∈ wsX10, w ∈ wsL_law := fun _ h => List.mem_append_left _ (List.mem_append_left _ (List.mem_append_left _ (List.mem_append_left _ (List.mem_append_left _ (List.mem_append_left _ (List.mem_append_right _ h))))))
theorem inX1 : ∀ w ∈ wsX10, w ∈ lw_tbl := fun w h => wsL_law_in w (inlX1 w h)
theorem inlX2 : ∀ w ∈ wsX20, w ∈ wsL_law := fun _ h => List.mem_append_left _ (List.mem_append_left _ (List.mem_append_left _ (List.mem_append_left _ (List.mem_append_left _ (List.mem_append_left _ (List.mem_append_left _ (List.mem_append_left _ (List.mem_append_right _ h))))))))
theorem inX2 : ∀ w ∈ wsX20, w ∈ lw_tbl := fun w h => wsL_law_in w (inlX2 w h)
theorem inlX3 : ∀ w ∈ wsX30, w ∈ wsL_law := fun _ h => List.mem_append_left _ (List.mem_append_left _ (List.mem_append_left _ (List.mem_append_left _ (List.mem_append_right _ h))))
theorem inX3 : ∀ w ∈ wsX30, w ∈ lw_tbl := fun w h => wsL_law_in w (inlX3 w h)
theorem inlX4 : ∀ w ∈ wsX40, w ∈ wsL_law := fun _ h => List.mem_append_left _ (List.mem_append_left _ (List.mem_append_left _ (List.mem_append_left _ (List.mem_append_left _ (List.mem_append_right _ h)))))
theorem inX4 : ∀ w ∈ wsX40, w ∈ lw_tbl := fun w h => wsL_law_in w (inlX4 w h)
theorem inlX5 : ∀ w ∈ wsX50, w ∈ wsL_law := fun _ h => List.mem_append_left _ (List.mem_append_left _ (List.mem_append_left _ (List.mem_append_left _ (List.mem_append_left _ (List.mem_append_left _ (List.mem_append_left _ (List.mem_append_left _ (List.mem_append_left _ (List.mem_append_right _ h)))))))))
theorem inX5 : ∀ w ∈ wsX50, w ∈ lw_tbl := fun w h => wsL_law_in w (inlX5 w h)
theorem inX6 : ∀ w ∈ wsX60, w ∈ lw_tbl := by decide +kernel
theorem inJ9 : ∀ w ∈ wsJ90, w ∈ lw_tbl := by decide +kernel
theorem inJ0 : ∀ w ∈ wsJ00, w ∈ lw_tbl := by decide +kernel
theorem inJ10 : ∀ w ∈ wsJ100, w ∈ lw_tbl := by decide +kernel
end
section
theorem dJ9_max_7cf53_0 : decode cJ9_max_7cf53 0 = .ok (.iload_n 0, 1) := by decide +kernel
theorem dJ9_max_7cf53_1 : decode cJ9_max_7cf53 1 = .ok (.iload_n 1, 1) := by decide +kernel
theorem dJ9_max_7cf53_2 : decode cJ9_max_7cf53 2 = .ok (.if_icmp .lt 7, 3) := by decide +kernel
theorem dJ9_max_7cf53_5 : decode cJ9_max_7cf53 5 = .ok (.iload_n 0, 1) := by decide +kernel
theorem dJ9_max_7cf53_6 : decode cJ9_max_7cf53 6 = .ok (.goto 4, 3) := by decide +kernel
theorem dJ9_max_7cf53_9 : decode cJ9_max_7cf53 9 = .ok (.iload_n 1, 1) := by decide +kernel
theorem dJ9_max_7cf53_10 : decode cJ9_max_7cf53 10 = .ok (.ireturn, 1) := by decide +kernel
theorem dJ9_min_7cf53_0 : decode cJ9_min_7cf53 0 = .ok (.iload_n 0, 1) := by decide +kernel
theorem dJ9_min_7cf53_1 : decode cJ9_min_7cf53 1 = .ok (.iload_n 1, 1) := by decide +kernel
theorem dJ9_min_7cf53_2 : decode cJ9_min_7cf53 2 = .ok (.if_icmp .gt 7, 3) := by decide +kernel
theorem dJ9_min_7cf53_5 : decode cJ9_min_7cf53 5 = .ok (.iload_n 0, 1) := by decide +kernel
theorem dJ9_min_7cf53_6 : decode cJ9_min_7cf53 6 = .ok (.goto 4, 3) := by decide +kernel
theorem dJ9_min_7cf53_9 : decode cJ9_min_7cf53 9 = .ok (.iload_n 1, 1) := by decide +kernel
theorem dJ9_min_7cf53_10 : decode cJ9_min_7cf53 10 = .ok (.ireturn, 1) := by decide +kernel
theorem dL_cell_0 : decode cL_cell 0 = .ok (.iload_n 1, 1) := by decide +kernel
theorem dL_cell_1 : decode cL_cell 1 = .ok (.aload_n 0, 1) := by decide +kernel
theorem dL_cell_2 : decode cL_cell 2 = .ok (.arraylength, 1) := by decide +kernel
theorem dL_cell_3 : decode cL_cell 3 = .ok (.if_icmp .ge 9, 3) := by decide +kernel
theorem dL_cell_6 : decode cL_cell 6 = .ok (.aload_n 0, 1) := by decide +kernel
theorem dL_cell_7 : decode cL_cell 7 = .ok (.iload_n 1, 1) := by decide +kernel
theorem dL_cell_8 : decode cL_cell 8 = .ok (.iaload, 1) := by decide +kernel
theorem dL_cell_9 : decode cL_cell 9 = .ok (.goto 11, 3) := by decide +kernel
theorem dL_cell_12 : decode cL_cell 12 = .ok (.ldc 7, 2) := by decide +kernel
theorem dL_cell_14 : decode cL_cell 14 = .ok (.iload_n 1, 1) := by decide +kernel
theorem dL_cell_15 : decode cL_cell 15 = .ok (.sipush 503, 3) := by decide +kernel
theorem dL_cell_18 : decode cL_cell 18 = .ok (.iadd, 1) := by decide +kernel
theorem dL_cell_19 : decode cL_cell 19 = .ok (.imul, 1) := by decide +kernel
theorem dL_cell_20 : decode cL_cell 20 = .ok (.ireturn, 1) := by decide +kernel
theorem dL_up_0 : decode cL_up 0 = .ok (.iload_n 0, 1) := by decide +kernel
theorem dL_up_1 : decode cL_up 1 = .ok (.ldc 8, 2) := by decide +kernel
theorem dL_up_3 : decode cL_up 3 = .ok (.iand, 1) := by decide +kernel
theorem dL_up_4 : decode cL_up 4 = .ok (.iload_n 1, 1) := by decide +kernel
theorem dL_up_5 : decode cL_up 5 = .ok (.irem, 1) := by decide +kernel
theorem dL_up_6 : decode cL_up 6 = .ok (.ireturn, 1) := by decide +kernel
set_option maxRecDepth 20000 in
theorem ggL_plans_L_cell : GoodIn wsL_plans wsL_cell := goodIn_r _ [4, 5] (by decide +kernel) (by decide +kernel)
set_option maxRecDepth 20000 in
theorem gL_plans_L_cell : GoodIn wsL_plans (va_wsS RL 9 yL_cell wsL_cell) := goodIn_app (goodIn_of _ (by decide +kernel)) ggL_plans_L_cell
set_option maxRecDepth 20000 in
theorem ggL_plans_L_up : GoodIn wsL_plans wsL_up := goodIn_r _ [8, 9] (by decide +kernel) (by decide +kernel)
set_option maxRecDepth 20000 in
theorem gL_plans_L_up : GoodIn wsL_plans (va_wsS RL 15 yL_up wsL_up) := goodIn_app (goodIn_of _ (by decide +kernel)) ggL_plans_L_up
set_option maxRecDepth 20000 in
theorem ggL_plans_X5_addRoof : GoodIn wsL_plans wsX5_addRoof := goodIn_ca (goodIn_ca (goodIn_r _ [14, 15, 16, 17, 18, 19, 20, 21, 22, 13, 23, 24, 25, 26, 27, 28, 29, 30, 31, 32, 33, 34, 35, 36, 37, 38, 39, 40, 41, 42, 43, 44, 45, 46, 47, 48, 49, 50, 51, 52, 53, 54, 55, 56, 57, 58, 59, 60, 61, 62, 63, 64, 65, 66, 67, 68, 69, 70, 71, 72, 73, 74, 75, 76, 77, 78, 79, 80, 81, 82, 83, 84, 85, 86, 87, 88, 89, 90, 91, 92, 93, 94, 95, 96, 97, 98, 99, 100, 109, 110, 111, 112, 113, 114, 115, 116, 117, 118, 119, 120, 121, 122, 123, 124, 125, 126, 127, 128, 129, 130, 131, 132, 133, 134, 135, 136, 137, 138, 139, 140, 141, 142] (by decide +kernel) (by decide +kernel)) (goodIn_sub (fun _ h => List.mem_cons_of_mem _ (List.mem_append_left _ (List.mem_append_right _ h))) (by decide +kernel))) (goodIn_sub (fun _ h => List.mem_cons_of_mem _ (List.mem_append_right _ h)) (by decide +kernel))
set_option maxRecDepth 20000 in
theorem gL_plans_X5_addRoof : GoodIn wsL_plans (wsV RL 19 RX5 yX5_addRoof wsX5_addRoof) := goodIn_app (goodIn_of _ (by decide +kernel)) ggL_plans_X5_addRoof
set_option maxRecDepth 20000 in
theorem ggL_plans_X5_addUser : GoodIn wsL_plans wsX5_addUser := goodIn_ca (goodIn_ca (goodIn_r _ [104, 15, 16, 18, 105, 106, 107, 21, 22, 13, 23, 24, 25, 26, 27, 28, 29, 30, 31, 32, 33, 34, 35, 36, 37, 38, 39, 40, 41, 42, 43, 44, 45, 46, 47, 48, 49, 50, 51, 52, 53, 54, 55, 56, 57, 58, 59, 60, 61, 62, 63, 64, 65, 66, 67, 68, 69, 70, 71, 72, 73, 74, 75, 76, 77, 78, 79, 80, 81, 82, 83, 84, 85, 86, 87, 88, 89, 90, 91, 92, 93, 94, 95, 96, 97, 98, 99, 108, 109, 110, 111, 112, 113, 114, 115, 116, 117, 118, 119, 120, 121, 122, 123, 124, 125, 126, 127, 128, 129, 136, 137, 138, 130, 131, 132, 133, 134, 135, 139, 140, 141, 142] (by decide +kernel) (by decide +kernel)) (goodIn_sub (fun _ h => List.mem_cons_of_mem _ (List.mem_append_left _ (List.mem_append_right _ h))) (by decide +kernel))) (goodIn_sub (fun _ h => List.mem_cons_of_mem _ (List.mem_append_right _ h)) (by decide +kernel))
set_option maxRecDepth 20000 in
theorem gL_plans_X5_addUser : GoodIn wsL_plans (wsV RL 25 RX5 yX5_addUser wsX5_addUser) := goodIn_app (goodIn_of _ (by decide +kernel)) ggL_plans_X5_addUser
theorem dL_plans_0 : decode cL_plans 0 = .ok (.iconst 1, 1) := by decide +kernel
theorem dL_plans_1 : decode cL_plans 1 = .ok (.istore_n 3, 1) := by decide +kernel
theorem dL_plans_2 : decode cL_plans 2 = .ok (.aload_n 2, 1) := by decide +kernel
theorem dL_plans_3 : decode cL_plans 3 = .ok (.iconst 0, 1) := by decide +kernel
theorem dL_plans_4 : decode cL_plans 4 = .ok (.invokestatic 9, 3) := by decide +kernel
theorem dL_plans_7 : decode cL_plans 7 = .ok (.bipush 6, 2) := by decide +kernel
theorem dL_plans_9 : decode cL_plans 9 = .ok (.invokestatic 15, 3) := by decide +kernel
theorem dL_plans_12 : decode cL_plans 12 = .ok (.istore 4, 2) := by decide +kernel
theorem dL_plans_14 : decode cL_plans 14 = .ok (.iconst 0, 1) := by decide +kernel
theorem dL_plans_15 : decode cL_plans 15 = .ok (.istore 5, 2) := by decide +kernel
theorem dL_plans_17 : decode cL_plans 17 = .ok (.iload 5, 2) := by decide +kernel
theorem dL_plans_19 : decode cL_plans 19 = .ok (.iload 4, 2) := by decide +kernel
theorem dL_plans_21 : decode cL_plans 21 = .ok (.if_icmp .ge 210, 3) := by decide +kernel
theorem dL_plans_24 : decode cL_plans 24 = .ok (.aload_n 2, 1) := by decide +kernel
theorem dL_plans_25 : decode cL_plans 25 = .ok (.iconst 1, 1) := by decide +kernel
theorem dL_plans_26 : decode cL_plans 26 = .ok (.iload 5, 2) := by decide +kernel
theorem dL_plans_28 : decode cL_plans 28 = .ok (.iadd, 1) := by decide +kernel
theorem dL_plans_29 : decode cL_plans 29 = .ok (.invokestatic 9, 3) := by decide +kernel
theorem dL_plans_32 : decode cL_plans 32 = .ok (.istore 6, 2) := by decide +kernel
theorem dL_plans_34 : decode cL_plans 34 = .ok (.iconst 2, 1) := by decide +kernel
theorem dL_plans_35 : decode cL_plans 35 = .ok (.iconst 2, 1) := by decide +kernel
theorem dL_plans_36 : decode cL_plans 36 = .ok (.iload 6, 2) := by decide +kernel
theorem dL_plans_38 : decode cL_plans 38 = .ok (.sipush 240, 3) := by decide +kernel
theorem dL_plans_41 : decode cL_plans 41 = .ok (.invokestatic 15, 3) := by decide +kernel
theorem dL_plans_44 : decode cL_plans 44 = .ok (.imul, 1) := by decide +kernel
theorem dL_plans_45 : decode cL_plans 45 = .ok (.iadd, 1) := by decide +kernel
theorem dL_plans_46 : decode cL_plans 46 = .ok (.istore 7, 2) := by decide +kernel
theorem dL_plans_48 : decode cL_plans 48 = .ok (.iload 5, 2) := by decide +kernel
theorem dL_plans_50 : decode cL_plans 50 = .ok (.ifCond .ne 8, 3) := by decide +kernel
theorem dL_plans_53 : decode cL_plans 53 = .ok (.bipush 100, 2) := by decide +kernel
theorem dL_plans_55 : decode cL_plans 55 = .ok (.goto 15, 3) := by decide +kernel
theorem dL_plans_58 : decode cL_plans 58 = .ok (.iconst 1, 1) := by decide +kernel
theorem dL_plans_59 : decode cL_plans 59 = .ok (.iload 6, 2) := by decide +kernel
theorem dL_plans_61 : decode cL_plans 61 = .ok (.bipush 8, 2) := by decide +kernel
theorem dL_plans_63 : decode cL_plans 63 = .ok (.ishr, 1) := by decide +kernel
theorem dL_plans_64 : decode cL_plans 64 = .ok (.bipush 100, 2) := by decide +kernel
theorem dL_plans_66 : decode cL_plans 66 = .ok (.invokestatic 15, 3) := by decide +kernel
theorem dL_plans_69 : decode cL_plans 69 = .ok (.iadd, 1) := by decide +kernel
theorem dL_plans_70 : decode cL_plans 70 = .ok (.istore 8, 2) := by decide +kernel
theorem dL_plans_72 : decode cL_plans 72 = .ok (.iconst 2, 1) := by decide +kernel
theorem dL_plans_73 : decode cL_plans 73 = .ok (.iload 6, 2) := by decide +kernel
theorem dL_plans_75 : decode cL_plans 75 = .ok (.iconst 4, 1) := by decide +kernel
theorem dL_plans_76 : decode cL_plans 76 = .ok (.ishr, 1) := by decide +kernel
theorem dL_plans_77 : decode cL_plans 77 = .ok (.sipush 300, 3) := by decide +kernel
theorem dL_plans_80 : decode cL_plans 80 = .ok (.invokestatic 15, 3) := by decide +kernel
theorem dL_plans_83 : decode cL_plans 83 = .ok (.imul, 1) := by decide +kernel
theorem dL_plans_84 : decode cL_plans 84 = .ok (.istore 9, 2) := by decide +kernel
theorem dL_plans_86 : decode cL_plans 86 = .ok (.iconst 2, 1) := by decide +kernel
theorem dL_plans_87 : decode cL_plans 87 = .ok (.iconst 2, 1) := by decide +kernel
theorem dL_plans_88 : decode cL_plans 88 = .ok (.iload 6, 2) := by decide +kernel
theorem dL_plans_90 : decode cL_plans 90 = .ok (.bipush 12, 2) := by decide +kernel
theorem dL_plans_92 : decode cL_plans 92 = .ok (.ishr, 1) := by decide +kernel
theorem dL_plans_93 : decode cL_plans 93 = .ok (.sipush 3000, 3) := by decide +kernel
theorem dL_plans_96 : decode cL_plans 96 = .ok (.invokestatic 15, 3) := by decide +kernel
theorem dL_plans_99 : decode cL_plans 99 = .ok (.imul, 1) := by decide +kernel
theorem dL_plans_100 : decode cL_plans 100 = .ok (.iadd, 1) := by decide +kernel
theorem dL_plans_101 : decode cL_plans 101 = .ok (.istore 10, 2) := by decide +kernel
theorem dL_plans_103 : decode cL_plans 103 = .ok (.iload_n 3, 1) := by decide +kernel
theorem dL_plans_104 : decode cL_plans 104 = .ok (.ifCond .eq 24, 3) := by decide +kernel
theorem dL_plans_107 : decode cL_plans 107 = .ok (.aload_n 0, 1) := by decide +kernel
theorem dL_plans_108 : decode cL_plans 108 = .ok (.iload 7, 2) := by decide +kernel
theorem dL_plans_110 : decode cL_plans 110 = .ok (.iload 8, 2) := by decide +kernel
theorem dL_plans_112 : decode cL_plans 112 = .ok (.iload 9, 2) := by decide +kernel
theorem dL_plans_114 : decode cL_plans 114 = .ok (.iload 10, 2) := by decide +kernel
theorem dL_plans_116 : decode cL_plans 116 = .ok (.invokevirtual 19, 3) := by decide +kernel
theorem dL_plans_119 : decode cL_plans 119 = .ok (.iload 5, 2) := by decide +kernel
theorem dL_plans_121 : decode cL_plans 121 = .ok (.if_icmp .ne 7, 3) := by decide +kernel
theorem dL_plans_124 : decode cL_plans 124 = .ok (.iconst 1, 1) := by decide +kernel
theorem dL_plans_125 : decode cL_plans 125 = .ok (.goto 4, 3) := by decide +kernel
theorem dL_plans_128 : decode cL_plans 128 = .ok (.iconst 0, 1) := by decide +kernel
theorem dL_plans_129 : decode cL_plans 129 = .ok (.istore_n 3, 1) := by decide +kernel
theorem dL_plans_130 : decode cL_plans 130 = .ok (.iload 5, 2) := by decide +kernel
theorem dL_plans_132 : decode cL_plans 132 = .ok (.ifCond .ne 34, 3) := by decide +kernel
theorem dL_plans_135 : decode cL_plans 135 = .ok (.iload_n 3, 1) := by decide +kernel
theorem dL_plans_136 : decode cL_plans 136 = .ok (.ifCond .eq 28, 3) := by decide +kernel
theorem dL_plans_139 : decode cL_plans 139 = .ok (.aload_n 1, 1) := by decide +kernel
theorem dL_plans_140 : decode cL_plans 140 = .ok (.iload 7, 2) := by decide +kernel
theorem dL_plans_142 : decode cL_plans 142 = .ok (.iconst 2, 1) := by decide +kernel
theorem dL_plans_143 : decode cL_plans 143 = .ok (.idiv, 1) := by decide +kernel
theorem dL_plans_144 : decode cL_plans 144 = .ok (.iload 8, 2) := by decide +kernel
theorem dL_plans_146 : decode cL_plans 146 = .ok (.iload 9, 2) := by decide +kernel
theorem dL_plans_148 : decode cL_plans 148 = .ok (.iconst 2, 1) := by decide +kernel
theorem dL_plans_149 : decode cL_plans 149 = .ok (.idiv, 1) := by decide +kernel
theorem dL_plans_150 : decode cL_plans 150 = .ok (.iload 10, 2) := by decide +kernel
theorem dL_plans_152 : decode cL_plans 152 = .ok (.iconst 2, 1) := by decide +kernel
theorem dL_plans_153 : decode cL_plans 153 = .ok (.idiv, 1) := by decide +kernel
theorem dL_plans_154 : decode cL_plans 154 = .ok (.invokevirtual 19, 3) := by decide +kernel
theorem dL_plans_157 : decode cL_plans 157 = .ok (.ifCond .ne 7, 3) := by decide +kernel
theorem dL_plans_160 : decode cL_plans 160 = .ok (.iconst 1, 1) := by decide +kernel
theorem dL_plans_161 : decode cL_plans 161 = .ok (.goto 4, 3) := by decide +kernel
theorem dL_plans_164 : decode cL_plans 164 = .ok (.iconst 0, 1) := by decide +kernel
theorem dL_plans_165 : decode cL_plans 165 = .ok (.istore_n 3, 1) := by decide +kernel
theorem dL_plans_166 : decode cL_plans 166 = .ok (.iload_n 3, 1) := by decide +kernel
theorem dL_plans_167 : decode cL_plans 167 = .ok (.ifCond .eq 56, 3) := by decide +kernel
theorem dL_plans_170 : decode cL_plans 170 = .ok (.iload 5, 2) := by decide +kernel
theorem dL_plans_172 : decode cL_plans 172 = .ok (.ifCond .ne 28, 3) := by decide +kernel
theorem dL_plans_175 : decode cL_plans 175 = .ok (.aload_n 1, 1) := by decide +kernel
theorem dL_plans_176 : decode cL_plans 176 = .ok (.iload 7, 2) := by decide +kernel
theorem dL_plans_178 : decode cL_plans 178 = .ok (.iconst 2, 1) := by decide +kernel
theorem dL_plans_179 : decode cL_plans 179 = .ok (.idiv, 1) := by decide +kernel
theorem dL_plans_180 : decode cL_plans 180 = .ok (.iload 8, 2) := by decide +kernel
theorem dL_plans_182 : decode cL_plans 182 = .ok (.iload 9, 2) := by decide +kernel
theorem dL_plans_184 : decode cL_plans 184 = .ok (.iconst 2, 1) := by decide +kernel
theorem dL_plans_185 : decode cL_plans 185 = .ok (.idiv, 1) := by decide +kernel
theorem dL_plans_186 : decode cL_plans 186 = .ok (.iload 10, 2) := by decide +kernel
theorem dL_plans_188 : decode cL_plans 188 = .ok (.iconst 2, 1) := by decide +kernel
theorem dL_plans_189 : decode cL_plans 189 = .ok (.idiv, 1) := by decide +kernel
theorem dL_plans_190 : decode cL_plans 190 = .ok (.invokevirtual 19, 3) := by decide +kernel
theorem dL_plans_193 : decode cL_plans 193 = .ok (.iconst 1, 1) := by decide +kernel
theorem dL_plans_194 : decode cL_plans 194 = .ok (.if_icmp .ne 29, 3) := by decide +kernel
theorem dL_plans_197 : decode cL_plans 197 = .ok (.goto 22, 3) := by decide +kernel
theorem dL_plans_200 : decode cL_plans 200 = .ok (.aload_n 1, 1) := by decide +kernel
theorem dL_plans_201 : decode cL_plans 201 = .ok (.iload 7, 2) := by decide +kernel
theorem dL_plans_203 : decode cL_plans 203 = .ok (.iload 8, 2) := by decide +kernel
theorem dL_plans_205 : decode cL_plans 205 = .ok (.iload 9, 2) := by decide +kernel
theorem dL_plans_207 : decode cL_plans 207 = .ok (.iload 10, 2) := by decide +kernel
theorem dL_plans_209 : decode cL_plans 209 = .ok (.invokevirtual 19, 3) := by decide +kernel
theorem dL_plans_212 : decode cL_plans 212 = .ok (.iload 5, 2) := by decide +kernel
theorem dL_plans_214 : decode cL_plans 214 = .ok (.iconst 1, 1) := by decide +kernel
theorem dL_plans_215 : decode cL_plans 215 = .ok (.iadd, 1) := by decide +kernel
theorem dL_plans_216 : decode cL_plans 216 = .ok (.if_icmp .ne 7, 3) := by decide +kernel
theorem dL_plans_219 : decode cL_plans 219 = .ok (.iconst 1, 1) := by decide +kernel
theorem dL_plans_220 : decode cL_plans 220 = .ok (.goto 4, 3) := by decide +kernel
theorem dL_plans_223 : decode cL_plans 223 = .ok (.iconst 0, 1) := by decide +kernel
theorem dL_plans_224 : decode cL_plans 224 = .ok (.istore_n 3, 1) := by decide +kernel
theorem dL_plans_225 : decode cL_plans 225 = .ok (.iinc 5 1, 3) := by decide +kernel
theorem dL_plans_228 : decode cL_plans 228 = .ok (.goto (-211), 3) := by decide +kernel
theorem dL_plans_231 : decode cL_plans 231 = .ok (.aload_n 2, 1) := by decide +kernel
theorem dL_plans_232 : decode cL_plans 232 = .ok (.bipush 7, 2) := by decide +kernel
theorem dL_plans_234 : decode cL_plans 234 = .ok (.invokestatic 9, 3) := by decide +kernel
theorem dL_plans_237 : decode cL_plans 237 = .ok (.bipush 6, 2) := by decide +kernel
theorem dL_plans_239 : decode cL_plans 239 = .ok (.invokestatic 15, 3) := by decide +kernel
theorem dL_plans_242 : decode cL_plans 242 = .ok (.istore 5, 2) := by decide +kernel
theorem dL_plans_244 : decode cL_plans 244 = .ok (.iconst 0, 1) := by decide +kernel
theorem dL_plans_245 : decode cL_plans 245 = .ok (.istore 6, 2) := by decide +kernel
theorem dL_plans_247 : decode cL_plans 247 = .ok (.iload 6, 2) := by decide +kernel
theorem dL_plans_249 : decode cL_plans 249 = .ok (.iload 5, 2) := by decide +kernel
theorem dL_plans_251 : decode cL_plans 251 = .ok (.if_icmp .ge 88, 3) := by decide +kernel
theorem dL_plans_254 : decode cL_plans 254 = .ok (.aload_n 2, 1) := by decide +kernel
theorem dL_plans_255 : decode cL_plans 255 = .ok (.bipush 8, 2) := by decide +kernel
theorem dL_plans_257 : decode cL_plans 257 = .ok (.iload 6, 2) := by decide +kernel
theorem dL_plans_259 : decode cL_plans 259 = .ok (.iadd, 1) := by decide +kernel
theorem dL_plans_260 : decode cL_plans 260 = .ok (.invokestatic 9, 3) := by decide +kernel
theorem dL_plans_263 : decode cL_plans 263 = .ok (.istore 7, 2) := by decide +kernel
theorem dL_plans_265 : decode cL_plans 265 = .ok (.iload_n 3, 1) := by decide +kernel
theorem dL_plans_266 : decode cL_plans 266 = .ok (.ifCond .eq 65, 3) := by decide +kernel
theorem dL_plans_269 : decode cL_plans 269 = .ok (.aload_n 0, 1) := by decide +kernel
theorem dL_plans_270 : decode cL_plans 270 = .ok (.iload 7, 2) := by decide +kernel
theorem dL_plans_272 : decode cL_plans 272 = .ok (.sipush 1500, 3) := by decide +kernel
theorem dL_plans_275 : decode cL_plans 275 = .ok (.invokestatic 15, 3) := by decide +kernel
theorem dL_plans_278 : decode cL_plans 278 = .ok (.iconst 1, 1) := by decide +kernel
theorem dL_plans_279 : decode cL_plans 279 = .ok (.iload 7, 2) := by decide +kernel
theorem dL_plans_281 : decode cL_plans 281 = .ok (.bipush 12, 2) := by decide +kernel
theorem dL_plans_283 : decode cL_plans 283 = .ok (.ishr, 1) := by decide +kernel
theorem dL_plans_284 : decode cL_plans 284 = .ok (.bipush 9, 2) := by decide +kernel
theorem dL_plans_286 : decode cL_plans 286 = .ok (.invokestatic 15, 3) := by decide +kernel
theorem dL_plans_289 : decode cL_plans 289 = .ok (.iadd, 1) := by decide +kernel
theorem dL_plans_290 : decode cL_plans 290 = .ok (.invokevirtual 25, 3) := by decide +kernel
theorem dL_plans_293 : decode cL_plans 293 = .ok (.iload 6, 2) := by decide +kernel
theorem dL_plans_295 : decode cL_plans 295 = .ok (.if_icmp .ne 36, 3) := by decide +kernel
theorem dL_plans_298 : decode cL_plans 298 = .ok (.aload_n 1, 1) := by decide +kernel
theorem dL_plans_299 : decode cL_plans 299 = .ok (.iload 7, 2) := by decide +kernel
theorem dL_plans_301 : decode cL_plans 301 = .ok (.sipush 1500, 3) := by decide +kernel
theorem dL_plans_304 : decode cL_plans 304 = .ok (.invokestatic 15, 3) := by decide +kernel
theorem dL_plans_307 : decode cL_plans 307 = .ok (.iconst 1, 1) := by decide +kernel
theorem dL_plans_308 : decode cL_plans 308 = .ok (.iload 7, 2) := by decide +kernel
theorem dL_plans_310 : decode cL_plans 310 = .ok (.bipush 12, 2) := by decide +kernel
theorem dL_plans_312 : decode cL_plans 312 = .ok (.ishr, 1) := by decide +kernel
theorem dL_plans_313 : decode cL_plans 313 = .ok (.bipush 9, 2) := by decide +kernel
theorem dL_plans_315 : decode cL_plans 315 = .ok (.invokestatic 15, 3) := by decide +kernel
theorem dL_plans_318 : decode cL_plans 318 = .ok (.iadd, 1) := by decide +kernel
theorem dL_plans_319 : decode cL_plans 319 = .ok (.invokevirtual 25, 3) := by decide +kernel
theorem dL_plans_322 : decode cL_plans 322 = .ok (.iload 6, 2) := by decide +kernel
theorem dL_plans_324 : decode cL_plans 324 = .ok (.if_icmp .ne 7, 3) := by decide +kernel
theorem dL_plans_327 : decode cL_plans 327 = .ok (.iconst 1, 1) := by decide +kernel
theorem dL_plans_328 : decode cL_plans 328 = .ok (.goto 4, 3) := by decide +kernel
theorem dL_plans_331 : decode cL_plans 331 = .ok (.iconst 0, 1) := by decide +kernel
theorem dL_plans_332 : decode cL_plans 332 = .ok (.istore_n 3, 1) := by decide +kernel
theorem dL_plans_333 : decode cL_plans 333 = .ok (.iinc 6 1, 3) := by decide +kernel
theorem dL_plans_336 : decode cL_plans 336 = .ok (.goto (-89), 3) := by decide +kernel
theorem dL_plans_339 : decode cL_plans 339 = .ok (.iload_n 3, 1) := by decide +kernel
theorem dL_plans_340 : decode cL_plans 340 = .ok (.ireturn, 1) := by decide +kernel
set_option maxRecDepth 20000 in
theorem ggL_sets_L_up : GoodIn wsL_sets wsL_up := goodIn_r _ [4, 5] (by decide +kernel) (by decide +kernel)
set_option maxRecDepth 20000 in
theorem gL_sets_L_up : GoodIn wsL_sets (va_wsS RL 15 yL_up wsL_up) := goodIn_app (goodIn_of _ (by decide +kernel)) ggL_sets_L_up
set_option maxRecDepth 20000 in
theorem ggL_sets_X5_setReservoir : GoodIn wsL_sets wsX5_setReservoir := goodIn_ca (goodIn_r _ [10, 11, 12, 13, 14, 15, 16, 17, 18, 9, 19, 20, 21, 22, 23, 24, 25, 26, 27, 28, 29, 30, 31, 32, 33, 34, 35, 36, 37, 38, 39, 40, 41, 42, 43, 44, 45, 46, 47, 48, 49, 50, 51, 52, 53, 54, 55, 56, 57, 58, 59, 60, 61, 62, 63, 64, 65, 66, 67, 68, 69, 70, 71, 72, 73, 74, 75, 76, 77, 78, 79, 80, 81, 82, 83, 84, 85, 86, 87, 88, 89, 90, 91, 92, 93, 94, 95, 96, 97, 98, 99, 100, 101, 102, 103, 104, 105, 106, 107, 108, 109, 110, 111, 112, 113, 114, 115, 116, 117, 118, 119, 120, 121, 122, 123, 124, 125, 126, 127, 128, 129, 130, 131, 132, 133, 134, 135, 136, 137] (by decide +kernel) (by decide +kernel)) (goodIn_sub (fun _ h => List.mem_cons_of_mem _ (List.mem_append_right _ h)) (by decide +kernel))
set_option maxRecDepth 20000 in
theorem gL_sets_X5_setReservoir : GoodIn wsL_sets (wsV RL 28 RX5 yX5_setReservoir wsX5_setReservoir) := goodIn_app (goodIn_of _ (by decide +kernel)) ggL_sets_X5_setReservoir
theorem dL_sets_0 : decode cL_sets 0 = .ok (.bipush 100, 2) := by decide +kernel
theorem dL_sets_2 : decode cL_sets 2 = .ok (.iload_n 2, 1) := by decide +kernel
theorem dL_sets_3 : decode cL_sets 3 = .ok (.sipush 9000, 3) := by decide +kernel
theorem dL_sets_6 : decode cL_sets 6 = .ok (.invokestatic 15, 3) := by decide +kernel
theorem dL_sets_9 : decode cL_sets 9 = .ok (.iadd, 1) := by decide +kernel
theorem dL_sets_10 : decode cL_sets 10 = .ok (.istore_n 3, 1) := by decide +kernel
theorem dL_sets_11 : decode cL_sets 11 = .ok (.iload_n 2, 1) := by decide +kernel
theorem dL_sets_12 : decode cL_sets 12 = .ok (.bipush 8, 2) := by decide +kernel
theorem dL_sets_14 : decode cL_sets 14 = .ok (.ishr, 1) := by decide +kernel
theorem dL_sets_15 : decode cL_sets 15 = .ok (.sipush 200, 3) := by decide +kernel
theorem dL_sets_18 : decode cL_sets 18 = .ok (.invokestatic 15, 3) := by decide +kernel
theorem dL_sets_21 : decode cL_sets 21 = .ok (.iload_n 3, 1) := by decide +kernel
theorem dL_sets_22 : decode cL_sets 22 = .ok (.if_icmp .ge 16, 3) := by decide +kernel
theorem dL_sets_25 : decode cL_sets 25 = .ok (.iload_n 2, 1) := by decide +kernel
theorem dL_sets_26 : decode cL_sets 26 = .ok (.bipush 8, 2) := by decide +kernel
theorem dL_sets_28 : decode cL_sets 28 = .ok (.ishr, 1) := by decide +kernel
theorem dL_sets_29 : decode cL_sets 29 = .ok (.sipush 200, 3) := by decide +kernel
theorem dL_sets_32 : decode cL_sets 32 = .ok (.invokestatic 15, 3) := by decide +kernel
theorem dL_sets_35 : decode cL_sets 35 = .ok (.goto 4, 3) := by decide +kernel
theorem dL_sets_38 : decode cL_sets 38 = .ok (.iconst 0, 1) := by decide +kernel
theorem dL_sets_39 : decode cL_sets 39 = .ok (.istore 4, 2) := by decide +kernel
theorem dL_sets_41 : decode cL_sets 41 = .ok (.iload_n 2, 1) := by decide +kernel
theorem dL_sets_42 : decode cL_sets 42 = .ok (.bipush 12, 2) := by decide +kernel
theorem dL_sets_44 : decode cL_sets 44 = .ok (.ishr, 1) := by decide +kernel
theorem dL_sets_45 : decode cL_sets 45 = .ok (.iconst 3, 1) := by decide +kernel
theorem dL_sets_46 : decode cL_sets 46 = .ok (.invokestatic 15, 3) := by decide +kernel
theorem dL_sets_49 : decode cL_sets 49 = .ok (.ifCond .ne 14, 3) := by decide +kernel
theorem dL_sets_52 : decode cL_sets 52 = .ok (.iload_n 2, 1) := by decide +kernel
theorem dL_sets_53 : decode cL_sets 53 = .ok (.bipush 14, 2) := by decide +kernel
theorem dL_sets_55 : decode cL_sets 55 = .ok (.ishr, 1) := by decide +kernel
theorem dL_sets_56 : decode cL_sets 56 = .ok (.iload_n 3, 1) := by decide +kernel
theorem dL_sets_57 : decode cL_sets 57 = .ok (.invokestatic 15, 3) := by decide +kernel
theorem dL_sets_60 : decode cL_sets 60 = .ok (.goto 4, 3) := by decide +kernel
theorem dL_sets_63 : decode cL_sets 63 = .ok (.iconst 0, 1) := by decide +kernel
theorem dL_sets_64 : decode cL_sets 64 = .ok (.istore 5, 2) := by decide +kernel
theorem dL_sets_66 : decode cL_sets 66 = .ok (.aload_n 0, 1) := by decide +kernel
theorem dL_sets_67 : decode cL_sets 67 = .ok (.iload_n 3, 1) := by decide +kernel
theorem dL_sets_68 : decode cL_sets 68 = .ok (.iload 4, 2) := by decide +kernel
theorem dL_sets_70 : decode cL_sets 70 = .ok (.iload 5, 2) := by decide +kernel
theorem dL_sets_72 : decode cL_sets 72 = .ok (.invokevirtual 28, 3) := by decide +kernel
theorem dL_sets_75 : decode cL_sets 75 = .ok (.aload_n 1, 1) := by decide +kernel
theorem dL_sets_76 : decode cL_sets 76 = .ok (.iload_n 3, 1) := by decide +kernel
theorem dL_sets_77 : decode cL_sets 77 = .ok (.iload 4, 2) := by decide +kernel
theorem dL_sets_79 : decode cL_sets 79 = .ok (.iload 5, 2) := by decide +kernel
theorem dL_sets_81 : decode cL_sets 81 = .ok (.invokevirtual 28, 3) := by decide +kernel
theorem dL_sets_84 : decode cL_sets 84 = .ok (.if_icmp .ne 7, 3) := by decide +kernel
theorem dL_sets_87 : decode cL_sets 87 = .ok (.iconst 1, 1) := by decide +kernel
theorem dL_sets_88 : decode cL_sets 88 = .ok (.goto 4, 3) := by decide +kernel
theorem dL_sets_91 : decode cL_sets 91 = .ok (.iconst 0, 1) := by decide +kernel
theorem dL_sets_92 : decode cL_sets 92 = .ok (.ireturn, 1) := by decide +kernel
set_option maxRecDepth 20000 in
theorem ggL_isStep_L_up : GoodIn wsL_isStep wsL_up := goodIn_r _ [5, 6] (by decide +kernel) (by decide +kernel)
set_option maxRecDepth 20000 in
theorem gL_isStep_L_up : GoodIn wsL_isStep (va_wsS RL 15 yL_up wsL_up) := goodIn_app (goodIn_of _ (by decide +kernel)) ggL_isStep_L_up
set_option maxRecDepth 20000 in
theorem ggL_isStep_L_sets : GoodIn wsL_isStep wsL_sets := goodIn_ca (goodIn_r _ [9, 2, 3, 4, 5, 6, 10, 11, 12, 13, 14, 15, 16, 17, 18, 19, 20, 21, 22, 23, 24, 25, 26, 27, 28, 29, 30, 31, 32, 33, 34, 35, 36, 37, 38, 39, 40, 41, 42, 43, 44, 45, 46, 47, 48, 49, 50, 51, 52, 53, 54, 55, 56, 57, 58, 59, 60, 61, 62, 63, 64, 65, 66, 67, 68, 69, 70, 71, 72, 73, 74, 75, 76, 77, 78, 79, 80, 81, 82, 83, 84, 85, 86, 87, 88, 89, 90, 91, 92, 93, 94, 95, 96, 97, 98, 99, 100, 101, 102, 103, 104, 105, 106, 107, 268, 269, 270, 271, 272, 273, 274, 275, 276, 277, 278, 279, 280, 281, 282, 283, 284, 285, 286, 287, 288, 289, 290, 291, 292, 293, 294, 295, 296, 297, 298, 299, 300, 301] (by decide +kernel) (by decide +kernel)) (goodIn_sub (fun _ h => List.mem_cons_of_mem _ (List.mem_append_left _ (List.mem_append_right _ h))) (by decide +kernel))
set_option maxRecDepth 20000 in
theorem gL_isStep_L_sets : GoodIn wsL_isStep (va_wsS RL 32 yL_sets wsL_sets) := goodIn_app (goodIn_of _ (by decide +kernel)) ggL_isStep_L_sets
set_option maxRecDepth 20000 in
theorem ggL_isStep_X5_setWays : GoodIn wsL_isStep wsX5_setWays := goodIn_ca (goodIn_r _ [111, 16, 112, 113, 114, 21, 22, 13, 23, 24, 25, 26, 27, 28, 29, 30, 31, 32, 33, 34, 35, 36, 37, 38, 39, 40, 41, 42, 43, 44, 45, 46, 47, 48, 49, 50, 51, 52, 53, 54, 55, 56, 57, 58, 59, 60, 61, 62, 63, 64, 65, 66, 67, 68, 69, 70, 71, 72, 73, 74, 75, 76, 77, 78, 79, 80, 81, 82, 83, 84, 85, 86, 87, 88, 89, 90, 91, 92, 93, 94, 95, 96, 97, 98, 99, 268, 269, 270, 271, 272, 273, 274, 275, 276, 277, 278, 279, 280, 281, 282, 283, 284, 285, 286, 287, 288, 289, 290, 291, 292, 293, 294, 295, 296, 297, 298, 299, 300, 301] (by decide +kernel) (by decide +kernel)) (goodIn_sub (fun _ h => List.mem_cons_of_mem _ (List.mem_append_left _ (List.mem_append_right _ h))) (by decide +kernel))
set_option maxRecDepth 20000 in
theorem gL_isStep_X5_setWays : GoodIn wsL_isStep (wsV RL 36 RX5 yX5_setWays wsX5_setWays) := goodIn_app (goodIn_of _ (by decide +kernel)) ggL_isStep_X5_setWays
set_option maxRecDepth 20000 in
theorem ggL_isStep_X5_setting : GoodIn wsL_isStep wsX5_setting := goodIn_ca (goodIn_r _ [118, 16, 21, 22, 13, 23, 24, 25, 119, 120, 121, 35, 122, 37, 38, 39, 40, 41, 42, 43, 45, 123, 46, 52, 54, 55, 268, 269, 270, 271, 272, 273, 274, 275, 276, 277, 278, 279, 280, 281, 282, 283, 284, 285, 286, 287, 288, 295, 296, 297] (by decide +kernel) (by decide +kernel)) (goodIn_sub (fun _ h => List.mem_cons_of_mem _ (List.mem_append_left _ (List.mem_append_right _ h))) (by decide +kernel))
set_option maxRecDepth 20000 in
theorem gL_isStep_X5_setting : GoodIn wsL_isStep (wsV RL 39 RX5 yX5_setting wsX5_setting) := goodIn_app (goodIn_of _ (by decide +kernel)) ggL_isStep_X5_setting
set_option maxRecDepth 20000 in
theorem ggL_isStep_X5_addRandomRain : GoodIn wsL_isStep wsX5_addRandomRain := goodIn_ca (goodIn_ca (goodIn_r _ [127, 128, 129, 130, 16, 131, 21, 22, 13, 23, 24, 25, 132, 133, 134, 135, 136, 137, 26, 27, 28, 29, 30, 31, 32, 33, 34, 35, 36, 37, 38, 39, 40, 41, 42, 43, 44, 45, 46, 47, 48, 49, 50, 51, 52, 53, 54, 55, 56, 57, 58, 59, 60, 61, 62, 63, 64, 65, 66, 67, 68, 69, 70, 71, 72, 73, 74, 75, 76, 77, 78, 79, 80, 81, 82, 83, 84, 85, 86, 87, 88, 89, 90, 91, 92, 93, 94, 95, 96, 97, 98, 99, 138, 139, 140, 141, 142, 143, 144, 145, 146, 147, 268, 269, 270, 271, 272, 273, 274, 275, 276, 277, 278, 279, 280, 281, 282, 283, 284, 285, 286, 287, 288, 289, 290, 291, 292, 293, 294, 295, 296, 297, 298, 299, 300, 301] (by decide +kernel) (by decide +kernel)) (goodIn_sub (fun _ h => List.mem_cons_of_mem _ (List.mem_append_left _ (List.mem_append_right _ h))) (by decide +kernel))) (goodIn_sub (fun _ h => List.mem_cons_of_mem _ (List.mem_append_right _ h)) (by decide +kernel))
set_option maxRecDepth 20000 in
theorem gL_isStep_X5_addRandomRain : GoodIn wsL_isStep (wsV RL 44 RX5 yX5_addRandomRain wsX5_addRandomRain) := goodIn_app (goodIn_of _ (by decide +kernel)) ggL_isStep_X5_addRandomRain
set_option maxRecDepth 20000 in
theorem ggL_isStep_X5_restart : GoodIn wsL_isStep wsX5_restart := goodIn_r _ [151, 16, 152, 26, 27, 28, 13, 29, 30, 31, 32, 33, 34, 35, 36, 37, 38, 39, 40, 41, 42, 43, 44, 45, 46, 47, 48, 49, 50, 51, 52, 53, 54, 55, 56, 57, 58, 59, 60, 61, 62, 63, 64, 65, 66, 67, 68, 69, 70, 71, 72, 73, 74, 75, 76, 77, 78, 79, 80, 81, 82, 83, 84, 85, 86, 87, 88, 89, 90, 91, 92, 93, 94, 95, 96, 97, 98, 99, 153, 154, 155, 156, 157, 158, 159, 160, 161, 162, 268, 269, 270, 271, 272, 273, 274, 275, 276, 277, 278, 279, 280, 281, 282, 283, 284, 285, 286, 287, 288, 289, 290, 291, 292, 293, 294, 295, 296, 297, 298, 299, 300, 301] (by decide +kernel) (by decide +kernel)
set_option maxRecDepth 20000 in
theorem gL_isStep_X5_restart : GoodIn wsL_isStep (wsV RL 47 RX5 yX5_restart wsX5_restart) := goodIn_app (goodIn_of _ (by decide +kernel)) ggL_isStep_X5_restart
set_option maxRecDepth 20000 in
theorem ggL_isStep_X5_run : GoodIn wsL_isStep wsX5_run := goodIn_ca (goodIn_ca (goodIn_r _ [166, 136, 137, 16, 131, 152, 21, 22, 13, 23, 24, 25, 26, 27, 28, 29, 30, 31, 32, 33, 34, 35, 36, 37, 38, 39, 40, 41, 42, 43, 44, 45, 46, 47, 48, 49, 50, 51, 52, 53, 54, 55, 56, 57, 58, 59, 60, 61, 62, 63, 64, 65, 66, 67, 68, 69, 70, 71, 72, 73, 74, 75, 76, 77, 78, 79, 80, 81, 82, 83, 84, 85, 86, 87, 88, 89, 90, 91, 92, 93, 94, 95, 96, 97, 98, 99, 167, 168, 169, 170, 171, 172, 173, 174, 175, 176, 177, 178, 179, 180, 181, 182, 183, 184, 185, 186, 187, 188, 106, 189, 190, 191, 192, 193, 194, 105, 107, 195, 196, 197, 198, 199, 200, 201, 202, 104, 203, 204, 205, 206, 207, 101, 102, 103, 208, 209, 210, 211, 212, 213, 214, 215, 216, 217, 218, 219, 220, 221, 222, 223, 224, 225, 226, 227, 228, 229, 230, 231, 232, 233, 234, 235, 236, 237, 238, 239, 240, 241, 242, 243, 244, 245, 246, 247, 248, 249, 250, 251, 252, 253, 254, 255, 256, 257, 258, 259, 260, 261, 262, 263, 264, 265, 266, 267, 268, 269, 270, 271, 272, 273, 274, 275, 276, 277, 278, 279, 280, 281, 282, 283, 284, 285, 286, 287, 288, 289, 290, 291, 292, 293, 294, 295, 296, 297, 298, 299, 300, 301] (by decide +kernel) (by decide +kernel)) (goodIn_sub (fun _ h => List.mem_cons_of_mem _ (List.mem_append_right _ h)) (by decide +kernel))) (goodIn_sub (fun _ h => List.mem_cons_of_mem _ (List.mem_append_left _ (List.mem_append_right _ h))) (by decide +kernel))
set_option maxRecDepth 20000 in
theorem gL_isStep_X5_run : GoodIn wsL_isStep (wsV RL 51 RX5 yX5_run wsX5_run) := goodIn_app (goodIn_of _ (by decide +kernel)) ggL_isStep_X5_run
theorem dL_isStep_0 : decode cL_isStep 0 = .ok (.iload_n 2, 1) := by decide +kernel
theorem dL_isStep_1 : decode cL_isStep 1 = .ok (.bipush 7, 2) := by decide +kernel
theorem dL_isStep_3 : decode cL_isStep 3 = .ok (.invokestatic 15, 3) := by decide +kernel
theorem dL_isStep_6 : decode cL_isStep 6 = .ok (.tableswitch 241 0 3 #[30, 39, 110, 214], 30) := by decide +kernel
theorem dL_isStep_36 : decode cL_isStep 36 = .ok (.aload_n 0, 1) := by decide +kernel
theorem dL_isStep_37 : decode cL_isStep 37 = .ok (.aload_n 1, 1) := by decide +kernel
theorem dL_isStep_38 : decode cL_isStep 38 = .ok (.iload_n 2, 1) := by decide +kernel
theorem dL_isStep_39 : decode cL_isStep 39 = .ok (.iconst 3, 1) := by decide +kernel
theorem dL_isStep_40 : decode cL_isStep 40 = .ok (.ishr, 1) := by decide +kernel
theorem dL_isStep_41 : decode cL_isStep 41 = .ok (.invokestatic 32, 3) := by decide +kernel
theorem dL_isStep_44 : decode cL_isStep 44 = .ok (.ireturn, 1) := by decide +kernel
theorem dL_isStep_45 : decode cL_isStep 45 = .ok (.aload_n 0, 1) := by decide +kernel
theorem dL_isStep_46 : decode cL_isStep 46 = .ok (.iload_n 2, 1) := by decide +kernel
theorem dL_isStep_47 : decode cL_isStep 47 = .ok (.iconst 3, 1) := by decide +kernel
theorem dL_isStep_48 : decode cL_isStep 48 = .ok (.ishr, 1) := by decide +kernel
theorem dL_isStep_49 : decode cL_isStep 49 = .ok (.bipush 101, 2) := by decide +kernel
theorem dL_isStep_51 : decode cL_isStep 51 = .ok (.invokestatic 15, 3) := by decide +kernel
theorem dL_isStep_54 : decode cL_isStep 54 = .ok (.iconst 1, 1) := by decide +kernel
theorem dL_isStep_55 : decode cL_isStep 55 = .ok (.iload_n 2, 1) := by decide +kernel
theorem dL_isStep_56 : decode cL_isStep 56 = .ok (.bipush 10, 2) := by decide +kernel
theorem dL_isStep_58 : decode cL_isStep 58 = .ok (.ishr, 1) := by decide +kernel
theorem dL_isStep_59 : decode cL_isStep 59 = .ok (.bipush 9, 2) := by decide +kernel
theorem dL_isStep_61 : decode cL_isStep 61 = .ok (.invokestatic 15, 3) := by decide +kernel
theorem dL_isStep_64 : decode cL_isStep 64 = .ok (.iadd, 1) := by decide +kernel
theorem dL_isStep_65 : decode cL_isStep 65 = .ok (.iload_n 2, 1) := by decide +kernel
theorem dL_isStep_66 : decode cL_isStep 66 = .ok (.bipush 14, 2) := by decide +kernel
theorem dL_isStep_68 : decode cL_isStep 68 = .ok (.ishr, 1) := by decide +kernel
theorem dL_isStep_69 : decode cL_isStep 69 = .ok (.iconst 4, 1) := by decide +kernel
theorem dL_isStep_70 : decode cL_isStep 70 = .ok (.invokestatic 15, 3) := by decide +kernel
theorem dL_isStep_73 : decode cL_isStep 73 = .ok (.invokevirtual 36, 3) := by decide +kernel
theorem dL_isStep_76 : decode cL_isStep 76 = .ok (.aload_n 1, 1) := by decide +kernel
theorem dL_isStep_77 : decode cL_isStep 77 = .ok (.iload_n 2, 1) := by decide +kernel
theorem dL_isStep_78 : decode cL_isStep 78 = .ok (.iconst 3, 1) := by decide +kernel
theorem dL_isStep_79 : decode cL_isStep 79 = .ok (.ishr, 1) := by decide +kernel
theorem dL_isStep_80 : decode cL_isStep 80 = .ok (.bipush 101, 2) := by decide +kernel
theorem dL_isStep_82 : decode cL_isStep 82 = .ok (.invokestatic 15, 3) := by decide +kernel
theorem dL_isStep_85 : decode cL_isStep 85 = .ok (.iconst 1, 1) := by decide +kernel
theorem dL_isStep_86 : decode cL_isStep 86 = .ok (.iload_n 2, 1) := by decide +kernel
theorem dL_isStep_87 : decode cL_isStep 87 = .ok (.bipush 10, 2) := by decide +kernel
theorem dL_isStep_89 : decode cL_isStep 89 = .ok (.ishr, 1) := by decide +kernel
theorem dL_isStep_90 : decode cL_isStep 90 = .ok (.bipush 9, 2) := by decide +kernel
theorem dL_isStep_92 : decode cL_isStep 92 = .ok (.invokestatic 15, 3) := by decide +kernel
theorem dL_isStep_95 : decode cL_isStep 95 = .ok (.iadd, 1) := by decide +kernel
theorem dL_isStep_96 : decode cL_isStep 96 = .ok (.iload_n 2, 1) := by decide +kernel
theorem dL_isStep_97 : decode cL_isStep 97 = .ok (.bipush 14, 2) := by decide +kernel
theorem dL_isStep_99 : decode cL_isStep 99 = .ok (.ishr, 1) := by decide +kernel
theorem dL_isStep_100 : decode cL_isStep 100 = .ok (.iconst 4, 1) := by decide +kernel
theorem dL_isStep_101 : decode cL_isStep 101 = .ok (.invokestatic 15, 3) := by decide +kernel
theorem dL_isStep_104 : decode cL_isStep 104 = .ok (.invokevirtual 36, 3) := by decide +kernel
theorem dL_isStep_107 : decode cL_isStep 107 = .ok (.if_icmp .ne 7, 3) := by decide +kernel
theorem dL_isStep_110 : decode cL_isStep 110 = .ok (.iconst 1, 1) := by decide +kernel
theorem dL_isStep_111 : decode cL_isStep 111 = .ok (.goto 4, 3) := by decide +kernel
theorem dL_isStep_114 : decode cL_isStep 114 = .ok (.iconst 0, 1) := by decide +kernel
theorem dL_isStep_115 : decode cL_isStep 115 = .ok (.ireturn, 1) := by decide +kernel
theorem dL_isStep_116 : decode cL_isStep 116 = .ok (.aload_n 0, 1) := by decide +kernel
theorem dL_isStep_117 : decode cL_isStep 117 = .ok (.bipush 8, 2) := by decide +kernel
theorem dL_isStep_119 : decode cL_isStep 119 = .ok (.invokevirtual 39, 3) := by decide +kernel
theorem dL_isStep_122 : decode cL_isStep 122 = .ok (.bipush 80, 2) := by decide +kernel
theorem dL_isStep_124 : decode cL_isStep 124 = .ok (.if_icmp .gt 90, 3) := by decide +kernel
theorem dL_isStep_127 : decode cL_isStep 127 = .ok (.aload_n 0, 1) := by decide +kernel
theorem dL_isStep_128 : decode cL_isStep 128 = .ok (.iload_n 2, 1) := by decide +kernel
theorem dL_isStep_129 : decode cL_isStep 129 = .ok (.iconst 3, 1) := by decide +kernel
theorem dL_isStep_130 : decode cL_isStep 130 = .ok (.ishr, 1) := by decide +kernel
theorem dL_isStep_131 : decode cL_isStep 131 = .ok (.ldc 43, 2) := by decide +kernel
theorem dL_isStep_133 : decode cL_isStep 133 = .ok (.invokestatic 15, 3) := by decide +kernel
theorem dL_isStep_136 : decode cL_isStep 136 = .ok (.iconst 1, 1) := by decide +kernel
theorem dL_isStep_137 : decode cL_isStep 137 = .ok (.iload_n 2, 1) := by decide +kernel
theorem dL_isStep_138 : decode cL_isStep 138 = .ok (.iconst 4, 1) := by decide +kernel
theorem dL_isStep_139 : decode cL_isStep 139 = .ok (.ishr, 1) := by decide +kernel
theorem dL_isStep_140 : decode cL_isStep 140 = .ok (.bipush 20, 2) := by decide +kernel
theorem dL_isStep_142 : decode cL_isStep 142 = .ok (.invokestatic 15, 3) := by decide +kernel
theorem dL_isStep_145 : decode cL_isStep 145 = .ok (.iadd, 1) := by decide +kernel
theorem dL_isStep_146 : decode cL_isStep 146 = .ok (.iload_n 2, 1) := by decide +kernel
theorem dL_isStep_147 : decode cL_isStep 147 = .ok (.bipush 8, 2) := by decide +kernel
theorem dL_isStep_149 : decode cL_isStep 149 = .ok (.ishr, 1) := by decide +kernel
theorem dL_isStep_150 : decode cL_isStep 150 = .ok (.bipush 101, 2) := by decide +kernel
theorem dL_isStep_152 : decode cL_isStep 152 = .ok (.invokestatic 15, 3) := by decide +kernel
theorem dL_isStep_155 : decode cL_isStep 155 = .ok (.iconst 1, 1) := by decide +kernel
theorem dL_isStep_156 : decode cL_isStep 156 = .ok (.iload_n 2, 1) := by decide +kernel
theorem dL_isStep_157 : decode cL_isStep 157 = .ok (.bipush 9, 2) := by decide +kernel
theorem dL_isStep_159 : decode cL_isStep 159 = .ok (.ishr, 1) := by decide +kernel
theorem dL_isStep_160 : decode cL_isStep 160 = .ok (.bipush 80, 2) := by decide +kernel
theorem dL_isStep_162 : decode cL_isStep 162 = .ok (.invokestatic 15, 3) := by decide +kernel
theorem dL_isStep_165 : decode cL_isStep 165 = .ok (.iadd, 1) := by decide +kernel
theorem dL_isStep_166 : decode cL_isStep 166 = .ok (.invokevirtual 44, 3) := by decide +kernel
theorem dL_isStep_169 : decode cL_isStep 169 = .ok (.aload_n 1, 1) := by decide +kernel
theorem dL_isStep_170 : decode cL_isStep 170 = .ok (.iload_n 2, 1) := by decide +kernel
theorem dL_isStep_171 : decode cL_isStep 171 = .ok (.iconst 3, 1) := by decide +kernel
theorem dL_isStep_172 : decode cL_isStep 172 = .ok (.ishr, 1) := by decide +kernel
theorem dL_isStep_173 : decode cL_isStep 173 = .ok (.ldc 43, 2) := by decide +kernel
theorem dL_isStep_175 : decode cL_isStep 175 = .ok (.invokestatic 15, 3) := by decide +kernel
theorem dL_isStep_178 : decode cL_isStep 178 = .ok (.iconst 1, 1) := by decide +kernel
theorem dL_isStep_179 : decode cL_isStep 179 = .ok (.iload_n 2, 1) := by decide +kernel
theorem dL_isStep_180 : decode cL_isStep 180 = .ok (.iconst 4, 1) := by decide +kernel
theorem dL_isStep_181 : decode cL_isStep 181 = .ok (.ishr, 1) := by decide +kernel
theorem dL_isStep_182 : decode cL_isStep 182 = .ok (.bipush 20, 2) := by decide +kernel
theorem dL_isStep_184 : decode cL_isStep 184 = .ok (.invokestatic 15, 3) := by decide +kernel
theorem dL_isStep_187 : decode cL_isStep 187 = .ok (.iadd, 1) := by decide +kernel
theorem dL_isStep_188 : decode cL_isStep 188 = .ok (.iload_n 2, 1) := by decide +kernel
theorem dL_isStep_189 : decode cL_isStep 189 = .ok (.bipush 8, 2) := by decide +kernel
theorem dL_isStep_191 : decode cL_isStep 191 = .ok (.ishr, 1) := by decide +kernel
theorem dL_isStep_192 : decode cL_isStep 192 = .ok (.bipush 101, 2) := by decide +kernel
theorem dL_isStep_194 : decode cL_isStep 194 = .ok (.invokestatic 15, 3) := by decide +kernel
theorem dL_isStep_197 : decode cL_isStep 197 = .ok (.iconst 1, 1) := by decide +kernel
theorem dL_isStep_198 : decode cL_isStep 198 = .ok (.iload_n 2, 1) := by decide +kernel
theorem dL_isStep_199 : decode cL_isStep 199 = .ok (.bipush 9, 2) := by decide +kernel
theorem dL_isStep_201 : decode cL_isStep 201 = .ok (.ishr, 1) := by decide +kernel
theorem dL_isStep_202 : decode cL_isStep 202 = .ok (.bipush 80, 2) := by decide +kernel
theorem dL_isStep_204 : decode cL_isStep 204 = .ok (.invokestatic 15, 3) := by decide +kernel
theorem dL_isStep_207 : decode cL_isStep 207 = .ok (.iadd, 1) := by decide +kernel
theorem dL_isStep_208 : decode cL_isStep 208 = .ok (.invokevirtual 44, 3) := by decide +kernel
theorem dL_isStep_211 : decode cL_isStep 211 = .ok (.if_icmp .ne 7, 3) := by decide +kernel
theorem dL_isStep_214 : decode cL_isStep 214 = .ok (.iconst 1, 1) := by decide +kernel
theorem dL_isStep_215 : decode cL_isStep 215 = .ok (.goto 4, 3) := by decide +kernel
theorem dL_isStep_218 : decode cL_isStep 218 = .ok (.iconst 0, 1) := by decide +kernel
theorem dL_isStep_219 : decode cL_isStep 219 = .ok (.ireturn, 1) := by decide +kernel
theorem dL_isStep_220 : decode cL_isStep 220 = .ok (.iload_n 2, 1) := by decide +kernel
theorem dL_isStep_221 : decode cL_isStep 221 = .ok (.iconst 3, 1) := by decide +kernel
theorem dL_isStep_222 : decode cL_isStep 222 = .ok (.ishr, 1) := by decide +kernel
theorem dL_isStep_223 : decode cL_isStep 223 = .ok (.iconst 4, 1) := by decide +kernel
theorem dL_isStep_224 : decode cL_isStep 224 = .ok (.invokestatic 15, 3) := by decide +kernel
theorem dL_isStep_227 : decode cL_isStep 227 = .ok (.ifCond .gt 14, 3) := by decide +kernel
theorem dL_isStep_230 : decode cL_isStep 230 = .ok (.aload_n 0, 1) := by decide +kernel
theorem dL_isStep_231 : decode cL_isStep 231 = .ok (.invokevirtual 47, 3) := by decide +kernel
theorem dL_isStep_234 : decode cL_isStep 234 = .ok (.aload_n 1, 1) := by decide +kernel
theorem dL_isStep_235 : decode cL_isStep 235 = .ok (.invokevirtual 47, 3) := by decide +kernel
theorem dL_isStep_238 : decode cL_isStep 238 = .ok (.if_icmp .ne 7, 3) := by decide +kernel
theorem dL_isStep_241 : decode cL_isStep 241 = .ok (.iconst 1, 1) := by decide +kernel
theorem dL_isStep_242 : decode cL_isStep 242 = .ok (.goto 4, 3) := by decide +kernel
theorem dL_isStep_245 : decode cL_isStep 245 = .ok (.iconst 0, 1) := by decide +kernel
theorem dL_isStep_246 : decode cL_isStep 246 = .ok (.ireturn, 1) := by decide +kernel
theorem dL_isStep_247 : decode cL_isStep 247 = .ok (.aload_n 0, 1) := by decide +kernel
theorem dL_isStep_248 : decode cL_isStep 248 = .ok (.bipush 8, 2) := by decide +kernel
theorem dL_isStep_250 : decode cL_isStep 250 = .ok (.invokevirtual 39, 3) := by decide +kernel
theorem dL_isStep_253 : decode cL_isStep 253 = .ok (.aload_n 0, 1) := by decide +kernel
theorem dL_isStep_254 : decode cL_isStep 254 = .ok (.bipush 9, 2) := by decide +kernel
theorem dL_isStep_256 : decode cL_isStep 256 = .ok (.invokevirtual 39, 3) := by decide +kernel
theorem dL_isStep_259 : decode cL_isStep 259 = .ok (.isub, 1) := by decide +kernel
theorem dL_isStep_260 : decode cL_isStep 260 = .ok (.istore_n 3, 1) := by decide +kernel
theorem dL_isStep_261 : decode cL_isStep 261 = .ok (.iload_n 3, 1) := by decide +kernel
theorem dL_isStep_262 : decode cL_isStep 262 = .ok (.ifCond .ne 7, 3) := by decide +kernel
theorem dL_isStep_265 : decode cL_isStep 265 = .ok (.iconst 0, 1) := by decide +kernel
theorem dL_isStep_266 : decode cL_isStep 266 = .ok (.goto 12, 3) := by decide +kernel
theorem dL_isStep_269 : decode cL_isStep 269 = .ok (.iload_n 2, 1) := by decide +kernel
theorem dL_isStep_270 : decode cL_isStep 270 = .ok (.iconst 3, 1) := by decide +kernel
theorem dL_isStep_271 : decode cL_isStep 271 = .ok (.ishr, 1) := by decide +kernel
theorem dL_isStep_272 : decode cL_isStep 272 = .ok (.iload_n 3, 1) := by decide +kernel
theorem dL_isStep_273 : decode cL_isStep 273 = .ok (.iconst 1, 1) := by decide +kernel
theorem dL_isStep_274 : decode cL_isStep 274 = .ok (.iadd, 1) := by decide +kernel
theorem dL_isStep_275 : decode cL_isStep 275 = .ok (.invokestatic 15, 3) := by decide +kernel
theorem dL_isStep_278 : decode cL_isStep 278 = .ok (.istore 4, 2) := by decide +kernel
theorem dL_isStep_280 : decode cL_isStep 280 = .ok (.iload 4, 2) := by decide +kernel
theorem dL_isStep_282 : decode cL_isStep 282 = .ok (.ifCond .ne 7, 3) := by decide +kernel
theorem dL_isStep_285 : decode cL_isStep 285 = .ok (.iconst 0, 1) := by decide +kernel
theorem dL_isStep_286 : decode cL_isStep 286 = .ok (.goto 12, 3) := by decide +kernel
theorem dL_isStep_289 : decode cL_isStep 289 = .ok (.iload_n 2, 1) := by decide +kernel
theorem dL_isStep_290 : decode cL_isStep 290 = .ok (.bipush 12, 2) := by decide +kernel
theorem dL_isStep_292 : decode cL_isStep 292 = .ok (.ishr, 1) := by decide +kernel
theorem dL_isStep_293 : decode cL_isStep 293 = .ok (.iload 4, 2) := by decide +kernel
theorem dL_isStep_295 : decode cL_isStep 295 = .ok (.invokestatic 15, 3) := by decide +kernel
theorem dL_isStep_298 : decode cL_isStep 298 = .ok (.istore 5, 2) := by decide +kernel
theorem dL_isStep_300 : decode cL_isStep 300 = .ok (.aload_n 0, 1) := by decide +kernel
theorem dL_isStep_301 : decode cL_isStep 301 = .ok (.iload 4, 2) := by decide +kernel
theorem dL_isStep_303 : decode cL_isStep 303 = .ok (.invokevirtual 51, 3) := by decide +kernel
theorem dL_isStep_306 : decode cL_isStep 306 = .ok (.aload_n 1, 1) := by decide +kernel
theorem dL_isStep_307 : decode cL_isStep 307 = .ok (.iload 5, 2) := by decide +kernel
theorem dL_isStep_309 : decode cL_isStep 309 = .ok (.invokevirtual 51, 3) := by decide +kernel
theorem dL_isStep_312 : decode cL_isStep 312 = .ok (.aload_n 1, 1) := by decide +kernel
theorem dL_isStep_313 : decode cL_isStep 313 = .ok (.iload 4, 2) := by decide +kernel
theorem dL_isStep_315 : decode cL_isStep 315 = .ok (.iload 5, 2) := by decide +kernel
theorem dL_isStep_317 : decode cL_isStep 317 = .ok (.isub, 1) := by decide +kernel
theorem dL_isStep_318 : decode cL_isStep 318 = .ok (.invokevirtual 51, 3) := by decide +kernel
theorem dL_isStep_321 : decode cL_isStep 321 = .ok (.iadd, 1) := by decide +kernel
theorem dL_isStep_322 : decode cL_isStep 322 = .ok (.if_icmp .ne 7, 3) := by decide +kernel
theorem dL_isStep_325 : decode cL_isStep 325 = .ok (.iconst 1, 1) := by decide +kernel
theorem dL_isStep_326 : decode cL_isStep 326 = .ok (.goto 4, 3) := by decide +kernel
theorem dL_isStep_329 : decode cL_isStep 329 = .ok (.iconst 0, 1) := by decide +kernel
theorem dL_isStep_330 : decode cL_isStep 330 = .ok (.ireturn, 1) := by decide +kernel
set_option maxRecDepth 20000 in
theorem ggL_areAlike_X5_setting : GoodIn wsL_areAlike wsX5_setting := goodIn_ca (goodIn_r _ [5, 6, 7, 8, 4, 9, 10, 11, 12, 13, 14, 15, 16, 17, 18, 19, 20, 21, 22, 23, 24, 25, 26, 27, 28, 29, 79, 80, 81, 82, 83, 84, 85, 86, 87, 88, 89, 90, 91, 92, 93, 94, 95, 96, 97, 98, 99, 100, 101, 102] (by decide +kernel) (by decide +kernel)) (goodIn_sub (fun _ h => List.mem_cons_of_mem _ (List.mem_append_left _ (List.mem_append_right _ h))) (by decide +kernel))
set_option maxRecDepth 20000 in
theorem gL_areAlike_X5_setting : GoodIn wsL_areAlike (wsV RL 39 RX5 yX5_setting wsX5_setting) := goodIn_app (goodIn_of _ (by decide +kernel)) ggL_areAlike_X5_setting
set_option maxRecDepth 20000 in
theorem ggL_areAlike_X5_sum : GoodIn wsL_areAlike wsX5_sum := goodIn_ca (goodIn_r _ [33, 6, 34, 35, 7, 8, 4, 9, 10, 11, 36, 37, 38, 15, 39, 40, 79, 80, 81, 82, 83, 84, 85, 86, 87, 88, 89, 90, 91, 92, 93, 94, 95, 96, 97, 98, 99] (by decide +kernel) (by decide +kernel)) (goodIn_sub (fun _ h => List.mem_cons_of_mem _ (List.mem_append_left _ (List.mem_append_right _ h))) (by decide +kernel))
set_option maxRecDepth 20000 in
theorem gL_areAlike_X5_sum : GoodIn wsL_areAlike (wsV RL 54 RX5 yX5_sum wsX5_sum) := goodIn_app (goodIn_of _ (by decide +kernel)) ggL_areAlike_X5_sum
set_option maxRecDepth 20000 in
theorem ggL_areAlike_X5_user : GoodIn wsL_areAlike wsX5_user := goodIn_ca (goodIn_ca (goodIn_r _ [44, 6, 45, 46, 47, 48, 49, 4, 50, 51, 52, 7, 8, 9, 10, 11, 53, 54, 55, 56, 57, 58, 59, 60, 61, 79, 80, 81, 82, 83, 84, 85, 86, 87, 88, 89, 90, 91, 92, 93, 94, 95, 96, 97, 98, 99, 100, 101, 102, 103, 104, 105, 106] (by decide +kernel) (by decide +kernel)) (goodIn_sub (fun _ h => List.mem_cons_of_mem _ (List.mem_append_right _ h)) (by decide +kernel))) (goodIn_sub (fun _ h => List.mem_cons_of_mem _ (List.mem_append_left _ (List.mem_append_right _ h))) (by decide +kernel))
set_option maxRecDepth 20000 in
theorem gL_areAlike_X5_user : GoodIn wsL_areAlike (wsV RL 58 RX5 yX5_user wsX5_user) := goodIn_app (goodIn_of _ (by decide +kernel)) ggL_areAlike_X5_user
set_option maxRecDepth 20000 in
theorem ggL_areAlike_X5_reliability : GoodIn wsL_areAlike wsX5_reliability := goodIn_r _ [65, 6, 35, 66, 67, 68, 15, 69, 70, 37, 38, 39, 40, 79, 80, 81, 82, 83, 84, 85, 86, 87, 88, 89, 90, 91, 92, 93, 94, 95, 96, 97, 98, 99] (by decide +kernel) (by decide +kernel)
set_option maxRecDepth 20000 in
theorem gL_areAlike_X5_reliability : GoodIn wsL_areAlike (wsV RL 61 RX5 yX5_reliability wsX5_reliability) := goodIn_app (goodIn_of _ (by decide +kernel)) ggL_areAlike_X5_reliability
set_option maxRecDepth 20000 in
theorem ggL_areAlike_X5_longestShortage : GoodIn wsL_areAlike wsX5_longestShortage := goodIn_r _ [74, 6, 35, 75, 76, 77, 78, 66, 67, 68, 15, 69, 70, 37, 38, 39, 40, 79, 80, 81, 82, 83, 84, 85, 86, 87, 88, 89, 90, 91, 92, 93, 94, 95, 96, 97, 98, 99] (by decide +kernel) (by decide +kernel)
set_option maxRecDepth 20000 in
theorem gL_areAlike_X5_longestShortage : GoodIn wsL_areAlike (wsV RL 65 RX5 yX5_longestShortage wsX5_longestShortage) := goodIn_app (goodIn_of _ (by decide +kernel)) ggL_areAlike_X5_longestShortage
theorem dL_areAlike_0 : decode cL_areAlike 0 = .ok (.iconst 1, 1) := by decide +kernel
theorem dL_areAlike_1 : decode cL_areAlike 1 = .ok (.istore_n 2, 1) := by decide +kernel
theorem dL_areAlike_2 : decode cL_areAlike 2 = .ok (.iconst 0, 1) := by decide +kernel
theorem dL_areAlike_3 : decode cL_areAlike 3 = .ok (.istore_n 3, 1) := by decide +kernel
theorem dL_areAlike_4 : decode cL_areAlike 4 = .ok (.iload_n 3, 1) := by decide +kernel
theorem dL_areAlike_5 : decode cL_areAlike 5 = .ok (.bipush 12, 2) := by decide +kernel
theorem dL_areAlike_7 : decode cL_areAlike 7 = .ok (.if_icmp .ge 38, 3) := by decide +kernel
theorem dL_areAlike_10 : decode cL_areAlike 10 = .ok (.iload_n 2, 1) := by decide +kernel
theorem dL_areAlike_11 : decode cL_areAlike 11 = .ok (.ifCond .eq 26, 3) := by decide +kernel
theorem dL_areAlike_14 : decode cL_areAlike 14 = .ok (.iload_n 3, 1) := by decide +kernel
theorem dL_areAlike_15 : decode cL_areAlike 15 = .ok (.bipush 6, 2) := by decide +kernel
theorem dL_areAlike_17 : decode cL_areAlike 17 = .ok (.if_icmp .eq 16, 3) := by decide +kernel
theorem dL_areAlike_20 : decode cL_areAlike 20 = .ok (.aload_n 0, 1) := by decide +kernel
theorem dL_areAlike_21 : decode cL_areAlike 21 = .ok (.iload_n 3, 1) := by decide +kernel
theorem dL_areAlike_22 : decode cL_areAlike 22 = .ok (.invokevirtual 39, 3) := by decide +kernel
theorem dL_areAlike_25 : decode cL_areAlike 25 = .ok (.aload_n 1, 1) := by decide +kernel
theorem dL_areAlike_26 : decode cL_areAlike 26 = .ok (.iload_n 3, 1) := by decide +kernel
theorem dL_areAlike_27 : decode cL_areAlike 27 = .ok (.invokevirtual 39, 3) := by decide +kernel
theorem dL_areAlike_30 : decode cL_areAlike 30 = .ok (.if_icmp .ne 7, 3) := by decide +kernel
theorem dL_areAlike_33 : decode cL_areAlike 33 = .ok (.iconst 1, 1) := by decide +kernel
theorem dL_areAlike_34 : decode cL_areAlike 34 = .ok (.goto 4, 3) := by decide +kernel
theorem dL_areAlike_37 : decode cL_areAlike 37 = .ok (.iconst 0, 1) := by decide +kernel
theorem dL_areAlike_38 : decode cL_areAlike 38 = .ok (.istore_n 2, 1) := by decide +kernel
theorem dL_areAlike_39 : decode cL_areAlike 39 = .ok (.iinc 3 1, 3) := by decide +kernel
theorem dL_areAlike_42 : decode cL_areAlike 42 = .ok (.goto (-38), 3) := by decide +kernel
theorem dL_areAlike_45 : decode cL_areAlike 45 = .ok (.iconst 1, 1) := by decide +kernel
theorem dL_areAlike_46 : decode cL_areAlike 46 = .ok (.istore_n 3, 1) := by decide +kernel
theorem dL_areAlike_47 : decode cL_areAlike 47 = .ok (.iload_n 3, 1) := by decide +kernel
theorem dL_areAlike_48 : decode cL_areAlike 48 = .ok (.bipush 10, 2) := by decide +kernel
theorem dL_areAlike_50 : decode cL_areAlike 50 = .ok (.if_icmp .ge 33, 3) := by decide +kernel
theorem dL_areAlike_53 : decode cL_areAlike 53 = .ok (.iload_n 2, 1) := by decide +kernel
theorem dL_areAlike_54 : decode cL_areAlike 54 = .ok (.ifCond .eq 21, 3) := by decide +kernel
theorem dL_areAlike_57 : decode cL_areAlike 57 = .ok (.aload_n 0, 1) := by decide +kernel
theorem dL_areAlike_58 : decode cL_areAlike 58 = .ok (.iload_n 3, 1) := by decide +kernel
theorem dL_areAlike_59 : decode cL_areAlike 59 = .ok (.invokevirtual 54, 3) := by decide +kernel
theorem dL_areAlike_62 : decode cL_areAlike 62 = .ok (.aload_n 1, 1) := by decide +kernel
theorem dL_areAlike_63 : decode cL_areAlike 63 = .ok (.iload_n 3, 1) := by decide +kernel
theorem dL_areAlike_64 : decode cL_areAlike 64 = .ok (.invokevirtual 54, 3) := by decide +kernel
theorem dL_areAlike_67 : decode cL_areAlike 67 = .ok (.lcmp, 1) := by decide +kernel
theorem dL_areAlike_68 : decode cL_areAlike 68 = .ok (.ifCond .ne 7, 3) := by decide +kernel
theorem dL_areAlike_71 : decode cL_areAlike 71 = .ok (.iconst 1, 1) := by decide +kernel
theorem dL_areAlike_72 : decode cL_areAlike 72 = .ok (.goto 4, 3) := by decide +kernel
theorem dL_areAlike_75 : decode cL_areAlike 75 = .ok (.iconst 0, 1) := by decide +kernel
theorem dL_areAlike_76 : decode cL_areAlike 76 = .ok (.istore_n 2, 1) := by decide +kernel
theorem dL_areAlike_77 : decode cL_areAlike 77 = .ok (.iinc 3 1, 3) := by decide +kernel
theorem dL_areAlike_80 : decode cL_areAlike 80 = .ok (.goto (-33), 3) := by decide +kernel
theorem dL_areAlike_83 : decode cL_areAlike 83 = .ok (.iconst 0, 1) := by decide +kernel
theorem dL_areAlike_84 : decode cL_areAlike 84 = .ok (.istore_n 3, 1) := by decide +kernel
theorem dL_areAlike_85 : decode cL_areAlike 85 = .ok (.iload_n 3, 1) := by decide +kernel
theorem dL_areAlike_86 : decode cL_areAlike 86 = .ok (.aload_n 0, 1) := by decide +kernel
theorem dL_areAlike_87 : decode cL_areAlike 87 = .ok (.bipush 7, 2) := by decide +kernel
theorem dL_areAlike_89 : decode cL_areAlike 89 = .ok (.invokevirtual 39, 3) := by decide +kernel
theorem dL_areAlike_92 : decode cL_areAlike 92 = .ok (.if_icmp .ge 49, 3) := by decide +kernel
theorem dL_areAlike_95 : decode cL_areAlike 95 = .ok (.iload_n 2, 1) := by decide +kernel
theorem dL_areAlike_96 : decode cL_areAlike 96 = .ok (.ifCond .eq 37, 3) := by decide +kernel
theorem dL_areAlike_99 : decode cL_areAlike 99 = .ok (.aload_n 0, 1) := by decide +kernel
theorem dL_areAlike_100 : decode cL_areAlike 100 = .ok (.iload_n 3, 1) := by decide +kernel
theorem dL_areAlike_101 : decode cL_areAlike 101 = .ok (.iconst 2, 1) := by decide +kernel
theorem dL_areAlike_102 : decode cL_areAlike 102 = .ok (.invokevirtual 58, 3) := by decide +kernel
theorem dL_areAlike_105 : decode cL_areAlike 105 = .ok (.aload_n 1, 1) := by decide +kernel
theorem dL_areAlike_106 : decode cL_areAlike 106 = .ok (.iload_n 3, 1) := by decide +kernel
theorem dL_areAlike_107 : decode cL_areAlike 107 = .ok (.iconst 2, 1) := by decide +kernel
theorem dL_areAlike_108 : decode cL_areAlike 108 = .ok (.invokevirtual 58, 3) := by decide +kernel
theorem dL_areAlike_111 : decode cL_areAlike 111 = .ok (.if_icmp .ne 22, 3) := by decide +kernel
theorem dL_areAlike_114 : decode cL_areAlike 114 = .ok (.aload_n 0, 1) := by decide +kernel
theorem dL_areAlike_115 : decode cL_areAlike 115 = .ok (.iload_n 3, 1) := by decide +kernel
theorem dL_areAlike_116 : decode cL_areAlike 116 = .ok (.iconst 3, 1) := by decide +kernel
theorem dL_areAlike_117 : decode cL_areAlike 117 = .ok (.invokevirtual 58, 3) := by decide +kernel
theorem dL_areAlike_120 : decode cL_areAlike 120 = .ok (.aload_n 1, 1) := by decide +kernel
theorem dL_areAlike_121 : decode cL_areAlike 121 = .ok (.iload_n 3, 1) := by decide +kernel
theorem dL_areAlike_122 : decode cL_areAlike 122 = .ok (.iconst 3, 1) := by decide +kernel
theorem dL_areAlike_123 : decode cL_areAlike 123 = .ok (.invokevirtual 58, 3) := by decide +kernel
theorem dL_areAlike_126 : decode cL_areAlike 126 = .ok (.if_icmp .ne 7, 3) := by decide +kernel
theorem dL_areAlike_129 : decode cL_areAlike 129 = .ok (.iconst 1, 1) := by decide +kernel
theorem dL_areAlike_130 : decode cL_areAlike 130 = .ok (.goto 4, 3) := by decide +kernel
theorem dL_areAlike_133 : decode cL_areAlike 133 = .ok (.iconst 0, 1) := by decide +kernel
theorem dL_areAlike_134 : decode cL_areAlike 134 = .ok (.istore_n 2, 1) := by decide +kernel
theorem dL_areAlike_135 : decode cL_areAlike 135 = .ok (.iinc 3 1, 3) := by decide +kernel
theorem dL_areAlike_138 : decode cL_areAlike 138 = .ok (.goto (-53), 3) := by decide +kernel
theorem dL_areAlike_141 : decode cL_areAlike 141 = .ok (.iload_n 2, 1) := by decide +kernel
theorem dL_areAlike_142 : decode cL_areAlike 142 = .ok (.ifCond .eq 30, 3) := by decide +kernel
theorem dL_areAlike_145 : decode cL_areAlike 145 = .ok (.aload_n 0, 1) := by decide +kernel
theorem dL_areAlike_146 : decode cL_areAlike 146 = .ok (.invokevirtual 61, 3) := by decide +kernel
theorem dL_areAlike_149 : decode cL_areAlike 149 = .ok (.aload_n 1, 1) := by decide +kernel
theorem dL_areAlike_150 : decode cL_areAlike 150 = .ok (.invokevirtual 61, 3) := by decide +kernel
theorem dL_areAlike_153 : decode cL_areAlike 153 = .ok (.dcmp .l, 1) := by decide +kernel
theorem dL_areAlike_154 : decode cL_areAlike 154 = .ok (.ifCond .ne 18, 3) := by decide +kernel
theorem dL_areAlike_157 : decode cL_areAlike 157 = .ok (.aload_n 0, 1) := by decide +kernel
theorem dL_areAlike_158 : decode cL_areAlike 158 = .ok (.invokevirtual 65, 3) := by decide +kernel
theorem dL_areAlike_161 : decode cL_areAlike 161 = .ok (.aload_n 1, 1) := by decide +kernel
theorem dL_areAlike_162 : decode cL_areAlike 162 = .ok (.invokevirtual 65, 3) := by decide +kernel
theorem dL_areAlike_165 : decode cL_areAlike 165 = .ok (.if_icmp .ne 7, 3) := by decide +kernel
theorem dL_areAlike_168 : decode cL_areAlike 168 = .ok (.iconst 1, 1) := by decide +kernel
theorem dL_areAlike_169 : decode cL_areAlike 169 = .ok (.goto 4, 3) := by decide +kernel
theorem dL_areAlike_172 : decode cL_areAlike 172 = .ok (.iconst 0, 1) := by decide +kernel
theorem dL_areAlike_173 : decode cL_areAlike 173 = .ok (.ireturn, 1) := by decide +kernel
set_option maxRecDepth 20000 in
theorem ggL_isSound_X5_setting : GoodIn wsL_isSound wsX5_setting := goodIn_ca (goodIn_r _ [5, 6, 7, 8, 4, 9, 10, 11, 12, 13, 14, 15, 16, 17, 18, 19, 20, 21, 22, 23, 24, 25, 26, 27, 28, 29, 105, 106, 107, 108, 109, 110, 111, 112, 113, 114, 115, 116, 117, 118, 119, 120, 121, 122, 123, 124, 125, 126, 127, 128] (by decide +kernel) (by decide +kernel)) (goodIn_sub (fun _ h => List.mem_cons_of_mem _ (List.mem_append_left _ (List.mem_append_right _ h))) (by decide +kernel))
set_option maxRecDepth 20000 in
theorem gL_isSound_X5_setting : GoodIn wsL_isSound (wsV RL 39 RX5 yX5_setting wsX5_setting) := goodIn_app (goodIn_of _ (by decide +kernel)) ggL_isSound_X5_setting
set_option maxRecDepth 20000 in
theorem ggL_isSound_X5_roof : GoodIn wsL_isSound wsX5_roof := goodIn_ca (goodIn_ca (goodIn_r _ [33, 6, 34, 35, 36, 37, 4, 38, 39, 40, 7, 8, 9, 10, 11, 41, 42, 43, 44, 45, 46, 47, 48, 49, 50, 105, 106, 107, 108, 109, 110, 111, 112, 113, 114, 115, 116, 117, 118, 119, 120, 121, 122, 123, 124, 125, 129, 130, 131, 132, 133, 134] (by decide +kernel) (by decide +kernel)) (goodIn_sub (fun _ h => List.mem_cons_of_mem _ (List.mem_append_right _ h)) (by decide +kernel))) (goodIn_sub (fun _ h => List.mem_cons_of_mem _ (List.mem_append_left _ (List.mem_append_right _ h))) (by decide +kernel))
set_option maxRecDepth 20000 in
theorem gL_isSound_X5_roof : GoodIn wsL_isSound (wsV RL 68 RX5 yX5_roof wsX5_roof) := goodIn_app (goodIn_of _ (by decide +kernel)) ggL_isSound_X5_roof
set_option maxRecDepth 20000 in
theorem ggL_isSound_X5_sum : GoodIn wsL_isSound wsX5_sum := goodIn_ca (goodIn_r _ [54, 6, 55, 56, 7, 8, 4, 9, 10, 11, 57, 58, 59, 15, 60, 61, 105, 106, 107, 108, 109, 110, 111, 112, 113, 114, 115, 116, 117, 118, 119, 120, 121, 122, 123, 124, 125] (by decide +kernel) (by decide +kernel)) (goodIn_sub (fun _ h => List.mem_cons_of_mem _ (List.mem_append_left _ (List.mem_append_right _ h))) (by decide +kernel))
set_option maxRecDepth 20000 in
theorem gL_isSound_X5_sum : GoodIn wsL_isSound (wsV RL 54 RX5 yX5_sum wsX5_sum) := goodIn_app (goodIn_of _ (by decide +kernel)) ggL_isSound_X5_sum
set_option maxRecDepth 20000 in
theorem ggL_isSound_X5_user : GoodIn wsL_isSound wsX5_user := goodIn_ca (goodIn_ca (goodIn_r _ [65, 6, 66, 67, 68, 36, 37, 4, 38, 39, 40, 7, 8, 9, 10, 11, 69, 70, 71, 72, 73, 74, 75, 76, 77, 105, 106, 107, 108, 109, 110, 111, 112, 113, 114, 115, 116, 117, 118, 119, 120, 121, 122, 123, 124, 125, 126, 127, 128, 135, 136, 137, 138] (by decide +kernel) (by decide +kernel)) (goodIn_sub (fun _ h => List.mem_cons_of_mem _ (List.mem_append_right _ h)) (by decide +kernel))) (goodIn_sub (fun _ h => List.mem_cons_of_mem _ (List.mem_append_left _ (List.mem_append_right _ h))) (by decide +kernel))
set_option maxRecDepth 20000 in
theorem gL_isSound_X5_user : GoodIn wsL_isSound (wsV RL 58 RX5 yX5_user wsX5_user) := goodIn_app (goodIn_of _ (by decide +kernel)) ggL_isSound_X5_user
set_option maxRecDepth 20000 in
theorem ggL_isSound_X5_day : GoodIn wsL_isSound wsX5_day := goodIn_ca (goodIn_ca (goodIn_r _ [81, 6, 56, 36, 37, 4, 38, 39, 40, 7, 8, 9, 10, 11, 57, 58, 59, 15, 60, 61, 105, 106, 107, 108, 109, 110, 111, 112, 113, 114, 115, 116, 117, 118, 119, 120, 121, 122, 123, 124, 125] (by decide +kernel) (by decide +kernel)) (goodIn_sub (fun _ h => List.mem_cons_of_mem _ (List.mem_append_right _ h)) (by decide +kernel))) (goodIn_sub (fun _ h => List.mem_cons_of_mem _ (List.mem_append_left _ (List.mem_append_right _ h))) (by decide +kernel))
set_option maxRecDepth 20000 in
theorem gL_isSound_X5_day : GoodIn wsL_isSound (wsV RL 71 RX5 yX5_day wsX5_day) := goodIn_app (goodIn_of _ (by decide +kernel)) ggL_isSound_X5_day
set_option maxRecDepth 20000 in
theorem ggL_isSound_X5_rain : GoodIn wsL_isSound wsX5_rain := goodIn_ca (goodIn_r _ [85, 6, 86, 87, 36, 37, 4, 38, 39, 40, 105, 106, 107, 108, 109, 110, 111, 112, 113, 114, 115, 116, 117, 118, 119, 120, 121, 122, 123, 124, 125] (by decide +kernel) (by decide +kernel)) (goodIn_sub (fun _ h => List.mem_cons_of_mem _ (List.mem_append_right _ h)) (by decide +kernel))
set_option maxRecDepth 20000 in
theorem gL_isSound_X5_rain : GoodIn wsL_isSound (wsV RL 74 RX5 yX5_rain wsX5_rain) := goodIn_app (goodIn_of _ (by decide +kernel)) ggL_isSound_X5_rain
set_option maxRecDepth 20000 in
theorem ggL_isSound_X5_longestShortage : GoodIn wsL_isSound wsX5_longestShortage := goodIn_r _ [91, 6, 56, 92, 93, 94, 95, 96, 97, 98, 15, 99, 100, 58, 59, 60, 61, 105, 106, 107, 108, 109, 110, 111, 112, 113, 114, 115, 116, 117, 118, 119, 120, 121, 122, 123, 124, 125] (by decide +kernel) (by decide +kernel)
set_option maxRecDepth 20000 in
theorem gL_isSound_X5_longestShortage : GoodIn wsL_isSound (wsV RL 65 RX5 yX5_longestShortage wsX5_longestShortage) := goodIn_app (goodIn_of _ (by decide +kernel)) ggL_isSound_X5_longestShortage
set_option maxRecDepth 20000 in
theorem ggL_isSound_X5_reliability : GoodIn wsL_isSound wsX5_reliability := goodIn_r _ [104, 6, 56, 96, 97, 98, 15, 99, 100, 58, 59, 60, 61, 105, 106, 107, 108, 109, 110, 111, 112, 113, 114, 115, 116, 117, 118, 119, 120, 121, 122, 123, 124, 125] (by decide +kernel) (by decide +kernel)
set_option maxRecDepth 20000 in
theorem gL_isSound_X5_reliability : GoodIn wsL_isSound (wsV RL 61 RX5 yX5_reliability wsX5_reliability) := goodIn_app (goodIn_of _ (by decide +kernel)) ggL_isSound_X5_reliability
theorem dL_isSound_0 : decode cL_isSound 0 = .ok (.lconst 0, 1) := by decide +kernel
theorem dL_isSound_1 : decode cL_isSound 1 = .ok (.lstore_n 1, 1) := by decide +kernel
theorem dL_isSound_2 : decode cL_isSound 2 = .ok (.iconst 0, 1) := by decide +kernel
theorem dL_isSound_3 : decode cL_isSound 3 = .ok (.istore_n 3, 1) := by decide +kernel
theorem dL_isSound_4 : decode cL_isSound 4 = .ok (.iload_n 3, 1) := by decide +kernel
theorem dL_isSound_5 : decode cL_isSound 5 = .ok (.aload_n 0, 1) := by decide +kernel
theorem dL_isSound_6 : decode cL_isSound 6 = .ok (.bipush 6, 2) := by decide +kernel
theorem dL_isSound_8 : decode cL_isSound 8 = .ok (.invokevirtual 39, 3) := by decide +kernel
theorem dL_isSound_11 : decode cL_isSound 11 = .ok (.if_icmp .ge 19, 3) := by decide +kernel
theorem dL_isSound_14 : decode cL_isSound 14 = .ok (.lload_n 1, 1) := by decide +kernel
theorem dL_isSound_15 : decode cL_isSound 15 = .ok (.aload_n 0, 1) := by decide +kernel
theorem dL_isSound_16 : decode cL_isSound 16 = .ok (.iload_n 3, 1) := by decide +kernel
theorem dL_isSound_17 : decode cL_isSound 17 = .ok (.iconst 4, 1) := by decide +kernel
theorem dL_isSound_18 : decode cL_isSound 18 = .ok (.invokevirtual 68, 3) := by decide +kernel
theorem dL_isSound_21 : decode cL_isSound 21 = .ok (.i2l, 1) := by decide +kernel
theorem dL_isSound_22 : decode cL_isSound 22 = .ok (.ladd, 1) := by decide +kernel
theorem dL_isSound_23 : decode cL_isSound 23 = .ok (.lstore_n 1, 1) := by decide +kernel
theorem dL_isSound_24 : decode cL_isSound 24 = .ok (.iinc 3 1, 3) := by decide +kernel
theorem dL_isSound_27 : decode cL_isSound 27 = .ok (.goto (-23), 3) := by decide +kernel
theorem dL_isSound_30 : decode cL_isSound 30 = .ok (.aload_n 0, 1) := by decide +kernel
theorem dL_isSound_31 : decode cL_isSound 31 = .ok (.iconst 1, 1) := by decide +kernel
theorem dL_isSound_32 : decode cL_isSound 32 = .ok (.invokevirtual 54, 3) := by decide +kernel
theorem dL_isSound_35 : decode cL_isSound 35 = .ok (.aload_n 0, 1) := by decide +kernel
theorem dL_isSound_36 : decode cL_isSound 36 = .ok (.bipush 8, 2) := by decide +kernel
theorem dL_isSound_38 : decode cL_isSound 38 = .ok (.invokevirtual 54, 3) := by decide +kernel
theorem dL_isSound_41 : decode cL_isSound 41 = .ok (.ladd, 1) := by decide +kernel
theorem dL_isSound_42 : decode cL_isSound 42 = .ok (.aload_n 0, 1) := by decide +kernel
theorem dL_isSound_43 : decode cL_isSound 43 = .ok (.iconst 4, 1) := by decide +kernel
theorem dL_isSound_44 : decode cL_isSound 44 = .ok (.invokevirtual 54, 3) := by decide +kernel
theorem dL_isSound_47 : decode cL_isSound 47 = .ok (.aload_n 0, 1) := by decide +kernel
theorem dL_isSound_48 : decode cL_isSound 48 = .ok (.iconst 5, 1) := by decide +kernel
theorem dL_isSound_49 : decode cL_isSound 49 = .ok (.invokevirtual 54, 3) := by decide +kernel
theorem dL_isSound_52 : decode cL_isSound 52 = .ok (.ladd, 1) := by decide +kernel
theorem dL_isSound_53 : decode cL_isSound 53 = .ok (.aload_n 0, 1) := by decide +kernel
theorem dL_isSound_54 : decode cL_isSound 54 = .ok (.bipush 6, 2) := by decide +kernel
theorem dL_isSound_56 : decode cL_isSound 56 = .ok (.invokevirtual 54, 3) := by decide +kernel
theorem dL_isSound_59 : decode cL_isSound 59 = .ok (.ladd, 1) := by decide +kernel
theorem dL_isSound_60 : decode cL_isSound 60 = .ok (.aload_n 0, 1) := by decide +kernel
theorem dL_isSound_61 : decode cL_isSound 61 = .ok (.bipush 10, 2) := by decide +kernel
theorem dL_isSound_63 : decode cL_isSound 63 = .ok (.invokevirtual 39, 3) := by decide +kernel
theorem dL_isSound_66 : decode cL_isSound 66 = .ok (.i2l, 1) := by decide +kernel
theorem dL_isSound_67 : decode cL_isSound 67 = .ok (.ladd, 1) := by decide +kernel
theorem dL_isSound_68 : decode cL_isSound 68 = .ok (.lcmp, 1) := by decide +kernel
theorem dL_isSound_69 : decode cL_isSound 69 = .ok (.ifCond .ne 38, 3) := by decide +kernel
theorem dL_isSound_72 : decode cL_isSound 72 = .ok (.aload_n 0, 1) := by decide +kernel
theorem dL_isSound_73 : decode cL_isSound 73 = .ok (.iconst 2, 1) := by decide +kernel
theorem dL_isSound_74 : decode cL_isSound 74 = .ok (.invokevirtual 54, 3) := by decide +kernel
theorem dL_isSound_77 : decode cL_isSound 77 = .ok (.aload_n 0, 1) := by decide +kernel
theorem dL_isSound_78 : decode cL_isSound 78 = .ok (.bipush 9, 2) := by decide +kernel
theorem dL_isSound_80 : decode cL_isSound 80 = .ok (.invokevirtual 54, 3) := by decide +kernel
theorem dL_isSound_83 : decode cL_isSound 83 = .ok (.lload_n 1, 1) := by decide +kernel
theorem dL_isSound_84 : decode cL_isSound 84 = .ok (.ladd, 1) := by decide +kernel
theorem dL_isSound_85 : decode cL_isSound 85 = .ok (.lcmp, 1) := by decide +kernel
theorem dL_isSound_86 : decode cL_isSound 86 = .ok (.ifCond .ne 21, 3) := by decide +kernel
theorem dL_isSound_89 : decode cL_isSound 89 = .ok (.aload_n 0, 1) := by decide +kernel
theorem dL_isSound_90 : decode cL_isSound 90 = .ok (.bipush 10, 2) := by decide +kernel
theorem dL_isSound_92 : decode cL_isSound 92 = .ok (.invokevirtual 39, 3) := by decide +kernel
theorem dL_isSound_95 : decode cL_isSound 95 = .ok (.aload_n 0, 1) := by decide +kernel
theorem dL_isSound_96 : decode cL_isSound 96 = .ok (.iconst 0, 1) := by decide +kernel
theorem dL_isSound_97 : decode cL_isSound 97 = .ok (.invokevirtual 39, 3) := by decide +kernel
theorem dL_isSound_100 : decode cL_isSound 100 = .ok (.if_icmp .gt 7, 3) := by decide +kernel
theorem dL_isSound_103 : decode cL_isSound 103 = .ok (.iconst 1, 1) := by decide +kernel
theorem dL_isSound_104 : decode cL_isSound 104 = .ok (.goto 4, 3) := by decide +kernel
theorem dL_isSound_107 : decode cL_isSound 107 = .ok (.iconst 0, 1) := by decide +kernel
theorem dL_isSound_108 : decode cL_isSound 108 = .ok (.istore_n 3, 1) := by decide +kernel
theorem dL_isSound_109 : decode cL_isSound 109 = .ok (.lconst 0, 1) := by decide +kernel
theorem dL_isSound_110 : decode cL_isSound 110 = .ok (.lstore 4, 2) := by decide +kernel
theorem dL_isSound_112 : decode cL_isSound 112 = .ok (.iconst 0, 1) := by decide +kernel
theorem dL_isSound_113 : decode cL_isSound 113 = .ok (.istore 6, 2) := by decide +kernel
theorem dL_isSound_115 : decode cL_isSound 115 = .ok (.iload 6, 2) := by decide +kernel
theorem dL_isSound_117 : decode cL_isSound 117 = .ok (.aload_n 0, 1) := by decide +kernel
theorem dL_isSound_118 : decode cL_isSound 118 = .ok (.bipush 7, 2) := by decide +kernel
theorem dL_isSound_120 : decode cL_isSound 120 = .ok (.invokevirtual 39, 3) := by decide +kernel
theorem dL_isSound_123 : decode cL_isSound 123 = .ok (.if_icmp .ge 49, 3) := by decide +kernel
theorem dL_isSound_126 : decode cL_isSound 126 = .ok (.lload 4, 2) := by decide +kernel
theorem dL_isSound_128 : decode cL_isSound 128 = .ok (.aload_n 0, 1) := by decide +kernel
theorem dL_isSound_129 : decode cL_isSound 129 = .ok (.iload 6, 2) := by decide +kernel
theorem dL_isSound_131 : decode cL_isSound 131 = .ok (.iconst 3, 1) := by decide +kernel
theorem dL_isSound_132 : decode cL_isSound 132 = .ok (.invokevirtual 58, 3) := by decide +kernel
theorem dL_isSound_135 : decode cL_isSound 135 = .ok (.i2l, 1) := by decide +kernel
theorem dL_isSound_136 : decode cL_isSound 136 = .ok (.ladd, 1) := by decide +kernel
theorem dL_isSound_137 : decode cL_isSound 137 = .ok (.lstore 4, 2) := by decide +kernel
theorem dL_isSound_139 : decode cL_isSound 139 = .ok (.iload_n 3, 1) := by decide +kernel
theorem dL_isSound_140 : decode cL_isSound 140 = .ok (.ifCond .eq 24, 3) := by decide +kernel
theorem dL_isSound_143 : decode cL_isSound 143 = .ok (.aload_n 0, 1) := by decide +kernel
theorem dL_isSound_144 : decode cL_isSound 144 = .ok (.iload 6, 2) := by decide +kernel
theorem dL_isSound_146 : decode cL_isSound 146 = .ok (.iconst 2, 1) := by decide +kernel
theorem dL_isSound_147 : decode cL_isSound 147 = .ok (.invokevirtual 58, 3) := by decide +kernel
theorem dL_isSound_150 : decode cL_isSound 150 = .ok (.aload_n 0, 1) := by decide +kernel
theorem dL_isSound_151 : decode cL_isSound 151 = .ok (.iload 6, 2) := by decide +kernel
theorem dL_isSound_153 : decode cL_isSound 153 = .ok (.iconst 0, 1) := by decide +kernel
theorem dL_isSound_154 : decode cL_isSound 154 = .ok (.invokevirtual 58, 3) := by decide +kernel
theorem dL_isSound_157 : decode cL_isSound 157 = .ok (.if_icmp .gt 7, 3) := by decide +kernel
theorem dL_isSound_160 : decode cL_isSound 160 = .ok (.iconst 1, 1) := by decide +kernel
theorem dL_isSound_161 : decode cL_isSound 161 = .ok (.goto 4, 3) := by decide +kernel
theorem dL_isSound_164 : decode cL_isSound 164 = .ok (.iconst 0, 1) := by decide +kernel
theorem dL_isSound_165 : decode cL_isSound 165 = .ok (.istore_n 3, 1) := by decide +kernel
theorem dL_isSound_166 : decode cL_isSound 166 = .ok (.iinc 6 1, 3) := by decide +kernel
theorem dL_isSound_169 : decode cL_isSound 169 = .ok (.goto (-54), 3) := by decide +kernel
theorem dL_isSound_172 : decode cL_isSound 172 = .ok (.iconst 0, 1) := by decide +kernel
theorem dL_isSound_173 : decode cL_isSound 173 = .ok (.istore 6, 2) := by decide +kernel
theorem dL_isSound_175 : decode cL_isSound 175 = .ok (.iconst 0, 1) := by decide +kernel
theorem dL_isSound_176 : decode cL_isSound 176 = .ok (.istore 7, 2) := by decide +kernel
theorem dL_isSound_178 : decode cL_isSound 178 = .ok (.iload 7, 2) := by decide +kernel
theorem dL_isSound_180 : decode cL_isSound 180 = .ok (.aload_n 0, 1) := by decide +kernel
theorem dL_isSound_181 : decode cL_isSound 181 = .ok (.bipush 9, 2) := by decide +kernel
theorem dL_isSound_183 : decode cL_isSound 183 = .ok (.invokevirtual 39, 3) := by decide +kernel
theorem dL_isSound_186 : decode cL_isSound 186 = .ok (.if_icmp .ge 89, 3) := by decide +kernel
theorem dL_isSound_189 : decode cL_isSound 189 = .ok (.iload 6, 2) := by decide +kernel
theorem dL_isSound_191 : decode cL_isSound 191 = .ok (.aload_n 0, 1) := by decide +kernel
theorem dL_isSound_192 : decode cL_isSound 192 = .ok (.iload 7, 2) := by decide +kernel
theorem dL_isSound_194 : decode cL_isSound 194 = .ok (.bipush 7, 2) := by decide +kernel
theorem dL_isSound_196 : decode cL_isSound 196 = .ok (.invokevirtual 71, 3) := by decide +kernel
theorem dL_isSound_199 : decode cL_isSound 199 = .ok (.ifCond .le 7, 3) := by decide +kernel
theorem dL_isSound_202 : decode cL_isSound 202 = .ok (.iconst 1, 1) := by decide +kernel
theorem dL_isSound_203 : decode cL_isSound 203 = .ok (.goto 4, 3) := by decide +kernel
theorem dL_isSound_206 : decode cL_isSound 206 = .ok (.iconst 0, 1) := by decide +kernel
theorem dL_isSound_207 : decode cL_isSound 207 = .ok (.iadd, 1) := by decide +kernel
theorem dL_isSound_208 : decode cL_isSound 208 = .ok (.istore 6, 2) := by decide +kernel
theorem dL_isSound_210 : decode cL_isSound 210 = .ok (.iload_n 3, 1) := by decide +kernel
theorem dL_isSound_211 : decode cL_isSound 211 = .ok (.ifCond .eq 56, 3) := by decide +kernel
theorem dL_isSound_214 : decode cL_isSound 214 = .ok (.aload_n 0, 1) := by decide +kernel
theorem dL_isSound_215 : decode cL_isSound 215 = .ok (.iload 7, 2) := by decide +kernel
theorem dL_isSound_217 : decode cL_isSound 217 = .ok (.invokevirtual 74, 3) := by decide +kernel
theorem dL_isSound_220 : decode cL_isSound 220 = .ok (.ifCond .gt 23, 3) := by decide +kernel
theorem dL_isSound_223 : decode cL_isSound 223 = .ok (.aload_n 0, 1) := by decide +kernel
theorem dL_isSound_224 : decode cL_isSound 224 = .ok (.iload 7, 2) := by decide +kernel
theorem dL_isSound_226 : decode cL_isSound 226 = .ok (.iconst 1, 1) := by decide +kernel
theorem dL_isSound_227 : decode cL_isSound 227 = .ok (.invokevirtual 71, 3) := by decide +kernel
theorem dL_isSound_230 : decode cL_isSound 230 = .ok (.ifCond .ne 37, 3) := by decide +kernel
theorem dL_isSound_233 : decode cL_isSound 233 = .ok (.aload_n 0, 1) := by decide +kernel
theorem dL_isSound_234 : decode cL_isSound 234 = .ok (.iload 7, 2) := by decide +kernel
theorem dL_isSound_236 : decode cL_isSound 236 = .ok (.iconst 2, 1) := by decide +kernel
theorem dL_isSound_237 : decode cL_isSound 237 = .ok (.invokevirtual 71, 3) := by decide +kernel
theorem dL_isSound_240 : decode cL_isSound 240 = .ok (.ifCond .ne 27, 3) := by decide +kernel
theorem dL_isSound_243 : decode cL_isSound 243 = .ok (.aload_n 0, 1) := by decide +kernel
theorem dL_isSound_244 : decode cL_isSound 244 = .ok (.iload 7, 2) := by decide +kernel
theorem dL_isSound_246 : decode cL_isSound 246 = .ok (.invokevirtual 74, 3) := by decide +kernel
theorem dL_isSound_249 : decode cL_isSound 249 = .ok (.ifCond .eq 14, 3) := by decide +kernel
theorem dL_isSound_252 : decode cL_isSound 252 = .ok (.aload_n 0, 1) := by decide +kernel
theorem dL_isSound_253 : decode cL_isSound 253 = .ok (.iload 7, 2) := by decide +kernel
theorem dL_isSound_255 : decode cL_isSound 255 = .ok (.bipush 9, 2) := by decide +kernel
theorem dL_isSound_257 : decode cL_isSound 257 = .ok (.invokevirtual 71, 3) := by decide +kernel
theorem dL_isSound_260 : decode cL_isSound 260 = .ok (.ifCond .ne 7, 3) := by decide +kernel
theorem dL_isSound_263 : decode cL_isSound 263 = .ok (.iconst 1, 1) := by decide +kernel
theorem dL_isSound_264 : decode cL_isSound 264 = .ok (.goto 4, 3) := by decide +kernel
theorem dL_isSound_267 : decode cL_isSound 267 = .ok (.iconst 0, 1) := by decide +kernel
theorem dL_isSound_268 : decode cL_isSound 268 = .ok (.istore_n 3, 1) := by decide +kernel
theorem dL_isSound_269 : decode cL_isSound 269 = .ok (.iinc 7 1, 3) := by decide +kernel
theorem dL_isSound_272 : decode cL_isSound 272 = .ok (.goto (-94), 3) := by decide +kernel
theorem dL_isSound_275 : decode cL_isSound 275 = .ok (.iload_n 3, 1) := by decide +kernel
theorem dL_isSound_276 : decode cL_isSound 276 = .ok (.ifCond .eq 37, 3) := by decide +kernel
theorem dL_isSound_279 : decode cL_isSound 279 = .ok (.lload 4, 2) := by decide +kernel
theorem dL_isSound_281 : decode cL_isSound 281 = .ok (.aload_n 0, 1) := by decide +kernel
theorem dL_isSound_282 : decode cL_isSound 282 = .ok (.bipush 6, 2) := by decide +kernel
theorem dL_isSound_284 : decode cL_isSound 284 = .ok (.invokevirtual 54, 3) := by decide +kernel
theorem dL_isSound_287 : decode cL_isSound 287 = .ok (.lcmp, 1) := by decide +kernel
theorem dL_isSound_288 : decode cL_isSound 288 = .ok (.ifCond .ne 25, 3) := by decide +kernel
theorem dL_isSound_291 : decode cL_isSound 291 = .ok (.aload_n 0, 1) := by decide +kernel
theorem dL_isSound_292 : decode cL_isSound 292 = .ok (.invokevirtual 65, 3) := by decide +kernel
theorem dL_isSound_295 : decode cL_isSound 295 = .ok (.iload 6, 2) := by decide +kernel
theorem dL_isSound_297 : decode cL_isSound 297 = .ok (.if_icmp .gt 16, 3) := by decide +kernel
theorem dL_isSound_300 : decode cL_isSound 300 = .ok (.aload_n 0, 1) := by decide +kernel
theorem dL_isSound_301 : decode cL_isSound 301 = .ok (.invokevirtual 61, 3) := by decide +kernel
theorem dL_isSound_304 : decode cL_isSound 304 = .ok (.dconst 1, 1) := by decide +kernel
theorem dL_isSound_305 : decode cL_isSound 305 = .ok (.dcmp .g, 1) := by decide +kernel
theorem dL_isSound_306 : decode cL_isSound 306 = .ok (.ifCond .gt 7, 3) := by decide +kernel
theorem dL_isSound_309 : decode cL_isSound 309 = .ok (.iconst 1, 1) := by decide +kernel
theorem dL_isSound_310 : decode cL_isSound 310 = .ok (.goto 4, 3) := by decide +kernel
theorem dL_isSound_313 : decode cL_isSound 313 = .ok (.iconst 0, 1) := by decide +kernel
theorem dL_isSound_314 : decode cL_isSound 314 = .ok (.ireturn, 1) := by decide +kernel
end
section
set_option maxRecDepth 20000 in
theorem ggL_law_X5_init : GoodIn wsL_law wsX5_init := goodIn_r _ [5, 6, 7, 8, 9, 10, 11, 12, 13, 14, 15, 16, 17, 18, 19, 20, 21, 22, 23, 24, 25, 26, 27, 28, 29, 30, 31, 32, 33, 34, 35, 36, 37, 38, 39, 40, 41, 42, 43, 44, 45, 46, 47, 48, 49, 50, 51, 52, 53, 54, 55, 56, 57, 448, 449, 450, 451, 452, 453, 454, 455, 456, 457, 458, 459, 460, 461, 462, 463, 443, 444, 445, 446, 447, 464, 465, 466, 467, 468, 469, 470, 471, 472, 473, 474, 475, 476, 477, 478, 479, 480, 481, 482] (by decide +kernel) (by decide +kernel)
set_option maxRecDepth 20000 in
theorem gL_law_X5_init : GoodIn wsL_law (wsX5_init) := ggL_law_X5_init
set_option maxRecDepth 20000 in
theorem ggL_law_L_plans : GoodIn wsL_law wsL_plans := goodIn_ca (goodIn_ca (goodIn_r _ [61, 62, 63, 60, 64, 65, 66, 67, 68, 69, 70, 71, 72, 2, 73, 74, 75, 76, 12, 77, 78, 79, 80, 81, 82, 83, 84, 85, 86, 87, 88, 14, 89, 90, 91, 11, 92, 23, 93, 94, 95, 24, 96, 97, 26, 32, 98, 34, 99, 100, 101, 102, 103, 35, 104, 105, 106, 107, 108, 109, 28, 110, 111, 112, 113, 114, 115, 116, 117, 118, 119, 120, 121, 122, 123, 124, 125, 126, 127, 31, 128, 129, 44, 130, 131, 132, 46, 133, 134, 135, 136, 137, 138, 139, 140, 141, 142, 143, 144, 145, 146, 147, 148, 149, 150, 151, 152, 153, 154, 443, 444, 445, 446, 447, 448, 449, 450, 451, 452, 453, 454, 455, 456, 457, 458, 459, 460, 461, 462, 463, 470, 471, 472, 473, 474, 475, 476, 477, 478, 479, 480, 481, 482] (by decide +kernel) (by decide +kernel)) (goodIn_sub (fun _ h => List.mem_append_left _ (List.mem_append_left _ (List.mem_append_right _ h))) (by decide +kernel))) (goodIn_sub (fun _ h => List.mem_append_left _ (List.mem_append_right _ h)) (by decide +kernel))
set_option maxRecDepth 20000 in
theorem gL_law_L_plans : GoodIn wsL_law (va_wsS RL 78 yL_plans wsL_plans) := goodIn_app (goodIn_of _ (by decide +kernel)) ggL_law_L_plans
set_option maxRecDepth 20000 in
theorem ggL_law_L_cell : GoodIn wsL_law wsL_cell := goodIn_r _ [64, 65] (by decide +kernel) (by decide +kernel)
set_option maxRecDepth 20000 in
theorem gL_law_L_cell : GoodIn wsL_law (va_wsS RL 9 yL_cell wsL_cell) := goodIn_app (goodIn_of _ (by decide +kernel)) ggL_law_L_cell
set_option maxRecDepth 20000 in
theorem ggL_law_L_isStep : GoodIn wsL_law wsL_isStep := goodIn_ca (goodIn_ca (goodIn_r _ [157, 158, 66, 67, 60, 68, 69, 159, 160, 161, 162, 163, 164, 2, 165, 166, 12, 167, 168, 169, 170, 79, 80, 81, 82, 83, 84, 85, 86, 87, 88, 14, 89, 90, 91, 11, 92, 23, 93, 94, 95, 24, 96, 97, 26, 32, 98, 34, 99, 100, 101, 102, 103, 35, 104, 105, 106, 107, 108, 109, 28, 110, 111, 112, 113, 114, 115, 116, 117, 118, 119, 120, 121, 122, 123, 124, 125, 126, 127, 31, 128, 129, 44, 130, 131, 132, 46, 133, 134, 135, 136, 137, 138, 139, 140, 141, 142, 143, 144, 145, 171, 172, 173, 174, 175, 176, 177, 178, 179, 180, 181, 182, 183, 184, 185, 186, 187, 188, 189, 190, 191, 192, 193, 194, 195, 196, 197, 198, 199, 200, 201, 202, 203, 204, 205, 206, 74, 75, 207, 208, 209, 210, 211, 212, 213, 214, 215, 216, 217, 218, 219, 220, 221, 222, 223, 224, 225, 226, 227, 228, 229, 230, 231, 232, 233, 234, 235, 236, 237, 238, 239, 240, 241, 242, 243, 244, 245, 246, 247, 248, 249, 250, 251, 252, 253, 254, 255, 256, 257, 258, 259, 260, 261, 262, 263, 264, 265, 266, 267, 268, 269, 270, 271, 272, 273, 274, 275, 276, 277, 278, 279, 280, 281, 282, 283, 284, 285, 286, 287, 288, 289, 290, 291, 47, 292, 293, 294, 295, 296, 297, 298, 299, 300, 301, 302, 303, 304, 305, 306, 307, 308, 309, 310, 311, 312, 313, 314, 315, 316, 317, 318, 319, 320, 321, 322, 323, 324, 325, 326, 327, 328, 329, 330, 331, 332, 333, 334, 335, 443, 444, 445, 446, 447, 448, 449, 450, 451, 452, 453, 454, 455, 456, 457, 458, 459, 460, 461, 462, 463, 470, 471, 472, 473, 474, 475, 476, 477, 478, 479, 480, 481, 482] (by decide +kernel) (by decide +kernel)) (goodIn_sub (fun _ h => List.mem_append_left _ (List.mem_append_right _ h)) (by decide +kernel))) (goodIn_sub (fun _ h => List.mem_append_left _ (List.mem_append_left _ (List.mem_append_right _ h))) (by decide +kernel))
set_option maxRecDepth 20000 in
theorem gL_law_L_isStep : GoodIn wsL_law (va_wsS RL 82 yL_isStep wsL_isStep) := goodIn_app (goodIn_of _ (by decide +kernel)) ggL_law_L_isStep
set_option maxRecDepth 20000 in
theorem ggL_law_L_areAlike : GoodIn wsL_law wsL_areAlike := goodIn_ca (goodIn_ca (goodIn_r _ [338, 186, 187, 188, 2, 189, 12, 79, 80, 81, 82, 83, 190, 191, 192, 11, 193, 23, 93, 94, 95, 24, 96, 97, 32, 194, 98, 103, 104, 105, 339, 340, 341, 342, 170, 221, 343, 273, 274, 275, 35, 344, 345, 346, 347, 151, 152, 153, 348, 349, 350, 351, 352, 353, 354, 355, 46, 356, 134, 135, 136, 137, 357, 358, 359, 360, 332, 333, 334, 335, 272, 361, 362, 363, 364, 365, 176, 177, 178, 443, 444, 445, 446, 447, 448, 449, 450, 451, 452, 453, 454, 455, 456, 457, 458, 459, 460, 461, 462, 463, 476, 477, 478, 479, 480, 481, 482] (by decide +kernel) (by decide +kernel)) (goodIn_sub (fun _ h => List.mem_append_left _ (List.mem_append_right _ h)) (by decide +kernel))) (goodIn_sub (fun _ h => List.mem_append_right _ h) (by decide +kernel))
set_option maxRecDepth 20000 in
theorem gL_law_L_areAlike : GoodIn wsL_law (va_wsS RL 85 yL_areAlike wsL_areAlike) := goodIn_app (goodIn_of _ (by decide +kernel)) ggL_law_L_areAlike
set_option maxRecDepth 20000 in
theorem ggL_law_L_isSound : GoodIn wsL_law wsL_isSound := goodIn_ca (goodIn_ca (goodIn_r _ [368, 186, 187, 188, 2, 189, 12, 79, 80, 81, 82, 83, 190, 191, 192, 11, 193, 23, 93, 94, 95, 24, 96, 97, 32, 194, 98, 103, 104, 105, 369, 370, 371, 372, 77, 78, 348, 349, 350, 351, 352, 373, 374, 375, 28, 376, 111, 112, 113, 114, 115, 339, 340, 341, 342, 170, 221, 343, 273, 274, 275, 35, 344, 345, 346, 347, 151, 152, 153, 353, 354, 355, 46, 356, 134, 135, 136, 137, 377, 378, 379, 380, 381, 382, 383, 384, 202, 385, 361, 362, 363, 364, 365, 176, 177, 178, 332, 333, 334, 335, 272, 357, 358, 359, 360, 443, 444, 445, 446, 447, 448, 449, 450, 451, 452, 453, 454, 455, 456, 457, 458, 459, 460, 461, 462, 463, 476, 477, 478, 470, 471, 472, 473, 474, 475, 479, 480, 481, 482] (by decide +kernel) (by decide +kernel)) (goodIn_sub (fun _ h => List.mem_append_left _ (List.mem_append_right _ h)) (by decide +kernel))) (goodIn_sub (fun _ h => List.mem_append_right _ h) (by decide +kernel))
set_option maxRecDepth 20000 in
theorem gL_law_L_isSound : GoodIn wsL_law (va_wsS RL 89 yL_isSound wsL_isSound) := goodIn_app (goodIn_of _ (by decide +kernel)) ggL_law_L_isSound
set_option maxRecDepth 20000 in
theorem ggL_law_L_up : GoodIn wsL_law wsL_up := goodIn_r _ [68, 69] (by decide +kernel) (by decide +kernel)
set_option maxRecDepth 20000 in
theorem gL_law_L_up : GoodIn wsL_law (va_wsS RL 15 yL_up wsL_up) := goodIn_app (goodIn_of _ (by decide +kernel)) ggL_law_L_up
set_option maxRecDepth 20000 in
theorem ggL_law_X5_shortDaysWith : GoodIn wsL_law wsX5_shortDaysWith := goodIn_ca (goodIn_r _ [389, 166, 13, 79, 80, 2, 81, 82, 83, 390, 391, 392, 393, 12, 202, 89, 90, 91, 11, 92, 23, 93, 94, 95, 24, 96, 97, 26, 32, 98, 34, 99, 100, 101, 102, 103, 35, 104, 105, 106, 107, 108, 109, 28, 110, 111, 112, 113, 114, 115, 116, 117, 118, 119, 120, 121, 122, 123, 124, 125, 126, 127, 31, 128, 129, 44, 130, 131, 132, 46, 133, 134, 135, 136, 137, 138, 139, 140, 141, 142, 143, 144, 145, 222, 223, 224, 225, 226, 227, 228, 229, 230, 231, 236, 237, 238, 239, 240, 241, 242, 243, 244, 245, 246, 247, 248, 249, 250, 251, 252, 253, 254, 255, 256, 257, 177, 258, 259, 260, 261, 262, 263, 176, 178, 264, 265, 266, 267, 394, 395, 396, 397, 167, 168, 398, 169, 399, 400, 401, 402, 403, 269, 270, 271, 175, 272, 273, 274, 275, 276, 172, 173, 174, 277, 278, 279, 280, 281, 282, 283, 284, 285, 286, 287, 288, 289, 290, 291, 47, 292, 293, 294, 295, 296, 297, 298, 299, 300, 301, 302, 303, 304, 305, 306, 307, 308, 309, 310, 311, 312, 313, 314, 315, 316, 317, 318, 319, 320, 321, 322, 323, 324, 325, 326, 327, 328, 329, 330, 331, 404, 333, 334, 335, 443, 444, 445, 446, 447, 448, 449, 450, 451, 452, 453, 454, 455, 456, 457, 458, 459, 460, 461, 462, 463, 470, 471, 472, 473, 474, 475, 476, 477, 478, 479, 480, 481, 482] (by decide +kernel) (by decide +kernel)) (goodIn_sub (fun _ h => List.mem_append_left _ (List.mem_append_right _ h)) (by decide +kernel))
set_option maxRecDepth 20000 in
theorem gL_law_X5_shortDaysWith : GoodIn wsL_law (wsV RL 93 RX5 yX5_shortDaysWith wsX5_shortDaysWith) := goodIn_app (goodIn_of _ (by decide +kernel)) ggL_law_X5_shortDaysWith
set_option maxRecDepth 20000 in
theorem ggL_law_X5_capacityFor : GoodIn wsL_law wsX5_capacityFor := goodIn_ca (goodIn_r _ [408, 166, 13, 79, 80, 2, 81, 82, 83, 390, 391, 392, 393, 12, 202, 89, 90, 91, 11, 92, 23, 93, 94, 95, 24, 96, 97, 26, 32, 98, 34, 99, 100, 101, 102, 103, 35, 104, 105, 106, 107, 108, 109, 28, 110, 111, 112, 113, 114, 115, 116, 117, 118, 119, 120, 121, 122, 123, 124, 125, 126, 127, 31, 128, 129, 44, 130, 131, 132, 46, 133, 134, 135, 136, 137, 138, 139, 140, 141, 142, 143, 144, 145, 222, 223, 224, 225, 226, 227, 228, 229, 230, 231, 236, 237, 238, 239, 240, 241, 242, 243, 244, 245, 246, 247, 248, 249, 250, 251, 252, 253, 254, 255, 256, 257, 177, 258, 259, 260, 261, 262, 263, 176, 178, 264, 265, 266, 267, 394, 395, 396, 397, 167, 168, 398, 169, 399, 400, 401, 402, 403, 269, 270, 271, 175, 272, 273, 274, 275, 276, 172, 173, 174, 277, 278, 279, 280, 281, 282, 283, 284, 285, 286, 287, 288, 289, 290, 291, 47, 292, 293, 294, 295, 296, 297, 298, 299, 300, 301, 302, 303, 304, 305, 306, 307, 308, 309, 310, 311, 312, 313, 314, 315, 316, 317, 318, 319, 320, 321, 322, 323, 324, 325, 326, 327, 328, 329, 330, 331, 404, 333, 334, 335, 443, 444, 445, 446, 447, 448, 449, 450, 451, 452, 453, 454, 455, 456, 457, 458, 459, 460, 461, 462, 463, 470, 471, 472, 473, 474, 475, 476, 477, 478, 479, 480, 481, 482] (by decide +kernel) (by decide +kernel)) (goodIn_sub (fun _ h => List.mem_append_left _ (List.mem_append_right _ h)) (by decide +kernel))
set_option maxRecDepth 20000 in
theorem gL_law_X5_capacityFor : GoodIn wsL_law (wsV RL 96 RX5 yX5_capacityFor wsX5_capacityFor) := goodIn_app (goodIn_of _ (by decide +kernel)) ggL_law_X5_capacityFor
set_option maxRecDepth 20000 in
theorem ggL_law_X5_bestRule : GoodIn wsL_law wsX5_bestRule := goodIn_r _ [412, 13, 183, 151, 202, 390, 391, 392, 2, 393, 12, 89, 90, 91, 11, 92, 23, 93, 94, 95, 24, 96, 97, 26, 32, 98, 34, 99, 100, 101, 102, 103, 35, 104, 105, 106, 107, 108, 109, 28, 110, 111, 112, 113, 114, 115, 116, 117, 118, 119, 120, 121, 122, 123, 124, 125, 126, 127, 31, 128, 129, 44, 130, 131, 132, 46, 133, 134, 135, 136, 137, 138, 139, 140, 141, 142, 143, 144, 145, 222, 223, 224, 225, 226, 227, 228, 229, 230, 231, 236, 237, 238, 239, 240, 241, 242, 243, 244, 245, 246, 247, 248, 249, 250, 251, 252, 253, 254, 255, 256, 257, 177, 258, 259, 260, 261, 262, 263, 176, 178, 264, 265, 266, 267, 399, 400, 401, 402, 403, 269, 270, 271, 175, 272, 273, 274, 275, 276, 172, 173, 174, 277, 278, 279, 280, 281, 282, 283, 284, 285, 286, 287, 288, 289, 290, 291, 47, 292, 293, 294, 295, 296, 297, 298, 299, 300, 301, 302, 303, 304, 305, 306, 307, 308, 309, 310, 311, 312, 313, 314, 315, 316, 317, 318, 319, 320, 321, 322, 323, 324, 325, 326, 327, 328, 329, 330, 331, 404, 333, 334, 335, 413, 414, 415, 416, 417, 443, 444, 445, 446, 447, 448, 449, 450, 451, 452, 453, 454, 455, 456, 457, 458, 459, 460, 461, 462, 463, 470, 471, 472, 473, 474, 475, 476, 477, 478, 479, 480, 481, 482] (by decide +kernel) (by decide +kernel)
set_option maxRecDepth 20000 in
theorem gL_law_X5_bestRule : GoodIn wsL_law (wsV RL 99 RX5 yX5_bestRule wsX5_bestRule) := goodIn_app (goodIn_of _ (by decide +kernel)) ggL_law_X5_bestRule
set_option maxRecDepth 20000 in
theorem ggL_law_X5_sustainable : GoodIn wsL_law wsX5_sustainable := goodIn_r _ [421, 13, 151, 12, 390, 391, 392, 2, 393, 202, 89, 90, 91, 11, 92, 23, 93, 94, 95, 24, 96, 97, 26, 32, 98, 34, 99, 100, 101, 102, 103, 35, 104, 105, 106, 107, 108, 109, 28, 110, 111, 112, 113, 114, 115, 116, 117, 118, 119, 120, 121, 122, 123, 124, 125, 126, 127, 31, 128, 129, 44, 130, 131, 132, 46, 133, 134, 135, 136, 137, 138, 139, 140, 141, 142, 143, 144, 145, 222, 223, 224, 225, 226, 227, 228, 229, 230, 231, 236, 237, 238, 239, 240, 241, 242, 243, 244, 245, 246, 247, 248, 249, 250, 251, 252, 253, 254, 255, 256, 257, 177, 258, 259, 260, 261, 262, 263, 176, 178, 264, 265, 266, 267, 422, 423, 424, 425, 287, 399, 400, 401, 402, 403, 269, 270, 271, 175, 272, 273, 274, 275, 276, 172, 173, 174, 277, 278, 279, 280, 281, 282, 283, 284, 285, 286, 288, 289, 290, 291, 47, 292, 293, 294, 295, 296, 297, 298, 299, 300, 301, 302, 303, 304, 305, 306, 307, 308, 309, 310, 311, 312, 313, 314, 315, 316, 317, 318, 319, 320, 321, 322, 323, 324, 325, 326, 327, 328, 329, 330, 331, 404, 333, 334, 335, 443, 444, 445, 446, 447, 448, 449, 450, 451, 452, 453, 454, 455, 456, 457, 458, 459, 460, 461, 462, 463, 470, 471, 472, 473, 474, 475, 476, 477, 478, 479, 480, 481, 482] (by decide +kernel) (by decide +kernel)
set_option maxRecDepth 20000 in
theorem gL_law_X5_sustainable : GoodIn wsL_law (wsV RL 102 RX5 yX5_sustainable wsX5_sustainable) := goodIn_app (goodIn_of _ (by decide +kernel)) ggL_law_X5_sustainable
set_option maxRecDepth 20000 in
theorem ggL_law_X5_setting : GoodIn wsL_law wsX5_setting := goodIn_ca (goodIn_r _ [189, 12, 79, 80, 2, 81, 82, 83, 190, 191, 192, 11, 193, 23, 93, 94, 95, 24, 96, 97, 32, 194, 98, 103, 104, 105, 443, 444, 445, 446, 447, 448, 449, 450, 451, 452, 453, 454, 455, 456, 457, 458, 459, 460, 461, 462, 463, 476, 477, 478] (by decide +kernel) (by decide +kernel)) (goodIn_sub (fun _ h => List.mem_append_left _ (List.mem_append_right _ h)) (by decide +kernel))
set_option maxRecDepth 20000 in
theorem gL_law_X5_setting : GoodIn wsL_law (wsV RL 39 RX5 yX5_setting wsX5_setting) := goodIn_app (goodIn_of _ (by decide +kernel)) ggL_law_X5_setting
set_option maxRecDepth 20000 in
theorem ggL_law_X5_gutterLoss : GoodIn wsL_law wsX5_gutterLoss := goodIn_ca (goodIn_r _ [429, 12, 77, 13, 78, 430, 348, 349, 2, 350, 351, 352, 390, 391, 392, 393, 202, 89, 90, 91, 11, 92, 23, 93, 94, 95, 24, 96, 97, 26, 32, 98, 34, 99, 100, 101, 102, 103, 35, 104, 105, 106, 107, 108, 109, 28, 110, 111, 112, 113, 114, 115, 116, 117, 118, 119, 120, 121, 122, 123, 124, 125, 126, 127, 31, 128, 129, 44, 130, 131, 132, 46, 133, 134, 135, 136, 137, 138, 139, 140, 141, 142, 143, 144, 145, 222, 223, 224, 225, 226, 227, 228, 229, 230, 231, 236, 237, 238, 239, 240, 241, 242, 243, 244, 245, 246, 247, 248, 249, 250, 251, 252, 253, 254, 255, 256, 257, 177, 258, 259, 260, 261, 262, 263, 176, 178, 264, 265, 266, 267, 443, 444, 445, 446, 447, 448, 449, 450, 451, 452, 453, 454, 455, 456, 457, 458, 459, 460, 461, 462, 463, 470, 471, 472, 473, 474, 475, 476, 477, 478, 479, 480, 481, 482] (by decide +kernel) (by decide +kernel)) (goodIn_sub (fun _ h => List.mem_append_right _ h) (by decide +kernel))
set_option maxRecDepth 20000 in
theorem gL_law_X5_gutterLoss : GoodIn wsL_law (wsV RL 105 RX5 yX5_gutterLoss wsX5_gutterLoss) := goodIn_app (goodIn_of _ (by decide +kernel)) ggL_law_X5_gutterLoss
set_option maxRecDepth 20000 in
theorem ggL_law_X5_digest : GoodIn wsL_law wsX5_digest := goodIn_ca (goodIn_r _ [434, 435, 18, 436, 437, 12, 77, 78, 151, 152, 153, 202, 385, 221, 88, 190, 191, 192, 11, 193, 23, 93, 94, 95, 24, 96, 97, 32, 194, 98, 103, 104, 105, 373, 374, 375, 28, 376, 111, 112, 113, 114, 115, 353, 354, 355, 46, 356, 134, 135, 136, 137, 343, 273, 274, 275, 35, 438, 340, 341, 2, 342, 170, 79, 80, 81, 82, 83, 443, 444, 445, 446, 447, 464, 465, 466, 467, 468, 469, 448, 449, 450, 451, 452, 453, 454, 455, 456, 457, 458, 459, 460, 461, 462, 463, 476, 477, 478, 470, 471, 472, 473, 474, 475, 479, 480, 481, 482] (by decide +kernel) (by decide +kernel)) (goodIn_sub (fun _ h => List.mem_append_left _ (List.mem_append_right _ h)) (by decide +kernel))
set_option maxRecDepth 20000 in
theorem gL_law_X5_digest : GoodIn wsL_law (wsV RL 108 RX5 yX5_digest wsX5_digest) := goodIn_app (goodIn_of _ (by decide +kernel)) ggL_law_X5_digest
set_option maxRecDepth 20000 in
theorem ggL_law_X5_restart : GoodIn wsL_law wsX5_restart := goodIn_r _ [220, 12, 221, 84, 85, 86, 2, 87, 88, 14, 89, 90, 91, 11, 92, 23, 93, 94, 95, 24, 96, 97, 26, 32, 98, 34, 99, 100, 101, 102, 103, 35, 104, 105, 106, 107, 108, 109, 28, 110, 111, 112, 113, 114, 115, 116, 117, 118, 119, 120, 121, 122, 123, 124, 125, 126, 127, 31, 128, 129, 44, 130, 131, 132, 46, 133, 134, 135, 136, 137, 138, 139, 140, 141, 142, 143, 144, 145, 222, 223, 224, 225, 226, 227, 228, 229, 230, 231, 443, 444, 445, 446, 447, 448, 449, 450, 451, 452, 453, 454, 455, 456, 457, 458, 459, 460, 461, 462, 463, 470, 471, 472, 473, 474, 475, 476, 477, 478, 479, 480, 481, 482] (by decide +kernel) (by decide +kernel)
set_option maxRecDepth 20000 in
theorem gL_law_X5_restart : GoodIn wsL_law (wsV RL 47 RX5 yX5_restart wsX5_restart) := goodIn_app (goodIn_of _ (by decide +kernel)) ggL_law_X5_restart
set_option maxRecDepth 20000 in
theorem ggL_law_X5_sum : GoodIn wsL_law wsX5_sum := goodIn_ca (goodIn_r _ [342, 12, 170, 221, 79, 80, 2, 81, 82, 83, 343, 273, 274, 11, 275, 35, 443, 444, 445, 446, 447, 448, 449, 450, 451, 452, 453, 454, 455, 456, 457, 458, 459, 460, 461, 462, 463] (by decide +kernel) (by decide +kernel)) (goodIn_sub (fun _ h => List.mem_append_left _ (List.mem_append_right _ h)) (by decide +kernel))
set_option maxRecDepth 20000 in
theorem gL_law_X5_sum : GoodIn wsL_law (wsV RL 54 RX5 yX5_sum wsX5_sum) := goodIn_app (goodIn_of _ (by decide +kernel)) ggL_law_X5_sum
set_option maxRecDepth 20000 in
theorem ggL_law_X5_undo : GoodIn wsL_law wsX5_undo := goodIn_ca (goodIn_r _ [442, 74, 75, 88, 12, 14, 89, 90, 91, 11, 92, 23, 93, 94, 95, 24, 96, 97, 26, 32, 98, 34, 99, 100, 101, 102, 103, 35, 104, 105, 106, 107, 108, 109, 28, 110, 111, 112, 113, 114, 115, 116, 117, 118, 119, 120, 121, 122, 123, 124, 125, 126, 127, 31, 128, 129, 44, 130, 131, 132, 46, 133, 134, 135, 136, 137, 138, 139, 140, 141, 142, 143, 144, 145, 443, 444, 445, 446, 447, 448, 449, 450, 451, 452, 453, 454, 455, 456, 457, 458, 459, 460, 461, 462, 463, 470, 471, 472, 473, 474, 475, 476, 477, 478, 479, 480, 481, 482] (by decide +kernel) (by decide +kernel)) (goodIn_sub (fun _ h => List.mem_append_left _ (List.mem_append_left _ (List.mem_append_right _ h))) (by decide +kernel))
set_option maxRecDepth 20000 in
theorem gL_law_X5_undo : GoodIn wsL_law (wsV RL 112 RX5 yX5_undo wsX5_undo) := goodIn_app (goodIn_of _ (by decide +kernel)) ggL_law_X5_undo
end
section
theorem dL_law_0 : decode cL_law 0 = .ok (.new 20, 3) := by decide +kernel
theorem dL_law_3 : decode cL_law 3 = .ok (.dup, 1) := by decide +kernel
theorem dL_law_4 : decode cL_law 4 = .ok (.invokespecial 77, 3) := by decide +kernel
theorem dL_law_7 : decode cL_law 7 = .ok (.astore_n 1, 1) := by decide +kernel
theorem dL_law_8 : decode cL_law 8 = .ok (.new 20, 3) := by decide +kernel
theorem dL_law_11 : decode cL_law 11 = .ok (.dup, 1) := by decide +kernel
theorem dL_law_12 : decode cL_law 12 = .ok (.invokespecial 77, 3) := by decide +kernel
theorem dL_law_15 : decode cL_law 15 = .ok (.astore_n 2, 1) := by decide +kernel
theorem dL_law_16 : decode cL_law 16 = .ok (.aload_n 1, 1) := by decide +kernel
theorem dL_law_17 : decode cL_law 17 = .ok (.aload_n 2, 1) := by decide +kernel
theorem dL_law_18 : decode cL_law 18 = .ok (.aload_n 0, 1) := by decide +kernel
theorem dL_law_19 : decode cL_law 19 = .ok (.invokestatic 78, 3) := by decide +kernel
theorem dL_law_22 : decode cL_law 22 = .ok (.istore_n 3, 1) := by decide +kernel
theorem dL_law_23 : decode cL_law 23 = .ok (.iconst 0, 1) := by decide +kernel
theorem dL_law_24 : decode cL_law 24 = .ok (.istore 4, 2) := by decide +kernel
theorem dL_law_26 : decode cL_law 26 = .ok (.iload 4, 2) := by decide +kernel
theorem dL_law_28 : decode cL_law 28 = .ok (.bipush 20, 2) := by decide +kernel
theorem dL_law_30 : decode cL_law 30 = .ok (.if_icmp .ge 51, 3) := by decide +kernel
theorem dL_law_33 : decode cL_law 33 = .ok (.iload_n 3, 1) := by decide +kernel
theorem dL_law_34 : decode cL_law 34 = .ok (.ifCond .eq 47, 3) := by decide +kernel
theorem dL_law_37 : decode cL_law 37 = .ok (.aload_n 1, 1) := by decide +kernel
theorem dL_law_38 : decode cL_law 38 = .ok (.aload_n 2, 1) := by decide +kernel
theorem dL_law_39 : decode cL_law 39 = .ok (.aload_n 0, 1) := by decide +kernel
theorem dL_law_40 : decode cL_law 40 = .ok (.bipush 14, 2) := by decide +kernel
theorem dL_law_42 : decode cL_law 42 = .ok (.iload 4, 2) := by decide +kernel
theorem dL_law_44 : decode cL_law 44 = .ok (.iadd, 1) := by decide +kernel
theorem dL_law_45 : decode cL_law 45 = .ok (.invokestatic 9, 3) := by decide +kernel
theorem dL_law_48 : decode cL_law 48 = .ok (.invokestatic 82, 3) := by decide +kernel
theorem dL_law_51 : decode cL_law 51 = .ok (.ifCond .eq 22, 3) := by decide +kernel
theorem dL_law_54 : decode cL_law 54 = .ok (.aload_n 1, 1) := by decide +kernel
theorem dL_law_55 : decode cL_law 55 = .ok (.aload_n 2, 1) := by decide +kernel
theorem dL_law_56 : decode cL_law 56 = .ok (.invokestatic 85, 3) := by decide +kernel
theorem dL_law_59 : decode cL_law 59 = .ok (.ifCond .eq 14, 3) := by decide +kernel
theorem dL_law_62 : decode cL_law 62 = .ok (.aload_n 1, 1) := by decide +kernel
theorem dL_law_63 : decode cL_law 63 = .ok (.invokestatic 89, 3) := by decide +kernel
theorem dL_law_66 : decode cL_law 66 = .ok (.ifCond .eq 7, 3) := by decide +kernel
theorem dL_law_69 : decode cL_law 69 = .ok (.iconst 1, 1) := by decide +kernel
theorem dL_law_70 : decode cL_law 70 = .ok (.goto 4, 3) := by decide +kernel
theorem dL_law_73 : decode cL_law 73 = .ok (.iconst 0, 1) := by decide +kernel
theorem dL_law_74 : decode cL_law 74 = .ok (.istore_n 3, 1) := by decide +kernel
theorem dL_law_75 : decode cL_law 75 = .ok (.iinc 4 1, 3) := by decide +kernel
theorem dL_law_78 : decode cL_law 78 = .ok (.goto (-52), 3) := by decide +kernel
end
section
theorem dL_law_81 : decode cL_law 81 = .ok (.bipush 100, 2) := by decide +kernel
theorem dL_law_83 : decode cL_law 83 = .ok (.aload_n 0, 1) := by decide +kernel
theorem dL_law_84 : decode cL_law 84 = .ok (.bipush 40, 2) := by decide +kernel
theorem dL_law_86 : decode cL_law 86 = .ok (.invokestatic 9, 3) := by decide +kernel
theorem dL_law_89 : decode cL_law 89 = .ok (.sipush 20000, 3) := by decide +kernel
theorem dL_law_92 : decode cL_law 92 = .ok (.invokestatic 15, 3) := by decide +kernel
theorem dL_law_95 : decode cL_law 95 = .ok (.iadd, 1) := by decide +kernel
theorem dL_law_96 : decode cL_law 96 = .ok (.istore 4, 2) := by decide +kernel
theorem dL_law_98 : decode cL_law 98 = .ok (.aload_n 0, 1) := by decide +kernel
theorem dL_law_99 : decode cL_law 99 = .ok (.bipush 41, 2) := by decide +kernel
theorem dL_law_101 : decode cL_law 101 = .ok (.invokestatic 9, 3) := by decide +kernel
theorem dL_law_104 : decode cL_law 104 = .ok (.bipush 101, 2) := by decide +kernel
theorem dL_law_106 : decode cL_law 106 = .ok (.invokestatic 15, 3) := by decide +kernel
theorem dL_law_109 : decode cL_law 109 = .ok (.istore 5, 2) := by decide +kernel
theorem dL_law_111 : decode cL_law 111 = .ok (.iload_n 3, 1) := by decide +kernel
theorem dL_law_112 : decode cL_law 112 = .ok (.ifCond .eq 59, 3) := by decide +kernel
theorem dL_law_115 : decode cL_law 115 = .ok (.aload_n 1, 1) := by decide +kernel
theorem dL_law_116 : decode cL_law 116 = .ok (.iload 4, 2) := by decide +kernel
theorem dL_law_118 : decode cL_law 118 = .ok (.invokevirtual 93, 3) := by decide +kernel
theorem dL_law_121 : decode cL_law 121 = .ok (.aload_n 2, 1) := by decide +kernel
theorem dL_law_122 : decode cL_law 122 = .ok (.iload 4, 2) := by decide +kernel
theorem dL_law_124 : decode cL_law 124 = .ok (.invokevirtual 93, 3) := by decide +kernel
theorem dL_law_127 : decode cL_law 127 = .ok (.if_icmp .ne 44, 3) := by decide +kernel
theorem dL_law_130 : decode cL_law 130 = .ok (.aload_n 1, 1) := by decide +kernel
theorem dL_law_131 : decode cL_law 131 = .ok (.iload 5, 2) := by decide +kernel
theorem dL_law_133 : decode cL_law 133 = .ok (.invokevirtual 96, 3) := by decide +kernel
theorem dL_law_136 : decode cL_law 136 = .ok (.aload_n 2, 1) := by decide +kernel
theorem dL_law_137 : decode cL_law 137 = .ok (.iload 5, 2) := by decide +kernel
theorem dL_law_139 : decode cL_law 139 = .ok (.invokevirtual 96, 3) := by decide +kernel
theorem dL_law_142 : decode cL_law 142 = .ok (.if_icmp .ne 29, 3) := by decide +kernel
theorem dL_law_145 : decode cL_law 145 = .ok (.aload_n 1, 1) := by decide +kernel
theorem dL_law_146 : decode cL_law 146 = .ok (.invokevirtual 99, 3) := by decide +kernel
theorem dL_law_149 : decode cL_law 149 = .ok (.aload_n 2, 1) := by decide +kernel
theorem dL_law_150 : decode cL_law 150 = .ok (.invokevirtual 99, 3) := by decide +kernel
theorem dL_law_153 : decode cL_law 153 = .ok (.if_icmp .ne 18, 3) := by decide +kernel
theorem dL_law_156 : decode cL_law 156 = .ok (.aload_n 1, 1) := by decide +kernel
theorem dL_law_157 : decode cL_law 157 = .ok (.invokevirtual 102, 3) := by decide +kernel
theorem dL_law_160 : decode cL_law 160 = .ok (.aload_n 2, 1) := by decide +kernel
theorem dL_law_161 : decode cL_law 161 = .ok (.invokevirtual 102, 3) := by decide +kernel
theorem dL_law_164 : decode cL_law 164 = .ok (.if_icmp .ne 7, 3) := by decide +kernel
theorem dL_law_167 : decode cL_law 167 = .ok (.iconst 1, 1) := by decide +kernel
theorem dL_law_168 : decode cL_law 168 = .ok (.goto 4, 3) := by decide +kernel
end
section
theorem dL_law_171 : decode cL_law 171 = .ok (.iconst 0, 1) := by decide +kernel
theorem dL_law_172 : decode cL_law 172 = .ok (.istore_n 3, 1) := by decide +kernel
theorem dL_law_173 : decode cL_law 173 = .ok (.iconst 0, 1) := by decide +kernel
theorem dL_law_174 : decode cL_law 174 = .ok (.istore 6, 2) := by decide +kernel
theorem dL_law_176 : decode cL_law 176 = .ok (.iload 6, 2) := by decide +kernel
theorem dL_law_178 : decode cL_law 178 = .ok (.aload_n 1, 1) := by decide +kernel
theorem dL_law_179 : decode cL_law 179 = .ok (.bipush 6, 2) := by decide +kernel
theorem dL_law_181 : decode cL_law 181 = .ok (.invokevirtual 39, 3) := by decide +kernel
theorem dL_law_184 : decode cL_law 184 = .ok (.if_icmp .ge 56, 3) := by decide +kernel
theorem dL_law_187 : decode cL_law 187 = .ok (.iload_n 3, 1) := by decide +kernel
theorem dL_law_188 : decode cL_law 188 = .ok (.ifCond .eq 52, 3) := by decide +kernel
theorem dL_law_191 : decode cL_law 191 = .ok (.aload_n 1, 1) := by decide +kernel
theorem dL_law_192 : decode cL_law 192 = .ok (.iload 6, 2) := by decide +kernel
theorem dL_law_194 : decode cL_law 194 = .ok (.invokevirtual 105, 3) := by decide +kernel
theorem dL_law_197 : decode cL_law 197 = .ok (.iload 6, 2) := by decide +kernel
theorem dL_law_199 : decode cL_law 199 = .ok (.ifCond .ne 17, 3) := by decide +kernel
theorem dL_law_202 : decode cL_law 202 = .ok (.aload_n 2, 1) := by decide +kernel
theorem dL_law_203 : decode cL_law 203 = .ok (.iconst 0, 1) := by decide +kernel
theorem dL_law_204 : decode cL_law 204 = .ok (.invokevirtual 105, 3) := by decide +kernel
theorem dL_law_207 : decode cL_law 207 = .ok (.aload_n 2, 1) := by decide +kernel
theorem dL_law_208 : decode cL_law 208 = .ok (.iconst 1, 1) := by decide +kernel
theorem dL_law_209 : decode cL_law 209 = .ok (.invokevirtual 105, 3) := by decide +kernel
theorem dL_law_212 : decode cL_law 212 = .ok (.ladd, 1) := by decide +kernel
theorem dL_law_213 : decode cL_law 213 = .ok (.goto 11, 3) := by decide +kernel
theorem dL_law_216 : decode cL_law 216 = .ok (.aload_n 2, 1) := by decide +kernel
theorem dL_law_217 : decode cL_law 217 = .ok (.iload 6, 2) := by decide +kernel
theorem dL_law_219 : decode cL_law 219 = .ok (.iconst 1, 1) := by decide +kernel
theorem dL_law_220 : decode cL_law 220 = .ok (.iadd, 1) := by decide +kernel
theorem dL_law_221 : decode cL_law 221 = .ok (.invokevirtual 105, 3) := by decide +kernel
theorem dL_law_224 : decode cL_law 224 = .ok (.lcmp, 1) := by decide +kernel
theorem dL_law_225 : decode cL_law 225 = .ok (.ifCond .ne 7, 3) := by decide +kernel
theorem dL_law_228 : decode cL_law 228 = .ok (.iconst 1, 1) := by decide +kernel
theorem dL_law_229 : decode cL_law 229 = .ok (.goto 4, 3) := by decide +kernel
theorem dL_law_232 : decode cL_law 232 = .ok (.iconst 0, 1) := by decide +kernel
theorem dL_law_233 : decode cL_law 233 = .ok (.istore_n 3, 1) := by decide +kernel
theorem dL_law_234 : decode cL_law 234 = .ok (.iinc 6 1, 3) := by decide +kernel
theorem dL_law_237 : decode cL_law 237 = .ok (.goto (-61), 3) := by decide +kernel
theorem dL_law_240 : decode cL_law 240 = .ok (.aload_n 1, 1) := by decide +kernel
theorem dL_law_241 : decode cL_law 241 = .ok (.invokevirtual 108, 3) := by decide +kernel
theorem dL_law_244 : decode cL_law 244 = .ok (.lstore 6, 2) := by decide +kernel
theorem dL_law_246 : decode cL_law 246 = .ok (.iload_n 3, 1) := by decide +kernel
theorem dL_law_247 : decode cL_law 247 = .ok (.ifCond .eq 47, 3) := by decide +kernel
end
section
theorem dL_law_250 : decode cL_law 250 = .ok (.aload_n 1, 1) := by decide +kernel
theorem dL_law_251 : decode cL_law 251 = .ok (.invokevirtual 47, 3) := by decide +kernel
theorem dL_law_254 : decode cL_law 254 = .ok (.aload_n 2, 1) := by decide +kernel
theorem dL_law_255 : decode cL_law 255 = .ok (.bipush 9, 2) := by decide +kernel
theorem dL_law_257 : decode cL_law 257 = .ok (.invokevirtual 39, 3) := by decide +kernel
theorem dL_law_260 : decode cL_law 260 = .ok (.if_icmp .ne 34, 3) := by decide +kernel
theorem dL_law_263 : decode cL_law 263 = .ok (.aload_n 1, 1) := by decide +kernel
theorem dL_law_264 : decode cL_law 264 = .ok (.bipush 10, 2) := by decide +kernel
theorem dL_law_266 : decode cL_law 266 = .ok (.invokevirtual 39, 3) := by decide +kernel
theorem dL_law_269 : decode cL_law 269 = .ok (.ifCond .ne 25, 3) := by decide +kernel
theorem dL_law_272 : decode cL_law 272 = .ok (.aload_n 1, 1) := by decide +kernel
theorem dL_law_273 : decode cL_law 273 = .ok (.bipush 6, 2) := by decide +kernel
theorem dL_law_275 : decode cL_law 275 = .ok (.invokevirtual 54, 3) := by decide +kernel
theorem dL_law_278 : decode cL_law 278 = .ok (.lconst 0, 1) := by decide +kernel
theorem dL_law_279 : decode cL_law 279 = .ok (.lcmp, 1) := by decide +kernel
theorem dL_law_280 : decode cL_law 280 = .ok (.ifCond .ne 14, 3) := by decide +kernel
theorem dL_law_283 : decode cL_law 283 = .ok (.aload_n 1, 1) := by decide +kernel
theorem dL_law_284 : decode cL_law 284 = .ok (.invokevirtual 112, 3) := by decide +kernel
theorem dL_law_287 : decode cL_law 287 = .ok (.ifCond .lt 7, 3) := by decide +kernel
theorem dL_law_290 : decode cL_law 290 = .ok (.iconst 1, 1) := by decide +kernel
theorem dL_law_291 : decode cL_law 291 = .ok (.goto 4, 3) := by decide +kernel
theorem dL_law_294 : decode cL_law 294 = .ok (.iconst 0, 1) := by decide +kernel
theorem dL_law_295 : decode cL_law 295 = .ok (.istore_n 3, 1) := by decide +kernel
theorem dL_law_296 : decode cL_law 296 = .ok (.iload_n 3, 1) := by decide +kernel
theorem dL_law_297 : decode cL_law 297 = .ok (.ifCond .eq 29, 3) := by decide +kernel
theorem dL_law_300 : decode cL_law 300 = .ok (.aload_n 1, 1) := by decide +kernel
theorem dL_law_301 : decode cL_law 301 = .ok (.invokevirtual 108, 3) := by decide +kernel
theorem dL_law_304 : decode cL_law 304 = .ok (.lload 6, 2) := by decide +kernel
theorem dL_law_306 : decode cL_law 306 = .ok (.lcmp, 1) := by decide +kernel
theorem dL_law_307 : decode cL_law 307 = .ok (.ifCond .eq 15, 3) := by decide +kernel
theorem dL_law_310 : decode cL_law 310 = .ok (.aload_n 1, 1) := by decide +kernel
theorem dL_law_311 : decode cL_law 311 = .ok (.invokevirtual 108, 3) := by decide +kernel
theorem dL_law_314 : decode cL_law 314 = .ok (.lload 6, 2) := by decide +kernel
theorem dL_law_316 : decode cL_law 316 = .ok (.lconst 1, 1) := by decide +kernel
theorem dL_law_317 : decode cL_law 317 = .ok (.lsub, 1) := by decide +kernel
theorem dL_law_318 : decode cL_law 318 = .ok (.lcmp, 1) := by decide +kernel
theorem dL_law_319 : decode cL_law 319 = .ok (.ifCond .ne 7, 3) := by decide +kernel
theorem dL_law_322 : decode cL_law 322 = .ok (.iconst 1, 1) := by decide +kernel
theorem dL_law_323 : decode cL_law 323 = .ok (.goto 4, 3) := by decide +kernel
theorem dL_law_326 : decode cL_law 326 = .ok (.iconst 0, 1) := by decide +kernel
theorem dL_law_327 : decode cL_law 327 = .ok (.ireturn, 1) := by decide +kernel
end
section
/-! Rows over a heap that is a function: h says what lies at an address, and nothing of the rest. -/
abbrev XE : Type := (Nat × vp_A) ⊕ (Nat × List Value)
abbrev XH : Type := Nat → Option XE
abbrev XG : Type := va_G × (Nat → ClassId)
/-- the kinds of arrays: 0 int, 1 byte, 2 long, 3 Roof, 4 State, 5 User -/
def xTy (G : XG) : List (ClassId × FieldType) := [(G.2 0, .int), (G.2 1, .byte), (G.2 2, .long), (G.2 3, .object RX1), (G.2 4, .object RX2), (G.2 5, .object RX3)]
def xK (G : XG) (U : State) : Prop := va_K G.1 vwCl (xTy G) U
def xe (G : XG) : XE → va_E
  | .inl x => .inl (G.2 x.1, x.2)
  | .inr o => .inr o
def xA (B0 : Nat) : Nat → Prop := fun q => B0 ≤ q
def xP (B0 : Nat) (G : XG) (h : XH) (H : Heap) : Prop := B0 ≤ H.size ∧ ∀ (q : Nat) (e : XE), h q = some e → B0 ≤ q ∧ va_at G.1 vwCl (q, xe G e) H
def xU (B0 : Nat) (G : XG) (h : XH) : State → Prop := fun U => xP B0 G h U.heap ∧ xK G U
/-! the heap's own operations -/
def xup {α : Type} (f : Nat → α) (k : Nat) (x : α) : Nat → α := fun j => if j = k then x else f j
def xin (i : Int32) (n : Nat) : Bool := !(decide (i < 0)) && decide (i.toNatClampNeg < n)
def xmax (x y : Int32) : Int32 := if x < y then y else x
def xmin (x y : Int32) : Int32 := if y < x then y else x
def olet {α β : Type} (x : α) (f : α → Option β) : Option β := f x
def oletk {α β : Type} (x : α) (f : α → Option β) : Option β := f x
def xg (h : XH) (a ci k : Nat) : Option Value := match h a with
  | some (.inr o) => if o.1 = ci then o.2[k]? else none
  | _ => none
def xgI (h : XH) (a ci k : Nat) : Option Int32 := match xg h a ci k with
  | some (.int x) => some x
  | _ => none
def xgL (h : XH) (a ci k : Nat) : Option Int64 := match xg h a ci k with
  | some (.long x) => some x
  | _ => none
def xgR (h : XH) (a ci k : Nat) : Option Nat := match xg h a ci k with
  | some (.ref x) => some x
  | _ => none
def xis (h : XH) (a ci : Nat) : Option Unit := match h a with
  | some (.inr o) => if o.1 = ci then some () else none
  | _ => none
def xpV (h : XH) (a ci k : Nat) (v : Value) : Option XH := match h a with
  | some (.inr o) => if o.1 = ci ∧ k < o.2.length then some (xup h a (some (.inr (ci, o.2.set k v)))) else none
  | _ => none
def xlen (h : XH) (a t : Nat) : Option Int32 := match h a with
  | some (.inl x) => if x.1 = t then some (Int32.ofNat x.2.1) else none
  | _ => none
/-- an element of an array of ints or bytes -/
def xald (h : XH) (a t : Nat) (i : Int32) : Option Int32 := match h a with
  | some (.inl (t', n, .inl f)) => if t' = t ∧ xin i n = true then some (f i.toNatClampNeg) else none
  | _ => none
def xast (h : XH) (a t : Nat) (i x : Int32) : Option XH := match h a with
  | some (.inl (t', n, .inl f)) => if t' = t ∧ xin i n = true then some (xup h a (some (.inl (t, n, .inl (xup f i.toNatClampNeg x))))) else none
  | _ => none
def xaldL (h : XH) (a : Nat) (i : Int32) : Option Int64 := match h a with
  | some (.inl (t', n, .inr (.inl f))) => if t' = 2 ∧ xin i n = true then some (f i.toNatClampNeg) else none
  | _ => none
def xastL (h : XH) (a : Nat) (i : Int32) (x : Int64) : Option XH := match h a with
  | some (.inl (t', n, .inr (.inl f))) => if t' = 2 ∧ xin i n = true then some (xup h a (some (.inl (2, n, .inr (.inl (xup f i.toNatClampNeg x)))))) else none
  | _ => none
def xaldR (h : XH) (a t : Nat) (i : Int32) : Option Nat := match h a with
  | some (.inl (t', n, .inr (.inr (.inr (.inr f))))) => if t' = t ∧ xin i n = true then f i.toNatClampNeg else none
  | _ => none
def xastR (h : XH) (a t : Nat) (i : Int32) (v : Nat) : Option XH := match h a with
  | some (.inl (t', n, .inr (.inr (.inr (.inr f))))) => if t' = t ∧ xin i n = true then some (xup h a (some (.inl (t, n, .inr (.inr (.inr (.inr (xup f i.toNatClampNeg (some v))))))))) else none
  | _ => none
/-- System.arraycopy of ints, between two arrays -/
def xcpy (f g : Nat → Int32) (sp dp n : Nat) : Nat → Int32 := fun k => if dp ≤ k ∧ k < dp + n then f (sp + (k - dp)) else g k
def xcopy (h : XH) (a0 : Nat) (sp : Int32) (a : Nat) (dp n : Int32) : Option XH := match h a0, h a with
  | some (.inl (t0, n0, .inl f)), some (.inl (t1, n1, .inl g)) => if t0 = 0 ∧ t1 = 0 ∧ ¬ sp < 0 ∧ ¬ dp < 0 ∧ ¬ n < 0 ∧ sp.toNatClampNeg + n.toNatClampNeg ≤ n0 ∧ dp.toNatClampNeg + n.toNatClampNeg ≤ n1 then some (xup h a (some (.inl (0, n1, .inl (xcpy f g sp.toNatClampNeg dp.toNatClampNeg n.toNatClampNeg))))) else none
  | _, _ => none
/-- a loop, with so many rounds at most -/
def xloop {S R : Type} (body : S → Option (S ⊕ R)) : Nat → S → Option R
  | 0, _ => none
  | n + 1, s => match body s with
    | none => none
    | some (.inl s') => xloop body n s'
    | some (.inr r) => some r
theorem xloop_ind {S R : Type} {body : S → Option (S ⊕ R)} {r : R} (P : S → Prop) (hb : ∀ s o, body s = some o → (∀ s', o = .inl s' → P s') → (∀ r', o = .inr r' → r' = r) → P s) : ∀ {n : Nat} {s : S}, xloop body n s = some r → P s := by
  intro n
  induction n with
  | zero => intro s h; cases h
  | succ n ih =>
    intro s h
    unfold xloop at h
    cases ho : body s with
    | none => rw [ho] at h; cases h
    | some o =>
      rw [ho] at h
      refine hb s o ho (fun s' e => ?_) (fun r' e => ?_)
      · subst e; exact ih h
      · subst e; exact Option.some.inj h
theorem xloop_run {S R : Type} {body : S → Option (S ⊕ R)} (σ : Nat → S) {r : R} : ∀ (n : Nat) (k fu : Nat), (∀ i, k ≤ i → i < k + n → body (σ i) = some (.inl (σ (i + 1)))) → body (σ (k + n)) = some (.inr r) → n < fu → xloop body fu (σ k) = some r := by
  intro n
  induction n with
  | zero =>
    intro k fu _ he hf
    obtain ⟨f, rfl⟩ : ∃ f, fu = f + 1 := ⟨fu - 1, by omega⟩
    unfold xloop
    rw [show k = k + 0 from rfl, he]
  | succ n ih =>
    intro k fu hs he hf
    obtain ⟨f, rfl⟩ : ∃ f, fu = f + 1 := ⟨fu - 1, by omega⟩
    unfold xloop
    rw [hs k (Nat.le_refl _) (by omega)]
    exact ih (k + 1) f (fun i h1 h2 => hs i (by omega) (by omega)) (by rw [show k + 1 + n = k + (n + 1) by omega]; exact he) (by omega)
theorem xb {α β : Type} {o : Option α} {f : α → Option β} {r : β} (h : o.bind f = some r) : ∃ v, o = some v ∧ f v = some r := Option.bind_eq_some_iff.mp h
theorem xl {α β : Type} {x : α} {f : α → Option β} {r : β} (h : olet x f = some r) : ∃ v, v = x ∧ f v = some r := ⟨x, rfl, h⟩
theorem xlk {α β : Type} {x : α} {f : α → Option β} {r : β} (h : oletk x f = some r) : ∃ v, v = x ∧ f v = some r := ⟨x, rfl, h⟩
theorem xif_t {α : Type} {c : Prop} [Decidable c] {x y : Option α} {r : α} (h : (if c then x else y) = some r) (hc : c) : x = some r := by rw [if_pos hc] at h; exact h
theorem xif_f {α : Type} {c : Prop} [Decidable c] {x y : Option α} {r : α} (h : (if c then x else y) = some r) (hc : ¬ c) : y = some r := by rw [if_neg hc] at h; exact h
theorem xin_vp {i : Int32} {n : Nat} (h : xin i n = true) : vp_in i n := by
  simp only [xin, Bool.and_eq_true, Bool.not_eq_true', decide_eq_false_iff_not, decide_eq_true_eq] at h
  exact fun q => q.elim h.1 (fun z => absurd h.2 (Nat.not_lt.mpr z))
theorem xP.get {B0 : Nat} {G : XG} {h : XH} {H : Heap} (hP : xP B0 G h H) {a : Nat} {e : XE} (he : h a = some e) : va_P G.1 vwCl [(a, xe G e)] H := by
  intro k q hk
  have h1 := List.mem_of_getElem? hk
  rw [List.mem_singleton] at h1
  subst h1
  exact (hP.2 a e he).2
theorem xP.set {B0 : Nat} {G : XG} {h : XH} {H H1 : Heap} (hP : xP B0 G h H) {a : Nat} {e : XE} (hB : B0 ≤ a) (he : va_at G.1 vwCl (a, xe G e) H1) (z : H1.size = H.size) (oq : ∀ q : Nat, q ≠ a → H1[q]? = H[q]?) : xP B0 G (xup h a (some e)) H1 := by
  refine ⟨by rw [z]; exact hP.1, fun q e' hq => ?_⟩
  by_cases hqa : q = a
  · subst hqa
    simp only [xup, if_true] at hq
    cases hq
    exact ⟨hB, he⟩
  · simp only [xup, if_neg hqa] at hq
    exact ⟨(hP.2 q e' hq).1, (hP.2 q e' hq).2.kept (oq q hqa)⟩
theorem xP.moved {B0 : Nat} {G : XG} {h : XH} {H H1 : Heap} (hP : xP B0 G h H) (z : H.size ≤ H1.size) (oq : ∀ q : Nat, q < H.size → H1[q]? = H[q]?) : xP B0 G h H1 :=
  ⟨Nat.le_trans hP.1 z, fun q e hq => ⟨(hP.2 q e hq).1, (hP.2 q e hq).2.kept (oq q (hP.2 q e hq).2.lt)⟩⟩
theorem xK.moved {G : XG} {u U : State} (hvm : u.vm.Alike U.vm) (h : xK G u) : xK G U := va_K.moved hvm h
theorem xg_spec {h : XH} {a ci k : Nat} {v : Value} (e : xg h a ci k = some v) : ∃ fs : List Value, h a = some (.inr (ci, fs)) ∧ fs[k]? = some v := by
  unfold xg at e
  split at e
  · next o ho =>
    split at e
    · next hc => subst hc; exact ⟨o.2, ho, e⟩
    · cases e
  · cases e
theorem xgI_spec {h : XH} {a ci k : Nat} {v : Int32} (e : xgI h a ci k = some v) : xg h a ci k = some (.int v) := by
  unfold xgI at e
  split at e
  · next hq => cases e; exact hq
  · cases e
theorem xgL_spec {h : XH} {a ci k : Nat} {v : Int64} (e : xgL h a ci k = some v) : xg h a ci k = some (.long v) := by
  unfold xgL at e
  split at e
  · next hq => cases e; exact hq
  · cases e
theorem xgR_spec {h : XH} {a ci k : Nat} {v : Nat} (e : xgR h a ci k = some v) : xg h a ci k = some (.ref v) := by
  unfold xgR at e
  split at e
  · next hq => cases e; exact hq
  · cases e
theorem xis_spec {h : XH} {a ci : Nat} {u : Unit} (e : xis h a ci = some u) : ∃ fs : List Value, h a = some (.inr (ci, fs)) := by
  unfold xis at e
  split at e
  · next o ho =>
    split at e
    · next hc => subst hc; exact ⟨o.2, ho⟩
    · cases e
  · cases e
theorem xpV_spec {h h1 : XH} {a ci k : Nat} {v : Value} (e : xpV h a ci k v = some h1) : ∃ fs : List Value, h a = some (.inr (ci, fs)) ∧ k < fs.length ∧ h1 = xup h a (some (.inr (ci, fs.set k v))) := by
  unfold xpV at e
  split at e
  · next o ho =>
    split at e
    · next hc =>
      obtain ⟨hc, hk⟩ := hc
      subst hc
      cases e
      exact ⟨o.2, ho, hk, rfl⟩
    · cases e
  · cases e
theorem xlen_spec {h : XH} {a t : Nat} {v : Int32} (e : xlen h a t = some v) : ∃ x : vp_A, h a = some (.inl (t, x)) ∧ Int32.ofNat x.1 = v := by
  unfold xlen at e
  split at e
  · next o ho =>
    split at e
    · next hc => subst hc; cases e; exact ⟨o.2, ho, rfl⟩
    · cases e
  · cases e
theorem xald_spec {h : XH} {a t : Nat} {i v : Int32} (e : xald h a t i = some v) : ∃ (n : Nat) (f : Nat → Int32), h a = some (.inl (t, n, .inl f)) ∧ vp_in i n ∧ f i.toNatClampNeg = v := by
  unfold xald at e
  split at e
  · next t' n f ho =>
    split at e
    · next hc =>
      obtain ⟨hc, hk⟩ := hc
      subst hc
      cases e
      exact ⟨n, f, ho, xin_vp hk, rfl⟩
    · cases e
  · cases e
theorem xast_spec {h h1 : XH} {a t : Nat} {i v : Int32} (e : xast h a t i v = some h1) : ∃ (n : Nat) (f : Nat → Int32), h a = some (.inl (t, n, .inl f)) ∧ vp_in i n ∧ h1 = xup h a (some (.inl (t, n, .inl (xup f i.toNatClampNeg v)))) := by
  unfold xast at e
  split at e
  · next t' n f ho =>
    split at e
    · next hc =>
      obtain ⟨hc, hk⟩ := hc
      subst hc
      cases e
      exact ⟨n, f, ho, xin_vp hk, rfl⟩
    · cases e
  · cases e
theorem xaldL_spec {h : XH} {a : Nat} {i : Int32} {v : Int64} (e : xaldL h a i = some v) : ∃ (n : Nat) (f : Nat → Int64), h a = some (.inl (2, n, .inr (.inl f))) ∧ vp_in i n ∧ f i.toNatClampNeg = v := by
  unfold xaldL at e
  split at e
  · next t' n f ho =>
    split at e
    · next hc =>
      obtain ⟨hc, hk⟩ := hc
      subst hc
      cases e
      exact ⟨n, f, ho, xin_vp hk, rfl⟩
    · cases e
  · cases e
theorem xastL_spec {h h1 : XH} {a : Nat} {i : Int32} {v : Int64} (e : xastL h a i v = some h1) : ∃ (n : Nat) (f : Nat → Int64), h a = some (.inl (2, n, .inr (.inl f))) ∧ vp_in i n ∧ h1 = xup h a (some (.inl (2, n, .inr (.inl (xup f i.toNatClampNeg v))))) := by
  unfold xastL at e
  split at e
  · next t' n f ho =>
    split at e
    · next hc =>
      obtain ⟨hc, hk⟩ := hc
      subst hc
      cases e
      exact ⟨n, f, ho, xin_vp hk, rfl⟩
    · cases e
  · cases e
theorem xaldR_spec {h : XH} {a t : Nat} {i : Int32} {v : Nat} (e : xaldR h a t i = some v) : ∃ (n : Nat) (f : Nat → Option Nat), h a = some (.inl (t, n, .inr (.inr (.inr (.inr f))))) ∧ vp_in i n ∧ f i.toNatClampNeg = some v := by
  unfold xaldR at e
  split at e
  · next t' n f ho =>
    split at e
    · next hc =>
      obtain ⟨hc, hk⟩ := hc
      subst hc
      exact ⟨n, f, ho, xin_vp hk, e⟩
    · cases e
  · cases e
theorem xastR_spec {h h1 : XH} {a t : Nat} {i : Int32} {v : Nat} (e : xastR h a t i v = some h1) : ∃ (n : Nat) (f : Nat → Option Nat), h a = some (.inl (t, n, .inr (.inr (.inr (.inr f))))) ∧ vp_in i n ∧ h1 = xup h a (some (.inl (t, n, .inr (.inr (.inr (.inr (xup f i.toNatClampNeg (some v)))))))) := by
  unfold xastR at e
  split at e
  · next t' n f ho =>
    split at e
    · next hc =>
      obtain ⟨hc, hk⟩ := hc
      subst hc
      cases e
      exact ⟨n, f, ho, xin_vp hk, rfl⟩
    · cases e
  · cases e
end
section
/-! The rows of the machine over such a heap. -/
section XW
variable {p : Program} {l : Launch} {e : Env} {R : Room} {s : State} {m : MethodId} {args : Array Value} {below : List Frame} {meth : Method} {c : Code} {H : Heap} {locs : List Loc} {cells slots : Nat} {Q : State → Prop}
variable {cc : ByteArray} {pc : Nat} {ls : Array Slot} {rest : List Value} {B0 : Nat} {G : XG} {h h1 : XH} {H0 : Heap} {a : Nat}
theorem xr_get (hexec : p.tables.exec = Jvm.exec) (hb : c.code = cc) {own ref C : String} {T : u_T} {N ci index k : Nat} {Ts : List Cond} (hts : ∀ w ∈ Ts, w.before args s = true) (hin : ∀ w ∈ u_ws C T N, w ∈ Ts) (hown : s.vm.findClass own = some m.cls) (hK : xK G s) (hP : xP B0 G h H) {v : Value} (e1 : xg h a ci k = some v) (hc : vwCl[ci]? = some (C, T, N)) (hk : k < N)
    (hlink : (Cond.fieldLink own index ref (T k).2.1 (T k).2.2.1).before args s = true) (hsame : ∀ x, s.fieldFound? (T k).1 (T k).2.1 (T k).2.2.1 = some x → s.fieldFound? ref (T k).2.1 (T k).2.2.1 = some x) (hdg : decode cc pc = .ok (.getfield index, 3))
    (kk : W p l e R s m args below meth c H locs cells slots Q (F0 m (pc + 3) ls (v :: rest))) : W p l e R s m args below meth c H locs cells slots Q (F0 m pc ls (.ref a :: rest)) := by
  obtain ⟨fs, ha, hv⟩ := xg_spec e1
  exact va_get hexec hb hts hin hown hK (hP.get ha) 0 rfl hc k hk hlink hsame hv hdg kk
theorem xr_getI (hexec : p.tables.exec = Jvm.exec) (hb : c.code = cc) {own ref C : String} {T : u_T} {N ci index k : Nat} {Ts : List Cond} (hts : ∀ w ∈ Ts, w.before args s = true) (hin : ∀ w ∈ u_ws C T N, w ∈ Ts) (hown : s.vm.findClass own = some m.cls) (hK : xK G s) (hP : xP B0 G h H) {v : Int32} (e1 : xgI h a ci k = some v) (hc : vwCl[ci]? = some (C, T, N)) (hk : k < N)
    (hlink : (Cond.fieldLink own index ref (T k).2.1 (T k).2.2.1).before args s = true) (hsame : ∀ x, s.fieldFound? (T k).1 (T k).2.1 (T k).2.2.1 = some x → s.fieldFound? ref (T k).2.1 (T k).2.2.1 = some x) (hdg : decode cc pc = .ok (.getfield index, 3))
    (kk : W p l e R s m args below meth c H locs cells slots Q (F0 m (pc + 3) ls (.int v :: rest))) : W p l e R s m args below meth c H locs cells slots Q (F0 m pc ls (.ref a :: rest)) :=
  xr_get hexec hb hts hin hown hK hP (xgI_spec e1) hc hk hlink hsame hdg kk
theorem xr_getL (hexec : p.tables.exec = Jvm.exec) (hb : c.code = cc) {own ref C : String} {T : u_T} {N ci index k : Nat} {Ts : List Cond} (hts : ∀ w ∈ Ts, w.before args s = true) (hin : ∀ w ∈ u_ws C T N, w ∈ Ts) (hown : s.vm.findClass own = some m.cls) (hK : xK G s) (hP : xP B0 G h H) {v : Int64} (e1 : xgL h a ci k = some v) (hc : vwCl[ci]? = some (C, T, N)) (hk : k < N)
    (hlink : (Cond.fieldLink own index ref (T k).2.1 (T k).2.2.1).before args s = true) (hsame : ∀ x, s.fieldFound? (T k).1 (T k).2.1 (T k).2.2.1 = some x → s.fieldFound? ref (T k).2.1 (T k).2.2.1 = some x) (hdg : decode cc pc = .ok (.getfield index, 3))
    (kk : W p l e R s m args below meth c H locs cells slots Q (F0 m (pc + 3) ls (.long v :: rest))) : W p l e R s m args below meth c H locs cells slots Q (F0 m pc ls (.ref a :: rest)) :=
  xr_get hexec hb hts hin hown hK hP (xgL_spec e1) hc hk hlink hsame hdg kk
theorem xr_getR (hexec : p.tables.exec = Jvm.exec) (hb : c.code = cc) {own ref C : String} {T : u_T} {N ci index k : Nat} {Ts : List Cond} (hts : ∀ w ∈ Ts, w.before args s = true) (hin : ∀ w ∈ u_ws C T N, w ∈ Ts) (hown : s.vm.findClass own = some m.cls) (hK : xK G s) (hP : xP B0 G h H) {v : Nat} (e1 : xgR h a ci k = some v) (hc : vwCl[ci]? = some (C, T, N)) (hk : k < N)
    (hlink : (Cond.fieldLink own index ref (T k).2.1 (T k).2.2.1).before args s = true) (hsame : ∀ x, s.fieldFound? (T k).1 (T k).2.1 (T k).2.2.1 = some x → s.fieldFound? ref (T k).2.1 (T k).2.2.1 = some x) (hdg : decode cc pc = .ok (.getfield index, 3))
    (kk : W p l e R s m args below meth c H locs cells slots Q (F0 m (pc + 3) ls (.ref v :: rest))) : W p l e R s m args below meth c H locs cells slots Q (F0 m pc ls (.ref a :: rest)) :=
  xr_get hexec hb hts hin hown hK hP (xgR_spec e1) hc hk hlink hsame hdg kk
theorem xr_put (hexec : p.tables.exec = Jvm.exec) (hb : c.code = cc) {own ref C : String} {T : u_T} {N ci index k : Nat} {Ts : List Cond} (hts : ∀ w ∈ Ts, w.before args s = true) (hin : ∀ w ∈ u_ws C T N, w ∈ Ts) (ty0 : Nat → FieldType) (hty : ∀ k, k < N → parseFieldDescriptor (T k).2.2.1 = some (ty0 k)) (hnm : ∀ a, a < N → ∀ b, b < N → a ≠ b → (T a).2.1 ≠ (T b).2.1) (hown : s.vm.findClass own = some m.cls) (hK : xK G s) (hP : xP B0 G h H) (hS : va_S (xA B0) H0 H locs) {v : Value} (e1 : xpV h a ci k v = some h1) (hc : vwCl[ci]? = some (C, T, N)) (hk : k < N)
    (hlink : (Cond.fieldLink own index ref (T k).2.1 (T k).2.2.1).before args s = true) (hsame : ∀ x, s.fieldFound? (T k).1 (T k).2.1 (T k).2.2.1 = some x → s.fieldFound? ref (T k).2.1 (T k).2.2.1 = some x) (hfin : (T k).2.2.2 = false) {ty : FieldType} (hd : parseFieldDescriptor (T k).2.2.1 = some ty) (hn : narrow ty v = v) (hfit : fits ty v = true) (hdg : decode cc pc = .ok (.putfield index, 3))
    (kk : ∀ (H1 : Heap) (locs1 : List Loc), xP B0 G h1 H1 → H1.size = H.size → va_S (xA B0) H0 H1 locs1 → W p l e R s m args below meth c H1 locs1 cells slots Q (F0 m (pc + 3) ls rest)) : W p l e R s m args below meth c H locs cells slots Q (F0 m pc ls (v :: .ref a :: rest)) := by
  obtain ⟨fs, ha, hl, rfl⟩ := xpV_spec e1
  have hB := (hP.2 _ _ ha).1
  have hap := va_apart (own := own) hts hin ty0 hty hnm hK hc
  obtain ⟨r, h1, cell, q1, q2, q3, q4⟩ := (hP.2 _ _ ha).2
  have hr : r = (C, T, N) := Option.some.inj (h1.symm.trans hc)
  subst hr
  obtain ⟨hS1, hfc, kC, hkC, hkind⟩ := hK.1 ci _ hc
  obtain ⟨cf, kf, fi, f, hi, hsl⟩ := hS1 k hk
  have hlay := hts _ (hin _ (u_in_lay hk))
  unfold u_lay at hlay
  rw [if_neg (by rw [hfin]; decide)] at hlay
  have hst := (u_facts hfc hkC (u_lays hts hin hk) hi).1
  have h6 := u_store hfc hkC hkind hlay hi hd hn hfit
  refine W.putK hexec hb (f := f) ⟨hown, hlink, ⟨_, _, _, hsame _ hi⟩, hst⟩ (by rw [q2]; exact h6) q1 q3 (by rw [hsl]; exact k2_hasslot (q4 k hk)) rfl rfl hdg fun H' e1 e2 e3 => ?_
  rw [hsl] at e1 ⊢
  exact kk H' _ (hP.set hB ⟨_, hc, t_OB.to (V := updV (vp_V fs) k v) ⟨_, e1, q2, q3, t_set q4 hap hk v⟩ (fun j _ => vp_updV_set hl v j)⟩ e2 e3) e2 (hS.put e2 e3 hB)
theorem xr_putF (hexec : p.tables.exec = Jvm.exec) (hb : c.code = cc) {own ref C : String} {T : u_T} {N ci index k : Nat} {Ts : List Cond} (hts : ∀ w ∈ Ts, w.before args s = true) (hin : ∀ w ∈ u_ws C T N, w ∈ Ts) (ty0 : Nat → FieldType) (hty : ∀ k, k < N → parseFieldDescriptor (T k).2.2.1 = some (ty0 k)) (hnm : ∀ a, a < N → ∀ b, b < N → a ≠ b → (T a).2.1 ≠ (T b).2.1) (hown : s.vm.findClass own = some m.cls) (hK : xK G s) (hP : xP B0 G h H) (hS : va_S (xA B0) H0 H locs) {v : Value} (e1 : xpV h a ci k v = some h1) (hc : vwCl[ci]? = some (C, T, N)) (hk : k < N)
    (hlink : (Cond.fieldLink own index ref (T k).2.1 (T k).2.2.1).before args s = true) (hsame : ∀ x, s.fieldFound? (T k).1 (T k).2.1 (T k).2.2.1 = some x → s.fieldFound? ref (T k).2.1 (T k).2.2.1 = some x) (hfin : (T k).2.2.2 = true) (hin2 : meth.name = "<init>") (hdecl : (T k).1 = own) {ty : FieldType} (hd : parseFieldDescriptor (T k).2.2.1 = some ty) (hn : narrow ty v = v) (hfit : fits ty v = true) (hdg : decode cc pc = .ok (.putfield index, 3))
    (kk : ∀ (H1 : Heap) (locs1 : List Loc), xP B0 G h1 H1 → H1.size = H.size → va_S (xA B0) H0 H1 locs1 → W p l e R s m args below meth c H1 locs1 cells slots Q (F0 m (pc + 3) ls rest)) : W p l e R s m args below meth c H locs cells slots Q (F0 m pc ls (v :: .ref a :: rest)) := by
  obtain ⟨fs, ha, hl, rfl⟩ := xpV_spec e1
  have hB := (hP.2 _ _ ha).1
  have hap := va_apart (own := own) hts hin ty0 hty hnm hK hc
  obtain ⟨r, h1, cell, q1, q2, q3, q4⟩ := (hP.2 _ _ ha).2
  have hr : r = (C, T, N) := Option.some.inj (h1.symm.trans hc)
  subst hr
  obtain ⟨hS1, hfc, kC, hkC, hkind⟩ := hK.1 ci _ hc
  obtain ⟨cf, kf, fi, f, hi, hsl⟩ := hS1 k hk
  have hlay := hts _ (hin _ (u_in_lay hk))
  unfold u_lay at hlay
  rw [if_pos hfin] at hlay
  have hst := (u_facts hfc hkC (u_lays hts hin hk) hi).1
  have hcf : m.cls = cf := by
    obtain ⟨_, _, c', _, _, _, -, -, hf', -, -, -, hown2, -⟩ := Cond.laysFinal_spec hlay
    have e1 : c' = cf := by have := hi.symm.trans hf'; simp at this; exact this.1.symm
    rw [hdecl] at hown2
    rw [← e1]; exact Option.some.inj (hown.symm.trans hown2)
  have h6 := u_fits hfc hkC hkind (Or.inr hlay) hi hd hn hfit
  refine W.putFinK hexec hb hown hlink (hsame _ hi) hst hcf hin2 (by rw [q2]; exact h6) q1 q3 (by rw [hsl]; exact k2_hasslot (q4 k hk)) rfl rfl hdg fun H' e1 e2 e3 => ?_
  rw [hsl] at e1 ⊢
  exact kk H' _ (hP.set hB ⟨_, hc, t_OB.to (V := updV (vp_V fs) k v) ⟨_, e1, q2, q3, t_set q4 hap hk v⟩ (fun j _ => vp_updV_set hl v j)⟩ e2 e3) e2 (hS.put e2 e3 hB)
theorem xr_iald (hexec : p.tables.exec = Jvm.exec) (hb : c.code = cc) (hK : xK G s) (hP : xP B0 G h H) {i v : Int32} (e1 : xald h a 0 i = some v) (hdg : decode cc pc = .ok (.iaload, 1))
    (kk : W p l e R s m args below meth c H locs cells slots Q (F0 m (pc + 1) ls (.int v :: rest))) : W p l e R s m args below meth c H locs cells slots Q (F0 m pc ls (.int i :: .ref a :: rest)) := by
  obtain ⟨n, f, ha, hin, rfl⟩ := xald_spec e1
  exact va_iald hexec hb hK (hP.get ha) 0 0 rfl rfl hin hdg kk
theorem xr_bald (hexec : p.tables.exec = Jvm.exec) (hb : c.code = cc) (hK : xK G s) (hP : xP B0 G h H) {i v : Int32} (e1 : xald h a 1 i = some v) (hdg : decode cc pc = .ok (.baload, 1))
    (kk : W p l e R s m args below meth c H locs cells slots Q (F0 m (pc + 1) ls (.int v :: rest))) : W p l e R s m args below meth c H locs cells slots Q (F0 m pc ls (.int i :: .ref a :: rest)) := by
  obtain ⟨n, f, ha, hin, rfl⟩ := xald_spec e1
  exact va_bald hexec hb hK (hP.get ha) 0 1 rfl rfl hin hdg kk
theorem xr_lald (hexec : p.tables.exec = Jvm.exec) (hb : c.code = cc) (hK : xK G s) (hP : xP B0 G h H) {i : Int32} {v : Int64} (e1 : xaldL h a i = some v) (hdg : decode cc pc = .ok (.laload, 1))
    (kk : W p l e R s m args below meth c H locs cells slots Q (F0 m (pc + 1) ls (.long v :: rest))) : W p l e R s m args below meth c H locs cells slots Q (F0 m pc ls (.int i :: .ref a :: rest)) := by
  obtain ⟨n, f, ha, hin, rfl⟩ := xaldL_spec e1
  exact va_lald hexec hb hK (hP.get ha) 0 2 rfl rfl hin hdg kk
theorem xr_aald {t : Nat} {C : String} (ht : ∀ G : XG, (xTy G)[t]? = some (G.2 t, .object C)) (hexec : p.tables.exec = Jvm.exec) (hb : c.code = cc) (hK : xK G s) (hP : xP B0 G h H) {i : Int32} {v : Nat} (e1 : xaldR h a t i = some v) (hdg : decode cc pc = .ok (.aaload, 1))
    (kk : W p l e R s m args below meth c H locs cells slots Q (F0 m (pc + 1) ls (.ref v :: rest))) : W p l e R s m args below meth c H locs cells slots Q (F0 m pc ls (.int i :: .ref a :: rest)) := by
  obtain ⟨n, f, ha, hin, hv⟩ := xaldR_spec e1
  refine va_aldq hexec hb hK (hP.get ha) 0 t rfl (ht G) hin hdg ?_
  rw [hv]
  exact kk
theorem xr_iast (hexec : p.tables.exec = Jvm.exec) (hb : c.code = cc) (hK : xK G s) (hP : xP B0 G h H) (hS : va_S (xA B0) H0 H locs) {i x : Int32} (e1 : xast h a 0 i x = some h1) (hdg : decode cc pc = .ok (.iastore, 1))
    (kk : ∀ (H1 : Heap) (locs1 : List Loc), xP B0 G h1 H1 → H1.size = H.size → va_S (xA B0) H0 H1 locs1 → W p l e R s m args below meth c H1 locs1 cells slots Q (F0 m (pc + 1) ls rest)) : W p l e R s m args below meth c H locs cells slots Q (F0 m pc ls (.int x :: .int i :: .ref a :: rest)) := by
  obtain ⟨n, f, ha, hin, rfl⟩ := xast_spec e1
  have hB := (hP.2 _ _ ha).1
  refine W.iast hexec hb (hP.get ha 0 _ rfl) ((hK.2 0 _ rfl).1 n (fun j => .int (f j))) (fun q => by cases q) (by show ¬ (i < 0 ∨ (arrV _ _ _).slots.size ≤ _); rw [arrV_size]; exact hin) rfl rfl hdg fun H1 e z oq => ?_
  refine kk H1 _ (hP.set hB ?_ z oq) z (hS.put z oq hB)
  show H1[a]? = some (vp_cell _ _)
  rw [e]
  show some (Cell.setSlot (vp_cell _ _) _ _) = some (vp_cell _ _)
  rw [vp_cell_i, vp_cell_i, arrV_store]
  congr 2
  funext q
  by_cases hq : q = i.toNatClampNeg
  · subst hq
    simp [updV, xup]
  · simp [updV, xup, hq]
theorem xr_bast (hexec : p.tables.exec = Jvm.exec) (hb : c.code = cc) (hK : xK G s) (hP : xP B0 G h H) (hS : va_S (xA B0) H0 H locs) {i x : Int32} (e1 : xast h a 1 i (vp_nar .byte x) = some h1) (hdg : decode cc pc = .ok (.bastore, 1))
    (kk : ∀ (H1 : Heap) (locs1 : List Loc), xP B0 G h1 H1 → H1.size = H.size → va_S (xA B0) H0 H1 locs1 → W p l e R s m args below meth c H1 locs1 cells slots Q (F0 m (pc + 1) ls rest)) : W p l e R s m args below meth c H locs cells slots Q (F0 m pc ls (.int x :: .int i :: .ref a :: rest)) := by
  obtain ⟨n, f, ha, hin, rfl⟩ := xast_spec e1
  have hB := (hP.2 _ _ ha).1
  refine W.bast hexec hb (hP.get ha 0 _ rfl) ((hK.2 1 _ rfl).1 n (fun j => .int (f j))) (fun q => by cases q) (by show ¬ (i < 0 ∨ (arrV _ _ _).slots.size ≤ _); rw [arrV_size]; exact hin) rfl rfl hdg fun H1 e z oq => ?_
  refine kk H1 _ (hP.set hB ?_ z oq) z (hS.put z oq hB)
  show H1[a]? = some (vp_cell _ _)
  rw [e]
  show some (Cell.setSlot (vp_cell _ _) _ _) = some (vp_cell _ _)
  rw [vp_cell_i, vp_cell_i, arrV_store]
  congr 2
  funext q
  by_cases hq : q = i.toNatClampNeg
  · subst hq
    simp [updV, xup, vp_nar]
    try rfl
  · simp [updV, xup, hq]
theorem xr_last (hexec : p.tables.exec = Jvm.exec) (hb : c.code = cc) (hK : xK G s) (hP : xP B0 G h H) (hS : va_S (xA B0) H0 H locs) {i : Int32} {x : Int64} (e1 : xastL h a i x = some h1) (hdg : decode cc pc = .ok (.lastore, 1))
    (kk : ∀ (H1 : Heap) (locs1 : List Loc), xP B0 G h1 H1 → H1.size = H.size → va_S (xA B0) H0 H1 locs1 → W p l e R s m args below meth c H1 locs1 cells slots Q (F0 m (pc + 1) ls rest)) : W p l e R s m args below meth c H locs cells slots Q (F0 m pc ls (.long x :: .int i :: .ref a :: rest)) := by
  obtain ⟨n, f, ha, hin, rfl⟩ := xastL_spec e1
  have hB := (hP.2 _ _ ha).1
  refine W.last hexec hb (hP.get ha 0 _ rfl) ((hK.2 2 _ rfl).1 n (fun j => .long (f j))) (fun q => by cases q) (by show ¬ (i < 0 ∨ (arrV _ _ _).slots.size ≤ _); rw [arrV_size]; exact hin) rfl rfl hdg fun H1 e z oq => ?_
  refine kk H1 _ (hP.set hB ?_ z oq) z (hS.put z oq hB)
  show H1[a]? = some (vp_cell _ _)
  rw [e]
  show some (Cell.setSlot (vp_cell _ _) _ _) = some (vp_cell _ _)
  rw [vp_cell_l, vp_cell_l, arrV_store]
  congr 2
  funext q
  by_cases hq : q = i.toNatClampNeg
  · subst hq
    simp [updV, xup]
  · simp [updV, xup, hq]
theorem xr_aast {t ci : Nat} {r : vw_C} (ht : ∀ G : XG, (xTy G)[t]? = some (G.2 t, .object r.1)) (hc : vwCl[ci]? = some r) (hexec : p.tables.exec = Jvm.exec) (hb : c.code = cc) (hK : xK G s) (hP : xP B0 G h H) (hS : va_S (xA B0) H0 H locs) {i : Int32} {v : Nat} {u : Unit} (e0 : xis h v ci = some u) (e1 : xastR h a t i v = some h1) (hdg : decode cc pc = .ok (.aastore, 1))
    (kk : ∀ (H1 : Heap) (locs1 : List Loc), xP B0 G h1 H1 → H1.size = H.size → va_S (xA B0) H0 H1 locs1 → W p l e R s m args below meth c H1 locs1 cells slots Q (F0 m (pc + 1) ls rest)) : W p l e R s m args below meth c H locs cells slots Q (F0 m pc ls (.ref v :: .int i :: .ref a :: rest)) := by
  obtain ⟨n, f, ha, hin, rfl⟩ := xastR_spec e1
  obtain ⟨vs, hv⟩ := xis_spec e0
  have hB := (hP.2 _ _ ha).1
  have hlt : i.toNatClampNeg < n := Nat.not_le.mp fun q => hin (Or.inr q)
  have h0 : ¬ i < 0 := fun q => hin (Or.inl q)
  obtain ⟨r', hr', cellV, g1, g2, g3, -⟩ := (hP.2 _ _ hv).2
  have hcls := (hK.1 ci r hc).2
  obtain ⟨kA, comp, k1, k2, k3, -⟩ := (hK.2 t _ (ht G)).2
  have hcomp : comp = G.1.1 ci := Option.some.inj (k3.symm.trans hcls.1)
  subst hcomp
  obtain ⟨kC, hkC, -⟩ := hcls.2
  refine W.aast hexec hb (hP.get ha 0 _ rfl) (fun q h => by cases h) (fun h => by cases h) k1 k2 rfl hkC ⟨h0, by show _ < (arrV _ _ _).slots.size; rw [arrV_size]; exact hlt⟩ g1 (fun q h => by rw [g3] at h; cases h) (by rw [g2]; exact hkC) (by rw [g2]; exact va_assign hcls) rfl rfl hdg fun H1 e z oq => ?_
  refine kk H1 _ (hP.set hB ?_ z oq) z (hS.put z oq hB)
  show H1[a]? = some (vp_cell _ _)
  rw [e]
  show some (Cell.setSlot (vp_cell _ _) _ _) = some (vp_cell _ _)
  rw [vp_cell_q, vp_cell_q, arrV_store]
  congr 2
  funext q
  by_cases hq : q = i.toNatClampNeg
  · subst hq
    simp [updV, xup, va_rf]
  · simp [updV, xup, hq]
theorem xr_mmax (hexec : p.tables.exec = Jvm.exec) (hb : c.code = cc) (hml : c.maxLocals = ls.size) {own : String} {index : Nat} (hown : s.vm.findClass own = some m.cls) (hlink : (Cond.methodLink own index Lib.Math.max.name).before args s = true) (hstat : (Cond.static Lib.Math.max.name).before args s = true) (hini : (Cond.initialized "java/lang/Math").before args s = true) (hcode : (Cond.code Lib.Math.max.name Lib.Math.max.code 2 (some .int)).before args s = true)
    (hR : 1 ≤ R.frames ∧ 21 ≤ R.locals) (hrest : (rest.map fun v => v.category).sum ≤ 8) (hc : cells ≤ R.cells ∧ slots ≤ R.slots) {x y : Int32} (hdg : decode cc pc = .ok (.invokestatic index, 3))
    (kk : W p l e R s m args below meth c H locs cells slots Q (F0 m (pc + 3) ls (.int (xmax x y) :: rest))) : W p l e R s m args below meth c H locs cells slots Q (F0 m pc ls (.int y :: .int x :: rest)) :=
  va_mmax hexec hb hml hown hlink hstat hini hcode hR.1 (by omega) hc.1 hc.2 hdg kk
theorem xr_mmin (hexec : p.tables.exec = Jvm.exec) (hb : c.code = cc) (hml : c.maxLocals = ls.size) {own : String} {index : Nat} (hown : s.vm.findClass own = some m.cls) (hlink : (Cond.methodLink own index Lib.Math.min.name).before args s = true) (hstat : (Cond.static Lib.Math.min.name).before args s = true) (hini : (Cond.initialized "java/lang/Math").before args s = true) (hcode : (Cond.code Lib.Math.min.name Lib.Math.min.code 2 (some .int)).before args s = true)
    (hR : 1 ≤ R.frames ∧ 21 ≤ R.locals) (hrest : (rest.map fun v => v.category).sum ≤ 8) (hc : cells ≤ R.cells ∧ slots ≤ R.slots) {x y : Int32} (hdg : decode cc pc = .ok (.invokestatic index, 3))
    (kk : W p l e R s m args below meth c H locs cells slots Q (F0 m (pc + 3) ls (.int (xmin x y) :: rest))) : W p l e R s m args below meth c H locs cells slots Q (F0 m pc ls (.int y :: .int x :: rest)) :=
  va_mmin hexec hb hml hown hlink hstat hini hcode hR.1 (by omega) hc.1 hc.2 hdg kk
theorem xr_copy (hexec : p.tables.exec = Jvm.exec) (hb : c.code = cc) (hml : c.maxLocals = ls.size) {own : String} {index : Nat} (hown : s.vm.findClass own = some m.cls) (hlink : (Cond.methodLink own index arraycopyName).before args s = true) (hnat : (Cond.native arraycopyName).before args s = true) (hstat : (Cond.static arraycopyName).before args s = true) (hini : (Cond.initialized "java/lang/System").before args s = true)
    (hK : xK G s) (hP : xP B0 G h H) (hS : va_S (xA B0) H0 H locs) {a0 : Nat} {sp dp n : Int32} (e1 : xcopy h a0 sp a dp n = some h1)
    (hframes : 1 ≤ R.frames) (hlocals : (rest.map fun v => v.category).sum + (nativeFrameWords "java/lang/System" "arraycopy" 5 + 11) ≤ R.locals) (hdg : decode cc pc = .ok (.invokestatic index, 3))
    (kk : ∀ (H1 : Heap) (locs1 : List Loc), xP B0 G h1 H1 → H1.size = H.size → va_S (xA B0) H0 H1 locs1 → W p l e R s m args below meth c H1 locs1 cells slots Q (F0 m (pc + 3) ls rest)) : W p l e R s m args below meth c H locs cells slots Q (F0 m pc ls (.int n :: .int dp :: .ref a :: .int sp :: .ref a0 :: rest)) := by
  have nn : ∀ z : Int32, ¬ z < 0 → z.toInt = (z.toNatClampNeg : Int) := by
    intro z hz
    have hz0 : (0 : Int) ≤ z.toInt := by
      have := Int32.not_lt.mp hz
      simpa using Int32.le_iff_toInt_le.mp this
    show z.toInt = ((z.toInt.toNat : Nat) : Int)
    omega
  unfold xcopy at e1
  split at e1
  · next t0 n0 f t1 n1 g ha0 ha1 =>
    split at e1
    · next hq =>
      obtain ⟨rfl, rfl, h1, h2, h3, h4, h5⟩ := hq
      cases e1
      have hB := (hP.2 _ _ ha1).1
      intro T hT X
      have hc0 : H[a0]? = some (vp_cell (G.2 0) (n0, .inl f)) := (hP.2 _ _ ha0).2
      have hc1 : H[a]? = some (vp_cell (G.2 0) (n1, .inl g)) := (hP.2 _ _ ha1).2
      obtain ⟨-, k0, hk0, cm0, hkk0⟩ := (hK.2 0 _ rfl).1 n0 (fun j => .int (f j))
      obtain ⟨-, k1, hk1, cm1, hkk1⟩ := (hK.2 0 _ rfl).1 n1 (fun j => .int (g j))
      obtain ⟨vm', X', step⟩ := X.arraycopy hexec hown hlink hnat hstat hini (src := a0) (dst := a) (cs := vp_cell (G.2 0) (n0, .inl f)) (cd := vp_cell (G.2 0) (n1, .inl g)) (srcPos := sp) (destPos := dp) (n := n) (by rw [hT]; exact hc0) (by rw [hT]; exact hc1)
        (fun _ h => by cases h) (fun _ h => by cases h) (fun h => by cases h) (fun h => by cases h) hk0 hk1 hkk0 hkk1 (by simp [refKind]) h1 h2 h3
        (by rw [nn sp h1, nn n h3]; show ¬ _ > ((arrV (G.2 0) n0 (fun j => .int (f j))).slots.size : Int); rw [arrV_size]; omega)
        (by rw [nn dp h2, nn n h3]; show ¬ _ > ((arrV (G.2 0) n1 (fun j => .int (g j))).slots.size : Int); rw [arrV_size]; omega)
        (fun vm₁ _ i hi => by
          have e : (vp_cell (G.2 0) (n0, .inl f)).slots.getD (sp.toNatClampNeg + i) .null = .int (f (sp.toNatClampNeg + i)) := by
            show (arrV (G.2 0) n0 (fun j => .int (f j))).slots.getD _ _ = _
            rw [Array.getD_eq_getD_getElem?, arrV_read _ _ (by omega)]
            rfl
          refine ⟨?_, ?_⟩
          · rw [e]
            rfl
          · rw [e]
            exact trivial)
        (g := F0 m pc ls (.int n :: .int dp :: .ref a :: .int sp :: .ref a0 :: rest)) rfl (by rw [hml]) (rest := rest) rfl (by rw [hb]; exact hdg) hframes (by show 2 * 0 + _ + _ ≤ _; omega)
      have e1 : copied (vp_cell (G.2 0) (n0, .inl f)) (vp_cell (G.2 0) (n1, .inl g)) sp dp n = vp_cell (G.2 0) (n1, .inl (va_cpy f g sp.toNatClampNeg dp.toNatClampNeg n.toNatClampNeg)) := va_copied (fun z => .int z) (G.2 0) (G.2 0) f g h4
      rw [e1] at X' step
      have hl : a < H.size := (Array.getElem?_eq_some_iff.mp hc1).1
      have hheap : ((T.setVm vm').setCell a (vp_cell (G.2 0) (n1, .inl (va_cpy f g sp.toNatClampNeg dp.toNatClampNeg n.toNatClampNeg)))).heap = H.setIfInBounds a (vp_cell (G.2 0) (n1, .inl (va_cpy f g sp.toNatClampNeg dp.toNatClampNeg n.toNatClampNeg))) := by rw [← hT]; rfl
      have oq : ∀ q : Nat, q ≠ a → (H.setIfInBounds a (vp_cell (G.2 0) (n1, .inl (va_cpy f g sp.toNatClampNeg dp.toNatClampNeg n.toNatClampNeg))))[q]? = H[q]? := fun q hq => by simp [Array.getElem?_setIfInBounds, Ne.symm hq]
      have zz : (H.setIfInBounds a (vp_cell (G.2 0) (n1, .inl (va_cpy f g sp.toNatClampNeg dp.toNatClampNeg n.toNatClampNeg)))).size = H.size := by simp
      obtain ⟨t, a1, b1⟩ := kk _ _ (hP.set hB (show (H.setIfInBounds a _)[a]? = some _ by simp [Array.getElem?_setIfInBounds, hl]; rfl) zz oq) zz ⟨by simp; exact hS.1, fun q g1 g2 => by
          rw [oq q (fun e => g2 (by rw [e]; exact hB))]
          exact hS.2.1 q g1 g2, fun q hq => by
          rcases List.mem_append.mp hq with h | h
          · exact hS.2.2 q h
          · obtain ⟨z, -, hz⟩ := List.mem_map.mp h
            rw [← hz]
            exact hB⟩ _ hheap X'
      exact ⟨t, step t a1, b1⟩
    · cases e1
  · cases e1
/-- a number that has a name -/
theorem xtopi {x v : Int32} {g : Nat} (ex : v = x) (k : W p l e R s m args below meth c H locs cells slots Q (F0 m g ls (.int v :: rest))) : W p l e R s m args below meth c H locs cells slots Q (F0 m g ls (.int x :: rest)) := by subst ex; exact k
theorem xtopl {x v : Int64} {g : Nat} (ex : v = x) (k : W p l e R s m args below meth c H locs cells slots Q (F0 m g ls (.long v :: rest))) : W p l e R s m args below meth c H locs cells slots Q (F0 m g ls (.long x :: rest)) := by subst ex; exact k
theorem xtopd {x v : UInt64} {g : Nat} (ex : v = x) (k : W p l e R s m args below meth c H locs cells slots Q (F0 m g ls (.double v :: rest))) : W p l e R s m args below meth c H locs cells slots Q (F0 m g ls (.double x :: rest)) := by subst ex; exact k
end XW
end
section
/-! Contracts over such a heap, calls by them, and the ends of bodies. -/
abbrev xQi (B0 : Nat) (G : XG) (h1 : XH) (r : Int32) : Array Value → State → Outcome → State → Prop := va_Qi (fun (r' : Int32) (_ : Unit) => r' = r) (fun _ => xU B0 G h1) (xA B0)
abbrev xQl (B0 : Nat) (G : XG) (h1 : XH) (r : Int64) : Array Value → State → Outcome → State → Prop := va_Ql (fun (r' : Int64) (_ : Unit) => r' = r) (fun _ => xU B0 G h1) (xA B0)
abbrev xQd (B0 : Nat) (G : XG) (h1 : XH) (r : UInt64) : Array Value → State → Outcome → State → Prop := va_Qd (fun (r' : UInt64) (_ : Unit) => r' = r) (fun _ => xU B0 G h1) (xA B0)
abbrev xQv (B0 : Nat) (G : XG) (h1 : XH) : Array Value → State → Outcome → State → Prop := va_Qv (fun (_ : Unit) => True) (fun _ => xU B0 G h1) (xA B0)
theorem xU_blind {B0 : Nat} {G : XG} {h : XH} {av : List Value} : FrameBlind (va_Pc av (xU B0 G h)) := fun a U g mk q => by
  obtain ⟨q0, qP, qK⟩ := q
  exact ⟨q0, qP, va_K.moved (u := U) (U := U.calling g mk a) (Vm.Alike.refl U.vm) qK⟩
def xEx : Nat → String
  | 0 => "java/lang/IllegalArgumentException"
  | 1 => "java/lang/IllegalStateException"
  | _ => "java/lang/IndexOutOfBoundsException"
/-- what a throw needs beside: Throwable's two statics -/
def xZ (B0 : Nat) (U : State) : Prop := vx_Zq Bundle.tN "UNASSIGNED_STACK" Bundle.steD (xA B0) U U.heap ∧ vx_Zq Bundle.tN "SUPPRESSED_SENTINEL" Bundle.listD (xA B0) U U.heap
/-- words of the exceptions' classes that are no good words -/
def xNg : List Cond := [.declares (Bundle.initS "java/lang/RuntimeException"), .declares (Bundle.initS "java/lang/Exception"), .declares (Bundle.initS Bundle.tN), .castable "java/lang/IllegalArgumentException" "java/lang/IllegalArgumentException", .castable "java/lang/IllegalStateException" "java/lang/IllegalStateException", .castable "java/lang/IndexOutOfBoundsException" "java/lang/IndexOutOfBoundsException"]
def xNgs (U : State) : Prop := ∀ w ∈ xNg, va_Nw w U
theorem xNgs.warm {s U : State} (hW : s.WarmedH U.vm) (h : xNgs s) : xNgs U := by
  intro w hw
  have hz := h w hw
  simp only [xNg, List.mem_cons, List.not_mem_nil, or_false] at hw
  rcases hw with rfl | rfl | rfl | rfl | rfl | rfl
  · exact va_Nw.warmD hW hz
  · exact va_Nw.warmD hW hz
  · exact va_Nw.warmD hW hz
  · exact va_Nw.warmC hW hz
  · exact va_Nw.warmC hW hz
  · exact va_Nw.warmC hW hz
theorem xNgs.same {u U : State} (hv : U.vm = u.vm) (h : xNgs u) : xNgs U := by
  intro w hw
  have hz := h w hw
  have ht : w.onTables = true := (show ∀ w ∈ xNg, w.onTables = true by decide +kernel) w hw
  exact va_tabs ht hv.symm hz
theorem xNgs.at {args : Array Value} {s : State} (h : xNgs s) : ∀ w ∈ xNg, w.before args s = true := fun w hw => va_tabs ((show ∀ w ∈ xNg, w.onTables = true by decide +kernel) w hw) rfl (h w hw)
/-- .. and the texts of the class -/
def xStr (U : State) : Prop := (∃ a, vk_R RX5 226 "out of range" a U) ∧ (∃ a, vk_R RX5 41 "no room for another roof" a U) ∧ (∃ a, vk_R RX5 68 "no room for another user" a U) ∧ (∃ a, vk_R RX5 231 "there is no such number" a U) ∧ (∃ a, vk_R RX5 234 "no room for so many days of rain" a U) ∧ (∃ a, vk_R RX5 146 "not so many days of rain are left" a U) ∧ (∃ a, vk_R RX5 192 "the text is full" a U) ∧ (∃ a, vk_R RX5 210 "no state is saved" a U) ∧ xNgs U
theorem xStr.same {u U : State} (hv : U.vm = u.vm) (h : xStr u) : xStr U := by
  obtain ⟨⟨a0, h0⟩, ⟨a1, h1⟩, ⟨a2, h2⟩, ⟨a3, h3⟩, ⟨a4, h4⟩, ⟨a5, h5⟩, ⟨a6, h6⟩, ⟨a7, h7⟩, hn⟩ := h
  exact ⟨⟨_, vk_R.same hv h0⟩, ⟨_, vk_R.same hv h1⟩, ⟨_, vk_R.same hv h2⟩, ⟨_, vk_R.same hv h3⟩, ⟨_, vk_R.same hv h4⟩, ⟨_, vk_R.same hv h5⟩, ⟨_, vk_R.same hv h6⟩, ⟨_, vk_R.same hv h7⟩, hn.same hv⟩
theorem xStr.warm {s U : State} (hW : s.WarmedH U.vm) (h : xStr s) : xStr U := by
  obtain ⟨⟨a0, h0⟩, ⟨a1, h1⟩, ⟨a2, h2⟩, ⟨a3, h3⟩, ⟨a4, h4⟩, ⟨a5, h5⟩, ⟨a6, h6⟩, ⟨a7, h7⟩, hn⟩ := h
  exact ⟨⟨_, vk_R.warm hW h0⟩, ⟨_, vk_R.warm hW h1⟩, ⟨_, vk_R.warm hW h2⟩, ⟨_, vk_R.warm hW h3⟩, ⟨_, vk_R.warm hW h4⟩, ⟨_, vk_R.warm hW h5⟩, ⟨_, vk_R.warm hW h6⟩, ⟨_, vk_R.warm hW h7⟩, hn.warm hW⟩
def xUX (B0 : Nat) (G : XG) (h : XH) : State → Prop := fun U => xU B0 G h U ∧ xZ B0 U ∧ xStr U
def xFF : Array Value → State → Outcome → State → Prop := fun _ _ _ _ => False
def xXC (B0 : Nat) (G : XG) (h1 : XH) (code : Nat) : String → State → State → Prop := vx_X (fun (_ : Unit) => True) (fun E _ t => E = xEx code ∧ xU B0 G h1 t) (xA B0)
section XC
variable {p : Program} {l : Launch} {e : Env} {R : Room} {s : State} {m : MethodId} {args : Array Value} {below : List Frame} {meth : Method} {c : Code} {H : Heap} {locs : List Loc} {cells slots : Nat} {Q : State → Prop}
variable {cc : ByteArray} {pc nL : Nat} {ls : Array Slot} {rest st0 : List Value} {B0 : Nat} {G : XG} {h h1 : XH} {H0 : Heap} {a : Nat}
variable {y : MethodName} {bytes : ByteArray} {maxL n index : Nat} {ret : Option FieldType} {ws Ts : List Cond} {rm : Room} {own C : String} {b : Nat} {As : List Value}
theorem xrecv {ci N : Nat} {T : u_T} {u : Unit} (hK : xK G s) (hP : xP B0 G h H) (hr : xis h b ci = some u) (hc : vwCl[ci]? = some (C, T, N)) : ∃ cell : Cell, H[b]? = some cell ∧ cell.vm.isStatics = false ∧ s.vm.findClass C = some cell.cls := by
  obtain ⟨fs, hb⟩ := xis_spec hr
  exact va_recv hK (hP.get hb) hc (q0 := 0) rfl
theorem xc_Vi (S : CallFix p m c cc nL s args Ts own) {r : Int32} (hM : Met l y ws rm (va_Pc (.ref b :: As) (xU B0 G h)) (xQi B0 G h1 r) 0 0 (xA B0)) (cw : CallW R s args own C index y bytes maxL ret ws rm 0 0 n) (hK : xK G s) (hP : xP B0 G h H) (hS : va_S (xA B0) H0 H locs) {ci N : Nat} {T : u_T} {u : Unit} (hr : xis h b ci = some u) (hc : vwCl[ci]? = some (C, T, N)) (hn : As.length = n) (hsize : ls.size = nL) (hst : st0 = As.reverse ++ .ref b :: rest) (hroom : (rest.map fun v => v.category).sum ≤ 8) (hdg : decode cc pc = .ok (.invokevirtual index, 3)) (hf : cells ≤ R.cells ∧ slots ≤ R.slots)
    (kk : ∀ (H1 : Heap) (locs1 : List Loc), xP B0 G h1 H1 → va_S (xA B0) H0 H1 locs1 → W p l e R s m args below meth c H1 locs1 cells slots Q (F0 m (pc + 3) ls (.int r :: rest))) : W p l e R s m args below meth c H locs cells slots Q (F0 m pc ls st0) := by
  refine va_calli (va_runV S hM cw ⟨xU_blind, xrecv hK hP hr hc, fun U hU hW => ⟨rfl, by rw [hU]; exact hP, hK.moved hW.alike⟩⟩ rfl hn hsize hst (lv_room hroom) hdg hf) hS (fun q _ h => h) (fun q h => h) (fun r' u t H1 locs1 ht hvm hp hB hz hk hS1 => ?_)
  subst hp
  subst ht
  exact kk _ _ hB.1 hS1
theorem xc_Vl (S : CallFix p m c cc nL s args Ts own) {r : Int64} (hM : Met l y ws rm (va_Pc (.ref b :: As) (xU B0 G h)) (xQl B0 G h1 r) 0 0 (xA B0)) (cw : CallW R s args own C index y bytes maxL ret ws rm 0 0 n) (hK : xK G s) (hP : xP B0 G h H) (hS : va_S (xA B0) H0 H locs) {ci N : Nat} {T : u_T} {u : Unit} (hr : xis h b ci = some u) (hc : vwCl[ci]? = some (C, T, N)) (hn : As.length = n) (hsize : ls.size = nL) (hst : st0 = As.reverse ++ .ref b :: rest) (hroom : (rest.map fun v => v.category).sum ≤ 8) (hdg : decode cc pc = .ok (.invokevirtual index, 3)) (hf : cells ≤ R.cells ∧ slots ≤ R.slots)
    (kk : ∀ (H1 : Heap) (locs1 : List Loc), xP B0 G h1 H1 → va_S (xA B0) H0 H1 locs1 → W p l e R s m args below meth c H1 locs1 cells slots Q (F0 m (pc + 3) ls (.long r :: rest))) : W p l e R s m args below meth c H locs cells slots Q (F0 m pc ls st0) := by
  refine va_calll (va_runV S hM cw ⟨xU_blind, xrecv hK hP hr hc, fun U hU hW => ⟨rfl, by rw [hU]; exact hP, hK.moved hW.alike⟩⟩ rfl hn hsize hst (lv_room hroom) hdg hf) hS (fun q _ h => h) (fun q h => h) (fun r' u t H1 locs1 ht hvm hp hB hz hk hS1 => ?_)
  subst hp
  subst ht
  exact kk _ _ hB.1 hS1
theorem xc_Vd (S : CallFix p m c cc nL s args Ts own) {r : UInt64} (hM : Met l y ws rm (va_Pc (.ref b :: As) (xU B0 G h)) (xQd B0 G h1 r) 0 0 (xA B0)) (cw : CallW R s args own C index y bytes maxL ret ws rm 0 0 n) (hK : xK G s) (hP : xP B0 G h H) (hS : va_S (xA B0) H0 H locs) {ci N : Nat} {T : u_T} {u : Unit} (hr : xis h b ci = some u) (hc : vwCl[ci]? = some (C, T, N)) (hn : As.length = n) (hsize : ls.size = nL) (hst : st0 = As.reverse ++ .ref b :: rest) (hroom : (rest.map fun v => v.category).sum ≤ 8) (hdg : decode cc pc = .ok (.invokevirtual index, 3)) (hf : cells ≤ R.cells ∧ slots ≤ R.slots)
    (kk : ∀ (H1 : Heap) (locs1 : List Loc), xP B0 G h1 H1 → va_S (xA B0) H0 H1 locs1 → W p l e R s m args below meth c H1 locs1 cells slots Q (F0 m (pc + 3) ls (.double r :: rest))) : W p l e R s m args below meth c H locs cells slots Q (F0 m pc ls st0) := by
  refine va_calld (va_runV S hM cw ⟨xU_blind, xrecv hK hP hr hc, fun U hU hW => ⟨rfl, by rw [hU]; exact hP, hK.moved hW.alike⟩⟩ rfl hn hsize hst (lv_room hroom) hdg hf) hS (fun q _ h => h) (fun q h => h) (fun r' u t H1 locs1 ht hvm hp hB hz hk hS1 => ?_)
  subst hp
  subst ht
  exact kk _ _ hB.1 hS1
theorem xc_Vv (S : CallFix p m c cc nL s args Ts own) (hM : Met l y ws rm (va_Pc (.ref b :: As) (xU B0 G h)) (xQv B0 G h1) 0 0 (xA B0)) (cw : CallW R s args own C index y bytes maxL ret ws rm 0 0 n) (hK : xK G s) (hP : xP B0 G h H) (hS : va_S (xA B0) H0 H locs) {ci N : Nat} {T : u_T} {u : Unit} (hr : xis h b ci = some u) (hc : vwCl[ci]? = some (C, T, N)) (hn : As.length = n) (hsize : ls.size = nL) (hst : st0 = As.reverse ++ .ref b :: rest) (hroom : (rest.map fun v => v.category).sum ≤ 8) (hdg : decode cc pc = .ok (.invokevirtual index, 3)) (hf : cells ≤ R.cells ∧ slots ≤ R.slots)
    (kk : ∀ (H1 : Heap) (locs1 : List Loc), xP B0 G h1 H1 → va_S (xA B0) H0 H1 locs1 → W p l e R s m args below meth c H1 locs1 cells slots Q (F0 m (pc + 3) ls rest)) : W p l e R s m args below meth c H locs cells slots Q (F0 m pc ls st0) := by
  refine va_callv (va_runV S hM cw ⟨xU_blind, xrecv hK hP hr hc, fun U hU hW => ⟨rfl, by rw [hU]; exact hP, hK.moved hW.alike⟩⟩ rfl hn hsize hst (lv_room hroom) hdg hf) hS (fun q _ h => h) (fun q h => h) (fun u t H1 locs1 ht hvm hp hB hz hk hS1 => ?_)
  subst ht
  exact kk _ _ hB.1 hS1
theorem xc_Si (S : CallFix p m c cc nL s args Ts own) {r : Int32} (hM : Met l y ws rm (va_Pc As (xU B0 G h)) (xQi B0 G h1 r) 0 0 (xA B0)) (cw : CallB R s args own index y bytes maxL ret ws rm 0 0 n ∧ (Cond.static y).before args s = true) (hK : xK G s) (hP : xP B0 G h H) (hS : va_S (xA B0) H0 H locs) (hn : As.length = n) (hsize : ls.size = nL) (hst : st0 = As.reverse ++ rest) (hroom : (rest.map fun v => v.category).sum ≤ 8) (hdg : decode cc pc = .ok (.invokestatic index, 3)) (hf : cells ≤ R.cells ∧ slots ≤ R.slots)
    (kk : ∀ (H1 : Heap) (locs1 : List Loc), xP B0 G h1 H1 → va_S (xA B0) H0 H1 locs1 → W p l e R s m args below meth c H1 locs1 cells slots Q (F0 m (pc + 3) ls (.int r :: rest))) : W p l e R s m args below meth c H locs cells slots Q (F0 m pc ls st0) := by
  refine va_calli (va_runS S hM cw ⟨xU_blind, fun U hU hW => ⟨rfl, by rw [hU]; exact hP, hK.moved hW.alike⟩⟩ rfl hn hsize hst (lv_room hroom) hdg hf) hS (fun q _ h => h) (fun q h => h) (fun r' u t H1 locs1 ht hvm hp hB hz hk hS1 => ?_)
  subst hp
  subst ht
  exact kk _ _ hB.1 hS1
theorem xc_Sl (S : CallFix p m c cc nL s args Ts own) {r : Int64} (hM : Met l y ws rm (va_Pc As (xU B0 G h)) (xQl B0 G h1 r) 0 0 (xA B0)) (cw : CallB R s args own index y bytes maxL ret ws rm 0 0 n ∧ (Cond.static y).before args s = true) (hK : xK G s) (hP : xP B0 G h H) (hS : va_S (xA B0) H0 H locs) (hn : As.length = n) (hsize : ls.size = nL) (hst : st0 = As.reverse ++ rest) (hroom : (rest.map fun v => v.category).sum ≤ 8) (hdg : decode cc pc = .ok (.invokestatic index, 3)) (hf : cells ≤ R.cells ∧ slots ≤ R.slots)
    (kk : ∀ (H1 : Heap) (locs1 : List Loc), xP B0 G h1 H1 → va_S (xA B0) H0 H1 locs1 → W p l e R s m args below meth c H1 locs1 cells slots Q (F0 m (pc + 3) ls (.long r :: rest))) : W p l e R s m args below meth c H locs cells slots Q (F0 m pc ls st0) := by
  refine va_calll (va_runS S hM cw ⟨xU_blind, fun U hU hW => ⟨rfl, by rw [hU]; exact hP, hK.moved hW.alike⟩⟩ rfl hn hsize hst (lv_room hroom) hdg hf) hS (fun q _ h => h) (fun q h => h) (fun r' u t H1 locs1 ht hvm hp hB hz hk hS1 => ?_)
  subst hp
  subst ht
  exact kk _ _ hB.1 hS1
theorem xc_Sv (S : CallFix p m c cc nL s args Ts own) (hM : Met l y ws rm (va_Pc As (xU B0 G h)) (xQv B0 G h1) 0 0 (xA B0)) (cw : CallB R s args own index y bytes maxL ret ws rm 0 0 n ∧ (Cond.static y).before args s = true) (hK : xK G s) (hP : xP B0 G h H) (hS : va_S (xA B0) H0 H locs) (hn : As.length = n) (hsize : ls.size = nL) (hst : st0 = As.reverse ++ rest) (hroom : (rest.map fun v => v.category).sum ≤ 8) (hdg : decode cc pc = .ok (.invokestatic index, 3)) (hf : cells ≤ R.cells ∧ slots ≤ R.slots)
    (kk : ∀ (H1 : Heap) (locs1 : List Loc), xP B0 G h1 H1 → va_S (xA B0) H0 H1 locs1 → W p l e R s m args below meth c H1 locs1 cells slots Q (F0 m (pc + 3) ls rest)) : W p l e R s m args below meth c H locs cells slots Q (F0 m pc ls st0) := by
  refine va_callv (va_runS S hM cw ⟨xU_blind, fun U hU hW => ⟨rfl, by rw [hU]; exact hP, hK.moved hW.alike⟩⟩ rfl hn hsize hst (lv_room hroom) hdg hf) hS (fun q _ h => h) (fun q h => h) (fun u t H1 locs1 ht hvm hp hB hz hk hS1 => ?_)
  subst ht
  exact kk _ _ hB.1 hS1
/-! ends -/
theorem xe_i (hexec : p.tables.exec = Jvm.exec) (hb : c.code = cc) (hr : meth.sig.returnType = some .int) (hlocks : meth.locks = false) (hK : xK G s) (hP : xP B0 G h1 H) (hS : va_S (xA B0) s.heap H locs) {v : Int32} (hdg : decode cc pc = .ok (.ireturn, 1)) :
    W p l e R s m args below meth c H locs cells slots (MQ below (xQi B0 G h1 v) args s cells slots (xA B0)) (F0 m pc ls [.int v]) :=
  W.iret hexec hb hr (fun t ht hW => ⟨⟨v, (), rfl, rfl, by rw [ht]; exact hP, hK.moved hW.alike⟩, hS.F ht⟩) hS.2.2 hdg
def xbool (v : Int32) : Option Int32 := if v = 0 ∨ v = 1 then some v else none
theorem xe_z (hexec : p.tables.exec = Jvm.exec) (hb : c.code = cc) (hr : meth.sig.returnType = some .boolean) (hlocks : meth.locks = false) (hK : xK G s) (hP : xP B0 G h1 H) (hS : va_S (xA B0) s.heap H locs) {v r : Int32} (hv : xbool v = some r) (hdg : decode cc pc = .ok (.ireturn, 1)) :
    W p l e R s m args below meth c H locs cells slots (MQ below (xQi B0 G h1 r) args s cells slots (xA B0)) (F0 m pc ls [.int v]) := by
  unfold xbool at hv
  split at hv
  · next hq =>
    cases hv
    exact W.zret hexec hb hr (by rcases hq with rfl | rfl <;> decide) (fun t ht hW => ⟨⟨v, (), rfl, rfl, by rw [ht]; exact hP, hK.moved hW.alike⟩, hS.F ht⟩) hS.2.2 hdg
  · cases hv
theorem xe_l (hexec : p.tables.exec = Jvm.exec) (hb : c.code = cc) (hr : meth.sig.returnType = some .long) (hlocks : meth.locks = false) (hK : xK G s) (hP : xP B0 G h1 H) (hS : va_S (xA B0) s.heap H locs) {v : Int64} (hdg : decode cc pc = .ok (.lreturn, 1)) :
    W p l e R s m args below meth c H locs cells slots (MQ below (xQl B0 G h1 v) args s cells slots (xA B0)) (F0 m pc ls [.long v]) :=
  W.lret hexec hb hr (fun t ht hW => ⟨⟨v, (), rfl, rfl, by rw [ht]; exact hP, hK.moved hW.alike⟩, hS.F ht⟩) hS.2.2 hdg
theorem xe_d (hexec : p.tables.exec = Jvm.exec) (hb : c.code = cc) (hr : meth.sig.returnType = some .double) (hlocks : meth.locks = false) (hK : xK G s) (hP : xP B0 G h1 H) (hS : va_S (xA B0) s.heap H locs) {v : UInt64} (hdg : decode cc pc = .ok (.dreturn, 1)) :
    W p l e R s m args below meth c H locs cells slots (MQ below (xQd B0 G h1 v) args s cells slots (xA B0)) (F0 m pc ls [.double v]) :=
  W.dret hexec hb hr (fun t ht hW => ⟨⟨v, (), rfl, rfl, by rw [ht]; exact hP, hK.moved hW.alike⟩, hS.F ht⟩) hS.2.2 hdg
theorem xe_v (hexec : p.tables.exec = Jvm.exec) (hb : c.code = cc) (hr : meth.sig.returnType = none) (hlocks : meth.locks = false) (hK : xK G s) (hP : xP B0 G h1 H) (hS : va_S (xA B0) s.heap H locs) (hdg : decode cc pc = .ok (.return_, 1)) :
    W p l e R s m args below meth c H locs cells slots (MQ below (xQv B0 G h1) args s cells slots (xA B0)) (F0 m pc ls []) :=
  W.vret hexec hb hr (fun t ht hW => ⟨⟨(), rfl, trivial, by rw [ht]; exact hP, hK.moved hW.alike⟩, hS.F ht⟩) hS.2.2 hdg
/-- a contract out of a body's walk -/
theorem xMet {l : Launch} {ws' : List Cond} {av : List Value} {Qc : Array Value → State → Outcome → State → Prop} {mc ms : Nat} {cc : ByteArray} {maxL : Nat} (hy : plainName y.cls = true) (hw : ws = Cond.code y cc maxL ret :: ws') (hal : (lg_sl av).length ≤ maxL)
    (body : ∀ (p : Program) (e : Env) (s : State) (m : MethodId) (args : Array Value) (below : List Frame) (meth : Method) (c : Code) (ls : Array Slot), p.tables.exec = Jvm.exec → c.code = cc → meth.sig.returnType = ret → c.maxLocals = maxL → s.vm.findClass y.cls = some m.cls → meth.locks = false → meth.name = y.name → (∀ w ∈ ws, w.before args s = true) → xK G s → xP B0 G h s.heap → lv_has ls maxL (lv_args 0 av) →
      W p l e rm s m args below meth c s.heap [] 0 0 (MQ below Qc args s mc ms (xA B0)) (F0 m 0 ls [])) : Met l y ws rm (va_Pc av (xU B0 G h)) Qc mc ms (xA B0) := by
  refine Met.ofW (cc := cc) (maxL := maxL) (ret := ret) hy hw ?_
  intro p e s m args below meth c s₁ B hml hv
  obtain ⟨rfl, hP, hK⟩ := hv
  rw [lg_entry_eq]
  exact body p e s m _ below meth c _ B.exec B.bytes B.returns hml (findClass_of_methodNamed B.named) B.notSynchronized (name_of_methodNamed B.named B.method).1 (atoms_spec (ws := ws) B.pre) hK hP (lv_entry av hal)
end XC
end
section
/-! Steps of a function over the heap, with several answers at once. -/
def obind0 {ω : Type} (o : Option (Unit)) (f : Unit → Option ω) : Option ω := o.bind fun x => f ()
theorem xb0 {ω : Type} {o : Option Unit} {f : Unit → Option ω} {r : ω} (h : obind0 o f = some r) : ∃ a, o = some a ∧ f () = some r := Option.bind_eq_some_iff.mp h
theorem obind0_some {ω : Type} {f : Unit → Option ω} {u : Unit} : obind0 (some u) f = f () := rfl
theorem obind0_none {ω : Type} {f : Unit → Option ω} : obind0 none f = none := rfl
def obind1 {α ω : Type} (o : Option (α)) (f : α → Option ω) : Option ω := o.bind fun x => f x
theorem xb1 {α ω : Type} {o : Option (α)} {f : α → Option ω} {r : ω} (h : obind1 o f = some r) : ∃ a, o = some a ∧ f a = some r := by
  exact Option.bind_eq_some_iff.mp h
theorem obind1_some {α ω : Type} {f : α → Option ω} {a : α} : obind1 (some a) f = f a := rfl
theorem obind1_none {α ω : Type} {f : α → Option ω} : obind1 none f = none := rfl
def obind2 {α β ω : Type} (o : Option (α × β)) (f : α → β → Option ω) : Option ω := o.bind fun x => f x.1 x.2
theorem xb2 {α β ω : Type} {o : Option (α × β)} {f : α → β → Option ω} {r : ω} (h : obind2 o f = some r) : ∃ a b, o = some (a, b) ∧ f a b = some r := by
  obtain ⟨x, h1, h2⟩ := Option.bind_eq_some_iff.mp h
  exact ⟨x.1, x.2, h1, h2⟩
theorem obind2_some {α β ω : Type} {f : α → β → Option ω} {a : α} {b : β} : obind2 (some (a, b)) f = f a b := rfl
theorem obind2_none {α β ω : Type} {f : α → β → Option ω} : obind2 none f = none := rfl
def obind3 {α β γ ω : Type} (o : Option (α × β × γ)) (f : α → β → γ → Option ω) : Option ω := o.bind fun x => f x.1 x.2.1 x.2.2
theorem xb3 {α β γ ω : Type} {o : Option (α × β × γ)} {f : α → β → γ → Option ω} {r : ω} (h : obind3 o f = some r) : ∃ a b c, o = some (a, b, c) ∧ f a b c = some r := by
  obtain ⟨x, h1, h2⟩ := Option.bind_eq_some_iff.mp h
  exact ⟨x.1, x.2.1, x.2.2, h1, h2⟩
theorem obind3_some {α β γ ω : Type} {f : α → β → γ → Option ω} {a : α} {b : β} {c : γ} : obind3 (some (a, b, c)) f = f a b c := rfl
theorem obind3_none {α β γ ω : Type} {f : α → β → γ → Option ω} : obind3 none f = none := rfl
def obind4 {α β γ δ ω : Type} (o : Option (α × β × γ × δ)) (f : α → β → γ → δ → Option ω) : Option ω := o.bind fun x => f x.1 x.2.1 x.2.2.1 x.2.2.2
theorem xb4 {α β γ δ ω : Type} {o : Option (α × β × γ × δ)} {f : α → β → γ → δ → Option ω} {r : ω} (h : obind4 o f = some r) : ∃ a b c d, o = some (a, b, c, d) ∧ f a b c d = some r := by
  obtain ⟨x, h1, h2⟩ := Option.bind_eq_some_iff.mp h
  exact ⟨x.1, x.2.1, x.2.2.1, x.2.2.2, h1, h2⟩
theorem obind4_some {α β γ δ ω : Type} {f : α → β → γ → δ → Option ω} {a : α} {b : β} {c : γ} {d : δ} : obind4 (some (a, b, c, d)) f = f a b c d := rfl
theorem obind4_none {α β γ δ ω : Type} {f : α → β → γ → δ → Option ω} : obind4 none f = none := rfl
def obind5 {α β γ δ ε ω : Type} (o : Option (α × β × γ × δ × ε)) (f : α → β → γ → δ → ε → Option ω) : Option ω := o.bind fun x => f x.1 x.2.1 x.2.2.1 x.2.2.2.1 x.2.2.2.2
theorem xb5 {α β γ δ ε ω : Type} {o : Option (α × β × γ × δ × ε)} {f : α → β → γ → δ → ε → Option ω} {r : ω} (h : obind5 o f = some r) : ∃ a b c d e, o = some (a, b, c, d, e) ∧ f a b c d e = some r := by
  obtain ⟨x, h1, h2⟩ := Option.bind_eq_some_iff.mp h
  exact ⟨x.1, x.2.1, x.2.2.1, x.2.2.2.1, x.2.2.2.2, h1, h2⟩
theorem obind5_some {α β γ δ ε ω : Type} {f : α → β → γ → δ → ε → Option ω} {a : α} {b : β} {c : γ} {d : δ} {e : ε} : obind5 (some (a, b, c, d, e)) f = f a b c d e := rfl
theorem obind5_none {α β γ δ ε ω : Type} {f : α → β → γ → δ → ε → Option ω} : obind5 none f = none := rfl
def obind6 {α β γ δ ε ζ ω : Type} (o : Option (α × β × γ × δ × ε × ζ)) (f : α → β → γ → δ → ε → ζ → Option ω) : Option ω := o.bind fun x => f x.1 x.2.1 x.2.2.1 x.2.2.2.1 x.2.2.2.2.1 x.2.2.2.2.2
theorem xb6 {α β γ δ ε ζ ω : Type} {o : Option (α × β × γ × δ × ε × ζ)} {f : α → β → γ → δ → ε → ζ → Option ω} {r : ω} (h : obind6 o f = some r) : ∃ a b c d e f1, o = some (a, b, c, d, e, f1) ∧ f a b c d e f1 = some r := by
  obtain ⟨x, h1, h2⟩ := Option.bind_eq_some_iff.mp h
  exact ⟨x.1, x.2.1, x.2.2.1, x.2.2.2.1, x.2.2.2.2.1, x.2.2.2.2.2, h1, h2⟩
theorem obind6_some {α β γ δ ε ζ ω : Type} {f : α → β → γ → δ → ε → ζ → Option ω} {a : α} {b : β} {c : γ} {d : δ} {e : ε} {f1 : ζ} : obind6 (some (a, b, c, d, e, f1)) f = f a b c d e f1 := rfl
theorem obind6_none {α β γ δ ε ζ ω : Type} {f : α → β → γ → δ → ε → ζ → Option ω} : obind6 none f = none := rfl
def obind7 {α β γ δ ε ζ η ω : Type} (o : Option (α × β × γ × δ × ε × ζ × η)) (f : α → β → γ → δ → ε → ζ → η → Option ω) : Option ω := o.bind fun x => f x.1 x.2.1 x.2.2.1 x.2.2.2.1 x.2.2.2.2.1 x.2.2.2.2.2.1 x.2.2.2.2.2.2
theorem xb7 {α β γ δ ε ζ η ω : Type} {o : Option (α × β × γ × δ × ε × ζ × η)} {f : α → β → γ → δ → ε → ζ → η → Option ω} {r : ω} (h : obind7 o f = some r) : ∃ a b c d e f1 g1, o = some (a, b, c, d, e, f1, g1) ∧ f a b c d e f1 g1 = some r := by
  obtain ⟨x, h1, h2⟩ := Option.bind_eq_some_iff.mp h
  exact ⟨x.1, x.2.1, x.2.2.1, x.2.2.2.1, x.2.2.2.2.1, x.2.2.2.2.2.1, x.2.2.2.2.2.2, h1, h2⟩
theorem obind7_some {α β γ δ ε ζ η ω : Type} {f : α → β → γ → δ → ε → ζ → η → Option ω} {a : α} {b : β} {c : γ} {d : δ} {e : ε} {f1 : ζ} {g1 : η} : obind7 (some (a, b, c, d, e, f1, g1)) f = f a b c d e f1 g1 := rfl
theorem obind7_none {α β γ δ ε ζ η ω : Type} {f : α → β → γ → δ → ε → ζ → η → Option ω} : obind7 none f = none := rfl
theorem xpair2 {α β : Type} {a a' : α} {b b' : β} (h : (a, b) = (a', b')) : a = a' ∧ b = b' := by cases h; exact ⟨rfl, rfl⟩
theorem xinj2 {α β : Type} {a a' : α} {b b' : β} (h : some (a, b) = some (a', b')) : a = a' ∧ b = b' := by cases h; exact ⟨rfl, rfl⟩
theorem xpair3 {α β γ : Type} {a a' : α} {b b' : β} {c c' : γ} (h : (a, b, c) = (a', b', c')) : a = a' ∧ b = b' ∧ c = c' := by cases h; exact ⟨rfl, rfl, rfl⟩
theorem xinj3 {α β γ : Type} {a a' : α} {b b' : β} {c c' : γ} (h : some (a, b, c) = some (a', b', c')) : a = a' ∧ b = b' ∧ c = c' := by cases h; exact ⟨rfl, rfl, rfl⟩
theorem xpair4 {α β γ δ : Type} {a a' : α} {b b' : β} {c c' : γ} {d d' : δ} (h : (a, b, c, d) = (a', b', c', d')) : a = a' ∧ b = b' ∧ c = c' ∧ d = d' := by cases h; exact ⟨rfl, rfl, rfl, rfl⟩
theorem xinj4 {α β γ δ : Type} {a a' : α} {b b' : β} {c c' : γ} {d d' : δ} (h : some (a, b, c, d) = some (a', b', c', d')) : a = a' ∧ b = b' ∧ c = c' ∧ d = d' := by cases h; exact ⟨rfl, rfl, rfl, rfl⟩
theorem xpair5 {α β γ δ ε : Type} {a a' : α} {b b' : β} {c c' : γ} {d d' : δ} {e e' : ε} (h : (a, b, c, d, e) = (a', b', c', d', e')) : a = a' ∧ b = b' ∧ c = c' ∧ d = d' ∧ e = e' := by cases h; exact ⟨rfl, rfl, rfl, rfl, rfl⟩
theorem xinj5 {α β γ δ ε : Type} {a a' : α} {b b' : β} {c c' : γ} {d d' : δ} {e e' : ε} (h : some (a, b, c, d, e) = some (a', b', c', d', e')) : a = a' ∧ b = b' ∧ c = c' ∧ d = d' ∧ e = e' := by cases h; exact ⟨rfl, rfl, rfl, rfl, rfl⟩
theorem xpair6 {α β γ δ ε ζ : Type} {a a' : α} {b b' : β} {c c' : γ} {d d' : δ} {e e' : ε} {f1 f1' : ζ} (h : (a, b, c, d, e, f1) = (a', b', c', d', e', f1')) : a = a' ∧ b = b' ∧ c = c' ∧ d = d' ∧ e = e' ∧ f1 = f1' := by cases h; exact ⟨rfl, rfl, rfl, rfl, rfl, rfl⟩
theorem xinj6 {α β γ δ ε ζ : Type} {a a' : α} {b b' : β} {c c' : γ} {d d' : δ} {e e' : ε} {f1 f1' : ζ} (h : some (a, b, c, d, e, f1) = some (a', b', c', d', e', f1')) : a = a' ∧ b = b' ∧ c = c' ∧ d = d' ∧ e = e' ∧ f1 = f1' := by cases h; exact ⟨rfl, rfl, rfl, rfl, rfl, rfl⟩
theorem xpair7 {α β γ δ ε ζ η : Type} {a a' : α} {b b' : β} {c c' : γ} {d d' : δ} {e e' : ε} {f1 f1' : ζ} {g1 g1' : η} (h : (a, b, c, d, e, f1, g1) = (a', b', c', d', e', f1', g1')) : a = a' ∧ b = b' ∧ c = c' ∧ d = d' ∧ e = e' ∧ f1 = f1' ∧ g1 = g1' := by cases h; exact ⟨rfl, rfl, rfl, rfl, rfl, rfl, rfl⟩
theorem xinj7 {α β γ δ ε ζ η : Type} {a a' : α} {b b' : β} {c c' : γ} {d d' : δ} {e e' : ε} {f1 f1' : ζ} {g1 g1' : η} (h : some (a, b, c, d, e, f1, g1) = some (a', b', c', d', e', f1', g1')) : a = a' ∧ b = b' ∧ c = c' ∧ d = d' ∧ e = e' ∧ f1 = f1' ∧ g1 = g1' := by cases h; exact ⟨rfl, rfl, rfl, rfl, rfl, rfl, rfl⟩
def xf0 {ω : Type} (f : Unit → ω) (z : Unit) : ω := f ()
theorem xf0_e {ω : Type} {f : Unit → ω} {u : Unit} {r : ω} (h : xf0 f u = r) : f () = r := h
def xf1 {α ω : Type} (f : α → ω) (z : α) : ω := f z
theorem xf1_e {α ω : Type} {f : α → ω} {a : α} {r : ω} (h : xf1 f a = r) : f a = r := h
def xf2 {α β ω : Type} (f : α → β → ω) (z : α × β) : ω := f z.1 z.2
theorem xf2_e {α β ω : Type} {f : α → β → ω} {a : α} {b : β} {r : ω} (h : xf2 f (a, b) = r) : f a b = r := h
def xf3 {α β γ ω : Type} (f : α → β → γ → ω) (z : α × β × γ) : ω := f z.1 z.2.1 z.2.2
theorem xf3_e {α β γ ω : Type} {f : α → β → γ → ω} {a : α} {b : β} {c : γ} {r : ω} (h : xf3 f (a, b, c) = r) : f a b c = r := h
def xf4 {α β γ δ ω : Type} (f : α → β → γ → δ → ω) (z : α × β × γ × δ) : ω := f z.1 z.2.1 z.2.2.1 z.2.2.2
theorem xf4_e {α β γ δ ω : Type} {f : α → β → γ → δ → ω} {a : α} {b : β} {c : γ} {d : δ} {r : ω} (h : xf4 f (a, b, c, d) = r) : f a b c d = r := h
def xf5 {α β γ δ ε ω : Type} (f : α → β → γ → δ → ε → ω) (z : α × β × γ × δ × ε) : ω := f z.1 z.2.1 z.2.2.1 z.2.2.2.1 z.2.2.2.2
theorem xf5_e {α β γ δ ε ω : Type} {f : α → β → γ → δ → ε → ω} {a : α} {b : β} {c : γ} {d : δ} {e : ε} {r : ω} (h : xf5 f (a, b, c, d, e) = r) : f a b c d e = r := h
def xf6 {α β γ δ ε ζ ω : Type} (f : α → β → γ → δ → ε → ζ → ω) (z : α × β × γ × δ × ε × ζ) : ω := f z.1 z.2.1 z.2.2.1 z.2.2.2.1 z.2.2.2.2.1 z.2.2.2.2.2
theorem xf6_e {α β γ δ ε ζ ω : Type} {f : α → β → γ → δ → ε → ζ → ω} {a : α} {b : β} {c : γ} {d : δ} {e : ε} {f1 : ζ} {r : ω} (h : xf6 f (a, b, c, d, e, f1) = r) : f a b c d e f1 = r := h
def xf7 {α β γ δ ε ζ η ω : Type} (f : α → β → γ → δ → ε → ζ → η → ω) (z : α × β × γ × δ × ε × ζ × η) : ω := f z.1 z.2.1 z.2.2.1 z.2.2.2.1 z.2.2.2.2.1 z.2.2.2.2.2.1 z.2.2.2.2.2.2
theorem xf7_e {α β γ δ ε ζ η ω : Type} {f : α → β → γ → δ → ε → ζ → η → ω} {a : α} {b : β} {c : γ} {d : δ} {e : ε} {f1 : ζ} {g1 : η} {r : ω} (h : xf7 f (a, b, c, d, e, f1, g1) = r) : f a b c d e f1 g1 = r := h
def oret0 {ω : Type} (o : Option ((Unit) ⊕ ω)) (f : Unit → Option ω) : Option ω := match o with
  | none => none
  | some (.inl x) => f ()
  | some (.inr r) => some r
theorem xr0 {ω : Type} {o : Option ((Unit) ⊕ ω)} {f : Unit → Option ω} {r : ω} (h : oret0 o f = some r) : ∃ out, o = some out ∧ (out = .inl () → f () = some r) ∧ (∀ r1, out = .inr r1 → r1 = r) := by
  unfold oret0 at h
  split at h
  · cases h
  · exact ⟨_, rfl, (by intros; simp_all), (by intro r1 h1; cases h1)⟩
  · cases h; exact ⟨_, rfl, (by intros; simp_all), (by intro r1 h1; cases h1; rfl)⟩
def oret1 {α ω : Type} (o : Option ((α) ⊕ ω)) (f : α → Option ω) : Option ω := match o with
  | none => none
  | some (.inl x) => f x
  | some (.inr r) => some r
theorem xr1 {α ω : Type} {o : Option ((α) ⊕ ω)} {f : α → Option ω} {r : ω} (h : oret1 o f = some r) : ∃ out, o = some out ∧ (∀ a, out = .inl a → f a = some r) ∧ (∀ r1, out = .inr r1 → r1 = r) := by
  unfold oret1 at h
  split at h
  · cases h
  · exact ⟨_, rfl, (by intros; simp_all), (by intro r1 h1; cases h1)⟩
  · cases h; exact ⟨_, rfl, (by intros; simp_all), (by intro r1 h1; cases h1; rfl)⟩
def oret2 {α β ω : Type} (o : Option ((α × β) ⊕ ω)) (f : α → β → Option ω) : Option ω := match o with
  | none => none
  | some (.inl x) => f x.1 x.2
  | some (.inr r) => some r
theorem xr2 {α β ω : Type} {o : Option ((α × β) ⊕ ω)} {f : α → β → Option ω} {r : ω} (h : oret2 o f = some r) : ∃ out, o = some out ∧ (∀ a b, out = .inl (a, b) → f a b = some r) ∧ (∀ r1, out = .inr r1 → r1 = r) := by
  unfold oret2 at h
  split at h
  · cases h
  · exact ⟨_, rfl, (by intros; simp_all), (by intro r1 h1; cases h1)⟩
  · cases h; exact ⟨_, rfl, (by intros; simp_all), (by intro r1 h1; cases h1; rfl)⟩
def oret3 {α β γ ω : Type} (o : Option ((α × β × γ) ⊕ ω)) (f : α → β → γ → Option ω) : Option ω := match o with
  | none => none
  | some (.inl x) => f x.1 x.2.1 x.2.2
  | some (.inr r) => some r
theorem xr3 {α β γ ω : Type} {o : Option ((α × β × γ) ⊕ ω)} {f : α → β → γ → Option ω} {r : ω} (h : oret3 o f = some r) : ∃ out, o = some out ∧ (∀ a b c, out = .inl (a, b, c) → f a b c = some r) ∧ (∀ r1, out = .inr r1 → r1 = r) := by
  unfold oret3 at h
  split at h
  · cases h
  · exact ⟨_, rfl, (by intros; simp_all), (by intro r1 h1; cases h1)⟩
  · cases h; exact ⟨_, rfl, (by intros; simp_all), (by intro r1 h1; cases h1; rfl)⟩
def oret4 {α β γ δ ω : Type} (o : Option ((α × β × γ × δ) ⊕ ω)) (f : α → β → γ → δ → Option ω) : Option ω := match o with
  | none => none
  | some (.inl x) => f x.1 x.2.1 x.2.2.1 x.2.2.2
  | some (.inr r) => some r
theorem xr4 {α β γ δ ω : Type} {o : Option ((α × β × γ × δ) ⊕ ω)} {f : α → β → γ → δ → Option ω} {r : ω} (h : oret4 o f = some r) : ∃ out, o = some out ∧ (∀ a b c d, out = .inl (a, b, c, d) → f a b c d = some r) ∧ (∀ r1, out = .inr r1 → r1 = r) := by
  unfold oret4 at h
  split at h
  · cases h
  · exact ⟨_, rfl, (by intros; simp_all), (by intro r1 h1; cases h1)⟩
  · cases h; exact ⟨_, rfl, (by intros; simp_all), (by intro r1 h1; cases h1; rfl)⟩
def oret5 {α β γ δ ε ω : Type} (o : Option ((α × β × γ × δ × ε) ⊕ ω)) (f : α → β → γ → δ → ε → Option ω) : Option ω := match o with
  | none => none
  | some (.inl x) => f x.1 x.2.1 x.2.2.1 x.2.2.2.1 x.2.2.2.2
  | some (.inr r) => some r
theorem xr5 {α β γ δ ε ω : Type} {o : Option ((α × β × γ × δ × ε) ⊕ ω)} {f : α → β → γ → δ → ε → Option ω} {r : ω} (h : oret5 o f = some r) : ∃ out, o = some out ∧ (∀ a b c d e, out = .inl (a, b, c, d, e) → f a b c d e = some r) ∧ (∀ r1, out = .inr r1 → r1 = r) := by
  unfold oret5 at h
  split at h
  · cases h
  · exact ⟨_, rfl, (by intros; simp_all), (by intro r1 h1; cases h1)⟩
  · cases h; exact ⟨_, rfl, (by intros; simp_all), (by intro r1 h1; cases h1; rfl)⟩
theorem xk0 {ω : Type} {k F : Option ω} {r : ω} (e0 : k = F) (h : k = some r) : F = some r := e0 ▸ h
theorem xk1 {α ω : Type} {k F : α → Option ω} {r : ω} {a : α} (e0 : k = F) (h : k a = some r) : F a = some r := e0 ▸ h
theorem xk2 {α β ω : Type} {k F : α → β → Option ω} {r : ω} {a : α} {b : β} (e0 : k = F) (h : k a b = some r) : F a b = some r := e0 ▸ h
theorem xk3 {α β γ ω : Type} {k F : α → β → γ → Option ω} {r : ω} {a : α} {b : β} {c : γ} (e0 : k = F) (h : k a b c = some r) : F a b c = some r := e0 ▸ h
theorem xk4 {α β γ δ ω : Type} {k F : α → β → γ → δ → Option ω} {r : ω} {a : α} {b : β} {c : γ} {d : δ} (e0 : k = F) (h : k a b c d = some r) : F a b c d = some r := e0 ▸ h
/-! what may throw: an answer, or the number of an exception -/
def olift {α : Type} (o : Option α) : Option (α ⊕ Nat) := match o with
  | none => none
  | some v => some (.inl v)
theorem olift_l {α : Type} {o : Option α} {r : α} (h : olift o = some (.inl r)) : o = some r := by
  unfold olift at h
  split at h
  · cases h
  · cases h; rfl
theorem olift_r {α : Type} {o : Option α} {n : Nat} (h : olift o = some (.inr n)) : False := by
  unfold olift at h
  split at h
  · cases h
  · cases h
def oexc {α β : Type} (o : Option (α ⊕ Nat)) (f : α → Option (β ⊕ Nat)) : Option (β ⊕ Nat) := match o with
  | none => none
  | some (.inl v) => f v
  | some (.inr n) => some (.inr n)
theorem oexc_l {α β : Type} {o : Option (α ⊕ Nat)} {f : α → Option (β ⊕ Nat)} {r : β} (h : oexc o f = some (.inl r)) : ∃ v, o = some (.inl v) ∧ f v = some (.inl r) := by
  unfold oexc at h
  split at h
  · cases h
  · exact ⟨_, rfl, h⟩
  · cases h
theorem oexc_r {α β : Type} {o : Option (α ⊕ Nat)} {f : α → Option (β ⊕ Nat)} {n : Nat} (h : oexc o f = some (.inr n)) : o = some (.inr n) ∨ ∃ v, o = some (.inl v) ∧ f v = some (.inr n) := by
  unfold oexc at h
  split at h
  · cases h
  · exact Or.inr ⟨_, rfl, h⟩
  · cases h; exact Or.inl rfl
theorem xinjr {α : Type} {n k : Nat} (h : some (Sum.inr n : α ⊕ Nat) = some (.inr k)) : n = k := by cases h; rfl
def xnz (y : Int32) : Option Unit := if y = 0 then none else some ()
theorem xnz_spec {y : Int32} {u : Unit} (h : xnz y = some u) : ¬ y = 0 := by
  unfold xnz at h
  split at h
  · cases h
  · assumption
def xnzL (y : Int64) : Option Unit := if y = 0 then none else some ()
theorem xnzL_spec {y : Int64} {u : Unit} (h : xnzL y = some u) : ¬ y = 0 := by
  unfold xnzL at h
  split at h
  · cases h
  · assumption
/-- a quotient of doubles that is a number -/
def xdiv (x y : UInt64) : Option UInt64 := if FP.ddiv x y &&& 0x7fffffffffffffff ≤ 0x7ff0000000000000 then some (FP.ddiv x y) else none
def xremL (x y : Int64) : Int64 := x - x / y * y
def xremI (x y : Int32) : Int32 := x - x / y * y
def xd1 : UInt64 := 0x3ff0000000000000
section XM
variable {p : Program} {l : Launch} {e : Env} {R : Room} {s : State} {m : MethodId} {args : Array Value} {below : List Frame} {meth : Method} {c : Code} {H : Heap} {locs : List Loc} {cells slots : Nat} {Q : State → Prop}
variable {cc : ByteArray} {pc : Nat} {ls : Array Slot} {rest : List Value} {B0 : Nat} {G : XG} {h h1 : XH} {H0 : Heap} {a : Nat}
theorem xr_lrem (hexec : p.tables.exec = Jvm.exec) (hb : c.code = cc) {x y : Int64} (hdg : decode cc pc = .ok (.lrem, 1)) (hne : ¬ y = 0) (k : W p l e R s m args below meth c H locs cells slots Q (F0 m (pc + 1) ls (.long (xremL x y) :: rest))) : W p l e R s m args below meth c H locs cells slots Q (F0 m pc ls (.long y :: .long x :: rest)) := lv_lrem hexec hb hdg hne k
theorem xr_irem (hexec : p.tables.exec = Jvm.exec) (hb : c.code = cc) {x y : Int32} (hdg : decode cc pc = .ok (.irem, 1)) (hne : ¬ y = 0) (k : W p l e R s m args below meth c H locs cells slots Q (F0 m (pc + 1) ls (.int (xremI x y) :: rest))) : W p l e R s m args below meth c H locs cells slots Q (F0 m pc ls (.int y :: .int x :: rest)) := lv_irem hexec hb hdg hne k
theorem xr_ddiv (hexec : p.tables.exec = Jvm.exec) (hb : c.code = cc) {x y v : UInt64} (e1 : xdiv x y = some v) (hdg : decode cc pc = .ok (.ddiv, 1)) (k : W p l e R s m args below meth c H locs cells slots Q (F0 m (pc + 1) ls (.double v :: rest))) : W p l e R s m args below meth c H locs cells slots Q (F0 m pc ls (.double y :: .double x :: rest)) := by
  unfold xdiv at e1
  split at e1
  · next hq =>
    cases e1
    exact lv_ddiv hexec hb hdg hq k
  · cases e1
theorem xr_alen {t : Nat} (ht : ∀ G : XG, ∃ ty : FieldType, (xTy G)[t]? = some (G.2 t, ty)) (hexec : p.tables.exec = Jvm.exec) (hb : c.code = cc) (hK : xK G s) (hP : xP B0 G h H) {v : Int32} (e1 : xlen h a t = some v) (hdg : decode cc pc = .ok (.arraylength, 1))
    (kk : W p l e R s m args below meth c H locs cells slots Q (F0 m (pc + 1) ls (.int v :: rest))) : W p l e R s m args below meth c H locs cells slots Q (F0 m pc ls (.ref a :: rest)) := by
  obtain ⟨x, ha, hv⟩ := xlen_spec e1
  obtain ⟨ty, ht⟩ := ht G
  exact va_alen hexec hb hK (hP.get ha) 0 t rfl ht hv hdg kk
theorem xr_lcmp_le (hexec : p.tables.exec = Jvm.exec) (hb : c.code = cc) {x y : Int64} {off : Int} {tgt : Nat} (hdg : decode cc pc = .ok (.lcmp, 1)) (hd2 : decode cc (pc + 1) = .ok (.ifCond .le off, 3)) (ht : ((pc + 1 : Nat) : Int) + off = (tgt : Int))
    (kt : x ≤ y → W p l e R s m args below meth c H locs cells slots Q (F0 m tgt ls rest)) (kf : ¬ x ≤ y → W p l e R s m args below meth c H locs cells slots Q (F0 m (pc + 1 + 3) ls rest)) : W p l e R s m args below meth c H locs cells slots Q (F0 m pc ls (.long y :: .long x :: rest)) := by
  refine W.lcmp hexec hb hdg ?_
  have hq : (lg_cmp x y ≤ 0) ↔ x ≤ y := lg_cmp_le x y
  exact lv_if_le hexec hb hd2 ht (fun q => kt (hq.mp q)) (fun q => kf (fun z => q (hq.mpr z)))
theorem xr_lcmp_lt (hexec : p.tables.exec = Jvm.exec) (hb : c.code = cc) {x y : Int64} {off : Int} {tgt : Nat} (hdg : decode cc pc = .ok (.lcmp, 1)) (hd2 : decode cc (pc + 1) = .ok (.ifCond .lt off, 3)) (ht : ((pc + 1 : Nat) : Int) + off = (tgt : Int))
    (kt : x < y → W p l e R s m args below meth c H locs cells slots Q (F0 m tgt ls rest)) (kf : ¬ x < y → W p l e R s m args below meth c H locs cells slots Q (F0 m (pc + 1 + 3) ls rest)) : W p l e R s m args below meth c H locs cells slots Q (F0 m pc ls (.long y :: .long x :: rest)) := by
  refine W.lcmp hexec hb hdg ?_
  have hq : (lg_cmp x y < 0) ↔ x < y := lg_cmp_lt x y
  exact lv_if_lt hexec hb hd2 ht (fun q => kt (hq.mp q)) (fun q => kf (fun z => q (hq.mpr z)))
theorem xr_lcmp_ge (hexec : p.tables.exec = Jvm.exec) (hb : c.code = cc) {x y : Int64} {off : Int} {tgt : Nat} (hdg : decode cc pc = .ok (.lcmp, 1)) (hd2 : decode cc (pc + 1) = .ok (.ifCond .ge off, 3)) (ht : ((pc + 1 : Nat) : Int) + off = (tgt : Int))
    (kt : y ≤ x → W p l e R s m args below meth c H locs cells slots Q (F0 m tgt ls rest)) (kf : ¬ y ≤ x → W p l e R s m args below meth c H locs cells slots Q (F0 m (pc + 1 + 3) ls rest)) : W p l e R s m args below meth c H locs cells slots Q (F0 m pc ls (.long y :: .long x :: rest)) := by
  refine W.lcmp hexec hb hdg ?_
  have hq : (0 ≤ lg_cmp x y) ↔ y ≤ x := lg_cmp_ge x y
  exact lv_if_ge hexec hb hd2 ht (fun q => kt (hq.mp q)) (fun q => kf (fun z => q (hq.mpr z)))
theorem xr_lcmp_gt (hexec : p.tables.exec = Jvm.exec) (hb : c.code = cc) {x y : Int64} {off : Int} {tgt : Nat} (hdg : decode cc pc = .ok (.lcmp, 1)) (hd2 : decode cc (pc + 1) = .ok (.ifCond .gt off, 3)) (ht : ((pc + 1 : Nat) : Int) + off = (tgt : Int))
    (kt : y < x → W p l e R s m args below meth c H locs cells slots Q (F0 m tgt ls rest)) (kf : ¬ y < x → W p l e R s m args below meth c H locs cells slots Q (F0 m (pc + 1 + 3) ls rest)) : W p l e R s m args below meth c H locs cells slots Q (F0 m pc ls (.long y :: .long x :: rest)) := by
  refine W.lcmp hexec hb hdg ?_
  have hq : (0 < lg_cmp x y) ↔ y < x := lg_cmp_gt x y
  exact lv_if_gt hexec hb hd2 ht (fun q => kt (hq.mp q)) (fun q => kf (fun z => q (hq.mpr z)))
theorem xr_lcmp_eq (hexec : p.tables.exec = Jvm.exec) (hb : c.code = cc) {x y : Int64} {off : Int} {tgt : Nat} (hdg : decode cc pc = .ok (.lcmp, 1)) (hd2 : decode cc (pc + 1) = .ok (.ifCond .eq off, 3)) (ht : ((pc + 1 : Nat) : Int) + off = (tgt : Int))
    (kt : x = y → W p l e R s m args below meth c H locs cells slots Q (F0 m tgt ls rest)) (kf : ¬ x = y → W p l e R s m args below meth c H locs cells slots Q (F0 m (pc + 1 + 3) ls rest)) : W p l e R s m args below meth c H locs cells slots Q (F0 m pc ls (.long y :: .long x :: rest)) := by
  refine W.lcmp hexec hb hdg ?_
  have hq : (lg_cmp x y = 0) ↔ x = y := lg_cmp_eq x y
  exact lv_if_eq hexec hb hd2 ht (fun q => kt (hq.mp q)) (fun q => kf (fun z => q (hq.mpr z)))
theorem xr_lcmp_ne (hexec : p.tables.exec = Jvm.exec) (hb : c.code = cc) {x y : Int64} {off : Int} {tgt : Nat} (hdg : decode cc pc = .ok (.lcmp, 1)) (hd2 : decode cc (pc + 1) = .ok (.ifCond .ne off, 3)) (ht : ((pc + 1 : Nat) : Int) + off = (tgt : Int))
    (kt : ¬ x = y → W p l e R s m args below meth c H locs cells slots Q (F0 m tgt ls rest)) (kf : x = y → W p l e R s m args below meth c H locs cells slots Q (F0 m (pc + 1 + 3) ls rest)) : W p l e R s m args below meth c H locs cells slots Q (F0 m pc ls (.long y :: .long x :: rest)) := by
  refine W.lcmp hexec hb hdg ?_
  have hq : (lg_cmp x y = 0) ↔ x = y := lg_cmp_eq x y
  exact lv_if_ne hexec hb hd2 ht (fun q => kt (fun z => q (hq.mpr z))) (fun q => kf (hq.mp q))
end XM
end
section
/-! Bodies that throw: the class's own exceptions, with their texts. -/
def xinl {α : Type} (o : Option (α ⊕ Nat)) : Option α := match o with
  | some (.inl v) => some v
  | _ => none
theorem xinl_spec {α : Type} {o : Option (α ⊕ Nat)} {v : α} (h : xinl o = some v) : o = some (.inl v) := by
  unfold xinl at h
  split at h
  · cases h; rfl
  · cases h
def xExN : List String := ["java/lang/RuntimeException", "java/lang/Exception"]
theorem xE_fit : ∀ n ∈ xExN, Bundle.fit n = true := by decide +kernel
theorem xUX_blind {B0 : Nat} {G : XG} {h : XH} {av : List Value} : FrameBlind (va_Pc av (xUX B0 G h)) := fun a U g mk q => by
  obtain ⟨q0, ⟨qP, qK⟩, ⟨z1, z2⟩, qS⟩ := q
  refine ⟨q0, ⟨qP, va_K.moved (u := U) (U := U.calling g mk a) (Vm.Alike.refl U.vm) qK⟩, ⟨?_, ?_⟩, ?_⟩
  · exact vx_Zq.moved (u := U) (U := U.calling g mk a) (Vm.Alike.refl U.vm) z1
  · exact vx_Zq.moved (u := U) (U := U.calling g mk a) (Vm.Alike.refl U.vm) z2
  · exact xStr.same (u := U) rfl qS
theorem xZ.at {B0 : Nat} {s U : State} {H : Heap} {locs : List Loc} (hZ : xZ B0 s) (hS : va_S (xA B0) s.heap H locs) (hU : U.heap = H) (hW : s.WarmedH U.vm) : xZ B0 U := by
  subst hU
  exact ⟨vx_Zq.moved hW.alike (vx_Zq.kept hZ.1 hS.2.1), vx_Zq.moved hW.alike (vx_Zq.kept hZ.2 hS.2.1)⟩
section XT
variable {p : Program} {l : Launch} {e : Env} {R : Room} {s : State} {m : MethodId} {args : Array Value} {below : List Frame} {meth : Method} {c : Code} {H : Heap} {locs : List Loc} {cells slots : Nat} {Q : State → Prop}
variable {cc : ByteArray} {pc nL : Nat} {ls : Array Slot} {rest st0 : List Value} {B0 : Nat} {G : XG} {h h1 : XH} {a code : Nat}
variable {y : MethodName} {bytes : ByteArray} {maxL n index : Nat} {ret : Option FieldType} {ws Ts : List Cond} {rm : Room} {own C : String} {b : Nat} {As : List Value}
theorem xc_x {av : Array Value} (hr : vx_Run p l e R s m args below meth c H locs cells slots 1 6 (F0 m pc ls st0) rest (xFF av) (xXC B0 G h1 code) (xA B0)) (hS : va_S (xA B0) s.heap H locs)
    (kx : ∀ (q9 : Addr) (ce : Cell) (H1 : Heap) (locs1 : List Loc), xP B0 G h1 H1 → va_S (xA B0) s.heap H1 locs1 → H1[q9]? = some ce → ce.vm = .none → s.vm.findClass (xEx code) = some ce.cls → vx_W p l e R s m args below meth c H1 locs1 (cells + 1) (slots + 6) Q (F0 m pc ls rest) q9) : W p l e R s m args below meth c H locs cells slots Q (F0 m pc ls st0) := by
  intro T hT X
  rcases hr T hT X with ⟨v, st₀, t, T', L, h0, X', hL, e1, e2, hQ, st⟩ | ⟨q, st₀, t, T', L, E, ce, h0, X', hL, e1, e2, ⟨u, hp, ⟨hE, hU⟩, hF⟩, hce, hcv, hcl, st⟩
  · exact False.elim hQ
  · subst hE
    obtain ⟨k1, k2, k3⟩ := vx_keep h0 e1 hS (fun _ _ h => h) (fun _ h => h) hL hF
    obtain ⟨t2, a1, b1⟩ := kx q ce T'.heap (locs ++ L) (by rw [e1]; exact hU.1) k3 (by rw [e1]; exact hce) hcv hcl T' rfl X'
    exact ⟨t2, st.trans a1, b1⟩
theorem xc_Vx (S : CallFix p m c cc nL s args Ts own) (hM : vx_Met l y ws rm (va_Pc (.ref b :: As) (xUX B0 G h)) xFF (xXC B0 G h code) 1 6 (xA B0)) (cw : CallW R s args own C index y bytes maxL ret ws rm 1 6 n) (hK : xK G s) (hZ : xZ B0 s) (hX : xStr s) (hP : xP B0 G h H) (hS : va_S (xA B0) s.heap H locs) {ci N : Nat} {T : u_T} {u : Unit} (hr : xis h b ci = some u) (hc : vwCl[ci]? = some (C, T, N)) (hn : As.length = n) (hsize : ls.size = nL) (hst : st0 = As.reverse ++ .ref b :: rest) (hroom : (rest.map fun v => v.category).sum ≤ 8) (hdg : decode cc pc = .ok (.invokevirtual index, 3)) (hf : cells + 1 ≤ R.cells ∧ slots + 6 ≤ R.slots)
    (kx : ∀ (q9 : Addr) (ce : Cell) (H1 : Heap) (locs1 : List Loc), xP B0 G h H1 → va_S (xA B0) s.heap H1 locs1 → H1[q9]? = some ce → ce.vm = .none → s.vm.findClass (xEx code) = some ce.cls → vx_W p l e R s m args below meth c H1 locs1 (cells + 1) (slots + 6) Q (F0 m pc ls rest) q9) : W p l e R s m args below meth c H locs cells slots Q (F0 m pc ls st0) :=
  xc_x (vx_runV S hM cw ⟨xUX_blind, xrecv hK hP hr hc, fun U hU hW => ⟨rfl, ⟨by rw [hU]; exact hP, hK.moved hW.alike⟩, hZ.at hS hU hW, hX.warm hW⟩⟩ rfl hn hsize hst (lv_room hroom) hdg hf) hS kx
theorem xc_Sx (S : CallFix p m c cc nL s args Ts own) (hM : vx_Met l y ws rm (va_Pc As (xUX B0 G h)) xFF (xXC B0 G h code) 1 6 (xA B0)) (cw : CallB R s args own index y bytes maxL ret ws rm 1 6 n ∧ (Cond.static y).before args s = true) (hK : xK G s) (hZ : xZ B0 s) (hX : xStr s) (hP : xP B0 G h H) (hS : va_S (xA B0) s.heap H locs) (hn : As.length = n) (hsize : ls.size = nL) (hst : st0 = As.reverse ++ rest) (hroom : (rest.map fun v => v.category).sum ≤ 8) (hdg : decode cc pc = .ok (.invokestatic index, 3)) (hf : cells + 1 ≤ R.cells ∧ slots + 6 ≤ R.slots)
    (kx : ∀ (q9 : Addr) (ce : Cell) (H1 : Heap) (locs1 : List Loc), xP B0 G h H1 → va_S (xA B0) s.heap H1 locs1 → H1[q9]? = some ce → ce.vm = .none → s.vm.findClass (xEx code) = some ce.cls → vx_W p l e R s m args below meth c H1 locs1 (cells + 1) (slots + 6) Q (F0 m pc ls rest) q9) : W p l e R s m args below meth c H locs cells slots Q (F0 m pc ls st0) :=
  xc_x (vx_runS S hM cw ⟨xUX_blind, fun U hU hW => ⟨rfl, ⟨by rw [hU]; exact hP, hK.moved hW.alike⟩, hZ.at hS hU hW, hX.warm hW⟩⟩ rfl hn hsize hst (lv_room hroom) hdg hf) hS kx
/-- it goes on to the caller -/
theorem xe_out (htab : ∀ x ∈ c.exceptionTable.toList, False) (hlocks : meth.locks = false) (hK : xK G s) (hP : xP B0 G h H) (hS : va_S (xA B0) s.heap H locs) {q : Addr} {ce : Cell} (hce : H[q]? = some ce) (hcv : ce.vm = .none) (hcl : s.vm.findClass (xEx code) = some ce.cls) {Qc : Array Value → State → Outcome → State → Prop} (hc : cells ≤ 1) (hs : slots ≤ 6) :
    vx_W p l e R s m args below meth c H locs cells slots (vx_MQ below Qc (xXC B0 G h code) args s 1 6 (xA B0)) (F0 m pc ls rest) q :=
  vx_out (fun x hx => (htab x hx).elim) hlocks hce hcv hcl (fun t ht hv => ⟨(), trivial, ⟨rfl, by rw [ht]; exact hP, hK.moved hv⟩, hS.F ht⟩) (fun z hz => hS.2.2 z hz) hc hs
/-- the throw itself -/
theorem xe_throw (hexec : p.tables.exec = Jvm.exec) (hb : c.code = cc) (hl : l.stackTraces = false) {text : String} {ik is ic sa : Nat} (hown : s.vm.findClass RX5 = some m.cls) (hcode : xEx code = xEx code) (hcls : Bundle.fit (xEx code) = true)
    (hk : (Cond.classLink RX5 ik (xEx code)).before args s = true) (hini : (Cond.initialized (xEx code)).before args s = true) (hstr : vk_R RX5 is text sa s) (hat : ∀ w ∈ vx_atS RX5 ic (xEx code) xExN, w.before args s = true) (hgood : ∀ w ∈ Cond.classLink RX5 ik (xEx code) :: Cond.initialized (xEx code) :: vx_atS RX5 ic (xEx code) xExN, vx_ot w = true)
    (hK : xK G s) (hZ : xZ B0 s) (hP : xP B0 G h H) (hS : va_S (xA B0) s.heap H locs) (hsize : ls.size = c.maxLocals) (htab : ∀ x ∈ c.exceptionTable.toList, False) (hlocks : meth.locks = false)
    (d0 : decode cc pc = .ok (.new ik, 3)) (d3 : decode cc (pc + 3) = .ok (.dup, 1)) (d4 : decode cc (pc + 4) = .ok (.ldc is, 2)) (d6 : decode cc (pc + 6) = .ok (.invokespecial ic, 3)) (d9 : decode cc (pc + 9) = .ok (.athrow, 1))
    (hRframes : 6 ≤ R.frames) (hRlocals : (rest.map fun v => v.category).sum + 82 ≤ R.locals) (hRcells : 1 ≤ R.cells) (hRslots : 6 ≤ R.slots) {Qc : Array Value → State → Outcome → State → Prop} :
    W p l e R s m args below meth c H locs 0 0 (vx_MQ below Qc (xXC B0 G h code) args s 1 6 (xA B0)) (F0 m pc ls rest) :=
  vx_throwS hexec hb hl hown hcls xE_fit hk hini hstr hat hgood hZ.1 hZ.2 hS hsize d0 d3 d4 d6 d9 (fun x hx => (htab x hx).elim) (by show 2 + 3 < _; omega) (by show _ + (13 * (2 + 1) + 43) ≤ _; omega) (by omega) (by omega) hlocks
    (fun t hv hz hk => ⟨(), trivial, ⟨rfl, hP.moved hz hk, hK.moved hv⟩, ⟨Nat.le_trans hS.1 hz, fun q g1 g2 => by rw [hk q (Nat.lt_of_lt_of_le g1 hS.1)]; exact hS.2.1 q g1 g2⟩⟩) (fun z hz => hS.2.2 z hz) (by omega) (by omega)
theorem xMetX {l : Launch} {ws' : List Cond} {av : List Value} {cc : ByteArray} {maxL : Nat} (hy : plainName y.cls = true) (hw : ws = Cond.code y cc maxL ret :: ws') (hal : (lg_sl av).length ≤ maxL)
    (body : ∀ (p : Program) (e : Env) (s : State) (m : MethodId) (args : Array Value) (below : List Frame) (meth : Method) (c : Code) (ls : Array Slot), p.tables.exec = Jvm.exec → c.code = cc → meth.sig.returnType = ret → c.maxLocals = maxL → s.vm.findClass y.cls = some m.cls → meth.locks = false → (∀ x ∈ c.exceptionTable.toList, False) → (∀ w ∈ ws, w.before args s = true) → xK G s → xP B0 G h s.heap → xZ B0 s → xStr s → lv_has ls maxL (lv_args 0 av) →
      W p l e rm s m args below meth c s.heap [] 0 0 (vx_MQ below xFF (xXC B0 G h code) args s 1 6 (xA B0)) (F0 m 0 ls [])) : vx_Met l y ws rm (va_Pc av (xUX B0 G h)) xFF (xXC B0 G h code) 1 6 (xA B0) := by
  refine vx_ofW (cc := cc) (maxL := maxL) (ret := ret) hy hw ?_
  intro p e s m args below meth c s₁ B hml ht hv
  obtain ⟨rfl, ⟨hP, hK⟩, hZ, hX⟩ := hv
  rw [lg_entry_eq]
  exact body p e s m _ below meth c _ B.exec B.bytes B.returns hml (findClass_of_methodNamed B.named) B.notSynchronized ht (atoms_spec (ws := ws) B.pre) hK hP hZ hX (lv_entry av hal)
end XT
end
section
/-! Bodies that make cells: constructors. The next address is known. -/
def xNest (U : State) : Prop := va_Nw (.methodLinkNest RX2 24 yX1_init RX5) U ∧ va_Nw (.methodLinkNest RX4 17 yX3_init RX5) U ∧ va_AO RX1 U ∧ va_AO RX2 U ∧ va_AO RX3 U
theorem xNest.warm {s U : State} (hW : s.WarmedH U.vm) (h : xNest s) : xNest U := ⟨va_Nw.warmM hW h.1, va_Nw.warmM hW h.2.1, h.2.2.1.moved hW.alike, h.2.2.2.1.moved hW.alike, h.2.2.2.2.moved hW.alike⟩
theorem xNest.same {u U : State} (hv : U.vm = u.vm) (h : xNest u) : xNest U := ⟨va_tabs rfl hv.symm h.1, va_tabs rfl hv.symm h.2.1, h.2.2.1.moved (u := u) (by rw [hv]; exact Vm.Alike.refl _), h.2.2.2.1.moved (u := u) (by rw [hv]; exact Vm.Alike.refl _), h.2.2.2.2.moved (u := u) (by rw [hv]; exact Vm.Alike.refl _)⟩
def xUN (B0 : Nat) (G : XG) (h : XH) (nx : Nat) : State → Prop := fun U => U.heap.size = nx ∧ xU B0 G h U ∧ xNest U
abbrev xQN (B0 : Nat) (G : XG) (h1 : XH) (nx1 : Nat) : Array Value → State → Outcome → State → Prop := va_Qv (fun (_ : Unit) => True) (fun _ t => t.heap.size = nx1 ∧ xU B0 G h1 t) (xA B0)
theorem xUN_blind {B0 nx : Nat} {G : XG} {h : XH} {av : List Value} : FrameBlind (va_Pc av (xUN B0 G h nx)) := fun a U g mk q => by
  obtain ⟨q0, qz, qU, qN⟩ := q
  exact ⟨q0, qz, (xU_blind (av := av) a U g mk ⟨q0, qU⟩).2, qN.same (u := U) rfl⟩
def xeqI (x y : Int32) : Option Unit := if x = y then some () else none
theorem xeqI_spec {x y : Int32} {u : Unit} (h : xeqI x y = some u) : x = y := by
  unfold xeqI at h
  split at h
  · assumption
  · cases h
section XAL
variable {p : Program} {l : Launch} {e : Env} {R : Room} {s : State} {m : MethodId} {args : Array Value} {below : List Frame} {meth : Method} {c : Code} {H : Heap} {locs : List Loc} {cells slots : Nat} {Q : State → Prop}
variable {cc : ByteArray} {pc nL : Nat} {ls : Array Slot} {rest st0 : List Value} {B0 nx nx1 : Nat} {G : XG} {h h1 : XH} {H0 : Heap} {a : Nat}
variable {y : MethodName} {bytes : ByteArray} {maxL n index mc ms : Nat} {ret : Option FieldType} {ws Ts : List Cond} {rm : Room} {own C : String} {b : Nat}
theorem xP.push {H1 : Heap} {e1 : XE} (hP : xP B0 G h H) (hz : H.size = nx) (z1 : H1.size = nx + 1) (o1 : ∀ q : Nat, q < nx → H1[q]? = H[q]?) (he : va_at G.1 vwCl (nx, xe G e1) H1) : xP B0 G (xup h nx (some e1)) H1 := by
  refine ⟨by have := hP.1; omega, fun q e' hq => ?_⟩
  by_cases hqa : q = nx
  · subst hqa
    simp only [xup, if_true] at hq
    cases hq
    exact ⟨by have := hP.1; omega, he⟩
  · simp only [xup, if_neg hqa] at hq
    have hlt := (hP.2 q e' hq).2.lt
    exact ⟨(hP.2 q e' hq).1, (hP.2 q e' hq).2.kept (o1 q (by rw [← hz]; exact hlt))⟩
theorem va_S.push {A : Nat → Prop} {H1 : Heap} (hS : va_S A H0 H locs) (hz : H.size = nx) (z1 : H1.size = nx + 1) (o1 : ∀ q : Nat, q < nx → H1[q]? = H[q]?) : va_S A H0 H1 locs :=
  ⟨Nat.le_trans hS.1 (by omega), fun x g1 g2 => (o1 x (by have := hS.1; omega)).trans (hS.2.1 x g1 g2), hS.2.2⟩
theorem xr_new (hexec : p.tables.exec = Jvm.exec) (hb : c.code = cc) {T : u_T} {N ci : Nat} (hts : ∀ w ∈ Ts, w.before args s = true) (hin : ∀ w ∈ u_ws C T N, w ∈ Ts) (ty : Nat → FieldType) (hty : ∀ k, k < N → parseFieldDescriptor (T k).2.2.1 = some (ty k)) (hown : s.vm.findClass own = some m.cls) (hcl : (Cond.classLink own index C).before args s = true) (hinst : (Cond.instantiable C N).before args s = true) (hini : (Cond.initialized C).before args s = true)
    (hK : xK G s) (hP : xP B0 G h H) (hz : H.size = nx) (hS : va_S (xA B0) H0 H locs) (hc : vwCl[ci]? = some (C, T, N)) {fs : List Value} (hfs : ∀ j, j < N → defaultValue (ty j) = vp_V fs j) (eh : h1 = xup h nx (some (.inr (ci, fs)))) (hf : cells + 1 ≤ R.cells ∧ slots + N ≤ R.slots) (hdg : decode cc pc = .ok (.new index, 3))
    (kk : ∀ (H1 : Heap), xP B0 G h1 H1 → H1.size = nx + 1 → va_S (xA B0) H0 H1 locs → W p l e R s m args below meth c H1 locs (cells + 1) (slots + N) Q (F0 m (pc + 3) ls (.ref nx :: rest))) : W p l e R s m args below meth c H locs cells slots Q (F0 m pc ls rest) := by
  have hKn := hK.1 ci _ hc
  refine W.newcK hexec hb hown hcl hinst hini rfl hdg hf.1 hf.2 hKn.2.1 hz fun H1 kC hkC e1 z1 o1 => ?_
  subst eh
  exact kk H1 (hP.push hz z1 o1 ⟨_, hc, (u_born ty hts hin hKn hkC e1 hty).to hfs⟩) z1 (hS.push hz z1 o1)
theorem xr_newarr {atype : ArrayType} {t : Nat} {ty : FieldType} (hty : newarray.typeOf atype = ty) (ht : ∀ G : XG, (xTy G)[t]? = some (G.2 t, ty)) (hra : ∀ (U : State) (cA : ClassId), va_RA U cA ty → U.vm.findClass ("[" ++ ty.toString) = some cA) (hexec : p.tables.exec = Jvm.exec) (hb : c.code = cc) (harr : (Cond.arrayClass ty).before args s = true) (hK : xK G s) (hP : xP B0 G h H) (hz : H.size = nx) (hS : va_S (xA B0) H0 H locs)
    {n : Int32} {N : Nat} {x : vp_A} (hx : ∀ cA : ClassId, vp_cell cA x = arrV cA N (fun _ => defaultValue ty)) (hn : ¬ n < 0) (hN : n.toNatClampNeg = N) (hbytes : N * componentBytes ty ≤ 536870912) (eh : h1 = xup h nx (some (.inl (t, x)))) (hf : cells + 1 ≤ R.cells ∧ slots + N ≤ R.slots) (hdg : decode cc pc = .ok (.newarray atype, 2))
    (kk : ∀ (H1 : Heap), xP B0 G h1 H1 → H1.size = nx + 1 → va_S (xA B0) H0 H1 locs → W p l e R s m args below meth c H1 locs (cells + 1) (slots + N) Q (F0 m (pc + 2) ls (.ref nx :: rest))) : W p l e R s m args below meth c H locs cells slots Q (F0 m pc ls (.int n :: rest)) := by
  subst hty
  refine va_newaK hexec hb harr rfl hdg rfl hn hN hbytes hf.1 hf.2 hz fun H1 cA e1 z1 o1 hAr hNm => ?_
  have hc : cA = G.2 t := Option.some.inj (hNm.symm.trans (hra s (G.2 t) (hK.2 t _ (ht G)).2))
  subst hc
  subst eh
  refine kk H1 (hP.push hz z1 o1 ?_) z1 (hS.push hz z1 o1)
  show H1[nx]? = some (vp_cell _ _)
  rw [hx]
  exact e1
theorem xr_anew {t : Nat} (ht : ∀ G : XG, (xTy G)[t]? = some (G.2 t, .object C)) (hexec : p.tables.exec = Jvm.exec) (hb : c.code = cc) (hown : s.vm.findClass own = some m.cls) (hclink : (Cond.classLink own index C).before args s = true) (hover : va_AO C s) (hK : xK G s) (hP : xP B0 G h H) (hz : H.size = nx) (hS : va_S (xA B0) H0 H locs)
    {n : Int32} {N : Nat} (hn : ¬ n < 0) (hN : n.toNatClampNeg = N) (hbytes : N * 4 ≤ 536870912) (eh : h1 = xup h nx (some (.inl (t, N, .inr (.inr (.inr (.inr (fun _ => none)))))))) (hf : cells + 1 ≤ R.cells ∧ slots + N ≤ R.slots) (hdg : decode cc pc = .ok (.anewarray index, 3))
    (kk : ∀ (H1 : Heap), xP B0 G h1 H1 → H1.size = nx + 1 → va_S (xA B0) H0 H1 locs → W p l e R s m args below meth c H1 locs (cells + 1) (slots + N) Q (F0 m (pc + 3) ls (.ref nx :: rest))) : W p l e R s m args below meth c H locs cells slots Q (F0 m pc ls (.int n :: rest)) := by
  subst hN
  refine W.anew hexec hb hown hclink (va_AO.use hover) rfl hdg rfl hn hbytes hf.1 hf.2 fun cA kA comp f1 f2 f3 f4 => ?_
  generalize hH1 : H.push ({ cls := cA, slots := Array.replicate n.toNatClampNeg .null, vm := .none } : Cell) = H1
  have z1 : H1.size = nx + 1 := by rw [← hH1, Array.size_push, hz]
  have e1 : H1[nx]? = some (arrV cA n.toNatClampNeg (fun _ => .null)) := by rw [← hH1, ← hz, Array.getElem?_push_size, ← arrV_new]
  have o1 : ∀ q : Nat, q < nx → H1[q]? = H[q]? := fun q hq => by rw [← hH1, Array.getElem?_push, if_neg (by omega)]
  obtain ⟨kA', comp', g1, g2, g3, g4⟩ := (hK.2 t _ (ht G)).2
  have hc : cA = G.2 t := Option.some.inj (f1.symm.trans g4)
  subst hc
  subst eh
  rw [hz]
  refine kk H1 (hP.push hz z1 o1 ?_) z1 (hS.push hz z1 o1)
  show H1[nx]? = some (vp_cell _ _)
  rw [vp_cell_q]
  exact e1
theorem xc_I (S : CallFix p m c cc nL s args Ts own) (hM : Met l y ws rm (va_Pc [.ref b] (xUN B0 G h nx)) (xQN B0 G h1 nx1) mc ms (xA B0)) (cw : CallB R s args own index y bytes maxL none ws rm mc ms 0 ∧ y.name = "<init>" ∧ (Cond.instanceMethod y).before args s = true) (hK : xK G s) (hNe : xNest s) (hP : xP B0 G h H) (hz : H.size = nx) (hS : va_S (xA B0) H0 H locs) (hsize : ls.size = nL) (hst : st0 = .ref b :: rest) (hroom : (rest.map fun v => v.category).sum ≤ 8) (hdg : decode cc pc = .ok (.invokespecial index, 3)) (hf : cells + mc ≤ R.cells ∧ slots + ms ≤ R.slots)
    (kk : ∀ (H1 : Heap) (locs1 : List Loc), xP B0 G h1 H1 → H1.size = nx1 → va_S (xA B0) H0 H1 locs1 → W p l e R s m args below meth c H1 locs1 (cells + mc) (slots + ms) Q (F0 m (pc + 3) ls rest)) : W p l e R s m args below meth c H locs cells slots Q (F0 m pc ls st0) := by
  refine va_callv (va_runI (As := []) S hM cw ⟨xUN_blind, fun U hU hW => ⟨rfl, by rw [hU]; exact hz, ⟨by rw [hU]; exact hP, hK.moved hW.alike⟩, hNe.warm hW⟩⟩ rfl rfl hsize hst (lv_room hroom) hdg hf) hS (fun q _ h => h) (fun q h => h) (fun u t H1 locs1 ht hvm hp hB hz hk hS1 => ?_)
  subst ht
  exact kk _ _ hB.2.1 hB.1 hS1
theorem xc_IN {host : String} (S : CallFix p m c cc nL s args Ts own) (hM : Met l y ws rm (va_Pc [.ref b] (xUN B0 G h nx)) (xQN B0 G h1 nx1) mc ms (xA B0)) (cw : va_CN R s args own index y host bytes maxL none ws rm mc ms 0 ∧ y.name = "<init>" ∧ (Cond.instanceMethod y).before args s = true) (hK : xK G s) (hNe : xNest s) (hP : xP B0 G h H) (hz : H.size = nx) (hS : va_S (xA B0) H0 H locs) (hsize : ls.size = nL) (hst : st0 = .ref b :: rest) (hroom : (rest.map fun v => v.category).sum ≤ 8) (hdg : decode cc pc = .ok (.invokespecial index, 3)) (hf : cells + mc ≤ R.cells ∧ slots + ms ≤ R.slots)
    (kk : ∀ (H1 : Heap) (locs1 : List Loc), xP B0 G h1 H1 → H1.size = nx1 → va_S (xA B0) H0 H1 locs1 → W p l e R s m args below meth c H1 locs1 (cells + mc) (slots + ms) Q (F0 m (pc + 3) ls rest)) : W p l e R s m args below meth c H locs cells slots Q (F0 m pc ls st0) := by
  refine va_callv (va_runIN (As := []) S hM cw ⟨xUN_blind, fun U hU hW => ⟨rfl, by rw [hU]; exact hz, ⟨by rw [hU]; exact hP, hK.moved hW.alike⟩, hNe.warm hW⟩⟩ rfl rfl hsize hst (lv_room hroom) hdg hf) hS (fun q _ h => h) (fun q h => h) (fun u t H1 locs1 ht hvm hp hB hz hk hS1 => ?_)
  subst ht
  exact kk _ _ hB.2.1 hB.1 hS1
theorem xe_vN (hexec : p.tables.exec = Jvm.exec) (hb : c.code = cc) (hr : meth.sig.returnType = none) (hlocks : meth.locks = false) (hK : xK G s) (hP : xP B0 G h1 H) (hz : H.size = nx1) (hS : va_S (xA B0) s.heap H locs) (hdg : decode cc pc = .ok (.return_, 1)) :
    W p l e R s m args below meth c H locs cells slots (MQ below (xQN B0 G h1 nx1) args s cells slots (xA B0)) (F0 m pc ls []) :=
  W.vret hexec hb hr (fun t ht hW => ⟨⟨(), rfl, trivial, by rw [ht]; exact hz, by rw [ht]; exact hP, hK.moved hW.alike⟩, hS.F ht⟩) hS.2.2 hdg
theorem xMetN {l : Launch} {ws' : List Cond} {av : List Value} {Qc : Array Value → State → Outcome → State → Prop} {cc : ByteArray} {maxL : Nat} (hy : plainName y.cls = true) (hw : ws = Cond.code y cc maxL ret :: ws') (hal : (lg_sl av).length ≤ maxL)
    (body : ∀ (p : Program) (e : Env) (s : State) (m : MethodId) (args : Array Value) (below : List Frame) (meth : Method) (c : Code) (ls : Array Slot), p.tables.exec = Jvm.exec → c.code = cc → meth.sig.returnType = ret → c.maxLocals = maxL → s.vm.findClass y.cls = some m.cls → meth.locks = false → meth.name = y.name → (∀ w ∈ ws, w.before args s = true) → xK G s → xNest s → xP B0 G h s.heap → s.heap.size = nx → lv_has ls maxL (lv_args 0 av) →
      W p l e rm s m args below meth c s.heap [] 0 0 (MQ below Qc args s mc ms (xA B0)) (F0 m 0 ls [])) : Met l y ws rm (va_Pc av (xUN B0 G h nx)) Qc mc ms (xA B0) := by
  refine Met.ofW (cc := cc) (maxL := maxL) (ret := ret) hy hw ?_
  intro p e s m args below meth c s₁ B hml hv
  obtain ⟨rfl, hz, ⟨hP, hK⟩, hNe⟩ := hv
  rw [lg_entry_eq]
  exact body p e s m _ below meth c _ B.exec B.bytes B.returns hml (findClass_of_methodNamed B.named) B.notSynchronized (name_of_methodNamed B.named B.method).1 (atoms_spec (ws := ws) B.pre) hK hNe hP hz (lv_entry av hal)
end XAL
end
