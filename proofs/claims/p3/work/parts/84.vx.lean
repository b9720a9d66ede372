section MH84vxx0

section VXA
/-! The laws vx_back, vx_callV, vx_callS, vx_callSW, vx_throw0, vx_throwS follow proofs of the library, with one case more: JvmDerived/Free/Laws.lean (Back.of_free), Shelf42/LK1.lean (callV, callS), Shelf/KitTraced.lean (throwNew0V, throwNewS). -/
/-- where a method has thrown q: the class by its name, the cell, what was written, the world -/
def vx_T (XC : String → State → State → Prop) (st : State) (q : Addr) (t : State) (mc ms : Nat) (free : Addr → Prop) : Prop :=
  ∃ (E : String) (ce : Cell) (L : List Loc), XC E st t ∧ t.heap[q]? = some ce ∧ ce.vm = .none ∧ st.vm.findClass E = some ce.cls ∧ st.WarmedH t.vm ∧ st.sameButNew ({ t with vm := st.vm } : State) L mc ms ∧ ∀ z ∈ L, free z.base
def vx_Q (Qc : Array Value → State → Outcome → State → Prop) (XC : String → State → State → Prop) (mc ms : Nat) (free : Addr → Prop) : Array Value → State → Outcome → State → Prop := fun a st o t =>
  (Qc a st o t ∧ ∃ L, FrameEnd st o t L mc ms ∧ ∀ q ∈ L, free q.base) ∨ ∃ q, o = .threw q ∧ vx_T XC st q t mc ms free
/-- a callee that returns or throws -/
def vx_Met (l : Launch) (y : MethodName) (ws : List Cond) (rm : Room) (Pc : Array Value → State → Prop) (Qc : Array Value → State → Outcome → State → Prop) (XC : String → State → State → Prop) (mc ms : Nat) (free : Addr → Prop) : Prop :=
  MetFree l y (headSpec ws rm) Pc (fun _ _ _ _ _ => True) (vx_Q Qc XC mc ms free)
def vx_Post (XC : String → State → State → Prop) (mc ms : Nat) (free : Addr → Prop) : Pt → Array Value → Addr → Pt → Prop := fun A a q B =>
  ∃ (g : JFrame) (mk : MethodId) (t : State) (L : List Loc) (E : String) (ce : Cell), B.U.heap = t.heap ∧ B.U.vm = t.vm ∧ XC E (A.U.calling g mk a) t ∧ t.heap[q]? = some ce ∧ ce.vm = .none ∧ A.U.vm.findClass E = some ce.cls ∧ B.locs = A.locs ++ L ∧ (∀ z ∈ L, free z.base) ∧ B.cells = A.cells + mc ∧ B.slots = A.slots + ms
def vx_Back (l : Launch) (R : Room) (p : Program) (e : Env) (below : List Frame) (s : State) (sargs : Array Value) (y : MethodName) (len W9 : Nat)
    (Pre : Pt → Array Value → Prop) (Post : Pt → Array Value → Option Value → Pt → Prop) (PostX : Pt → Array Value → Addr → Pt → Prop) : Prop :=
  ∀ (m : MethodId) (meth : Method) (c : Code) (A : Pt) (g : JFrame) (ig : Instr) (mk : MethodId) (a : Array Value),
    Stand p l e R s m sargs below meth c A.U A.locs A.cells A.slots → g.method = m → g.locals.size = c.maxLocals → decode c.code g.pc = .ok (ig, len) →
    2 * g.monitorRoom + (g.stack.map fun v => v.category).sum ≤ W9 → A.U.methodNamed? y = some mk → Pre A a →
    (∃ (v : Option Value) (B : Pt), Stand p l e R s m sargs below meth c B.U B.locs B.cells B.slots ∧ Post A a v B ∧
      Steps p.tables e below (doInvoke e (A.U.setTop g) [] mk a).1 (B.U.setTop { g with pc := g.pc + len, stack := v.toList ++ g.stack })) ∨
    (∃ (q : Addr) (B : Pt), Stand p l e R s m sargs below meth c B.U B.locs B.cells B.slots ∧ PostX A a q B ∧
      Steps p.tables e below (doInvoke e (A.U.setTop g) [] mk a).1 ((B.U.setTop g).pushFrame (.throwing q)))
section Payer
variable {l : Launch} {R : Room} {p : Program} {e : Env} {below : List Frame} {s : State} {sargs : Array Value} {y : MethodName} {len W9 : Nat}
theorem vx_back {ws : List Cond} {rm : Room} {Pc : Array Value → State → Prop} {Qc : Array Value → State → Outcome → State → Prop} {XC : String → State → State → Prop} {mc ms : Nat} {free : Addr → Prop} {bytes : ByteArray} {maxL : Nat} {ret : Option FieldType}
    (hM : vx_Met l y ws rm Pc Qc XC mc ms free) (hblind : FrameBlind Pc) (hrc : rm.cells = mc) (hrs : rm.slots = ms)
    (hframes : rm.frames + 1 ≤ R.frames) (hlocals : W9 + (maxL + 11) + rm.locals ≤ R.locals)
    (hws : ∀ w ∈ ws, ∀ a' U, s.WarmedH U.vm → w.before a' U = true) (hcode : Cond.code y bytes maxL ret ∈ ws) (hinit : ∀ a' U, s.WarmedH U.vm → (Cond.initialized y.cls).before a' U = true) :
    vx_Back l R p e below s sargs y len W9 (PreOf R mc ms Pc) (PostOf Qc mc ms free) (vx_Post XC mc ms free) := by
  intro m meth c A g ig mk a X hg hsize hdg hW hn hp
  have h1 : (headSpec ws rm).pre.before a A.U = true := atoms_intro fun w hw => hws w hw _ _ X.warmed
  have h2 : (Cond.code y bytes maxL ret).before a A.U = true := hws _ hcode _ _ X.warmed
  have h3 : (Cond.initialized y.cls).before a A.U = true := hinit _ _ X.warmed
  have h4 : A.cells + (headSpec ws rm).room.cells ≤ R.cells := by rw [show (headSpec ws rm).room.cells = mc from hrc]; exact hp.1
  have h5 : A.slots + (headSpec ws rm).room.slots ≤ R.slots := by rw [show (headSpec ws rm).room.slots = ms from hrs]; exact hp.2.1
  have hPc : Pc a (A.U.calling g mk a) := hblind _ _ _ _ hp.2.2
  obtain ⟨U, Ls, c0, s0⟩ := A
  dsimp only [Pt.U, Pt.locs, Pt.cells, Pt.slots] at h1 h2 h3 h4 h5 X hn hPc ⊢
  obtain ⟨methY, cY, hmY, hcY, -, hlY, -, -, -, -⟩ := Cond.code_spec hn h2
  obtain ⟨kY, hkY, -⟩ := className_of_methodNamed hn
  have hinitY : kY.init = .initialized := Cond.initialized_spec (findClass_of_methodNamed hn) hkY h3
  have h : At U g.method c below := by rw [hg]; exact X.here
  have hlocals9 : W9 + (maxL + 11) + (headSpec ws rm).room.locals ≤ R.locals := hlocals
  have happ : (headSpec ws rm).appliesLoose y e.platform (U.calling g mk a) = true :=
    Spec.appliesLoose_calling (g := g) h hdg hn hkY hinitY
      (X.room_calling (g := g) (R' := (headSpec ws rm).room) hsize hmY hcY hframes (by rw [hlY]; omega) h4 h5) h1
  obtain ⟨mid, hmid⟩ := h.above
  have hfr : (U.setTop g).frames = (.java g :: mid) ++ below := by rw [State.frames_setTop' g h.top, hmid]; rfl
  obtain ⟨o, s₂, hsteps, -, hend, hq⟩ := Steps.callFree hM p X.admits X.cas X.clock (acts := []) hfr happ hPc trivial
  have hq' : vx_Q Qc XC mc ms free a (U.calling g mk a) o s₂ := hq
  rw [State.frames_setTop' g h.top] at hend
  obtain ⟨g₀, hg0⟩ := Option.isSome_iff_exists.mp h.top
  obtain ⟨r, hr⟩ := State.topJava?_eq_some.mp hg0
  have hr' : (({ U with heap := s₂.heap, slotsUsed := s₂.slotsUsed } : State).setVm s₂.vm).frames = .java g₀ :: r := hr
  rcases hq' with ⟨hqc, L, hfe, hL⟩ | ⟨q, rfl, E, ce, L, hx, hce, hcv, hcl, hW₂, hsm, hL⟩
  · obtain ⟨⟨v, rfl⟩, hW₂, e2, q2, q3, q4, q5, q6⟩ := id hfe
    have e3 : s₂ = ({ (U.calling g mk a).setFrames s₂.frames with heap := s₂.heap, slotsUsed := s₂.slotsUsed } : State).setVm s₂.vm := by
      have : s₂ = ({ s₂ with vm := (U.calling g mk a).vm } : State).setVm s₂.vm := rfl
      rw [e2] at this
      exact this
    obtain ⟨c₂, i₂, len₂, hc₂, hd₂, hf₂⟩ := hend
    have hW' : U.WarmedH s₂.vm := hW₂
    have hcc : c₂ = c := by
      have h1 : s₂.code? g.method = U.code? g.method := by
        rw [State.code?_eq, State.code?_eq, hW'.alike.method?]
      exact Option.some.inj (hc₂.symm.trans (h1.trans h.code))
    subst hcc
    have hlen : len₂ = len := by rw [hdg] at hd₂; cases hd₂; rfl
    subst hlen
    have hs₂ : s₂ = (({ U with heap := s₂.heap, slotsUsed := s₂.slotsUsed } : State).setVm s₂.vm).setTop { g with pc := g.pc + len₂, stack := v.toList ++ g.stack } := by
      refine e3.trans ?_
      rw [hf₂, State.calling_eq h.top, State.setFrames_setFrames, State.setTop_of_frames _ hr', hr]
      rfl
    have hsame : U.sameButNew ({ U with heap := s₂.heap, slotsUsed := s₂.slotsUsed } : State) L mc ms := by
      refine ⟨?_, q2, q3, q4, q5, q6⟩
      obtain ⟨t, ht, -⟩ := State.frames_cons hr
      show ({ U with heap := s₂.heap, slotsUsed := s₂.slotsUsed } : State) = { U.setFrames U.frames with heap := s₂.heap, slotsUsed := s₂.slotsUsed }
      rw [State.setFrames_self ht]
    subst hg
    refine Or.inl ⟨v, ⟨(({ U with heap := s₂.heap, slotsUsed := s₂.slotsUsed } : State).setVm s₂.vm), Ls ++ L, c0 + mc, s0 + ms⟩,
      ⟨X.admits, X.cas, X.clock, X.frames, X.room, X.hears, X.method, X.code, (X.here.setHeapUsed s₂.heap s₂.slotsUsed).setVm hW'.alike, X.tail, State.WarmedH.trans X.warmed hW', X.limits, X.bytes, X.same.trans (hsame.setVm s.vm)⟩,
      ⟨g, mk, s₂, L, rfl, rfl, hqc, rfl, hL, rfl, rfl⟩, ?_⟩
    show Steps p.tables e below _ ((({ U with heap := s₂.heap, slotsUsed := s₂.slotsUsed } : State).setVm s₂.vm).setTop { g with pc := g.pc + len₂, stack := v.toList ++ g.stack })
    rw [← hs₂]
    exact hsteps
  · obtain ⟨e2, q2, q3, q4, q5, q6⟩ := id hsm
    have e3 : s₂ = ({ (U.calling g mk a).setFrames s₂.frames with heap := s₂.heap, slotsUsed := s₂.slotsUsed } : State).setVm s₂.vm := by
      have : s₂ = ({ s₂ with vm := (U.calling g mk a).vm } : State).setVm s₂.vm := rfl
      rw [e2] at this
      exact this
    have hf₂ : s₂.frames = .throwing q :: .java g :: U.frames.tail := hend
    have hW' : U.WarmedH s₂.vm := hW₂
    have hs₂ : s₂ = ((({ U with heap := s₂.heap, slotsUsed := s₂.slotsUsed } : State).setVm s₂.vm).setTop g).pushFrame (.throwing q) := by
      refine e3.trans ?_
      rw [hf₂, State.calling_eq h.top, State.setFrames_setFrames, State.pushFrame, State.frames_setTop _ hr', State.setTop_of_frames _ hr', State.setFrames_setFrames, hr]
      rfl
    have hsame : U.sameButNew ({ U with heap := s₂.heap, slotsUsed := s₂.slotsUsed } : State) L mc ms := by
      refine ⟨?_, q2, q3, q4, q5, q6⟩
      obtain ⟨t, ht, -⟩ := State.frames_cons hr
      show ({ U with heap := s₂.heap, slotsUsed := s₂.slotsUsed } : State) = { U.setFrames U.frames with heap := s₂.heap, slotsUsed := s₂.slotsUsed }
      rw [State.setFrames_self ht]
    subst hg
    refine Or.inr ⟨q, ⟨(({ U with heap := s₂.heap, slotsUsed := s₂.slotsUsed } : State).setVm s₂.vm), Ls ++ L, c0 + mc, s0 + ms⟩,
      ⟨X.admits, X.cas, X.clock, X.frames, X.room, X.hears, X.method, X.code, (X.here.setHeapUsed s₂.heap s₂.slotsUsed).setVm hW'.alike, X.tail, State.WarmedH.trans X.warmed hW', X.limits, X.bytes, X.same.trans (hsame.setVm s.vm)⟩,
      ⟨g, mk, s₂, L, E, ce, rfl, rfl, hx, hce, hcv, hcl, rfl, hL, rfl, rfl⟩, ?_⟩
    show Steps p.tables e below _ (((({ U with heap := s₂.heap, slotsUsed := s₂.slotsUsed } : State).setVm s₂.vm).setTop g).pushFrame (.throwing q))
    rw [← hs₂]
    exact hsteps
end Payer
section Calls
variable {p : Program} {l : Launch} {e : Env} {R : Room} {s : State} {m : MethodId} {args : Array Value} {below : List Frame} {meth : Method} {c : Code} {T : State} {locs : List Loc} {cells slots : Nat}
theorem vx_callV (X : Stand p l e R s m args below meth c T locs cells slots) (hexec : p.tables.exec = Jvm.exec) {own C : String} {index : Nat} {y : MethodName} {bytes : ByteArray} {maxL : Nat} {ret : Option FieldType}
    (hown : s.vm.findClass own = some m.cls) (hlink : (Cond.methodLink own index y).before args s = true) (hinst : (Cond.instanceMethod y).before args s = true) (hsel : (Cond.selects C y y).before args s = true)
    (hcode : (Cond.code y bytes maxL ret).before args s = true) (hy : y.cls ≠ "java/lang/invoke/MethodHandle" ∧ y.cls ≠ "java/lang/invoke/VarHandle")
    {W9 : Nat} {Pre : Pt → Array Value → Prop} {Post : Pt → Array Value → Option Value → Pt → Prop} {PostX : Pt → Array Value → Addr → Pt → Prop} (hK : vx_Back l R p e below s args y 3 W9 Pre Post PostX)
    {b : Addr} {cellB : Cell} (hcell : T.heap[b]? = some cellB) (hobj : cellB.vm.isStatics = false) (hcls : s.vm.findClass C = some cellB.cls)
    {g : JFrame} (hg : g.method = m) (hsize : g.locals.size = c.maxLocals) {argsL rest : List Value} (hlen : ∀ sig, parseMethodDescriptor y.desc = some sig → argsL.length = sig.parameters.length)
    (hstack : g.stack = argsL.reverse ++ .ref b :: rest) (hW : 2 * g.monitorRoom + (rest.map fun v => v.category).sum ≤ W9) (hdg : decode c.code g.pc = .ok (.invokevirtual index, 3))
    (hpre : ∀ vm₁, s.WarmedH vm₁ → Pre ⟨T.setVm vm₁, locs, cells, slots⟩ (Value.ref b :: argsL).toArray) :
    (∃ (v : Option Value) (vm₁ : Vm) (B : Pt), s.WarmedH vm₁ ∧ Stand p l e R s m args below meth c B.U B.locs B.cells B.slots ∧ Post ⟨T.setVm vm₁, locs, cells, slots⟩ (Value.ref b :: argsL).toArray v B ∧
      ∀ target, Steps p.tables e below (B.U.setTop { g with pc := g.pc + 3, stack := v.toList ++ rest }) target → Steps p.tables e below (T.setTop g) target) ∨
    (∃ (q : Addr) (vm₁ : Vm) (B : Pt), s.WarmedH vm₁ ∧ Stand p l e R s m args below meth c B.U B.locs B.cells B.slots ∧ PostX ⟨T.setVm vm₁, locs, cells, slots⟩ (Value.ref b :: argsL).toArray q B ∧
      Steps p.tables e below (T.setTop g) ((B.U.setTop { g with stack := rest }).pushFrame (.throwing q))) := by
  obtain ⟨mk, methM, hnamed, hmethM, hstM, habM⟩ := Cond.instanceMethod_spec hinst
  obtain ⟨methM', cM, hmethM', -, -, -, -, -, -, hsigM⟩ := Cond.code_spec hnamed hcode
  cases hmethM.symm.trans hmethM'
  obtain ⟨c2, r2, m2, q1, q2, q3, q4, kP, hkP, hkPi⟩ := Cond.selects_spec hsel
  cases hcls.symm.trans q1
  cases (State.methodFound?_of_named hnamed hy).symm.trans q2
  cases hnamed.symm.trans q3
  have hselP : selectMethod e.platform s.vm cellB.cls mk = .method mk := by rw [Launch.admits_selectMethod X.admits]; exact q4
  obtain ⟨vm₁, X₁, hstep₁⟩ := X.invokevirtual hexec hown hlink hnamed hmethM hstM hkP hkPi hy (a := b) (cell := cellB) hcell
    (fun z h => by rw [h] at hobj; cases hobj) hselP hmethM habM hkP hkPi (g := g) hg (argsL := argsL) (rest := rest) (hlen _ hsigM) hstack hdg
  rcases hK m meth c ⟨T.setVm vm₁, locs, cells, slots⟩ { g with stack := rest } (.invokevirtual index) mk (Value.ref b :: argsL).toArray X₁ hg hsize hdg hW (X₁.named hnamed) (hpre vm₁ X₁.warmed) with ⟨v, B, X', hpost, hsteps⟩ | ⟨q, B, X', hpost, hsteps⟩
  · exact Or.inl ⟨v, vm₁, B, X₁.warmed, X', hpost, fun target h => hstep₁ _ fun acts => by rw [doInvoke_state]; exact hsteps.trans h⟩
  · exact Or.inr ⟨q, vm₁, B, X₁.warmed, X', hpost, hstep₁ _ fun acts => by rw [doInvoke_state]; exact hsteps⟩
theorem vx_callS (X : Stand p l e R s m args below meth c T locs cells slots) (hexec : p.tables.exec = Jvm.exec) {own : String} {index : Nat} {y : MethodName} {bytes : ByteArray} {maxL : Nat} {ret : Option FieldType}
    (hown : s.vm.findClass own = some m.cls) (hlink : (Cond.methodLink own index y).before args s = true) (hstat : (Cond.static y).before args s = true) (hinit : (Cond.initialized y.cls).before args s = true)
    (hcode : (Cond.code y bytes maxL ret).before args s = true) (hy : y.cls ≠ "java/lang/invoke/MethodHandle" ∧ y.cls ≠ "java/lang/invoke/VarHandle")
    {W9 : Nat} {Pre : Pt → Array Value → Prop} {Post : Pt → Array Value → Option Value → Pt → Prop} {PostX : Pt → Array Value → Addr → Pt → Prop} (hK : vx_Back l R p e below s args y 3 W9 Pre Post PostX)
    {g : JFrame} (hg : g.method = m) (hsize : g.locals.size = c.maxLocals) {argsL rest : List Value} (hlen : ∀ sig, parseMethodDescriptor y.desc = some sig → argsL.length = sig.parameters.length)
    (hstack : g.stack = argsL.reverse ++ rest) (hW : 2 * g.monitorRoom + (rest.map fun v => v.category).sum ≤ W9) (hdg : decode c.code g.pc = .ok (.invokestatic index, 3))
    (hpre : ∀ vm₁, s.WarmedH vm₁ → Pre ⟨T.setVm vm₁, locs, cells, slots⟩ argsL.toArray) :
    (∃ (v : Option Value) (vm₁ : Vm) (B : Pt), s.WarmedH vm₁ ∧ Stand p l e R s m args below meth c B.U B.locs B.cells B.slots ∧ Post ⟨T.setVm vm₁, locs, cells, slots⟩ argsL.toArray v B ∧
      ∀ target, Steps p.tables e below (B.U.setTop { g with pc := g.pc + 3, stack := v.toList ++ rest }) target → Steps p.tables e below (T.setTop g) target) ∨
    (∃ (q : Addr) (vm₁ : Vm) (B : Pt), s.WarmedH vm₁ ∧ Stand p l e R s m args below meth c B.U B.locs B.cells B.slots ∧ PostX ⟨T.setVm vm₁, locs, cells, slots⟩ argsL.toArray q B ∧
      Steps p.tables e below (T.setTop g) ((B.U.setTop { g with stack := rest }).pushFrame (.throwing q))) := by
  obtain ⟨mk, hnamed⟩ := Cond.code_named hcode
  obtain ⟨methM, cM, hmethM, -, -, -, -, -, -, hsigM⟩ := Cond.code_spec hnamed hcode
  have hstatic : methM.isStatic = true := Cond.static_spec hnamed hmethM hstat
  obtain ⟨kP, hkP, -⟩ := className_of_methodNamed hnamed
  have hinitP : kP.init = .initialized := Cond.initialized_spec (findClass_of_methodNamed hnamed) hkP hinit
  obtain ⟨vm₁, X₁, hstep₁⟩ := X.invokestatic hexec hown hlink hnamed hmethM hstatic hkP hinitP hy (g := g) hg (argsL := argsL) (rest := rest) (hlen _ hsigM) hstack hdg
  rcases hK m meth c ⟨T.setVm vm₁, locs, cells, slots⟩ { g with stack := rest } (.invokestatic index) mk argsL.toArray X₁ hg hsize hdg hW (X₁.named hnamed) (hpre vm₁ X₁.warmed) with ⟨v, B, X', hpost, hsteps⟩ | ⟨q, B, X', hpost, hsteps⟩
  · exact Or.inl ⟨v, vm₁, B, X₁.warmed, X', hpost, fun target h => hstep₁ _ fun acts => by rw [doInvoke_state]; exact hsteps.trans h⟩
  · exact Or.inr ⟨q, vm₁, B, X₁.warmed, X', hpost, hstep₁ _ fun acts => by rw [doInvoke_state]; exact hsteps⟩
end Calls
theorem vx_cls {s : State} {T : State} {vm₁ : Vm} {E : String} {k : ClassId} (hW : s.WarmedH vm₁) (h : (T.setVm vm₁).vm.findClass E = some k) : s.vm.findClass E = some k := by
  have h1 : vm₁.findClass E = some k := h
  rw [hW.alike.findClass] at h1
  exact h1
/-- the method's frame g, with q thrown over it -/
def vx_W (p : Program) (l : Launch) (e : Env) (R : Room) (s : State) (m : MethodId) (args : Array Value) (below : List Frame) (meth : Method) (c : Code) (H : Heap) (locs : List Loc) (cells slots : Nat) (Q : State → Prop) (g : JFrame) (q : Addr) : Prop :=
  ∀ T : State, T.heap = H → Stand p l e R s m args below meth c T locs cells slots → ∃ t, Steps p.tables e below ((T.setTop g).pushFrame (.throwing q)) t ∧ Q t
def vx_Run (p : Program) (l : Launch) (e : Env) (R : Room) (s : State) (m : MethodId) (args : Array Value) (below : List Frame) (meth : Method) (c : Code) (H : Heap) (locs : List Loc) (cells slots mc ms : Nat) (g : JFrame) (rest : List Value) (Qa : State → Outcome → State → Prop) (XC : String → State → State → Prop) (free : Addr → Prop) : Prop :=
  ∀ T : State, T.heap = H → Stand p l e R s m args below meth c T locs cells slots →
    (∃ (v : Option Value) (st₀ t T' : State) (L : List Loc), st₀.heap = H ∧ Stand p l e R s m args below meth c T' (locs ++ L) (cells + mc) (slots + ms) ∧ (∀ q ∈ L, free q.base) ∧ T'.heap = t.heap ∧ T'.vm = t.vm ∧ Qa st₀ (.returned v) t ∧
      Goes p e below T g T' { g with pc := g.pc + 3, stack := v.toList ++ rest }) ∨
    (∃ (q : Addr) (st₀ t T' : State) (L : List Loc) (E : String) (ce : Cell), st₀.heap = H ∧ Stand p l e R s m args below meth c T' (locs ++ L) (cells + mc) (slots + ms) ∧ (∀ z ∈ L, free z.base) ∧ T'.heap = t.heap ∧ T'.vm = t.vm ∧ XC E st₀ t ∧ t.heap[q]? = some ce ∧ ce.vm = .none ∧ s.vm.findClass E = some ce.cls ∧
      Steps p.tables e below (T.setTop g) ((T'.setTop { g with stack := rest }).pushFrame (.throwing q)))
def vx_X {S : Type} (px : S → Prop) (B : String → S → State → Prop) (A : Nat → Prop) : String → State → State → Prop := fun E st t => ∃ u : S, px u ∧ B E u t ∧ va_F A st t
section Runs
variable {p : Program} {l : Launch} {e : Env} {R : Room} {s : State} {m : MethodId} {args : Array Value} {below : List Frame} {meth : Method} {c : Code} {H : Heap} {locs : List Loc} {cells slots : Nat}
variable {y : MethodName} {bytes cc : ByteArray} {maxL nL mc ms n index : Nat} {ret : Option FieldType} {ws : List Cond} {rm : Room} {Pc : Array Value → State → Prop} {Qc : Array Value → State → Outcome → State → Prop} {XC : String → State → State → Prop} {free : Addr → Prop} {Ts : List Cond} {own C : String} {b : Addr} {As rest : List Value} {g : JFrame}
theorem vx_callBack (cb : CallB R s args own index y bytes maxL ret ws rm mc ms n) (hM : vx_Met l y ws rm Pc Qc XC mc ms free) (hbl : FrameBlind Pc) : vx_Back l R p e below s args y 3 8 (PreOf R mc ms Pc) (PostOf Qc mc ms free) (vx_Post XC mc ms free) := by
  obtain ⟨hrc, hrs, hfr, hlo, hws, hcw, -, hini, -⟩ := cb
  exact vx_back (bytes := bytes) (maxL := maxL) (ret := ret) hM hbl hrc hrs hfr hlo hws hcw (fun a' U hW => word_at hW (Or.inl (by first | rfl | simp [Cond.onTables, Cond.keeps, Cond.steady])) hini)
theorem vx_runV (S : CallFix p m c cc nL s args Ts own) (hM : vx_Met l y ws rm Pc Qc XC mc ms free) (cw : CallW R s args own C index y bytes maxL ret ws rm mc ms n) (hp : PreV s H C b Pc As)
    (hg : g.method = m) (hn : As.length = n) (hsize : g.locals.size = nL) (hstack : g.stack = As.reverse ++ .ref b :: rest) (hW : 2 * g.monitorRoom + (rest.map fun v => v.category).sum ≤ 8) (hdg : decode cc g.pc = .ok (.invokevirtual index, 3)) (hf : cells + mc ≤ R.cells ∧ slots + ms ≤ R.slots) :
    vx_Run p l e R s m args below meth c H locs cells slots mc ms g rest (Qc (Value.ref b :: As).toArray) XC free := by
  have hK : vx_Back l R p e below s args y 3 8 (PreOf R mc ms Pc) (PostOf Qc mc ms free) (vx_Post XC mc ms free) := vx_callBack cw.1 hM hp.1
  obtain ⟨⟨-, -, -, -, -, -, hcode, -, hy, hlen, hl⟩, hin, hse⟩ := cw
  obtain ⟨hx, hb, hml, ho, -⟩ := S
  obtain ⟨-, ⟨cellB, hcB, hoB, hclB⟩, hPc⟩ := hp
  intro T hT X
  rcases vx_callV X hx (C := C) (bytes := bytes) (maxL := maxL) (ret := ret) ho hl hin hse hcode hy hK (by rw [hT]; exact hcB) hoB hclB hg (hsize.trans hml.symm) (argsL := As) (rest := rest) (fun sig h => hn.trans (hlen sig h)) hstack hW (by rw [hb]; exact hdg)
    (fun vm₁ hW₁ => ⟨hf.1, hf.2, hPc (T.setVm vm₁) hT hW₁⟩) with ⟨v, vm₁, ⟨U', l2, c2, s2⟩, hW₁, X', ⟨g', mk, t, L, e1, e2, hq, h1, hL, h2, h3⟩, st⟩ | ⟨q, vm₁, ⟨U', l2, c2, s2⟩, hW₁, X', ⟨g', mk, t, L, E, ce, e1, e2, hq, hce, hcv, hcl, h1, hL, h2, h3⟩, st⟩
  · dsimp only [Pt.U, Pt.locs, Pt.cells, Pt.slots] at X' e1 e2 h1 h2 h3 st
    subst h1; subst h2; subst h3
    exact Or.inl ⟨v, (T.setVm vm₁).calling g' mk (Value.ref b :: As).toArray, t, U', L, hT, X', hL, e1, e2, hq, st⟩
  · dsimp only [Pt.U, Pt.locs, Pt.cells, Pt.slots] at X' e1 e2 h1 h2 h3 st hcl
    subst h1; subst h2; subst h3
    exact Or.inr ⟨q, (T.setVm vm₁).calling g' mk (Value.ref b :: As).toArray, t, U', L, E, ce, hT, X', hL, e1, e2, hq, hce, hcv, vx_cls hW₁ hcl, st⟩
theorem vx_runS (S : CallFix p m c cc nL s args Ts own) (hM : vx_Met l y ws rm Pc Qc XC mc ms free) (cw : CallB R s args own index y bytes maxL ret ws rm mc ms n ∧ (Cond.static y).before args s = true) (hp : PreS s H Pc As)
    (hg : g.method = m) (hn : As.length = n) (hsize : g.locals.size = nL) (hstack : g.stack = As.reverse ++ rest) (hW : 2 * g.monitorRoom + (rest.map fun v => v.category).sum ≤ 8) (hdg : decode cc g.pc = .ok (.invokestatic index, 3)) (hf : cells + mc ≤ R.cells ∧ slots + ms ≤ R.slots) :
    vx_Run p l e R s m args below meth c H locs cells slots mc ms g rest (Qc As.toArray) XC free := by
  have hK : vx_Back l R p e below s args y 3 8 (PreOf R mc ms Pc) (PostOf Qc mc ms free) (vx_Post XC mc ms free) := vx_callBack cw.1 hM hp.1
  obtain ⟨⟨-, -, -, -, -, -, hcode, hini, hy, hlen, hl⟩, hstt⟩ := cw
  obtain ⟨hx, hb, hml, ho, -⟩ := S
  intro T hT X
  rcases vx_callS X hx (bytes := bytes) (maxL := maxL) (ret := ret) ho hl hstt hini hcode hy hK hg (hsize.trans hml.symm) (argsL := As) (rest := rest) (fun sig h => hn.trans (hlen sig h)) hstack hW (by rw [hb]; exact hdg)
    (fun vm₁ hW₁ => ⟨hf.1, hf.2, hp.2 (T.setVm vm₁) hT hW₁⟩) with ⟨v, vm₁, ⟨U', l2, c2, s2⟩, hW₁, X', ⟨g', mk, t, L, e1, e2, hq, h1, hL, h2, h3⟩, st⟩ | ⟨q, vm₁, ⟨U', l2, c2, s2⟩, hW₁, X', ⟨g', mk, t, L, E, ce, e1, e2, hq, hce, hcv, hcl, h1, hL, h2, h3⟩, st⟩
  · dsimp only [Pt.U, Pt.locs, Pt.cells, Pt.slots] at X' e1 e2 h1 h2 h3 st
    subst h1; subst h2; subst h3
    exact Or.inl ⟨v, (T.setVm vm₁).calling g' mk As.toArray, t, U', L, hT, X', hL, e1, e2, hq, st⟩
  · dsimp only [Pt.U, Pt.locs, Pt.cells, Pt.slots] at X' e1 e2 h1 h2 h3 st hcl
    subst h1; subst h2; subst h3
    exact Or.inr ⟨q, (T.setVm vm₁).calling g' mk As.toArray, t, U', L, E, ce, hT, X', hL, e1, e2, hq, hce, hcv, vx_cls hW₁ hcl, st⟩
end Runs
section Rows
variable {p : Program} {l : Launch} {e : Env} {R : Room} {s : State} {m : MethodId} {args : Array Value} {below : List Frame} {meth : Method} {c : Code} {H : Heap} {locs : List Loc} {cells slots : Nat} {Q : State → Prop}
variable {mc ms : Nat} {free : Addr → Prop} {A0 A1 : Nat → Prop} {H0 : Heap} {a : Array Value} {pc : Nat} {ls : Array Slot} {st0 rest : List Value}
theorem vx_keep {st₀ t T' : State} {L : List Loc} (h0 : st₀.heap = H) (e1 : T'.heap = t.heap) (hS : va_S A0 H0 H locs) (hA : ∀ q, q < H.size → A1 q → A0 q) (hf : ∀ q, free q → A0 q) (hL : ∀ q ∈ L, free q.base) (hF : va_F A1 st₀ t) :
    H.size ≤ T'.heap.size ∧ (∀ q : Nat, q < H.size → ¬ A1 q → T'.heap[q]? = H[q]?) ∧ va_S A0 H0 T'.heap (locs ++ L) := by
  obtain ⟨hz, hk⟩ := hF
  rw [h0] at hz hk
  exact ⟨by rw [e1]; exact hz, fun q h1 h2 => by rw [e1]; exact hk q h1 h2,
    ⟨Nat.le_trans hS.1 (by rw [e1]; exact hz), fun q h1 h2 => by rw [e1, hk q (Nat.lt_of_lt_of_le h1 hS.1) (fun z => h2 (hA q (Nat.lt_of_lt_of_le h1 hS.1) z))]; exact hS.2.1 q h1 h2, fun q hq => by
      rcases List.mem_append.mp hq with h | h
      · exact hS.2.2 q h
      · exact hf _ (hL q h)⟩⟩
theorem vx_calli {S SX : Type} {post : Int32 → S → Prop} {px : SX → Prop} {B : S → State → Prop} {BX : String → SX → State → Prop} {AX : Nat → Prop} (hr : vx_Run p l e R s m args below meth c H locs cells slots mc ms (F0 m pc ls st0) rest (va_Qi post B A1 a) (vx_X px BX AX) free) (hS : va_S A0 H0 H locs) (hA : ∀ q, q < H.size → A1 q → A0 q) (hf : ∀ q, free q → A0 q) (hAX : ∀ q, q < H.size → AX q → A0 q)
    (kx : ∀ (E : String) (ce : Cell) (q9 : Addr) (u : SX) (t : State) (H1 : Heap) (locs1 : List Loc), t.heap = H1 → s.vm.Alike t.vm → px u → BX E u t → H.size ≤ H1.size → (∀ q : Nat, q < H.size → ¬ AX q → H1[q]? = H[q]?) → va_S A0 H0 H1 locs1 → H1[q9]? = some ce → ce.vm = .none → s.vm.findClass E = some ce.cls → vx_W p l e R s m args below meth c H1 locs1 (cells + mc) (slots + ms) Q (F0 m pc ls rest) q9)
    (kk : ∀ (r : Int32) (u : S) (t : State) (H1 : Heap) (locs1 : List Loc), t.heap = H1 → s.vm.Alike t.vm → post r u → B u t → H.size ≤ H1.size → (∀ q : Nat, q < H.size → ¬ A1 q → H1[q]? = H[q]?) → va_S A0 H0 H1 locs1 → W p l e R s m args below meth c H1 locs1 (cells + mc) (slots + ms) Q (F0 m (pc + 3) ls (.int r :: rest))) : W p l e R s m args below meth c H locs cells slots Q (F0 m pc ls st0) := by
  intro T hT X
  rcases hr T hT X with ⟨v, st₀, t, T', L, h0, X', hL, e1, e2, ⟨⟨r, u, hv, hp, hb⟩, hF⟩, st⟩ | ⟨q, st₀, t, T', L, E, ce, h0, X', hL, e1, e2, ⟨u, hp, hb, hF⟩, hce, hcv, hcl, st⟩
  · cases hv
    obtain ⟨k1, k2, k3⟩ := vx_keep h0 e1 hS hA hf hL hF
    obtain ⟨t2, a1, b1⟩ := kk r u t T'.heap (locs ++ L) e1.symm (by rw [← e2]; exact X'.warmed.alike) hp hb k1 k2 k3 T' rfl X'
    exact ⟨t2, st t2 a1, b1⟩
  · obtain ⟨k1, k2, k3⟩ := vx_keep h0 e1 hS hAX hf hL hF
    obtain ⟨t2, a1, b1⟩ := kx E ce q u t T'.heap (locs ++ L) e1.symm (by rw [← e2]; exact X'.warmed.alike) hp hb k1 k2 k3 (by rw [e1]; exact hce) hcv hcl T' rfl X'
    exact ⟨t2, st.trans a1, b1⟩
theorem vx_calll {S SX : Type} {post : Int64 → S → Prop} {px : SX → Prop} {B : S → State → Prop} {BX : String → SX → State → Prop} {AX : Nat → Prop} (hr : vx_Run p l e R s m args below meth c H locs cells slots mc ms (F0 m pc ls st0) rest (va_Ql post B A1 a) (vx_X px BX AX) free) (hS : va_S A0 H0 H locs) (hA : ∀ q, q < H.size → A1 q → A0 q) (hf : ∀ q, free q → A0 q) (hAX : ∀ q, q < H.size → AX q → A0 q)
    (kx : ∀ (E : String) (ce : Cell) (q9 : Addr) (u : SX) (t : State) (H1 : Heap) (locs1 : List Loc), t.heap = H1 → s.vm.Alike t.vm → px u → BX E u t → H.size ≤ H1.size → (∀ q : Nat, q < H.size → ¬ AX q → H1[q]? = H[q]?) → va_S A0 H0 H1 locs1 → H1[q9]? = some ce → ce.vm = .none → s.vm.findClass E = some ce.cls → vx_W p l e R s m args below meth c H1 locs1 (cells + mc) (slots + ms) Q (F0 m pc ls rest) q9)
    (kk : ∀ (r : Int64) (u : S) (t : State) (H1 : Heap) (locs1 : List Loc), t.heap = H1 → s.vm.Alike t.vm → post r u → B u t → H.size ≤ H1.size → (∀ q : Nat, q < H.size → ¬ A1 q → H1[q]? = H[q]?) → va_S A0 H0 H1 locs1 → W p l e R s m args below meth c H1 locs1 (cells + mc) (slots + ms) Q (F0 m (pc + 3) ls (.long r :: rest))) : W p l e R s m args below meth c H locs cells slots Q (F0 m pc ls st0) := by
  intro T hT X
  rcases hr T hT X with ⟨v, st₀, t, T', L, h0, X', hL, e1, e2, ⟨⟨r, u, hv, hp, hb⟩, hF⟩, st⟩ | ⟨q, st₀, t, T', L, E, ce, h0, X', hL, e1, e2, ⟨u, hp, hb, hF⟩, hce, hcv, hcl, st⟩
  · cases hv
    obtain ⟨k1, k2, k3⟩ := vx_keep h0 e1 hS hA hf hL hF
    obtain ⟨t2, a1, b1⟩ := kk r u t T'.heap (locs ++ L) e1.symm (by rw [← e2]; exact X'.warmed.alike) hp hb k1 k2 k3 T' rfl X'
    exact ⟨t2, st t2 a1, b1⟩
  · obtain ⟨k1, k2, k3⟩ := vx_keep h0 e1 hS hAX hf hL hF
    obtain ⟨t2, a1, b1⟩ := kx E ce q u t T'.heap (locs ++ L) e1.symm (by rw [← e2]; exact X'.warmed.alike) hp hb k1 k2 k3 (by rw [e1]; exact hce) hcv hcl T' rfl X'
    exact ⟨t2, st.trans a1, b1⟩
theorem vx_callf {S SX : Type} {post : UInt32 → S → Prop} {px : SX → Prop} {B : S → State → Prop} {BX : String → SX → State → Prop} {AX : Nat → Prop} (hr : vx_Run p l e R s m args below meth c H locs cells slots mc ms (F0 m pc ls st0) rest (va_Qf post B A1 a) (vx_X px BX AX) free) (hS : va_S A0 H0 H locs) (hA : ∀ q, q < H.size → A1 q → A0 q) (hf : ∀ q, free q → A0 q) (hAX : ∀ q, q < H.size → AX q → A0 q)
    (kx : ∀ (E : String) (ce : Cell) (q9 : Addr) (u : SX) (t : State) (H1 : Heap) (locs1 : List Loc), t.heap = H1 → s.vm.Alike t.vm → px u → BX E u t → H.size ≤ H1.size → (∀ q : Nat, q < H.size → ¬ AX q → H1[q]? = H[q]?) → va_S A0 H0 H1 locs1 → H1[q9]? = some ce → ce.vm = .none → s.vm.findClass E = some ce.cls → vx_W p l e R s m args below meth c H1 locs1 (cells + mc) (slots + ms) Q (F0 m pc ls rest) q9)
    (kk : ∀ (r : UInt32) (u : S) (t : State) (H1 : Heap) (locs1 : List Loc), t.heap = H1 → s.vm.Alike t.vm → post r u → B u t → H.size ≤ H1.size → (∀ q : Nat, q < H.size → ¬ A1 q → H1[q]? = H[q]?) → va_S A0 H0 H1 locs1 → W p l e R s m args below meth c H1 locs1 (cells + mc) (slots + ms) Q (F0 m (pc + 3) ls (.float r :: rest))) : W p l e R s m args below meth c H locs cells slots Q (F0 m pc ls st0) := by
  intro T hT X
  rcases hr T hT X with ⟨v, st₀, t, T', L, h0, X', hL, e1, e2, ⟨⟨r, u, hv, hp, hb⟩, hF⟩, st⟩ | ⟨q, st₀, t, T', L, E, ce, h0, X', hL, e1, e2, ⟨u, hp, hb, hF⟩, hce, hcv, hcl, st⟩
  · cases hv
    obtain ⟨k1, k2, k3⟩ := vx_keep h0 e1 hS hA hf hL hF
    obtain ⟨t2, a1, b1⟩ := kk r u t T'.heap (locs ++ L) e1.symm (by rw [← e2]; exact X'.warmed.alike) hp hb k1 k2 k3 T' rfl X'
    exact ⟨t2, st t2 a1, b1⟩
  · obtain ⟨k1, k2, k3⟩ := vx_keep h0 e1 hS hAX hf hL hF
    obtain ⟨t2, a1, b1⟩ := kx E ce q u t T'.heap (locs ++ L) e1.symm (by rw [← e2]; exact X'.warmed.alike) hp hb k1 k2 k3 (by rw [e1]; exact hce) hcv hcl T' rfl X'
    exact ⟨t2, st.trans a1, b1⟩
theorem vx_calld {S SX : Type} {post : UInt64 → S → Prop} {px : SX → Prop} {B : S → State → Prop} {BX : String → SX → State → Prop} {AX : Nat → Prop} (hr : vx_Run p l e R s m args below meth c H locs cells slots mc ms (F0 m pc ls st0) rest (va_Qd post B A1 a) (vx_X px BX AX) free) (hS : va_S A0 H0 H locs) (hA : ∀ q, q < H.size → A1 q → A0 q) (hf : ∀ q, free q → A0 q) (hAX : ∀ q, q < H.size → AX q → A0 q)
    (kx : ∀ (E : String) (ce : Cell) (q9 : Addr) (u : SX) (t : State) (H1 : Heap) (locs1 : List Loc), t.heap = H1 → s.vm.Alike t.vm → px u → BX E u t → H.size ≤ H1.size → (∀ q : Nat, q < H.size → ¬ AX q → H1[q]? = H[q]?) → va_S A0 H0 H1 locs1 → H1[q9]? = some ce → ce.vm = .none → s.vm.findClass E = some ce.cls → vx_W p l e R s m args below meth c H1 locs1 (cells + mc) (slots + ms) Q (F0 m pc ls rest) q9)
    (kk : ∀ (r : UInt64) (u : S) (t : State) (H1 : Heap) (locs1 : List Loc), t.heap = H1 → s.vm.Alike t.vm → post r u → B u t → H.size ≤ H1.size → (∀ q : Nat, q < H.size → ¬ A1 q → H1[q]? = H[q]?) → va_S A0 H0 H1 locs1 → W p l e R s m args below meth c H1 locs1 (cells + mc) (slots + ms) Q (F0 m (pc + 3) ls (.double r :: rest))) : W p l e R s m args below meth c H locs cells slots Q (F0 m pc ls st0) := by
  intro T hT X
  rcases hr T hT X with ⟨v, st₀, t, T', L, h0, X', hL, e1, e2, ⟨⟨r, u, hv, hp, hb⟩, hF⟩, st⟩ | ⟨q, st₀, t, T', L, E, ce, h0, X', hL, e1, e2, ⟨u, hp, hb, hF⟩, hce, hcv, hcl, st⟩
  · cases hv
    obtain ⟨k1, k2, k3⟩ := vx_keep h0 e1 hS hA hf hL hF
    obtain ⟨t2, a1, b1⟩ := kk r u t T'.heap (locs ++ L) e1.symm (by rw [← e2]; exact X'.warmed.alike) hp hb k1 k2 k3 T' rfl X'
    exact ⟨t2, st t2 a1, b1⟩
  · obtain ⟨k1, k2, k3⟩ := vx_keep h0 e1 hS hAX hf hL hF
    obtain ⟨t2, a1, b1⟩ := kx E ce q u t T'.heap (locs ++ L) e1.symm (by rw [← e2]; exact X'.warmed.alike) hp hb k1 k2 k3 (by rw [e1]; exact hce) hcv hcl T' rfl X'
    exact ⟨t2, st.trans a1, b1⟩
theorem vx_callv {S SX : Type} {post : S → Prop} {px : SX → Prop} {B : S → State → Prop} {BX : String → SX → State → Prop} {AX : Nat → Prop} (hr : vx_Run p l e R s m args below meth c H locs cells slots mc ms (F0 m pc ls st0) rest (va_Qv post B A1 a) (vx_X px BX AX) free) (hS : va_S A0 H0 H locs) (hA : ∀ q, q < H.size → A1 q → A0 q) (hf : ∀ q, free q → A0 q) (hAX : ∀ q, q < H.size → AX q → A0 q)
    (kx : ∀ (E : String) (ce : Cell) (q9 : Addr) (u : SX) (t : State) (H1 : Heap) (locs1 : List Loc), t.heap = H1 → s.vm.Alike t.vm → px u → BX E u t → H.size ≤ H1.size → (∀ q : Nat, q < H.size → ¬ AX q → H1[q]? = H[q]?) → va_S A0 H0 H1 locs1 → H1[q9]? = some ce → ce.vm = .none → s.vm.findClass E = some ce.cls → vx_W p l e R s m args below meth c H1 locs1 (cells + mc) (slots + ms) Q (F0 m pc ls rest) q9)
    (kk : ∀ (u : S) (t : State) (H1 : Heap) (locs1 : List Loc), t.heap = H1 → s.vm.Alike t.vm → post u → B u t → H.size ≤ H1.size → (∀ q : Nat, q < H.size → ¬ A1 q → H1[q]? = H[q]?) → va_S A0 H0 H1 locs1 → W p l e R s m args below meth c H1 locs1 (cells + mc) (slots + ms) Q (F0 m (pc + 3) ls (rest))) : W p l e R s m args below meth c H locs cells slots Q (F0 m pc ls st0) := by
  intro T hT X
  rcases hr T hT X with ⟨v, st₀, t, T', L, h0, X', hL, e1, e2, ⟨⟨u, hv, hp, hb⟩, hF⟩, st⟩ | ⟨q, st₀, t, T', L, E, ce, h0, X', hL, e1, e2, ⟨u, hp, hb, hF⟩, hce, hcv, hcl, st⟩
  · cases hv
    obtain ⟨k1, k2, k3⟩ := vx_keep h0 e1 hS hA hf hL hF
    obtain ⟨t2, a1, b1⟩ := kk u t T'.heap (locs ++ L) e1.symm (by rw [← e2]; exact X'.warmed.alike) hp hb k1 k2 k3 T' rfl X'
    exact ⟨t2, st t2 a1, b1⟩
  · obtain ⟨k1, k2, k3⟩ := vx_keep h0 e1 hS hAX hf hL hF
    obtain ⟨t2, a1, b1⟩ := kx E ce q u t T'.heap (locs ++ L) e1.symm (by rw [← e2]; exact X'.warmed.alike) hp hb k1 k2 k3 (by rw [e1]; exact hce) hcv hcl T' rfl X'
    exact ⟨t2, st.trans a1, b1⟩
end Rows
section Ends
variable {p : Program} {l : Launch} {e : Env} {R : Room} {s : State} {m : MethodId} {args : Array Value} {below : List Frame} {meth : Method} {c : Code} {H : Heap} {locs : List Loc} {cells slots : Nat} {Q : State → Prop}
variable {mc ms : Nat} {free : Addr → Prop} {A0 A1 : Nat → Prop} {H0 : Heap} {a : Array Value} {ls : Array Slot} {st0 rest : List Value}
variable {Qc : Array Value → State → Outcome → State → Prop} {XC : String → State → State → Prop}
/-- what a body that may throw owes at its end -/
def vx_MQ (below : List Frame) (Qc : Array Value → State → Outcome → State → Prop) (XC : String → State → State → Prop) (a : Array Value) (s : State) (mc ms : Nat) (free : Addr → Prop) : State → Prop := fun t =>
  ∃ o, t.status = .running ∧ Ended t below o ∧ vx_Q Qc XC mc ms free a s o t
theorem vx_ret {g : JFrame} {mc ms : Nat} (k : W p l e R s m args below meth c H locs cells slots (MQ below Qc args s mc ms free) g) : W p l e R s m args below meth c H locs cells slots (vx_MQ below Qc XC args s mc ms free) g := by
  intro T hT X
  obtain ⟨t, a1, o, b1, b2, b3, b4⟩ := k T hT X
  exact ⟨t, a1, o, b1, b2, Or.inl ⟨b3, b4⟩⟩
/-- not caught here: it goes on to the caller -/
theorem vx_widen {g : JFrame} {q : Addr} {k n : Nat} (h1 : cells ≤ k) (h2 : slots ≤ n) (kk : vx_W p l e R s m args below meth c H locs k n Q g q) : vx_W p l e R s m args below meth c H locs cells slots Q g q := fun T hT X => kk T hT (stand_widen X h1 h2)
theorem vx_out {pc : Nat} {E : String} {ce : Cell} {q : Addr} {mc ms : Nat} (hout : ∀ x ∈ c.exceptionTable.toList, covers x pc = false) (hlocks : meth.locks = false) (hcell : H[q]? = some ce) (hv : ce.vm = .none) (hcl : s.vm.findClass E = some ce.cls)
    (hx : ∀ t : State, t.heap = H → s.vm.Alike t.vm → XC E s t) (hf : ∀ z ∈ locs, free z.base) (hc : cells ≤ mc) (hs : slots ≤ ms) :
    vx_W p l e R s m args below meth c H locs cells slots (vx_MQ below Qc XC args s mc ms free) (F0 m pc ls rest) q := by
  intro T hT X
  obtain ⟨st1, hrun, hend, hW, hsm⟩ := X.leaveThrown q (g := F0 m pc ls rest) rfl rfl rfl hout hlocks
  have hcell9 : (T.setFrames (.throwing q :: below)).heap[q]? = some ce := by
    show T.heap[q]? = some ce
    rw [hT]; exact hcell
  exact ⟨_, st1, .threw q, hrun, hend, Or.inr ⟨q, rfl, E, ce, locs, hx _ hT hW.alike, hcell9, hv, hcl, hW, hsm.mono hc hs, hf⟩⟩
theorem vx_frame {U : State} {k n : Nat} (h : s.sameButNew ({ U with vm := s.vm } : State) locs k n) : s.heap.size ≤ U.heap.size ∧ ∀ q : Nat, q < s.heap.size → (∀ z ∈ locs, z.base ≠ q) → U.heap[q]? = s.heap[q]? := by
  obtain ⟨-, h2, -, -, -, h6⟩ := h
  refine ⟨h2, fun q hq hz => ?_⟩
  obtain ⟨c9, e1, e2, e3, e4⟩ := h6 q _ (Array.getElem?_eq_getElem hq)
  have hs : c9.slots = (s.heap[q]).slots := Array.ext_getElem? fun i => e4 i fun hm => hz _ hm rfl
  have h9 : c9 = s.heap[q] := by
    rw [hs] at e2
    exact e2
  have e5 : U.heap[q]? = some c9 := e1
  rw [e5, h9, Array.getElem?_eq_getElem hq]
/-- the words of a throw but the four that speak of the heap -/
def vx_no (w : Cond) : Bool := decide (w ≠ .isRef (.static Bundle.tN "UNASSIGNED_STACK" Bundle.steD)) && decide (w ≠ .isRef (.static Bundle.tN "SUPPRESSED_SENTINEL" Bundle.listD)) && decide (w ≠ .laysStatic Bundle.tN "UNASSIGNED_STACK" Bundle.steD) && decide (w ≠ .laysStatic Bundle.tN "SUPPRESSED_SENTINEL" Bundle.listD)
def vx_at0 (own : String) (ic : Nat) (X : String) (names : List String) : List Cond := (Bundle.ownAtoms0 own ic X names).filter vx_no
def vx_atS (own : String) (ic : Nat) (X : String) (names : List String) : List Cond := (Bundle.ownAtoms own ic X names).filter vx_no
/-- a word that the tables alone decide, or a good one -/
def vx_ot (w : Cond) : Bool := w.onTables || goodWord w
theorem vx_ot_at {args a' : Array Value} {s U : State} {w : Cond} (hW : s.WarmedH U.vm) (hvm : s.vm = U.vm) (hg : vx_ot w = true) (h : w.before args s = true) : w.before a' U = true := by
  simp only [vx_ot, Bool.or_eq_true] at hg
  rcases hg with hg | hg
  · exact va_tabs hg hvm h
  · exact word_at hW (good_of_word hg) h
/-- a list's words: the good ones out of the method's own list, the others by premises of their own -/
theorem vx_hat {args : Array Value} {s : State} {L B : List Cond} (h1 : ∀ w ∈ L.filter goodWord, w.before args s = true) (h2 : ∀ w ∈ L.filter (fun w => !goodWord w), w ∈ B) (h3 : ∀ w ∈ B, w.before args s = true) : ∀ w ∈ L, w.before args s = true := by
  intro w hw
  by_cases g : goodWord w = true
  · exact h1 w (List.mem_filter.mpr ⟨hw, g⟩)
  · refine h3 w (h2 w (List.mem_filter.mpr ⟨hw, ?_⟩))
    show (!goodWord w) = true
    cases hgw : goodWord w
    · rfl
    · exact absurd hgw g
theorem vx_c {args : Array Value} {s : State} {w : Cond} {B : List Cond} (h : w.before args s = true) (t : ∀ w ∈ B, w.before args s = true) : ∀ w' ∈ w :: B, w'.before args s = true := fun w' h' => (List.mem_cons.mp h').elim (fun e => by rw [e]; exact h) (t w')
theorem vx_n {args : Array Value} {s : State} : ∀ w ∈ ([] : List Cond), w.before args s = true := fun _ h => nomatch h
theorem vx_own {args : Array Value} {s : State} {L : List Cond} (h1 : ∀ w ∈ L.filter vx_no, w.before args s = true)
    (hU : (Cond.isRef (.static Bundle.tN "UNASSIGNED_STACK" Bundle.steD)).before args s = true) (hN : (Cond.isRef (.static Bundle.tN "SUPPRESSED_SENTINEL" Bundle.listD)).before args s = true)
    (lU : (Cond.laysStatic Bundle.tN "UNASSIGNED_STACK" Bundle.steD).before args s = true) (lN : (Cond.laysStatic Bundle.tN "SUPPRESSED_SENTINEL" Bundle.listD).before args s = true) : ∀ w ∈ L, w.before args s = true := by
  intro w hw
  by_cases e1 : w = .isRef (.static Bundle.tN "UNASSIGNED_STACK" Bundle.steD)
  · rw [e1]; exact hU
  · by_cases e2 : w = .isRef (.static Bundle.tN "SUPPRESSED_SENTINEL" Bundle.listD)
    · rw [e2]; exact hN
    · by_cases e3 : w = .laysStatic Bundle.tN "UNASSIGNED_STACK" Bundle.steD
      · rw [e3]; exact lU
      · by_cases e4 : w = .laysStatic Bundle.tN "SUPPRESSED_SENTINEL" Bundle.listD
        · rw [e4]; exact lN
        · exact h1 w (List.mem_filter.mpr ⟨hw, by unfold vx_no; rw [decide_eq_true e1, decide_eq_true e2, decide_eq_true e3, decide_eq_true e4]; rfl⟩)
/-- where a static field lies, its class's statics cell in H -/
def vx_L (C n d : String) (A : Nat → Prop) (U : State) (H : Heap) : Prop := ∃ (c : ClassId) (k : Class) (i : Nat) (f : Field) (a : Nat) (cell : Cell), U.vm.findClass C = some c ∧ U.fieldFound? C n d = some (c, k, i, f) ∧ f.isStatic = true ∧ k.statics = some a ∧ H[a]? = some cell ∧ cell.vm.isStatics = true ∧ cell.cls = c ∧ f.slot < cell.slots.size ∧ k.staticTypes[f.slot]? = some f.type ∧ ¬ A a
theorem vx_L.moved {C n d : String} {A : Nat → Prop} {u U : State} {H : Heap} (hvm : u.vm.Alike U.vm) (h : vx_L C n d A u H) : vx_L C n d A U H := by
  obtain ⟨c, k, i, f, a, cell, h1, h2, h3, h4, h5, h6, h7, h8, h9, h10⟩ := h
  obtain ⟨k', hi', he⟩ := State.fieldFound?_setVm hvm h2
  exact ⟨c, k', i, f, a, cell, by rw [hvm.findClass]; exact h1, hi', h3, by rw [he]; exact h4, h5, h6, h7, h8, by rw [he]; exact h9, h10⟩
theorem vx_L.kept {C n d : String} {A : Nat → Prop} {U : State} {H H1 : Heap} (h : vx_L C n d A U H) (hq : ∀ a : Nat, a < H.size → ¬ A a → H1[a]? = H[a]?) : vx_L C n d A U H1 := by
  obtain ⟨c, k, i, f, a, cell, h1, h2, h3, h4, h5, h6, h7, h8, h9, h10⟩ := h
  exact ⟨c, k, i, f, a, cell, h1, h2, h3, h4, by rw [hq a (Array.getElem?_eq_some_iff.mp h5).1 h10]; exact h5, h6, h7, h8, h9, h10⟩
theorem vx_L.narrow {C n d : String} {A B : Nat → Prop} {U : State} {H : Heap} (h : vx_L C n d A U H) (hAB : ∀ q, B q → A q) : vx_L C n d B U H := by
  obtain ⟨c, k, i, f, a, cell, h1, h2, h3, h4, h5, h6, h7, h8, h9, h10⟩ := h
  exact ⟨c, k, i, f, a, cell, h1, h2, h3, h4, h5, h6, h7, h8, h9, fun z => h10 (hAB _ z)⟩
theorem vx_L.word {C n d : String} {A : Nat → Prop} {s : State} {args : Array Value} (h : vx_L C n d A s s.heap) : (Cond.laysStatic C n d).before args s = true := by
  obtain ⟨c, k, i, f, a, cell, h1, h2, h3, h4, h5, h6, h7, h8, h9, -⟩ := h
  show (Cond.laysStatic C n d).holds args s none s [] = true
  exact Cond.laysStatic_of h1 h2 h3 h4 h5 h6 h7 h8 h9
/-- .. and what it holds: null or some reference -/
def vx_Zq (C n d : String) (A : Nat → Prop) (U : State) (H : Heap) : Prop := va_Zq C n d A U H ∧ vx_L C n d A U H
theorem vx_Zq.moved {C n d : String} {A : Nat → Prop} {u U : State} {H : Heap} (hvm : u.vm.Alike U.vm) (h : vx_Zq C n d A u H) : vx_Zq C n d A U H := ⟨va_Zq.moved hvm h.1, vx_L.moved hvm h.2⟩
theorem vx_Zq.kept {C n d : String} {A : Nat → Prop} {U : State} {H H1 : Heap} (h : vx_Zq C n d A U H) (hq : ∀ a : Nat, a < H.size → ¬ A a → H1[a]? = H[a]?) : vx_Zq C n d A U H1 := ⟨va_Zq.kept h.1 hq, vx_L.kept h.2 hq⟩
theorem vx_Zq.narrow {C n d : String} {A B : Nat → Prop} {U : State} {H : Heap} (h : vx_Zq C n d A U H) (hAB : ∀ q, B q → A q) : vx_Zq C n d B U H := ⟨va_Zq.narrow h.1 hAB, vx_L.narrow h.2 hAB⟩
theorem vx_Zqof {args : Array Value} {s : State} {C n d : String} {A : Nat → Prop} (hl : (Cond.laysStatic C n d).before args s = true) (hini : (Cond.initialized C).before args s = true) (h : (Cond.isRef (.static C n d)).before args s = true) (hA : ∀ a : Nat, a < s.heap.size → ¬ A a) : vx_Zq C n d A s s.heap := by
  refine ⟨va_Zqof hl hini h hA, ?_⟩
  obtain ⟨c, k, i, f, a, cell, h1, h2, h3, h4, h5, h6, h7, h8, h9⟩ := Cond.laysStatic_spec hl
  exact ⟨c, k, i, f, a, cell, h1, h2, h3, h4, h5, h6, h7, h8, h9, hA a (Array.getElem?_eq_some_iff.mp h5).1⟩
theorem vx_isRef {C n d : String} {v : Value} {A : Nat → Prop} {s : State} {args : Array Value} (h : va_Z C n d v A s s.heap) (hv : v.isRef = true) : (Cond.isRef (.static C n d)).before args s = true := by
  obtain ⟨cf, kf, fi, f, a, cell, h1, h2, h3, h4, h5, h6, h7, -⟩ := h
  have he : (Term.static C n d).eval args s none [] s = some v := by
    simp [Term.eval, State.fieldNamed?, h1, h2, h4, h5, h6, h7]
  simp only [Cond.before, Cond.holds, Cond.value, he]
  cases v <;> simp_all [Value.isRef]
theorem vx_isRefq {C n d : String} {A : Nat → Prop} {s : State} {args : Array Value} (h : va_Zq C n d A s s.heap) : (Cond.isRef (.static C n d)).before args s = true := by
  rcases h with h | ⟨t, h⟩
  · exact vx_isRef h rfl
  · exact vx_isRef h rfl
/-- the same frame, seen from here: as if the method were called anew in this heap -/
theorem vx_rebase {T : State} (X : Stand p l e R s m args below meth c T locs cells slots) {R' : Room} (hf : R'.frames ≤ R.frames) (hl : R'.locals ≤ R.locals) (hc : cells + R'.cells ≤ R.cells) (hs : slots + R'.slots ≤ R.slots) :
    Stand p l e R' ((T.setVm s.vm).setFrames (.invoking m args :: below)) m args below meth c T [] 0 0 := by
  have htop : (T.setVm s.vm).topJava?.isSome := X.here.top
  have hF : ((T.setVm s.vm).setFrames (.invoking m args :: below)).frames = .invoking m args :: below := State.frames_setFrames _ (State.cur_lt_of_top htop)
  obtain ⟨g₀, hg0⟩ := Option.isSome_iff_exists.mp htop
  obtain ⟨r, hr⟩ := State.topJava?_eq_some.mp hg0
  have hl9 : e.platform.stackLimits (T.setVm s.vm).me = e.platform.stackLimits s.me := X.limits
  have hb9 : (T.setVm s.vm).me.stackBytes = s.me.stackBytes := X.bytes
  refine ⟨X.admits, X.cas, X.clock, hF, ?_, X.hears, X.method, X.code, X.here, X.tail, X.warmed, ?_, ?_, ?_⟩
  · have h := X.room
    have hU : ((T.setVm s.vm).setFrames (.invoking m args :: below)).localsInUse = s.localsInUse := by
      rw [State.localsInUse_invoking hF (meth := meth) (c := c) X.method X.code, State.localsInUse_invoking X.frames X.method X.code]
    simp only [State.hasRoom, Bool.and_eq_true, decide_eq_true_eq] at h ⊢
    obtain ⟨⟨⟨⟨h1, h2, h3, h4, h5, h6⟩, h7⟩, h8⟩, h9⟩ := h
    rw [X.frames, List.length_cons] at h2 h3
    have q1 := X.heapSize
    have q2 := X.used
    simp only [hF, hU, List.length_cons, State.stackLimits_setFrames, State.stackBytes_setFrames, hl9, hb9]
    refine ⟨⟨⟨⟨by omega, by omega, by omega, by omega, by omega, h6⟩, ?_⟩, ?_⟩, X.book⟩
    · show T.heap.size + R'.cells ≤ e.platform.maxCells
      omega
    · show T.slotsUsed + R'.slots ≤ e.platform.maxSlots
      omega
  · rw [State.stackLimits_setFrames]; rfl
  · rw [State.stackBytes_setFrames]; rfl
  · refine ⟨?_, Nat.le_refl _, Nat.le_refl _, ?_, ?_, fun a c9 h9 => ⟨c9, h9, rfl, rfl, fun _ _ => rfl⟩⟩
    · obtain ⟨t, ht, -⟩ := State.frames_cons hr
      show T.setVm s.vm = { ((T.setVm s.vm).setFrames (.invoking m args :: below)).setFrames (T.setVm s.vm).frames with heap := T.heap, slotsUsed := T.slotsUsed }
      rw [State.setFrames_setFrames, State.setFrames_self ht]
      rfl
    · show T.slotsUsed = T.slotsUsed + ((T.heap.toList.drop T.heap.size).map (·.slots.size)).sum
      rw [List.drop_eq_nil_of_le (Nat.le_of_eq Array.length_toList)]
      rfl
    · show ((T.heap.toList.drop T.heap.size).map (·.slots.size)).sum ≤ 0
      rw [List.drop_eq_nil_of_le (Nat.le_of_eq Array.length_toList)]
      exact Nat.le_refl _
/-- 'throw new E()': new; dup; invokespecial; athrow -/
theorem vx_throw0 {cc : ByteArray} {pc : Nat} (hexec : p.tables.exec = Jvm.exec) (hb : c.code = cc) (hl : l.stackTraces = false) {own cls : String} {names : List String} {ik ic mc ms : Nat} {A : Nat → Prop}
    (hown : s.vm.findClass own = some m.cls) (hcls : Bundle.fit cls = true) (hnames : ∀ n ∈ names, Bundle.fit n = true)
    (hk : (Cond.classLink own ik cls).before args s = true) (hini : (Cond.initialized cls).before args s = true) (hat : ∀ w ∈ vx_at0 own ic cls names, w.before args s = true)
    (hgood : ∀ w ∈ Cond.classLink own ik cls :: Cond.initialized cls :: vx_at0 own ic cls names, vx_ot w = true)
    (hU : vx_Zq Bundle.tN "UNASSIGNED_STACK" Bundle.steD A s s.heap) (hN : vx_Zq Bundle.tN "SUPPRESSED_SENTINEL" Bundle.listD A s s.heap) (hS : va_S A s.heap H locs) (hsize : ls.size = c.maxLocals)
    (d0 : decode cc pc = .ok (.new ik, 3)) (d3 : decode cc (pc + 3) = .ok (.dup, 1)) (d4 : decode cc (pc + 4) = .ok (.invokespecial ic, 3)) (d7 : decode cc (pc + 7) = .ok (.athrow, 1))
    (hout : ∀ x ∈ c.exceptionTable.toList, covers x (pc + 7) = false)
    (hRframes : names.length + 3 < R.frames) (hRlocals : (rest.map fun v => v.category).sum + (13 * (names.length + 1) + 42) ≤ R.locals) (hRcells : cells + 1 ≤ R.cells) (hRslots : slots + 6 ≤ R.slots) (hlocks : meth.locks = false)
    (hx : ∀ t : State, s.vm.Alike t.vm → H.size ≤ t.heap.size → (∀ q : Nat, q < H.size → t.heap[q]? = H[q]?) → XC cls s t)
    (hf : ∀ z ∈ locs, free z.base) (hc : cells + 1 ≤ mc) (hs : slots + 6 ≤ ms) :
    W p l e R s m args below meth c H locs cells slots (vx_MQ below Qc XC args s mc ms free) (F0 m pc ls rest) := by
  intro T hT X
  have htr : e.platform.stackTraces = false := (show e.platform.stackTraces = l.stackTraces by rw [X.admits.platform]).trans hl
  have Y := vx_rebase X (R' := { frames := R.frames, locals := R.locals, cells := 1, slots := 6 }) (Nat.le_refl _) (Nat.le_refl _) hRcells hRslots
  obtain ⟨s', hA⟩ : ∃ z, z = (T.setVm s.vm).setFrames (.invoking m args :: below) := ⟨_, rfl⟩
  rw [← hA] at Y
  have hvm : s'.vm = s.vm := by rw [hA]; rfl
  have hhp : s'.heap = H := by rw [hA]; exact hT
  have hW0 : s.WarmedH s'.vm := by rw [hvm]; exact State.WarmedH.refl s
  have hat' : ∀ w ∈ vx_at0 own ic cls names, w.before args s' = true := fun w hw => vx_ot_at hW0 hvm.symm (hgood w (List.mem_cons_of_mem _ (List.mem_cons_of_mem _ hw))) (hat w hw)
  have hk' : (Cond.classLink own ik cls).before args s' = true := vx_ot_at hW0 hvm.symm (hgood _ List.mem_cons_self) hk
  have hini' : (Cond.initialized cls).before args s' = true := vx_ot_at hW0 hvm.symm (hgood _ (List.mem_cons_of_mem _ List.mem_cons_self)) hini
  have hU' : vx_Zq Bundle.tN "UNASSIGNED_STACK" Bundle.steD A s' s'.heap := by rw [hhp]; exact vx_Zq.moved hW0.alike (hU.kept hS.2.1)
  have hN' : vx_Zq Bundle.tN "SUPPRESSED_SENTINEL" Bundle.listD A s' s'.heap := by rw [hhp]; exact vx_Zq.moved hW0.alike (hN.kept hS.2.1)
  have h : ∀ w ∈ Bundle.ownAtoms0 own ic cls names, w.before args s' = true := vx_own hat' (vx_isRefq hU'.1) (vx_isRefq hN'.1) hU'.2.word hN'.2.word
  have hown' : s'.vm.findClass own = some m.cls := by rw [hvm]; exact hown
  have hins : (Cond.instantiable cls 6).before args s' = true := h _ (by simp [Bundle.ownAtoms0])
  obtain ⟨vm₁, cX, kX, hfX, hkX, -, -, X₁, st1⟩ := Y.newCold hexec (own := own) (C := cls) (index := ik) (n := 6) hown' hk' hins hini'
    (g := F0 m pc ls rest) rfl (by rw [hb]; exact d0) (Nat.le_refl _) (Nat.le_refl _)
  generalize hT1 : (T.setVm vm₁).pushCell { cls := cX, slots := kX.instanceTypes.map defaultValue, vm := .none } = T1 at X₁ st1
  have hcat : (Value.ref T.heap.size).category = 1 := rfl
  have hcellA : T1.heap[T.heap.size]? = some (freshCell cX kX) := by rw [← hT1]; exact State.heap_pushCell_size _ _
  have d3' : decode c.code (pc + 3) = .ok (.dup, 1) := by rw [hb]; exact d3
  obtain ⟨U, hsteps, hrun, hend, hW, hsame, ce, hce, hO⟩ := X₁.ctorThrow0 hexec htr (own := own) (cls := cls) (names := names) (ic := ic) hown' hcls hnames h (fun x hx => nomatch hx) hfX hkX hcellA (by rw [hhp, hT]; exact Nat.le_refl _)
    (g := { method := m, pc := pc + 4, locals := ls, stack := .ref T.heap.size :: .ref T.heap.size :: rest, locked := none }) rfl hsize rfl rfl (rest := rest) rfl
    (by rw [hb]; exact d4) (by rw [hb]; exact d7) hout hRframes (by simp only [List.map_cons, List.sum_cons, hcat]; omega) hlocks
  obtain ⟨f1, f2⟩ := vx_frame hsame
  rw [hhp] at f1 f2
  have hWs : s.WarmedH U.vm := State.WarmedH.trans hW0 hW
  have hcl : s.vm.findClass cls = some ce.cls := by
    have h9 := hO.cls
    rw [hvm] at h9
    exact h9
  have hall : s.sameButNew ({ U with vm := s.vm } : State) locs mc ms := by
    subst hA
    obtain ⟨e1, e2⟩ := hsame
    rw [State.setFrames_setFrames] at e1
    have h2 : (T.setVm s.vm).sameButNew ({ U with vm := s.vm } : State) [] (0 + 1) (0 + 6) := ⟨e1, e2⟩
    have h3 := X.same.trans h2
    rw [List.append_nil] at h3
    exact h3.mono hc hs
  refine ⟨U, ?_, .threw T.heap.size, hrun, hend, Or.inr ⟨T.heap.size, rfl, cls, ce, locs, hx U hWs.alike f1 (fun q hq => f2 q hq (fun z hz => nomatch hz)), hce, hO.vm, hcl, hWs, hall, hf⟩⟩
  refine st1 _ ?_
  show Steps p.tables e below (T1.setTop { method := m, pc := pc + 3, locals := ls, stack := .ref T.heap.size :: rest, locked := none }) _
  jvm_step X₁.here [X₁.here.top, hexec, d3', Value.category]
  exact hsteps
/-- 'throw new E("text")': new; dup; ldc; invokespecial; athrow -/
theorem vx_throwS {cc : ByteArray} {pc : Nat} (hexec : p.tables.exec = Jvm.exec) (hb : c.code = cc) (hl : l.stackTraces = false) {own cls text : String} {names : List String} {ik is ic mc ms sa : Nat} {A : Nat → Prop}
    (hown : s.vm.findClass own = some m.cls) (hcls : Bundle.fit cls = true) (hnames : ∀ n ∈ names, Bundle.fit n = true)
    (hk : (Cond.classLink own ik cls).before args s = true) (hini : (Cond.initialized cls).before args s = true) (hstr : vk_R own is text sa s) (hat : ∀ w ∈ vx_atS own ic cls names, w.before args s = true)
    (hgood : ∀ w ∈ Cond.classLink own ik cls :: Cond.initialized cls :: vx_atS own ic cls names, vx_ot w = true)
    (hU : vx_Zq Bundle.tN "UNASSIGNED_STACK" Bundle.steD A s s.heap) (hN : vx_Zq Bundle.tN "SUPPRESSED_SENTINEL" Bundle.listD A s s.heap) (hS : va_S A s.heap H locs) (hsize : ls.size = c.maxLocals)
    (d0 : decode cc pc = .ok (.new ik, 3)) (d3 : decode cc (pc + 3) = .ok (.dup, 1)) (d4 : decode cc (pc + 4) = .ok (.ldc is, 2)) (d6 : decode cc (pc + 6) = .ok (.invokespecial ic, 3)) (d9 : decode cc (pc + 9) = .ok (.athrow, 1))
    (hout : ∀ x ∈ c.exceptionTable.toList, covers x (pc + 9) = false)
    (hRframes : names.length + 3 < R.frames) (hRlocals : (rest.map fun v => v.category).sum + (13 * (names.length + 1) + 43) ≤ R.locals) (hRcells : cells + 1 ≤ R.cells) (hRslots : slots + 6 ≤ R.slots) (hlocks : meth.locks = false)
    (hx : ∀ t : State, s.vm.Alike t.vm → H.size ≤ t.heap.size → (∀ q : Nat, q < H.size → t.heap[q]? = H[q]?) → XC cls s t)
    (hf : ∀ z ∈ locs, free z.base) (hc : cells + 1 ≤ mc) (hs : slots + 6 ≤ ms) :
    W p l e R s m args below meth c H locs cells slots (vx_MQ below Qc XC args s mc ms free) (F0 m pc ls rest) := by
  intro T hT X
  have htr : e.platform.stackTraces = false := (show e.platform.stackTraces = l.stackTraces by rw [X.admits.platform]).trans hl
  have Y := vx_rebase X (R' := { frames := R.frames, locals := R.locals, cells := 1, slots := 6 }) (Nat.le_refl _) (Nat.le_refl _) hRcells hRslots
  obtain ⟨s', hA⟩ : ∃ z, z = (T.setVm s.vm).setFrames (.invoking m args :: below) := ⟨_, rfl⟩
  rw [← hA] at Y
  have hvm : s'.vm = s.vm := by rw [hA]; rfl
  have hhp : s'.heap = H := by rw [hA]; exact hT
  have hW0 : s.WarmedH s'.vm := by rw [hvm]; exact State.WarmedH.refl s
  have hat' : ∀ w ∈ vx_atS own ic cls names, w.before args s' = true := fun w hw => vx_ot_at hW0 hvm.symm (hgood w (List.mem_cons_of_mem _ (List.mem_cons_of_mem _ hw))) (hat w hw)
  have hk' : (Cond.classLink own ik cls).before args s' = true := vx_ot_at hW0 hvm.symm (hgood _ List.mem_cons_self) hk
  have hini' : (Cond.initialized cls).before args s' = true := vx_ot_at hW0 hvm.symm (hgood _ (List.mem_cons_of_mem _ List.mem_cons_self)) hini
  have hU' : vx_Zq Bundle.tN "UNASSIGNED_STACK" Bundle.steD A s' s'.heap := by rw [hhp]; exact vx_Zq.moved hW0.alike (hU.kept hS.2.1)
  have hN' : vx_Zq Bundle.tN "SUPPRESSED_SENTINEL" Bundle.listD A s' s'.heap := by rw [hhp]; exact vx_Zq.moved hW0.alike (hN.kept hS.2.1)
  have h : ∀ w ∈ Bundle.ownAtoms own ic cls names, w.before args s' = true := vx_own hat' (vx_isRefq hU'.1) (vx_isRefq hN'.1) hU'.2.word hN'.2.word
  have hown' : s'.vm.findClass own = some m.cls := by rw [hvm]; exact hown
  have hins : (Cond.instantiable cls 6).before args s' = true := h _ (by simp [Bundle.ownAtoms])
  obtain ⟨vm₁, cX, kX, hfX, hkX, -, -, X₁, st1⟩ := Y.newCold hexec (own := own) (C := cls) (index := ik) (n := 6) hown' hk' hins hini'
    (g := F0 m pc ls rest) rfl (by rw [hb]; exact d0) (Nat.le_refl _) (Nat.le_refl _)
  generalize hT1 : (T.setVm vm₁).pushCell { cls := cX, slots := kX.instanceTypes.map defaultValue, vm := .none } = T1 at X₁ st1
  have hcat : (Value.ref T.heap.size).category = 1 := rfl
  have hcellA : T1.heap[T.heap.size]? = some (freshCell cX kX) := by rw [← hT1]; exact State.heap_pushCell_size _ _
  have d3' : decode c.code (pc + 3) = .ok (.dup, 1) := by rw [hb]; exact d3
  have d4' : decode c.code (pc + 4) = .ok (.ldc is, 2) := by rw [hb]; exact d4
  have hstr' : vk_R own is text sa s' := vk_R.warm hW0 hstr
  obtain ⟨U, hsteps, hrun, hend, hW, hsame, ce, hce, hO⟩ := X₁.ctorThrowS hexec htr (own := own) (cls := cls) (names := names) (ic := ic) hown' hcls hnames h (fun x hx => nomatch hx) hfX hkX hcellA (by rw [hhp, hT]; exact Nat.le_refl _) (msg := .ref sa) rfl
    (g := { method := m, pc := pc + 6, locals := ls, stack := .ref sa :: .ref T.heap.size :: .ref T.heap.size :: rest, locked := none }) rfl hsize rfl rfl (rest := rest) rfl
    (by rw [hb]; exact d6) (by rw [hb]; exact d9) hout hRframes (by simp only [List.map_cons, List.sum_cons, hcat]; omega) hlocks
  obtain ⟨f1, f2⟩ := vx_frame hsame
  rw [hhp] at f1 f2
  have hWs : s.WarmedH U.vm := State.WarmedH.trans hW0 hW
  have hcl : s.vm.findClass cls = some ce.cls := by
    have h9 := hO.cls
    rw [hvm] at h9
    exact h9
  have hall : s.sameButNew ({ U with vm := s.vm } : State) locs mc ms := by
    subst hA
    obtain ⟨e1, e2⟩ := hsame
    rw [State.setFrames_setFrames] at e1
    have h2 : (T.setVm s.vm).sameButNew ({ U with vm := s.vm } : State) [] (0 + 1) (0 + 6) := ⟨e1, e2⟩
    have h3 := X.same.trans h2
    rw [List.append_nil] at h3
    exact h3.mono hc hs
  refine ⟨U, ?_, .threw T.heap.size, hrun, hend, Or.inr ⟨T.heap.size, rfl, cls, ce, locs, hx U hWs.alike f1 (fun q hq => f2 q hq (fun z hz => nomatch hz)), hce, hO.vm, hcl, hWs, hall, hf⟩⟩
  refine st1 _ ?_
  show Steps p.tables e below (T1.setTop { method := m, pc := pc + 3, locals := ls, stack := .ref T.heap.size :: rest, locked := none }) _
  jvm_step X₁.here [X₁.here.top, hexec, d3', Value.category]
  exact X₁.ldcString hexec (own := own) (text := text) (index := is) (a := sa) hown' hstr'.1 hstr'.2
    (g := { method := m, pc := pc + 4, locals := ls, stack := .ref T.heap.size :: .ref T.heap.size :: rest, locked := none }) rfl d4' _ hsteps
/-- 'throw new E("text")', the text by a wide index -/
theorem vx_throwSW {cc : ByteArray} {pc : Nat} (hexec : p.tables.exec = Jvm.exec) (hb : c.code = cc) (hl : l.stackTraces = false) {own cls text : String} {names : List String} {ik is ic mc ms sa : Nat} {A : Nat → Prop}
    (hown : s.vm.findClass own = some m.cls) (hcls : Bundle.fit cls = true) (hnames : ∀ n ∈ names, Bundle.fit n = true)
    (hk : (Cond.classLink own ik cls).before args s = true) (hini : (Cond.initialized cls).before args s = true) (hstr : vk_R own is text sa s) (hat : ∀ w ∈ vx_atS own ic cls names, w.before args s = true)
    (hgood : ∀ w ∈ Cond.classLink own ik cls :: Cond.initialized cls :: vx_atS own ic cls names, vx_ot w = true)
    (hU : vx_Zq Bundle.tN "UNASSIGNED_STACK" Bundle.steD A s s.heap) (hN : vx_Zq Bundle.tN "SUPPRESSED_SENTINEL" Bundle.listD A s s.heap) (hS : va_S A s.heap H locs) (hsize : ls.size = c.maxLocals)
    (d0 : decode cc pc = .ok (.new ik, 3)) (d3 : decode cc (pc + 3) = .ok (.dup, 1)) (d4 : decode cc (pc + 4) = .ok (.ldc_w is, 3)) (d7 : decode cc (pc + 7) = .ok (.invokespecial ic, 3)) (d10 : decode cc (pc + 10) = .ok (.athrow, 1))
    (hout : ∀ x ∈ c.exceptionTable.toList, covers x (pc + 10) = false)
    (hRframes : names.length + 3 < R.frames) (hRlocals : (rest.map fun v => v.category).sum + (13 * (names.length + 1) + 43) ≤ R.locals) (hRcells : cells + 1 ≤ R.cells) (hRslots : slots + 6 ≤ R.slots) (hlocks : meth.locks = false)
    (hx : ∀ t : State, s.vm.Alike t.vm → H.size ≤ t.heap.size → (∀ q : Nat, q < H.size → t.heap[q]? = H[q]?) → XC cls s t)
    (hf : ∀ z ∈ locs, free z.base) (hc : cells + 1 ≤ mc) (hs : slots + 6 ≤ ms) :
    W p l e R s m args below meth c H locs cells slots (vx_MQ below Qc XC args s mc ms free) (F0 m pc ls rest) := by
  intro T hT X
  have htr : e.platform.stackTraces = false := (show e.platform.stackTraces = l.stackTraces by rw [X.admits.platform]).trans hl
  have Y := vx_rebase X (R' := { frames := R.frames, locals := R.locals, cells := 1, slots := 6 }) (Nat.le_refl _) (Nat.le_refl _) hRcells hRslots
  obtain ⟨s', hA⟩ : ∃ z, z = (T.setVm s.vm).setFrames (.invoking m args :: below) := ⟨_, rfl⟩
  rw [← hA] at Y
  have hvm : s'.vm = s.vm := by rw [hA]; rfl
  have hhp : s'.heap = H := by rw [hA]; exact hT
  have hW0 : s.WarmedH s'.vm := by rw [hvm]; exact State.WarmedH.refl s
  have hat' : ∀ w ∈ vx_atS own ic cls names, w.before args s' = true := fun w hw => vx_ot_at hW0 hvm.symm (hgood w (List.mem_cons_of_mem _ (List.mem_cons_of_mem _ hw))) (hat w hw)
  have hk' : (Cond.classLink own ik cls).before args s' = true := vx_ot_at hW0 hvm.symm (hgood _ List.mem_cons_self) hk
  have hini' : (Cond.initialized cls).before args s' = true := vx_ot_at hW0 hvm.symm (hgood _ (List.mem_cons_of_mem _ List.mem_cons_self)) hini
  have hU' : vx_Zq Bundle.tN "UNASSIGNED_STACK" Bundle.steD A s' s'.heap := by rw [hhp]; exact vx_Zq.moved hW0.alike (hU.kept hS.2.1)
  have hN' : vx_Zq Bundle.tN "SUPPRESSED_SENTINEL" Bundle.listD A s' s'.heap := by rw [hhp]; exact vx_Zq.moved hW0.alike (hN.kept hS.2.1)
  have h : ∀ w ∈ Bundle.ownAtoms own ic cls names, w.before args s' = true := vx_own hat' (vx_isRefq hU'.1) (vx_isRefq hN'.1) hU'.2.word hN'.2.word
  have hown' : s'.vm.findClass own = some m.cls := by rw [hvm]; exact hown
  have hins : (Cond.instantiable cls 6).before args s' = true := h _ (by simp [Bundle.ownAtoms])
  obtain ⟨vm₁, cX, kX, hfX, hkX, -, -, X₁, st1⟩ := Y.newCold hexec (own := own) (C := cls) (index := ik) (n := 6) hown' hk' hins hini'
    (g := F0 m pc ls rest) rfl (by rw [hb]; exact d0) (Nat.le_refl _) (Nat.le_refl _)
  generalize hT1 : (T.setVm vm₁).pushCell { cls := cX, slots := kX.instanceTypes.map defaultValue, vm := .none } = T1 at X₁ st1
  have hcat : (Value.ref T.heap.size).category = 1 := rfl
  have hcellA : T1.heap[T.heap.size]? = some (freshCell cX kX) := by rw [← hT1]; exact State.heap_pushCell_size _ _
  have d3' : decode c.code (pc + 3) = .ok (.dup, 1) := by rw [hb]; exact d3
  have d4' : decode c.code (pc + 4) = .ok (.ldc_w is, 3) := by rw [hb]; exact d4
  have hstr' : vk_R own is text sa s' := vk_R.warm hW0 hstr
  obtain ⟨U, hsteps, hrun, hend, hW, hsame, ce, hce, hO⟩ := X₁.ctorThrowS hexec htr (own := own) (cls := cls) (names := names) (ic := ic) hown' hcls hnames h (fun x hx => nomatch hx) hfX hkX hcellA (by rw [hhp, hT]; exact Nat.le_refl _) (msg := .ref sa) rfl
    (g := { method := m, pc := pc + 7, locals := ls, stack := .ref sa :: .ref T.heap.size :: .ref T.heap.size :: rest, locked := none }) rfl hsize rfl rfl (rest := rest) rfl
    (by rw [hb]; exact d7) (by rw [hb]; exact d10) hout hRframes (by simp only [List.map_cons, List.sum_cons, hcat]; omega) hlocks
  obtain ⟨f1, f2⟩ := vx_frame hsame
  rw [hhp] at f1 f2
  have hWs : s.WarmedH U.vm := State.WarmedH.trans hW0 hW
  have hcl : s.vm.findClass cls = some ce.cls := by
    have h9 := hO.cls
    rw [hvm] at h9
    exact h9
  have hall : s.sameButNew ({ U with vm := s.vm } : State) locs mc ms := by
    subst hA
    obtain ⟨e1, e2⟩ := hsame
    rw [State.setFrames_setFrames] at e1
    have h2 : (T.setVm s.vm).sameButNew ({ U with vm := s.vm } : State) [] (0 + 1) (0 + 6) := ⟨e1, e2⟩
    have h3 := X.same.trans h2
    rw [List.append_nil] at h3
    exact h3.mono hc hs
  refine ⟨U, ?_, .threw T.heap.size, hrun, hend, Or.inr ⟨T.heap.size, rfl, cls, ce, locs, hx U hWs.alike f1 (fun q hq => f2 q hq (fun z hz => nomatch hz)), hce, hO.vm, hcl, hWs, hall, hf⟩⟩
  refine st1 _ ?_
  show Steps p.tables e below (T1.setTop { method := m, pc := pc + 3, locals := ls, stack := .ref T.heap.size :: rest, locked := none }) _
  jvm_step X₁.here [X₁.here.top, hexec, d3', Value.category]
  exact X₁.ldcStringW hexec (own := own) (text := text) (index := is) (a := sa) hown' hstr'.1 hstr'.2
    (g := { method := m, pc := pc + 4, locals := ls, stack := .ref T.heap.size :: .ref T.heap.size :: rest, locked := none }) rfl d4' _ hsteps
end Ends
section Bodies
variable {l : Launch}
theorem vx_ofW {y : MethodName} {ws ws' : List Cond} {rm : Room} {Pc : Array Value → State → Prop} {Qc : Array Value → State → Outcome → State → Prop} {XC : String → State → State → Prop} {mc ms : Nat} {free : Addr → Prop} {cc : ByteArray} {maxL : Nat} {ret : Option FieldType}
    (hy : plainName y.cls = true) (hw : ws = Cond.code y cc maxL ret :: ws')
    (body : ∀ p e s m args below meth c s₁, BodyLoose p l y (headSpec ws rm) cc maxL ret e s m args below meth c s₁ → c.maxLocals = maxL → (∀ x ∈ c.exceptionTable.toList, False) → Pc args s →
      W p l e (headSpec ws rm).room s m args below meth c s.heap [] 0 0 (vx_MQ below Qc XC args s mc ms free) (entryFrame m args maxL)) : vx_Met l y ws rm Pc Qc XC mc ms free := by
  refine MetFree.of_bodyS (code := cc) (maxLocals := maxL) (ret := ret) hy ?_ ?_
  · intro args s m h hn
    obtain ⟨meth, c, h1, h2, h3, h4, h5, h6, -, -⟩ := Cond.code_spec hn (atoms_spec (ws := ws) h _ (by rw [hw]; exact List.mem_cons_self))
    exact ⟨meth, c, h1, h2, h3, h4, h5, h6⟩
  · intro p e s m args below meth c s₁ B hml hP _
    have hh0 : s₁.heap = s.heap := by rw [B.state]; rfl
    have ht : ∀ x ∈ c.exceptionTable.toList, False := by
      obtain ⟨meth9, c9, h1, h2, -, -, -, -, h7, -⟩ := Cond.code_spec B.named (atoms_spec (ws := ws) B.pre _ (by rw [hw]; exact List.mem_cons_self))
      cases Option.some.inj (h1.symm.trans B.method)
      cases Option.some.inj (h2.symm.trans (Stand.of_body B).code)
      intro x hx
      rw [Array.isEmpty_iff.mp h7] at hx
      cases hx
    obtain ⟨t, a1, o, b1, b2, b3⟩ := body p e s m args below meth c s₁ B hml ht hP s₁ hh0 (Stand.of_body B)
    exact ⟨t, o, a1, b1, b2, b3⟩
/-- the table of a body with handlers -/
theorem vx_table {p : Program} {x y : MethodName} {S : Spec} {cc bytes : ByteArray} {maxL maxL' : Nat} {ret ret' : Option FieldType} {e : Env} {s s₁ : State} {m : MethodId} {args : Array Value} {below : List Frame} {meth : Method} {c : Code} {hh : List (Nat × Nat × Nat × Nat)}
    (B : BodyLoose p l y S cc maxL ret e s m args below meth c s₁) (h : (Cond.codeWith y bytes maxL' ret' hh).before args s = true) : c.exceptionTable.toList = tableOf hh := by
  obtain ⟨m9, meth9, c9, hn9, h1, h2, -, -, h6, -⟩ := Cond.codeWith_spec h
  cases Option.some.inj (hn9.symm.trans B.named)
  cases Option.some.inj (h1.symm.trans B.method)
  cases Option.some.inj (h2.symm.trans (Stand.of_body B).code)
  rw [← h6, table_eq]
end Bodies
end VXA
section VXS
variable {p : Program} {l : Launch} {e : Env} {R : Room} {s : State} {m : MethodId} {args : Array Value} {below : List Frame} {meth : Method} {c : Code} {T : State} {H : Heap} {locs : List Loc} {cells slots : Nat}
abbrev vx_CSW (R : Room) (s : State) (args : Array Value) (own : String) (index : Nat) (y : MethodName) (bytes : ByteArray) (maxL : Nat) (ret : Option FieldType) (hh : List (Nat × Nat × Nat × Nat)) (ws : List Cond) (rm : Room) (mc ms n : Nat) : Prop :=
  (rm.cells = mc ∧ rm.slots = ms ∧ rm.frames + 1 ≤ R.frames ∧ 8 + (maxL + 11) + rm.locals ≤ R.locals ∧ (∀ w ∈ ws, ∀ (a' : Array Value) (U : State), s.WarmedH U.vm → w.before a' U = true) ∧ Cond.codeWith y bytes maxL ret hh ∈ ws) ∧
  (Cond.codeWith y bytes maxL ret hh).before args s = true ∧ (Cond.initialized y.cls).before args s = true ∧ (y.cls ≠ "java/lang/invoke/MethodHandle" ∧ y.cls ≠ "java/lang/invoke/VarHandle") ∧
  (∀ sig, parseMethodDescriptor y.desc = some sig → n = sig.parameters.length) ∧ (Cond.methodLink own index y).before args s = true ∧ (Cond.static y).before args s = true
theorem vx_cwSW {own : String} {index maxL mc ms : Nat} {y : MethodName} {bytes : ByteArray} {ret : Option FieldType} {hh : List (Nat × Nat × Nat × Nat)} {Ts ws ws' : List Cond} {rm : Room} (n : Nat) (ht : ∀ w ∈ Ts, w.before args s = true) (hT : GoodIn Ts (va_wsS own index y ws)) (hw : ws = Cond.codeWith y bytes maxL ret hh :: ws') (hrc : rm.cells = mc) (hrs : rm.slots = ms)
    (hd : y.cls ≠ "java/lang/invoke/MethodHandle" ∧ y.cls ≠ "java/lang/invoke/VarHandle" ∧ (parseMethodDescriptor y.desc).map (fun d => d.parameters.length) = some n) (hR : rm.frames + 1 ≤ R.frames ∧ 8 + (maxL + 11) + rm.locals ≤ R.locals) :
    vx_CSW R s args own index y bytes maxL ret hh ws rm mc ms n := by
  have ok : ∀ w ∈ va_wsS own index y ws, w.before args s = true := fun w h => ht w (hT w h).1
  have hG : GoodIn Ts ws := fun w h => hT w (by unfold va_wsS; exact List.mem_append_right _ h)
  have hc : Cond.codeWith y bytes maxL ret hh ∈ ws := by rw [hw]; exact List.mem_cons_self
  refine ⟨⟨hrc, hrs, hR.1, hR.2, pay_in ht hG, hc⟩, ht _ (hG _ hc).1, ok _ (by simp [va_wsS]), ⟨hd.1, hd.2.1⟩, fun sig h => ?_, ok _ (by simp [va_wsS]), ok _ (by simp [va_wsS])⟩
  have h2 := hd.2.2
  rw [h] at h2
  exact (Option.some.inj h2).symm
theorem vx_callSW (X : Stand p l e R s m args below meth c T locs cells slots) (hexec : p.tables.exec = Jvm.exec) {own : String} {index : Nat} {y : MethodName} {bytes : ByteArray} {maxL : Nat} {ret : Option FieldType} {hh : List (Nat × Nat × Nat × Nat)}
    (hown : s.vm.findClass own = some m.cls) (hlink : (Cond.methodLink own index y).before args s = true) (hstat : (Cond.static y).before args s = true) (hinit : (Cond.initialized y.cls).before args s = true)
    (hcode : (Cond.codeWith y bytes maxL ret hh).before args s = true) (hy : y.cls ≠ "java/lang/invoke/MethodHandle" ∧ y.cls ≠ "java/lang/invoke/VarHandle")
    {W9 : Nat} {Pre : Pt → Array Value → Prop} {Post : Pt → Array Value → Option Value → Pt → Prop} (hK : Back l R p e below s args y 3 W9 Pre Post)
    {g : JFrame} (hg : g.method = m) (hsize : g.locals.size = c.maxLocals) {argsL rest : List Value} (hlen : ∀ sig, parseMethodDescriptor y.desc = some sig → argsL.length = sig.parameters.length)
    (hstack : g.stack = argsL.reverse ++ rest) (hW : 2 * g.monitorRoom + (rest.map fun v => v.category).sum ≤ W9) (hdg : decode c.code g.pc = .ok (.invokestatic index, 3))
    (hpre : ∀ vm₁, s.WarmedH vm₁ → Pre ⟨T.setVm vm₁, locs, cells, slots⟩ argsL.toArray) :
    ∃ (v : Option Value) (vm₁ : Vm) (B : Pt), s.WarmedH vm₁ ∧ Stand p l e R s m args below meth c B.U B.locs B.cells B.slots ∧ Post ⟨T.setVm vm₁, locs, cells, slots⟩ argsL.toArray v B ∧
      ∀ target, Steps p.tables e below (B.U.setTop { g with pc := g.pc + 3, stack := v.toList ++ rest }) target → Steps p.tables e below (T.setTop g) target := by
  obtain ⟨mk, methM, cM, hnamed, hmethM, -, -, -, -, -, -, hsigM⟩ := Cond.codeWith_spec hcode
  have hstatic : methM.isStatic = true := Cond.static_spec hnamed hmethM hstat
  obtain ⟨kP, hkP, -⟩ := className_of_methodNamed hnamed
  have hinitP : kP.init = .initialized := Cond.initialized_spec (findClass_of_methodNamed hnamed) hkP hinit
  obtain ⟨vm₁, X₁, hstep₁⟩ := X.invokestatic hexec hown hlink hnamed hmethM hstatic hkP hinitP hy (g := g) hg (argsL := argsL) (rest := rest) (hlen _ hsigM) hstack hdg
  obtain ⟨v, B, X', hpost, hsteps⟩ := hK m meth c ⟨T.setVm vm₁, locs, cells, slots⟩ { g with stack := rest } (.invokestatic index) mk argsL.toArray X₁ hg hsize hdg hW (X₁.named hnamed) (hpre vm₁ X₁.warmed)
  exact ⟨v, vm₁, B, X₁.warmed, X', hpost, fun target h => hstep₁ _ fun acts => by rw [doInvoke_state]; exact hsteps.trans h⟩
theorem vx_runSW {y : MethodName} {bytes cc : ByteArray} {maxL nL mc ms n index : Nat} {ret : Option FieldType} {hh : List (Nat × Nat × Nat × Nat)} {ws : List Cond} {rm : Room} {Pc : Array Value → State → Prop} {Qc : Array Value → State → Outcome → State → Prop} {free : Addr → Prop} {Ts : List Cond} {own : String} {As rest : List Value} {g : JFrame}
    (S : CallFix p m c cc nL s args Ts own) (hM : Met l y ws rm Pc Qc mc ms free) (cw : vx_CSW R s args own index y bytes maxL ret hh ws rm mc ms n) (hp : PreS s H Pc As)
    (hg : g.method = m) (hn : As.length = n) (hsize : g.locals.size = nL) (hstack : g.stack = As.reverse ++ rest) (hW : 2 * g.monitorRoom + (rest.map fun v => v.category).sum ≤ 8) (hdg : decode cc g.pc = .ok (.invokestatic index, 3)) (hf : cells + mc ≤ R.cells ∧ slots + ms ≤ R.slots) :
    va_Run p l e R s m args below meth c H locs cells slots mc ms g rest (Qc As.toArray) (free) := by
  obtain ⟨⟨hrc, hrs, hfr, hlo, hws, hcw⟩, hcode, hini, hy, hlen, hl, hstt⟩ := cw
  have hK : Back l R p e below s args y 3 8 (PreOf R mc ms Pc) (PostOf Qc mc ms free) := va_backW (hh := hh) (bytes := bytes) (maxL := maxL) (ret := ret) hM hp.1 hrc hrs hfr hlo hws hcw (fun a' U hW => word_at hW (Or.inl (by first | rfl | simp [Cond.onTables, Cond.keeps, Cond.steady])) hini)
  obtain ⟨hx, hb, hml, ho, -⟩ := S
  intro T hT X
  obtain ⟨v, vm₁, ⟨U', l2, c2, s2⟩, hW₁, X', ⟨g', mk, t, L, e1, e2, hq, h1, hL, h2, h3⟩, st⟩ := vx_callSW X hx (hh := hh) (bytes := bytes) (maxL := maxL) (ret := ret) ho hl hstt hini hcode hy hK hg (hsize.trans hml.symm) (argsL := As) (rest := rest) (fun sig h => hn.trans (hlen sig h)) hstack hW (by rw [hb]; exact hdg)
    (fun vm₁ hW₁ => ⟨hf.1, hf.2, hp.2 (T.setVm vm₁) hT hW₁⟩)
  dsimp only [Pt.U, Pt.locs, Pt.cells, Pt.slots] at X' e1 e2 h1 h2 h3 st
  subst h1; subst h2; subst h3
  exact ⟨v, (T.setVm vm₁).calling g' mk As.toArray, t, U', L, hT, X', hL, e1, e2, hq, st⟩
/-- a thing of a world lies in the heap -/
theorem vx_lt {D : va_G} {cl : List vw_C} {ws : va_W} {H1 : Heap} (h : va_P D cl ws H1) {k : Nat} {q : Nat × va_E} (hk : ws[k]? = some q) : q.1 < H1.size := (h k q hk).lt
end VXS
end MH84vxx0
section MH84vxx1
section MG85pxx0
/-! runs that stop at given places -/
section PX
variable {T : pm_Tab} {stop : Nat → Bool} {k fr lo : Nat} {st st' : pm_St}
def px_run (T : pm_Tab) (stop : Nat → Bool) : Nat → Nat → Nat → Nat → pm_St → Option (pm_Rs ⊕ pm_St)
  | 0, _, _, _, _ => none
  | n + 1, fr, lo, k, st => cond (stop st.1) (some (.inr st)) (match pm_end T k st with
    | some r => some (.inl r)
    | none => match pm_step T (fun fr lo t as h sz sl => pm_run T n fr lo t (0, pm_l0 as (pm_max T t), [], h, sz, sl)) fr lo k st with
      | some st' => px_run T stop n fr lo k st'
      | none => none)
def px_sz (o : pm_Rs ⊕ pm_St) : Nat × Nat := match o with
  | .inl r => r.2.2
  | .inr st => st.2.2.2.2
theorem px_mono : ∀ (n fr lo k : Nat) (st : pm_St) (o : pm_Rs ⊕ pm_St), px_run T stop n fr lo k st = some o → st.2.2.2.2.1 ≤ (px_sz o).1 ∧ st.2.2.2.2.2 ≤ (px_sz o).2
  | 0, _, _, _, _, _, h => by cases h
  | n + 1, fr, lo, k, st, o, h => by
    unfold px_run at h
    cases hs : stop st.1 with
    | true =>
      rw [hs] at h
      cases h
      exact ⟨Nat.le_refl _, Nat.le_refl _⟩
    | false =>
      rw [hs] at h
      dsimp only [cond] at h
      split at h
      · rename_i r' e1
        cases h
        unfold pm_end at e1
        split at e1
        · cases e1
        · split at e1
          · split at e1
            · cases e1; exact ⟨Nat.le_refl _, Nat.le_refl _⟩
            · cases e1
          · cases e1
      · split at h
        · rename_i st' e2
          have ih := px_mono n fr lo k st' o h
          have h2 := pm_step_mono (fun fr lo t as h sz sl r q => pm_mono n _ _ _ _ _ q) e2
          omega
        · cases h
/-- from st the method ends with Q, or comes to a place of stop, with X -/
def pw_X (T : pm_Tab) (stop : Nat → Bool) (fr lo k : Nat) (st : pm_St) (Q : pm_Rs → Prop) (X : pm_St → Prop) : Prop := ∃ n o, px_run T stop n fr lo k st = some o ∧ (match o with
  | .inl r => Q r
  | .inr st' => stop st'.1 = true ∧ X st')
variable {Q Q' : pm_Rs → Prop} {X X' : pm_St → Prop}
theorem pw_mono (h : pw_X T stop fr lo k st Q X) (hq : ∀ r, Q r → Q' r) (hx : ∀ s, X s → X' s) : pw_X T stop fr lo k st Q' X' := by
  obtain ⟨n, o, h1, h2⟩ := h
  refine ⟨n, o, h1, ?_⟩
  cases o with
  | inl r => exact hq r h2
  | inr s => exact ⟨h2.1, hx s h2.2⟩
theorem px_run_succ : ∀ (n fr lo k : Nat) (st : pm_St) (o : pm_Rs ⊕ pm_St), px_run T stop n fr lo k st = some o → px_run T stop (n + 1) fr lo k st = some o
  | 0, _, _, _, _, _, h => by cases h
  | n + 1, fr, lo, k, st, o, h => by
    unfold px_run at h
    unfold px_run
    cases hs : stop st.1 with
    | true => rw [hs] at h; exact h
    | false =>
      rw [hs] at h
      dsimp only [cond] at h ⊢
      cases e1 : pm_end T k st with
      | some r' => rw [e1] at h; exact h
      | none =>
        rw [e1] at h
        dsimp only at h ⊢
        cases e2 : pm_step T (fun fr lo t as h sz sl => pm_run T n fr lo t (0, pm_l0 as (pm_max T t), [], h, sz, sl)) fr lo k st with
        | none => rw [e2] at h; cases h
        | some st' =>
          rw [e2] at h
          rw [pm_step_go (fun fr lo t as h sz sl r q => pm_run_succ n _ _ _ _ _ q) e2]
          exact px_run_succ n _ _ _ _ _ h
theorem px_run_le {n n' : Nat} {o : pm_Rs ⊕ pm_St} (hn : n ≤ n') (h : px_run T stop n fr lo k st = some o) : px_run T stop n' fr lo k st = some o := by
  induction hn with
  | refl => exact h
  | step _ ih => exact px_run_succ _ _ _ _ _ _ ih
theorem pw_stop (hs : stop st.1 = true) (hx : X st) : pw_X T stop fr lo k st Q X := ⟨1, .inr st, by unfold px_run; rw [hs]; rfl, hs, hx⟩
theorem pw_step (hs : stop st.1 = false) (h : pm_step T pm_go0 fr lo k st = some st') (kk : pw_X T stop fr lo k st' Q X) : pw_X T stop fr lo k st Q X := by
  obtain ⟨n, o, h1, h2⟩ := kk
  refine ⟨n + 1, o, ?_, h2⟩
  unfold px_run
  rw [hs, pm_end_no h, pm_step_go (go' := fun fr lo t as h sz sl => pm_run T n fr lo t (0, pm_l0 as (pm_max T t), [], h, sz, sl)) (fun _ _ _ _ _ _ _ _ q => by cases q) h]
  exact h1
theorem pw_end {r : pm_Rs} (hs : stop st.1 = false) (h : pm_end T k st = some r) (hq : Q r) : pw_X T stop fr lo k st Q X := ⟨1, .inl r, by unfold px_run; rw [hs, h]; rfl, hq⟩
theorem pm_cd_step {n t : Nat} {As rest : List Value} {r : pm_Rs} (h : pm_cd T k st = some (t, As, rest)) (hf : 1 ≤ fr) (hl : 19 + pm_max T t ≤ lo) (hr : pm_run T n (fr - 1) (lo - (19 + pm_max T t)) t (0, pm_l0 As (pm_max T t), [], st.2.2.2) = some r) : pm_step T (fun fr lo t as h sz sl => pm_run T n fr lo t (0, pm_l0 as (pm_max T t), [], h, sz, sl)) fr lo k st = some (st.1 + 3, st.2.1, r.1.toList ++ rest, r.2) := by
  unfold pm_cd at h
  unfold pm_step
  cases e1 : pm_ins T k st.1 with
  | none => rw [e1] at h; cases h
  | some il =>
    obtain ⟨i, len⟩ := il
    rw [e1] at h
    dsimp only at h ⊢
    by_cases e2 : pm_lenOk i len = true
    · rw [if_pos e2] at h ⊢
      cases e3 : pm_callee T k i with
      | none => rw [e3] at h; cases h
      | some wt =>
        obtain ⟨w, t'⟩ := wt
        rw [e3] at h
        dsimp only at h ⊢
        split at h
        · rename_i e4
          cases h
          rw [if_pos ⟨e4.1, e4.2.1, e4.2.2.1, hf, hl, e4.2.2.2⟩]
          have e5 : pm_run T n (fr - 1) (lo - (19 + pm_max T t)) t (0, pm_l0 (st.2.2.1.take (pm_na T t)).reverse (pm_max T t), [], st.2.2.2.1, st.2.2.2.2.1, st.2.2.2.2.2) = some r := hr
          rw [e5]
        · cases h
    · rw [if_neg e2] at h; cases h
theorem pw_call {t : Nat} {As rest : List Value} (hs : stop st.1 = false) (h : pm_cd T k st = some (t, As, rest)) (hf : 1 ≤ fr) (hl : 19 + pm_max T t ≤ lo)
    (kk : pm_WP T (fr - 1) (lo - (19 + pm_max T t)) t (0, pm_l0 As (pm_max T t), [], st.2.2.2) (fun r => pw_X T stop fr lo k (st.1 + 3, st.2.1, r.1.toList ++ rest, r.2) Q X)) : pw_X T stop fr lo k st Q X := by
  obtain ⟨n, r, h1, n2, o, h2, h3⟩ := kk
  have a1 := pm_run_le (Nat.le_max_left n n2) h1
  have a2 := px_run_le (Nat.le_max_right n n2) h2
  refine ⟨max n n2 + 1, o, ?_, h3⟩
  have hst := pm_cd_step h hf hl a1
  unfold px_run
  rw [hs, pm_end_no hst, hst]
  exact a2
end PX
section PXV
variable {p : Program} {l : Launch} {e : Env} {R : Room} {s : State} {m : MethodId} {args : Array Value} {below : List Frame} {meth : Method} {c : Code} {Q : State → Prop}
variable {T : pm_Tab} {G Ns : List Cond} {D : va_G} {aC : Nat → ClassId} {b g k fr lo sz0 sl0 : Nat} {stop : Nat → Bool}
/-- such a run, in any method that stands -/
theorem px_V (OK : pm_ok T G Ns) (hC : pm_C T G Ns D aC b k p s m args meth c) (hfr : R.frames = fr) (hlo : R.locals = lo) (hs0 : s.heap.size = b + sz0 + g) {o : pm_Rs ⊕ pm_St} (ho : px_sz o = (sz0, sl0))
    (hq : ∀ r st1, o = .inl r → pm_end T k st1 = some r → st1.2.2.2.2 = (sz0, sl0) → pm_V p l e R s m args below meth c Q T D aC b k sz0 sl0 st1) (hx : ∀ st1, o = .inr st1 → pm_V p l e R s m args below meth c Q T D aC b k sz0 sl0 st1) :
    ∀ (n : Nat) (st : pm_St), sz0 ≤ st.2.2.2.2.1 → sl0 ≤ st.2.2.2.2.2 → px_run T stop n fr lo k st = some o → pm_V p l e R s m args below meth c Q T D aC b k sz0 sl0 st
  | 0, _, _, _, h => by cases h
  | n + 1, st, h0, h1, h => by
    have hm := px_mono _ _ _ _ _ _ h
    rw [ho] at hm
    dsimp only at hm
    unfold px_run at h
    cases hs : stop st.1 with
    | true =>
      rw [hs] at h
      cases h
      exact hx st rfl
    | false =>
      rw [hs] at h
      dsimp only [cond] at h
      split at h
      · rename_i r' e1
        cases h
        exact hq r' st rfl e1 (by
          have a : st.2.2.2.2.1 = sz0 := by omega
          have b : st.2.2.2.2.2 = sl0 := by omega
          rw [← a, ← b])
      · split at h
        · rename_i st' e2
          have hm1 := px_mono _ _ _ _ _ _ h
          rw [ho] at hm1
          dsimp only at hm1
          have hm2 := pm_step_mono (fun fr lo t as h sz sl r q => pm_mono n _ _ _ _ _ q) e2
          refine pm_step_ok OK hC hfr hlo hs0 (by omega) h0 h1 (by omega) (by omega) (fun fr lo t as h sz sl r q1 q2 q3 => ?_) e2 (px_V OK hC hfr hlo hs0 ho hq hx n st' (by omega) (by omega) h)
          have hm3 := pm_mono _ _ _ _ _ _ q3
          exact ⟨hm3.1, hm3.2, fun hg => pm_sound OK n fr lo t as h sz sl r q1 hg q2 q3⟩
        · cases h
end PXV
end MG85pxx0
section MG85pxx1
/-! contracts of methods that may stop at given places -/
section SXR
variable {T : pm_Tab} {B : Nat → ac} {sz sl : Nat}
theorem sx_step_ok {F F0 : fr_F} {PP : pm_H → Prop} (hF0 : ∀ h h', fm F0 h h' → fm F h h') (hPP : pp_ok F0 PP) {go : Nat → Nat → Nat → List av → ah → Option (List ar)} {fr lo k : Nat} {s : ast} {ss : List ast} {st : pm_St} {Q : pm_Rs → Prop} {X : pm_St → Prop} {stop : Nat → Bool} (hs0 : stop st.1 = false) (hgo : ∀ fr lo t as o Rc, go fr lo t as o = some Rc → ∀ As h, as_ok As as → ah_ok B sz o h → PP h → pm_WP T fr lo t (0, pm_l0 As (pm_max T t), [], h, sz, sl) (fun x => (∃ r, r ∈ Rc ∧ ar_ok B sz sl r x) ∧ fm F h x.2.1 ∧ PP x.2.1)) (es : aa_stepF T B sz F0 go fr lo k s = some ss) (hok : ast_ok B sz sl s st) (hp : PP st.2.2.2.1) (kk : ∀ st', (∃ t, t ∈ ss ∧ ast_ok B sz sl t st') → fm F st.2.2.2.1 st'.2.2.2.1 → PP st'.2.2.2.1 → pw_X T stop fr lo k st' Q X) : pw_X T stop fr lo k st Q X := by
  unfold aa_stepF at es
  cases ec : aa_cd T B sz k s with
  | some tar =>
    obtain ⟨t, as, rest⟩ := tar
    rw [ec] at es
    dsimp only at es
    split at es
    · rename_i hfl
      split at es
      · rename_i Rc ego
        cases es
        obtain ⟨As, Rest, c1, c2, c3⟩ := aa_cd_ok ec hok
        have hsz := hok.2.2.2.2
        obtain ⟨pc, L, S, h, sz', sl'⟩ := st
        dsimp only at hsz hp kk
        obtain ⟨rfl, rfl⟩ := hsz
        refine pw_call hs0 c1 hfl.1 hfl.2 (wp_mono (hgo _ _ t as _ Rc ego As h c2 hok.2.2.2.1 hp) ?_)
        rintro ⟨rv, h1, sz1, sl1⟩ ⟨⟨r, hr, q1, q2, q3, q4⟩, q5, q6⟩
        refine kk _ ⟨_, List.mem_map_of_mem hr, ?_⟩ q5 q6
        refine ⟨by show pc + 3 = s.1 + 3; rw [← hok.1], hok.2.1, ?_, q2, q3, q4⟩
        obtain ⟨r1, r2⟩ := r
        dsimp only at q1 ⊢
        cases rv with
        | none =>
          cases r1 with
          | none => exact c3
          | some a => exact q1.elim
        | some v =>
          cases r1 with
          | none => exact q1.elim
          | some a => exact ⟨q1, c3⟩
      · cases es
    · cases es
  | none =>
    rw [ec] at es
    dsimp only at es
    cases ei : pm_ins T k s.1 with
    | none => rw [ei] at es; cases es
    | some il =>
      obtain ⟨i, len⟩ := il
      rw [ei] at es
      dsimp only at es
      cases ew : wr T F0 k i s.2.2.1 with
      | false => rw [ew] at es; cases es
      | true =>
        rw [ew] at es
        dsimp only [cond] at es
        split at es
        · rename_i hq
          obtain ⟨h1, hL, hS, hH, h5, h6⟩ := hok
          obtain ⟨pc, L, S, h, sz', sl'⟩ := st
          dsimp only at h1 hL hS hH h5 h6 hp kk
          subst h1 h5 h6
          obtain ⟨st', g1, s2, g2, g3⟩ := aa_simple_ok (pc := s.1) es hL hS hH
          have hfm := wr_ok ew hS g1
          refine pw_step hs0 (st' := st') ?_ (kk _ ⟨s2, g2, g3⟩ (hF0 _ _ hfm) (hPP _ _ hfm hp))
          unfold pm_step
          dsimp only
          rw [ei]
          dsimp only
          rw [if_pos hq.1, hq.2]
          exact g1
        · cases es
/-- runs that stop at the states of Z; nothing is done at a stop -/
def sx_run (stop : Nat → Bool) (Z : List ast) (K : kn) (T : pm_Tab) (B : Nat → ac) (sz : Nat) (F : fr_F) (J : Nat → ast → ast → Bool) (jo : Nat → ar → ar → Bool) (P : Nat → Nat → List sp) : Nat → Nat → Nat → Nat → List ast → List ar → Option (List ar)
  | 0, _, _, _, _, _ => none
  | n + 1, fr, lo, k, W, R => match W with
    | [] => some R
    | s :: W => cond (stop s.1) (cond (Z.any (fun z => ast_le B s z)) (sx_run stop Z K T B sz F J jo P n fr lo k W R) none) (match cx_each (cx_one T B sz F (fun fr lo t as o => match K t as o with
        | some (Rc, Fr, Lo) => if Fr ≤ fr ∧ Lo ≤ lo then some Rc else none
        | none => cx_run K T B sz F J jo P n fr lo t [(0, aa_l0 as (pm_max T t), [], o)] []) fr lo k) (sp_all B sz (P k s.1) [s]) with
      | some (A, ss) => sx_run stop Z K T B sz F J jo P n fr lo k (cx_all B (J k) ss W) (cx_outs B (jo k) A R)
      | none => none)
theorem sx_run_ok {stop : Nat → Bool} {Z : List ast} {F F0 : fr_F} {PP : pm_H → Prop} (hF0 : ∀ h h', fm F0 h h' → fm F h h') (hPP : pp_ok F0 PP) {K : kn} (hK : kn_ok K T B sz F PP) {J : Nat → ast → ast → Bool} {jo : Nat → ar → ar → Bool} {P : Nat → Nat → List sp} : ∀ (n fr lo k : Nat) (W : List ast) (R R' : List ar), sx_run stop Z K T B sz F0 J jo P n fr lo k W R = some R' → (∀ x, (∃ r, r ∈ R ∧ ar_ok B sz sl r x) → ∃ r, r ∈ R' ∧ ar_ok B sz sl r x) ∧ ∀ st, (∃ s, s ∈ W ∧ ast_ok B sz sl s st) → PP st.2.2.2.1 → ∀ (Q : pm_Rs → Prop) (X : pm_St → Prop), (∀ x, (∃ r, r ∈ R' ∧ ar_ok B sz sl r x) → fm F st.2.2.2.1 x.2.1 → PP x.2.1 → Q x) → (∀ st', (∃ z, z ∈ Z ∧ ast_ok B sz sl z st') → fm F st.2.2.2.1 st'.2.2.2.1 → PP st'.2.2.2.1 → X st') → pw_X T stop fr lo k st Q X
  | 0, _, _, _, _, _, _, e => by cases e
  | n + 1, fr, lo, k, W, R, R', e => by
    unfold sx_run at e
    match W, e with
    | [], e =>
      cases (Option.some.inj e : R = R')
      exact ⟨fun x h => h, fun st h => by obtain ⟨s, hs, _⟩ := h; cases hs⟩
    | s :: W, e =>
      dsimp only at e
      cases hst : stop s.1 with
      | true =>
        rw [hst] at e
        dsimp only [cond] at e
        cases hz : Z.any (fun z => ast_le B s z) with
        | false => rw [hz] at e; cases e
        | true =>
        rw [hz] at e
        dsimp only [cond] at e
        obtain ⟨i1, i2⟩ := sx_run_ok hF0 hPP hK n fr lo k _ _ R' e
        refine ⟨i1, fun st h hp Q X hQ hS => ?_⟩
        obtain ⟨s', hs', hok⟩ := h
        rcases List.mem_cons.mp hs' with rfl | hs'
        · obtain ⟨z, hzm, hzl⟩ := List.any_eq_true.mp hz
          exact pw_stop (by rw [hok.1]; exact hst) (hS st ⟨z, hzm, ast_le_ok hzl hok⟩ (fm_rf _) hp)
        · exact i2 st ⟨s', hs', hok⟩ hp Q X hQ hS
      | false =>
        rw [hst] at e
        dsimp only [cond] at e
        split at e
        · rename_i A ss es
          obtain ⟨i1, i2⟩ := sx_run_ok hF0 hPP hK n fr lo k _ _ R' e
          refine ⟨fun x h => i1 x (cx_outs_ok (Or.inr h)), fun st h hp Q X hQ hS => ?_⟩
          obtain ⟨s', hs', hok⟩ := h
          rcases List.mem_cons.mp hs' with rfl | hs'
          · obtain ⟨t, ht, htok⟩ := sp_all_ok (P k s'.1) [s'] ⟨s', List.mem_singleton_self _, hok⟩
            rcases cx_each_mem es t ht with ⟨a, h1, h2⟩ | ⟨st2, h1, h2⟩
            · unfold cx_one at h1
              split at h1
              · rename_i r ee
                cases h1
                obtain ⟨q, e1, e2⟩ := aE_end_ok ee htok
                have hh : q.2.1 = st.2.2.2.1 := by
                  unfold pm_end at e1
                  split at e1
                  · cases e1
                  · split at e1
                    · split at e1
                      · cases e1; rfl
                      · cases e1
                    · cases e1
                refine pw_end (by rw [hok.1]; exact hst) e1 (hQ q (i1 q (cx_outs_ok (Or.inl ⟨_, h2, e2⟩))) ?_ ?_)
                · rw [hh]; exact fm_rf _
                · rw [hh]; exact hp
              · split at h1
                · cases h1
                · cases h1
            · unfold cx_one at h1
              split at h1
              · cases h1
              · split at h1
                · rename_i ss2 ee
                  cases h1
                  refine sx_step_ok hF0 hPP (by rw [hok.1]; exact hst) ?_ ee htok hp (fun st' hst' hf' hp' => ?_)
                  · intro fr lo t as o Rc ego As h hAs hh hph
                    split at ego
                    · rename_i Rc' Fr Lo ek
                      split at ego
                      · rename_i hfl
                        cases ego
                        exact hK t as o Rc Fr Lo ek As h fr lo sl hAs hh hph hfl.1 hfl.2
                      · cases ego
                    · exact (cx_run_ok hF0 hPP hK n fr lo t _ [] Rc ego).2 _ ⟨_, List.mem_singleton_self _, rfl, al_l0 hAs _, trivial, hh, rfl, rfl⟩ hph
                  · obtain ⟨u, hu, huok⟩ := hst'
                    exact i2 st' (cx_all_ok (Or.inl ⟨u, h2 u hu, huok⟩)) hp' Q X (fun x hx hfx => hQ x hx (fm_tr hf' hfx)) (fun st2 hz2 hf2 => hS st2 hz2 (fm_tr hf' hf2))
                · cases h1
          · exact i2 st (cx_all_ok (Or.inr ⟨s', hs', hok⟩)) hp Q X hQ hS
        · cases e
end SXR
end MG85pxx1
section MG85pxx2
/-! the class's four that may throw: they end, or come to a 'new' -/
section THR
def tx_stop (t pc : Nat) : Bool := match pm_ins PT t pc, pm_ins PT t (pc + 3), pm_ins PT t (pc + 4), pm_ins PT t (pc + 7) with
  | some (.new 129, 3), some (.dup, 1), some (.invokespecial 131, 3), some (.athrow, 1) => true
  | _, _, _, _ => false
/-- nothing is joined in court, between, gift -/
def cxJt (k : Nat) (s t : ast) : Bool := cond (Nat.ble 91 k && Nat.ble k 93) false (cxJ k s t)
def sx_chk (Z : List ast) (K : kn) (ps : List sp) (n fr lo k : Nat) (as : List av) (ans : List (Option av)) : Bool := match sx_run (tx_stop k) Z K PT bB 198 cxF cxJt cxjo cxP2 n fr lo k (sp_all bB 198 ps [(0, aa_l0 as (pm_max PT k), [], [])]) [] with
  | some R => R.all (fun r => ans.any (fun a => ao_le r.1 a) && ah_le bB r.2 [])
  | none => false
theorem sx_con {Z : List ast} {K : kn} (hK : kn_ok K PT bB 198 cxF cxQ) {ps : List sp} {n fr lo k : Nat} {as : List av} {ans : List (Option av)} (hZ : ∀ z, z ∈ Z → z.2.2 = ([], [])) (e : sx_chk Z K ps n fr lo k as ans = true) {As : List Value} {h : pm_H} {sl : Nat} (hAs : as_ok As as) (hh : ah_ok bB 198 [] h) : pw_X PT (tx_stop k) fr lo k (0, pm_l0 As (pm_max PT k), [], h, 198, sl) (fun x => (∃ a, a ∈ ans ∧ ao_ok x.1 a) ∧ x.2.2 = (198, sl) ∧ fm cxF h x.2.1 ∧ ah_ok bB 198 [] x.2.1) (fun st => st.2.2.1 = [] ∧ st.2.2.2.2 = (198, sl) ∧ fm cxF h st.2.2.2.1 ∧ ah_ok bB 198 [] st.2.2.2.1) := by
  unfold sx_chk at e
  split at e
  · rename_i R eR
    obtain ⟨t, ht, htok⟩ := sp_all_ok (B := bB) (sz := 198) (sl := sl) (st := (0, pm_l0 As (pm_max PT k), [], h, 198, sl)) ps [(0, aa_l0 as (pm_max PT k), [], [])] ⟨_, List.mem_singleton_self _, rfl, al_l0 hAs _, trivial, hh, rfl, rfl⟩
    refine (sx_run_ok (sl := sl) (fun _ _ q => q) cxpp hK n fr lo k _ [] R eR).2 _ ⟨t, ht, htok⟩ trivial _ _ (fun x hx hf _ => ?_) (fun st' hz hf _ => ?_)
    · obtain ⟨r, hr, q1, q2, q3, q4⟩ := hx
      have er := List.all_eq_true.mp e r hr
      rw [Bool.and_eq_true] at er
      obtain ⟨a, ha, hle⟩ := List.any_eq_true.mp er.1
      obtain ⟨xv, xh, xs, xl⟩ := x
      dsimp only at q3 q4
      subst q3 q4
      exact ⟨⟨a, ha, ao_le_ok hle q1⟩, rfl, hf, ah_le_ok er.2 q2⟩
    · obtain ⟨z, hz1, hz2⟩ := hz
      have e2 := hZ z hz1
      obtain ⟨q1, q2, q3, q4, q5, q6⟩ := hz2
      obtain ⟨pc, L, S, h', s', l'⟩ := st'
      obtain ⟨zp, zL, zS, zo⟩ := z
      cases e2
      dsimp only at q3 q4 q5 q6
      subst q5 q6
      refine ⟨?_, rfl, hf, q4⟩
      cases S with
      | nil => rfl
      | cons v S => exact q3.elim
  · cases e
def zt (n pc : Nat) : ast := (pc, List.replicate n none, [], [])
def cxKt : kn := kl bB cxF [cxt139, cxt91, cxt144, cxt2]
theorem cxKt_ok : kn_ok cxKt PT bB 198 cxF cxQ := kl_ok (List.forall_mem_cons.mpr ⟨cxo139, List.forall_mem_cons.mpr ⟨cxo91, List.forall_mem_cons.mpr ⟨cxo144, List.forall_mem_cons.mpr ⟨cxo2, fun _ h => (by cases h)⟩⟩⟩⟩)
theorem zt_ok {n pc : Nat} : (zt n pc).2.2 = ([], []) := rfl
theorem th_court : sx_chk [zt 3 11, zt 3 156] cxKt [(0, 1, 0, 0, [-1, 5])] 1000 2046 83954 91 [(2, 0, 1), ai_top, ai_top] [some ai_top] = true := by decide +kernel
theorem th_between : sx_chk [zt 5 12, zt 5 106] cxKt [(0, 1, 0, 0, [-1, 5]), (0, 2, 0, 0, [-1, 5])] 1000 2046 83951 92 [(2, 0, 1), ai_top, ai_top, ai_top] [some ai_top] = true := by decide +kernel
theorem th_gift : sx_chk [zt 3 11, zt 3 127] cxKt [(0, 1, 0, 0, [-1, 7])] 1000 2046 83954 93 [(2, 0, 1), ai_top, ai_top] [some ai_top] = true := by decide +kernel
theorem th_row : sx_chk [zt 2 15] cxKt [] 1000 2046 83956 128 [(2, 0, 1), ai_top] [some al_top] = true := by decide +kernel
end THR
end MG85pxx2
section MG85pxx3
/-! the class's court, between, gift, row write nothing on their way -/
section XNW
def px_H (o : pm_Rs ⊕ pm_St) : pm_H := match o with
  | .inl r => r.2.1
  | .inr st => st.2.2.2.1
def nwx_ok (stop : Nat → Bool) (k : Nat) : Prop := ∀ pc i len, stop pc = false → pm_ins PT k pc = some (i, len) → nw_i i = true ∧ (∀ w t, pm_callee PT k i = some (w, t) → nw_K t = true) ∧ ∀ j w x, (i = .invokestatic j ∨ i = .invokespecial j) → pm_mlk PT (pm_o PT k) j = some (w, x) → w ≠ 9
theorem px_run_nw {stop : Nat → Bool} {k : Nat} (hK : nwx_ok stop k) : ∀ (n fr lo : Nat) (st : pm_St) (o : pm_Rs ⊕ pm_St), px_run PT stop n fr lo k st = some o → px_H o = st.2.2.2.1
  | 0, _, _, _, _, h => by cases h
  | n + 1, fr, lo, st, o, h => by
    unfold px_run at h
    cases hs : stop st.1 with
    | true =>
      rw [hs] at h
      cases h
      rfl
    | false =>
      rw [hs] at h
      dsimp only [cond] at h
      split at h
      · rename_i r' e1
        cases h
        unfold pm_end at e1
        split at e1
        · cases e1
        · split at e1
          · split at e1
            · cases e1; rfl
            · cases e1
          · cases e1
      · split at h
        · rename_i st' e2
          rw [px_run_nw hK n fr lo st' o h]
          unfold pm_step at e2
          split at e2
          · cases e2
          · rename_i i len ei
            obtain ⟨n1, n2, n3⟩ := hK _ i len hs ei
            split at e2
            · split at e2
              · rename_i w t ec
                split at e2
                · split at e2
                  · rename_i rv h1 sz1 sl1 e3
                    cases e2
                    have := pm_run_nw nw_class n _ _ t _ (rv, h1, sz1, sl1) (n2 w t ec) e3
                    exact congrArg (fun q : pm_H × Nat × Nat => q.1) this
                  · cases e2
                · cases e2
              · exact congrArg (fun q : pm_H × Nat × Nat => q.1) (pm_simple_nw n1 n3 e2)
            · cases e2
        · cases h
def nwx_b (stop : Nat → Bool) (k : Nat) : Bool := match pd_a2 k with
  | some e => e.2.all (fun c => c.all (fun x => stop x.1 || nw_c k x.2.1))
  | none => true
theorem nwx_of {stop : Nat → Bool} {k : Nat} (hb : nwx_b stop k = true) : nwx_ok stop k := by
  intro pc i len hs hi
  have hi : pd_ins k pc = some (i, len) := hi
  unfold pd_ins at hi
  unfold nwx_b at hb
  split at hi
  · rename_i e ee
    rw [ee] at hb
    dsimp only at hb
    unfold pm_ch at hi
    split at hi
    · rename_i c ec
      have h1 := List.all_eq_true.mp (List.all_eq_true.mp hb c (pm_nth_mem ec)) _ (pm_fd_mem hi)
      rw [hs, Bool.false_or] at h1
      unfold nw_c at h1
      rw [Bool.and_eq_true, Bool.and_eq_true] at h1
      obtain ⟨a1, a2, a3⟩ := h1
      dsimp only at a1 a2 a3
      refine ⟨a1, fun w t ht => ?_, fun j w y hj hm => ?_⟩
      · rw [ht] at a2
        exact a2
      · rcases hj with rfl | rfl
        · dsimp only at a3
          rw [hm] at a3
          dsimp only at a3
          intro h9
          subst h9
          cases a3
        · dsimp only at a3
          rw [hm] at a3
          dsimp only at a3
          intro h9
          subst h9
          cases a3
    · cases hi
  · cases hi
theorem nwx_91 : nwx_ok (tx_stop 91) 91 := nwx_of (by decide +kernel)
theorem nwx_92 : nwx_ok (tx_stop 92) 92 := nwx_of (by decide +kernel)
theorem nwx_93 : nwx_ok (tx_stop 93) 93 := nwx_of (by decide +kernel)
theorem nwx_128 : nwx_ok (tx_stop 128) 128 := nwx_of (by decide +kernel)
end XNW
end MG85pxx3
section MG85pxx4
/-! a callee's throw, caught by the one handler of this method's table; its class may not have been looked up yet -/
section TXC
variable {p : Program} {l : Launch} {e : Env} {R : Room} {s : State} {m : MethodId} {args : Array Value} {below : List Frame} {meth : Method} {c : Code} {T : State} {H : Heap} {locs : List Loc} {cells slots : Nat} {Q : State → Prop}
theorem tx_find {g : JFrame} {a : Addr} {S : State} {x : ExceptionTableEntry} {cT : ClassId} {cell : Cell} (hm : S.vm.method? g.method = some meth) (hc : meth.code = some c) (htab : c.exceptionTable.toList = [x]) (hx : covers x g.pc = true) (h0 : x.catchType ≠ 0)
    (hl : S.vm.ClassLinks e.platform g.method.cls x.catchType cT) (hcell : S.heap[a]? = some cell) (hobj : ∀ k, cell.vm ≠ .statics k) (hk : ∃ k, S.vm.classes[cell.cls]? = some k) (hk2 : ∃ k, S.vm.classes[cT]? = some k) (hfit : S.vm.assignable cell.cls cT = true) (Q : Handler → Pre) (E : CtlPost) (d : Bool) (acts : List Action) :
    wp (findHandler g a) Q E e d acts S ↔ Q (.found x.handlerPc) d acts (S.setVm (S.vm.noted g.method.cls x.catchType (.cls cT))) := by
  rw [W.findHandler_eq hm hc, htab]
  simp only [covers] at hx
  obtain ⟨r1, r2⟩ := (resolveClass_links e.toSetting hl).op (op := VmOp.resolveClass g.method.cls x.catchType) rfl
  have al : S.vm.Alike (S.vm.noted g.method.cls x.catchType (.cls cT)) := (Vm.Alike.refl S.vm).noted _ _ _
  obtain ⟨k1, hk1⟩ := hk
  obtain ⟨k2, hk2⟩ := hk2
  obtain ⟨k1', hk1', -⟩ := al.2.2 _ _ hk1
  obtain ⟨k2', hk2', -⟩ := al.2.2 _ _ hk2
  have hfit' : (S.vm.noted g.method.cls x.catchType (.cls cT)).assignable cell.cls cT = true := by rw [al.assignable]; exact hfit
  simp [findHandler.go, hx, h0, r1, r2, hcell, hobj, hk1', hk2', hfit', VmOp.dirties, VmOp.acts]
theorem tx_step {g : JFrame} {a : Addr} {S : State} {r : List Frame} {pc : Nat} {vm' : Vm} (hf : ∀ (Q : Handler → Pre) (E : CtlPost) (d : Bool) (acts : List Action), wp (findHandler g a) Q E e d acts S ↔ Q (.found pc) d acts (S.setVm vm')) : (stepThrowing e S a (.java g :: r)).1 = (S.setVm vm').setFrames (.java { g with pc := pc, stack := [.ref a] } :: r) := by
  simp only [stepThrowing, searchFrame, vmDo]
  generalize hr : Sem.go _ e false [] S = res
  obtain ⟨as, rfl, ha⟩ := Sem.eq_ok_of hr (a := Handler.found pc) (s' := S.setVm vm') (acts' := []) (by simp [hf _ _ _ _])
  rfl
theorem tx_catch {own name E : String} {ce : Cell} {q : Addr} {x : ExceptionTableEntry} {pc : Nat} {ls : Array Slot} {rest : List Value} (hown : s.vm.findClass own = some m.cls) (htab : c.exceptionTable.toList = [x]) (hx : covers x pc = true) (h0 : x.catchType ≠ 0)
    (hlink : (Cond.classLink own x.catchType name).before args s = true) (hcast : (Cond.castable E name).before args s = true) (hcell : H[q]? = some ce) (hv : ce.vm = .none) (hcl : s.vm.findClass E = some ce.cls)
    (kk : W p l e R s m args below meth c H locs cells slots Q (F0 m x.handlerPc ls [.ref q])) : vx_W p l e R s m args below meth c H locs cells slots Q (F0 m pc ls rest) q := by
  intro T hT X
  have hpl : e.platform.magicAccessors = ({} : Platform).magicAccessors := by rw [X.admits.platform]
  obtain ⟨c3, c4, hc3, hc4, hasg⟩ := Cond.castable_spec hcast
  cases Option.some.inj (hc3.symm.trans hcl)
  obtain ⟨c5, hc5, hcl5⟩ := Cond.classLink_spec hown hlink e.platform hpl
  cases Option.some.inj (hc4.symm.trans hc5)
  obtain ⟨dk, _, _, kt, hd, _, _, _, _, hkt, _, hopen⟩ := hcl5.here
  have hW' : s.WarmedH (T.vm.noted m.cls x.catchType (.cls c4)) := X.warmed.noted hd hopen (State.rightAt_cls hcl5)
  have hal := X.warmed.alike
  obtain ⟨kt', hkt', -⟩ := hal.2.2 _ _ hkt
  have hfit' : T.vm.assignable ce.cls c4 = true := by rw [hal.assignable]; exact hasg
  have hcell' : T.heap[q]? = some ce := by rw [hT]; exact hcell
  obtain ⟨t, a1, b1⟩ := kk (T.setVm (T.vm.noted m.cls x.catchType (.cls c4))) hT (X.noted hW')
  refine ⟨t, ?_, b1⟩
  have hf := tx_find (e := e) (g := F0 m pc ls rest) (a := q) (S := (T.setTop (F0 m pc ls rest)).pushFrame (.throwing q)) (meth := meth) (c := c) (x := x) (cT := c4) (cell := ce) X.method' X.code htab hx h0 (X.warmed.classLinks hcl5) hcell' (VmData.ne_statics_of (by rw [hv]; rfl)) (Vm.classAt_of_assignable hfit' ⟨kt', hkt'⟩) ⟨kt', hkt'⟩ hfit'
  obtain ⟨hgo, hw⟩ := X.here.throwing q (g := F0 m pc ls rest)
  refine Steps.head hgo hw ?_
  rw [stepThread_throwing (frames_entered X.here.top _), tx_step hf]
  obtain ⟨g₀, hg⟩ := Option.isSome_iff_exists.mp X.here.top
  obtain ⟨r, hr⟩ := State.topJava?_eq_some.mp hg
  have hr' : (T.setVm (T.vm.noted m.cls x.catchType (.cls c4))).frames = .java g₀ :: r := hr
  rw [State.setTop_of_frames _ hr'] at a1
  have key : ∀ (u : State) (v : Vm) (F G : List Frame), ((u.setFrames F).setVm v).setFrames G = (u.setVm v).setFrames G := by
    intro u v F G
    have h1 : (u.setFrames F).setVm v = (u.setVm v).setFrames F := rfl
    rw [h1, State.setFrames_setFrames]
  rw [hr, List.tail_cons, State.pushFrame, key, State.setTop_of_frames _ hr, key]
  exact a1
end TXC
end MG85pxx4
end MH84vxx1
section MH84vxx2
/-! a method of the class that throws: walked to its 'new', then thrown -/
section TXM
def tx_E : String := "java/util/NoSuchElementException"
def tx_n : List String := ["java/lang/RuntimeException", "java/lang/Exception"]
def tx_at : List Cond := vx_at0 "GiftsOfCourts" 131 tx_E tx_n
def tx_N : List Cond := tx_at.filter (fun w => !goodWord w)
def tx_isN : Cond → Bool
  | .declares _ => true
  | .castable _ _ => true
  | _ => false
theorem tx_N_is : tx_N.all tx_isN = true := by decide +kernel
theorem tx_in : ∀ w ∈ tx_at.filter goodWord, w ∈ lw_tbl := by decide +kernel
theorem tx_N_in : ∀ w ∈ tx_N, w ∈ lw_tbl := by decide +kernel
theorem tx_ot : ∀ w ∈ Cond.classLink "GiftsOfCourts" 129 tx_E :: Cond.initialized tx_E :: tx_at, vx_ot w = true := by decide +kernel
theorem tx_cl : Cond.classLink "GiftsOfCourts" 129 tx_E ∈ PG := List.mem_filter.mpr ⟨by decide +kernel, rfl⟩
theorem tx_ini : Cond.initialized tx_E ∈ PG := List.mem_filter.mpr ⟨by decide +kernel, rfl⟩
theorem tx_cast : Cond.castable tx_E tx_E ∈ tx_N := by decide +kernel
theorem tx_N_ok {w : Cond} (hw : w ∈ tx_N) : w.onTables = true ∧ ∀ (s U : State), s.WarmedH U.vm → va_Nw w s → va_Nw w U := by
  have h := List.all_eq_true.mp tx_N_is w hw
  unfold tx_isN at h
  split at h
  · exact ⟨rfl, fun s U hW h => va_Nw.warmD hW h⟩
  · exact ⟨rfl, fun s U hW h => va_Nw.warmC hW h⟩
  · cases h
/-- what a throw wants of the state, beside the words -/
def tx_K (b : Nat) (U : State) : Prop := (∀ w ∈ tx_N, va_Nw w U) ∧ vx_Zq Bundle.tN "UNASSIGNED_STACK" Bundle.steD (fun q => b ≤ q) U U.heap ∧ vx_Zq Bundle.tN "SUPPRESSED_SENTINEL" Bundle.listD (fun q => b ≤ q) U U.heap
theorem tx_K.to {b : Nat} {U V : State} (h : tx_K b U) (hW : U.WarmedH V.vm) (hq : ∀ a : Nat, a < U.heap.size → ¬ b ≤ a → V.heap[a]? = U.heap[a]?) : tx_K b V :=
  ⟨fun w hw => (tx_N_ok hw).2 U V hW (h.1 w hw), vx_Zq.moved hW.alike (h.2.1.kept hq), vx_Zq.moved hW.alike (h.2.2.kept hq)⟩
def tx_Pc (D : va_G) (aC : Nat → ClassId) (b g : Nat) (As : List Value) (h : pm_H) (sz : Nat) : Array Value → State → Prop := va_Pc (As.map (pm_tr aC b)) (fun U => U.heap.size = b + sz + g ∧ va_P D (pm_cl PT) (pm_w aC b h sz) U.heap ∧ pm_K PT PN D aC b U ∧ tx_K b U)
def tx_B (D : va_G) (aC : Nat → ClassId) (b sz : Nat) : String → pm_H → State → Prop := fun E h1 t => E = tx_E ∧ va_P D (pm_cl PT) (pm_w aC b h1 sz) t.heap
theorem tx_blind {D : va_G} {aC : Nat → ClassId} {b g sz : Nat} {As : List Value} {h : pm_H} : FrameBlind (tx_Pc D aC b g As h sz) := by
  intro a U g mk hp
  obtain ⟨q1, q2, q3, ⟨q4, q5, q9⟩, q6, q7, q8⟩ := hp
  exact ⟨q1, q2, q3, ⟨va_K.moved (u := U) (U := U.calling g mk a) (Vm.Alike.refl U.vm) q4, fun w hw => (PT_ok.2.2.1 w hw).1 U (U.calling g mk a) rfl (q5 w hw), q9.same rfl rfl⟩, fun w hw => va_Nw.same (u := U) (U := U.calling g mk a) (tx_N_ok hw).1 rfl (q6 w hw), vx_Zq.moved (U := U.calling g mk a) (Vm.Alike.refl U.vm) q7, vx_Zq.moved (U := U.calling g mk a) (Vm.Alike.refl U.vm) q8⟩
set_option maxHeartbeats 1000000 in
theorem tx_met {l : Launch} (htr : l.stackTraces = false) {D : va_G} {aC : Nat → ClassId} {b g fr lo t sz sl : Nat} {As : List Value} {h : pm_H} (hm : pm_okM PT PG t) (ho : pm_own PT (pm_o PT t) = "GiftsOfCourts") (hf : 6 ≤ fr) (hlo : 89 ≤ lo) (hlen : (pm_args As).length ≤ pm_max PT t) {XQ : pm_H → Prop} {Qc : Array Value → State → Outcome → State → Prop}
    (hrun : pw_X PT (tx_stop t) fr lo t (0, pm_l0 As (pm_max PT t), [], h, sz, sl) (fun _ => False) (fun st => pm_sum st.2.2.1 ≤ 8 ∧ st.2.2.2.2 = (sz, sl) ∧ XQ st.2.2.2.1)) :
    vx_Met l (pm_y PT t) (pm_ws PT PG t) (pm_rm fr lo 1 6) (tx_Pc D aC b g As h sz) Qc (vx_X XQ (tx_B D aC b sz) (fun q => b ≤ q)) 1 6 (fun q => b ≤ q) := by
  obtain ⟨m1, m2, m3, m4, m5, m6⟩ := hm
  obtain ⟨n, o, hr, ho2⟩ := hrun
  refine vx_ofW (cc := pm_code PT t) (maxL := pm_max PT t) (ret := pm_ret PT t) m1 rfl ?_
  intro p e s m args below meth c s₁ B hml htab hv
  obtain ⟨rfl, hsz, hP, hK, hX⟩ := hv
  have hts := atoms_spec (ws := pm_ws PT PG t) B.pre
  have hts' : ∀ w ∈ PG, w.before (As.map (pm_tr aC b)).toArray s = true := fun w hw => hts w (List.mem_cons_of_mem _ hw)
  have hown : s.vm.findClass (pm_y PT t).cls = some m.cls := findClass_of_methodNamed B.named
  have hC : pm_C PT PG PN D aC b t p s m (As.map (pm_tr aC b)).toArray meth c := ⟨B.exec, B.bytes, hml, by rw [m2]; exact hown, hts', hK, fun q => by rw [(name_of_methodNamed B.named B.method).1]; exact m6 q⟩
  cases o with
  | inl r => exact ho2.elim
  | inr st1 =>
    obtain ⟨hst, hsum, hsz1, hXQ⟩ := ho2
    have hxx : ∀ st2, (Sum.inr st1 : pm_Rs ⊕ pm_St) = .inr st2 → pm_V p l e (headSpec (pm_ws PT PG t) (pm_rm fr lo 1 6)).room s m (As.map (pm_tr aC b)).toArray below meth c (vx_MQ below Qc (vx_X XQ (tx_B D aC b sz) (fun q => b ≤ q)) (As.map (pm_tr aC b)).toArray s 1 6 (fun q => b ≤ q)) PT D aC b t sz sl st2 := by
      intro st2 e2
      cases e2
      obtain ⟨pc, L1, S1, h1, sz1, sl1⟩ := st1
      dsimp only at hsum hsz1 hXQ hst
      cases hsz1
      intro H locs ls hP1 hS1 hl1
      dsimp only at hP1 hl1 ⊢
      rw [Nat.sub_self, Nat.sub_self]
      unfold tx_stop at hst
      split at hst
      · rename_i e1 e2 e3 e4
        refine vx_throw0 (own := "GiftsOfCourts") (cls := tx_E) (names := tx_n) (ik := 129) (ic := 131) (A := fun q => b ≤ q) hC.1 hC.2.1 htr (by rw [← ho]; exact hC.2.2.2.1) (by decide) (by decide) (hts' _ tx_cl) (hts' _ tx_ini) (vx_hat (B := tx_N) (fun w hw => hts' w (List.mem_filter.mpr ⟨tx_in w hw, (List.mem_filter.mp hw).2⟩)) (fun w hw => hw) (fun w hw => va_Nw.use (tx_N_ok hw).1 (hX.1 w hw))) tx_ot hX.2.1 hX.2.2 hS1 (hl1.1.trans hml.symm) (PT_ok.1 _ _ _ _ e1) (PT_ok.1 _ _ _ _ e2) (PT_ok.1 _ _ _ _ e3) (PT_ok.1 _ _ _ _ e4) (fun x hx => (htab x hx).elim) ?_ ?_ ?_ ?_ B.notSynchronized ?_ hS1.2.2 (Nat.le_refl _) (Nat.le_refl _)
        · show 2 + 3 < fr
          omega
        · rw [pm_sum_tr]
          show pm_sum S1 + (13 * (2 + 1) + 42) ≤ lo
          omega
        · show 0 + 1 ≤ 1
          omega
        · show 0 + 6 ≤ 6
          omega
        · intro t' hal hsz' hq
          refine ⟨h1, hXQ, ⟨rfl, hP1.kept (fun k q hk => hq _ (vx_lt hP1 hk))⟩, Nat.le_trans hS1.1 hsz', fun q q1 q2 => ?_⟩
          rw [hq q (Nat.lt_of_lt_of_le q1 hS1.1)]
          exact hS1.2.1 q q1 q2
      · cases hst
    have key := px_V (stop := tx_stop t) (g := g) PT_ok hC rfl rfl hsz (o := .inr st1) hsz1 (fun r st2 q => by cases q) hxx n (0, pm_l0 As (pm_max PT t), [], h, sz, sl) (Nat.le_refl _) (Nat.le_refl _) hr
    have hW := key s.heap [] _ hP va_S.rf (pm_l0_loc aC b As hlen)
    rw [lg_entry_eq]
    dsimp only at hW
    rw [Nat.sub_self, Nat.sub_self] at hW
    exact hW
end TXM
end MH84vxx2
section MH84vxx3
section MG90wrapcallx0
/-! the law's four wrappers: on a heap on which the class's method throws they answer 1 -/
section TWM
variable {p : Program} {l : Launch} {e : Env} {R : Room} {s : State} {m : MethodId} {args : Array Value} {below : List Frame} {meth : Method} {c : Code} {Q : State → Prop} {D : va_G} {aC : Nat → ClassId} {b g k sz sl : Nat}
/-- one simple step; no cell is made -/
theorem pv_i (hC : pm_C PT PG PN D aC b k p s m args meth c) (hs0 : s.heap.size = b + sz + g) {pc : Nat} {L : pm_L} {S : List Value} {h : pm_H} {ins : Instr} {len pc' : Nat} {L' : pm_L} {S' : List Value} {h' : pm_H} (hi : pm_ins PT k pc = some (ins, len)) (hl : pm_lenOk ins len = true) (hc : pm_callee PT k ins = none) (hs : pm_simple PT R.frames R.locals k ins pc L S h sz sl = some (pc', L', S', h', sz, sl))
    (kk : pm_V p l e R s m args below meth c Q PT D aC b k sz sl (pc', L', S', h', sz, sl)) : pm_V p l e R s m args below meth c Q PT D aC b k sz sl (pc, L, S, h, sz, sl) :=
  pm_step_ok PT_ok hC rfl rfl hs0 (Or.inr rfl) (Nat.le_refl _) (Nat.le_refl _) (Nat.le_add_right _ _) (Nat.le_add_right _ _) (go := pm_go0) (fun _ _ _ _ _ _ _ _ _ _ q => by cases q) ((ls_of hi hl hc).trans hs) kk
def tw_Qc (D : va_G) (aC : Nat → ClassId) (b sz : Nat) (XQ : pm_H → Prop) : Array Value → State → Outcome → State → Prop := fun _ st o t => o = .returned (some (.int 1)) ∧ (∃ h1, XQ h1 ∧ va_P D (pm_cl PT) (pm_w aC b h1 sz) t.heap) ∧ va_F (fun q => b ≤ q) st t
def tw_ws (w : Nat) (hh : List (Nat × Nat × Nat × Nat)) : List Cond := Cond.codeWith (pm_y PT w) (pm_code PT w) (pm_max PT w) (some .int) hh :: PG
/-- the call in a wrapper, and its catching -/
theorem tw_call (htr : l.stackTraces = false) {w t n j pc hpc lo' fr' : Nat} {x : ExceptionTableEntry} {L : pm_L} {vs rest : List Value} {h : pm_H} {fs : List Value} {XQ : pm_H → Prop}
    (hC : pm_C PT PG PN D aC b w p s m args meth c) (hown : pm_own PT (pm_o PT w) = "GiftsOfCourtsLaw") (hX : tx_K b s) (hs0 : s.heap.size = b + sz + g) (htab : c.exceptionTable.toList = [x]) (hcov : covers x pc = true) (hct : x.catchType = 13) (hhp : x.handlerPc = hpc)
    (hRf : R.frames = fr' + 1) (hRl : R.locals = lo' + (19 + pm_max PT t)) (hRc : 1 ≤ R.cells) (hRs : 6 ≤ R.slots) (hf6 : 6 ≤ fr') (hl89 : 89 ≤ lo')
    (hi : pm_ins PT w pc = some (.invokevirtual j, 3)) (hm : pm_mlk PT (pm_o PT w) j = some (0, t)) (hto : pm_own PT (pm_o PT t) = "GiftsOfCourts") (htc : pm_ci PT t = 10) (hn : vs.length = n) (hna : pm_na PT t = n + 1) (ho : h 0 = .inr (10, fs)) (hz : 0 < sz) (hsum : pm_sum rest ≤ 8) (hlen : (pm_args (.ref 0 :: vs)).length ≤ pm_max PT t)
    (hret : pm_ret PT t = some .int ∨ pm_ret PT t = some .long)
    (hrun : pw_X PT (tx_stop t) fr' lo' t (0, pm_l0 (.ref 0 :: vs) (pm_max PT t), [], h, sz, sl) (fun _ => False) (fun st => pm_sum st.2.2.1 ≤ 8 ∧ st.2.2.2.2 = (sz, sl) ∧ XQ st.2.2.2.1))
    (kk : ∀ (q9 : Addr) (h1 : pm_H) (H1 : Heap) (locs1 : List Loc) (ls : Array Slot), XQ h1 → va_P D (pm_cl PT) (pm_w aC b h1 sz) H1 → va_S (fun q => b ≤ q) s.heap H1 locs1 → pm_loc aC b ls (pm_max PT w) L → W p l e R s m args below meth c H1 locs1 1 6 Q (F0 m hpc ls [.ref q9])) :
    pm_V p l e R s m args below meth c Q PT D aC b w sz sl (pc, L, vs.reverse ++ .ref 0 :: rest, h, sz, sl) := by
  obtain ⟨hx, hb, hml, hown', hts, hK, hin⟩ := hC
  have hd := PT_ok.1 _ _ _ _ hi
  intro H locs ls hP hS hl
  refine pm_sized fun hzz => ?_
  dsimp only at hzz hP hl ⊢
  have hsz := pm_size (g := g) hS hP hs0 (Or.inr rfl) (Nat.le_refl _) hzz
  rw [Nat.sub_self, Nat.sub_self]
  obtain ⟨⟨m1, m2, m3, m4, m5, m6⟩, w1, w2, w3, ⟨n', w4, w5⟩, F, N, w6⟩ := PT_ok.2.2.2.2.1 _ _ _ _ hm
  have hnn : n' = n := by omega
  subst hnn
  have hM := fun (Qc : Array Value → State → Outcome → State → Prop) => tx_met (l := l) (g := g) (D := D) (aC := aC) (b := b) (Qc := Qc) htr ⟨m1, m2, m3, m4, m5, m6⟩ hto hf6 hl89 hlen hrun
  have hpre : ∀ U : State, U.heap = H → s.WarmedH U.vm → tx_Pc D aC b g (.ref 0 :: vs) h sz ((Value.ref 0 :: vs).map (pm_tr aC b)).toArray U := fun U hU hW => ⟨rfl, by rw [hU]; exact hsz, by rw [hU]; exact hP, hK.warm PT_ok hW (by rw [hU]; exact hS), hX.to hW (fun a ha hba => by rw [hU]; exact hS.2.1 a ha hba)⟩
  have hroom : 2 * (F0 m pc ls ((vs.reverse ++ .ref 0 :: rest).map (pm_tr aC b))).monitorRoom + ((rest.map (pm_tr aC b)).map fun v => v.category).sum ≤ 8 := lv_room (by rw [pm_sum_tr]; exact hsum)
  have hRR : (pm_rm fr' lo' 1 6).frames + 1 ≤ R.frames ∧ 8 + (pm_max PT t + 11) + (pm_rm fr' lo' 1 6).locals ≤ R.locals := by
    dsimp only
    omega
  have hst : (vs.reverse ++ .ref 0 :: rest).map (pm_tr aC b) = (vs.map (pm_tr aC b)).reverse ++ .ref (b + 0) :: rest.map (pm_tr aC b) := by
    rw [List.map_append, List.map_reverse, List.map_cons]
    rfl
  have hgd : GoodIn PG (wsV "GiftsOfCourtsLaw" j (pm_y PT t).cls (pm_y PT t) (pm_ws PT PG t)) := pm_good PT_ok (fun w hw => by
    simp only [wsV, pm_ws, List.mem_append, List.mem_cons, List.not_mem_nil, or_false] at hw
    rw [hown] at w1
    rcases hw with (rfl | rfl | rfl | rfl) | rfl | hw
    · exact w1
    · exact w2
    · exact w3
    · exact m4
    · exact m3
    · exact hw)
  have kx : ∀ (E : String) (ce : Cell) (q9 : Addr) (u : pm_H) (t : State) (H1 : Heap) (locs1 : List Loc), t.heap = H1 → s.vm.Alike t.vm → XQ u → tx_B D aC b sz E u t → H.size ≤ H1.size → (∀ q : Nat, q < H.size → ¬ b ≤ q → H1[q]? = H[q]?) → va_S (fun q => b ≤ q) s.heap H1 locs1 → H1[q9]? = some ce → ce.vm = .none → s.vm.findClass E = some ce.cls → vx_W p l e R s m args below meth c H1 locs1 (0 + 1) (0 + 6) Q (F0 m pc ls (rest.map (pm_tr aC b))) q9 := by
    intro E ce q9 u t H1 locs1 ht hal hu hB _ _ hS1 hce hcv hcl
    obtain ⟨rfl, hP1⟩ := hB
    rw [ht] at hP1
    refine tx_catch (own := "GiftsOfCourtsLaw") (name := tx_E) (E := tx_E) (by rw [← hown]; exact hown') htab hcov (by rw [hct]; decide) (by rw [hct]; exact hts _ (List.mem_filter.mpr ⟨by decide +kernel, rfl⟩)) (va_Nw.use rfl (hX.1 _ tx_cast)) hce hcv hcl ?_
    rw [hhp]
    exact kk q9 u H1 locs1 ls hu hP1 hS1 hl
  rw [hst]
  rcases hret with hret | hret
  · exact vx_calli (post := fun _ (_ : Unit) => False) (px := XQ) (B := fun _ _ => True) (BX := tx_B D aC b sz) (AX := fun q => b ≤ q) (A1 := fun q => b ≤ q) (A0 := fun q => b ≤ q) (vx_runV (As := vs.map (pm_tr aC b)) (rest := rest.map (pm_tr aC b)) ⟨hx, hb, hml, by rw [← hown]; exact hown', hts⟩ (hM (va_Qi (fun _ (_ : Unit) => False) (fun _ _ => True) (fun q => b ≤ q))) (cwV n' hts hgd rfl rfl rfl ⟨rfl, m5.1, m5.2, w5⟩ hRR) ⟨tx_blind, va_recv hK.1 hP w6 (by rw [htc]; exact pm_w_P hP hz ho), hpre⟩ rfl (by rw [List.length_map]; exact hn) hl.1 rfl hroom hd ⟨by omega, by omega⟩) hS (fun _ _ q => q) (fun _ q => q) (fun _ _ q => q) kx (fun _ _ _ _ _ _ _ q => q.elim)
  · exact vx_calll (post := fun _ (_ : Unit) => False) (px := XQ) (B := fun _ _ => True) (BX := tx_B D aC b sz) (AX := fun q => b ≤ q) (A1 := fun q => b ≤ q) (A0 := fun q => b ≤ q) (vx_runV (As := vs.map (pm_tr aC b)) (rest := rest.map (pm_tr aC b)) ⟨hx, hb, hml, by rw [← hown]; exact hown', hts⟩ (hM (va_Ql (fun _ (_ : Unit) => False) (fun _ _ => True) (fun q => b ≤ q))) (cwV n' hts hgd rfl rfl rfl ⟨rfl, m5.1, m5.2, w5⟩ hRR) ⟨tx_blind, va_recv hK.1 hP w6 (by rw [htc]; exact pm_w_P hP hz ho), hpre⟩ rfl (by rw [List.length_map]; exact hn) hl.1 rfl hroom hd ⟨by omega, by omega⟩) hS (fun _ _ q => q) (fun _ q => q) (fun _ _ q => q) kx (fun _ _ _ _ _ _ _ q => q.elim)
end TWM
end MG90wrapcallx0
section MG90wrapcallx1
/-! the law's four wrappers: they answer, whether the class's method returns or throws -/
section TWD
variable {p : Program} {l : Launch} {e : Env} {R : Room} {s : State} {m : MethodId} {args : Array Value} {below : List Frame} {meth : Method} {c : Code} {Q : State → Prop} {D : va_G} {aC : Nat → ClassId} {b g k sz sl : Nat}
theorem px_inl {T : pm_Tab} {stop : Nat → Bool} : ∀ (n fr lo k : Nat) (st : pm_St) (r : pm_Rs), px_run T stop n fr lo k st = some (.inl r) → pm_run T n fr lo k st = some r
  | 0, _, _, _, _, _, h => by cases h
  | n + 1, fr, lo, k, st, r, h => by
    unfold px_run at h
    unfold pm_run
    cases hs : stop st.1 with
    | true => rw [hs] at h; cases h
    | false =>
      rw [hs] at h
      dsimp only [cond] at h
      cases e1 : pm_end T k st with
      | some r' => rw [e1] at h; cases h; rfl
      | none =>
        rw [e1] at h
        dsimp only at h ⊢
        split at h
        · rename_i st' e2
          rw [e2]
          exact px_inl n fr lo k st' r h
        · cases h
/-- the call of x's method, told by the tables -/
theorem cd_x {w t mx j pc : Nat} {L : pm_L} {As rest : List Value} {h : pm_H} {fs : List Value} (hi : pm_ins PT w pc = some (.invokevirtual j, 3)) (hm : pm_mlk PT (pm_o PT w) j = some (0, t)) (hn : pm_na PT t = As.length + 1) (hmx : pm_max PT t = mx) (hsum : pm_sum rest ≤ 8) (ha : (pm_args (.ref 0 :: As)).length ≤ mx) (hci : pm_ci PT t = 10) (ho : h 0 = .inr (10, fs)) : pm_cd PT w (pc, L, As.reverse ++ .ref 0 :: rest, h, 198, sl) = some (t, .ref 0 :: As, rest) := by
  have hS : As.reverse ++ Value.ref 0 :: rest = (Value.ref 0 :: As).reverse ++ rest := by simp
  have hn' : pm_na PT t = (Value.ref 0 :: As).length := by simp [hn]
  rw [hS]
  generalize hA : (Value.ref 0 :: As) = A1 at hn' ha ⊢
  have htk : (A1.reverse ++ rest).take A1.length = A1.reverse := by rw [← List.length_reverse, List.take_left']; rfl
  have hdr : (A1.reverse ++ rest).drop A1.length = rest := by rw [← List.length_reverse, List.drop_left']; rfl
  unfold pm_cd
  dsimp only
  rw [hi]
  dsimp only
  have hcal : pm_callee PT w (.invokevirtual j) = some (0, t) := by
    unfold pm_callee
    dsimp only
    rw [hm]
    rfl
  rw [if_pos (show pm_lenOk (Instr.invokevirtual j) 3 = true from rfl), hcal]
  dsimp only
  rw [hn', htk, hdr, List.reverse_reverse, hmx]
  refine if_pos ⟨?_, ?_, hsum, ha⟩
  · rw [List.length_append, List.length_reverse]
    omega
  · rw [← hA]
    unfold pm_rcv
    rw [if_neg (by omega)]
    dsimp only [pm_obj]
    rw [if_pos (by decide), ho]
    dsimp only
    rw [hci]
    rfl
/-- behind a wrapper: the reference's cells are as they were -/
def twX (h h1 : pm_H) : Prop := (∀ i, i ≠ 197 → h1 i = h i) ∧ ah_ok bB 198 [] h1
def tw_Qd (D : va_G) (aC : Nat → ClassId) (b : Nat) (h : pm_H) : Array Value → State → Outcome → State → Prop := fun _ st o t => (∃ v : Int32, o = .returned (some (.int v))) ∧ (∃ h1, twX h h1 ∧ va_P D (pm_cl PT) (pm_w aC b h1 198) t.heap) ∧ va_F (fun q => b ≤ q) st t
theorem ty_197 {h : pm_H} (hh : ah_ok bB 198 [] h) : ∃ R : Nat → Int64, h 197 = .inl (2, 1, .inr (.inl R)) := by
  have h0 : ac_ok (h 197) (bB 197) := hh 197 (by decide)
  have hb : bB 197 = .inl (2, 1, al_top) := rfl
  rw [hb] at h0
  cases e : h 197 with
  | inr q => rw [e] at h0; obtain ⟨ci, fs⟩ := q; exact h0.elim
  | inl q =>
    rw [e] at h0
    obtain ⟨kd, m, f | f | f | f | f⟩ := q
    · have := (h0.2.2 0 (by rw [h0.2.1]; decide)).1
      cases this
    · obtain ⟨rfl, rfl, q⟩ := h0
      exact ⟨f, rfl⟩
    · exact h0.elim
    · exact h0.elim
    · have q := h0.2.2 0 (by rw [h0.2.1]; decide)
      cases e3 : f 0 with
      | none => rw [e3] at q; cases q
      | some p => rw [e3] at q; cases q.1
theorem tw_set {h h1 : pm_H} {R : Nat → Int64} (hf : h1 = h) (hh : ah_ok bB 198 [] h1) : twX h (lset h1 197 1 R) := by
  refine ⟨fun i h2' => (lset_nei h2').trans (congrFun hf i), fun i hi => ?_⟩
  by_cases z : i = 197
  · subst z
    show ac_ok (lset h1 197 1 R 197) (.inl (2, 1, al_top))
    rw [lset_self]
    exact ⟨rfl, rfl, fun j _ => al_top_ok _⟩
  · rw [lset_nei z]
    exact hh i hi
/-- the answer written down, 0 returned -/
theorem tw_store {w pc pg : Nat} {L : pm_L} {h h1 : pm_H} {v : Int64} (hC : pm_C PT PG PN D aC b w p s m args meth c) (hs0 : s.heap.size = b + 198 + g) (hf : h1 = h) (hh : ah_ok bB 198 [] h1) (i1 : pm_ins PT w pc = some (.lastore, 1)) {og : Int} (i2 : pm_ins PT w (pc + 1) = some (.goto og, 3)) (eg : ∀ h' : pm_H, pm_simple PT R.frames R.locals w (.goto og) (pc + 1) L [] h' 198 sl = some (pg, L, [], h', 198, sl))
    (kk : ∀ h2, twX h h2 → pm_V p l e R s m args below meth c Q PT D aC b w 198 sl (pg, L, [], h2, 198, sl)) : pm_V p l e R s m args below meth c Q PT D aC b w 198 sl (pc, L, [.long v, .int 0, .ref 197], h1, 198, sl) := by
  obtain ⟨R0, eR⟩ := ty_197 hh
  refine pv_i hC hs0 (h' := lset h1 197 1 (vp_updL R0 0 v)) (L' := L) (S' := []) (pc' := pc + 1) i1 rfl rfl ?_ ?_
  · show pm_lS PT pc L [.long v, .int 0, .ref 197] h1 198 sl = _
    unfold pm_lS
    dsimp only
    have e : pm_lar PT h1 198 197 = some (2, 1, R0) := by
      unfold pm_lar
      rw [if_pos (by decide), eR]
      exact if_pos rfl
    rw [e]
    rfl
  · exact pv_i hC hs0 i2 rfl rfl (eg _) (kk _ (tw_set hf hh))
set_option maxHeartbeats 1000000 in
theorem tw_court {l : Launch} (htr : l.stackTraces = false) {D : va_G} {aC : Nat → ClassId} {b g sl : Nat} {h : pm_H} {fs : List Value} (a1 a2 : Int32) (hH : ah_ok bB 198 [] h) (ho : h 0 = .inr (10, fs)) : Met l (pm_y PT 1001) (tw_ws 1001 [(0, 10, 13, 13)]) (pm_rm 2047 83976 1 6) (tx_Pc D aC b g [.ref 0, .int a1, .int a2, .ref 197] h 198) (tw_Qd D aC b h) 1 6 (fun q => b ≤ q) := by
  refine va_MetW (cc := pm_code PT 1001) (maxL := pm_max PT 1001) (ret := some .int) (hh := [(0, 10, 13, 13)]) (by decide) rfl ?_
  intro p e s m args below meth c s₁ B hml hv
  obtain ⟨rfl, hsz, hP, hK, hX⟩ := hv
  have hts := atoms_spec (ws := tw_ws 1001 [(0, 10, 13, 13)]) B.pre
  have hC : pm_C PT PG PN D aC b 1001 p s m ([Value.ref 0, Value.int a1, Value.int a2, Value.ref 197].map (pm_tr aC b)).toArray meth c := ⟨B.exec, B.bytes, hml, findClass_of_methodNamed B.named, fun w hw => hts w (List.mem_cons_of_mem _ hw), hK, fun q => absurd q (by decide)⟩
  have htab : c.exceptionTable.toList = [⟨0, 10, 13, 13⟩] := vx_table (x := pm_y PT 1001) B (hts _ List.mem_cons_self)
  obtain ⟨n, o, hr, ho2⟩ := sx_con (sl := sl) (As := [.ref 0, .int a1, .int a2]) cxKt_ok (fun z hz => by rcases List.mem_cons.mp hz with rfl | hz; exact rfl; cases List.mem_singleton.mp hz; exact rfl) th_court ⟨⟨rfl, List.mem_singleton_self _⟩, ai_top_ok _, ai_top_ok _, trivial⟩ hH
  have key : pm_V p l e (headSpec (tw_ws 1001 [(0, 10, 13, 13)]) (pm_rm 2047 83976 1 6)).room s m ([Value.ref 0, Value.int a1, Value.int a2, Value.ref 197].map (pm_tr aC b)).toArray below meth c (MQ below (tw_Qd D aC b h) ([Value.ref 0, Value.int a1, Value.int a2, Value.ref 197].map (pm_tr aC b)).toArray s 1 6 (fun q => b ≤ q)) PT D aC b 1001 198 sl (0, pm_l0 [.ref 0, .int a1, .int a2, .ref 197] 5, [], h, 198, sl) := by
    refine pv_i hC hsz rfl rfl rfl rfl ?_
    refine pv_i hC hsz rfl rfl rfl rfl ?_
    refine pv_i hC hsz rfl rfl rfl rfl ?_
    refine pv_i hC hsz rfl rfl rfl rfl ?_
    refine pv_i hC hsz rfl rfl rfl rfl ?_
    cases o with
    | inr st1 =>
      have hrun : pw_X PT (tx_stop 91) 2046 83954 91 (0, pm_l0 (.ref 0 :: [.int a1, .int a2]) (pm_max PT 91), [], h, 198, sl) (fun _ => False) (fun st => pm_sum st.2.2.1 ≤ 8 ∧ st.2.2.2.2 = (198, sl) ∧ twX h st.2.2.2.1) := ⟨n, .inr st1, hr, ho2.1, by rw [ho2.2.1]; decide, ho2.2.2.1, fun i _ => congrFun (px_run_nw nwx_91 n _ _ _ _ hr) i, ho2.2.2.2.2⟩
      refine tw_call (w := 1001) (t := 91) (n := 2) (pc := 5) (hpc := 13) (x := ⟨0, 10, 13, 13⟩) (vs := [.int a1, .int a2]) (rest := [.int 0, .ref 197]) (fr' := 2046) (lo' := 83954) htr hC rfl hX hsz htab rfl rfl rfl rfl rfl (Nat.le_refl _) (Nat.le_refl _) (by decide) (by decide) rfl rfl rfl rfl rfl rfl ho (by decide) (Nat.le_of_ble_eq_true rfl) (Nat.le_of_ble_eq_true rfl) (by first | exact Or.inl rfl | exact Or.inr rfl) hrun ?_
      intro q9 h1 H1 locs1 ls hXQ hP1 hS1 hl1
      refine lv_astore hC.1 hC.2.1 (i := 4) (PT_ok.1 1001 13 _ _ rfl) hl1.has (by decide) rfl (fun ls' hl' => ?_)
      refine lv_iconst hC.1 hC.2.1 (n := 1) (v := 1) (PT_ok.1 1001 15 _ _ rfl) rfl ?_
      exact W.iret hC.1 hC.2.1 B.returns (fun t ht hW => ⟨⟨1, rfl⟩, ⟨h1, hXQ, by rw [ht]; exact hP1⟩, hS1.F ht⟩) hS1.2.2 (PT_ok.1 1001 16 _ _ rfl) B.notSynchronized
    | inl r =>
      obtain ⟨⟨a, ha, hv⟩, hsr, hfr, hhr⟩ := ho2
      obtain ⟨rv, h1, s1⟩ := r
      dsimp only at hv hsr hfr hhr
      cases hsr
      cases List.mem_singleton.mp ha
      have hrv : ∃ v : Int32, rv = some (.int v) := (ao_i hv).imp (fun _ q => q.1)
      obtain ⟨v, rfl⟩ := hrv
      refine pv_call PT_ok hC rfl rfl hsz (t := 91) (mx := 3) (As := [.ref 0, .int a1, .int a2]) (rest := [.int 0, .ref 197]) (cd_x (As := [.int a1, .int a2]) rfl rfl rfl rfl (Nat.le_of_ble_eq_true rfl) (Nat.le_of_ble_eq_true rfl) rfl ho) rfl (Nat.le_of_ble_eq_true rfl) (Nat.le_of_ble_eq_true rfl) (Nat.le_refl _) (Nat.le_refl _) ⟨n, _, px_inl _ _ _ _ _ _ hr, Or.inr rfl, Nat.le_add_right _ _, Nat.le_add_right _ _, ?_⟩
      show pm_V _ _ _ _ _ _ _ _ _ _ _ _ _ _ _ 1001 198 sl (8, pm_l0 [.ref 0, .int a1, .int a2, .ref 197] 5, [.int v, .int 0, .ref 197], h1, 198, sl)
      refine pv_i hC hsz rfl rfl rfl rfl ?_
      refine tw_store (v := v.toInt64) hC hsz (px_run_nw nwx_91 n _ _ _ _ hr) hhr rfl rfl (fun _ => rfl) (fun h2 hX2 => ?_)
      refine pv_i hC hsz rfl rfl rfl rfl ?_
      intro H1 locs1 ls hP1 hS1 hl1
      dsimp only at hP1 hl1 ⊢
      refine W.widen (k := 1) (n := 6) (by omega) (by omega) ?_
      show W _ _ _ _ _ _ _ _ _ _ _ _ _ _ _ (F0 m 18 ls [.int 0])
      exact W.iret hC.1 hC.2.1 B.returns (fun t ht hW => ⟨⟨0, rfl⟩, ⟨h2, hX2, by rw [ht]; exact hP1⟩, hS1.F ht⟩) hS1.2.2 (PT_ok.1 1001 18 _ _ rfl) B.notSynchronized
  have hW := key s.heap [] _ hP va_S.rf (pm_l0_loc aC b [.ref 0, .int a1, .int a2, .ref 197] (n := 5) (Nat.le_of_ble_eq_true rfl))
  rw [lg_entry_eq]
  dsimp only at hW
  rw [Nat.sub_self, Nat.sub_self] at hW
  exact hW
set_option maxHeartbeats 1000000 in
theorem tw_between {l : Launch} (htr : l.stackTraces = false) {D : va_G} {aC : Nat → ClassId} {b g sl : Nat} {h : pm_H} {fs : List Value} (a1 a2 a3 : Int32) (hH : ah_ok bB 198 [] h) (ho : h 0 = .inr (10, fs)) : Met l (pm_y PT 1002) (tw_ws 1002 [(0, 12, 15, 13)]) (pm_rm 2047 83975 1 6) (tx_Pc D aC b g [.ref 0, .int a1, .int a2, .int a3, .ref 197] h 198) (tw_Qd D aC b h) 1 6 (fun q => b ≤ q) := by
  refine va_MetW (cc := pm_code PT 1002) (maxL := pm_max PT 1002) (ret := some .int) (hh := [(0, 12, 15, 13)]) (by decide) rfl ?_
  intro p e s m args below meth c s₁ B hml hv
  obtain ⟨rfl, hsz, hP, hK, hX⟩ := hv
  have hts := atoms_spec (ws := tw_ws 1002 [(0, 12, 15, 13)]) B.pre
  have hC : pm_C PT PG PN D aC b 1002 p s m ([Value.ref 0, Value.int a1, Value.int a2, Value.int a3, Value.ref 197].map (pm_tr aC b)).toArray meth c := ⟨B.exec, B.bytes, hml, findClass_of_methodNamed B.named, fun w hw => hts w (List.mem_cons_of_mem _ hw), hK, fun q => absurd q (by decide)⟩
  have htab : c.exceptionTable.toList = [⟨0, 12, 15, 13⟩] := vx_table (x := pm_y PT 1002) B (hts _ List.mem_cons_self)
  obtain ⟨n, o, hr, ho2⟩ := sx_con (sl := sl) (As := [.ref 0, .int a1, .int a2, .int a3]) cxKt_ok (fun z hz => by rcases List.mem_cons.mp hz with rfl | hz; exact rfl; cases List.mem_singleton.mp hz; exact rfl) th_between ⟨⟨rfl, List.mem_singleton_self _⟩, ai_top_ok _, ai_top_ok _, ai_top_ok _, trivial⟩ hH
  have key : pm_V p l e (headSpec (tw_ws 1002 [(0, 12, 15, 13)]) (pm_rm 2047 83975 1 6)).room s m ([Value.ref 0, Value.int a1, Value.int a2, Value.int a3, Value.ref 197].map (pm_tr aC b)).toArray below meth c (MQ below (tw_Qd D aC b h) ([Value.ref 0, Value.int a1, Value.int a2, Value.int a3, Value.ref 197].map (pm_tr aC b)).toArray s 1 6 (fun q => b ≤ q)) PT D aC b 1002 198 sl (0, pm_l0 [.ref 0, .int a1, .int a2, .int a3, .ref 197] 6, [], h, 198, sl) := by
    refine pv_i hC hsz rfl rfl rfl rfl ?_
    refine pv_i hC hsz rfl rfl rfl rfl ?_
    refine pv_i hC hsz rfl rfl rfl rfl ?_
    refine pv_i hC hsz rfl rfl rfl rfl ?_
    refine pv_i hC hsz rfl rfl rfl rfl ?_
    refine pv_i hC hsz rfl rfl rfl rfl ?_
    cases o with
    | inr st1 =>
      have hrun : pw_X PT (tx_stop 92) 2046 83951 92 (0, pm_l0 (.ref 0 :: [.int a1, .int a2, .int a3]) (pm_max PT 92), [], h, 198, sl) (fun _ => False) (fun st => pm_sum st.2.2.1 ≤ 8 ∧ st.2.2.2.2 = (198, sl) ∧ twX h st.2.2.2.1) := ⟨n, .inr st1, hr, ho2.1, by rw [ho2.2.1]; decide, ho2.2.2.1, fun i _ => congrFun (px_run_nw nwx_92 n _ _ _ _ hr) i, ho2.2.2.2.2⟩
      refine tw_call (w := 1002) (t := 92) (n := 3) (pc := 7) (hpc := 15) (x := ⟨0, 12, 15, 13⟩) (vs := [.int a1, .int a2, .int a3]) (rest := [.int 0, .ref 197]) (fr' := 2046) (lo' := 83951) htr hC rfl hX hsz htab rfl rfl rfl rfl rfl (Nat.le_refl _) (Nat.le_refl _) (by decide) (by decide) rfl rfl rfl rfl rfl rfl ho (by decide) (Nat.le_of_ble_eq_true rfl) (Nat.le_of_ble_eq_true rfl) (by first | exact Or.inl rfl | exact Or.inr rfl) hrun ?_
      intro q9 h1 H1 locs1 ls hXQ hP1 hS1 hl1
      refine lv_astore hC.1 hC.2.1 (i := 5) (PT_ok.1 1002 15 _ _ rfl) hl1.has (by decide) rfl (fun ls' hl' => ?_)
      refine lv_iconst hC.1 hC.2.1 (n := 1) (v := 1) (PT_ok.1 1002 17 _ _ rfl) rfl ?_
      exact W.iret hC.1 hC.2.1 B.returns (fun t ht hW => ⟨⟨1, rfl⟩, ⟨h1, hXQ, by rw [ht]; exact hP1⟩, hS1.F ht⟩) hS1.2.2 (PT_ok.1 1002 18 _ _ rfl) B.notSynchronized
    | inl r =>
      obtain ⟨⟨a, ha, hv⟩, hsr, hfr, hhr⟩ := ho2
      obtain ⟨rv, h1, s1⟩ := r
      dsimp only at hv hsr hfr hhr
      cases hsr
      cases List.mem_singleton.mp ha
      have hrv : ∃ v : Int32, rv = some (.int v) := (ao_i hv).imp (fun _ q => q.1)
      obtain ⟨v, rfl⟩ := hrv
      refine pv_call PT_ok hC rfl rfl hsz (t := 92) (mx := 5) (As := [.ref 0, .int a1, .int a2, .int a3]) (rest := [.int 0, .ref 197]) (cd_x (As := [.int a1, .int a2, .int a3]) rfl rfl rfl rfl (Nat.le_of_ble_eq_true rfl) (Nat.le_of_ble_eq_true rfl) rfl ho) rfl (Nat.le_of_ble_eq_true rfl) (Nat.le_of_ble_eq_true rfl) (Nat.le_refl _) (Nat.le_refl _) ⟨n, _, px_inl _ _ _ _ _ _ hr, Or.inr rfl, Nat.le_add_right _ _, Nat.le_add_right _ _, ?_⟩
      show pm_V _ _ _ _ _ _ _ _ _ _ _ _ _ _ _ 1002 198 sl (10, pm_l0 [.ref 0, .int a1, .int a2, .int a3, .ref 197] 6, [.int v, .int 0, .ref 197], h1, 198, sl)
      refine pv_i hC hsz rfl rfl rfl rfl ?_
      refine tw_store (v := v.toInt64) hC hsz (px_run_nw nwx_92 n _ _ _ _ hr) hhr rfl rfl (fun _ => rfl) (fun h2 hX2 => ?_)
      refine pv_i hC hsz rfl rfl rfl rfl ?_
      intro H1 locs1 ls hP1 hS1 hl1
      dsimp only at hP1 hl1 ⊢
      refine W.widen (k := 1) (n := 6) (by omega) (by omega) ?_
      show W _ _ _ _ _ _ _ _ _ _ _ _ _ _ _ (F0 m 20 ls [.int 0])
      exact W.iret hC.1 hC.2.1 B.returns (fun t ht hW => ⟨⟨0, rfl⟩, ⟨h2, hX2, by rw [ht]; exact hP1⟩, hS1.F ht⟩) hS1.2.2 (PT_ok.1 1002 20 _ _ rfl) B.notSynchronized
  have hW := key s.heap [] _ hP va_S.rf (pm_l0_loc aC b [.ref 0, .int a1, .int a2, .int a3, .ref 197] (n := 6) (Nat.le_of_ble_eq_true rfl))
  rw [lg_entry_eq]
  dsimp only at hW
  rw [Nat.sub_self, Nat.sub_self] at hW
  exact hW
set_option maxHeartbeats 1000000 in
theorem tw_gift {l : Launch} (htr : l.stackTraces = false) {D : va_G} {aC : Nat → ClassId} {b g sl : Nat} {h : pm_H} {fs : List Value} (a1 a2 : Int32) (hH : ah_ok bB 198 [] h) (ho : h 0 = .inr (10, fs)) : Met l (pm_y PT 1003) (tw_ws 1003 [(0, 10, 13, 13)]) (pm_rm 2047 83976 1 6) (tx_Pc D aC b g [.ref 0, .int a1, .int a2, .ref 197] h 198) (tw_Qd D aC b h) 1 6 (fun q => b ≤ q) := by
  refine va_MetW (cc := pm_code PT 1003) (maxL := pm_max PT 1003) (ret := some .int) (hh := [(0, 10, 13, 13)]) (by decide) rfl ?_
  intro p e s m args below meth c s₁ B hml hv
  obtain ⟨rfl, hsz, hP, hK, hX⟩ := hv
  have hts := atoms_spec (ws := tw_ws 1003 [(0, 10, 13, 13)]) B.pre
  have hC : pm_C PT PG PN D aC b 1003 p s m ([Value.ref 0, Value.int a1, Value.int a2, Value.ref 197].map (pm_tr aC b)).toArray meth c := ⟨B.exec, B.bytes, hml, findClass_of_methodNamed B.named, fun w hw => hts w (List.mem_cons_of_mem _ hw), hK, fun q => absurd q (by decide)⟩
  have htab : c.exceptionTable.toList = [⟨0, 10, 13, 13⟩] := vx_table (x := pm_y PT 1003) B (hts _ List.mem_cons_self)
  obtain ⟨n, o, hr, ho2⟩ := sx_con (sl := sl) (As := [.ref 0, .int a1, .int a2]) cxKt_ok (fun z hz => by rcases List.mem_cons.mp hz with rfl | hz; exact rfl; cases List.mem_singleton.mp hz; exact rfl) th_gift ⟨⟨rfl, List.mem_singleton_self _⟩, ai_top_ok _, ai_top_ok _, trivial⟩ hH
  have key : pm_V p l e (headSpec (tw_ws 1003 [(0, 10, 13, 13)]) (pm_rm 2047 83976 1 6)).room s m ([Value.ref 0, Value.int a1, Value.int a2, Value.ref 197].map (pm_tr aC b)).toArray below meth c (MQ below (tw_Qd D aC b h) ([Value.ref 0, Value.int a1, Value.int a2, Value.ref 197].map (pm_tr aC b)).toArray s 1 6 (fun q => b ≤ q)) PT D aC b 1003 198 sl (0, pm_l0 [.ref 0, .int a1, .int a2, .ref 197] 5, [], h, 198, sl) := by
    refine pv_i hC hsz rfl rfl rfl rfl ?_
    refine pv_i hC hsz rfl rfl rfl rfl ?_
    refine pv_i hC hsz rfl rfl rfl rfl ?_
    refine pv_i hC hsz rfl rfl rfl rfl ?_
    refine pv_i hC hsz rfl rfl rfl rfl ?_
    cases o with
    | inr st1 =>
      have hrun : pw_X PT (tx_stop 93) 2046 83954 93 (0, pm_l0 (.ref 0 :: [.int a1, .int a2]) (pm_max PT 93), [], h, 198, sl) (fun _ => False) (fun st => pm_sum st.2.2.1 ≤ 8 ∧ st.2.2.2.2 = (198, sl) ∧ twX h st.2.2.2.1) := ⟨n, .inr st1, hr, ho2.1, by rw [ho2.2.1]; decide, ho2.2.2.1, fun i _ => congrFun (px_run_nw nwx_93 n _ _ _ _ hr) i, ho2.2.2.2.2⟩
      refine tw_call (w := 1003) (t := 93) (n := 2) (pc := 5) (hpc := 13) (x := ⟨0, 10, 13, 13⟩) (vs := [.int a1, .int a2]) (rest := [.int 0, .ref 197]) (fr' := 2046) (lo' := 83954) htr hC rfl hX hsz htab rfl rfl rfl rfl rfl (Nat.le_refl _) (Nat.le_refl _) (by decide) (by decide) rfl rfl rfl rfl rfl rfl ho (by decide) (Nat.le_of_ble_eq_true rfl) (Nat.le_of_ble_eq_true rfl) (by first | exact Or.inl rfl | exact Or.inr rfl) hrun ?_
      intro q9 h1 H1 locs1 ls hXQ hP1 hS1 hl1
      refine lv_astore hC.1 hC.2.1 (i := 4) (PT_ok.1 1003 13 _ _ rfl) hl1.has (by decide) rfl (fun ls' hl' => ?_)
      refine lv_iconst hC.1 hC.2.1 (n := 1) (v := 1) (PT_ok.1 1003 15 _ _ rfl) rfl ?_
      exact W.iret hC.1 hC.2.1 B.returns (fun t ht hW => ⟨⟨1, rfl⟩, ⟨h1, hXQ, by rw [ht]; exact hP1⟩, hS1.F ht⟩) hS1.2.2 (PT_ok.1 1003 16 _ _ rfl) B.notSynchronized
    | inl r =>
      obtain ⟨⟨a, ha, hv⟩, hsr, hfr, hhr⟩ := ho2
      obtain ⟨rv, h1, s1⟩ := r
      dsimp only at hv hsr hfr hhr
      cases hsr
      cases List.mem_singleton.mp ha
      have hrv : ∃ v : Int32, rv = some (.int v) := (ao_i hv).imp (fun _ q => q.1)
      obtain ⟨v, rfl⟩ := hrv
      refine pv_call PT_ok hC rfl rfl hsz (t := 93) (mx := 3) (As := [.ref 0, .int a1, .int a2]) (rest := [.int 0, .ref 197]) (cd_x (As := [.int a1, .int a2]) rfl rfl rfl rfl (Nat.le_of_ble_eq_true rfl) (Nat.le_of_ble_eq_true rfl) rfl ho) rfl (Nat.le_of_ble_eq_true rfl) (Nat.le_of_ble_eq_true rfl) (Nat.le_refl _) (Nat.le_refl _) ⟨n, _, px_inl _ _ _ _ _ _ hr, Or.inr rfl, Nat.le_add_right _ _, Nat.le_add_right _ _, ?_⟩
      show pm_V _ _ _ _ _ _ _ _ _ _ _ _ _ _ _ 1003 198 sl (8, pm_l0 [.ref 0, .int a1, .int a2, .ref 197] 5, [.int v, .int 0, .ref 197], h1, 198, sl)
      refine pv_i hC hsz rfl rfl rfl rfl ?_
      refine tw_store (v := v.toInt64) hC hsz (px_run_nw nwx_93 n _ _ _ _ hr) hhr rfl rfl (fun _ => rfl) (fun h2 hX2 => ?_)
      refine pv_i hC hsz rfl rfl rfl rfl ?_
      intro H1 locs1 ls hP1 hS1 hl1
      dsimp only at hP1 hl1 ⊢
      refine W.widen (k := 1) (n := 6) (by omega) (by omega) ?_
      show W _ _ _ _ _ _ _ _ _ _ _ _ _ _ _ (F0 m 18 ls [.int 0])
      exact W.iret hC.1 hC.2.1 B.returns (fun t ht hW => ⟨⟨0, rfl⟩, ⟨h2, hX2, by rw [ht]; exact hP1⟩, hS1.F ht⟩) hS1.2.2 (PT_ok.1 1003 18 _ _ rfl) B.notSynchronized
  have hW := key s.heap [] _ hP va_S.rf (pm_l0_loc aC b [.ref 0, .int a1, .int a2, .ref 197] (n := 5) (Nat.le_of_ble_eq_true rfl))
  rw [lg_entry_eq]
  dsimp only at hW
  rw [Nat.sub_self, Nat.sub_self] at hW
  exact hW
set_option maxHeartbeats 1000000 in
theorem tw_row {l : Launch} (htr : l.stackTraces = false) {D : va_G} {aC : Nat → ClassId} {b g sl : Nat} {h : pm_H} {fs : List Value} (a1 : Int32) (hH : ah_ok bB 198 [] h) (ho : h 0 = .inr (10, fs)) : Met l (pm_y PT 1004) (tw_ws 1004 [(0, 8, 11, 13)]) (pm_rm 2047 83977 1 6) (tx_Pc D aC b g [.ref 0, .int a1, .ref 197] h 198) (tw_Qd D aC b h) 1 6 (fun q => b ≤ q) := by
  refine va_MetW (cc := pm_code PT 1004) (maxL := pm_max PT 1004) (ret := some .int) (hh := [(0, 8, 11, 13)]) (by decide) rfl ?_
  intro p e s m args below meth c s₁ B hml hv
  obtain ⟨rfl, hsz, hP, hK, hX⟩ := hv
  have hts := atoms_spec (ws := tw_ws 1004 [(0, 8, 11, 13)]) B.pre
  have hC : pm_C PT PG PN D aC b 1004 p s m ([Value.ref 0, Value.int a1, Value.ref 197].map (pm_tr aC b)).toArray meth c := ⟨B.exec, B.bytes, hml, findClass_of_methodNamed B.named, fun w hw => hts w (List.mem_cons_of_mem _ hw), hK, fun q => absurd q (by decide)⟩
  have htab : c.exceptionTable.toList = [⟨0, 8, 11, 13⟩] := vx_table (x := pm_y PT 1004) B (hts _ List.mem_cons_self)
  obtain ⟨n, o, hr, ho2⟩ := sx_con (sl := sl) (As := [.ref 0, .int a1]) cxKt_ok (fun z hz => by cases List.mem_singleton.mp hz; exact rfl) th_row ⟨⟨rfl, List.mem_singleton_self _⟩, ai_top_ok _, trivial⟩ hH
  have key : pm_V p l e (headSpec (tw_ws 1004 [(0, 8, 11, 13)]) (pm_rm 2047 83977 1 6)).room s m ([Value.ref 0, Value.int a1, Value.ref 197].map (pm_tr aC b)).toArray below meth c (MQ below (tw_Qd D aC b h) ([Value.ref 0, Value.int a1, Value.ref 197].map (pm_tr aC b)).toArray s 1 6 (fun q => b ≤ q)) PT D aC b 1004 198 sl (0, pm_l0 [.ref 0, .int a1, .ref 197] 4, [], h, 198, sl) := by
    refine pv_i hC hsz rfl rfl rfl rfl ?_
    refine pv_i hC hsz rfl rfl rfl rfl ?_
    refine pv_i hC hsz rfl rfl rfl rfl ?_
    refine pv_i hC hsz rfl rfl rfl rfl ?_
    cases o with
    | inr st1 =>
      have hrun : pw_X PT (tx_stop 128) 2046 83956 128 (0, pm_l0 (.ref 0 :: [.int a1]) (pm_max PT 128), [], h, 198, sl) (fun _ => False) (fun st => pm_sum st.2.2.1 ≤ 8 ∧ st.2.2.2.2 = (198, sl) ∧ twX h st.2.2.2.1) := ⟨n, .inr st1, hr, ho2.1, by rw [ho2.2.1]; decide, ho2.2.2.1, fun i _ => congrFun (px_run_nw nwx_128 n _ _ _ _ hr) i, ho2.2.2.2.2⟩
      refine tw_call (w := 1004) (t := 128) (n := 1) (pc := 4) (hpc := 11) (x := ⟨0, 8, 11, 13⟩) (vs := [.int a1]) (rest := [.int 0, .ref 197]) (fr' := 2046) (lo' := 83956) htr hC rfl hX hsz htab rfl rfl rfl rfl rfl (Nat.le_refl _) (Nat.le_refl _) (by decide) (by decide) rfl rfl rfl rfl rfl rfl ho (by decide) (Nat.le_of_ble_eq_true rfl) (Nat.le_of_ble_eq_true rfl) (by first | exact Or.inl rfl | exact Or.inr rfl) hrun ?_
      intro q9 h1 H1 locs1 ls hXQ hP1 hS1 hl1
      refine lv_astore_n hC.1 hC.2.1 (k := 3) (i := 3) (PT_ok.1 1004 11 _ _ rfl) rfl hl1.has (by decide) rfl (fun ls' hl' => ?_)
      refine lv_iconst hC.1 hC.2.1 (n := 1) (v := 1) (PT_ok.1 1004 12 _ _ rfl) rfl ?_
      exact W.iret hC.1 hC.2.1 B.returns (fun t ht hW => ⟨⟨1, rfl⟩, ⟨h1, hXQ, by rw [ht]; exact hP1⟩, hS1.F ht⟩) hS1.2.2 (PT_ok.1 1004 13 _ _ rfl) B.notSynchronized
    | inl r =>
      obtain ⟨⟨a, ha, hv⟩, hsr, hfr, hhr⟩ := ho2
      obtain ⟨rv, h1, s1⟩ := r
      dsimp only at hv hsr hfr hhr
      cases hsr
      cases List.mem_singleton.mp ha
      have hrv : ∃ v : Int64, rv = some (.long v) := ao_l hv
      obtain ⟨v, rfl⟩ := hrv
      refine pv_call PT_ok hC rfl rfl hsz (t := 128) (mx := 2) (As := [.ref 0, .int a1]) (rest := [.int 0, .ref 197]) (cd_x (As := [.int a1]) rfl rfl rfl rfl (Nat.le_of_ble_eq_true rfl) (Nat.le_of_ble_eq_true rfl) rfl ho) rfl (Nat.le_of_ble_eq_true rfl) (Nat.le_of_ble_eq_true rfl) (Nat.le_refl _) (Nat.le_refl _) ⟨n, _, px_inl _ _ _ _ _ _ hr, Or.inr rfl, Nat.le_add_right _ _, Nat.le_add_right _ _, ?_⟩
      show pm_V _ _ _ _ _ _ _ _ _ _ _ _ _ _ _ 1004 198 sl (7, pm_l0 [.ref 0, .int a1, .ref 197] 4, [.long v, .int 0, .ref 197], h1, 198, sl)
      refine tw_store (v := v) hC hsz (px_run_nw nwx_128 n _ _ _ _ hr) hhr rfl rfl (fun _ => rfl) (fun h2 hX2 => ?_)
      refine pv_i hC hsz rfl rfl rfl rfl ?_
      intro H1 locs1 ls hP1 hS1 hl1
      dsimp only at hP1 hl1 ⊢
      refine W.widen (k := 1) (n := 6) (by omega) (by omega) ?_
      show W _ _ _ _ _ _ _ _ _ _ _ _ _ _ _ (F0 m 15 ls [.int 0])
      exact W.iret hC.1 hC.2.1 B.returns (fun t ht hW => ⟨⟨0, rfl⟩, ⟨h2, hX2, by rw [ht]; exact hP1⟩, hS1.F ht⟩) hS1.2.2 (PT_ok.1 1004 15 _ _ rfl) B.notSynchronized
  have hW := key s.heap [] _ hP va_S.rf (pm_l0_loc aC b [.ref 0, .int a1, .ref 197] (n := 4) (Nat.le_of_ble_eq_true rfl))
  rw [lg_entry_eq]
  dsimp only at hW
  rw [Nat.sub_self, Nat.sub_self] at hW
  exact hW
end TWD
end MG90wrapcallx1
section MG90wrapcallx2
/-! THE LAW'S OWN CODE, read by program: arguments out of the script, two calls, a comparison. P is what is to be shown of a state; lc_Cl: P goes back over steps, calls and readings of the script -/
section LC
def lc_Cl (sz sl bS Ln : Nat) (xs : Nat → Int32) (P : pm_St → Prop) : Prop :=
  (∀ (pc : Nat) (L : pm_L) (S : List Value) (h : pm_H) (pc' : Nat) (L' : pm_L) (S' : List Value) (h' : pm_H), pm_step PT pm_go0 2048 84000 1000 (pc, L, S, h, sz, sl) = some (pc', L', S', h', sz, sl) → P (pc', L', S', h', sz, sl) → P (pc, L, S, h, sz, sl)) ∧
  (∀ (pc : Nat) (L : pm_L) (S : List Value) (h : pm_H) (t : Nat) (As rest : List Value), pm_cd PT 1000 (pc, L, S, h, sz, sl) = some (t, As, rest) → 19 + pm_max PT t ≤ 84000 → pm_WP PT 2047 (84000 - (19 + pm_max PT t)) t (0, pm_l0 As (pm_max PT t), [], h, sz, sl) (fun r => r.2.2 = (sz, sl) ∧ P (pc + 3, L, r.1.toList ++ rest, r.2)) → P (pc, L, S, h, sz, sl)) ∧
  (∀ (pc : Nat) (L : pm_L) (S : List Value) (h : pm_H) (i : Nat), i < Ln → pm_ins PT 1000 pc = some (.iaload, 1) → P (pc + 1, L, .int (xs i) :: S, h, sz, sl) → P (pc, L, .int (nI i) :: .retAddr bS :: S, h, sz, sl)) ∧
  (∀ (pc : Nat) (L : pm_L) (S : List Value) (h : pm_H), pm_ins PT 1000 pc = some (.arraylength, 1) → P (pc + 1, L, .int (nI Ln) :: S, h, sz, sl) → P (pc, L, .retAddr bS :: S, h, sz, sl))
theorem lc_of {p : Program} {l : Launch} {e : Env} {R : Room} {s : State} {m : MethodId} {args : Array Value} {below : List Frame} {meth : Method} {c : Code} {Q : State → Prop} {D : va_G} {aC : Nat → ClassId} {b g sz sl bS Ln : Nat} {xs : Nat → Int32} (hC : pm_C PT PG PN D aC b 1000 p s m args meth c) (hfr : R.frames = 2048) (hlo : R.locals = 84000) (hs0 : s.heap.size = b + sz + g) (hX : va_X (aC (1000 + bS)) Ln xs s s.heap) (hbl : aC (1000 + bS) < s.heap.size) (hbA : ¬ b ≤ aC (1000 + bS)) (hLn : Ln < 2 ^ 31) : lc_Cl sz sl bS Ln xs (pm_V p l e R s m args below meth c Q PT D aC b 1000 sz sl) := by
  refine ⟨?_, ?_, ?_, ?_⟩
  · intro pc L S h pc' L' S' h' hs kk
    exact pm_step_ok PT_ok hC hfr hlo hs0 (Or.inr rfl) (Nat.le_refl _) (Nat.le_refl _) (Nat.le_add_right _ _) (Nat.le_add_right _ _) (go := pm_go0) (fun _ _ _ _ _ _ _ _ _ _ q => by cases q) hs kk
  · intro pc L S h t As rest hcd hl kk
    refine pv_call PT_ok hC hfr hlo hs0 hcd rfl (by omega) hl (Nat.le_refl _) (Nat.le_refl _) (wp_mono kk ?_)
    rintro ⟨rv, h1, sz1, sl1⟩ ⟨q1, q2⟩
    cases q1
    exact ⟨Or.inr rfl, Nat.le_add_right _ _, Nat.le_add_right _ _, q2⟩
  · intro pc L S h i hi hins kk
    have kk' := pv_sld (l := l) (e := e) (R := R) (below := below) (Q := Q) PT_ok hC hX hbl hbA (L := L) (S := S) (h := h) (sz := sz) (sl := sl) (sz0 := sz) (sl0 := sl) (i := nI i) (vp_in_nI hi hLn) hins
    rw [nI_clamp (by omega)] at kk'
    exact kk' kk
  · intro pc L S h hins kk
    exact pv_slen PT_ok hC hX hbl hbA hins kk
variable {P : pm_St → Prop} {sz sl bS Ln i pc : Nat} {xs : Nat → Int32} {L : pm_L} {S : List Value} {h : pm_H}
/-- load -/
theorem lc_ald (H : lc_Cl sz sl bS Ln xs P) {a : Fin 4} {v : Value} (hi : pm_ins PT 1000 pc = some (.aload_n a, 1)) (hg : pm_get L a.val = some v) (hv : pm_isT 2 v = true) (kk : P (pc + 1, L, v :: S, h, sz, sl)) : P (pc, L, S, h, sz, sl) := by
  refine H.1 _ _ _ _ _ _ _ _ ((ls_of hi rfl rfl).trans ?_) kk
  show pm_lo 2 1 pc a.val L S h sz sl = _
  unfold pm_lo pm_ld
  rw [hg]
  dsimp only
  rw [if_pos hv]
theorem lc_ild (H : lc_Cl sz sl bS Ln xs P) {a : Nat} {v : Int32} (hi : pm_ins PT 1000 pc = some (.iload a, 2)) (hg : pm_get L a = some (.int v)) (kk : P (pc + 2, L, .int v :: S, h, sz, sl)) : P (pc, L, S, h, sz, sl) := by
  refine H.1 _ _ _ _ _ _ _ _ ((ls_of hi rfl rfl).trans ?_) kk
  show pm_lo 0 2 pc a L S h sz sl = _
  unfold pm_lo pm_ld
  rw [hg]
  rfl
def lc_al (pc a : Nat) : Bool := match pm_ins PT 1000 pc with
  | some (.aload_n q, 1) => q.val == a
  | _ => false
theorem lc_al_ok (H : lc_Cl sz sl bS Ln xs P) {a : Nat} {v : Value} (hi : lc_al pc a = true) (hg : pm_get L a = some v) (hv : pm_isT 2 v = true) (kk : P (pc + 1, L, v :: S, h, sz, sl)) : P (pc, L, S, h, sz, sl) := by
  unfold lc_al at hi
  split at hi
  · rename_i q e
    have hq := eq_of_beq hi
    rw [← hq] at hg
    exact lc_ald H e hg hv kk
  · cases hi
/-- an argument: script[i + j] -/
def lc_arg (pc j : Nat) : Bool := match pm_ins PT 1000 pc, pm_ins PT 1000 (pc + 1), pm_ins PT 1000 (pc + 3), pm_ins PT 1000 (pc + 4), pm_ins PT 1000 (pc + 5) with
  | some (.aload_n q, 1), some (.iload 4, 2), some (.iconst n, 1), some (.iadd, 1), some (.iaload, 1) => q.val == 0 && decide (n = (j : Int))
  | _, _, _, _, _ => false
theorem lc_arg_ok (H : lc_Cl sz sl bS Ln xs P) {j : Nat} (ha : lc_arg pc j = true) (h0 : pm_get L 0 = some (.retAddr bS)) (h4 : pm_get L 4 = some (.int (nI i))) (hj : i + j < Ln) (kk : P (pc + 6, L, .int (xs (i + j)) :: S, h, sz, sl)) : P (pc, L, S, h, sz, sl) := by
  unfold lc_arg at ha
  split at ha
  · rename_i q n e1 e2 e3 e4 e5
    rw [Bool.and_eq_true] at ha
    have hq := eq_of_beq ha.1
    have hn : n = (j : Int) := of_decide_eq_true ha.2
    rw [← hq] at h0
    refine lc_ald H e1 h0 rfl ?_
    refine lc_ild H e2 h4 ?_
    refine H.1 _ _ _ _ (pc + 4) _ _ _ (ls_of e3 rfl rfl) ?_
    refine H.1 _ _ _ _ (pc + 5) _ _ _ (ls_of e4 rfl rfl) ?_
    have e : nI i + Int32.ofInt n = nI (i + j) := by
      rw [hn, ← nI_add]
      rfl
    show P (pc + 5, L, .int (nI i + Int32.ofInt n) :: .retAddr bS :: S, h, sz, sl)
    rw [e]
    exact H.2.2.1 _ _ _ _ _ hj e5 kk
  · cases ha
def lc_args : Nat → Nat → Nat → Bool
  | _, 0, _ => true
  | pc, n + 1, j => lc_arg pc j && lc_args (pc + 6) n (j + 1)
def lc_vals (xs : Nat → Int32) (i : Nat) : Nat → Nat → List Int32
  | 0, _ => []
  | n + 1, j => xs (i + j) :: lc_vals xs i n (j + 1)
theorem lc_vals_len (xs : Nat → Int32) (i : Nat) : ∀ n j, (lc_vals xs i n j).length = n
  | 0, _ => rfl
  | n + 1, j => by unfold lc_vals; rw [List.length_cons, lc_vals_len xs i n (j + 1)]
theorem lc_args_ok (H : lc_Cl sz sl bS Ln xs P) (h0 : pm_get L 0 = some (.retAddr bS)) (h4 : pm_get L 4 = some (.int (nI i))) : ∀ (n j pc : Nat) (S : List Value), lc_args pc n j = true → i + j + n ≤ Ln → P (pc + 6 * n, L, ((lc_vals xs i n j).map Value.int).reverse ++ S, h, sz, sl) → P (pc, L, S, h, sz, sl)
  | 0, _, _, _, _, _, kk => kk
  | n + 1, j, pc, S, ha, hb, kk => by
    unfold lc_args at ha
    rw [Bool.and_eq_true] at ha
    refine lc_arg_ok H ha.1 h0 h4 (by omega) (lc_args_ok H h0 h4 n (j + 1) (pc + 6) _ ha.2 (by omega) ?_)
    unfold lc_vals at kk
    rw [List.map_cons, List.reverse_cons, List.append_assoc] at kk
    rw [show pc + 6 + 6 * n = pc + 6 * (n + 1) by omega]
    exact kk
theorem lc_pargs : ∀ vs : List Int32, (pm_args (vs.map Value.int)).length = vs.length
  | [] => rfl
  | v :: r => by
    have ih := lc_pargs r
    rw [List.map_cons]
    unfold pm_args
    rw [if_neg (by show ¬ (1 : Nat) = 2; omega), List.length_cons, List.length_cons, ih]
/-- a call by the receiver's class -/
def lc_iv (pc t n ci : Nat) : Bool := match pm_ins PT 1000 pc with
  | some (.invokevirtual j, 3) => decide (pm_mlk PT (pm_o PT 1000) j = some (0, t) ∧ pm_na PT t = n + 1 ∧ pm_ci PT t = ci ∧ n + 1 ≤ pm_max PT t ∧ 19 + pm_max PT t ≤ 84000)
  | _ => false
theorem lc_iv_ok (H : lc_Cl sz sl bS Ln xs P) {t n ci a : Nat} {fs : List Value} {vs : List Int32} {rest : List Value} (hi : lc_iv pc t n ci = true) (ho : h a = .inr (ci, fs)) (ha : a < sz) (hn : vs.length = n) (hr : pm_sum rest ≤ 8)
    (kk : pm_WP PT 2047 (84000 - (19 + pm_max PT t)) t (0, pm_l0 (.ref a :: vs.map Value.int) (pm_max PT t), [], h, sz, sl) (fun r => r.2.2 = (sz, sl) ∧ P (pc + 3, L, r.1.toList ++ rest, r.2))) : P (pc, L, (vs.map Value.int).reverse ++ .ref a :: rest, h, sz, sl) := by
  unfold lc_iv at hi
  split at hi
  · rename_i j e
    obtain ⟨c1, c2, c3, c4, c5⟩ := of_decide_eq_true hi
    refine H.2.1 _ _ _ _ t (.ref a :: vs.map Value.int) rest ?_ c5 kk
    have hlen : ((vs.map Value.int).reverse ++ [Value.ref a]).length = n + 1 := by
      rw [List.length_append, List.length_reverse, List.length_map, hn]
      rfl
    have hsp : (vs.map Value.int).reverse ++ .ref a :: rest = ((vs.map Value.int).reverse ++ [Value.ref a]) ++ rest := by rw [List.append_assoc]; rfl
    have htk : ((vs.map Value.int).reverse ++ .ref a :: rest).take (n + 1) = (vs.map Value.int).reverse ++ [Value.ref a] := by rw [hsp, ← hlen, List.take_left']; rfl
    have hdr : ((vs.map Value.int).reverse ++ .ref a :: rest).drop (n + 1) = rest := by rw [hsp, ← hlen, List.drop_left']; rfl
    have hrev : ((vs.map Value.int).reverse ++ [Value.ref a]).reverse = .ref a :: vs.map Value.int := by rw [List.reverse_append, List.reverse_reverse]; rfl
    unfold pm_cd
    dsimp only
    rw [e]
    dsimp only
    have hcal : pm_callee PT 1000 (.invokevirtual j) = some (0, t) := by
      unfold pm_callee
      dsimp only
      rw [c1]
      rfl
    rw [if_pos (show pm_lenOk (Instr.invokevirtual j) 3 = true from rfl), hcal]
    dsimp only
    rw [c2, htk, hdr, hrev]
    refine if_pos ⟨?_, ?_, hr, ?_⟩
    · rw [hsp, List.length_append, hlen]
      omega
    · unfold pm_rcv
      rw [if_neg (by omega)]
      dsimp only
      unfold pm_obj
      rw [if_pos ha, ho]
      dsimp only
      rw [c3]
      exact beq_self_eq_true ci
    · show (pm_args (.ref a :: vs.map Value.int)).length ≤ _
      unfold pm_args
      rw [if_neg (by show ¬ (1 : Nat) = 2; omega), List.length_cons, lc_pargs, hn]
      exact c4
  · cases hi
def lc_eq (pc pe : Nat) : Bool := match pm_ins PT 1000 pc with
  | some (.if_icmp .eq off, 3) => decide (pm_tgt pc off = some pe)
  | _ => false
theorem lc_eq_ok (H : lc_Cl sz sl bS Ln xs P) {pe : Nat} {v : Int32} (hi : lc_eq pc pe = true) (kk : P (pe, L, S, h, sz, sl)) : P (pc, L, .int v :: .int v :: S, h, sz, sl) := by
  unfold lc_eq at hi
  split at hi
  · rename_i off e
    have ht : pm_tgt pc off = some pe := of_decide_eq_true hi
    refine H.1 _ _ _ _ _ _ _ _ ((ls_of e rfl rfl).trans ?_) kk
    show pm_br (pm_cmp .eq v v) pc off L S h sz sl = _
    unfold pm_br
    rw [ht, show pm_cmp .eq v v = true from decide_eq_true rfl]
  · cases hi
/-- an answer thrown away -/
def lc_pop (pc : Nat) : Bool := match pm_ins PT 1000 pc with
  | some (.pop, 1) => true
  | _ => false
theorem lc_pop_ok (H : lc_Cl sz sl bS Ln xs P) {v : Int32} (hi : lc_pop pc = true) (kk : P (pc + 1, L, S, h, sz, sl)) : P (pc, L, .int v :: S, h, sz, sl) := by
  unfold lc_pop at hi
  split at hi
  · rename_i e
    exact H.1 _ _ _ _ _ _ _ _ ((ls_of e rfl rfl).trans rfl) kk
  · cases hi
def lc_go (pc pe : Nat) : Bool := match pm_ins PT 1000 pc with
  | some (.goto off, 3) => decide (pm_tgt pc off = some pe)
  | _ => false
theorem lc_go_ok (H : lc_Cl sz sl bS Ln xs P) {pe : Nat} (hi : lc_go pc pe = true) (kk : P (pe, L, S, h, sz, sl)) : P (pc, L, S, h, sz, sl) := by
  unfold lc_go at hi
  split at hi
  · rename_i off e
    have ht : pm_tgt pc off = some pe := of_decide_eq_true hi
    refine H.1 _ _ _ _ _ _ _ _ ((ls_of e rfl rfl).trans ?_) kk
    show pm_jp pc off L S h sz sl = _
    unfold pm_jp
    rw [ht]
  · cases hi
/-- what stands in the law's locals in its loop -/
def lc_L (bS i : Nat) (L : pm_L) : Prop := pm_get L 0 = some (.retAddr bS) ∧ pm_get L 1 = some (.ref 0) ∧ pm_get L 2 = some (.ref 162) ∧ pm_get L 3 = some (.ref 197) ∧ pm_get L 4 = some (.int (nI i)) ∧ L.length = 8
/-- two calls, their answers thrown away -/
def lc_twp (pc n kx km pe : Nat) : Bool := lc_al pc 1 && (lc_args (pc + 1) n 1 && (lc_iv (pc + 1 + 6 * n) kx n 10 && (lc_pop (pc + 4 + 6 * n) && (lc_al (pc + 5 + 6 * n) 2 && (lc_args (pc + 6 + 6 * n) n 1 && (lc_iv (pc + 6 + 12 * n) km n 11 && (lc_pop (pc + 9 + 12 * n) && lc_go (pc + 10 + 12 * n) pe)))))))
theorem lc_twp_ok (H : lc_Cl sz sl bS Ln xs P) {n kx km pe : Nat} (hc : lc_twp pc n kx km pe = true) (hL : lc_L bS i L) (hb : i + 1 + n ≤ Ln) (hz : 162 < sz) {f1 : List Value} (o1 : h 0 = .inr (10, f1))
    (kk : pm_WP PT 2047 (84000 - (19 + pm_max PT kx)) kx (0, pm_l0 (.ref 0 :: (lc_vals xs i n 1).map Value.int) (pm_max PT kx), [], h, sz, sl) (fun x => x.2.2 = (sz, sl) ∧ (∃ v, x.1 = some (.int v)) ∧ (∃ f2, x.2.1 162 = .inr (11, f2)) ∧ pm_WP PT 2047 (84000 - (19 + pm_max PT km)) km (0, pm_l0 (.ref 162 :: (lc_vals xs i n 1).map Value.int) (pm_max PT km), [], x.2) (fun y => (∃ v, y.1 = some (.int v)) ∧ y.2.2 = (sz, sl) ∧ P (pe, L, [], y.2)))) : P (pc, L, [], h, sz, sl) := by
  unfold lc_twp at hc
  simp only [Bool.and_eq_true] at hc
  obtain ⟨c1, c2, c3, c4, c5, c6, c7, c8, c9⟩ := hc
  obtain ⟨l0, l1, l2, l3, l4, l5⟩ := hL
  refine lc_al_ok H c1 l1 rfl (lc_args_ok H l0 l4 n 1 _ _ c2 hb ?_)
  refine lc_iv_ok H c3 o1 (by omega) (lc_vals_len xs i n 1) (by decide) (wp_mono kk ?_)
  rintro ⟨rv, h1, sz1, sl1⟩ ⟨q1, ⟨v, q2⟩, ⟨f2, q3⟩, q4⟩
  cases q1
  dsimp only at q2 q3 q4
  subst q2
  refine ⟨rfl, ?_⟩
  show P (pc + 1 + 6 * n + 3, L, [.int v], h1, sz, sl)
  rw [show pc + 1 + 6 * n + 3 = pc + 4 + 6 * n by omega]
  refine lc_pop_ok H c4 ?_
  rw [show pc + 4 + 6 * n + 1 = pc + 5 + 6 * n by omega]
  refine lc_al_ok H c5 l2 rfl ?_
  rw [show pc + 5 + 6 * n + 1 = pc + 6 + 6 * n by omega]
  refine lc_args_ok H l0 l4 n 1 _ _ c6 hb ?_
  rw [show pc + 6 + 6 * n + 6 * n = pc + 6 + 12 * n by omega]
  refine lc_iv_ok H c7 q3 hz (lc_vals_len xs i n 1) (by decide) (wp_mono q4 ?_)
  rintro ⟨rw2, h2, sz2, sl2⟩ ⟨⟨u, p1⟩, p2, p3⟩
  cases p2
  dsimp only at p1 p3
  subst p1
  refine ⟨rfl, ?_⟩
  show P (pc + 6 + 12 * n + 3, L, [.int u], h2, sz, sl)
  rw [show pc + 6 + 12 * n + 3 = pc + 9 + 12 * n by omega]
  refine lc_pop_ok H c8 ?_
  rw [show pc + 9 + 12 * n + 1 = pc + 10 + 12 * n by omega]
  exact lc_go_ok H c9 p3
end LC
end MG90wrapcallx2
section MG90wrapcallx3
/-! the law's walk: its end, its start anew at a later state, what it knows of a state -/
section LW
variable {p : Program} {l : Launch} {e : Env} {R : Room} {s : State} {m : MethodId} {args : Array Value} {below : List Frame} {meth : Method} {c : Code} {H : Heap} {locs : List Loc} {cells slots : Nat}
variable {D : va_G} {aC : Nat → ClassId} {b g sz sl bS Ln : Nat} {xs : Nat → Int32}
/-- the law has answered true; what it wrote lies at b or behind -/
def lw_Zb (b C S : Nat) (below : List Frame) (s : State) : State → Prop := fun t => ∃ o, t.status = .running ∧ Ended t below o ∧ o = .returned (some (.int 1)) ∧ ∃ L, Framed s o t L C S ∧ ∀ q ∈ L, b ≤ q.base
theorem lw_retb (hx : p.tables.exec = Jvm.exec) (hb : c.code = code) (hr : meth.sig.returnType = ret) (hlocks : meth.locks = false) {pc C S : Nat} {ls : Array Slot} (hdg : decode code pc = .ok (.ireturn, 1)) (hL : ∀ q ∈ locs, b ≤ q.base) (h1 : cells ≤ C) (h2 : slots ≤ S) : W p l e R s m args below meth c H locs cells slots (lw_Zb b C S below s) (F0 m pc ls [.int 1]) := by
  intro T hT X0
  have X := stand_widen X0 h1 h2
  obtain ⟨fs, hret, hrun, hended, hW, hframe⟩ := X.leave (v := some (.int 1)) (hlocks := hlocks) (fun h => by rw [hr] at h; cases h)
  have hmeth' : T.vm.method? m = some meth := X.method'
  refine ⟨T.setFrames fs, ?_, .returned (some (.int 1)), hrun, hended, rfl, locs, ⟨⟨_, rfl⟩, hW, hframe⟩, hL⟩
  jvm_step X.here [X.here.top, hx, hb, hdg, hmeth', hr, ret, narrow_b1]
  (try refine ⟨rfl, ?_⟩); (try refine ⟨rfl, ?_⟩)
  first | (intro acts; rw [hret _ acts rfl rfl rfl]) | rw [hret _ _ rfl rfl rfl]
  exact Steps.refl _
/-- the walk begun anew where it stands -/
theorem lw_rebase {R' : Room} {C S C' S' : Nat} {gf : JFrame} (hf : R'.frames ≤ R.frames) (hl : R'.locals ≤ R.locals) (hc : cells + R'.cells ≤ R.cells) (hs : slots + R'.slots ≤ R.slots) (hC : cells + C' ≤ C) (hS : slots + S' ≤ S) (hL : ∀ q ∈ locs, b ≤ q.base)
    (kk : ∀ s' : State, s'.vm = s.vm → s'.heap = H → W p l e R' s' m args below meth c H [] 0 0 (lw_Zb b C' S' below s') gf) : W p l e R s m args below meth c H locs cells slots (lw_Zb b C S below s) gf := by
  intro T hT X
  have Y := vx_rebase X hf hl hc hs
  obtain ⟨s', hA⟩ : ∃ z, z = (T.setVm s.vm).setFrames (.invoking m args :: below) := ⟨_, rfl⟩
  rw [← hA] at Y
  have hvm : s'.vm = s.vm := by rw [hA]; rfl
  have hhp : s'.heap = H := by rw [hA]; exact hT
  obtain ⟨t, a1, o, b1, b2, b3, L', ⟨⟨v, b4⟩, hW, hsame⟩, b5⟩ := kk s' hvm hhp T hT Y
  have hW0 : s.WarmedH s'.vm := by rw [hvm]; exact State.WarmedH.refl s
  refine ⟨t, a1, o, b1, b2, b3, locs ++ L', ⟨⟨v, b4⟩, State.WarmedH.trans hW0 hW, ?_⟩, fun q hq => (List.mem_append.mp hq).elim (hL q) (b5 q)⟩
  subst hA
  obtain ⟨e1, e2⟩ := hsame
  rw [State.setFrames_setFrames] at e1
  have h2 : (T.setVm s.vm).sameButNew ({ t with vm := s.vm } : State) L' C' S' := ⟨e1, e2⟩
  exact (X.same.trans h2).mono hC hS
/-- what the law knows of a state -/
def lw_Env (D : va_G) (aC : Nat → ClassId) (b bS Ln : Nat) (xs : Nat → Int32) (p : Program) (s : State) (m : MethodId) (meth : Method) (c : Code) : Prop := pm_C PT PG PN D aC b 1000 p s m #[Value.ref (aC (1000 + bS))] meth c ∧ tx_K b s ∧ va_X (aC (1000 + bS)) Ln xs s s.heap ∧ aC (1000 + bS) < b ∧ b ≤ s.heap.size
theorem lw_Env.to {s' : State} (h : lw_Env D aC b bS Ln xs p s m meth c) (hvm : s'.vm = s.vm) (hq : ∀ a : Nat, a < s.heap.size → ¬ b ≤ a → s'.heap[a]? = s.heap[a]?) (hz : s.heap.size ≤ s'.heap.size) : lw_Env D aC b bS Ln xs p s' m meth c := by
  obtain ⟨⟨c1, c2, c3, c4, c5, c6, c7⟩, hX, hV, h1, h2⟩ := h
  have hW : s.WarmedH s'.vm := by rw [hvm]; exact State.WarmedH.refl s
  refine ⟨⟨c1, c2, c3, by rw [hvm]; exact c4, fun w hw => word_at hW (good_of_word (PT_ok.2.1 w hw)) (c5 w hw), c6.warm PT_ok hW (locs := []) ⟨hz, hq, fun _ q => (by cases q)⟩, c7⟩, hX.to hW hq, ?_, h1, Nat.le_trans h2 hz⟩
  exact va_X.moved hW.alike (hV.kept (hq (aC (1000 + bS)) (Nat.lt_of_lt_of_le h1 h2) (Nat.not_le_of_lt h1)))
/-- the call of a wrapper that answers 1, and the walk begun anew behind it -/
theorem lw_wrap {w jw lo1 n pc : Nat} {hh : List (Nat × Nat × Nat × Nat)} {As : List Value} {L : pm_L} {h : pm_H} {C S : Nat} (E : lw_Env D aC b bS Ln xs p s m meth c) (hz198 : sz = 198) (hs0 : s.heap.size = b + sz + g) (hfr : R.frames = 2048) (hlo : R.locals = 84000) (hRc : 1 ≤ R.cells) (hRs : 6 ≤ R.slots) (hC : 1 ≤ C) (hS : 6 ≤ S)
    (hi : pm_ins PT 1000 pc = some (.invokestatic jw, 3)) (hcls : (pm_y PT w).cls = "GiftsOfCourtsLaw") (hwd : ∀ z ∈ ([Cond.methodLink "GiftsOfCourtsLaw" jw (pm_y PT w), Cond.static (pm_y PT w), Cond.initialized "GiftsOfCourtsLaw", Cond.codeWith (pm_y PT w) (pm_code PT w) (pm_max PT w) (some .int) hh] : List Cond), z ∈ PG) (hpar : (parseMethodDescriptor (pm_y PT w).desc).map (fun d => d.parameters.length) = some n) (hn : As.length = n) (hlo1 : lo1 + (19 + pm_max PT w) ≤ 84000)
    (hM : Met l (pm_y PT w) (tw_ws w hh) (pm_rm 2047 lo1 1 6) (tx_Pc D aC b g As h sz) (tw_Qd D aC b h) 1 6 (fun q => b ≤ q))
    (kk : ∀ (s' : State) (g' : Nat) (h1 : pm_H), lw_Env D aC b bS Ln xs p s' m meth c → s'.heap.size = b + sz + g' → twX h h1 → ∀ v : Int32, pm_V p l e { frames := R.frames, locals := R.locals, cells := R.cells - 1, slots := R.slots - 6 } s' m #[Value.ref (aC (1000 + bS))] below meth c (lw_Zb b (C - 1) (S - 6) below s') PT D aC b 1000 sz sl (pc + 3, L, [.int v], h1, sz, sl)) :
    pm_V p l e R s m #[Value.ref (aC (1000 + bS))] below meth c (lw_Zb b C S below s) PT D aC b 1000 sz sl (pc, L, As.reverse, h, sz, sl) := by
  subst hz198
  have E0 := E
  obtain ⟨⟨hx, hb, hml, hown', hts, hK, hin⟩, hX, hV, hbS, hbs⟩ := E
  have hd := PT_ok.1 _ _ _ _ hi
  intro H locs ls hP hSS hl
  refine pm_sized fun hzz => ?_
  dsimp only at hzz hP hl ⊢
  have hsz := pm_size (g := g) hSS hP hs0 (Or.inr rfl) (Nat.le_refl _) hzz
  rw [Nat.sub_self, Nat.sub_self]
  have hpre : ∀ U : State, U.heap = H → s.WarmedH U.vm → tx_Pc D aC b g As h 198 (As.map (pm_tr aC b)).toArray U := fun U hU hW => ⟨rfl, by rw [hU]; exact hsz, by rw [hU]; exact hP, hK.warm PT_ok hW (by rw [hU]; exact hSS), hX.to hW (fun a ha hba => by rw [hU]; exact hSS.2.1 a ha hba)⟩
  have hroom : 2 * (F0 m pc ls (As.reverse.map (pm_tr aC b))).monitorRoom + ((([] : List Value).map (pm_tr aC b)).map fun v => v.category).sum ≤ 8 := lv_room (Nat.le_of_ble_eq_true rfl)
  have hRR : (pm_rm 2047 lo1 1 6).frames + 1 ≤ R.frames ∧ 8 + (pm_max PT w + 11) + (pm_rm 2047 lo1 1 6).locals ≤ R.locals := by
    dsimp only
    omega
  have hgd : GoodIn PG (va_wsS "GiftsOfCourtsLaw" jw (pm_y PT w) (tw_ws w hh)) := pm_good PT_ok (fun z hz => by
    simp only [va_wsS, tw_ws, List.mem_append, List.mem_cons, List.not_mem_nil, or_false] at hz
    rw [hcls] at hz
    rcases hz with (rfl | rfl | rfl) | rfl | hz
    · exact hwd _ (by simp)
    · exact hwd _ (by simp)
    · exact hwd _ (by simp)
    · exact hwd _ (by simp)
    · exact hz)
  have hr := vx_runSW (p := p) (l := l) (e := e) (below := below) (meth := meth) (locs := locs) (cells := 0) (slots := 0) (As := As.map (pm_tr aC b)) (rest := []) (g := F0 m pc ls (As.reverse.map (pm_tr aC b))) (own := "GiftsOfCourtsLaw") (H := H) ⟨hx, hb, hml, hown', hts⟩ hM (vx_cwSW n hts hgd rfl rfl rfl ⟨by rw [hcls]; decide, by rw [hcls]; decide, hpar⟩ hRR) ⟨tx_blind, hpre⟩ rfl (by rw [List.length_map]; exact hn) hl.1 (by show As.reverse.map (pm_tr aC b) = _; rw [List.map_reverse, List.append_nil]) hroom hd ⟨by omega, by omega⟩
  intro T hT X
  obtain ⟨v, st₀, t, T2, L2, h0, X', hL, e1, e2, ⟨hv, ⟨h1, hXQ, hP1⟩, hF⟩, st⟩ := hr T hT X
  obtain ⟨vv, hv⟩ := hv
  cases hv
  have hgz : s.heap.size ≤ T2.heap.size := by
    rw [e1]
    have h3 := hF.1
    rw [h0] at h3
    exact Nat.le_trans hSS.1 h3
  have hq : ∀ a : Nat, a < s.heap.size → ¬ b ≤ a → T2.heap[a]? = s.heap[a]? := fun a ha hba => by
    rw [e1, hF.2 a (by rw [h0]; exact Nat.lt_of_lt_of_le ha hSS.1) hba, h0]
    exact hSS.2.1 a ha hba
  have hbz : b + 198 ≤ T2.heap.size := by
    rw [e1]
    have h3 := hF.1
    rw [h0] at h3
    omega
  have key : W p l e R s m #[Value.ref (aC (1000 + bS))] below meth c T2.heap (locs ++ L2) (0 + 1) (0 + 6) (lw_Zb b C S below s) (F0 m (pc + 3) ls [.int vv]) := by
    refine lw_rebase (R' := { frames := R.frames, locals := R.locals, cells := R.cells - 1, slots := R.slots - 6 }) (C' := C - 1) (S' := S - 6) (Nat.le_refl _) (Nat.le_refl _) (by dsimp only; omega) (by dsimp only; omega) (by omega) (by omega) (fun q hq => (List.mem_append.mp hq).elim (hSS.2.2 q) (hL q)) (fun s' hvm hhp => ?_)
    have hV := kk s' (T2.heap.size - (b + 198)) h1 (E0.to hvm (fun a ha hba => by rw [hhp]; exact hq a ha hba) (by rw [hhp]; exact hgz)) (by rw [hhp]; omega) hXQ vv
    have hW := hV T2.heap [] ls (by rw [e1]; exact hP1) (by rw [← hhp]; exact va_S.rf) hl
    dsimp only at hW
    rw [Nat.sub_self, Nat.sub_self] at hW
    exact hW
  obtain ⟨t2, a1, b1⟩ := key T2 rfl X'
  exact ⟨t2, st t2 a1, b1⟩
end LW
end MG90wrapcallx3
section MG90wrapcallx4
/-! the law's loop: its head, its switch, its tail, and what follows a wrapper -/
section LLP
variable {P : pm_St → Prop} {sz sl bS Ln i j pc : Nat} {xs : Nat → Int32} {L : pm_L} {S : List Value} {h : pm_H} {v w : Value}
theorem gs_len {L : pm_L} {i : Nat} {v : Value} : (pm_st1 L i v).length = L.length := by
  unfold pm_st1 pm_cut
  rw [List.length_set]
  split
  · rfl
  · split
    · rw [List.length_set]
    · rfl
theorem gs_same (hi : i < L.length) : pm_get (pm_st1 L i v) i = some v := by
  have hl : i < (pm_cut L i).length := by
    unfold pm_cut
    split
    · exact hi
    · split
      · rw [List.length_set]; exact hi
      · exact hi
  unfold pm_st1 pm_get
  rw [List.getElem?_set_self hl]
theorem gs_other (hj : j ≠ i) (hc : pm_get L j = some w) (hw : w.category = 1) : pm_get (pm_st1 L i v) j = some w := by
  have key : (pm_cut L i)[j]? = L[j]? := by
    unfold pm_cut
    split
    · rfl
    · rename_i i'
      split
      · rename_i h2
        by_cases e : i' = j
        · subst e
          unfold pm_cat2 at h2
          rw [hc] at h2
          have h3 := eq_of_beq h2
          omega
        · rw [List.getElem?_set_ne e]
      · rfl
  unfold pm_get at hc ⊢
  unfold pm_st1
  rw [List.getElem?_set_ne (Ne.symm hj), key]
  exact hc
theorem gs2_len {L : pm_L} {i : Nat} {v : Value} : (pm_st2 L i v).length = L.length := by
  have h := gs_len (L := L) (i := i) (v := v)
  unfold pm_st1 at h
  unfold pm_st2
  rw [List.length_set]
  exact h
theorem gs2_other (hj : j ≠ i) (hj2 : j ≠ i + 1) (hc : pm_get L j = some w) (hw : w.category = 1) : pm_get (pm_st2 L i v) j = some w := by
  have h1 := gs_other (v := v) hj hc hw
  unfold pm_get pm_st1 at h1
  unfold pm_get pm_st2
  rw [List.getElem?_set_ne (Ne.symm hj2)]
  exact h1
theorem lc_L.st1 {k : Nat} (hL : lc_L bS i L) (hk : 5 ≤ k) : lc_L bS i (pm_st1 L k v) := by
  obtain ⟨l0, l1, l2, l3, l4, l5⟩ := hL
  exact ⟨gs_other (by omega) l0 rfl, gs_other (by omega) l1 rfl, gs_other (by omega) l2 rfl, gs_other (by omega) l3 rfl, gs_other (by omega) l4 rfl, gs_len.trans l5⟩
theorem lc_L.st2 {k : Nat} (hL : lc_L bS i L) (hk : 5 ≤ k) : lc_L bS i (pm_st2 L k v) := by
  obtain ⟨l0, l1, l2, l3, l4, l5⟩ := hL
  exact ⟨gs2_other (by omega) (by omega) l0 rfl, gs2_other (by omega) (by omega) l1 rfl, gs2_other (by omega) (by omega) l2 rfl, gs2_other (by omega) (by omega) l3 rfl, gs2_other (by omega) (by omega) l4 rfl, gs2_len.trans l5⟩
theorem lc_i (H : lc_Cl sz sl bS Ln xs P) {ins : Instr} {len pc' : Nat} {L' : pm_L} {S' : List Value} {h' : pm_H} (hi : pm_ins PT 1000 pc = some (ins, len)) (hl : pm_lenOk ins len = true) (hc : pm_callee PT 1000 ins = none) (hs : pm_simple PT 2048 84000 1000 ins pc L S h sz sl = some (pc', L', S', h', sz, sl)) (kk : P (pc', L', S', h', sz, sl)) : P (pc, L, S, h, sz, sl) := H.1 _ _ _ _ _ _ _ _ ((ls_of hi hl hc).trans hs) kk
theorem lc_icmp (H : lc_Cl sz sl bS Ln xs P) {cc : Jvm.ClassFile.Cond} {off : Int} {t : Nat} {x y : Int32} (hi : pm_ins PT 1000 pc = some (.if_icmp cc off, 3)) (ht : pm_tgt pc off = some t) (k1 : pm_cmp cc x y = true → P (t, L, S, h, sz, sl)) (k2 : pm_cmp cc x y = false → P (pc + 3, L, S, h, sz, sl)) : P (pc, L, .int y :: .int x :: S, h, sz, sl) := by
  cases hc : pm_cmp cc x y with
  | true =>
    refine H.1 _ _ _ _ _ _ _ _ ((ls_of hi rfl rfl).trans ?_) (k1 hc)
    show pm_br (pm_cmp cc x y) pc off L S h sz sl = _
    unfold pm_br
    rw [ht, hc]
  | false =>
    refine H.1 _ _ _ _ _ _ _ _ ((ls_of hi rfl rfl).trans ?_) (k2 hc)
    show pm_br (pm_cmp cc x y) pc off L S h sz sl = _
    unfold pm_br
    rw [ht, hc]
/-- the head: i <= script.length - 5 -/
theorem lc_head (H : lc_Cl sz sl bS Ln xs P) (hL : lc_L bS i L) (hi : i < 2 ^ 30) (hLn : Ln < 2 ^ 30) (k1 : i + 5 ≤ Ln → P (32, L, [], h, sz, sl)) (k2 : Ln < i + 5 → P (1449, L, [], h, sz, sl)) : P (23, L, [], h, sz, sl) := by
  obtain ⟨l0, l1, l2, l3, l4, l5⟩ := hL
  refine lc_ild H rfl l4 ?_
  refine lc_ald H (a := 0) rfl l0 rfl ?_
  refine H.2.2.2 _ _ _ _ rfl ?_
  refine lc_i H rfl rfl rfl rfl ?_
  refine lc_i H rfl rfl rfl rfl ?_
  refine lc_icmp H (cc := .gt) (x := nI i) (y := nI Ln - Int32.ofInt 5) (t := 1449) rfl rfl (fun q => ?_) (fun q => ?_)
  · have q1 : nI Ln - Int32.ofInt 5 < nI i := of_decide_eq_true q
    rw [Int32.lt_iff_toInt_lt, Int32.toInt_sub, nI_toInt (by omega), nI_toInt (by omega), show (Int32.ofInt 5).toInt = 5 by decide, ab_bm (by unfold ai_lo; omega) (by unfold ai_hi; omega)] at q1
    exact k2 (by omega)
  · have q1 : ¬ nI Ln - Int32.ofInt 5 < nI i := of_decide_eq_false q
    rw [Int32.lt_iff_toInt_lt, Int32.toInt_sub, nI_toInt (by omega), nI_toInt (by omega), show (Int32.ofInt 5).toInt = 5 by decide, ab_bm (by unfold ai_lo; omega) (by unfold ai_hi; omega)] at q1
    exact k1 (by omega)
def lc_T : List Nat := [224, 249, 274, 287, 300, 313, 353, 405, 445, 494, 555, 592, 617, 666, 703, 716, 729, 766, 791, 828, 865, 890, 903, 940, 1001, 1050, 1075, 1112, 1137, 1150, 1163, 1176, 1189, 1226, 1239, 1252, 1265, 1278, 1303, 1340, 1365, 1390, 1415]
def lc_Tb : Bool := match pm_ins PT 1000 39 with
  | some (.tableswitch d lo hi offs, _) => (decide (lo = 0) && (decide (hi = 42) && decide (pm_tgt 39 d = some 1443))) && (List.range 43).all (fun o => match offs[o]?, lc_T[o]? with
    | some off, some t => decide (pm_tgt 39 off = some t)
    | _, _ => false)
  | _ => false
theorem lc_Tok : lc_Tb = true := by decide +kernel
theorem lc_switch (H : lc_Cl sz sl bS Ln xs P) {o t : Nat} (ho : o < 43) (ht : lc_T[o]? = some t) (kk : P (t, L, S, h, sz, sl)) : P (39, L, .int (nI o) :: S, h, sz, sl) := by
  have hb := lc_Tok
  unfold lc_Tb at hb
  split at hb
  · rename_i d lo hi offs len e
    simp only [Bool.and_eq_true] at hb
    obtain ⟨⟨b1, b2, b3⟩, b4⟩ := hb
    have e1 : lo = 0 := of_decide_eq_true b1
    have e2 : hi = 42 := of_decide_eq_true b2
    subst e1 e2
    have b5 := List.all_eq_true.mp b4 o (List.mem_range.mpr ho)
    rw [ht] at b5
    refine H.1 _ _ _ _ _ _ _ _ ((ls_of e rfl rfl).trans ?_) kk
    unfold pm_simple
    dsimp only
    rw [nI_toInt (by omega), if_neg (by omega), show ((o : Int) - 0).toNat = o by omega]
    split at b5
    · rename_i off t' e3 e4
      cases e4
      have e5 : pm_tgt 39 off = some t := of_decide_eq_true b5
      rw [e3]
      dsimp only
      unfold pm_jp
      rw [e5]
    · cases b5
  · cases hb
theorem lc_default (H : lc_Cl sz sl bS Ln xs P) {o : Nat} (ho : 43 ≤ o) (ho2 : o < 2 ^ 31) (kk : P (1443, L, S, h, sz, sl)) : P (39, L, .int (nI o) :: S, h, sz, sl) := by
  have hb := lc_Tok
  unfold lc_Tb at hb
  split at hb
  · rename_i d lo hi offs len e
    simp only [Bool.and_eq_true] at hb
    obtain ⟨⟨b1, b2, b3⟩, b4⟩ := hb
    have e1 : lo = 0 := of_decide_eq_true b1
    have e2 : hi = 42 := of_decide_eq_true b2
    have e5 : pm_tgt 39 d = some 1443 := of_decide_eq_true b3
    subst e1 e2
    refine H.1 _ _ _ _ _ _ _ _ ((ls_of e rfl rfl).trans ?_) kk
    unfold pm_simple
    dsimp only
    rw [nI_toInt ho2, if_pos (by omega)]
    unfold pm_jp
    rw [e5]
  · cases hb
theorem lc_and (x : Int32) : ∃ o : Nat, o < 64 ∧ x &&& (Int8.ofInt 63).toInt32 = nI o := by
  have h1 := ag_and_ok (0, ai_lo, ai_hi) (0, 63, 63) (0, 0, 63) x ((Int8.ofInt 63).toInt32) (by decide) (ai_rng x).1 (ai_rng x).2 (by decide) (by decide)
  obtain ⟨y, e, y1, y2⟩ := av_int (a := (0, 0, 63)) rfl h1
  cases e
  dsimp only at y1 y2
  obtain ⟨j, hj, e1, e2⟩ := ab_nn y1 (Int.le_refl 0)
  refine ⟨j, ?_, e1⟩
  omega
/-- from the head into the switch -/
theorem lc_enter (H : lc_Cl sz sl bS Ln xs P) (hL : lc_L bS i L) (hi : i + 5 ≤ Ln) (kk : ∀ o : Nat, o < 64 → P (39, L, [.int (nI o)], h, sz, sl)) : P (32, L, [], h, sz, sl) := by
  obtain ⟨l0, l1, l2, l3, l4, l5⟩ := hL
  refine lc_ald H (a := 0) rfl l0 rfl ?_
  refine lc_ild H rfl l4 ?_
  refine H.2.2.1 _ _ _ _ _ (by omega) rfl ?_
  refine lc_i H rfl rfl rfl rfl ?_
  obtain ⟨o, ho, e⟩ := lc_and (xs i)
  refine lc_i H (L' := L) (S' := [.int (xs i &&& (Int8.ofInt 63).toInt32)]) (h' := h) (pc' := 39) rfl rfl rfl rfl ?_
  rw [e]
  exact kk o ho
/-- the tail: i += 5, and to the head -/
theorem lc_tail (H : lc_Cl sz sl bS Ln xs P) (hL : lc_L bS i L) (kk : ∀ L', lc_L bS (i + 5) L' → P (23, L', [], h, sz, sl)) : P (1443, L, [], h, sz, sl) := by
  have hL0 := hL
  obtain ⟨l0, l1, l2, l3, l4, l5⟩ := hL
  have e : nI i + Int32.ofInt 5 = nI (i + 5) := by rw [← nI_add]; rfl
  refine H.1 _ _ _ _ 1446 (pm_st1 L 4 (.int (nI i + Int32.ofInt 5))) [] h ((ls_of (ins := .iinc 4 5) (len := 3) rfl rfl rfl).trans ?_) ?_
  · unfold pm_simple
    dsimp only
    rw [l4]
    dsimp only
    rw [if_pos (show 4 < pm_max PT 1000 from Nat.le_of_ble_eq_true rfl)]
  refine lc_i H rfl rfl rfl rfl ?_
  rw [e]
  exact kk _ ⟨gs_other (by omega) l0 rfl, gs_other (by omega) l1 rfl, gs_other (by omega) l2 rfl, gs_other (by omega) l3 rfl, gs_same (by omega), gs_len.trans l5⟩
/-- what follows a wrapper: the reference answers, and both are put away -/
def lc_aft (q n km : Nat) (lng : Bool) (pe : Nat) : Bool := (match pm_ins PT 1000 q with
  | some (.istore 5, 2) => true
  | _ => false) && (lc_al (q + 2) 2 && (lc_args (q + 3) n 1 && (lc_iv (q + 3 + 6 * n) km n 11 && ((match pm_ins PT 1000 (q + 6 + 6 * n) with
  | some (.istore 6, 2) => !lng
  | some (.lstore 6, 2) => lng
  | _ => false) && lc_go (q + 8 + 6 * n) pe))))
theorem lc_aft_ok (H : lc_Cl sz sl bS Ln xs P) {q n km pe : Nat} {lng : Bool} {v : Int32} (hc : lc_aft q n km lng pe = true) (hL : lc_L bS i L) (hb : i + 1 + n ≤ Ln) (hz : 162 < sz) {f2 : List Value} (o2 : h 162 = .inr (11, f2))
    (hm : pm_WP PT 2047 (84000 - (19 + pm_max PT km)) km (0, pm_l0 (.ref 162 :: (lc_vals xs i n 1).map Value.int) (pm_max PT km), [], h, sz, sl) (fun x => (cond lng (∃ v, x.1 = some (.long v)) (∃ v, x.1 = some (.int v))) ∧ x.2.2 = (sz, sl) ∧ ∀ L' : pm_L, lc_L bS i L' → P (pe, L', [], x.2))) : P (q, L, [.int v], h, sz, sl) := by
  unfold lc_aft at hc
  simp only [Bool.and_eq_true] at hc
  obtain ⟨c1, c2, c3, c4, c5, c6⟩ := hc
  have hlen := hL.2.2.2.2.2
  split at c1
  · rename_i e1
    have hmx : pm_max PT 1000 = 8 := rfl
    refine H.1 _ _ _ _ (q + 2) (pm_st1 L 5 (.int v)) [] h ((ls_of e1 rfl rfl).trans ?_) ?_
    · show pm_so 0 2 (pm_max PT 1000) q 5 L [.int v] h sz sl = _
      unfold pm_so
      dsimp only
      rw [hmx, if_pos ⟨rfl, by omega⟩]
    have hL1 : lc_L bS i (pm_st1 L 5 (.int v)) := hL.st1 (by omega)
    revert hL1
    generalize pm_st1 L 5 (Value.int v) = L1
    intro hL1
    have hlen1 := hL1.2.2.2.2.2
    obtain ⟨l0, l1, l2, l3, l4, l5⟩ := id hL1
    refine lc_al_ok H c2 l2 rfl ?_
    rw [show q + 2 + 1 = q + 3 by omega]
    refine lc_args_ok H l0 l4 n 1 _ _ c3 hb ?_
    refine lc_iv_ok H c4 o2 hz (lc_vals_len xs i n 1) (by decide) (wp_mono hm ?_)
    rintro ⟨rv, h1, sz1, sl1⟩ ⟨hv, q1, q2⟩
    dsimp only at hv q1 q2
    cases q1
    refine ⟨rfl, ?_⟩
    rw [show q + 3 + 6 * n + 3 = q + 6 + 6 * n by omega]
    split at c5
    · rename_i e5
      cases lng with
      | true => cases c5
      | false =>
        obtain ⟨w, hv⟩ := hv
        subst hv
        refine H.1 _ _ _ _ (q + 6 + 6 * n + 2) (pm_st1 L1 6 (.int w)) [] h1 ((ls_of e5 rfl rfl).trans ?_) ?_
        · show pm_so 0 2 (pm_max PT 1000) (q + 6 + 6 * n) 6 L1 [.int w] h1 sz sl = _
          unfold pm_so
          dsimp only
          rw [hmx, if_pos ⟨rfl, by omega⟩]
        rw [show q + 6 + 6 * n + 2 = q + 8 + 6 * n by omega]
        exact lc_go_ok H c6 (q2 _ (hL1.st1 (by omega)))
    · rename_i e5
      cases lng with
      | false => cases c5
      | true =>
        obtain ⟨w, hv⟩ := hv
        subst hv
        refine H.1 _ _ _ _ (q + 6 + 6 * n + 2) (pm_st2 L1 6 (.long w)) [] h1 ((ls_of e5 rfl rfl).trans ?_) ?_
        · show pm_sL 2 (pm_max PT 1000) (q + 6 + 6 * n) 6 L1 [.long w] h1 sz sl = _
          unfold pm_sL
          dsimp only
          rw [hmx, if_pos (by omega)]
        rw [show q + 6 + 6 * n + 2 = q + 8 + 6 * n by omega]
        exact lc_go_ok H c6 (q2 _ (hL1.st2 (by omega)))
    · cases c5
  · cases c1
end LLP
end MG90wrapcallx4
section MG90wrapcallx5
/-! one turn of the law: two calls keep what must be kept -/
section RND
variable {P : pm_St → Prop} {sl bS Ln i pc : Nat} {xs : Nat → Int32} {L : pm_L} {h : pm_H}
theorem rxQ_hi {h h' : pm_H} (q : ∀ i, 162 ≤ i → i ≠ 197 → h' i = h i) (p : rxQ h) : rxQ h' := by
  have m : ∀ g v, mF h g v → mF h' g v := fun g v ⟨fs, e, e1⟩ => ⟨fs, by rw [q 162 (by decide) (by decide)]; exact e, e1⟩
  obtain ⟨⟨n, dn, f, a1, a2, a3⟩, ⟨c, g, b1, b2, b3⟩, ⟨f1, r1, r2⟩, f2, r3, r4⟩ := p
  exact ⟨⟨n, dn, f, m _ _ a1, (q 174 (by decide) (by decide)).trans a2, a3⟩, ⟨c, g, m _ _ b1, m _ _ b2, b3⟩, ⟨f1, (q 178 (by decide) (by decide)).trans r1, r2⟩, f2, (q 196 (by decide) (by decide)).trans r3, r4⟩
theorem twX_inv {h h1 : pm_H} (hI : mInv h) (q : twX h h1) : mInv h1 := ⟨q.2, rxQ_hi (fun i _ z => q.1 i z) hI.2⟩
theorem cx_inv {h h1 : pm_H} (hI : mInv h) (q : fm cxF h h1) (hh : ah_ok bB 198 [] h1) : mInv h1 := ⟨hh, rxQ_hi (fun i hi _ => q.1 i (Nat.ble_eq_true_of_le hi)) hI.2⟩
theorem ty_0 (hh : ah_ok bB 198 [] h) : ∃ fs, h 0 = .inr (10, fs) := by
  have h0 : ac_ok (h 0) (bB 0) := hh 0 (by decide)
  have hb : ∃ as, bB 0 = .inr (10, as) := ⟨_, rfl⟩
  obtain ⟨as, hb⟩ := hb
  rw [hb] at h0
  cases e : h 0 with
  | inr q => obtain ⟨ci, fs⟩ := q; rw [e] at h0; obtain ⟨⟨rfl, -⟩, -⟩ := h0; exact ⟨fs, rfl⟩
  | inl q =>
    rw [e] at h0
    obtain ⟨kd, m, f | f | f | f | f⟩ := q
    · exact absurd h0.1 (by omega)
    · exact h0.elim
    · exact h0.elim
    · exact h0.elim
    · exact h0.elim
theorem ty_162 (hh : ah_ok bB 198 [] h) : ∃ fs, h 162 = .inr (11, fs) := by
  obtain ⟨v, ⟨fs, e, -⟩, -⟩ := ty_fld hh (g := 0) rfl
  exact ⟨fs, e⟩
theorem as_top : ∀ vs : List Int32, as_ok (vs.map Value.int) (List.replicate vs.length ai_top)
  | [] => trivial
  | v :: vs => ⟨ai_top_ok v, as_top vs⟩
def cx_int (c : con) (n : Nat) : Bool := decide (c.2.1 = (2, 0, 1) :: List.replicate n ai_top) && (decide (c.2.2.1 = []) && (c.2.2.2.1.all (fun a => match a with
  | some b => Nat.beq b.1 0
  | none => false) && (decide (c.2.2.2.2.1 = []) && (Nat.ble c.2.2.2.2.2.1 2047 && (Nat.ble c.2.2.2.2.2.2.1 60000 && (!c.2.2.2.2.2.2.2 && Nat.ble (pm_max PT c.1) 1000))))))
end RND
end MG90wrapcallx5
section MG90wrapcallx6
/-! a field known more closely than by its type -/
section OVR
variable {h : pm_H}
/-- a field known more closely -/
theorem ovf_in {a ci f : Nat} {as : List av} {fs : List Value} {v : Value} {x : av} (hh : ah_ok bB 198 [] h) (ha : a < 198) (hb : bB a = .inr (ci, as)) (he : h a = .inr (ci, fs)) (hv : fs[f]? = some v) (hx : av_ok v x) : ah_ok bB 198 [(a, .inr (ci, as.set f x))] h := by
  intro i hi
  by_cases z : i = a
  · subst z
    have e0 : ah_get bB [(i, .inr (ci, as.set f x))] i = .inr (ci, as.set f x) := by
      unfold ah_get pm_fd
      rw [Nat.beq_refl]
      rfl
    have h0 := hh i hi
    rw [show ah_get bB [] i = bB i from rfl, hb, he] at h0
    rw [e0, he]
    obtain ⟨h1, h2, h3⟩ := h0
    refine ⟨h1, by rw [List.length_set]; exact h2, fun j w y hw hy => ?_⟩
    by_cases zj : f = j
    · subst zj
      rw [hv] at hw
      cases hw
      have hl : f < as.length := by rw [← h2]; exact (List.getElem?_eq_some_iff.mp hv).1
      rw [List.getElem?_set_self hl] at hy
      cases hy
      exact hx
    · rw [List.getElem?_set_ne zj] at hy
      exact h3 j w y hw hy
  · have e0 : ah_get bB [(a, .inr (ci, as.set f x))] i = bB i := by
      unfold ah_get pm_fd
      rw [nb_ne (fun e => z e.symm)]
      rfl
    rw [e0]
    exact hh i hi
theorem ovf_out {a ci f : Nat} {as : List av} {x y : av} (hh : ah_ok bB 198 [(a, .inr (ci, as.set f x))] h) (ha : a < 198) (hlt : ci < 1000) (hb : bB a = .inr (ci, as)) (hy : as[f]? = some y) (hle : av_le x y = true) : ah_ok bB 198 [] h ∧ ∃ fs v, h a = .inr (ci, fs) ∧ fs[f]? = some v ∧ av_ok v x := by
  have hl : f < as.length := (List.getElem?_eq_some_iff.mp hy).1
  have e0 : ah_get bB [(a, .inr (ci, as.set f x))] a = .inr (ci, as.set f x) := by
    unfold ah_get pm_fd
    rw [Nat.beq_refl]
    rfl
  have h0 := hh a ha
  rw [e0] at h0
  obtain ⟨fs, ef, hlen, hg⟩ := aE_obj h0 hlt
  rw [List.length_set] at hlen
  have hlf : f < fs.length := by omega
  have ev : fs[f]? = some fs[f] := List.getElem?_eq_getElem hlf
  have hv := hg f _ x ev (List.getElem?_set_self hl)
  refine ⟨fun i hi => ?_, fs, fs[f], ef, ev, hv⟩
  by_cases z : i = a
  · subst z
    rw [show ah_get bB [] i = bB i from rfl, hb, ef]
    refine ⟨⟨rfl, hlt⟩, hlen, fun j w u hw hu => ?_⟩
    by_cases zj : f = j
    · subst zj
      rw [hy] at hu
      cases hu
      rw [ev] at hw
      cases hw
      exact av_le_ok hle hv
    · exact hg j w u hw (by rw [List.getElem?_set_ne zj]; exact hu)
  · have h1 := hh i hi
    have e1 : ah_get bB [(a, .inr (ci, as.set f x))] i = bB i := by
      unfold ah_get pm_fd
      rw [nb_ne (fun e => z e.symm)]
      rfl
    rw [e1] at h1
    exact h1
def asM : List av := match bB 162 with
  | .inr (_, as) => as
  | _ => []
theorem asM_eq : bB 162 = .inr (11, asM) := rfl
def ho_J (_ : Nat) (_ _ : ast) : Bool := false
def ho_jo (_ : Nat) (_ _ : ar) : Bool := false
def ho_P (_ _ : Nat) : List sp := []
theorem nIof {x : Int32} {c : Nat} (hc : c ≤ 80) (h1 : (c : Int) ≤ x.toInt) (h2 : x.toInt ≤ (c : Int)) : x = nI c := Int32.toInt_inj.1 (by rw [nI_toInt (by omega)]; omega)
end OVR
end MG90wrapcallx6
end MH84vxx3
section MH84vxx4
/-! THE TEXT is empty behind courts, gifts, rule, year, law of the reference -/
section ZTX
variable {n fr lo sl k pc j f t : Nat} {h : pm_H} {L : pm_L} {r : List Value} {R : pm_Rs}
/-- the fields of which the relation speaks: Text.length, taped -/
def sP (ci f : Nat) : Bool := (Nat.beq ci 8 && Nat.beq f 1) || ((Nat.beq ci 11 && Nat.beq f 15) || (Nat.beq ci 10 && Nat.beq f 0))
def sX : List Nat := [0, 6, 15, 22, 45, 52, 57, 72, 78, 79, 82, 85, 86, 87, 88, 89, 90, 91, 92, 93, 100, 122, 128, 161, 178, 179, 180, 188, 192, 196, 198, 228, 258]
def sfK : Nat → Bool := sf_X sX
theorem sfK_all : ((List.range 271).filter (fun k => !(sX.any (fun x => Nat.beq x k)))).all (sf_b sP sfK) = true := by decide +kernel
theorem sfK_ok : sf_ok sP sfK := sf_of sf_X_in sfK_all
theorem rn_gfm {v : Value} (hi : pm_ins PT k pc = some (.getfield j, 3)) (hf : pm_fld PT (pm_o PT k) j = some (11, f, t)) (hm : mF h f v) (hh : pm_run PT n fr lo k (pc, L, .ref 162 :: r, h, 198, sl) = some R) : ∃ m, pm_run PT m fr lo k (pc + 3, L, v :: r, h, 198, sl) = some R := by
  obtain ⟨fs, e, e1⟩ := hm
  refine rn_i hi rfl rfl ?_ hh
  show pm_gf PT k j pc L (.ref 162 :: r) h 198 sl = _
  unfold pm_gf pm_obj
  dsimp only
  rw [if_pos (by decide), e]
  dsimp only
  rw [hf]
  dsimp only
  rw [if_pos rfl, e1]
theorem rn_pfm {v w : Value} (hi : pm_ins PT k pc = some (.putfield j, 3)) (hf : pm_fld PT (pm_o PT k) j = some (11, f, t)) (ht : pm_fits (t % 10) v = true) (ht2 : t < 10) (hm : mF h f w) (hh : pm_run PT n fr lo k (pc, L, v :: .ref 162 :: r, h, 198, sl) = some R) : ∃ m, pm_run PT m fr lo k (pc + 3, L, r, mset h f v, 198, sl) = some R := by
  obtain ⟨fs, e, e1⟩ := hm
  rw [mset_of e]
  refine rn_i hi rfl rfl ?_ hh
  show pm_pf PT k j pc L (v :: .ref 162 :: r) h 198 sl = _
  unfold pm_pf pm_obj
  dsimp only
  rw [if_pos (by decide), e]
  dsimp only
  rw [hf]
  dsimp only
  rw [if_pos ⟨rfl, (List.getElem?_eq_some_iff.mp e1).1, ht, Or.inl ht2⟩]
def zT (h : pm_H) : Prop := mF h 15 (.int 0)
theorem z_of {h' : pm_H} (q : fm (sfF sP) h h') (z : zT h) : zT h' := fm_mF q rfl z
theorem zr_180 : sfr_ok sP sfK 180 10 := sfr_of (by decide +kernel)
theorem z_begins {x y : Int32} (h15 : mF h 15 (.int x)) (hh : pm_run PT n fr lo 180 (0, pm_l0 [.ref 162, .int y] 3, [], h, 198, sl) = some R) : zT R.2.1 := by
  obtain ⟨n, hh⟩ := rn_i rfl rfl rfl rfl hh
  obtain ⟨n, hh⟩ := rn_gfm rfl rfl h15 hh
  obtain ⟨n, hh⟩ := rn_i rfl rfl rfl rfl hh
  obtain ⟨n, hh⟩ := rn_i rfl rfl rfl rfl hh
  obtain ⟨n, hh⟩ := rn_i rfl rfl rfl rfl hh
  obtain ⟨n, hh⟩ := rn_pfm (w := .int x) rfl rfl rfl (by decide) h15 hh
  exact z_of (sfr_run sfK_ok zr_180 n fr lo _ R (Nat.le_of_ble_eq_true rfl) hh) (mF_self h15)
theorem zr_188 : sfr_ok sP sfK 188 11 := sfr_of (by decide +kernel)
theorem zr_192 : sfr_ok sP sfK 192 11 := sfr_of (by decide +kernel)
theorem zr_228 : sfr_ok sP sfK 228 11 := sfr_of (by decide +kernel)
theorem zr_196 : sfr_ok sP sfK 196 6 := sfr_of (by decide +kernel)
theorem zr_198 : sfr_ok sP sfK 198 9 := sfr_of (by decide +kernel)
theorem zr_258 : sfr_ok sP sfK 258 9 := sfr_of (by decide +kernel)
theorem z_readsRule {x : Int32} (h15 : mF h 15 (.int x)) (hh : pm_run PT n fr lo 196 (0, pm_l0 [.ref 162] 3, [], h, 198, sl) = some R) : zT R.2.1 := by
  obtain ⟨n, hh⟩ := rn_i rfl rfl rfl rfl hh
  obtain ⟨n, hh⟩ := rn_i rfl rfl rfl rfl hh
  obtain ⟨n, fr', lo', r1, h1, hh⟩ := rn_call (w := 0) (t := 180) rfl rfl hh
  exact z_of (sfr_run sfK_ok zr_196 n fr lo _ R (Nat.le_of_ble_eq_true rfl) hh) (z_begins (y := (Int8.ofInt 40).toInt32) h15 h1)
theorem z_courts {x w : Int32} (h0 : mF h 0 (.int w)) (h15 : mF h 15 (.int x)) (hh : pm_run PT n fr lo 188 (0, pm_l0 [.ref 162] 7, [], h, 198, sl) = some R) : zT R.2.1 := by
  obtain ⟨n, hh⟩ := rn_i rfl rfl rfl rfl hh
  obtain ⟨n, hh⟩ := rn_i rfl rfl rfl rfl hh
  obtain ⟨n, hh⟩ := rn_pfm (w := .int w) rfl rfl rfl (by decide) h0 hh
  obtain ⟨n, hh⟩ := rn_i rfl rfl rfl rfl hh
  obtain ⟨n, hh⟩ := rn_i rfl rfl rfl rfl hh
  obtain ⟨n, fr', lo', r1, h1, hh⟩ := rn_call (w := 0) (t := 180) rfl rfl hh
  exact z_of (sfr_run sfK_ok zr_188 n fr lo _ R (Nat.le_of_ble_eq_true rfl) hh) (z_begins (y := (Int8.ofInt 41).toInt32) (mF_ne (by decide) h15) h1)
theorem z_gifts {x w : Int32} (h0 : mF h 0 (.int w)) (h15 : mF h 15 (.int x)) (hh : pm_run PT n fr lo 192 (0, pm_l0 [.ref 162] 6, [], h, 198, sl) = some R) : zT R.2.1 := by
  obtain ⟨n, hh⟩ := rn_i rfl rfl rfl rfl hh
  obtain ⟨n, hh⟩ := rn_i rfl rfl rfl rfl hh
  obtain ⟨n, hh⟩ := rn_pfm (w := .int w) rfl rfl rfl (by decide) h0 hh
  obtain ⟨n, hh⟩ := rn_i rfl rfl rfl rfl hh
  obtain ⟨n, hh⟩ := rn_i rfl rfl rfl rfl hh
  obtain ⟨n, fr', lo', r1, h1, hh⟩ := rn_call (w := 0) (t := 180) rfl rfl hh
  exact z_of (sfr_run sfK_ok zr_192 n fr lo _ R (Nat.le_of_ble_eq_true rfl) hh) (z_begins (y := (Int8.ofInt 55).toInt32) (mF_ne (by decide) h15) h1)
theorem z_year {x w : Int32} (h0 : mF h 0 (.int w)) (h15 : mF h 15 (.int x)) (hh : pm_run PT n fr lo 228 (0, pm_l0 [.ref 162] 5, [], h, 198, sl) = some R) : zT R.2.1 := by
  obtain ⟨n, hh⟩ := rn_i rfl rfl rfl rfl hh
  obtain ⟨n, hh⟩ := rn_i rfl rfl rfl rfl hh
  obtain ⟨n, hh⟩ := rn_pfm (w := .int w) rfl rfl rfl (by decide) h0 hh
  obtain ⟨n, hh⟩ := rn_i rfl rfl rfl rfl hh
  obtain ⟨n, hh⟩ := rn_i rfl rfl rfl rfl hh
  obtain ⟨n, fr', lo', r1, h1, hh⟩ := rn_call (w := 0) (t := 180) rfl rfl hh
  exact z_of (sfr_run sfK_ok zr_228 n fr lo _ R (Nat.le_of_ble_eq_true rfl) hh) (z_begins (y := (Int8.ofInt 60).toInt32) (mF_ne (by decide) h15) h1)
theorem z_rule {x w : Int32} (h0 : mF h 0 (.int w)) (h15 : mF h 15 (.int x)) (hh : pm_run PT n fr lo 198 (0, pm_l0 [.ref 162] 2, [], h, 198, sl) = some R) : zT R.2.1 := by
  obtain ⟨n, hh⟩ := rn_i rfl rfl rfl rfl hh
  obtain ⟨n, hh⟩ := rn_i rfl rfl rfl rfl hh
  obtain ⟨n, hh⟩ := rn_pfm (w := .int w) rfl rfl rfl (by decide) h0 hh
  obtain ⟨n, hh⟩ := rn_i rfl rfl rfl rfl hh
  obtain ⟨n, fr', lo', r1, h1, hh⟩ := rn_call (w := 0) (t := 196) rfl rfl hh
  exact z_of (sfr_run sfK_ok zr_198 n fr lo _ R (Nat.le_of_ble_eq_true rfl) hh) (z_readsRule (mF_ne (by decide) h15) h1)
theorem z_law {x w : Int32} (h0 : mF h 0 (.int w)) (h15 : mF h 15 (.int x)) (hh : pm_run PT n fr lo 258 (0, pm_l0 [.ref 162] 5, [], h, 198, sl) = some R) : zT R.2.1 := by
  obtain ⟨n, hh⟩ := rn_i rfl rfl rfl rfl hh
  obtain ⟨n, hh⟩ := rn_i rfl rfl rfl rfl hh
  obtain ⟨n, hh⟩ := rn_pfm (w := .int w) rfl rfl rfl (by decide) h0 hh
  obtain ⟨n, hh⟩ := rn_i rfl rfl rfl rfl hh
  obtain ⟨n, fr', lo', r1, h1, hh⟩ := rn_call (w := 0) (t := 196) rfl rfl hh
  exact z_of (sfr_run sfK_ok zr_258 n fr lo _ R (Nat.le_of_ble_eq_true rfl) hh) (z_readsRule (mF_ne (by decide) h15) h1)
end ZTX
end MH84vxx4
section MH84vxx5
section MG95tzx0
/-! THE TEXT is empty behind courts, gifts, rule, year, law of the class -/
section ZCX
variable {n fr lo sl k pc j f t a ci : Nat} {h : pm_H} {L : pm_L} {r fs : List Value} {R : pm_Rs} {Q : pm_Rs → Prop}
def asT : List av := match bB 1 with
  | .inr (_, as) => as
  | _ => []
theorem asT_eq : bB 1 = .inr (8, asT) := rfl
theorem asT_1 : asT[1]? = some (0, 0, 80) := by decide +kernel
def zO : ah := [(1, .inr (8, asT.set 1 (0, 0, 0)))]
theorem gf_eq {v : Value} (hf : pm_fld PT (pm_o PT k) j = some (ci, f, t)) (ha : a < 198) (e : h a = .inr (ci, fs)) (e1 : fs[f]? = some v) : pm_simple PT fr lo k (.getfield j) pc L (.ref a :: r) h 198 sl = some (pc + 3, L, v :: r, h, 198, sl) := by
  show pm_gf PT k j pc L (.ref a :: r) h 198 sl = _
  unfold pm_gf pm_obj
  dsimp only
  rw [if_pos ha, e]
  dsimp only
  rw [hf]
  dsimp only
  rw [if_pos rfl, e1]
theorem pf_eq {v w : Value} (hf : pm_fld PT (pm_o PT k) j = some (ci, f, t)) (ht : pm_fits (t % 10) v = true) (ht2 : t < 10) (ha : a < 198) (e : h a = .inr (ci, fs)) (e1 : fs[f]? = some w) : pm_simple PT fr lo k (.putfield j) pc L (v :: .ref a :: r) h 198 sl = some (pc + 3, L, r, va_up h a (.inr (ci, fs.set f v)), 198, sl) := by
  show pm_pf PT k j pc L (v :: .ref a :: r) h 198 sl = _
  unfold pm_pf pm_obj
  dsimp only
  rw [if_pos ha, e]
  dsimp only
  rw [hf]
  dsimp only
  rw [if_pos ⟨rfl, (List.getElem?_eq_some_iff.mp e1).1, ht, Or.inl ht2⟩]
/-- the class's object has its text; the text's length -/
def x0 (h : pm_H) : Prop := ∃ fs, h 0 = .inr (10, fs) ∧ fs[0]? = some (.ref 1)
def cT (h : pm_H) (v : Value) : Prop := ∃ gs, h 1 = .inr (8, gs) ∧ gs[1]? = some v
theorem cT_fm {h' : pm_H} {v : Value} (q : fm (sfF sP) h h') (z : cT h v) : cT h' v := by
  obtain ⟨gs, e1, e2⟩ := z
  obtain ⟨gs', a1, -, a2⟩ := q.2 1 8 gs e1
  exact ⟨gs', a1, (a2 1 rfl).trans e2⟩
theorem x0_fm {h' : pm_H} (q : fm (sfF sP) h h') (z : x0 h) : x0 h' := by
  obtain ⟨gs, e1, e2⟩ := z
  obtain ⟨gs', a1, -, a2⟩ := q.2 0 10 gs e1
  exact ⟨gs', a1, (a2 0 rfl).trans e2⟩
theorem cT_up {v w : Value} (z : cT h w) : ∃ gs, h 1 = .inr (8, gs) ∧ gs[1]? = some w ∧ cT (va_up h 1 (.inr (8, gs.set 1 v))) v := by
  obtain ⟨gs, e1, e2⟩ := z
  refine ⟨gs, e1, e2, gs.set 1 v, by simp [va_up], ?_⟩
  rw [List.getElem?_set_self (List.getElem?_eq_some_iff.mp e2).1]
theorem zr_88 : sfr_ok sP sfK 88 13 := sfr_of (by decide +kernel)
theorem zr_89 : sfr_ok sP sfK 89 13 := sfr_of (by decide +kernel)
theorem zr_90 : sfr_ok sP sfK 90 16 := sfr_of (by decide +kernel)
theorem zr_122 : sfr_ok sP sfK 122 16 := sfr_of (by decide +kernel)
theorem zx_courts {w : Value} (h0 : x0 h) (h1 : cT h w) (hh : pm_run PT n fr lo 88 (0, pm_l0 [.ref 0] 3, [], h, 198, sl) = some R) : cT R.2.1 (.int 0) := by
  obtain ⟨n, hh⟩ := rn_i rfl rfl rfl rfl hh
  obtain ⟨n, fr', lo', r1, hr1, hh⟩ := rn_call (w := 0) (t := 129) rfl rfl hh
  have q := sf_run sfK_ok _ _ _ 129 _ r1 rfl hr1
  obtain ⟨v, ev⟩ := pm_run_ty _ _ _ _ _ _ (Or.inl rfl) hr1
  obtain ⟨rv, hp, sz1, sl1⟩ := r1
  dsimp only at ev q hh
  subst ev
  have hsz := sz_run sfK_ok _ _ _ _ _ _ rfl hr1
  dsimp only at hsz
  cases hsz
  obtain ⟨fs, e0, e0'⟩ := x0_fm q h0
  obtain ⟨gs, g1, g2, g3⟩ := cT_up (v := .int (Int32.ofInt 0)) (cT_fm q h1)
  obtain ⟨n, hh⟩ := rn_i rfl rfl rfl rfl hh
  obtain ⟨n, hh⟩ := rn_i rfl rfl rfl rfl hh
  obtain ⟨n, hh⟩ := rn_i rfl rfl rfl (gf_eq (f := 0) rfl (by decide) e0 e0') hh
  obtain ⟨n, hh⟩ := rn_i rfl rfl rfl rfl hh
  obtain ⟨n, hh⟩ := rn_i rfl rfl rfl (pf_eq (f := 1) rfl rfl (by decide) (by decide) g1 g2) hh
  exact cT_fm (sfr_run sfK_ok zr_88 n fr lo _ R (Nat.le_of_ble_eq_true rfl) hh) g3
theorem zx_gifts {w : Value} (h0 : x0 h) (h1 : cT h w) (hh : pm_run PT n fr lo 89 (0, pm_l0 [.ref 0] 2, [], h, 198, sl) = some R) : cT R.2.1 (.int 0) := by
  obtain ⟨n, hh⟩ := rn_i rfl rfl rfl rfl hh
  obtain ⟨n, fr', lo', r1, hr1, hh⟩ := rn_call (w := 0) (t := 130) rfl rfl hh
  have q := sf_run sfK_ok _ _ _ 130 _ r1 rfl hr1
  obtain ⟨v, ev⟩ := pm_run_ty _ _ _ _ _ _ (Or.inl rfl) hr1
  obtain ⟨rv, hp, sz1, sl1⟩ := r1
  dsimp only at ev q hh
  subst ev
  have hsz := sz_run sfK_ok _ _ _ _ _ _ rfl hr1
  dsimp only at hsz
  cases hsz
  obtain ⟨fs, e0, e0'⟩ := x0_fm q h0
  obtain ⟨gs, g1, g2, g3⟩ := cT_up (v := .int (Int32.ofInt 0)) (cT_fm q h1)
  obtain ⟨n, hh⟩ := rn_i rfl rfl rfl rfl hh
  obtain ⟨n, hh⟩ := rn_i rfl rfl rfl rfl hh
  obtain ⟨n, hh⟩ := rn_i rfl rfl rfl (gf_eq (f := 0) rfl (by decide) e0 e0') hh
  obtain ⟨n, hh⟩ := rn_i rfl rfl rfl rfl hh
  obtain ⟨n, hh⟩ := rn_i rfl rfl rfl (pf_eq (f := 1) rfl rfl (by decide) (by decide) g1 g2) hh
  exact cT_fm (sfr_run sfK_ok zr_89 n fr lo _ R (Nat.le_of_ble_eq_true rfl) hh) g3
theorem zx_rule {w : Value} (h0 : x0 h) {q : Value} (h9 : ∃ fs, h 0 = .inr (10, fs) ∧ fs[9]? = some q) (h1 : cT h w) (hh : pm_run PT n fr lo 90 (0, pm_l0 [.ref 0] 3, [], h, 198, sl) = some R) : cT R.2.1 (.int 0) := by
  obtain ⟨n, hh⟩ := rn_i rfl rfl rfl rfl hh
  obtain ⟨fs9, e9, e9'⟩ := h9
  obtain ⟨n, hh⟩ := rn_i rfl rfl rfl (gf_eq (f := 9) rfl (by decide) e9 e9') hh
  obtain ⟨n, fr', lo', r1, hr1, hh⟩ := rn_call (w := 0) (t := 58) rfl rfl hh
  have q := sf_run sfK_ok _ _ _ 58 _ r1 rfl hr1
  obtain ⟨v, ev⟩ := pm_run_ty _ _ _ _ _ _ (Or.inl rfl) hr1
  obtain ⟨rv, hp, sz1, sl1⟩ := r1
  dsimp only at ev q hh
  subst ev
  have hsz := sz_run sfK_ok _ _ _ _ _ _ rfl hr1
  dsimp only at hsz
  cases hsz
  obtain ⟨fs, e0, e0'⟩ := x0_fm q h0
  obtain ⟨gs, g1, g2, g3⟩ := cT_up (v := .int (Int32.ofInt 0)) (cT_fm q h1)
  obtain ⟨n, hh⟩ := rn_i rfl rfl rfl rfl hh
  obtain ⟨n, hh⟩ := rn_i rfl rfl rfl rfl hh
  obtain ⟨n, hh⟩ := rn_i rfl rfl rfl (gf_eq (f := 0) rfl (by decide) e0 e0') hh
  obtain ⟨n, hh⟩ := rn_i rfl rfl rfl rfl hh
  obtain ⟨n, hh⟩ := rn_i rfl rfl rfl (pf_eq (f := 1) rfl rfl (by decide) (by decide) g1 g2) hh
  exact cT_fm (sfr_run sfK_ok zr_90 n fr lo _ R (Nat.le_of_ble_eq_true rfl) hh) g3
theorem zx_law {w : Value} (h0 : x0 h) {q : Value} (h9 : ∃ fs, h 0 = .inr (10, fs) ∧ fs[9]? = some q) (h1 : cT h w) (hh : pm_run PT n fr lo 122 (0, pm_l0 [.ref 0] 4, [], h, 198, sl) = some R) : cT R.2.1 (.int 0) := by
  obtain ⟨n, hh⟩ := rn_i rfl rfl rfl rfl hh
  obtain ⟨fs9, e9, e9'⟩ := h9
  obtain ⟨n, hh⟩ := rn_i rfl rfl rfl (gf_eq (f := 9) rfl (by decide) e9 e9') hh
  obtain ⟨n, fr', lo', r1, hr1, hh⟩ := rn_call (w := 0) (t := 58) rfl rfl hh
  have q := sf_run sfK_ok _ _ _ 58 _ r1 rfl hr1
  obtain ⟨v, ev⟩ := pm_run_ty _ _ _ _ _ _ (Or.inl rfl) hr1
  obtain ⟨rv, hp, sz1, sl1⟩ := r1
  dsimp only at ev q hh
  subst ev
  have hsz := sz_run sfK_ok _ _ _ _ _ _ rfl hr1
  dsimp only at hsz
  cases hsz
  obtain ⟨fs, e0, e0'⟩ := x0_fm q h0
  obtain ⟨gs, g1, g2, g3⟩ := cT_up (v := .int (Int32.ofInt 0)) (cT_fm q h1)
  obtain ⟨n, hh⟩ := rn_i rfl rfl rfl rfl hh
  obtain ⟨n, hh⟩ := rn_i rfl rfl rfl rfl hh
  obtain ⟨n, hh⟩ := rn_i rfl rfl rfl (gf_eq (f := 0) rfl (by decide) e0 e0') hh
  obtain ⟨n, hh⟩ := rn_i rfl rfl rfl rfl hh
  obtain ⟨n, hh⟩ := rn_i rfl rfl rfl (pf_eq (f := 1) rfl rfl (by decide) (by decide) g1 g2) hh
  exact cT_fm (sfr_run sfK_ok zr_122 n fr lo _ R (Nat.le_of_ble_eq_true rfl) hh) g3
end ZCX
end MG95tzx0
section MG95tzx1
/-! THE TEXT's length: sign, end, and those that read it -/
section TXR
variable {n fr lo sl k i pc bS Ln : Nat} {h h1 : pm_H} {L : pm_L} {R : pm_Rs} {P : pm_St → Prop} {xs : Nat → Int32} {Q Q' : pm_Rs → Prop} {st : pm_St}
theorem rn_det {r : pm_Rs} (q : pm_WP PT fr lo k st Q) (hh : pm_run PT n fr lo k st = some r) : Q r := by
  obtain ⟨m, r', e, hq⟩ := q
  have a1 := pm_run_le (Nat.le_max_left m n) e
  have a2 := pm_run_le (Nat.le_max_right m n) hh
  rw [a1] at a2
  cases a2
  exact hq
theorem wp_det (q : pm_WP PT fr lo k st Q) (q' : pm_WP PT fr lo k st Q') : pm_WP PT fr lo k st (fun x => Q x ∧ Q' x) := by
  obtain ⟨m, r, e, hq⟩ := q
  exact ⟨m, r, e, hq, rn_det q' e⟩
def zc56 : con := (56, [(2, 3, 1), (1, (-9223372036854775808), 9223372036854775807), (1, (-9223372036854775808), 9223372036854775807)], zO, [none], zO, 10, 800, false)
def zc17 : con := (17, [(2, 25, 1)], zO, [none], zO, 5, 400, false)
theorem zk56 : con_chk (kl bB cxF []) PT bB 198 cxF cxJ cxjo cxP 700 zc56 = true := fq_chk1 (fq_jn_eq _) rfl (by decide +kernel)
theorem zk17 : con_chk (kl bB cxF []) PT bB 198 cxF cxJ cxjo cxP 700 zc17 = true := fq_chk1 (fq_jn_eq _) rfl (by decide +kernel)
theorem zo56 : con_ok PT bB 198 cxF cxQ zc56 := con_chk_ok (fun _ _ h => h) cxpp (kl_ok (fun _ h => by cases h)) nw_class (fun h => by cases h) zk56
theorem zo17 : con_ok PT bB 198 cxF cxQ zc17 := con_chk_ok (fun _ _ h => h) cxpp (kl_ok (fun _ h => by cases h)) nw_class (fun h => by cases h) zk17
def cz_year : con := (100, [(2, 0, 1)], [], [some (0, -2147483648, 2147483647)], zO, 30, 2400, false)
theorem zq_year : con_chkS (kl bB cxF [zc17, zc56, cxt33, cxt35, cxt42, cxt82, cxt97, cxt119, cxt120]) PT bB 198 cxF cxJ cxjo cxP2 [] 3117 cz_year = true := fq_chkS1 (fq_jn_eq _) rfl (by decide +kernel)
theorem zw_year : con_ok PT bB 198 cxF cxQ cz_year := con_chkS_ok (fun _ _ h => h) cxpp (kl_ok (List.forall_mem_cons.mpr ⟨zo17, List.forall_mem_cons.mpr ⟨zo56, List.forall_mem_cons.mpr ⟨cxo33, List.forall_mem_cons.mpr ⟨cxo35, List.forall_mem_cons.mpr ⟨cxo42, List.forall_mem_cons.mpr ⟨cxo82, List.forall_mem_cons.mpr ⟨cxo97, List.forall_mem_cons.mpr ⟨cxo119, List.forall_mem_cons.mpr ⟨cxo120, fun _ h => (by cases h)⟩⟩⟩⟩⟩⟩⟩⟩⟩)) nw_class (fun h => by cases h) zq_year
def hoT (kx : Nat) (bs : List av) (c c' : Nat) (a : Int) : con := (kx, (2, 0, 1) :: bs, [(1, .inr (8, asT.set 1 (0, c, c)))], [some (0, a, a)], [(1, .inr (8, asT.set 1 (0, c', c')))], 20, 1500, false)
def hoM (km : Nat) (bs : List av) (c c' : Nat) (a : Int) : con := (km, (2, 162, 1) :: bs, [(162, .inr (11, asM.set 15 (0, c, c)))], [some (0, a, a)], [(162, .inr (11, asM.set 15 (0, c', c')))], 20, 1500, false)
def ho_chk (kx km : Nat) (bs : List av) (c c' : Nat) (a : Int) : Bool := con_chk (kl bB cxF []) PT bB 198 cxF ho_J ho_jo ho_P 500 (hoT kx bs c c' a) && con_chk (kl bB rxF []) PT bB 198 rxF0 ho_J ho_jo ho_P 500 (hoM km bs c c' a)
theorem asM_15 : asM[15]? = some (0, 0, 80) := by decide +kernel
def si_c (c : Nat) : Nat := cond (Nat.ble c 76) (c + 4) c
def si_a (c : Nat) : Int := cond (Nat.ble c 76) ((c : Int) + 4) (-1)
theorem si_all : (List.range 81).all (fun c => ho_chk 86 178 [(0, -2147483648, 2147483647)] c (si_c c) (si_a c)) = true := by decide +kernel
def REL (h : pm_H) : Prop := ∃ c : Nat, c ≤ 80 ∧ cT h (.int (nI c)) ∧ mF h 15 (.int (nI c))
def LI (h : pm_H) : Prop := mInv h ∧ REL h
theorem REL_fm (q : fm (sfF sP) h h1) (r : REL h) : REL h1 := by
  obtain ⟨c, hc, r1, r2⟩ := r
  exact ⟨c, hc, cT_fm q r1, fm_mF q rfl r2⟩
theorem twX_LI (hI : LI h) (q : twX h h1) : LI h1 := by
  refine ⟨twX_inv hI.1 q, ?_⟩
  obtain ⟨c, hc, ⟨fs, e1, e2⟩, gs, g1, g2⟩ := hI.2
  exact ⟨c, hc, ⟨fs, (q.1 1 (by decide)).trans e1, e2⟩, gs, (q.1 162 (by decide)).trans g1, g2⟩
end TXR
end MG95tzx1
section MG95tzx2
/-! turns that keep both lengths of THE TEXT alike -/
section TXP
variable {P : pm_St → Prop} {sl bS Ln i pc : Nat} {xs : Nat → Int32} {L : pm_L} {h h1 : pm_H}
/-- one turn: two calls, their answers thrown away, the relation kept -/
theorem op_pairR (H : lc_Cl 198 sl bS Ln xs P) {n kx km pe : Nat} (hc : lc_twp pc n kx km pe = true) (hL : lc_L bS i L) (hb : i + 1 + n ≤ Ln) (hI : LI h) {c : con} (hx : con_ok PT bB 198 cxF cxQ c) (ek : c.1 = kx) (ec : cx_int c n = true) {A : Option Value → Prop} (hA : ∀ v, A v → ∃ x : Int32, v = some (.int x)) (hm : ∀ h1, mInv h1 → pm_WP PT 2047 (84000 - (19 + pm_max PT km)) km (0, pm_l0 (.ref 162 :: (lc_vals xs i n 1).map Value.int) (pm_max PT km), [], h1, 198, sl) (mPost A h1 sl)) (sx : sfK kx = true) (sm : sfK km = true) (kk : ∀ h2, LI h2 → P (pe, L, [], h2, 198, sl)) : P (pc, L, [], h, 198, sl) := by
  subst ek
  unfold cx_int at ec
  simp only [Bool.and_eq_true] at ec
  obtain ⟨e1, e2, e3, e4, e5, e6, e7, e8⟩ := ec
  have e1 := of_decide_eq_true e1
  have e2 := of_decide_eq_true e2
  have e4 := of_decide_eq_true e4
  have e5 := Nat.le_of_ble_eq_true e5
  have e6 := Nat.le_of_ble_eq_true e6
  have e8 := Nat.le_of_ble_eq_true e8
  have e7 : c.2.2.2.2.2.2.2 = false := by simpa using e7
  obtain ⟨f1, o1⟩ := ty_0 hI.1.1
  have hlen := lc_vals_len xs i n 1
  refine lc_twp_ok H hc hL hb (by decide) o1 (wp_mono (sf_wp sfK_ok sx (hx (.ref 0 :: (lc_vals xs i n 1).map Value.int) h 2047 (84000 - (19 + pm_max PT c.1)) sl ?_ ?_ trivial e5 (by omega))) ?_)
  · rw [e1]
    refine ⟨⟨rfl, List.mem_singleton_self _⟩, ?_⟩
    have := as_top (lc_vals xs i n 1)
    rw [hlen] at this
    exact this
  · rw [e2]; exact hI.1.1
  · rintro ⟨rv, h1, s1⟩ ⟨⟨⟨a, ha, hv⟩, q1, ⟨q2, -⟩, q3⟩, q4⟩
    rw [e7, e4] at q3
    dsimp only [cond] at hv q1 q2 q3 q4
    cases q1
    have hI1 := cx_inv hI.1 q2 q3
    refine ⟨rfl, ?_, ty_162 hI1.1, wp_mono (sf_wp sfK_ok sm (hm h1 hI1)) ?_⟩
    · have ea := List.all_eq_true.mp e3 a ha
      cases a with
      | none => cases ea
      | some b =>
        cases rv with
        | none => exact hv.elim
        | some v =>
          obtain ⟨x, rfl, -⟩ := av_int (Nat.eq_of_beq_eq_true ea) hv
          exact ⟨x, rfl⟩
    · rintro ⟨rv2, h2, s2⟩ ⟨⟨p1, p2, p3, p4⟩, p5⟩
      dsimp only at p1 p2 p4 p5
      cases p2
      exact ⟨hA _ p1, rfl, kk h2 ⟨p4, REL_fm p5 (REL_fm q4 hI.2)⟩⟩
/-- both calls, from a count on, answer the same and count the same -/
theorem ho_pair {kx km : Nat} {bs : List av} {c c' : Nat} {a : Int} (e : ho_chk kx km bs c c' a = true) (hc : c ≤ 80) (hc' : c' ≤ 80) {As : List Value} (hAs : as_ok As bs) (hI : mInv h) (r1 : cT h (.int (nI c))) (r2 : mF h 15 (.int (nI c))) (lx : 1500 ≤ 84000 - (19 + pm_max PT kx)) (lm : 1500 ≤ 84000 - (19 + pm_max PT km)) :
    pm_WP PT 2047 (84000 - (19 + pm_max PT kx)) kx (0, pm_l0 (.ref 0 :: As) (pm_max PT kx), [], h, 198, sl) (fun q => q.2.2 = (198, sl) ∧ ∃ v : Int32, q.1 = some (.int v) ∧ (∃ f2, q.2.1 162 = .inr (11, f2)) ∧ pm_WP PT 2047 (84000 - (19 + pm_max PT km)) km (0, pm_l0 (.ref 162 :: As) (pm_max PT km), [], q.2) (fun y => y.1 = some (.int v) ∧ y.2.2 = (198, sl) ∧ LI y.2.1)) := by
  unfold ho_chk at e
  rw [Bool.and_eq_true] at e
  have hx : con_ok PT bB 198 cxF cxQ (hoT kx bs c c' a) := con_chk_ok (fun _ _ h => h) cxpp (kl_ok (fun _ h => by cases h)) nw_class (fun h => by cases h) e.1
  have hm : con_ok PT bB 198 rxF rxQ (hoM km bs c c' a) := con_chk_ok rxle rxpp (kl_ok (fun _ h => by cases h)) nw_class (fun h => by cases h) e.2
  have cI : (nI c).toInt = (c : Int) := nI_toInt (by omega)
  obtain ⟨fs, g1, g2⟩ := r1
  refine wp_mono (hx (.ref 0 :: As) h 2047 (84000 - (19 + pm_max PT kx)) sl ⟨⟨rfl, List.mem_singleton_self _⟩, hAs⟩ (ovf_in hI.1 (by decide) asT_eq g1 g2 ⟨rfl, by rw [cI]; exact Int.le_refl _, by rw [cI]; exact Int.le_refl _⟩) trivial (Nat.le_of_ble_eq_true rfl) lx) ?_
  rintro ⟨rv, h1, s1⟩ ⟨⟨b, hb, hv⟩, q1, ⟨q2, -⟩, q3⟩
  cases q1
  cases List.mem_singleton.mp hb
  obtain ⟨t1, fs1, w1, k1, k2, k3⟩ := ovf_out q3 (by decide) (by decide) asT_eq asT_1 (by
    unfold av_le
    rw [Bool.and_eq_true]
    exact ⟨rfl, by show (decide ((0 : Int) ≤ (c' : Int)) && decide ((c' : Int) ≤ 80)) = true; rw [Bool.and_eq_true]; exact ⟨decide_eq_true (by omega), decide_eq_true (by omega)⟩⟩)
  have hI1 := cx_inv hI q2 t1
  obtain ⟨y, rfl, y1, y2⟩ := ao_i hv
  obtain ⟨gs, m1, m2⟩ := r2
  have m1' : h1 162 = .inr (11, gs) := (q2.1 162 rfl).trans m1
  refine ⟨rfl, y, rfl, ⟨gs, m1'⟩, ?_⟩
  refine wp_mono (hm (.ref 162 :: As) h1 2047 (84000 - (19 + pm_max PT km)) sl ⟨⟨rfl, List.mem_singleton_self _⟩, hAs⟩ (ovf_in hI1.1 (by decide) asM_eq m1' m2 ⟨rfl, by rw [cI]; exact Int.le_refl _, by rw [cI]; exact Int.le_refl _⟩) hI1.2 (Nat.le_of_ble_eq_true rfl) lm) ?_
  rintro ⟨rv2, h2, s2⟩ ⟨⟨b2, hb2, hv2⟩, p1, ⟨p2, p4⟩, p3⟩
  cases p1
  cases List.mem_singleton.mp hb2
  obtain ⟨t2, fs2, w2, j1, j2, j3⟩ := ovf_out p3 (by decide) (by decide) asM_eq asM_15 (by
    unfold av_le
    rw [Bool.and_eq_true]
    exact ⟨rfl, by show (decide ((0 : Int) ≤ (c' : Int)) && decide ((c' : Int) ≤ 80)) = true; rw [Bool.and_eq_true]; exact ⟨decide_eq_true (by omega), decide_eq_true (by omega)⟩⟩)
  obtain ⟨z, rfl, z1, z2⟩ := ao_i hv2
  have ez : y = z := Int32.toInt_inj.1 (by omega)
  subst ez
  refine ⟨rfl, rfl, ⟨t2, p4⟩, c', hc', ⟨fs1, (p2.1 1 rfl).trans k1, ?_⟩, fs2, j1, ?_⟩
  · obtain ⟨u, rfl, u1, u2⟩ := av_int rfl k3
    rw [← nIof hc' u1 u2]
    exact k2
  · obtain ⟨u, rfl, u1, u2⟩ := av_int rfl j3
    rw [← nIof hc' u1 u2]
    exact j2
/-- what both calls do -/
def twoWP (sl : Nat) (h : pm_H) (kx km : Nat) (As : List Value) : Prop := pm_WP PT 2047 (84000 - (19 + pm_max PT kx)) kx (0, pm_l0 (.ref 0 :: As) (pm_max PT kx), [], h, 198, sl) (fun q => q.2.2 = (198, sl) ∧ ∃ v : Int32, q.1 = some (.int v) ∧ (∃ f2, q.2.1 162 = .inr (11, f2)) ∧ pm_WP PT 2047 (84000 - (19 + pm_max PT km)) km (0, pm_l0 (.ref 162 :: As) (pm_max PT km), [], q.2) (fun y => y.1 = some (.int v) ∧ y.2.2 = (198, sl) ∧ LI y.2.1))
theorem si_two (hI : LI h) (x : Int32) : twoWP sl h 86 178 [.int x] := by
  obtain ⟨hI0, c, hc, r1, r2⟩ := hI
  have e := List.all_eq_true.mp si_all c (List.mem_range.mpr (by omega))
  refine ho_pair e hc ?_ ⟨ai_top_ok x, trivial⟩ hI0 r1 r2 (Nat.le_of_ble_eq_true rfl) (Nat.le_of_ble_eq_true rfl)
  unfold si_c
  cases ho : Nat.ble c 76 with
  | false => exact hc
  | true =>
    have := Nat.le_of_ble_eq_true ho
    show c + 4 ≤ 80
    omega
/-- such a turn, its answers thrown away -/
theorem two_pop (H : lc_Cl 198 sl bS Ln xs P) {n kx km pe : Nat} (hc : lc_twp pc n kx km pe = true) (hL : lc_L bS i L) (hb : i + 1 + n ≤ Ln) (hI : LI h) (q : twoWP sl h kx km ((lc_vals xs i n 1).map Value.int)) (kk : ∀ h2, LI h2 → P (pe, L, [], h2, 198, sl)) : P (pc, L, [], h, 198, sl) := by
  obtain ⟨f1, o1⟩ := ty_0 hI.1.1
  refine lc_twp_ok H hc hL hb (by decide) o1 (wp_mono q ?_)
  rintro ⟨rv, h1, s1⟩ ⟨q1, v, q2, q3, q4⟩
  cases q1
  refine ⟨rfl, ⟨v, q2⟩, q3, wp_mono q4 ?_⟩
  rintro ⟨rv2, h2, s2⟩ ⟨p1, p2, p3⟩
  cases p2
  exact ⟨⟨v, p1⟩, rfl, kk h2 p3⟩
/-! end, by hand -/
theorem in_bc (x : Int32) {c : Nat} (hc : c ≤ 80) : in_b x.toInt64 0 (nI c).toInt64 = decide (0 ≤ x.toInt ∧ x.toInt ≤ (c : Int)) := by
  unfold in_b
  have n1 : (0 : Int64).toInt = 0 := by decide
  have n2 : (nI c).toInt64.toInt = (c : Int) := by rw [Int32.toInt_toInt64, nI_toInt (by omega)]
  have e1 : decide (x.toInt64 < 0) = decide (x.toInt < 0) := by
    rw [Bool.eq_iff_iff, decide_eq_true_iff, decide_eq_true_iff, Int64.lt_iff_toInt_lt, Int32.toInt_toInt64, n1]
  have e2 : decide ((nI c).toInt64 < x.toInt64) = decide ((c : Int) < x.toInt) := by
    rw [Bool.eq_iff_iff, decide_eq_true_iff, decide_eq_true_iff, Int64.lt_iff_toInt_lt, n2, Int32.toInt_toInt64]
  rw [e1, e2, Bool.eq_iff_iff, Bool.and_eq_true, decide_eq_true_iff, Bool.not_eq_true', Bool.not_eq_true', decide_eq_false_iff_not, decide_eq_false_iff_not]
  omega
/-- the class's end: what it answers, what the length is then -/
theorem en_x {fr lo : Nat} {fs : List Value} {c : Nat} (hc : c ≤ 80) (h0 : x0 h) (r1 : cT h (.int (nI c))) (y : Int32) : pm_WP PT fr lo 87 (0, pm_l0 [.ref 0, .int y] 2, [], h, 198, sl) (fun q => q.1 = some (.int (cond (decide (0 ≤ y.toInt ∧ y.toInt ≤ (c : Int))) 1 0)) ∧ cT q.2.1 (.int (cond (decide (0 ≤ y.toInt ∧ y.toInt ≤ (c : Int))) y (nI c)))) := by
  have cI : (nI c).toInt = (c : Int) := nI_toInt (by omega)
  have z0 : (0 : Int32).toInt = 0 := by decide
  obtain ⟨f0, e0, e0'⟩ := h0
  obtain ⟨gs, g1, g2, g3⟩ := cT_up (v := .int y) r1
  refine wp_i rfl rfl rfl rfl ?_
  refine wp_if (c := .lt) (off := 14) (t := 15) rfl rfl (fun q => ?_) (fun q => ?_)
  · have q := of_decide_eq_true q
    rw [Int32.lt_iff_toInt_lt, z0] at q
    rw [decide_eq_false (by omega)]
    refine wp_i rfl rfl rfl rfl ?_
    exact wp_zret rfl rfl (Or.inl rfl) ⟨rfl, gs, g1, g2⟩
  · have q := of_decide_eq_false q
    rw [Int32.lt_iff_toInt_lt, z0] at q
    refine wp_i rfl rfl rfl rfl ?_
    refine wp_i rfl rfl rfl rfl ?_
    refine wp_i rfl rfl rfl (gf_eq (f := 0) rfl (by decide) e0 e0') ?_
    refine wp_i rfl rfl rfl (gf_eq (f := 1) rfl (by decide) g1 g2) ?_
    refine wp_icmp (c := .le) (off := 5) (t := 17) rfl rfl (fun q2 => ?_) (fun q2 => ?_)
    · have q2 := of_decide_eq_true q2
      rw [Int32.le_iff_toInt_le, cI] at q2
      rw [decide_eq_true (by omega)]
      refine wp_i rfl rfl rfl rfl ?_
      refine wp_i rfl rfl rfl (gf_eq (f := 0) rfl (by decide) e0 e0') ?_
      refine wp_i rfl rfl rfl rfl ?_
      refine wp_i rfl rfl rfl (pf_eq (f := 1) rfl rfl (by decide) (by decide) g1 g2) ?_
      refine wp_i rfl rfl rfl rfl ?_
      exact wp_zret rfl rfl (Or.inr rfl) ⟨rfl, g3⟩
    · have q2 := of_decide_eq_false q2
      rw [Int32.le_iff_toInt_le, cI] at q2
      rw [decide_eq_false (by omega)]
      refine wp_i rfl rfl rfl rfl ?_
      exact wp_zret rfl rfl (Or.inl rfl) ⟨rfl, gs, g1, g2⟩
theorem en_m {fr lo : Nat} {c : Nat} {w : Int32} (hc : c ≤ 80) (h0 : mF h 0 (.int w)) (r2 : mF h 15 (.int (nI c))) (y : Int32) (hf : 1 ≤ fr) (hl : 100 ≤ lo) : pm_WP PT fr lo 179 (0, pm_l0 [.ref 162, .int y] 2, [], h, 198, sl) (fun q => q.1 = some (.int (cond (decide (0 ≤ y.toInt ∧ y.toInt ≤ (c : Int))) 1 0)) ∧ mF q.2.1 15 (.int (cond (decide (0 ≤ y.toInt ∧ y.toInt ≤ (c : Int))) y (nI c)))) := by
  have r3 : mF (mset h 0 (.int (Int32.ofInt 0))) 15 (.int (nI c)) := mF_ne (by decide) r2
  refine wp_i rfl rfl rfl rfl ?_
  refine wp_i rfl rfl rfl rfl ?_
  refine wp_pfm (w := .int w) rfl rfl rfl (by decide) h0 ?_
  refine wp_i rfl rfl rfl rfl ?_
  refine wp_i rfl rfl rfl rfl ?_
  refine wp_i rfl rfl rfl rfl ?_
  refine wp_i rfl rfl rfl rfl ?_
  refine wp_gfm rfl rfl r3 ?_
  refine wp_i rfl rfl rfl rfl ?_
  refine wp_callS (t := 163) (As := [.long (y).toInt64, .long 0, .long ((nI c)).toInt64]) (rest := []) (mx := 6) rfl rfl rfl rfl (Nat.le_of_ble_eq_true rfl) (Nat.le_of_ble_eq_true rfl) hf (by omega) (wp_mono (hd_in y.toInt64 0 (nI c).toInt64) ?_)
  rintro _ rfl
  rw [in_bc y hc]
  show pm_WP PT fr lo 179 (16, [some (.ref 162), some (.int y)], [.int (cond (decide (0 ≤ y.toInt ∧ y.toInt ≤ (c : Int))) 1 0)], mset h 0 (.int (Int32.ofInt 0)), 198, sl) _
  cases decide (0 ≤ y.toInt ∧ y.toInt ≤ (c : Int)) with
  | true =>
    refine wp_if (c := .ne) (off := 5) (t := 21) rfl rfl (fun q => ?_) (fun q => by cases q)
    refine wp_i rfl rfl rfl rfl ?_
    refine wp_i rfl rfl rfl rfl ?_
    refine wp_pfm (w := .int (nI c)) rfl rfl rfl (by decide) r3 ?_
    refine wp_i rfl rfl rfl rfl ?_
    exact wp_zret rfl rfl (Or.inr rfl) ⟨rfl, mF_self r3⟩
  | false =>
    refine wp_if (c := .ne) (off := 5) (t := 21) rfl rfl (fun q => by cases q) (fun q => ?_)
    refine wp_i rfl rfl rfl rfl ?_
    exact wp_zret rfl rfl (Or.inl rfl) ⟨rfl, r3⟩
def asX0 : List av := match bB 0 with
  | .inr (_, as) => as
  | _ => []
def asM0 : av := asM.getD 0 (0, 0, 0)
theorem ty_x0 (hh : ah_ok bB 198 [] h) : x0 h := by
  have h0 := hh 0 (by decide)
  obtain ⟨fs, ef, hl, hg⟩ := aE_obj (ci := 10) (as := asX0) h0 (by decide)
  have hlf : 0 < fs.length := by rw [hl]; exact Nat.le_of_ble_eq_true rfl
  have ev : fs[0]? = some fs[0] := List.getElem?_eq_getElem hlf
  have hv := hg 0 _ (2, 1, 1) ev rfl
  have hr : fs[0] = .ref 1 := by
    cases e : fs[0] with
    | ref p =>
      rw [e] at hv
      have := hv.2
      rw [show p = 1 from List.mem_singleton.mp this]
    | null => rw [e] at hv; exact absurd (show (2 : Nat) = 3 from hv) (by decide)
    | _ => rw [e] at hv; first | exact hv.elim | (cases hv.1)
  exact ⟨fs, ef, by rw [ev, hr]⟩
theorem ty_x9 (hh : ah_ok bB 198 [] h) : ∃ q fs, h 0 = .inr (10, fs) ∧ fs[9]? = some q := by
  have h0 := hh 0 (by decide)
  obtain ⟨fs, ef, hl, hg⟩ := aE_obj (ci := 10) (as := asX0) h0 (by decide)
  have hlf : 9 < fs.length := by rw [hl]; exact Nat.le_of_ble_eq_true rfl
  exact ⟨fs[9], fs, ef, List.getElem?_eq_getElem hlf⟩
theorem ty_m0 (hh : ah_ok bB 198 [] h) : ∃ w : Int32, mF h 0 (.int w) := by
  obtain ⟨v, m, a⟩ := ob_fld (o := []) hh asM_eq (g := 0) (a := asM0) rfl
  obtain ⟨x, rfl, -⟩ := av_int rfl a
  exact ⟨x, m⟩
theorem en_two (hI : LI h) (y : Int32) : twoWP sl h 87 179 [.int y] := by
  obtain ⟨hI0, c, hc, r1, r2⟩ := hI
  refine wp_mono (wp_det (cxw_end [.ref 0, .int y] h 2047 (84000 - (19 + pm_max PT 87)) sl ⟨⟨rfl, List.mem_singleton_self _⟩, ai_top_ok _, trivial⟩ hI0.1 trivial (Nat.le_of_ble_eq_true rfl) (Nat.le_of_ble_eq_true rfl)) (en_x (fs := []) hc (ty_x0 hI0.1) r1 y)) ?_
  rintro ⟨rv, h1, s1⟩ ⟨⟨-, q1, ⟨q2, -⟩, q3⟩, p1, p2⟩
  cases q1
  dsimp only at p1 p2
  have hI1 := cx_inv hI0 q2 q3
  obtain ⟨w, hw⟩ := ty_m0 hI1.1
  have r2' : mF h1 15 (.int (nI c)) := by
    obtain ⟨gs, m1, m2⟩ := r2
    exact ⟨gs, (q2.1 162 rfl).trans m1, m2⟩
  refine ⟨rfl, _, p1, ty_162 hI1.1, ?_⟩
  refine wp_mono (wp_det (hm_end hI1 y (fr := 2047) (lo := 84000 - (19 + pm_max PT 179)) (Nat.le_of_ble_eq_true rfl) (Nat.le_of_ble_eq_true rfl)) (en_m hc hw r2' y (Nat.le_of_ble_eq_true rfl) (Nat.le_of_ble_eq_true rfl))) ?_
  rintro ⟨rv2, h2, s2⟩ ⟨⟨a1, a2, a3, a4⟩, b1, b2⟩
  dsimp only at a2 a3 a4 b1 b2
  cases a2
  refine ⟨b1, rfl, a4, ?_⟩
  have p2' : cT h2 (.int (cond (decide (0 ≤ y.toInt ∧ y.toInt ≤ (c : Int))) y (nI c))) := by
    obtain ⟨gs, m1, m2⟩ := p2
    exact ⟨gs, (a3 1 (by decide)).trans m1, m2⟩
  cases hd : decide (0 ≤ y.toInt ∧ y.toInt ≤ (c : Int)) with
  | false =>
    rw [hd] at p2' b2
    exact ⟨c, hc, p2', b2⟩
  | true =>
    rw [hd] at p2' b2
    have hd := of_decide_eq_true hd
    obtain ⟨j, rfl, hj, ej⟩ := hI_of (show 0 ≤ y.toInt by omega)
    exact ⟨j, by omega, p2', b2⟩
theorem ty_m15 (hh : ah_ok bB 198 [] h) : ∃ w : Int32, mF h 15 (.int w) := by
  obtain ⟨v, m, a⟩ := ob_fld (o := []) hh asM_eq (g := 15) (a := (0, 0, 80)) asM_15
  obtain ⟨x, rfl, -⟩ := av_int rfl a
  exact ⟨x, m⟩
theorem LI_cT (hI : LI h) : ∃ c : Nat, cT h (.int (nI c)) := by
  obtain ⟨-, c, -, r, -⟩ := hI
  exact ⟨c, r⟩
theorem zx_year {n : Nat} {R : pm_Rs} (hI : mInv h) (hh : pm_run PT n 2047 (84000 - (19 + pm_max PT 100)) 100 (0, pm_l0 [.ref 0] (pm_max PT 100), [], h, 198, sl) = some R) : cT R.2.1 (.int 0) := by
  obtain ⟨-, -, -, q⟩ := rn_det (zw_year [.ref 0] h 2047 (84000 - (19 + pm_max PT 100)) sl ⟨⟨rfl, List.mem_singleton_self _⟩, trivial⟩ hI.1 trivial (Nat.le_of_ble_eq_true rfl) (Nat.le_of_ble_eq_true rfl)) hh
  obtain ⟨-, fs, v, k1, k2, k3⟩ := ovf_out q (by decide) (by decide) asT_eq asT_1 (by decide)
  obtain ⟨u, rfl, u1, u2⟩ := av_int rfl k3
  have u1 : (0 : Int) ≤ u.toInt := u1
  have u2 : u.toInt ≤ 0 := u2
  have : u = 0 := Int32.toInt_inj.1 (by rw [show (0 : Int32).toInt = 0 by decide]; omega)
  subst this
  exact ⟨fs, k1, k2⟩
/-- a turn of two calls that read THE TEXT: it is empty behind both -/
theorem op_pairZ (H : lc_Cl 198 sl bS Ln xs P) {kx km pe : Nat} (hc : lc_twp pc 0 kx km pe = true) (hL : lc_L bS i L) (hb : i + 1 + 0 ≤ Ln) (hI : LI h) {c : con} (hx : con_ok PT bB 198 cxF cxQ c) (ek : c.1 = kx) (ec : cx_int c 0 = true) (hm : ∀ h1, mInv h1 → pm_WP PT 2047 (84000 - (19 + pm_max PT km)) km (0, pm_l0 [.ref 162] (pm_max PT km), [], h1, 198, sl) (mPost anInt h1 sl))
    (zx : ∀ n r, pm_run PT n 2047 (84000 - (19 + pm_max PT kx)) kx (0, pm_l0 [.ref 0] (pm_max PT kx), [], h, 198, sl) = some r → cT r.2.1 (.int 0)) (zm : ∀ h1, mInv h1 → ∀ n r, pm_run PT n 2047 (84000 - (19 + pm_max PT km)) km (0, pm_l0 [.ref 162] (pm_max PT km), [], h1, 198, sl) = some r → zT r.2.1) (kk : ∀ h2, LI h2 → P (pe, L, [], h2, 198, sl)) : P (pc, L, [], h, 198, sl) := by
  subst ek
  unfold cx_int at ec
  simp only [Bool.and_eq_true] at ec
  obtain ⟨e1, e2, e3, e4, e5, e6, e7, e8⟩ := ec
  have e1 := of_decide_eq_true e1
  have e2 := of_decide_eq_true e2
  have e4 := of_decide_eq_true e4
  have e5 := Nat.le_of_ble_eq_true e5
  have e6 := Nat.le_of_ble_eq_true e6
  have e8 := Nat.le_of_ble_eq_true e8
  have e7 : c.2.2.2.2.2.2.2 = false := by simpa using e7
  obtain ⟨f1, o1⟩ := ty_0 hI.1.1
  refine lc_twp_ok H hc hL hb (by decide) o1 (wp_mono (wp_runs (hx [.ref 0] h 2047 (84000 - (19 + pm_max PT c.1)) sl ?_ ?_ trivial e5 (by omega)) zx) ?_)
  · rw [e1]
    exact ⟨⟨rfl, List.mem_singleton_self _⟩, trivial⟩
  · rw [e2]; exact hI.1.1
  · rintro ⟨rv, h1, s1⟩ ⟨⟨⟨a, ha, hv⟩, q1, ⟨q2, -⟩, q3⟩, q4⟩
    rw [e7, e4] at q3
    dsimp only [cond] at hv q1 q2 q3 q4
    cases q1
    have hI1 := cx_inv hI.1 q2 q3
    refine ⟨rfl, ?_, ty_162 hI1.1, wp_mono (wp_runs (hm h1 hI1) (zm h1 hI1)) ?_⟩
    · have ea := List.all_eq_true.mp e3 a ha
      cases a with
      | none => cases ea
      | some b =>
        cases rv with
        | none => exact hv.elim
        | some v =>
          obtain ⟨x, rfl, -⟩ := av_int (Nat.eq_of_beq_eq_true ea) hv
          exact ⟨x, rfl⟩
    · rintro ⟨rv2, h2, s2⟩ ⟨⟨p1, p2, p3, p4⟩, p5⟩
      dsimp only at p1 p2 p3 p4 p5
      cases p2
      obtain ⟨gs, g1, g2⟩ := q4
      exact ⟨p1, rfl, kk h2 ⟨p4, 0, by decide, ⟨gs, (p3 1 (by decide)).trans g1, g2⟩, p5⟩⟩
end TXP
end MG95tzx2
section MG95tzx3
/-! every opcode whose answers are thrown away -/
section RDT
variable {P : pm_St → Prop} {sl bS Ln i : Nat} {xs : Nat → Int32} {L : pm_L} {h : pm_H}
theorem rd_road (H : lc_Cl 198 sl bS Ln xs P) (hL : lc_L bS i L) (hi : i + 5 ≤ Ln) (hI : LI h) (kk : ∀ h2, LI h2 → P (1443, L, [], h2, 198, sl)) : P (445, L, [], h, 198, sl) := op_pairR H (n := 3) (kx := 94) (km := 209) (pe := 1443) (by decide +kernel) hL (by omega) hI cxw_road rfl (by decide +kernel) (A := anInt) (fun _ q => q) (fun h1 hI1 => hm_road hI1 _ _ _ (Nat.le_of_ble_eq_true rfl) (Nat.le_of_ble_eq_true rfl)) rfl rfl kk
theorem rd_sheet (H : lc_Cl 198 sl bS Ln xs P) (hL : lc_L bS i L) (hi : i + 5 ≤ Ln) (hI : LI h) (kk : ∀ h2, LI h2 → P (1443, L, [], h2, 198, sl)) : P (494, L, [], h, 198, sl) := op_pairR H (n := 4) (kx := 95) (km := 210) (pe := 1443) (by decide +kernel) hL (by omega) hI cxw_sheet rfl (by decide +kernel) (A := anInt) (fun _ q => q) (fun h1 hI1 => hm_sheet hI1 _ _ _ _ (Nat.le_of_ble_eq_true rfl) (Nat.le_of_ble_eq_true rfl)) rfl rfl kk
theorem rd_send (H : lc_Cl 198 sl bS Ln xs P) (hL : lc_L bS i L) (hi : i + 5 ≤ Ln) (hI : LI h) (kk : ∀ h2, LI h2 → P (1443, L, [], h2, 198, sl)) : P (555, L, [], h, 198, sl) := op_pairR H (n := 2) (kx := 96) (km := 222) (pe := 1443) (by decide +kernel) hL (by omega) hI cxw_send rfl (by decide +kernel) (A := anInt) (fun _ q => q) (fun h1 hI1 => hm_send hI1 _ _ (Nat.le_of_ble_eq_true rfl) (Nat.le_of_ble_eq_true rfl)) rfl rfl kk
theorem rd_months (H : lc_Cl 198 sl bS Ln xs P) (hL : lc_L bS i L) (hi : i + 5 ≤ Ln) (hI : LI h) (kk : ∀ h2, LI h2 → P (1443, L, [], h2, 198, sl)) : P (592, L, [], h, 198, sl) := op_pairR H (n := 1) (kx := 97) (km := 223) (pe := 1443) (by decide +kernel) hL (by omega) hI cxw_months rfl (by decide +kernel) (A := anInt) (fun _ q => q) (fun h1 hI1 => hm_months hI1 _ (Nat.le_of_ble_eq_true rfl) (Nat.le_of_ble_eq_true rfl)) rfl rfl kk
theorem rd_envoy (H : lc_Cl 198 sl bS Ln xs P) (hL : lc_L bS i L) (hi : i + 5 ≤ Ln) (hI : LI h) (kk : ∀ h2, LI h2 → P (1443, L, [], h2, 198, sl)) : P (617, L, [], h, 198, sl) := op_pairR H (n := 3) (kx := 98) (km := 224) (pe := 1443) (by decide +kernel) hL (by omega) hI cxw_envoy rfl (by decide +kernel) (A := anInt) (fun _ q => q) (fun h1 hI1 => hm_envoy hI1 _ _ _ (Nat.le_of_ble_eq_true rfl) (Nat.le_of_ble_eq_true rfl)) rfl rfl kk
theorem rd_forgive (H : lc_Cl 198 sl bS Ln xs P) (hL : lc_L bS i L) (hi : i + 5 ≤ Ln) (hI : LI h) (kk : ∀ h2, LI h2 → P (1443, L, [], h2, 198, sl)) : P (666, L, [], h, 198, sl) := op_pairR H (n := 2) (kx := 99) (km := 225) (pe := 1443) (by decide +kernel) hL (by omega) hI cxw_forgive rfl (by decide +kernel) (A := anInt) (fun _ q => q) (fun h1 hI1 => hm_forgive hI1 _ _ (Nat.le_of_ble_eq_true rfl) (Nat.le_of_ble_eq_true rfl)) rfl rfl kk
theorem rd_undo (H : lc_Cl 198 sl bS Ln xs P) (hL : lc_L bS i L) (hi : i + 5 ≤ Ln) (hI : LI h) (kk : ∀ h2, LI h2 → P (1443, L, [], h2, 198, sl)) : P (716, L, [], h, 198, sl) := op_pairR H (n := 0) (kx := 101) (km := 214) (pe := 1443) (by decide +kernel) hL (by omega) hI cxw_undo rfl (by decide +kernel) (A := anInt) (fun _ q => q) (fun h1 hI1 => hm_undo hI1 (Nat.le_of_ble_eq_true rfl) (Nat.le_of_ble_eq_true rfl)) rfl rfl kk
theorem rd_value (H : lc_Cl 198 sl bS Ln xs P) (hL : lc_L bS i L) (hi : i + 5 ≤ Ln) (hI : LI h) (kk : ∀ h2, LI h2 → P (1443, L, [], h2, 198, sl)) : P (729, L, [], h, 198, sl) := op_pairR H (n := 2) (kx := 102) (km := 230) (pe := 1443) (by decide +kernel) hL (by omega) hI cxw_value rfl (by decide +kernel) (A := anInt) (fun _ q => q) (fun h1 hI1 => hm_value hI1 _ _ (Nat.le_of_ble_eq_true rfl) (Nat.le_of_ble_eq_true rfl)) rfl rfl kk
theorem rd_where (H : lc_Cl 198 sl bS Ln xs P) (hL : lc_L bS i L) (hi : i + 5 ≤ Ln) (hI : LI h) (kk : ∀ h2, LI h2 → P (1443, L, [], h2, 198, sl)) : P (766, L, [], h, 198, sl) := op_pairR H (n := 1) (kx := 103) (km := 231) (pe := 1443) (by decide +kernel) hL (by omega) hI cxw_where rfl (by decide +kernel) (A := anInt) (fun _ q => q) (fun h1 hI1 => hm_where hI1 _ (Nat.le_of_ble_eq_true rfl) (Nat.le_of_ble_eq_true rfl)) rfl rfl kk
theorem rd_answer (H : lc_Cl 198 sl bS Ln xs P) (hL : lc_L bS i L) (hi : i + 5 ≤ Ln) (hI : LI h) (kk : ∀ h2, LI h2 → P (1443, L, [], h2, 198, sl)) : P (791, L, [], h, 198, sl) := op_pairR H (n := 2) (kx := 104) (km := 232) (pe := 1443) (by decide +kernel) hL (by omega) hI cxw_answer rfl (by decide +kernel) (A := anInt) (fun _ q => q) (fun h1 hI1 => hm_answer hI1 _ _ (Nat.le_of_ble_eq_true rfl) (Nat.le_of_ble_eq_true rfl)) rfl rfl kk
theorem rd_wins (H : lc_Cl 198 sl bS Ln xs P) (hL : lc_L bS i L) (hi : i + 5 ≤ Ln) (hI : LI h) (kk : ∀ h2, LI h2 → P (1443, L, [], h2, 198, sl)) : P (828, L, [], h, 198, sl) := op_pairR H (n := 2) (kx := 105) (km := 234) (pe := 1443) (by decide +kernel) hL (by omega) hI cxw_wins rfl (by decide +kernel) (A := anInt) (fun _ q => q) (fun h1 hI1 => hm_wins hI1 _ _ (Nat.le_of_ble_eq_true rfl) (Nat.le_of_ble_eq_true rfl)) rfl rfl kk
theorem rd_unseen (H : lc_Cl 198 sl bS Ln xs P) (hL : lc_L bS i L) (hi : i + 5 ≤ Ln) (hI : LI h) (kk : ∀ h2, LI h2 → P (1443, L, [], h2, 198, sl)) : P (865, L, [], h, 198, sl) := op_pairR H (n := 1) (kx := 106) (km := 235) (pe := 1443) (by decide +kernel) hL (by omega) hI cxw_unseen rfl (by decide +kernel) (A := anInt) (fun _ q => q) (fun h1 hI1 => hm_unseen hI1 _ (Nat.le_of_ble_eq_true rfl) (Nat.le_of_ble_eq_true rfl)) rfl rfl kk
theorem rd_swaps (H : lc_Cl 198 sl bS Ln xs P) (hL : lc_L bS i L) (hi : i + 5 ≤ Ln) (hI : LI h) (kk : ∀ h2, LI h2 → P (1443, L, [], h2, 198, sl)) : P (890, L, [], h, 198, sl) := op_pairR H (n := 0) (kx := 107) (km := 236) (pe := 1443) (by decide +kernel) hL (by omega) hI cxw_swaps rfl (by decide +kernel) (A := anInt) (fun _ q => q) (fun h1 hI1 => hm_swaps hI1 (Nat.le_of_ble_eq_true rfl) (Nat.le_of_ble_eq_true rfl)) rfl rfl kk
theorem rd_way (H : lc_Cl 198 sl bS Ln xs P) (hL : lc_L bS i L) (hi : i + 5 ≤ Ln) (hI : LI h) (kk : ∀ h2, LI h2 → P (1443, L, [], h2, 198, sl)) : P (903, L, [], h, 198, sl) := op_pairR H (n := 2) (kx := 108) (km := 238) (pe := 1443) (by decide +kernel) hL (by omega) hI cxw_way rfl (by decide +kernel) (A := anInt) (fun _ q => q) (fun h1 hI1 => hm_way hI1 _ _ (Nat.le_of_ble_eq_true rfl) (Nat.le_of_ble_eq_true rfl)) rfl rfl kk
theorem rd_walks (H : lc_Cl 198 sl bS Ln xs P) (hL : lc_L bS i L) (hi : i + 5 ≤ Ln) (hI : LI h) (kk : ∀ h2, LI h2 → P (1443, L, [], h2, 198, sl)) : P (940, L, [], h, 198, sl) := op_pairR H (n := 4) (kx := 109) (km := 239) (pe := 1443) (by decide +kernel) hL (by omega) hI cxw_walks rfl (by decide +kernel) (A := anInt) (fun _ q => q) (fun h1 hI1 => hm_walks hI1 _ _ _ _ (Nat.le_of_ble_eq_true rfl) (Nat.le_of_ble_eq_true rfl)) rfl rfl kk
theorem rd_alive (H : lc_Cl 198 sl bS Ln xs P) (hL : lc_L bS i L) (hi : i + 5 ≤ Ln) (hI : LI h) (kk : ∀ h2, LI h2 → P (1443, L, [], h2, 198, sl)) : P (1001, L, [], h, 198, sl) := op_pairR H (n := 3) (kx := 110) (km := 240) (pe := 1443) (by decide +kernel) hL (by omega) hI cxw_alive rfl (by decide +kernel) (A := anInt) (fun _ q => q) (fun h1 hI1 => hm_alive hI1 _ _ _ (Nat.le_of_ble_eq_true rfl) (Nat.le_of_ble_eq_true rfl)) rfl rfl kk
theorem rd_feeds (H : lc_Cl 198 sl bS Ln xs P) (hL : lc_L bS i L) (hi : i + 5 ≤ Ln) (hI : LI h) (kk : ∀ h2, LI h2 → P (1443, L, [], h2, 198, sl)) : P (1050, L, [], h, 198, sl) := op_pairR H (n := 1) (kx := 111) (km := 242) (pe := 1443) (by decide +kernel) hL (by omega) hI cxw_feeds rfl (by decide +kernel) (A := anInt) (fun _ q => q) (fun h1 hI1 => hm_feeds hI1 _ (Nat.le_of_ble_eq_true rfl) (Nat.le_of_ble_eq_true rfl)) rfl rfl kk
theorem rd_starves (H : lc_Cl 198 sl bS Ln xs P) (hL : lc_L bS i L) (hi : i + 5 ≤ Ln) (hI : LI h) (kk : ∀ h2, LI h2 → P (1443, L, [], h2, 198, sl)) : P (1075, L, [], h, 198, sl) := op_pairR H (n := 2) (kx := 112) (km := 243) (pe := 1443) (by decide +kernel) hL (by omega) hI cxw_starves rfl (by decide +kernel) (A := anInt) (fun _ q => q) (fun h1 hI1 => hm_starves hI1 _ _ (Nat.le_of_ble_eq_true rfl) (Nat.le_of_ble_eq_true rfl)) rfl rfl kk
theorem rd_net (H : lc_Cl 198 sl bS Ln xs P) (hL : lc_L bS i L) (hi : i + 5 ≤ Ln) (hI : LI h) (kk : ∀ h2, LI h2 → P (1443, L, [], h2, 198, sl)) : P (1112, L, [], h, 198, sl) := op_pairR H (n := 1) (kx := 113) (km := 244) (pe := 1443) (by decide +kernel) hL (by omega) hI cxw_net rfl (by decide +kernel) (A := anInt) (fun _ q => q) (fun h1 hI1 => hm_net hI1 _ (Nat.le_of_ble_eq_true rfl) (Nat.le_of_ble_eq_true rfl)) rfl rfl kk
theorem rd_settle (H : lc_Cl 198 sl bS Ln xs P) (hL : lc_L bS i L) (hi : i + 5 ≤ Ln) (hI : LI h) (kk : ∀ h2, LI h2 → P (1443, L, [], h2, 198, sl)) : P (1137, L, [], h, 198, sl) := op_pairR H (n := 0) (kx := 114) (km := 245) (pe := 1443) (by decide +kernel) hL (by omega) hI cxw_settle rfl (by decide +kernel) (A := anInt) (fun _ q => q) (fun h1 hI1 => hm_settle hI1 (Nat.le_of_ble_eq_true rfl) (Nat.le_of_ble_eq_true rfl)) rfl rfl kk
theorem rd_ring (H : lc_Cl 198 sl bS Ln xs P) (hL : lc_L bS i L) (hi : i + 5 ≤ Ln) (hI : LI h) (kk : ∀ h2, LI h2 → P (1443, L, [], h2, 198, sl)) : P (1150, L, [], h, 198, sl) := op_pairR H (n := 0) (kx := 115) (km := 247) (pe := 1443) (by decide +kernel) hL (by omega) hI cxw_ring rfl (by decide +kernel) (A := anInt) (fun _ q => q) (fun h1 hI1 => hm_ring hI1 (Nat.le_of_ble_eq_true rfl) (Nat.le_of_ble_eq_true rfl)) rfl rfl kk
theorem rd_ranks (H : lc_Cl 198 sl bS Ln xs P) (hL : lc_L bS i L) (hi : i + 5 ≤ Ln) (hI : LI h) (kk : ∀ h2, LI h2 → P (1443, L, [], h2, 198, sl)) : P (1163, L, [], h, 198, sl) := op_pairR H (n := 0) (kx := 116) (km := 249) (pe := 1443) (by decide +kernel) hL (by omega) hI cxw_ranks rfl (by decide +kernel) (A := anInt) (fun _ q => q) (fun h1 hI1 => hm_ranks hI1 (Nat.le_of_ble_eq_true rfl) (Nat.le_of_ble_eq_true rfl)) rfl rfl kk
theorem rd_league (H : lc_Cl 198 sl bS Ln xs P) (hL : lc_L bS i L) (hi : i + 5 ≤ Ln) (hI : LI h) (kk : ∀ h2, LI h2 → P (1443, L, [], h2, 198, sl)) : P (1176, L, [], h, 198, sl) := op_pairR H (n := 0) (kx := 117) (km := 250) (pe := 1443) (by decide +kernel) hL (by omega) hI cxw_league rfl (by decide +kernel) (A := anInt) (fun _ q => q) (fun h1 hI1 => hm_league hI1 (Nat.le_of_ble_eq_true rfl) (Nat.le_of_ble_eq_true rfl)) rfl rfl kk
theorem rd_heard (H : lc_Cl 198 sl bS Ln xs P) (hL : lc_L bS i L) (hi : i + 5 ≤ Ln) (hI : LI h) (kk : ∀ h2, LI h2 → P (1443, L, [], h2, 198, sl)) : P (1189, L, [], h, 198, sl) := op_pairR H (n := 2) (kx := 118) (km := 251) (pe := 1443) (by decide +kernel) hL (by omega) hI cxw_heard rfl (by decide +kernel) (A := anInt) (fun _ q => q) (fun h1 hI1 => hm_heard hI1 _ _ (Nat.le_of_ble_eq_true rfl) (Nat.le_of_ble_eq_true rfl)) rfl rfl kk
theorem rd_forget (H : lc_Cl 198 sl bS Ln xs P) (hL : lc_L bS i L) (hi : i + 5 ≤ Ln) (hI : LI h) (kk : ∀ h2, LI h2 → P (1443, L, [], h2, 198, sl)) : P (1226, L, [], h, 198, sl) := op_pairR H (n := 0) (kx := 119) (km := 252) (pe := 1443) (by decide +kernel) hL (by omega) hI cxw_forget rfl (by decide +kernel) (A := anInt) (fun _ q => q) (fun h1 hI1 => hm_forget hI1 (Nat.le_of_ble_eq_true rfl) (Nat.le_of_ble_eq_true rfl)) rfl rfl kk
theorem rd_fits (H : lc_Cl 198 sl bS Ln xs P) (hL : lc_L bS i L) (hi : i + 5 ≤ Ln) (hI : LI h) (kk : ∀ h2, LI h2 → P (1443, L, [], h2, 198, sl)) : P (1239, L, [], h, 198, sl) := op_pairR H (n := 0) (kx := 120) (km := 255) (pe := 1443) (by decide +kernel) hL (by omega) hI cxw_fits rfl (by decide +kernel) (A := anInt) (fun _ q => q) (fun h1 hI1 => hm_fits hI1 (Nat.le_of_ble_eq_true rfl) (Nat.le_of_ble_eq_true rfl)) rfl rfl kk
theorem rd_ask (H : lc_Cl 198 sl bS Ln xs P) (hL : lc_L bS i L) (hi : i + 5 ≤ Ln) (hI : LI h) (kk : ∀ h2, LI h2 → P (1443, L, [], h2, 198, sl)) : P (1252, L, [], h, 198, sl) := op_pairR H (n := 0) (kx := 121) (km := 256) (pe := 1443) (by decide +kernel) hL (by omega) hI cxw_ask rfl (by decide +kernel) (A := anInt) (fun _ q => q) (fun h1 hI1 => hm_ask hI1 (Nat.le_of_ble_eq_true rfl) (Nat.le_of_ble_eq_true rfl)) rfl rfl kk
theorem rd_rests (H : lc_Cl 198 sl bS Ln xs P) (hL : lc_L bS i L) (hi : i + 5 ≤ Ln) (hI : LI h) (kk : ∀ h2, LI h2 → P (1443, L, [], h2, 198, sl)) : P (1278, L, [], h, 198, sl) := op_pairR H (n := 1) (kx := 123) (km := 261) (pe := 1443) (by decide +kernel) hL (by omega) hI cxw_rests rfl (by decide +kernel) (A := anInt) (fun _ q => q) (fun h1 hI1 => hm_rests hI1 _ (Nat.le_of_ble_eq_true rfl) (Nat.le_of_ble_eq_true rfl)) rfl rfl kk
theorem rd_years (H : lc_Cl 198 sl bS Ln xs P) (hL : lc_L bS i L) (hi : i + 5 ≤ Ln) (hI : LI h) (kk : ∀ h2, LI h2 → P (1443, L, [], h2, 198, sl)) : P (1303, L, [], h, 198, sl) := op_pairR H (n := 2) (kx := 124) (km := 263) (pe := 1443) (by decide +kernel) hL (by omega) hI cxw_years rfl (by decide +kernel) (A := anInt) (fun _ q => q) (fun h1 hI1 => hm_years hI1 _ _ (Nat.le_of_ble_eq_true rfl) (Nat.le_of_ble_eq_true rfl)) rfl rfl kk
theorem rd_keep (H : lc_Cl 198 sl bS Ln xs P) (hL : lc_L bS i L) (hi : i + 5 ≤ Ln) (hI : LI h) (kk : ∀ h2, LI h2 → P (1443, L, [], h2, 198, sl)) : P (1340, L, [], h, 198, sl) := op_pairR H (n := 1) (kx := 125) (km := 264) (pe := 1443) (by decide +kernel) hL (by omega) hI cxw_keep rfl (by decide +kernel) (A := aBool) (fun _ q => q.elim (fun e => ⟨_, e⟩) (fun e => ⟨_, e⟩)) (fun h1 hI1 => wp_mono (hm_keep hI1 _ (Nat.le_of_ble_eq_true rfl) (Nat.le_of_ble_eq_true rfl)) (fun _ q => q.1)) rfl rfl kk
theorem rd_again (H : lc_Cl 198 sl bS Ln xs P) (hL : lc_L bS i L) (hi : i + 5 ≤ Ln) (hI : LI h) (kk : ∀ h2, LI h2 → P (1443, L, [], h2, 198, sl)) : P (1365, L, [], h, 198, sl) := op_pairR H (n := 1) (kx := 126) (km := 265) (pe := 1443) (by decide +kernel) hL (by omega) hI cxw_again rfl (by decide +kernel) (A := aBool) (fun _ q => q.elim (fun e => ⟨_, e⟩) (fun e => ⟨_, e⟩)) (fun h1 hI1 => hm_again hI1 _ (Nat.le_of_ble_eq_true rfl) (Nat.le_of_ble_eq_true rfl)) rfl rfl kk
theorem rd_count (H : lc_Cl 198 sl bS Ln xs P) (hL : lc_L bS i L) (hi : i + 5 ≤ Ln) (hI : LI h) (kk : ∀ h2, LI h2 → P (1443, L, [], h2, 198, sl)) : P (1390, L, [], h, 198, sl) := op_pairR H (n := 1) (kx := 127) (km := 267) (pe := 1443) (by decide +kernel) hL (by omega) hI cxw_count rfl (by decide +kernel) (A := anInt) (fun _ q => q) (fun h1 hI1 => hm_count hI1 _ (Nat.le_of_ble_eq_true rfl) (Nat.le_of_ble_eq_true rfl)) rfl rfl kk
theorem rd_sign (H : lc_Cl 198 sl bS Ln xs P) (hL : lc_L bS i L) (hi : i + 5 ≤ Ln) (hI : LI h) (kk : ∀ h2, LI h2 → P (1443, L, [], h2, 198, sl)) : P (224, L, [], h, 198, sl) := two_pop H (n := 1) (kx := 86) (km := 178) (pe := 1443) (by decide +kernel) hL (by omega) hI (si_two hI (xs (i + 1))) kk
theorem rd_courts (H : lc_Cl 198 sl bS Ln xs P) (hL : lc_L bS i L) (hi : i + 5 ≤ Ln) (hI : LI h) (kk : ∀ h2, LI h2 → P (1443, L, [], h2, 198, sl)) : P (274, L, [], h, 198, sl) := op_pairZ H (kx := 88) (km := 188) (pe := 1443) (by decide +kernel) hL (by omega) hI cxw_courts rfl (by decide +kernel) (fun h1 hI1 => hm_courts hI1 (Nat.le_of_ble_eq_true rfl) (Nat.le_of_ble_eq_true rfl)) (fun n r hh => zx_courts (ty_x0 hI.1.1) (LI_cT hI).choose_spec hh) (fun h1 hI1 n r hh => z_courts (ty_m0 hI1.1).choose_spec (ty_m15 hI1.1).choose_spec hh) kk
theorem rd_gifts (H : lc_Cl 198 sl bS Ln xs P) (hL : lc_L bS i L) (hi : i + 5 ≤ Ln) (hI : LI h) (kk : ∀ h2, LI h2 → P (1443, L, [], h2, 198, sl)) : P (287, L, [], h, 198, sl) := op_pairZ H (kx := 89) (km := 192) (pe := 1443) (by decide +kernel) hL (by omega) hI cxw_gifts rfl (by decide +kernel) (fun h1 hI1 => hm_gifts hI1 (Nat.le_of_ble_eq_true rfl) (Nat.le_of_ble_eq_true rfl)) (fun n r hh => zx_gifts (ty_x0 hI.1.1) (LI_cT hI).choose_spec hh) (fun h1 hI1 n r hh => z_gifts (ty_m0 hI1.1).choose_spec (ty_m15 hI1.1).choose_spec hh) kk
theorem rd_rule (H : lc_Cl 198 sl bS Ln xs P) (hL : lc_L bS i L) (hi : i + 5 ≤ Ln) (hI : LI h) (kk : ∀ h2, LI h2 → P (1443, L, [], h2, 198, sl)) : P (300, L, [], h, 198, sl) := op_pairZ H (kx := 90) (km := 198) (pe := 1443) (by decide +kernel) hL (by omega) hI cxw_rule rfl (by decide +kernel) (fun h1 hI1 => hd_rule hI1 (Nat.le_of_ble_eq_true rfl) (Nat.le_of_ble_eq_true rfl)) (fun n r hh => zx_rule (ty_x0 hI.1.1) (ty_x9 hI.1.1).choose_spec (LI_cT hI).choose_spec hh) (fun h1 hI1 n r hh => z_rule (ty_m0 hI1.1).choose_spec (ty_m15 hI1.1).choose_spec hh) kk
theorem rd_year (H : lc_Cl 198 sl bS Ln xs P) (hL : lc_L bS i L) (hi : i + 5 ≤ Ln) (hI : LI h) (kk : ∀ h2, LI h2 → P (1443, L, [], h2, 198, sl)) : P (703, L, [], h, 198, sl) := op_pairZ H (kx := 100) (km := 228) (pe := 1443) (by decide +kernel) hL (by omega) hI cxw_year rfl (by decide +kernel) (fun h1 hI1 => hm_year hI1 (Nat.le_of_ble_eq_true rfl) (Nat.le_of_ble_eq_true rfl)) (fun n r hh => zx_year hI.1 hh) (fun h1 hI1 n r hh => z_year (ty_m0 hI1.1).choose_spec (ty_m15 hI1.1).choose_spec hh) kk
theorem rd_law (H : lc_Cl 198 sl bS Ln xs P) (hL : lc_L bS i L) (hi : i + 5 ≤ Ln) (hI : LI h) (kk : ∀ h2, LI h2 → P (1443, L, [], h2, 198, sl)) : P (1265, L, [], h, 198, sl) := op_pairZ H (kx := 122) (km := 258) (pe := 1443) (by decide +kernel) hL (by omega) hI cxw_law rfl (by decide +kernel) (fun h1 hI1 => hm_law hI1 (Nat.le_of_ble_eq_true rfl) (Nat.le_of_ble_eq_true rfl)) (fun n r hh => zx_law (ty_x0 hI.1.1) (ty_x9 hI.1.1).choose_spec (LI_cT hI).choose_spec hh) (fun h1 hI1 n r hh => z_law (ty_m0 hI1.1).choose_spec (ty_m15 hI1.1).choose_spec hh) kk
end RDT
end MG95tzx3
end MH84vxx5
section MH84vxx6
/-! turns with a wrapper: the walk goes on at a later state -/
section WTN
variable {p : Program} {l : Launch} {e : Env} {R : Room} {s : State} {m : MethodId} {below : List Frame} {meth : Method} {c : Code} {D : va_G} {aC : Nat → ClassId} {b g sl bS Ln i C S : Nat} {xs : Nat → Int32} {L : pm_L} {h : pm_H}
theorem lw_cl {Q : State → Prop} (E : lw_Env D aC b bS Ln xs p s m meth c) (hs0 : s.heap.size = b + 198 + g) (hfr : R.frames = 2048) (hlo : R.locals = 84000) (hLn : Ln < 2 ^ 30) : lc_Cl 198 sl bS Ln xs (pm_V p l e R s m #[Value.ref (aC (1000 + bS))] below meth c Q PT D aC b 1000 198 sl) := by
  have h1 := E.2.2.2.1
  exact lc_of E.1 hfr hlo hs0 E.2.2.1 (Nat.lt_of_lt_of_le h1 (by omega)) (Nat.not_le_of_lt h1) (by omega)
theorem twd_court : ∀ z ∈ ([Cond.methodLink "GiftsOfCourtsLaw" 53 (pm_y PT 1001), Cond.static (pm_y PT 1001), Cond.initialized "GiftsOfCourtsLaw", Cond.codeWith (pm_y PT 1001) (pm_code PT 1001) (pm_max PT 1001) (some .int) [(0, 10, 13, 13)]] : List Cond), z ∈ PG := by decide +kernel
theorem wt_court (htr : l.stackTraces = false) (E : lw_Env D aC b bS Ln xs p s m meth c) (hs0 : s.heap.size = b + 198 + g) (hfr : R.frames = 2048) (hlo : R.locals = 84000) (hRc : 1 ≤ R.cells) (hRs : 6 ≤ R.slots) (hC : 1 ≤ C) (hS : 6 ≤ S) (hLn : Ln < 2 ^ 30) (h5 : i + 5 ≤ Ln) (hL : lc_L bS i L) (hI : LI h)
    (kk : ∀ (s' : State) (g' : Nat) (h2 : pm_H) (L' : pm_L), lw_Env D aC b bS Ln xs p s' m meth c → s'.heap.size = b + 198 + g' → LI h2 → lc_L bS i L' → pm_V p l e { frames := R.frames, locals := R.locals, cells := R.cells - 1, slots := R.slots - 6 } s' m #[Value.ref (aC (1000 + bS))] below meth c (lw_Zb b (C - 1) (S - 6) below s') PT D aC b 1000 198 sl (1443, L', [], h2, 198, sl)) : pm_V p l e R s m #[Value.ref (aC (1000 + bS))] below meth c (lw_Zb b C S below s) PT D aC b 1000 198 sl (313, L, [], h, 198, sl) := by
  have H := lw_cl (l := l) (e := e) (below := below) (Q := lw_Zb b C S below s) (sl := sl) E hs0 hfr hlo hLn
  obtain ⟨f1, o1⟩ := ty_0 hI.1.1
  refine lc_al_ok H (a := 1) (by decide +kernel) hL.2.1 rfl ?_
  refine lc_args_ok H hL.1 hL.2.2.2.2.1 2 1 _ _ (by decide +kernel) (by omega) ?_
  refine lc_al_ok H (a := 3) (by decide +kernel) hL.2.2.2.1 rfl ?_
  refine lw_wrap (pc := 327) (w := 1001) (jw := 53) (lo1 := 83976) (n := 4) (hh := [(0, 10, 13, 13)]) (As := [.ref 0, .int (xs (i + 1)), .int (xs (i + 2)), .ref 197]) E rfl hs0 hfr hlo hRc hRs hC hS rfl rfl twd_court (by decide +kernel) rfl (Nat.le_of_ble_eq_true rfl) (tw_court (sl := sl) htr (xs (i + 1)) (xs (i + 2)) hI.1.1 o1) (fun s' g' h1 E' hs' hX v => ?_)
  have hI1 := twX_LI hI hX
  obtain ⟨f2, o2⟩ := ty_162 hI1.1.1
  refine lc_aft_ok (lw_cl (R := { frames := R.frames, cells := R.cells - 1, slots := R.slots - 6, locals := R.locals }) (l := l) (e := e) (below := below) (Q := lw_Zb b (C - 1) (S - 6) below s') E' hs' hfr hlo hLn) (q := 330) (n := 2) (km := 206) (lng := false) (pe := 1443) (by decide +kernel) hL (by omega) (by decide) o2 (wp_mono (sf_wp sfK_ok rfl (hm_court hI1.1 _ _ (Nat.le_of_ble_eq_true rfl) (Nat.le_of_ble_eq_true rfl))) (fun x q => ?_))
  obtain ⟨rv, h2, s2⟩ := x
  obtain ⟨⟨p1, p2, p3, p4⟩, p5⟩ := q
  dsimp only at p2 p3 p4 p5
  cases p2
  exact ⟨p1, rfl, fun L' hL' => kk s' g' h2 L' E' hs' ⟨p4, REL_fm p5 hI1.2⟩ hL'⟩
theorem twd_between : ∀ z ∈ ([Cond.methodLink "GiftsOfCourtsLaw" 59 (pm_y PT 1002), Cond.static (pm_y PT 1002), Cond.initialized "GiftsOfCourtsLaw", Cond.codeWith (pm_y PT 1002) (pm_code PT 1002) (pm_max PT 1002) (some .int) [(0, 12, 15, 13)]] : List Cond), z ∈ PG := by decide +kernel
theorem wt_between (htr : l.stackTraces = false) (E : lw_Env D aC b bS Ln xs p s m meth c) (hs0 : s.heap.size = b + 198 + g) (hfr : R.frames = 2048) (hlo : R.locals = 84000) (hRc : 1 ≤ R.cells) (hRs : 6 ≤ R.slots) (hC : 1 ≤ C) (hS : 6 ≤ S) (hLn : Ln < 2 ^ 30) (h5 : i + 5 ≤ Ln) (hL : lc_L bS i L) (hI : LI h)
    (kk : ∀ (s' : State) (g' : Nat) (h2 : pm_H) (L' : pm_L), lw_Env D aC b bS Ln xs p s' m meth c → s'.heap.size = b + 198 + g' → LI h2 → lc_L bS i L' → pm_V p l e { frames := R.frames, locals := R.locals, cells := R.cells - 1, slots := R.slots - 6 } s' m #[Value.ref (aC (1000 + bS))] below meth c (lw_Zb b (C - 1) (S - 6) below s') PT D aC b 1000 198 sl (1443, L', [], h2, 198, sl)) : pm_V p l e R s m #[Value.ref (aC (1000 + bS))] below meth c (lw_Zb b C S below s) PT D aC b 1000 198 sl (353, L, [], h, 198, sl) := by
  have H := lw_cl (l := l) (e := e) (below := below) (Q := lw_Zb b C S below s) (sl := sl) E hs0 hfr hlo hLn
  obtain ⟨f1, o1⟩ := ty_0 hI.1.1
  refine lc_al_ok H (a := 1) (by decide +kernel) hL.2.1 rfl ?_
  refine lc_args_ok H hL.1 hL.2.2.2.2.1 3 1 _ _ (by decide +kernel) (by omega) ?_
  refine lc_al_ok H (a := 3) (by decide +kernel) hL.2.2.2.1 rfl ?_
  refine lw_wrap (pc := 373) (w := 1002) (jw := 59) (lo1 := 83975) (n := 5) (hh := [(0, 12, 15, 13)]) (As := [.ref 0, .int (xs (i + 1)), .int (xs (i + 2)), .int (xs (i + 3)), .ref 197]) E rfl hs0 hfr hlo hRc hRs hC hS rfl rfl twd_between (by decide +kernel) rfl (Nat.le_of_ble_eq_true rfl) (tw_between (sl := sl) htr (xs (i + 1)) (xs (i + 2)) (xs (i + 3)) hI.1.1 o1) (fun s' g' h1 E' hs' hX v => ?_)
  have hI1 := twX_LI hI hX
  obtain ⟨f2, o2⟩ := ty_162 hI1.1.1
  refine lc_aft_ok (lw_cl (R := { frames := R.frames, cells := R.cells - 1, slots := R.slots - 6, locals := R.locals }) (l := l) (e := e) (below := below) (Q := lw_Zb b (C - 1) (S - 6) below s') E' hs' hfr hlo hLn) (q := 376) (n := 3) (km := 207) (lng := false) (pe := 1443) (by decide +kernel) hL (by omega) (by decide) o2 (wp_mono (sf_wp sfK_ok rfl (hm_between hI1.1 _ _ _ (Nat.le_of_ble_eq_true rfl) (Nat.le_of_ble_eq_true rfl))) (fun x q => ?_))
  obtain ⟨rv, h2, s2⟩ := x
  obtain ⟨⟨p1, p2, p3, p4⟩, p5⟩ := q
  dsimp only at p2 p3 p4 p5
  cases p2
  exact ⟨p1, rfl, fun L' hL' => kk s' g' h2 L' E' hs' ⟨p4, REL_fm p5 hI1.2⟩ hL'⟩
theorem twd_gift : ∀ z ∈ ([Cond.methodLink "GiftsOfCourtsLaw" 63 (pm_y PT 1003), Cond.static (pm_y PT 1003), Cond.initialized "GiftsOfCourtsLaw", Cond.codeWith (pm_y PT 1003) (pm_code PT 1003) (pm_max PT 1003) (some .int) [(0, 10, 13, 13)]] : List Cond), z ∈ PG := by decide +kernel
theorem wt_gift (htr : l.stackTraces = false) (E : lw_Env D aC b bS Ln xs p s m meth c) (hs0 : s.heap.size = b + 198 + g) (hfr : R.frames = 2048) (hlo : R.locals = 84000) (hRc : 1 ≤ R.cells) (hRs : 6 ≤ R.slots) (hC : 1 ≤ C) (hS : 6 ≤ S) (hLn : Ln < 2 ^ 30) (h5 : i + 5 ≤ Ln) (hL : lc_L bS i L) (hI : LI h)
    (kk : ∀ (s' : State) (g' : Nat) (h2 : pm_H) (L' : pm_L), lw_Env D aC b bS Ln xs p s' m meth c → s'.heap.size = b + 198 + g' → LI h2 → lc_L bS i L' → pm_V p l e { frames := R.frames, locals := R.locals, cells := R.cells - 1, slots := R.slots - 6 } s' m #[Value.ref (aC (1000 + bS))] below meth c (lw_Zb b (C - 1) (S - 6) below s') PT D aC b 1000 198 sl (1443, L', [], h2, 198, sl)) : pm_V p l e R s m #[Value.ref (aC (1000 + bS))] below meth c (lw_Zb b C S below s) PT D aC b 1000 198 sl (405, L, [], h, 198, sl) := by
  have H := lw_cl (l := l) (e := e) (below := below) (Q := lw_Zb b C S below s) (sl := sl) E hs0 hfr hlo hLn
  obtain ⟨f1, o1⟩ := ty_0 hI.1.1
  refine lc_al_ok H (a := 1) (by decide +kernel) hL.2.1 rfl ?_
  refine lc_args_ok H hL.1 hL.2.2.2.2.1 2 1 _ _ (by decide +kernel) (by omega) ?_
  refine lc_al_ok H (a := 3) (by decide +kernel) hL.2.2.2.1 rfl ?_
  refine lw_wrap (pc := 419) (w := 1003) (jw := 63) (lo1 := 83976) (n := 4) (hh := [(0, 10, 13, 13)]) (As := [.ref 0, .int (xs (i + 1)), .int (xs (i + 2)), .ref 197]) E rfl hs0 hfr hlo hRc hRs hC hS rfl rfl twd_gift (by decide +kernel) rfl (Nat.le_of_ble_eq_true rfl) (tw_gift (sl := sl) htr (xs (i + 1)) (xs (i + 2)) hI.1.1 o1) (fun s' g' h1 E' hs' hX v => ?_)
  have hI1 := twX_LI hI hX
  obtain ⟨f2, o2⟩ := ty_162 hI1.1.1
  refine lc_aft_ok (lw_cl (R := { frames := R.frames, cells := R.cells - 1, slots := R.slots - 6, locals := R.locals }) (l := l) (e := e) (below := below) (Q := lw_Zb b (C - 1) (S - 6) below s') E' hs' hfr hlo hLn) (q := 422) (n := 2) (km := 208) (lng := false) (pe := 1443) (by decide +kernel) hL (by omega) (by decide) o2 (wp_mono (sf_wp sfK_ok rfl (hm_gift hI1.1 _ _ (Nat.le_of_ble_eq_true rfl) (Nat.le_of_ble_eq_true rfl))) (fun x q => ?_))
  obtain ⟨rv, h2, s2⟩ := x
  obtain ⟨⟨p1, p2, p3, p4⟩, p5⟩ := q
  dsimp only at p2 p3 p4 p5
  cases p2
  exact ⟨p1, rfl, fun L' hL' => kk s' g' h2 L' E' hs' ⟨p4, REL_fm p5 hI1.2⟩ hL'⟩
theorem twd_row : ∀ z ∈ ([Cond.methodLink "GiftsOfCourtsLaw" 203 (pm_y PT 1004), Cond.static (pm_y PT 1004), Cond.initialized "GiftsOfCourtsLaw", Cond.codeWith (pm_y PT 1004) (pm_code PT 1004) (pm_max PT 1004) (some .int) [(0, 8, 11, 13)]] : List Cond), z ∈ PG := by decide +kernel
theorem wt_row (htr : l.stackTraces = false) (E : lw_Env D aC b bS Ln xs p s m meth c) (hs0 : s.heap.size = b + 198 + g) (hfr : R.frames = 2048) (hlo : R.locals = 84000) (hRc : 1 ≤ R.cells) (hRs : 6 ≤ R.slots) (hC : 1 ≤ C) (hS : 6 ≤ S) (hLn : Ln < 2 ^ 30) (h5 : i + 5 ≤ Ln) (hL : lc_L bS i L) (hI : LI h)
    (kk : ∀ (s' : State) (g' : Nat) (h2 : pm_H) (L' : pm_L), lw_Env D aC b bS Ln xs p s' m meth c → s'.heap.size = b + 198 + g' → LI h2 → lc_L bS i L' → pm_V p l e { frames := R.frames, locals := R.locals, cells := R.cells - 1, slots := R.slots - 6 } s' m #[Value.ref (aC (1000 + bS))] below meth c (lw_Zb b (C - 1) (S - 6) below s') PT D aC b 1000 198 sl (1443, L', [], h2, 198, sl)) : pm_V p l e R s m #[Value.ref (aC (1000 + bS))] below meth c (lw_Zb b C S below s) PT D aC b 1000 198 sl (1415, L, [], h, 198, sl) := by
  have H := lw_cl (l := l) (e := e) (below := below) (Q := lw_Zb b C S below s) (sl := sl) E hs0 hfr hlo hLn
  obtain ⟨f1, o1⟩ := ty_0 hI.1.1
  refine lc_al_ok H (a := 1) (by decide +kernel) hL.2.1 rfl ?_
  refine lc_args_ok H hL.1 hL.2.2.2.2.1 1 1 _ _ (by decide +kernel) (by omega) ?_
  refine lc_al_ok H (a := 3) (by decide +kernel) hL.2.2.2.1 rfl ?_
  refine lw_wrap (pc := 1423) (w := 1004) (jw := 203) (lo1 := 83977) (n := 3) (hh := [(0, 8, 11, 13)]) (As := [.ref 0, .int (xs (i + 1)), .ref 197]) E rfl hs0 hfr hlo hRc hRs hC hS rfl rfl twd_row (by decide +kernel) rfl (Nat.le_of_ble_eq_true rfl) (tw_row (sl := sl) htr (xs (i + 1)) hI.1.1 o1) (fun s' g' h1 E' hs' hX v => ?_)
  have hI1 := twX_LI hI hX
  obtain ⟨f2, o2⟩ := ty_162 hI1.1.1
  refine lc_aft_ok (lw_cl (R := { frames := R.frames, cells := R.cells - 1, slots := R.slots - 6, locals := R.locals }) (l := l) (e := e) (below := below) (Q := lw_Zb b (C - 1) (S - 6) below s') E' hs' hfr hlo hLn) (q := 1426) (n := 1) (km := 268) (lng := true) (pe := 1443) (by decide +kernel) hL (by omega) (by decide) o2 (wp_mono (sf_wp sfK_ok rfl (hm_row hI1.1 _ (Nat.le_of_ble_eq_true rfl) (Nat.le_of_ble_eq_true rfl))) (fun x q => ?_))
  obtain ⟨rv, h2, s2⟩ := x
  obtain ⟨⟨p1, p2, p3, p4⟩, p5⟩ := q
  dsimp only at p2 p3 p4 p5
  cases p2
  exact ⟨p1, rfl, fun L' hL' => kk s' g' h2 L' E' hs' ⟨p4, REL_fm p5 hI1.2⟩ hL'⟩
end WTN
end MH84vxx6
section MH84vxx7
/-! the law's loop -/
section LPP
variable {p : Program} {l : Launch} {e : Env} {m : MethodId} {below : List Frame} {meth : Method} {c : Code} {D : va_G} {aC : Nat → ClassId} {b sl bS Ln : Nat} {xs : Nat → Int32}
/-- the one turn that compares -/
def rsTurn (sl bS Ln : Nat) (xs : Nat → Int32) : Prop := ∀ (P : pm_St → Prop) (i : Nat) (L : pm_L) (h : pm_H), lc_Cl 198 sl bS Ln xs P → lc_L bS i L → i + 5 ≤ Ln → LI h → (∀ h2, LI h2 → P (1443, L, [], h2, 198, sl)) → P (249, L, [], h, 198, sl)
theorem lw_fin {s : State} {R : Room} {g C S : Nat} {L : pm_L} {h : pm_H} (E : lw_Env D aC b bS Ln xs p s m meth c) (hret : meth.sig.returnType = ret) (hlk : meth.locks = false) (hs0 : s.heap.size = b + 198 + g) (hfr : R.frames = 2048) (hlo : R.locals = 84000) (hLn : Ln < 2 ^ 30) : pm_V p l e R s m #[Value.ref (aC (1000 + bS))] below meth c (lw_Zb b C S below s) PT D aC b 1000 198 sl (1449, L, [], h, 198, sl) := by
  refine lc_i (lw_cl E hs0 hfr hlo hLn) rfl rfl rfl rfl ?_
  intro H locs ls hP hS hl
  dsimp only
  rw [Nat.sub_self, Nat.sub_self]
  exact lw_retb E.1.1 E.1.2.1 hret hlk (pc := 1450) (PT_ok.1 1000 1450 _ _ rfl) hS.2.2 (Nat.zero_le _) (Nat.zero_le _)
theorem lw_loop (htr : l.stackTraces = false) (hret : meth.sig.returnType = ret) (hlk : meth.locks = false) (hLn : Ln < 2 ^ 29) (hrs : rsTurn sl bS Ln xs) : ∀ (k i : Nat) (s : State) (R : Room) (g C S : Nat) (L : pm_L) (h : pm_H), Ln < i + 5 * (k + 1) → i < 2 ^ 30 → lw_Env D aC b bS Ln xs p s m meth c → s.heap.size = b + 198 + g → R.frames = 2048 → R.locals = 84000 → k ≤ R.cells → 6 * k ≤ R.slots → k ≤ C → 6 * k ≤ S → lc_L bS i L → LI h → pm_V p l e R s m #[Value.ref (aC (1000 + bS))] below meth c (lw_Zb b C S below s) PT D aC b 1000 198 sl (23, L, [], h, 198, sl) := by
  intro k
  induction k with
  | zero =>
    intro i s R g C S L h hk hi E hs0 hfr hlo h1 h2 h3 h4 hL hI
    exact lc_head (lw_cl E hs0 hfr hlo (by omega)) hL hi (by omega) (fun q => by omega) (fun _ => lw_fin E hret hlk hs0 hfr hlo (by omega))
  | succ k ih =>
    intro i s R g C S L h hk hi E hs0 hfr hlo h1 h2 h3 h4 hL hI
    have H := lw_cl (l := l) (e := e) (below := below) (Q := lw_Zb b C S below s) (sl := sl) (R := R) E hs0 hfr hlo (by omega)
    have tl : ∀ h2, LI h2 → i + 5 ≤ Ln → pm_V p l e R s m #[Value.ref (aC (1000 + bS))] below meth c (lw_Zb b C S below s) PT D aC b 1000 198 sl (1443, L, [], h2, 198, sl) := fun h2 hI2 q => lc_tail H hL (fun L' hL' => ih (i + 5) s R g C S L' h2 (by omega) (by omega) E hs0 hfr hlo (by omega) (by omega) (by omega) (by omega) hL' hI2)
    have tw : i + 5 ≤ Ln → ∀ (s' : State) (g' : Nat) (h2 : pm_H) (L' : pm_L), lw_Env D aC b bS Ln xs p s' m meth c → s'.heap.size = b + 198 + g' → LI h2 → lc_L bS i L' → pm_V p l e { frames := R.frames, locals := R.locals, cells := R.cells - 1, slots := R.slots - 6 } s' m #[Value.ref (aC (1000 + bS))] below meth c (lw_Zb b (C - 1) (S - 6) below s') PT D aC b 1000 198 sl (1443, L', [], h2, 198, sl) := fun q s' g' h2 L' E' hs' hI2 hL' => lc_tail (lw_cl (R := { frames := R.frames, locals := R.locals, cells := R.cells - 1, slots := R.slots - 6 }) E' hs' hfr hlo (by omega)) hL' (fun L2 hL2 => ih (i + 5) s' _ g' (C - 1) (S - 6) L2 h2 (by omega) (by omega) E' hs' hfr hlo (by dsimp only; omega) (by dsimp only; omega) (by omega) (by omega) hL2 hI2)
    refine lc_head H hL hi (by omega) (fun q => lc_enter H hL q (fun o ho => ?_)) (fun _ => lw_fin E hret hlk hs0 hfr hlo (by omega))
    by_cases z : 43 ≤ o
    · exact lc_default H z (by omega) (tl h hI q)
    have hz : o = 0 ∨ o = 1 ∨ o = 2 ∨ o = 3 ∨ o = 4 ∨ o = 5 ∨ o = 6 ∨ o = 7 ∨ o = 8 ∨ o = 9 ∨ o = 10 ∨ o = 11 ∨ o = 12 ∨ o = 13 ∨ o = 14 ∨ o = 15 ∨ o = 16 ∨ o = 17 ∨ o = 18 ∨ o = 19 ∨ o = 20 ∨ o = 21 ∨ o = 22 ∨ o = 23 ∨ o = 24 ∨ o = 25 ∨ o = 26 ∨ o = 27 ∨ o = 28 ∨ o = 29 ∨ o = 30 ∨ o = 31 ∨ o = 32 ∨ o = 33 ∨ o = 34 ∨ o = 35 ∨ o = 36 ∨ o = 37 ∨ o = 38 ∨ o = 39 ∨ o = 40 ∨ o = 41 ∨ o = 42 := by omega
    rcases hz with rfl | rfl | rfl | rfl | rfl | rfl | rfl | rfl | rfl | rfl | rfl | rfl | rfl | rfl | rfl | rfl | rfl | rfl | rfl | rfl | rfl | rfl | rfl | rfl | rfl | rfl | rfl | rfl | rfl | rfl | rfl | rfl | rfl | rfl | rfl | rfl | rfl | rfl | rfl | rfl | rfl | rfl | rfl
    · exact lc_switch H (by decide) rfl (rd_sign H hL q hI (fun h2 hI2 => tl h2 hI2 q))
    · exact lc_switch H (by decide) rfl (hrs _ i L h H hL q hI (fun h2 hI2 => tl h2 hI2 q))
    · exact lc_switch H (by decide) rfl (rd_courts H hL q hI (fun h2 hI2 => tl h2 hI2 q))
    · exact lc_switch H (by decide) rfl (rd_gifts H hL q hI (fun h2 hI2 => tl h2 hI2 q))
    · exact lc_switch H (by decide) rfl (rd_rule H hL q hI (fun h2 hI2 => tl h2 hI2 q))
    · exact lc_switch H (by decide) rfl (wt_court htr E hs0 hfr hlo (by omega) (by omega) (by omega) (by omega) (by omega) q hL hI (tw q))
    · exact lc_switch H (by decide) rfl (wt_between htr E hs0 hfr hlo (by omega) (by omega) (by omega) (by omega) (by omega) q hL hI (tw q))
    · exact lc_switch H (by decide) rfl (wt_gift htr E hs0 hfr hlo (by omega) (by omega) (by omega) (by omega) (by omega) q hL hI (tw q))
    · exact lc_switch H (by decide) rfl (rd_road H hL q hI (fun h2 hI2 => tl h2 hI2 q))
    · exact lc_switch H (by decide) rfl (rd_sheet H hL q hI (fun h2 hI2 => tl h2 hI2 q))
    · exact lc_switch H (by decide) rfl (rd_send H hL q hI (fun h2 hI2 => tl h2 hI2 q))
    · exact lc_switch H (by decide) rfl (rd_months H hL q hI (fun h2 hI2 => tl h2 hI2 q))
    · exact lc_switch H (by decide) rfl (rd_envoy H hL q hI (fun h2 hI2 => tl h2 hI2 q))
    · exact lc_switch H (by decide) rfl (rd_forgive H hL q hI (fun h2 hI2 => tl h2 hI2 q))
    · exact lc_switch H (by decide) rfl (rd_year H hL q hI (fun h2 hI2 => tl h2 hI2 q))
    · exact lc_switch H (by decide) rfl (rd_undo H hL q hI (fun h2 hI2 => tl h2 hI2 q))
    · exact lc_switch H (by decide) rfl (rd_value H hL q hI (fun h2 hI2 => tl h2 hI2 q))
    · exact lc_switch H (by decide) rfl (rd_where H hL q hI (fun h2 hI2 => tl h2 hI2 q))
    · exact lc_switch H (by decide) rfl (rd_answer H hL q hI (fun h2 hI2 => tl h2 hI2 q))
    · exact lc_switch H (by decide) rfl (rd_wins H hL q hI (fun h2 hI2 => tl h2 hI2 q))
    · exact lc_switch H (by decide) rfl (rd_unseen H hL q hI (fun h2 hI2 => tl h2 hI2 q))
    · exact lc_switch H (by decide) rfl (rd_swaps H hL q hI (fun h2 hI2 => tl h2 hI2 q))
    · exact lc_switch H (by decide) rfl (rd_way H hL q hI (fun h2 hI2 => tl h2 hI2 q))
    · exact lc_switch H (by decide) rfl (rd_walks H hL q hI (fun h2 hI2 => tl h2 hI2 q))
    · exact lc_switch H (by decide) rfl (rd_alive H hL q hI (fun h2 hI2 => tl h2 hI2 q))
    · exact lc_switch H (by decide) rfl (rd_feeds H hL q hI (fun h2 hI2 => tl h2 hI2 q))
    · exact lc_switch H (by decide) rfl (rd_starves H hL q hI (fun h2 hI2 => tl h2 hI2 q))
    · exact lc_switch H (by decide) rfl (rd_net H hL q hI (fun h2 hI2 => tl h2 hI2 q))
    · exact lc_switch H (by decide) rfl (rd_settle H hL q hI (fun h2 hI2 => tl h2 hI2 q))
    · exact lc_switch H (by decide) rfl (rd_ring H hL q hI (fun h2 hI2 => tl h2 hI2 q))
    · exact lc_switch H (by decide) rfl (rd_ranks H hL q hI (fun h2 hI2 => tl h2 hI2 q))
    · exact lc_switch H (by decide) rfl (rd_league H hL q hI (fun h2 hI2 => tl h2 hI2 q))
    · exact lc_switch H (by decide) rfl (rd_heard H hL q hI (fun h2 hI2 => tl h2 hI2 q))
    · exact lc_switch H (by decide) rfl (rd_forget H hL q hI (fun h2 hI2 => tl h2 hI2 q))
    · exact lc_switch H (by decide) rfl (rd_fits H hL q hI (fun h2 hI2 => tl h2 hI2 q))
    · exact lc_switch H (by decide) rfl (rd_ask H hL q hI (fun h2 hI2 => tl h2 hI2 q))
    · exact lc_switch H (by decide) rfl (rd_law H hL q hI (fun h2 hI2 => tl h2 hI2 q))
    · exact lc_switch H (by decide) rfl (rd_rests H hL q hI (fun h2 hI2 => tl h2 hI2 q))
    · exact lc_switch H (by decide) rfl (rd_years H hL q hI (fun h2 hI2 => tl h2 hI2 q))
    · exact lc_switch H (by decide) rfl (rd_keep H hL q hI (fun h2 hI2 => tl h2 hI2 q))
    · exact lc_switch H (by decide) rfl (rd_again H hL q hI (fun h2 hI2 => tl h2 hI2 q))
    · exact lc_switch H (by decide) rfl (rd_count H hL q hI (fun h2 hI2 => tl h2 hI2 q))
    · exact lc_switch H (by decide) rfl (wt_row htr E hs0 hfr hlo (by omega) (by omega) (by omega) (by omega) (by omega) q hL hI (tw q))
end LPP
end MH84vxx7
