section
/-! ===== BEGIN words of one list among another's, by their places ===== -/
theorem goodIn_r {big : List Cond} (ws : List Cond) (ps : List Nat) (hp : ws = ps.filterMap (fun i => big[i]?)) (h : ws.all goodWord = true) : GoodIn big ws := by
  intro w hw
  have h1 := List.all_eq_true.mp h w hw
  rw [hp] at hw
  obtain ⟨i, -, hi⟩ := List.mem_filterMap.mp hw
  have hm : w ∈ big := by first | exact List.mem_of_getElem? hi | exact List.getElem?_mem hi
  exact ⟨hm, good_of_word h1⟩
theorem goodIn_app {big a b : List Cond} (ha : GoodIn big a) (hb : GoodIn big b) : GoodIn big (a ++ b) := fun w h => (List.mem_append.mp h).elim (ha w) (hb w)
theorem goodIn_ca {big a b : List Cond} {c : Cond} (ha : GoodIn big (c :: a)) (hb : GoodIn big b) : GoodIn big (c :: (a ++ b)) := fun w h => (List.mem_cons.mp h).elim (fun e => ha w (List.mem_cons.mpr (Or.inl e))) (fun h => (List.mem_append.mp h).elim (fun h => ha w (List.mem_cons.mpr (Or.inr h))) (hb w))
theorem goodIn_sub {big ws : List Cond} (hm : ∀ w ∈ ws, w ∈ big) (h : ws.all goodWord = true) : GoodIn big ws := fun w hw => ⟨hm w hw, good_of_word (List.all_eq_true.mp h w hw)⟩
/-! ===== END ===== -/
/-! ===== BEGIN exceptions that leave a method, and their catching by the caller (launches without stack traces) ===== -/
section VXA
/-! The laws vx_back, vx_callV, vx_callS, vx_callSW, vx_throw0, vx_throwS follow proofs of the library, with one case more: JvmDerived/Free/Laws.lean (Back.of_free), Shelf42/LK1.lean (callV, callS), Shelf/KitTraced.lean (throwNew0V, throwNewS). -/
/-- where a method has thrown q: the class by its name, the cell, what was written, the world -/
def vx_T (XC : String → State → State → Prop) (st : State) (q : Addr) (t : State) (mc ms : Nat) (free : Addr → Prop) : Prop :=
  ∃ (E : String) (ce : Cell) (L : List Loc), XC E st t ∧ t.heap[q]? = some ce ∧ ce.vm = .none ∧ st.vm.findClass E = some ce.cls ∧ st.WarmedH t.vm ∧ st.sameButNew ({ t with vm := st.vm } : State) L mc ms ∧ ∀ z ∈ L, free z.base
def vx_Q (Qc : Array Value → State → Outcome → State → Prop) (XC : String → State → State → Prop) (mc ms : Nat) (free : Addr → Prop) : Array Value → State → Outcome → State → Prop := fun a st o t =>
  (Qc a st o t ∧ ∃ L, FrameEnd st o t L mc ms ∧ ∀ q ∈ L, free q.base) ∨ ∃ q, o = .threw q ∧ vx_T XC st q t mc ms free
/-- a callee that returns or throws -/
def vx_Met (l : Launch) (y : MethodName) (ws : List Cond) (rm : Room) (Pc : Array Value → State → Prop) (Qc : Array Value → State → Outcome → State → Prop) (XC : String → State → State → Prop) (mc ms : Nat) (free : Addr → Prop) : Prop :=
  MetFree l y (headSpec ws rm) Pc (fun _ _ _ _ _ => True) (vx_Q Qc XC mc ms free)
def vx_Post (XC : String → State → State → Prop) (mc ms : Nat) (free : Addr → Prop) : Pt → Array Value → Addr → Pt → Prop := fun A a q B =>
  ∃ (g : JFrame) (mk : MethodId) (t : State) (L : List Loc) (E : String) (ce : Cell), B.U.heap = t.heap ∧ B.U.vm = t.vm ∧ XC E (A.U.calling g mk a) t ∧ t.heap[q]? = some ce ∧ ce.vm = .none ∧ A.U.vm.findClass E = some ce.cls ∧ B.locs = A.locs ++ L ∧ (∀ z ∈ L, free z.base) ∧ B.cells = A.cells + mc ∧ B.slots = A.slots + ms
def vx_Back (l : Launch) (R : Room) (p : Program) (e : Env) (below : List Frame) (s : State) (sargs : Array Value) (y : MethodName) (len W9 : Nat)
    (Pre : Pt → Array Value → Prop) (Post : Pt → Array Value → Option Value → Pt → Prop) (PostX : Pt → Array Value → Addr → Pt → Prop) : Prop :=
  ∀ (m : MethodId) (meth : Method) (c : Code) (A : Pt) (g : JFrame) (ig : Instr) (mk : MethodId) (a : Array Value),
    Stand p l e R s m sargs below meth c A.U A.locs A.cells A.slots → g.method = m → g.locals.size = c.maxLocals → decode c.code g.pc = .ok (ig, len) →
    2 * g.monitorRoom + (g.stack.map fun v => v.category).sum ≤ W9 → A.U.methodNamed? y = some mk → Pre A a →
    (∃ (v : Option Value) (B : Pt), Stand p l e R s m sargs below meth c B.U B.locs B.cells B.slots ∧ Post A a v B ∧
      Steps p.tables e below (doInvoke e (A.U.setTop g) [] mk a).1 (B.U.setTop { g with pc := g.pc + len, stack := v.toList ++ g.stack })) ∨
    (∃ (q : Addr) (B : Pt), Stand p l e R s m sargs below meth c B.U B.locs B.cells B.slots ∧ PostX A a q B ∧
      Steps p.tables e below (doInvoke e (A.U.setTop g) [] mk a).1 ((B.U.setTop g).pushFrame (.throwing q)))
section Payer
variable {l : Launch} {R : Room} {p : Program} {e : Env} {below : List Frame} {s : State} {sargs : Array Value} {y : MethodName} {len W9 : Nat}
theorem vx_back {ws : List Cond} {rm : Room} {Pc : Array Value → State → Prop} {Qc : Array Value → State → Outcome → State → Prop} {XC : String → State → State → Prop} {mc ms : Nat} {free : Addr → Prop} {bytes : ByteArray} {maxL : Nat} {ret : Option FieldType}
    (hM : vx_Met l y ws rm Pc Qc XC mc ms free) (hblind : FrameBlind Pc) (hrc : rm.cells = mc) (hrs : rm.slots = ms)
    (hframes : rm.frames + 1 ≤ R.frames) (hlocals : W9 + (maxL + 11) + rm.locals ≤ R.locals)
    (hws : ∀ w ∈ ws, ∀ a' U, s.WarmedH U.vm → w.before a' U = true) (hcode : Cond.code y bytes maxL ret ∈ ws) (hinit : ∀ a' U, s.WarmedH U.vm → (Cond.initialized y.cls).before a' U = true) :
    vx_Back l R p e below s sargs y len W9 (PreOf R mc ms Pc) (PostOf Qc mc ms free) (vx_Post XC mc ms free) := by
  intro m meth c A g ig mk a X hg hsize hdg hW hn hp
  have h1 : (headSpec ws rm).pre.before a A.U = true := atoms_intro fun w hw => hws w hw _ _ X.warmed
  have h2 : (Cond.code y bytes maxL ret).before a A.U = true := hws _ hcode _ _ X.warmed
  have h3 : (Cond.initialized y.cls).before a A.U = true := hinit _ _ X.warmed
  have h4 : A.cells + (headSpec ws rm).room.cells ≤ R.cells := by rw [show (headSpec ws rm).room.cells = mc from hrc]; exact hp.1
  have h5 : A.slots + (headSpec ws rm).room.slots ≤ R.slots := by rw [show (headSpec ws rm).room.slots = ms from hrs]; exact hp.2.1
  have hPc : Pc a (A.U.calling g mk a) := hblind _ _ _ _ hp.2.2
  obtain ⟨U, Ls, c0, s0⟩ := A
  dsimp only [Pt.U, Pt.locs, Pt.cells, Pt.slots] at h1 h2 h3 h4 h5 X hn hPc ⊢
  obtain ⟨methY, cY, hmY, hcY, -, hlY, -, -, -, -⟩ := Cond.code_spec hn h2
  obtain ⟨kY, hkY, -⟩ := className_of_methodNamed hn
  have hinitY : kY.init = .initialized := Cond.initialized_spec (findClass_of_methodNamed hn) hkY h3
  have h : At U g.method c below := by rw [hg]; exact X.here
  have hlocals9 : W9 + (maxL + 11) + (headSpec ws rm).room.locals ≤ R.locals := hlocals
  have happ : (headSpec ws rm).appliesLoose y e.platform (U.calling g mk a) = true :=
    Spec.appliesLoose_calling (g := g) h hdg hn hkY hinitY
      (X.room_calling (g := g) (R' := (headSpec ws rm).room) hsize hmY hcY hframes (by rw [hlY]; omega) h4 h5) h1
  obtain ⟨mid, hmid⟩ := h.above
  have hfr : (U.setTop g).frames = (.java g :: mid) ++ below := by rw [State.frames_setTop' g h.top, hmid]; rfl
  obtain ⟨o, s₂, hsteps, -, hend, hq⟩ := Steps.callFree hM p X.admits X.cas X.clock (acts := []) hfr happ hPc trivial
  have hq' : vx_Q Qc XC mc ms free a (U.calling g mk a) o s₂ := hq
  rw [State.frames_setTop' g h.top] at hend
  obtain ⟨g₀, hg0⟩ := Option.isSome_iff_exists.mp h.top
  obtain ⟨r, hr⟩ := State.topJava?_eq_some.mp hg0
  have hr' : (({ U with heap := s₂.heap, slotsUsed := s₂.slotsUsed } : State).setVm s₂.vm).frames = .java g₀ :: r := hr
  rcases hq' with ⟨hqc, L, hfe, hL⟩ | ⟨q, rfl, E, ce, L, hx, hce, hcv, hcl, hW₂, hsm, hL⟩
  · obtain ⟨⟨v, rfl⟩, hW₂, e2, q2, q3, q4, q5, q6⟩ := id hfe
    have e3 : s₂ = ({ (U.calling g mk a).setFrames s₂.frames with heap := s₂.heap, slotsUsed := s₂.slotsUsed } : State).setVm s₂.vm := by
      have : s₂ = ({ s₂ with vm := (U.calling g mk a).vm } : State).setVm s₂.vm := rfl
      rw [e2] at this
      exact this
    obtain ⟨c₂, i₂, len₂, hc₂, hd₂, hf₂⟩ := hend
    have hW' : U.WarmedH s₂.vm := hW₂
    have hcc : c₂ = c := by
      have h1 : s₂.code? g.method = U.code? g.method := by
        rw [State.code?_eq, State.code?_eq, hW'.alike.method?]
      exact Option.some.inj (hc₂.symm.trans (h1.trans h.code))
    subst hcc
    have hlen : len₂ = len := by rw [hdg] at hd₂; cases hd₂; rfl
    subst hlen
    have hs₂ : s₂ = (({ U with heap := s₂.heap, slotsUsed := s₂.slotsUsed } : State).setVm s₂.vm).setTop { g with pc := g.pc + len₂, stack := v.toList ++ g.stack } := by
      refine e3.trans ?_
      rw [hf₂, State.calling_eq h.top, State.setFrames_setFrames, State.setTop_of_frames _ hr', hr]
      rfl
    have hsame : U.sameButNew ({ U with heap := s₂.heap, slotsUsed := s₂.slotsUsed } : State) L mc ms := by
      refine ⟨?_, q2, q3, q4, q5, q6⟩
      obtain ⟨t, ht, -⟩ := State.frames_cons hr
      show ({ U with heap := s₂.heap, slotsUsed := s₂.slotsUsed } : State) = { U.setFrames U.frames with heap := s₂.heap, slotsUsed := s₂.slotsUsed }
      rw [State.setFrames_self ht]
    subst hg
    refine Or.inl ⟨v, ⟨(({ U with heap := s₂.heap, slotsUsed := s₂.slotsUsed } : State).setVm s₂.vm), Ls ++ L, c0 + mc, s0 + ms⟩,
      ⟨X.admits, X.cas, X.clock, X.frames, X.room, X.hears, X.method, X.code, (X.here.setHeapUsed s₂.heap s₂.slotsUsed).setVm hW'.alike, X.tail, State.WarmedH.trans X.warmed hW', X.limits, X.bytes, X.same.trans (hsame.setVm s.vm)⟩,
      ⟨g, mk, s₂, L, rfl, rfl, hqc, rfl, hL, rfl, rfl⟩, ?_⟩
    show Steps p.tables e below _ ((({ U with heap := s₂.heap, slotsUsed := s₂.slotsUsed } : State).setVm s₂.vm).setTop { g with pc := g.pc + len₂, stack := v.toList ++ g.stack })
    rw [← hs₂]
    exact hsteps
  · obtain ⟨e2, q2, q3, q4, q5, q6⟩ := id hsm
    have e3 : s₂ = ({ (U.calling g mk a).setFrames s₂.frames with heap := s₂.heap, slotsUsed := s₂.slotsUsed } : State).setVm s₂.vm := by
      have : s₂ = ({ s₂ with vm := (U.calling g mk a).vm } : State).setVm s₂.vm := rfl
      rw [e2] at this
      exact this
    have hf₂ : s₂.frames = .throwing q :: .java g :: U.frames.tail := hend
    have hW' : U.WarmedH s₂.vm := hW₂
    have hs₂ : s₂ = ((({ U with heap := s₂.heap, slotsUsed := s₂.slotsUsed } : State).setVm s₂.vm).setTop g).pushFrame (.throwing q) := by
      refine e3.trans ?_
      rw [hf₂, State.calling_eq h.top, State.setFrames_setFrames, State.pushFrame, State.frames_setTop _ hr', State.setTop_of_frames _ hr', State.setFrames_setFrames, hr]
      rfl
    have hsame : U.sameButNew ({ U with heap := s₂.heap, slotsUsed := s₂.slotsUsed } : State) L mc ms := by
      refine ⟨?_, q2, q3, q4, q5, q6⟩
      obtain ⟨t, ht, -⟩ := State.frames_cons hr
      show ({ U with heap := s₂.heap, slotsUsed := s₂.slotsUsed } : State) = { U.setFrames U.frames with heap := s₂.heap, slotsUsed := s₂.slotsUsed }
      rw [State.setFrames_self ht]
    subst hg
    refine Or.inr ⟨q, ⟨(({ U with heap := s₂.heap, slotsUsed := s₂.slotsUsed } : State).setVm s₂.vm), Ls ++ L, c0 + mc, s0 + ms⟩,
      ⟨X.admits, X.cas, X.clock, X.frames, X.room, X.hears, X.method, X.code, (X.here.setHeapUsed s₂.heap s₂.slotsUsed).setVm hW'.alike, X.tail, State.WarmedH.trans X.warmed hW', X.limits, X.bytes, X.same.trans (hsame.setVm s.vm)⟩,
      ⟨g, mk, s₂, L, E, ce, rfl, rfl, hx, hce, hcv, hcl, rfl, hL, rfl, rfl⟩, ?_⟩
    show Steps p.tables e below _ (((({ U with heap := s₂.heap, slotsUsed := s₂.slotsUsed } : State).setVm s₂.vm).setTop g).pushFrame (.throwing q))
    rw [← hs₂]
    exact hsteps
end Payer
section Calls
variable {p : Program} {l : Launch} {e : Env} {R : Room} {s : State} {m : MethodId} {args : Array Value} {below : List Frame} {meth : Method} {c : Code} {T : State} {locs : List Loc} {cells slots : Nat}
theorem vx_callV (X : Stand p l e R s m args below meth c T locs cells slots) (hexec : p.tables.exec = Jvm.exec) {own C : String} {index : Nat} {y : MethodName} {bytes : ByteArray} {maxL : Nat} {ret : Option FieldType}
    (hown : s.vm.findClass own = some m.cls) (hlink : (Cond.methodLink own index y).before args s = true) (hinst : (Cond.instanceMethod y).before args s = true) (hsel : (Cond.selects C y y).before args s = true)
    (hcode : (Cond.code y bytes maxL ret).before args s = true) (hy : y.cls ≠ "java/lang/invoke/MethodHandle" ∧ y.cls ≠ "java/lang/invoke/VarHandle")
    {W9 : Nat} {Pre : Pt → Array Value → Prop} {Post : Pt → Array Value → Option Value → Pt → Prop} {PostX : Pt → Array Value → Addr → Pt → Prop} (hK : vx_Back l R p e below s args y 3 W9 Pre Post PostX)
    {b : Addr} {cellB : Cell} (hcell : T.heap[b]? = some cellB) (hobj : cellB.vm.isStatics = false) (hcls : s.vm.findClass C = some cellB.cls)
    {g : JFrame} (hg : g.method = m) (hsize : g.locals.size = c.maxLocals) {argsL rest : List Value} (hlen : ∀ sig, parseMethodDescriptor y.desc = some sig → argsL.length = sig.parameters.length)
    (hstack : g.stack = argsL.reverse ++ .ref b :: rest) (hW : 2 * g.monitorRoom + (rest.map fun v => v.category).sum ≤ W9) (hdg : decode c.code g.pc = .ok (.invokevirtual index, 3))
    (hpre : ∀ vm₁, s.WarmedH vm₁ → Pre ⟨T.setVm vm₁, locs, cells, slots⟩ (Value.ref b :: argsL).toArray) :
    (∃ (v : Option Value) (vm₁ : Vm) (B : Pt), s.WarmedH vm₁ ∧ Stand p l e R s m args below meth c B.U B.locs B.cells B.slots ∧ Post ⟨T.setVm vm₁, locs, cells, slots⟩ (Value.ref b :: argsL).toArray v B ∧
      ∀ target, Steps p.tables e below (B.U.setTop { g with pc := g.pc + 3, stack := v.toList ++ rest }) target → Steps p.tables e below (T.setTop g) target) ∨
    (∃ (q : Addr) (vm₁ : Vm) (B : Pt), s.WarmedH vm₁ ∧ Stand p l e R s m args below meth c B.U B.locs B.cells B.slots ∧ PostX ⟨T.setVm vm₁, locs, cells, slots⟩ (Value.ref b :: argsL).toArray q B ∧
      Steps p.tables e below (T.setTop g) ((B.U.setTop { g with stack := rest }).pushFrame (.throwing q))) := by
  obtain ⟨mk, methM, hnamed, hmethM, hstM, habM⟩ := Cond.instanceMethod_spec hinst
  obtain ⟨methM', cM, hmethM', -, -, -, -, -, -, hsigM⟩ := Cond.code_spec hnamed hcode
  cases hmethM.symm.trans hmethM'
  obtain ⟨c2, r2, m2, q1, q2, q3, q4, kP, hkP, hkPi⟩ := Cond.selects_spec hsel
  cases hcls.symm.trans q1
  cases (State.methodFound?_of_named hnamed hy).symm.trans q2
  cases hnamed.symm.trans q3
  have hselP : selectMethod e.platform s.vm cellB.cls mk = .method mk := by rw [Launch.admits_selectMethod X.admits]; exact q4
  obtain ⟨vm₁, X₁, hstep₁⟩ := X.invokevirtual hexec hown hlink hnamed hmethM hstM hkP hkPi hy (a := b) (cell := cellB) hcell
    (fun z h => by rw [h] at hobj; cases hobj) hselP hmethM habM hkP hkPi (g := g) hg (argsL := argsL) (rest := rest) (hlen _ hsigM) hstack hdg
  rcases hK m meth c ⟨T.setVm vm₁, locs, cells, slots⟩ { g with stack := rest } (.invokevirtual index) mk (Value.ref b :: argsL).toArray X₁ hg hsize hdg hW (X₁.named hnamed) (hpre vm₁ X₁.warmed) with ⟨v, B, X', hpost, hsteps⟩ | ⟨q, B, X', hpost, hsteps⟩
  · exact Or.inl ⟨v, vm₁, B, X₁.warmed, X', hpost, fun target h => hstep₁ _ fun acts => by rw [doInvoke_state]; exact hsteps.trans h⟩
  · exact Or.inr ⟨q, vm₁, B, X₁.warmed, X', hpost, hstep₁ _ fun acts => by rw [doInvoke_state]; exact hsteps⟩
theorem vx_callS (X : Stand p l e R s m args below meth c T locs cells slots) (hexec : p.tables.exec = Jvm.exec) {own : String} {index : Nat} {y : MethodName} {bytes : ByteArray} {maxL : Nat} {ret : Option FieldType}
    (hown : s.vm.findClass own = some m.cls) (hlink : (Cond.methodLink own index y).before args s = true) (hstat : (Cond.static y).before args s = true) (hinit : (Cond.initialized y.cls).before args s = true)
    (hcode : (Cond.code y bytes maxL ret).before args s = true) (hy : y.cls ≠ "java/lang/invoke/MethodHandle" ∧ y.cls ≠ "java/lang/invoke/VarHandle")
    {W9 : Nat} {Pre : Pt → Array Value → Prop} {Post : Pt → Array Value → Option Value → Pt → Prop} {PostX : Pt → Array Value → Addr → Pt → Prop} (hK : vx_Back l R p e below s args y 3 W9 Pre Post PostX)
    {g : JFrame} (hg : g.method = m) (hsize : g.locals.size = c.maxLocals) {argsL rest : List Value} (hlen : ∀ sig, parseMethodDescriptor y.desc = some sig → argsL.length = sig.parameters.length)
    (hstack : g.stack = argsL.reverse ++ rest) (hW : 2 * g.monitorRoom + (rest.map fun v => v.category).sum ≤ W9) (hdg : decode c.code g.pc = .ok (.invokestatic index, 3))
    (hpre : ∀ vm₁, s.WarmedH vm₁ → Pre ⟨T.setVm vm₁, locs, cells, slots⟩ argsL.toArray) :
    (∃ (v : Option Value) (vm₁ : Vm) (B : Pt), s.WarmedH vm₁ ∧ Stand p l e R s m args below meth c B.U B.locs B.cells B.slots ∧ Post ⟨T.setVm vm₁, locs, cells, slots⟩ argsL.toArray v B ∧
      ∀ target, Steps p.tables e below (B.U.setTop { g with pc := g.pc + 3, stack := v.toList ++ rest }) target → Steps p.tables e below (T.setTop g) target) ∨
    (∃ (q : Addr) (vm₁ : Vm) (B : Pt), s.WarmedH vm₁ ∧ Stand p l e R s m args below meth c B.U B.locs B.cells B.slots ∧ PostX ⟨T.setVm vm₁, locs, cells, slots⟩ argsL.toArray q B ∧
      Steps p.tables e below (T.setTop g) ((B.U.setTop { g with stack := rest }).pushFrame (.throwing q))) := by
  obtain ⟨mk, hnamed⟩ := Cond.code_named hcode
  obtain ⟨methM, cM, hmethM, -, -, -, -, -, -, hsigM⟩ := Cond.code_spec hnamed hcode
  have hstatic : methM.isStatic = true := Cond.static_spec hnamed hmethM hstat
  obtain ⟨kP, hkP, -⟩ := className_of_methodNamed hnamed
  have hinitP : kP.init = .initialized := Cond.initialized_spec (findClass_of_methodNamed hnamed) hkP hinit
  obtain ⟨vm₁, X₁, hstep₁⟩ := X.invokestatic hexec hown hlink hnamed hmethM hstatic hkP hinitP hy (g := g) hg (argsL := argsL) (rest := rest) (hlen _ hsigM) hstack hdg
  rcases hK m meth c ⟨T.setVm vm₁, locs, cells, slots⟩ { g with stack := rest } (.invokestatic index) mk argsL.toArray X₁ hg hsize hdg hW (X₁.named hnamed) (hpre vm₁ X₁.warmed) with ⟨v, B, X', hpost, hsteps⟩ | ⟨q, B, X', hpost, hsteps⟩
  · exact Or.inl ⟨v, vm₁, B, X₁.warmed, X', hpost, fun target h => hstep₁ _ fun acts => by rw [doInvoke_state]; exact hsteps.trans h⟩
  · exact Or.inr ⟨q, vm₁, B, X₁.warmed, X', hpost, hstep₁ _ fun acts => by rw [doInvoke_state]; exact hsteps⟩
end Calls
theorem vx_cls {s : State} {T : State} {vm₁ : Vm} {E : String} {k : ClassId} (hW : s.WarmedH vm₁) (h : (T.setVm vm₁).vm.findClass E = some k) : s.vm.findClass E = some k := by
  have h1 : vm₁.findClass E = some k := h
  rw [hW.alike.findClass] at h1
  exact h1
/-- the method's frame g, with q thrown over it -/
def vx_W (p : Program) (l : Launch) (e : Env) (R : Room) (s : State) (m : MethodId) (args : Array Value) (below : List Frame) (meth : Method) (c : Code) (H : Heap) (locs : List Loc) (cells slots : Nat) (Q : State → Prop) (g : JFrame) (q : Addr) : Prop :=
  ∀ T : State, T.heap = H → Stand p l e R s m args below meth c T locs cells slots → ∃ t, Steps p.tables e below ((T.setTop g).pushFrame (.throwing q)) t ∧ Q t
def vx_Run (p : Program) (l : Launch) (e : Env) (R : Room) (s : State) (m : MethodId) (args : Array Value) (below : List Frame) (meth : Method) (c : Code) (H : Heap) (locs : List Loc) (cells slots mc ms : Nat) (g : JFrame) (rest : List Value) (Qa : State → Outcome → State → Prop) (XC : String → State → State → Prop) (free : Addr → Prop) : Prop :=
  ∀ T : State, T.heap = H → Stand p l e R s m args below meth c T locs cells slots →
    (∃ (v : Option Value) (st₀ t T' : State) (L : List Loc), st₀.heap = H ∧ Stand p l e R s m args below meth c T' (locs ++ L) (cells + mc) (slots + ms) ∧ (∀ q ∈ L, free q.base) ∧ T'.heap = t.heap ∧ T'.vm = t.vm ∧ Qa st₀ (.returned v) t ∧
      Goes p e below T g T' { g with pc := g.pc + 3, stack := v.toList ++ rest }) ∨
    (∃ (q : Addr) (st₀ t T' : State) (L : List Loc) (E : String) (ce : Cell), st₀.heap = H ∧ Stand p l e R s m args below meth c T' (locs ++ L) (cells + mc) (slots + ms) ∧ (∀ z ∈ L, free z.base) ∧ T'.heap = t.heap ∧ T'.vm = t.vm ∧ XC E st₀ t ∧ t.heap[q]? = some ce ∧ ce.vm = .none ∧ s.vm.findClass E = some ce.cls ∧
      Steps p.tables e below (T.setTop g) ((T'.setTop { g with stack := rest }).pushFrame (.throwing q)))
def vx_X {S : Type} (px : S → Prop) (B : String → S → State → Prop) (A : Nat → Prop) : String → State → State → Prop := fun E st t => ∃ u : S, px u ∧ B E u t ∧ va_F A st t
section Runs
variable {p : Program} {l : Launch} {e : Env} {R : Room} {s : State} {m : MethodId} {args : Array Value} {below : List Frame} {meth : Method} {c : Code} {H : Heap} {locs : List Loc} {cells slots : Nat}
variable {y : MethodName} {bytes cc : ByteArray} {maxL nL mc ms n index : Nat} {ret : Option FieldType} {ws : List Cond} {rm : Room} {Pc : Array Value → State → Prop} {Qc : Array Value → State → Outcome → State → Prop} {XC : String → State → State → Prop} {free : Addr → Prop} {Ts : List Cond} {own C : String} {b : Addr} {As rest : List Value} {g : JFrame}
theorem vx_callBack (cb : CallB R s args own index y bytes maxL ret ws rm mc ms n) (hM : vx_Met l y ws rm Pc Qc XC mc ms free) (hbl : FrameBlind Pc) : vx_Back l R p e below s args y 3 8 (PreOf R mc ms Pc) (PostOf Qc mc ms free) (vx_Post XC mc ms free) := by
  obtain ⟨hrc, hrs, hfr, hlo, hws, hcw, -, hini, -⟩ := cb
  exact vx_back (bytes := bytes) (maxL := maxL) (ret := ret) hM hbl hrc hrs hfr hlo hws hcw (fun a' U hW => word_at hW (Or.inl (by first | rfl | simp [Cond.onTables, Cond.keeps, Cond.steady])) hini)
theorem vx_runV (S : CallFix p m c cc nL s args Ts own) (hM : vx_Met l y ws rm Pc Qc XC mc ms free) (cw : CallW R s args own C index y bytes maxL ret ws rm mc ms n) (hp : PreV s H C b Pc As)
    (hg : g.method = m) (hn : As.length = n) (hsize : g.locals.size = nL) (hstack : g.stack = As.reverse ++ .ref b :: rest) (hW : 2 * g.monitorRoom + (rest.map fun v => v.category).sum ≤ 8) (hdg : decode cc g.pc = .ok (.invokevirtual index, 3)) (hf : cells + mc ≤ R.cells ∧ slots + ms ≤ R.slots) :
    vx_Run p l e R s m args below meth c H locs cells slots mc ms g rest (Qc (Value.ref b :: As).toArray) XC free := by
  have hK : vx_Back l R p e below s args y 3 8 (PreOf R mc ms Pc) (PostOf Qc mc ms free) (vx_Post XC mc ms free) := vx_callBack cw.1 hM hp.1
  obtain ⟨⟨-, -, -, -, -, -, hcode, -, hy, hlen, hl⟩, hin, hse⟩ := cw
  obtain ⟨hx, hb, hml, ho, -⟩ := S
  obtain ⟨-, ⟨cellB, hcB, hoB, hclB⟩, hPc⟩ := hp
  intro T hT X
  rcases vx_callV X hx (C := C) (bytes := bytes) (maxL := maxL) (ret := ret) ho hl hin hse hcode hy hK (by rw [hT]; exact hcB) hoB hclB hg (hsize.trans hml.symm) (argsL := As) (rest := rest) (fun sig h => hn.trans (hlen sig h)) hstack hW (by rw [hb]; exact hdg)
    (fun vm₁ hW₁ => ⟨hf.1, hf.2, hPc (T.setVm vm₁) hT hW₁⟩) with ⟨v, vm₁, ⟨U', l2, c2, s2⟩, hW₁, X', ⟨g', mk, t, L, e1, e2, hq, h1, hL, h2, h3⟩, st⟩ | ⟨q, vm₁, ⟨U', l2, c2, s2⟩, hW₁, X', ⟨g', mk, t, L, E, ce, e1, e2, hq, hce, hcv, hcl, h1, hL, h2, h3⟩, st⟩
  · dsimp only [Pt.U, Pt.locs, Pt.cells, Pt.slots] at X' e1 e2 h1 h2 h3 st
    subst h1; subst h2; subst h3
    exact Or.inl ⟨v, (T.setVm vm₁).calling g' mk (Value.ref b :: As).toArray, t, U', L, hT, X', hL, e1, e2, hq, st⟩
  · dsimp only [Pt.U, Pt.locs, Pt.cells, Pt.slots] at X' e1 e2 h1 h2 h3 st hcl
    subst h1; subst h2; subst h3
    exact Or.inr ⟨q, (T.setVm vm₁).calling g' mk (Value.ref b :: As).toArray, t, U', L, E, ce, hT, X', hL, e1, e2, hq, hce, hcv, vx_cls hW₁ hcl, st⟩
theorem vx_runS (S : CallFix p m c cc nL s args Ts own) (hM : vx_Met l y ws rm Pc Qc XC mc ms free) (cw : CallB R s args own index y bytes maxL ret ws rm mc ms n ∧ (Cond.static y).before args s = true) (hp : PreS s H Pc As)
    (hg : g.method = m) (hn : As.length = n) (hsize : g.locals.size = nL) (hstack : g.stack = As.reverse ++ rest) (hW : 2 * g.monitorRoom + (rest.map fun v => v.category).sum ≤ 8) (hdg : decode cc g.pc = .ok (.invokestatic index, 3)) (hf : cells + mc ≤ R.cells ∧ slots + ms ≤ R.slots) :
    vx_Run p l e R s m args below meth c H locs cells slots mc ms g rest (Qc As.toArray) XC free := by
  have hK : vx_Back l R p e below s args y 3 8 (PreOf R mc ms Pc) (PostOf Qc mc ms free) (vx_Post XC mc ms free) := vx_callBack cw.1 hM hp.1
  obtain ⟨⟨-, -, -, -, -, -, hcode, hini, hy, hlen, hl⟩, hstt⟩ := cw
  obtain ⟨hx, hb, hml, ho, -⟩ := S
  intro T hT X
  rcases vx_callS X hx (bytes := bytes) (maxL := maxL) (ret := ret) ho hl hstt hini hcode hy hK hg (hsize.trans hml.symm) (argsL := As) (rest := rest) (fun sig h => hn.trans (hlen sig h)) hstack hW (by rw [hb]; exact hdg)
    (fun vm₁ hW₁ => ⟨hf.1, hf.2, hp.2 (T.setVm vm₁) hT hW₁⟩) with ⟨v, vm₁, ⟨U', l2, c2, s2⟩, hW₁, X', ⟨g', mk, t, L, e1, e2, hq, h1, hL, h2, h3⟩, st⟩ | ⟨q, vm₁, ⟨U', l2, c2, s2⟩, hW₁, X', ⟨g', mk, t, L, E, ce, e1, e2, hq, hce, hcv, hcl, h1, hL, h2, h3⟩, st⟩
  · dsimp only [Pt.U, Pt.locs, Pt.cells, Pt.slots] at X' e1 e2 h1 h2 h3 st
    subst h1; subst h2; subst h3
    exact Or.inl ⟨v, (T.setVm vm₁).calling g' mk As.toArray, t, U', L, hT, X', hL, e1, e2, hq, st⟩
  · dsimp only [Pt.U, Pt.locs, Pt.cells, Pt.slots] at X' e1 e2 h1 h2 h3 st hcl
    subst h1; subst h2; subst h3
    exact Or.inr ⟨q, (T.setVm vm₁).calling g' mk As.toArray, t, U', L, E, ce, hT, X', hL, e1, e2, hq, hce, hcv, vx_cls hW₁ hcl, st⟩
end Runs
section Rows
variable {p : Program} {l : Launch} {e : Env} {R : Room} {s : State} {m : MethodId} {args : Array Value} {below : List Frame} {meth : Method} {c : Code} {H : Heap} {locs : List Loc} {cells slots : Nat} {Q : State → Prop}
variable {mc ms : Nat} {free : Addr → Prop} {A0 A1 : Nat → Prop} {H0 : Heap} {a : Array Value} {pc : Nat} {ls : Array Slot} {st0 rest : List Value}
theorem vx_keep {st₀ t T' : State} {L : List Loc} (h0 : st₀.heap = H) (e1 : T'.heap = t.heap) (hS : va_S A0 H0 H locs) (hA : ∀ q, q < H.size → A1 q → A0 q) (hf : ∀ q, free q → A0 q) (hL : ∀ q ∈ L, free q.base) (hF : va_F A1 st₀ t) :
    H.size ≤ T'.heap.size ∧ (∀ q : Nat, q < H.size → ¬ A1 q → T'.heap[q]? = H[q]?) ∧ va_S A0 H0 T'.heap (locs ++ L) := by
  obtain ⟨hz, hk⟩ := hF
  rw [h0] at hz hk
  exact ⟨by rw [e1]; exact hz, fun q h1 h2 => by rw [e1]; exact hk q h1 h2,
    ⟨Nat.le_trans hS.1 (by rw [e1]; exact hz), fun q h1 h2 => by rw [e1, hk q (Nat.lt_of_lt_of_le h1 hS.1) (fun z => h2 (hA q (Nat.lt_of_lt_of_le h1 hS.1) z))]; exact hS.2.1 q h1 h2, fun q hq => by
      rcases List.mem_append.mp hq with h | h
      · exact hS.2.2 q h
      · exact hf _ (hL q h)⟩⟩
theorem vx_calli {S SX : Type} {post : Int32 → S → Prop} {px : SX → Prop} {B : S → State → Prop} {BX : String → SX → State → Prop} {AX : Nat → Prop} (hr : vx_Run p l e R s m args below meth c H locs cells slots mc ms (F0 m pc ls st0) rest (va_Qi post B A1 a) (vx_X px BX AX) free) (hS : va_S A0 H0 H locs) (hA : ∀ q, q < H.size → A1 q → A0 q) (hf : ∀ q, free q → A0 q) (hAX : ∀ q, q < H.size → AX q → A0 q)
    (kx : ∀ (E : String) (ce : Cell) (q9 : Addr) (u : SX) (t : State) (H1 : Heap) (locs1 : List Loc), t.heap = H1 → s.vm.Alike t.vm → px u → BX E u t → H.size ≤ H1.size → (∀ q : Nat, q < H.size → ¬ AX q → H1[q]? = H[q]?) → va_S A0 H0 H1 locs1 → H1[q9]? = some ce → ce.vm = .none → s.vm.findClass E = some ce.cls → vx_W p l e R s m args below meth c H1 locs1 (cells + mc) (slots + ms) Q (F0 m pc ls rest) q9)
    (kk : ∀ (r : Int32) (u : S) (t : State) (H1 : Heap) (locs1 : List Loc), t.heap = H1 → s.vm.Alike t.vm → post r u → B u t → H.size ≤ H1.size → (∀ q : Nat, q < H.size → ¬ A1 q → H1[q]? = H[q]?) → va_S A0 H0 H1 locs1 → W p l e R s m args below meth c H1 locs1 (cells + mc) (slots + ms) Q (F0 m (pc + 3) ls (.int r :: rest))) : W p l e R s m args below meth c H locs cells slots Q (F0 m pc ls st0) := by
  intro T hT X
  rcases hr T hT X with ⟨v, st₀, t, T', L, h0, X', hL, e1, e2, ⟨⟨r, u, hv, hp, hb⟩, hF⟩, st⟩ | ⟨q, st₀, t, T', L, E, ce, h0, X', hL, e1, e2, ⟨u, hp, hb, hF⟩, hce, hcv, hcl, st⟩
  · cases hv
    obtain ⟨k1, k2, k3⟩ := vx_keep h0 e1 hS hA hf hL hF
    obtain ⟨t2, a1, b1⟩ := kk r u t T'.heap (locs ++ L) e1.symm (by rw [← e2]; exact X'.warmed.alike) hp hb k1 k2 k3 T' rfl X'
    exact ⟨t2, st t2 a1, b1⟩
  · obtain ⟨k1, k2, k3⟩ := vx_keep h0 e1 hS hAX hf hL hF
    obtain ⟨t2, a1, b1⟩ := kx E ce q u t T'.heap (locs ++ L) e1.symm (by rw [← e2]; exact X'.warmed.alike) hp hb k1 k2 k3 (by rw [e1]; exact hce) hcv hcl T' rfl X'
    exact ⟨t2, st.trans a1, b1⟩
theorem vx_calll {S SX : Type} {post : Int64 → S → Prop} {px : SX → Prop} {B : S → State → Prop} {BX : String → SX → State → Prop} {AX : Nat → Prop} (hr : vx_Run p l e R s m args below meth c H locs cells slots mc ms (F0 m pc ls st0) rest (va_Ql post B A1 a) (vx_X px BX AX) free) (hS : va_S A0 H0 H locs) (hA : ∀ q, q < H.size → A1 q → A0 q) (hf : ∀ q, free q → A0 q) (hAX : ∀ q, q < H.size → AX q → A0 q)
    (kx : ∀ (E : String) (ce : Cell) (q9 : Addr) (u : SX) (t : State) (H1 : Heap) (locs1 : List Loc), t.heap = H1 → s.vm.Alike t.vm → px u → BX E u t → H.size ≤ H1.size → (∀ q : Nat, q < H.size → ¬ AX q → H1[q]? = H[q]?) → va_S A0 H0 H1 locs1 → H1[q9]? = some ce → ce.vm = .none → s.vm.findClass E = some ce.cls → vx_W p l e R s m args below meth c H1 locs1 (cells + mc) (slots + ms) Q (F0 m pc ls rest) q9)
    (kk : ∀ (r : Int64) (u : S) (t : State) (H1 : Heap) (locs1 : List Loc), t.heap = H1 → s.vm.Alike t.vm → post r u → B u t → H.size ≤ H1.size → (∀ q : Nat, q < H.size → ¬ A1 q → H1[q]? = H[q]?) → va_S A0 H0 H1 locs1 → W p l e R s m args below meth c H1 locs1 (cells + mc) (slots + ms) Q (F0 m (pc + 3) ls (.long r :: rest))) : W p l e R s m args below meth c H locs cells slots Q (F0 m pc ls st0) := by
  intro T hT X
  rcases hr T hT X with ⟨v, st₀, t, T', L, h0, X', hL, e1, e2, ⟨⟨r, u, hv, hp, hb⟩, hF⟩, st⟩ | ⟨q, st₀, t, T', L, E, ce, h0, X', hL, e1, e2, ⟨u, hp, hb, hF⟩, hce, hcv, hcl, st⟩
  · cases hv
    obtain ⟨k1, k2, k3⟩ := vx_keep h0 e1 hS hA hf hL hF
    obtain ⟨t2, a1, b1⟩ := kk r u t T'.heap (locs ++ L) e1.symm (by rw [← e2]; exact X'.warmed.alike) hp hb k1 k2 k3 T' rfl X'
    exact ⟨t2, st t2 a1, b1⟩
  · obtain ⟨k1, k2, k3⟩ := vx_keep h0 e1 hS hAX hf hL hF
    obtain ⟨t2, a1, b1⟩ := kx E ce q u t T'.heap (locs ++ L) e1.symm (by rw [← e2]; exact X'.warmed.alike) hp hb k1 k2 k3 (by rw [e1]; exact hce) hcv hcl T' rfl X'
    exact ⟨t2, st.trans a1, b1⟩
theorem vx_callf {S SX : Type} {post : UInt32 → S → Prop} {px : SX → Prop} {B : S → State → Prop} {BX : String → SX → State → Prop} {AX : Nat → Prop} (hr : vx_Run p l e R s m args below meth c H locs cells slots mc ms (F0 m pc ls st0) rest (va_Qf post B A1 a) (vx_X px BX AX) free) (hS : va_S A0 H0 H locs) (hA : ∀ q, q < H.size → A1 q → A0 q) (hf : ∀ q, free q → A0 q) (hAX : ∀ q, q < H.size → AX q → A0 q)
    (kx : ∀ (E : String) (ce : Cell) (q9 : Addr) (u : SX) (t : State) (H1 : Heap) (locs1 : List Loc), t.heap = H1 → s.vm.Alike t.vm → px u → BX E u t → H.size ≤ H1.size → (∀ q : Nat, q < H.size → ¬ AX q → H1[q]? = H[q]?) → va_S A0 H0 H1 locs1 → H1[q9]? = some ce → ce.vm = .none → s.vm.findClass E = some ce.cls → vx_W p l e R s m args below meth c H1 locs1 (cells + mc) (slots + ms) Q (F0 m pc ls rest) q9)
    (kk : ∀ (r : UInt32) (u : S) (t : State) (H1 : Heap) (locs1 : List Loc), t.heap = H1 → s.vm.Alike t.vm → post r u → B u t → H.size ≤ H1.size → (∀ q : Nat, q < H.size → ¬ A1 q → H1[q]? = H[q]?) → va_S A0 H0 H1 locs1 → W p l e R s m args below meth c H1 locs1 (cells + mc) (slots + ms) Q (F0 m (pc + 3) ls (.float r :: rest))) : W p l e R s m args below meth c H locs cells slots Q (F0 m pc ls st0) := by
  intro T hT X
  rcases hr T hT X with ⟨v, st₀, t, T', L, h0, X', hL, e1, e2, ⟨⟨r, u, hv, hp, hb⟩, hF⟩, st⟩ | ⟨q, st₀, t, T', L, E, ce, h0, X', hL, e1, e2, ⟨u, hp, hb, hF⟩, hce, hcv, hcl, st⟩
  · cases hv
    obtain ⟨k1, k2, k3⟩ := vx_keep h0 e1 hS hA hf hL hF
    obtain ⟨t2, a1, b1⟩ := kk r u t T'.heap (locs ++ L) e1.symm (by rw [← e2]; exact X'.warmed.alike) hp hb k1 k2 k3 T' rfl X'
    exact ⟨t2, st t2 a1, b1⟩
  · obtain ⟨k1, k2, k3⟩ := vx_keep h0 e1 hS hAX hf hL hF
    obtain ⟨t2, a1, b1⟩ := kx E ce q u t T'.heap (locs ++ L) e1.symm (by rw [← e2]; exact X'.warmed.alike) hp hb k1 k2 k3 (by rw [e1]; exact hce) hcv hcl T' rfl X'
    exact ⟨t2, st.trans a1, b1⟩
theorem vx_calld {S SX : Type} {post : UInt64 → S → Prop} {px : SX → Prop} {B : S → State → Prop} {BX : String → SX → State → Prop} {AX : Nat → Prop} (hr : vx_Run p l e R s m args below meth c H locs cells slots mc ms (F0 m pc ls st0) rest (va_Qd post B A1 a) (vx_X px BX AX) free) (hS : va_S A0 H0 H locs) (hA : ∀ q, q < H.size → A1 q → A0 q) (hf : ∀ q, free q → A0 q) (hAX : ∀ q, q < H.size → AX q → A0 q)
    (kx : ∀ (E : String) (ce : Cell) (q9 : Addr) (u : SX) (t : State) (H1 : Heap) (locs1 : List Loc), t.heap = H1 → s.vm.Alike t.vm → px u → BX E u t → H.size ≤ H1.size → (∀ q : Nat, q < H.size → ¬ AX q → H1[q]? = H[q]?) → va_S A0 H0 H1 locs1 → H1[q9]? = some ce → ce.vm = .none → s.vm.findClass E = some ce.cls → vx_W p l e R s m args below meth c H1 locs1 (cells + mc) (slots + ms) Q (F0 m pc ls rest) q9)
    (kk : ∀ (r : UInt64) (u : S) (t : State) (H1 : Heap) (locs1 : List Loc), t.heap = H1 → s.vm.Alike t.vm → post r u → B u t → H.size ≤ H1.size → (∀ q : Nat, q < H.size → ¬ A1 q → H1[q]? = H[q]?) → va_S A0 H0 H1 locs1 → W p l e R s m args below meth c H1 locs1 (cells + mc) (slots + ms) Q (F0 m (pc + 3) ls (.double r :: rest))) : W p l e R s m args below meth c H locs cells slots Q (F0 m pc ls st0) := by
  intro T hT X
  rcases hr T hT X with ⟨v, st₀, t, T', L, h0, X', hL, e1, e2, ⟨⟨r, u, hv, hp, hb⟩, hF⟩, st⟩ | ⟨q, st₀, t, T', L, E, ce, h0, X', hL, e1, e2, ⟨u, hp, hb, hF⟩, hce, hcv, hcl, st⟩
  · cases hv
    obtain ⟨k1, k2, k3⟩ := vx_keep h0 e1 hS hA hf hL hF
    obtain ⟨t2, a1, b1⟩ := kk r u t T'.heap (locs ++ L) e1.symm (by rw [← e2]; exact X'.warmed.alike) hp hb k1 k2 k3 T' rfl X'
    exact ⟨t2, st t2 a1, b1⟩
  · obtain ⟨k1, k2, k3⟩ := vx_keep h0 e1 hS hAX hf hL hF
    obtain ⟨t2, a1, b1⟩ := kx E ce q u t T'.heap (locs ++ L) e1.symm (by rw [← e2]; exact X'.warmed.alike) hp hb k1 k2 k3 (by rw [e1]; exact hce) hcv hcl T' rfl X'
    exact ⟨t2, st.trans a1, b1⟩
theorem vx_callv {S SX : Type} {post : S → Prop} {px : SX → Prop} {B : S → State → Prop} {BX : String → SX → State → Prop} {AX : Nat → Prop} (hr : vx_Run p l e R s m args below meth c H locs cells slots mc ms (F0 m pc ls st0) rest (va_Qv post B A1 a) (vx_X px BX AX) free) (hS : va_S A0 H0 H locs) (hA : ∀ q, q < H.size → A1 q → A0 q) (hf : ∀ q, free q → A0 q) (hAX : ∀ q, q < H.size → AX q → A0 q)
    (kx : ∀ (E : String) (ce : Cell) (q9 : Addr) (u : SX) (t : State) (H1 : Heap) (locs1 : List Loc), t.heap = H1 → s.vm.Alike t.vm → px u → BX E u t → H.size ≤ H1.size → (∀ q : Nat, q < H.size → ¬ AX q → H1[q]? = H[q]?) → va_S A0 H0 H1 locs1 → H1[q9]? = some ce → ce.vm = .none → s.vm.findClass E = some ce.cls → vx_W p l e R s m args below meth c H1 locs1 (cells + mc) (slots + ms) Q (F0 m pc ls rest) q9)
    (kk : ∀ (u : S) (t : State) (H1 : Heap) (locs1 : List Loc), t.heap = H1 → s.vm.Alike t.vm → post u → B u t → H.size ≤ H1.size → (∀ q : Nat, q < H.size → ¬ A1 q → H1[q]? = H[q]?) → va_S A0 H0 H1 locs1 → W p l e R s m args below meth c H1 locs1 (cells + mc) (slots + ms) Q (F0 m (pc + 3) ls (rest))) : W p l e R s m args below meth c H locs cells slots Q (F0 m pc ls st0) := by
  intro T hT X
  rcases hr T hT X with ⟨v, st₀, t, T', L, h0, X', hL, e1, e2, ⟨⟨u, hv, hp, hb⟩, hF⟩, st⟩ | ⟨q, st₀, t, T', L, E, ce, h0, X', hL, e1, e2, ⟨u, hp, hb, hF⟩, hce, hcv, hcl, st⟩
  · cases hv
    obtain ⟨k1, k2, k3⟩ := vx_keep h0 e1 hS hA hf hL hF
    obtain ⟨t2, a1, b1⟩ := kk u t T'.heap (locs ++ L) e1.symm (by rw [← e2]; exact X'.warmed.alike) hp hb k1 k2 k3 T' rfl X'
    exact ⟨t2, st t2 a1, b1⟩
  · obtain ⟨k1, k2, k3⟩ := vx_keep h0 e1 hS hAX hf hL hF
    obtain ⟨t2, a1, b1⟩ := kx E ce q u t T'.heap (locs ++ L) e1.symm (by rw [← e2]; exact X'.warmed.alike) hp hb k1 k2 k3 (by rw [e1]; exact hce) hcv hcl T' rfl X'
    exact ⟨t2, st.trans a1, b1⟩
/-- caught by the row x of this method's table; the rows ahead don't take it -/
theorem vx_catch {own name : String} {E : String} {ce : Cell} {q : Addr} (hown : s.vm.findClass own = some m.cls) (pre : List ExceptionTableEntry) (x : ExceptionTableEntry) (suf : List ExceptionTableEntry) (hsplit : c.exceptionTable.toList = pre ++ x :: suf)
    (hpass : ∀ z ∈ pre, covers z pc = false ∨ (z.catchType ≠ 0 ∧ ∃ nm : String, (Cond.classLink own z.catchType nm).before args s = true ∧ va_Nc E nm s)) (hx : covers x pc = true) (h0 : x.catchType ≠ 0)
    (hlink : (Cond.classLink own x.catchType name).before args s = true) (hcast : (Cond.castable E name).before args s = true) (hcell : H[q]? = some ce) (hv : ce.vm = .none) (hcl : s.vm.findClass E = some ce.cls)
    (kk : W p l e R s m args below meth c H locs cells slots Q (F0 m x.handlerPc ls [.ref q])) : vx_W p l e R s m args below meth c H locs cells slots Q (F0 m pc ls rest) q := by
  intro T hT X
  have hpl : e.platform.magicAccessors = ({} : Platform).magicAccessors := by rw [X.admits.platform]
  obtain ⟨c3, c4, hc3, hc4, hasg⟩ := Cond.castable_spec hcast
  cases Option.some.inj (hc3.symm.trans hcl)
  obtain ⟨c5, hc5, hcl5⟩ := Cond.classLink_spec hown hlink e.platform hpl
  cases Option.some.inj (hc4.symm.trans hc5)
  obtain ⟨vm', X', st⟩ := X.thenCaughtThrough q (g := F0 m pc ls rest) rfl (Steps.refl _) (by rw [hT]; exact hcell) (by rw [hv]; rfl) (by obtain ⟨k9, h9, -⟩ := Vm.findClass_spec hcl; exact ⟨k9, h9⟩) pre x suf hsplit
    (fun z hz => by
      rcases hpass z hz with h | ⟨hz0, nm, hl1, hn1⟩
      · exact Or.inl h
      · obtain ⟨c6, hc6, hcl6⟩ := Cond.classLink_spec hown hl1 e.platform hpl
        obtain ⟨a8, b8, h1, h2, h3⟩ := hn1
        cases Option.some.inj (h1.symm.trans hcl)
        cases Option.some.inj (h2.symm.trans hc6)
        exact Or.inr ⟨hz0, _, hcl6, h3⟩) hx (Or.inr ⟨h0, c4, hcl5, hasg⟩)
  obtain ⟨t, a1, b1⟩ := kk (T.setVm vm') hT X'
  exact ⟨t, st.trans a1, b1⟩
end Rows
section Ends
variable {p : Program} {l : Launch} {e : Env} {R : Room} {s : State} {m : MethodId} {args : Array Value} {below : List Frame} {meth : Method} {c : Code} {H : Heap} {locs : List Loc} {cells slots : Nat} {Q : State → Prop}
variable {mc ms : Nat} {free : Addr → Prop} {A0 A1 : Nat → Prop} {H0 : Heap} {a : Array Value} {ls : Array Slot} {st0 rest : List Value}
variable {Qc : Array Value → State → Outcome → State → Prop} {XC : String → State → State → Prop}
/-- what a body that may throw owes at its end -/
def vx_MQ (below : List Frame) (Qc : Array Value → State → Outcome → State → Prop) (XC : String → State → State → Prop) (a : Array Value) (s : State) (mc ms : Nat) (free : Addr → Prop) : State → Prop := fun t =>
  ∃ o, t.status = .running ∧ Ended t below o ∧ vx_Q Qc XC mc ms free a s o t
theorem vx_ret {g : JFrame} {mc ms : Nat} (k : W p l e R s m args below meth c H locs cells slots (MQ below Qc args s mc ms free) g) : W p l e R s m args below meth c H locs cells slots (vx_MQ below Qc XC args s mc ms free) g := by
  intro T hT X
  obtain ⟨t, a1, o, b1, b2, b3, b4⟩ := k T hT X
  exact ⟨t, a1, o, b1, b2, Or.inl ⟨b3, b4⟩⟩
/-- not caught here: it goes on to the caller -/
theorem vx_widen {g : JFrame} {q : Addr} {k n : Nat} (h1 : cells ≤ k) (h2 : slots ≤ n) (kk : vx_W p l e R s m args below meth c H locs k n Q g q) : vx_W p l e R s m args below meth c H locs cells slots Q g q := fun T hT X => kk T hT (stand_widen X h1 h2)
theorem vx_out {pc : Nat} {E : String} {ce : Cell} {q : Addr} {mc ms : Nat} (hout : ∀ x ∈ c.exceptionTable.toList, covers x pc = false) (hlocks : meth.locks = false) (hcell : H[q]? = some ce) (hv : ce.vm = .none) (hcl : s.vm.findClass E = some ce.cls)
    (hx : ∀ t : State, t.heap = H → s.vm.Alike t.vm → XC E s t) (hf : ∀ z ∈ locs, free z.base) (hc : cells ≤ mc) (hs : slots ≤ ms) :
    vx_W p l e R s m args below meth c H locs cells slots (vx_MQ below Qc XC args s mc ms free) (F0 m pc ls rest) q := by
  intro T hT X
  obtain ⟨st1, hrun, hend, hW, hsm⟩ := X.leaveThrown q (g := F0 m pc ls rest) rfl rfl rfl hout hlocks
  have hcell9 : (T.setFrames (.throwing q :: below)).heap[q]? = some ce := by
    show T.heap[q]? = some ce
    rw [hT]; exact hcell
  exact ⟨_, st1, .threw q, hrun, hend, Or.inr ⟨q, rfl, E, ce, locs, hx _ hT hW.alike, hcell9, hv, hcl, hW, hsm.mono hc hs, hf⟩⟩
theorem vx_frame {U : State} {k n : Nat} (h : s.sameButNew ({ U with vm := s.vm } : State) locs k n) : s.heap.size ≤ U.heap.size ∧ ∀ q : Nat, q < s.heap.size → (∀ z ∈ locs, z.base ≠ q) → U.heap[q]? = s.heap[q]? := by
  obtain ⟨-, h2, -, -, -, h6⟩ := h
  refine ⟨h2, fun q hq hz => ?_⟩
  obtain ⟨c9, e1, e2, e3, e4⟩ := h6 q _ (Array.getElem?_eq_getElem hq)
  have hs : c9.slots = (s.heap[q]).slots := Array.ext_getElem? fun i => e4 i fun hm => hz _ hm rfl
  have h9 : c9 = s.heap[q] := by
    rw [hs] at e2
    exact e2
  have e5 : U.heap[q]? = some c9 := e1
  rw [e5, h9, Array.getElem?_eq_getElem hq]
/-- the words of a throw but the four that speak of the heap -/
def vx_no (w : Cond) : Bool := decide (w ≠ .isRef (.static Bundle.tN "UNASSIGNED_STACK" Bundle.steD)) && decide (w ≠ .isRef (.static Bundle.tN "SUPPRESSED_SENTINEL" Bundle.listD)) && decide (w ≠ .laysStatic Bundle.tN "UNASSIGNED_STACK" Bundle.steD) && decide (w ≠ .laysStatic Bundle.tN "SUPPRESSED_SENTINEL" Bundle.listD)
def vx_at0 (own : String) (ic : Nat) (X : String) (names : List String) : List Cond := (Bundle.ownAtoms0 own ic X names).filter vx_no
def vx_atS (own : String) (ic : Nat) (X : String) (names : List String) : List Cond := (Bundle.ownAtoms own ic X names).filter vx_no
/-- a word that the tables alone decide, or a good one -/
def vx_ot (w : Cond) : Bool := w.onTables || goodWord w
theorem vx_ot_at {args a' : Array Value} {s U : State} {w : Cond} (hW : s.WarmedH U.vm) (hvm : s.vm = U.vm) (hg : vx_ot w = true) (h : w.before args s = true) : w.before a' U = true := by
  simp only [vx_ot, Bool.or_eq_true] at hg
  rcases hg with hg | hg
  · exact va_tabs hg hvm h
  · exact word_at hW (good_of_word hg) h
/-- a list's words: the good ones out of the method's own list, the others by premises of their own -/
theorem vx_hat {args : Array Value} {s : State} {L B : List Cond} (h1 : ∀ w ∈ L.filter goodWord, w.before args s = true) (h2 : ∀ w ∈ L.filter (fun w => !goodWord w), w ∈ B) (h3 : ∀ w ∈ B, w.before args s = true) : ∀ w ∈ L, w.before args s = true := by
  intro w hw
  by_cases g : goodWord w = true
  · exact h1 w (List.mem_filter.mpr ⟨hw, g⟩)
  · refine h3 w (h2 w (List.mem_filter.mpr ⟨hw, ?_⟩))
    show (!goodWord w) = true
    cases hgw : goodWord w
    · rfl
    · exact absurd hgw g
theorem vx_c {args : Array Value} {s : State} {w : Cond} {B : List Cond} (h : w.before args s = true) (t : ∀ w ∈ B, w.before args s = true) : ∀ w' ∈ w :: B, w'.before args s = true := fun w' h' => (List.mem_cons.mp h').elim (fun e => by rw [e]; exact h) (t w')
theorem vx_n {args : Array Value} {s : State} : ∀ w ∈ ([] : List Cond), w.before args s = true := fun _ h => nomatch h
theorem vx_own {args : Array Value} {s : State} {L : List Cond} (h1 : ∀ w ∈ L.filter vx_no, w.before args s = true)
    (hU : (Cond.isRef (.static Bundle.tN "UNASSIGNED_STACK" Bundle.steD)).before args s = true) (hN : (Cond.isRef (.static Bundle.tN "SUPPRESSED_SENTINEL" Bundle.listD)).before args s = true)
    (lU : (Cond.laysStatic Bundle.tN "UNASSIGNED_STACK" Bundle.steD).before args s = true) (lN : (Cond.laysStatic Bundle.tN "SUPPRESSED_SENTINEL" Bundle.listD).before args s = true) : ∀ w ∈ L, w.before args s = true := by
  intro w hw
  by_cases e1 : w = .isRef (.static Bundle.tN "UNASSIGNED_STACK" Bundle.steD)
  · rw [e1]; exact hU
  · by_cases e2 : w = .isRef (.static Bundle.tN "SUPPRESSED_SENTINEL" Bundle.listD)
    · rw [e2]; exact hN
    · by_cases e3 : w = .laysStatic Bundle.tN "UNASSIGNED_STACK" Bundle.steD
      · rw [e3]; exact lU
      · by_cases e4 : w = .laysStatic Bundle.tN "SUPPRESSED_SENTINEL" Bundle.listD
        · rw [e4]; exact lN
        · exact h1 w (List.mem_filter.mpr ⟨hw, by unfold vx_no; rw [decide_eq_true e1, decide_eq_true e2, decide_eq_true e3, decide_eq_true e4]; rfl⟩)
/-- where a static field lies, its class's statics cell in H -/
def vx_L (C n d : String) (A : Nat → Prop) (U : State) (H : Heap) : Prop := ∃ (c : ClassId) (k : Class) (i : Nat) (f : Field) (a : Nat) (cell : Cell), U.vm.findClass C = some c ∧ U.fieldFound? C n d = some (c, k, i, f) ∧ f.isStatic = true ∧ k.statics = some a ∧ H[a]? = some cell ∧ cell.vm.isStatics = true ∧ cell.cls = c ∧ f.slot < cell.slots.size ∧ k.staticTypes[f.slot]? = some f.type ∧ ¬ A a
theorem vx_L.moved {C n d : String} {A : Nat → Prop} {u U : State} {H : Heap} (hvm : u.vm.Alike U.vm) (h : vx_L C n d A u H) : vx_L C n d A U H := by
  obtain ⟨c, k, i, f, a, cell, h1, h2, h3, h4, h5, h6, h7, h8, h9, h10⟩ := h
  obtain ⟨k', hi', he⟩ := State.fieldFound?_setVm hvm h2
  exact ⟨c, k', i, f, a, cell, by rw [hvm.findClass]; exact h1, hi', h3, by rw [he]; exact h4, h5, h6, h7, h8, by rw [he]; exact h9, h10⟩
theorem vx_L.kept {C n d : String} {A : Nat → Prop} {U : State} {H H1 : Heap} (h : vx_L C n d A U H) (hq : ∀ a : Nat, a < H.size → ¬ A a → H1[a]? = H[a]?) : vx_L C n d A U H1 := by
  obtain ⟨c, k, i, f, a, cell, h1, h2, h3, h4, h5, h6, h7, h8, h9, h10⟩ := h
  exact ⟨c, k, i, f, a, cell, h1, h2, h3, h4, by rw [hq a (Array.getElem?_eq_some_iff.mp h5).1 h10]; exact h5, h6, h7, h8, h9, h10⟩
theorem vx_L.narrow {C n d : String} {A B : Nat → Prop} {U : State} {H : Heap} (h : vx_L C n d A U H) (hAB : ∀ q, B q → A q) : vx_L C n d B U H := by
  obtain ⟨c, k, i, f, a, cell, h1, h2, h3, h4, h5, h6, h7, h8, h9, h10⟩ := h
  exact ⟨c, k, i, f, a, cell, h1, h2, h3, h4, h5, h6, h7, h8, h9, fun z => h10 (hAB _ z)⟩
theorem vx_L.word {C n d : String} {A : Nat → Prop} {s : State} {args : Array Value} (h : vx_L C n d A s s.heap) : (Cond.laysStatic C n d).before args s = true := by
  obtain ⟨c, k, i, f, a, cell, h1, h2, h3, h4, h5, h6, h7, h8, h9, -⟩ := h
  show (Cond.laysStatic C n d).holds args s none s [] = true
  exact Cond.laysStatic_of h1 h2 h3 h4 h5 h6 h7 h8 h9
/-- .. and what it holds: null or some reference -/
def vx_Zq (C n d : String) (A : Nat → Prop) (U : State) (H : Heap) : Prop := va_Zq C n d A U H ∧ vx_L C n d A U H
theorem vx_Zq.moved {C n d : String} {A : Nat → Prop} {u U : State} {H : Heap} (hvm : u.vm.Alike U.vm) (h : vx_Zq C n d A u H) : vx_Zq C n d A U H := ⟨va_Zq.moved hvm h.1, vx_L.moved hvm h.2⟩
theorem vx_Zq.kept {C n d : String} {A : Nat → Prop} {U : State} {H H1 : Heap} (h : vx_Zq C n d A U H) (hq : ∀ a : Nat, a < H.size → ¬ A a → H1[a]? = H[a]?) : vx_Zq C n d A U H1 := ⟨va_Zq.kept h.1 hq, vx_L.kept h.2 hq⟩
theorem vx_Zq.narrow {C n d : String} {A B : Nat → Prop} {U : State} {H : Heap} (h : vx_Zq C n d A U H) (hAB : ∀ q, B q → A q) : vx_Zq C n d B U H := ⟨va_Zq.narrow h.1 hAB, vx_L.narrow h.2 hAB⟩
theorem vx_Zqof {args : Array Value} {s : State} {C n d : String} {A : Nat → Prop} (hl : (Cond.laysStatic C n d).before args s = true) (hini : (Cond.initialized C).before args s = true) (h : (Cond.isRef (.static C n d)).before args s = true) (hA : ∀ a : Nat, a < s.heap.size → ¬ A a) : vx_Zq C n d A s s.heap := by
  refine ⟨va_Zqof hl hini h hA, ?_⟩
  obtain ⟨c, k, i, f, a, cell, h1, h2, h3, h4, h5, h6, h7, h8, h9⟩ := Cond.laysStatic_spec hl
  exact ⟨c, k, i, f, a, cell, h1, h2, h3, h4, h5, h6, h7, h8, h9, hA a (Array.getElem?_eq_some_iff.mp h5).1⟩
theorem vx_isRef {C n d : String} {v : Value} {A : Nat → Prop} {s : State} {args : Array Value} (h : va_Z C n d v A s s.heap) (hv : v.isRef = true) : (Cond.isRef (.static C n d)).before args s = true := by
  obtain ⟨cf, kf, fi, f, a, cell, h1, h2, h3, h4, h5, h6, h7, -⟩ := h
  have he : (Term.static C n d).eval args s none [] s = some v := by
    simp [Term.eval, State.fieldNamed?, h1, h2, h4, h5, h6, h7]
  simp only [Cond.before, Cond.holds, Cond.value, he]
  cases v <;> simp_all [Value.isRef]
theorem vx_isRefq {C n d : String} {A : Nat → Prop} {s : State} {args : Array Value} (h : va_Zq C n d A s s.heap) : (Cond.isRef (.static C n d)).before args s = true := by
  rcases h with h | ⟨t, h⟩
  · exact vx_isRef h rfl
  · exact vx_isRef h rfl
/-- the same frame, seen from here: as if the method were called anew in this heap -/
theorem vx_rebase {T : State} (X : Stand p l e R s m args below meth c T locs cells slots) {R' : Room} (hf : R'.frames ≤ R.frames) (hl : R'.locals ≤ R.locals) (hc : cells + R'.cells ≤ R.cells) (hs : slots + R'.slots ≤ R.slots) :
    Stand p l e R' ((T.setVm s.vm).setFrames (.invoking m args :: below)) m args below meth c T [] 0 0 := by
  have htop : (T.setVm s.vm).topJava?.isSome := X.here.top
  have hF : ((T.setVm s.vm).setFrames (.invoking m args :: below)).frames = .invoking m args :: below := State.frames_setFrames _ (State.cur_lt_of_top htop)
  obtain ⟨g₀, hg0⟩ := Option.isSome_iff_exists.mp htop
  obtain ⟨r, hr⟩ := State.topJava?_eq_some.mp hg0
  have hl9 : e.platform.stackLimits (T.setVm s.vm).me = e.platform.stackLimits s.me := X.limits
  have hb9 : (T.setVm s.vm).me.stackBytes = s.me.stackBytes := X.bytes
  refine ⟨X.admits, X.cas, X.clock, hF, ?_, X.hears, X.method, X.code, X.here, X.tail, X.warmed, ?_, ?_, ?_⟩
  · have h := X.room
    have hU : ((T.setVm s.vm).setFrames (.invoking m args :: below)).localsInUse = s.localsInUse := by
      rw [State.localsInUse_invoking hF (meth := meth) (c := c) X.method X.code, State.localsInUse_invoking X.frames X.method X.code]
    simp only [State.hasRoom, Bool.and_eq_true, decide_eq_true_eq] at h ⊢
    obtain ⟨⟨⟨⟨h1, h2, h3, h4, h5, h6⟩, h7⟩, h8⟩, h9⟩ := h
    rw [X.frames, List.length_cons] at h2 h3
    have q1 := X.heapSize
    have q2 := X.used
    simp only [hF, hU, List.length_cons, State.stackLimits_setFrames, State.stackBytes_setFrames, hl9, hb9]
    refine ⟨⟨⟨⟨by omega, by omega, by omega, by omega, by omega, h6⟩, ?_⟩, ?_⟩, X.book⟩
    · show T.heap.size + R'.cells ≤ e.platform.maxCells
      omega
    · show T.slotsUsed + R'.slots ≤ e.platform.maxSlots
      omega
  · rw [State.stackLimits_setFrames]; rfl
  · rw [State.stackBytes_setFrames]; rfl
  · refine ⟨?_, Nat.le_refl _, Nat.le_refl _, ?_, ?_, fun a c9 h9 => ⟨c9, h9, rfl, rfl, fun _ _ => rfl⟩⟩
    · obtain ⟨t, ht, -⟩ := State.frames_cons hr
      show T.setVm s.vm = { ((T.setVm s.vm).setFrames (.invoking m args :: below)).setFrames (T.setVm s.vm).frames with heap := T.heap, slotsUsed := T.slotsUsed }
      rw [State.setFrames_setFrames, State.setFrames_self ht]
      rfl
    · show T.slotsUsed = T.slotsUsed + ((T.heap.toList.drop T.heap.size).map (·.slots.size)).sum
      rw [List.drop_eq_nil_of_le (Nat.le_of_eq Array.length_toList)]
      rfl
    · show ((T.heap.toList.drop T.heap.size).map (·.slots.size)).sum ≤ 0
      rw [List.drop_eq_nil_of_le (Nat.le_of_eq Array.length_toList)]
      exact Nat.le_refl _
/-- 'throw new E()': new; dup; invokespecial; athrow -/
theorem vx_throw0 {cc : ByteArray} {pc : Nat} (hexec : p.tables.exec = Jvm.exec) (hb : c.code = cc) (hl : l.stackTraces = false) {own cls : String} {names : List String} {ik ic mc ms : Nat} {A : Nat → Prop}
    (hown : s.vm.findClass own = some m.cls) (hcls : Bundle.fit cls = true) (hnames : ∀ n ∈ names, Bundle.fit n = true)
    (hk : (Cond.classLink own ik cls).before args s = true) (hini : (Cond.initialized cls).before args s = true) (hat : ∀ w ∈ vx_at0 own ic cls names, w.before args s = true)
    (hgood : ∀ w ∈ Cond.classLink own ik cls :: Cond.initialized cls :: vx_at0 own ic cls names, vx_ot w = true)
    (hU : vx_Zq Bundle.tN "UNASSIGNED_STACK" Bundle.steD A s s.heap) (hN : vx_Zq Bundle.tN "SUPPRESSED_SENTINEL" Bundle.listD A s s.heap) (hS : va_S A s.heap H locs) (hsize : ls.size = c.maxLocals)
    (d0 : decode cc pc = .ok (.new ik, 3)) (d3 : decode cc (pc + 3) = .ok (.dup, 1)) (d4 : decode cc (pc + 4) = .ok (.invokespecial ic, 3)) (d7 : decode cc (pc + 7) = .ok (.athrow, 1))
    (hout : ∀ x ∈ c.exceptionTable.toList, covers x (pc + 7) = false)
    (hRframes : names.length + 3 < R.frames) (hRlocals : (rest.map fun v => v.category).sum + (13 * (names.length + 1) + 42) ≤ R.locals) (hRcells : cells + 1 ≤ R.cells) (hRslots : slots + 6 ≤ R.slots) (hlocks : meth.locks = false)
    (hx : ∀ t : State, s.vm.Alike t.vm → H.size ≤ t.heap.size → (∀ q : Nat, q < H.size → t.heap[q]? = H[q]?) → XC cls s t)
    (hf : ∀ z ∈ locs, free z.base) (hc : cells + 1 ≤ mc) (hs : slots + 6 ≤ ms) :
    W p l e R s m args below meth c H locs cells slots (vx_MQ below Qc XC args s mc ms free) (F0 m pc ls rest) := by
  intro T hT X
  have htr : e.platform.stackTraces = false := (show e.platform.stackTraces = l.stackTraces by rw [X.admits.platform]).trans hl
  have Y := vx_rebase X (R' := { frames := R.frames, locals := R.locals, cells := 1, slots := 6 }) (Nat.le_refl _) (Nat.le_refl _) hRcells hRslots
  obtain ⟨s', hA⟩ : ∃ z, z = (T.setVm s.vm).setFrames (.invoking m args :: below) := ⟨_, rfl⟩
  rw [← hA] at Y
  have hvm : s'.vm = s.vm := by rw [hA]; rfl
  have hhp : s'.heap = H := by rw [hA]; exact hT
  have hW0 : s.WarmedH s'.vm := by rw [hvm]; exact State.WarmedH.refl s
  have hat' : ∀ w ∈ vx_at0 own ic cls names, w.before args s' = true := fun w hw => vx_ot_at hW0 hvm.symm (hgood w (List.mem_cons_of_mem _ (List.mem_cons_of_mem _ hw))) (hat w hw)
  have hk' : (Cond.classLink own ik cls).before args s' = true := vx_ot_at hW0 hvm.symm (hgood _ List.mem_cons_self) hk
  have hini' : (Cond.initialized cls).before args s' = true := vx_ot_at hW0 hvm.symm (hgood _ (List.mem_cons_of_mem _ List.mem_cons_self)) hini
  have hU' : vx_Zq Bundle.tN "UNASSIGNED_STACK" Bundle.steD A s' s'.heap := by rw [hhp]; exact vx_Zq.moved hW0.alike (hU.kept hS.2.1)
  have hN' : vx_Zq Bundle.tN "SUPPRESSED_SENTINEL" Bundle.listD A s' s'.heap := by rw [hhp]; exact vx_Zq.moved hW0.alike (hN.kept hS.2.1)
  have h : ∀ w ∈ Bundle.ownAtoms0 own ic cls names, w.before args s' = true := vx_own hat' (vx_isRefq hU'.1) (vx_isRefq hN'.1) hU'.2.word hN'.2.word
  have hown' : s'.vm.findClass own = some m.cls := by rw [hvm]; exact hown
  have hins : (Cond.instantiable cls 6).before args s' = true := h _ (by simp [Bundle.ownAtoms0])
  obtain ⟨vm₁, cX, kX, hfX, hkX, -, -, X₁, st1⟩ := Y.newCold hexec (own := own) (C := cls) (index := ik) (n := 6) hown' hk' hins hini'
    (g := F0 m pc ls rest) rfl (by rw [hb]; exact d0) (Nat.le_refl _) (Nat.le_refl _)
  generalize hT1 : (T.setVm vm₁).pushCell { cls := cX, slots := kX.instanceTypes.map defaultValue, vm := .none } = T1 at X₁ st1
  have hcat : (Value.ref T.heap.size).category = 1 := rfl
  have hcellA : T1.heap[T.heap.size]? = some (freshCell cX kX) := by rw [← hT1]; exact State.heap_pushCell_size _ _
  have d3' : decode c.code (pc + 3) = .ok (.dup, 1) := by rw [hb]; exact d3
  obtain ⟨U, hsteps, hrun, hend, hW, hsame, ce, hce, hO⟩ := X₁.ctorThrow0 hexec htr (own := own) (cls := cls) (names := names) (ic := ic) hown' hcls hnames h (fun x hx => nomatch hx) hfX hkX hcellA (by rw [hhp, hT]; exact Nat.le_refl _)
    (g := { method := m, pc := pc + 4, locals := ls, stack := .ref T.heap.size :: .ref T.heap.size :: rest, locked := none }) rfl hsize rfl rfl (rest := rest) rfl
    (by rw [hb]; exact d4) (by rw [hb]; exact d7) hout hRframes (by simp only [List.map_cons, List.sum_cons, hcat]; omega) hlocks
  obtain ⟨f1, f2⟩ := vx_frame hsame
  rw [hhp] at f1 f2
  have hWs : s.WarmedH U.vm := State.WarmedH.trans hW0 hW
  have hcl : s.vm.findClass cls = some ce.cls := by
    have h9 := hO.cls
    rw [hvm] at h9
    exact h9
  have hall : s.sameButNew ({ U with vm := s.vm } : State) locs mc ms := by
    subst hA
    obtain ⟨e1, e2⟩ := hsame
    rw [State.setFrames_setFrames] at e1
    have h2 : (T.setVm s.vm).sameButNew ({ U with vm := s.vm } : State) [] (0 + 1) (0 + 6) := ⟨e1, e2⟩
    have h3 := X.same.trans h2
    rw [List.append_nil] at h3
    exact h3.mono hc hs
  refine ⟨U, ?_, .threw T.heap.size, hrun, hend, Or.inr ⟨T.heap.size, rfl, cls, ce, locs, hx U hWs.alike f1 (fun q hq => f2 q hq (fun z hz => nomatch hz)), hce, hO.vm, hcl, hWs, hall, hf⟩⟩
  refine st1 _ ?_
  show Steps p.tables e below (T1.setTop { method := m, pc := pc + 3, locals := ls, stack := .ref T.heap.size :: rest, locked := none }) _
  jvm_step X₁.here [X₁.here.top, hexec, d3', Value.category]
  exact hsteps
/-- 'throw new E("text")': new; dup; ldc; invokespecial; athrow -/
theorem vx_throwS {cc : ByteArray} {pc : Nat} (hexec : p.tables.exec = Jvm.exec) (hb : c.code = cc) (hl : l.stackTraces = false) {own cls text : String} {names : List String} {ik is ic mc ms sa : Nat} {A : Nat → Prop}
    (hown : s.vm.findClass own = some m.cls) (hcls : Bundle.fit cls = true) (hnames : ∀ n ∈ names, Bundle.fit n = true)
    (hk : (Cond.classLink own ik cls).before args s = true) (hini : (Cond.initialized cls).before args s = true) (hstr : vk_R own is text sa s) (hat : ∀ w ∈ vx_atS own ic cls names, w.before args s = true)
    (hgood : ∀ w ∈ Cond.classLink own ik cls :: Cond.initialized cls :: vx_atS own ic cls names, vx_ot w = true)
    (hU : vx_Zq Bundle.tN "UNASSIGNED_STACK" Bundle.steD A s s.heap) (hN : vx_Zq Bundle.tN "SUPPRESSED_SENTINEL" Bundle.listD A s s.heap) (hS : va_S A s.heap H locs) (hsize : ls.size = c.maxLocals)
    (d0 : decode cc pc = .ok (.new ik, 3)) (d3 : decode cc (pc + 3) = .ok (.dup, 1)) (d4 : decode cc (pc + 4) = .ok (.ldc is, 2)) (d6 : decode cc (pc + 6) = .ok (.invokespecial ic, 3)) (d9 : decode cc (pc + 9) = .ok (.athrow, 1))
    (hout : ∀ x ∈ c.exceptionTable.toList, covers x (pc + 9) = false)
    (hRframes : names.length + 3 < R.frames) (hRlocals : (rest.map fun v => v.category).sum + (13 * (names.length + 1) + 43) ≤ R.locals) (hRcells : cells + 1 ≤ R.cells) (hRslots : slots + 6 ≤ R.slots) (hlocks : meth.locks = false)
    (hx : ∀ t : State, s.vm.Alike t.vm → H.size ≤ t.heap.size → (∀ q : Nat, q < H.size → t.heap[q]? = H[q]?) → XC cls s t)
    (hf : ∀ z ∈ locs, free z.base) (hc : cells + 1 ≤ mc) (hs : slots + 6 ≤ ms) :
    W p l e R s m args below meth c H locs cells slots (vx_MQ below Qc XC args s mc ms free) (F0 m pc ls rest) := by
  intro T hT X
  have htr : e.platform.stackTraces = false := (show e.platform.stackTraces = l.stackTraces by rw [X.admits.platform]).trans hl
  have Y := vx_rebase X (R' := { frames := R.frames, locals := R.locals, cells := 1, slots := 6 }) (Nat.le_refl _) (Nat.le_refl _) hRcells hRslots
  obtain ⟨s', hA⟩ : ∃ z, z = (T.setVm s.vm).setFrames (.invoking m args :: below) := ⟨_, rfl⟩
  rw [← hA] at Y
  have hvm : s'.vm = s.vm := by rw [hA]; rfl
  have hhp : s'.heap = H := by rw [hA]; exact hT
  have hW0 : s.WarmedH s'.vm := by rw [hvm]; exact State.WarmedH.refl s
  have hat' : ∀ w ∈ vx_atS own ic cls names, w.before args s' = true := fun w hw => vx_ot_at hW0 hvm.symm (hgood w (List.mem_cons_of_mem _ (List.mem_cons_of_mem _ hw))) (hat w hw)
  have hk' : (Cond.classLink own ik cls).before args s' = true := vx_ot_at hW0 hvm.symm (hgood _ List.mem_cons_self) hk
  have hini' : (Cond.initialized cls).before args s' = true := vx_ot_at hW0 hvm.symm (hgood _ (List.mem_cons_of_mem _ List.mem_cons_self)) hini
  have hU' : vx_Zq Bundle.tN "UNASSIGNED_STACK" Bundle.steD A s' s'.heap := by rw [hhp]; exact vx_Zq.moved hW0.alike (hU.kept hS.2.1)
  have hN' : vx_Zq Bundle.tN "SUPPRESSED_SENTINEL" Bundle.listD A s' s'.heap := by rw [hhp]; exact vx_Zq.moved hW0.alike (hN.kept hS.2.1)
  have h : ∀ w ∈ Bundle.ownAtoms own ic cls names, w.before args s' = true := vx_own hat' (vx_isRefq hU'.1) (vx_isRefq hN'.1) hU'.2.word hN'.2.word
  have hown' : s'.vm.findClass own = some m.cls := by rw [hvm]; exact hown
  have hins : (Cond.instantiable cls 6).before args s' = true := h _ (by simp [Bundle.ownAtoms])
  obtain ⟨vm₁, cX, kX, hfX, hkX, -, -, X₁, st1⟩ := Y.newCold hexec (own := own) (C := cls) (index := ik) (n := 6) hown' hk' hins hini'
    (g := F0 m pc ls rest) rfl (by rw [hb]; exact d0) (Nat.le_refl _) (Nat.le_refl _)
  generalize hT1 : (T.setVm vm₁).pushCell { cls := cX, slots := kX.instanceTypes.map defaultValue, vm := .none } = T1 at X₁ st1
  have hcat : (Value.ref T.heap.size).category = 1 := rfl
  have hcellA : T1.heap[T.heap.size]? = some (freshCell cX kX) := by rw [← hT1]; exact State.heap_pushCell_size _ _
  have d3' : decode c.code (pc + 3) = .ok (.dup, 1) := by rw [hb]; exact d3
  have d4' : decode c.code (pc + 4) = .ok (.ldc is, 2) := by rw [hb]; exact d4
  have hstr' : vk_R own is text sa s' := vk_R.warm hW0 hstr
  obtain ⟨U, hsteps, hrun, hend, hW, hsame, ce, hce, hO⟩ := X₁.ctorThrowS hexec htr (own := own) (cls := cls) (names := names) (ic := ic) hown' hcls hnames h (fun x hx => nomatch hx) hfX hkX hcellA (by rw [hhp, hT]; exact Nat.le_refl _) (msg := .ref sa) rfl
    (g := { method := m, pc := pc + 6, locals := ls, stack := .ref sa :: .ref T.heap.size :: .ref T.heap.size :: rest, locked := none }) rfl hsize rfl rfl (rest := rest) rfl
    (by rw [hb]; exact d6) (by rw [hb]; exact d9) hout hRframes (by simp only [List.map_cons, List.sum_cons, hcat]; omega) hlocks
  obtain ⟨f1, f2⟩ := vx_frame hsame
  rw [hhp] at f1 f2
  have hWs : s.WarmedH U.vm := State.WarmedH.trans hW0 hW
  have hcl : s.vm.findClass cls = some ce.cls := by
    have h9 := hO.cls
    rw [hvm] at h9
    exact h9
  have hall : s.sameButNew ({ U with vm := s.vm } : State) locs mc ms := by
    subst hA
    obtain ⟨e1, e2⟩ := hsame
    rw [State.setFrames_setFrames] at e1
    have h2 : (T.setVm s.vm).sameButNew ({ U with vm := s.vm } : State) [] (0 + 1) (0 + 6) := ⟨e1, e2⟩
    have h3 := X.same.trans h2
    rw [List.append_nil] at h3
    exact h3.mono hc hs
  refine ⟨U, ?_, .threw T.heap.size, hrun, hend, Or.inr ⟨T.heap.size, rfl, cls, ce, locs, hx U hWs.alike f1 (fun q hq => f2 q hq (fun z hz => nomatch hz)), hce, hO.vm, hcl, hWs, hall, hf⟩⟩
  refine st1 _ ?_
  show Steps p.tables e below (T1.setTop { method := m, pc := pc + 3, locals := ls, stack := .ref T.heap.size :: rest, locked := none }) _
  jvm_step X₁.here [X₁.here.top, hexec, d3', Value.category]
  exact X₁.ldcString hexec (own := own) (text := text) (index := is) (a := sa) hown' hstr'.1 hstr'.2
    (g := { method := m, pc := pc + 4, locals := ls, stack := .ref T.heap.size :: .ref T.heap.size :: rest, locked := none }) rfl d4' _ hsteps
/-- 'throw new E("text")', the text by a wide index -/
theorem vx_throwSW {cc : ByteArray} {pc : Nat} (hexec : p.tables.exec = Jvm.exec) (hb : c.code = cc) (hl : l.stackTraces = false) {own cls text : String} {names : List String} {ik is ic mc ms sa : Nat} {A : Nat → Prop}
    (hown : s.vm.findClass own = some m.cls) (hcls : Bundle.fit cls = true) (hnames : ∀ n ∈ names, Bundle.fit n = true)
    (hk : (Cond.classLink own ik cls).before args s = true) (hini : (Cond.initialized cls).before args s = true) (hstr : vk_R own is text sa s) (hat : ∀ w ∈ vx_atS own ic cls names, w.before args s = true)
    (hgood : ∀ w ∈ Cond.classLink own ik cls :: Cond.initialized cls :: vx_atS own ic cls names, vx_ot w = true)
    (hU : vx_Zq Bundle.tN "UNASSIGNED_STACK" Bundle.steD A s s.heap) (hN : vx_Zq Bundle.tN "SUPPRESSED_SENTINEL" Bundle.listD A s s.heap) (hS : va_S A s.heap H locs) (hsize : ls.size = c.maxLocals)
    (d0 : decode cc pc = .ok (.new ik, 3)) (d3 : decode cc (pc + 3) = .ok (.dup, 1)) (d4 : decode cc (pc + 4) = .ok (.ldc_w is, 3)) (d7 : decode cc (pc + 7) = .ok (.invokespecial ic, 3)) (d10 : decode cc (pc + 10) = .ok (.athrow, 1))
    (hout : ∀ x ∈ c.exceptionTable.toList, covers x (pc + 10) = false)
    (hRframes : names.length + 3 < R.frames) (hRlocals : (rest.map fun v => v.category).sum + (13 * (names.length + 1) + 43) ≤ R.locals) (hRcells : cells + 1 ≤ R.cells) (hRslots : slots + 6 ≤ R.slots) (hlocks : meth.locks = false)
    (hx : ∀ t : State, s.vm.Alike t.vm → H.size ≤ t.heap.size → (∀ q : Nat, q < H.size → t.heap[q]? = H[q]?) → XC cls s t)
    (hf : ∀ z ∈ locs, free z.base) (hc : cells + 1 ≤ mc) (hs : slots + 6 ≤ ms) :
    W p l e R s m args below meth c H locs cells slots (vx_MQ below Qc XC args s mc ms free) (F0 m pc ls rest) := by
  intro T hT X
  have htr : e.platform.stackTraces = false := (show e.platform.stackTraces = l.stackTraces by rw [X.admits.platform]).trans hl
  have Y := vx_rebase X (R' := { frames := R.frames, locals := R.locals, cells := 1, slots := 6 }) (Nat.le_refl _) (Nat.le_refl _) hRcells hRslots
  obtain ⟨s', hA⟩ : ∃ z, z = (T.setVm s.vm).setFrames (.invoking m args :: below) := ⟨_, rfl⟩
  rw [← hA] at Y
  have hvm : s'.vm = s.vm := by rw [hA]; rfl
  have hhp : s'.heap = H := by rw [hA]; exact hT
  have hW0 : s.WarmedH s'.vm := by rw [hvm]; exact State.WarmedH.refl s
  have hat' : ∀ w ∈ vx_atS own ic cls names, w.before args s' = true := fun w hw => vx_ot_at hW0 hvm.symm (hgood w (List.mem_cons_of_mem _ (List.mem_cons_of_mem _ hw))) (hat w hw)
  have hk' : (Cond.classLink own ik cls).before args s' = true := vx_ot_at hW0 hvm.symm (hgood _ List.mem_cons_self) hk
  have hini' : (Cond.initialized cls).before args s' = true := vx_ot_at hW0 hvm.symm (hgood _ (List.mem_cons_of_mem _ List.mem_cons_self)) hini
  have hU' : vx_Zq Bundle.tN "UNASSIGNED_STACK" Bundle.steD A s' s'.heap := by rw [hhp]; exact vx_Zq.moved hW0.alike (hU.kept hS.2.1)
  have hN' : vx_Zq Bundle.tN "SUPPRESSED_SENTINEL" Bundle.listD A s' s'.heap := by rw [hhp]; exact vx_Zq.moved hW0.alike (hN.kept hS.2.1)
  have h : ∀ w ∈ Bundle.ownAtoms own ic cls names, w.before args s' = true := vx_own hat' (vx_isRefq hU'.1) (vx_isRefq hN'.1) hU'.2.word hN'.2.word
  have hown' : s'.vm.findClass own = some m.cls := by rw [hvm]; exact hown
  have hins : (Cond.instantiable cls 6).before args s' = true := h _ (by simp [Bundle.ownAtoms])
  obtain ⟨vm₁, cX, kX, hfX, hkX, -, -, X₁, st1⟩ := Y.newCold hexec (own := own) (C := cls) (index := ik) (n := 6) hown' hk' hins hini'
    (g := F0 m pc ls rest) rfl (by rw [hb]; exact d0) (Nat.le_refl _) (Nat.le_refl _)
  generalize hT1 : (T.setVm vm₁).pushCell { cls := cX, slots := kX.instanceTypes.map defaultValue, vm := .none } = T1 at X₁ st1
  have hcat : (Value.ref T.heap.size).category = 1 := rfl
  have hcellA : T1.heap[T.heap.size]? = some (freshCell cX kX) := by rw [← hT1]; exact State.heap_pushCell_size _ _
  have d3' : decode c.code (pc + 3) = .ok (.dup, 1) := by rw [hb]; exact d3
  have d4' : decode c.code (pc + 4) = .ok (.ldc_w is, 3) := by rw [hb]; exact d4
  have hstr' : vk_R own is text sa s' := vk_R.warm hW0 hstr
  obtain ⟨U, hsteps, hrun, hend, hW, hsame, ce, hce, hO⟩ := X₁.ctorThrowS hexec htr (own := own) (cls := cls) (names := names) (ic := ic) hown' hcls hnames h (fun x hx => nomatch hx) hfX hkX hcellA (by rw [hhp, hT]; exact Nat.le_refl _) (msg := .ref sa) rfl
    (g := { method := m, pc := pc + 7, locals := ls, stack := .ref sa :: .ref T.heap.size :: .ref T.heap.size :: rest, locked := none }) rfl hsize rfl rfl (rest := rest) rfl
    (by rw [hb]; exact d7) (by rw [hb]; exact d10) hout hRframes (by simp only [List.map_cons, List.sum_cons, hcat]; omega) hlocks
  obtain ⟨f1, f2⟩ := vx_frame hsame
  rw [hhp] at f1 f2
  have hWs : s.WarmedH U.vm := State.WarmedH.trans hW0 hW
  have hcl : s.vm.findClass cls = some ce.cls := by
    have h9 := hO.cls
    rw [hvm] at h9
    exact h9
  have hall : s.sameButNew ({ U with vm := s.vm } : State) locs mc ms := by
    subst hA
    obtain ⟨e1, e2⟩ := hsame
    rw [State.setFrames_setFrames] at e1
    have h2 : (T.setVm s.vm).sameButNew ({ U with vm := s.vm } : State) [] (0 + 1) (0 + 6) := ⟨e1, e2⟩
    have h3 := X.same.trans h2
    rw [List.append_nil] at h3
    exact h3.mono hc hs
  refine ⟨U, ?_, .threw T.heap.size, hrun, hend, Or.inr ⟨T.heap.size, rfl, cls, ce, locs, hx U hWs.alike f1 (fun q hq => f2 q hq (fun z hz => nomatch hz)), hce, hO.vm, hcl, hWs, hall, hf⟩⟩
  refine st1 _ ?_
  show Steps p.tables e below (T1.setTop { method := m, pc := pc + 3, locals := ls, stack := .ref T.heap.size :: rest, locked := none }) _
  jvm_step X₁.here [X₁.here.top, hexec, d3', Value.category]
  exact X₁.ldcStringW hexec (own := own) (text := text) (index := is) (a := sa) hown' hstr'.1 hstr'.2
    (g := { method := m, pc := pc + 4, locals := ls, stack := .ref T.heap.size :: .ref T.heap.size :: rest, locked := none }) rfl d4' _ hsteps
end Ends
section Bodies
variable {l : Launch}
theorem vx_ofW {y : MethodName} {ws ws' : List Cond} {rm : Room} {Pc : Array Value → State → Prop} {Qc : Array Value → State → Outcome → State → Prop} {XC : String → State → State → Prop} {mc ms : Nat} {free : Addr → Prop} {cc : ByteArray} {maxL : Nat} {ret : Option FieldType}
    (hy : plainName y.cls = true) (hw : ws = Cond.code y cc maxL ret :: ws')
    (body : ∀ p e s m args below meth c s₁, BodyLoose p l y (headSpec ws rm) cc maxL ret e s m args below meth c s₁ → c.maxLocals = maxL → (∀ x ∈ c.exceptionTable.toList, False) → Pc args s →
      W p l e (headSpec ws rm).room s m args below meth c s.heap [] 0 0 (vx_MQ below Qc XC args s mc ms free) (entryFrame m args maxL)) : vx_Met l y ws rm Pc Qc XC mc ms free := by
  refine MetFree.of_bodyS (code := cc) (maxLocals := maxL) (ret := ret) hy ?_ ?_
  · intro args s m h hn
    obtain ⟨meth, c, h1, h2, h3, h4, h5, h6, -, -⟩ := Cond.code_spec hn (atoms_spec (ws := ws) h _ (by rw [hw]; exact List.mem_cons_self))
    exact ⟨meth, c, h1, h2, h3, h4, h5, h6⟩
  · intro p e s m args below meth c s₁ B hml hP _
    have hh0 : s₁.heap = s.heap := by rw [B.state]; rfl
    have ht : ∀ x ∈ c.exceptionTable.toList, False := by
      obtain ⟨meth9, c9, h1, h2, -, -, -, -, h7, -⟩ := Cond.code_spec B.named (atoms_spec (ws := ws) B.pre _ (by rw [hw]; exact List.mem_cons_self))
      cases Option.some.inj (h1.symm.trans B.method)
      cases Option.some.inj (h2.symm.trans (Stand.of_body B).code)
      intro x hx
      rw [Array.isEmpty_iff.mp h7] at hx
      cases hx
    obtain ⟨t, a1, o, b1, b2, b3⟩ := body p e s m args below meth c s₁ B hml ht hP s₁ hh0 (Stand.of_body B)
    exact ⟨t, o, a1, b1, b2, b3⟩
/-- the table of a body with handlers -/
theorem vx_table {p : Program} {x y : MethodName} {S : Spec} {cc bytes : ByteArray} {maxL maxL' : Nat} {ret ret' : Option FieldType} {e : Env} {s s₁ : State} {m : MethodId} {args : Array Value} {below : List Frame} {meth : Method} {c : Code} {hh : List (Nat × Nat × Nat × Nat)}
    (B : BodyLoose p l y S cc maxL ret e s m args below meth c s₁) (h : (Cond.codeWith y bytes maxL' ret' hh).before args s = true) : c.exceptionTable.toList = tableOf hh := by
  obtain ⟨m9, meth9, c9, hn9, h1, h2, -, -, h6, -⟩ := Cond.codeWith_spec h
  cases Option.some.inj (hn9.symm.trans B.named)
  cases Option.some.inj (h1.symm.trans B.method)
  cases Option.some.inj (h2.symm.trans (Stand.of_body B).code)
  rw [← h6, table_eq]
end Bodies
end VXA
/-! ===== END ===== -/
/-! ===== BEGIN a static call of a method with an exception table ===== -/
section VXS
variable {p : Program} {l : Launch} {e : Env} {R : Room} {s : State} {m : MethodId} {args : Array Value} {below : List Frame} {meth : Method} {c : Code} {T : State} {H : Heap} {locs : List Loc} {cells slots : Nat}
abbrev vx_CSW (R : Room) (s : State) (args : Array Value) (own : String) (index : Nat) (y : MethodName) (bytes : ByteArray) (maxL : Nat) (ret : Option FieldType) (hh : List (Nat × Nat × Nat × Nat)) (ws : List Cond) (rm : Room) (mc ms n : Nat) : Prop :=
  (rm.cells = mc ∧ rm.slots = ms ∧ rm.frames + 1 ≤ R.frames ∧ 8 + (maxL + 11) + rm.locals ≤ R.locals ∧ (∀ w ∈ ws, ∀ (a' : Array Value) (U : State), s.WarmedH U.vm → w.before a' U = true) ∧ Cond.codeWith y bytes maxL ret hh ∈ ws) ∧
  (Cond.codeWith y bytes maxL ret hh).before args s = true ∧ (Cond.initialized y.cls).before args s = true ∧ (y.cls ≠ "java/lang/invoke/MethodHandle" ∧ y.cls ≠ "java/lang/invoke/VarHandle") ∧
  (∀ sig, parseMethodDescriptor y.desc = some sig → n = sig.parameters.length) ∧ (Cond.methodLink own index y).before args s = true ∧ (Cond.static y).before args s = true
theorem vx_cwSW {own : String} {index maxL mc ms : Nat} {y : MethodName} {bytes : ByteArray} {ret : Option FieldType} {hh : List (Nat × Nat × Nat × Nat)} {Ts ws ws' : List Cond} {rm : Room} (n : Nat) (ht : ∀ w ∈ Ts, w.before args s = true) (hT : GoodIn Ts (va_wsS own index y ws)) (hw : ws = Cond.codeWith y bytes maxL ret hh :: ws') (hrc : rm.cells = mc) (hrs : rm.slots = ms)
    (hd : y.cls ≠ "java/lang/invoke/MethodHandle" ∧ y.cls ≠ "java/lang/invoke/VarHandle" ∧ (parseMethodDescriptor y.desc).map (fun d => d.parameters.length) = some n) (hR : rm.frames + 1 ≤ R.frames ∧ 8 + (maxL + 11) + rm.locals ≤ R.locals) :
    vx_CSW R s args own index y bytes maxL ret hh ws rm mc ms n := by
  have ok : ∀ w ∈ va_wsS own index y ws, w.before args s = true := fun w h => ht w (hT w h).1
  have hG : GoodIn Ts ws := fun w h => hT w (by unfold va_wsS; exact List.mem_append_right _ h)
  have hc : Cond.codeWith y bytes maxL ret hh ∈ ws := by rw [hw]; exact List.mem_cons_self
  refine ⟨⟨hrc, hrs, hR.1, hR.2, pay_in ht hG, hc⟩, ht _ (hG _ hc).1, ok _ (by simp [va_wsS]), ⟨hd.1, hd.2.1⟩, fun sig h => ?_, ok _ (by simp [va_wsS]), ok _ (by simp [va_wsS])⟩
  have h2 := hd.2.2
  rw [h] at h2
  exact (Option.some.inj h2).symm
theorem vx_callSW (X : Stand p l e R s m args below meth c T locs cells slots) (hexec : p.tables.exec = Jvm.exec) {own : String} {index : Nat} {y : MethodName} {bytes : ByteArray} {maxL : Nat} {ret : Option FieldType} {hh : List (Nat × Nat × Nat × Nat)}
    (hown : s.vm.findClass own = some m.cls) (hlink : (Cond.methodLink own index y).before args s = true) (hstat : (Cond.static y).before args s = true) (hinit : (Cond.initialized y.cls).before args s = true)
    (hcode : (Cond.codeWith y bytes maxL ret hh).before args s = true) (hy : y.cls ≠ "java/lang/invoke/MethodHandle" ∧ y.cls ≠ "java/lang/invoke/VarHandle")
    {W9 : Nat} {Pre : Pt → Array Value → Prop} {Post : Pt → Array Value → Option Value → Pt → Prop} (hK : Back l R p e below s args y 3 W9 Pre Post)
    {g : JFrame} (hg : g.method = m) (hsize : g.locals.size = c.maxLocals) {argsL rest : List Value} (hlen : ∀ sig, parseMethodDescriptor y.desc = some sig → argsL.length = sig.parameters.length)
    (hstack : g.stack = argsL.reverse ++ rest) (hW : 2 * g.monitorRoom + (rest.map fun v => v.category).sum ≤ W9) (hdg : decode c.code g.pc = .ok (.invokestatic index, 3))
    (hpre : ∀ vm₁, s.WarmedH vm₁ → Pre ⟨T.setVm vm₁, locs, cells, slots⟩ argsL.toArray) :
    ∃ (v : Option Value) (vm₁ : Vm) (B : Pt), s.WarmedH vm₁ ∧ Stand p l e R s m args below meth c B.U B.locs B.cells B.slots ∧ Post ⟨T.setVm vm₁, locs, cells, slots⟩ argsL.toArray v B ∧
      ∀ target, Steps p.tables e below (B.U.setTop { g with pc := g.pc + 3, stack := v.toList ++ rest }) target → Steps p.tables e below (T.setTop g) target := by
  obtain ⟨mk, methM, cM, hnamed, hmethM, -, -, -, -, -, -, hsigM⟩ := Cond.codeWith_spec hcode
  have hstatic : methM.isStatic = true := Cond.static_spec hnamed hmethM hstat
  obtain ⟨kP, hkP, -⟩ := className_of_methodNamed hnamed
  have hinitP : kP.init = .initialized := Cond.initialized_spec (findClass_of_methodNamed hnamed) hkP hinit
  obtain ⟨vm₁, X₁, hstep₁⟩ := X.invokestatic hexec hown hlink hnamed hmethM hstatic hkP hinitP hy (g := g) hg (argsL := argsL) (rest := rest) (hlen _ hsigM) hstack hdg
  obtain ⟨v, B, X', hpost, hsteps⟩ := hK m meth c ⟨T.setVm vm₁, locs, cells, slots⟩ { g with stack := rest } (.invokestatic index) mk argsL.toArray X₁ hg hsize hdg hW (X₁.named hnamed) (hpre vm₁ X₁.warmed)
  exact ⟨v, vm₁, B, X₁.warmed, X', hpost, fun target h => hstep₁ _ fun acts => by rw [doInvoke_state]; exact hsteps.trans h⟩
theorem vx_runSW {y : MethodName} {bytes cc : ByteArray} {maxL nL mc ms n index : Nat} {ret : Option FieldType} {hh : List (Nat × Nat × Nat × Nat)} {ws : List Cond} {rm : Room} {Pc : Array Value → State → Prop} {Qc : Array Value → State → Outcome → State → Prop} {free : Addr → Prop} {Ts : List Cond} {own : String} {As rest : List Value} {g : JFrame}
    (S : CallFix p m c cc nL s args Ts own) (hM : Met l y ws rm Pc Qc mc ms free) (cw : vx_CSW R s args own index y bytes maxL ret hh ws rm mc ms n) (hp : PreS s H Pc As)
    (hg : g.method = m) (hn : As.length = n) (hsize : g.locals.size = nL) (hstack : g.stack = As.reverse ++ rest) (hW : 2 * g.monitorRoom + (rest.map fun v => v.category).sum ≤ 8) (hdg : decode cc g.pc = .ok (.invokestatic index, 3)) (hf : cells + mc ≤ R.cells ∧ slots + ms ≤ R.slots) :
    va_Run p l e R s m args below meth c H locs cells slots mc ms g rest (Qc As.toArray) (free) := by
  obtain ⟨⟨hrc, hrs, hfr, hlo, hws, hcw⟩, hcode, hini, hy, hlen, hl, hstt⟩ := cw
  have hK : Back l R p e below s args y 3 8 (PreOf R mc ms Pc) (PostOf Qc mc ms free) := va_backW (hh := hh) (bytes := bytes) (maxL := maxL) (ret := ret) hM hp.1 hrc hrs hfr hlo hws hcw (fun a' U hW => word_at hW (Or.inl (by first | rfl | simp [Cond.onTables, Cond.keeps, Cond.steady])) hini)
  obtain ⟨hx, hb, hml, ho, -⟩ := S
  intro T hT X
  obtain ⟨v, vm₁, ⟨U', l2, c2, s2⟩, hW₁, X', ⟨g', mk, t, L, e1, e2, hq, h1, hL, h2, h3⟩, st⟩ := vx_callSW X hx (hh := hh) (bytes := bytes) (maxL := maxL) (ret := ret) ho hl hstt hini hcode hy hK hg (hsize.trans hml.symm) (argsL := As) (rest := rest) (fun sig h => hn.trans (hlen sig h)) hstack hW (by rw [hb]; exact hdg)
    (fun vm₁ hW₁ => ⟨hf.1, hf.2, hp.2 (T.setVm vm₁) hT hW₁⟩)
  dsimp only [Pt.U, Pt.locs, Pt.cells, Pt.slots] at X' e1 e2 h1 h2 h3 st
  subst h1; subst h2; subst h3
  exact ⟨v, (T.setVm vm₁).calling g' mk As.toArray, t, U', L, hT, X', hL, e1, e2, hq, st⟩
/-- not caught here, past rows that name other classes: it goes on to the caller -/
theorem vx_outP {p : Program} {l : Launch} {e : Env} {R : Room} {s : State} {m : MethodId} {args : Array Value} {below : List Frame} {meth : Method} {c : Code} {H : Heap} {locs : List Loc} {cells slots : Nat} {free : Addr → Prop} {ls : Array Slot} {rest : List Value} {Qc : Array Value → State → Outcome → State → Prop} {XC : String → State → State → Prop}
    {pc : Nat} {own E : String} {ce : Cell} {q : Addr} {mc ms : Nat} (hown : s.vm.findClass own = some m.cls) (hlocks : meth.locks = false)
    (hpass : ∀ z ∈ c.exceptionTable.toList, covers z pc = false ∨ (z.catchType ≠ 0 ∧ ∃ nm : String, (Cond.classLink own z.catchType nm).before args s = true ∧ va_Nc E nm s)) (hcell : H[q]? = some ce) (hv : ce.vm = .none) (hcl : s.vm.findClass E = some ce.cls)
    (hx : ∀ t : State, t.heap = H → s.vm.Alike t.vm → XC E s t) (hf : ∀ z ∈ locs, free z.base) (hc : cells ≤ mc) (hs : slots ≤ ms) :
    vx_W p l e R s m args below meth c H locs cells slots (vx_MQ below Qc XC args s mc ms free) (F0 m pc ls rest) q := by
  intro T hT X
  have hpl : e.platform.magicAccessors = ({} : Platform).magicAccessors := by rw [X.admits.platform]
  obtain ⟨vm', hW', X', st⟩ := X.outThrough hlocks q (g := F0 m pc ls rest) rfl rfl rfl (cell := ce) (by rw [hT]; exact hcell) (by rw [hv]; rfl)
    (by obtain ⟨k9, h9, -⟩ := Vm.findClass_spec hcl; exact ⟨k9, h9⟩) (fun z hz => by
      rcases hpass z hz with h | ⟨hz0, nm, hl1, hn1⟩
      · exact Or.inl h
      · obtain ⟨c6, hc6, hcl6⟩ := Cond.classLink_spec hown hl1 e.platform hpl
        obtain ⟨a8, b8, h1, h2, h3⟩ := hn1
        cases Option.some.inj (h1.symm.trans hcl)
        cases Option.some.inj (h2.symm.trans hc6)
        exact Or.inr ⟨hz0, _, hcl6, h3⟩)
  obtain ⟨g₀, hfr⟩ := X'.frames_eq
  have hcell9 : ((T.setVm vm').setFrames (.throwing q :: below)).heap[q]? = some ce := by
    show T.heap[q]? = some ce
    rw [hT]; exact hcell
  have hend : Ended ((T.setVm vm').setFrames (.throwing q :: below)) below (.threw q) := State.frames_setFrames _ (State.cur_lt_of_frames hfr)
  refine ⟨(T.setVm vm').setFrames (.throwing q :: below), ?_, .threw q, X'.here.running, hend, Or.inr ⟨q, rfl, E, ce, locs, hx _ hT (X'.ends _).1.alike, hcell9, hv, hcl, (X'.ends _).1, (X'.ends _).2.mono hc hs, hf⟩⟩
  rw [X.pushThrowing_eq]
  exact st
/-- a thing of a world lies in the heap -/
theorem vx_lt {D : va_G} {cl : List vw_C} {ws : va_W} {H1 : Heap} (h : va_P D cl ws H1) {k : Nat} {q : Nat × va_E} (hk : ws[k]? = some q) : q.1 < H1.size := (h k q hk).lt
end VXS
/-! ===== END ===== -/
/-! ===== BEGIN methods with a table of their own: called by a name, returning or throwing ===== -/
section VXH
/-! vx_backW, vx_callVX, vx_callSX, vx_callVW, vx_runVW, vx_runVX, vx_runSX, vx_ofWH follow the same proofs as their sisters above (Free/Laws.lean, Shelf42/LK1.lean); vx_outP calls Shelf42/NT130.lean (outThrough). -/
section
variable {l : Launch} {R : Room} {p : Program} {e : Env} {below : List Frame} {s : State} {sargs : Array Value} {y : MethodName} {len W9 : Nat}
theorem vx_backW {ws : List Cond} {rm : Room} {Pc : Array Value → State → Prop} {Qc : Array Value → State → Outcome → State → Prop} {XC : String → State → State → Prop} {mc ms : Nat} {free : Addr → Prop} {bytes : ByteArray} {maxL : Nat} {ret : Option FieldType} {hh : List (Nat × Nat × Nat × Nat)}
    (hM : vx_Met l y ws rm Pc Qc XC mc ms free) (hblind : FrameBlind Pc) (hrc : rm.cells = mc) (hrs : rm.slots = ms)
    (hframes : rm.frames + 1 ≤ R.frames) (hlocals : W9 + (maxL + 11) + rm.locals ≤ R.locals)
    (hws : ∀ w ∈ ws, ∀ a' U, s.WarmedH U.vm → w.before a' U = true) (hcode : Cond.codeWith y bytes maxL ret hh ∈ ws) (hinit : ∀ a' U, s.WarmedH U.vm → (Cond.initialized y.cls).before a' U = true) :
    vx_Back l R p e below s sargs y len W9 (PreOf R mc ms Pc) (PostOf Qc mc ms free) (vx_Post XC mc ms free) := by
  intro m meth c A g ig mk a X hg hsize hdg hW hn hp
  have h1 : (headSpec ws rm).pre.before a A.U = true := atoms_intro fun w hw => hws w hw _ _ X.warmed
  have h2 : (Cond.codeWith y bytes maxL ret hh).before a A.U = true := hws _ hcode _ _ X.warmed
  have h3 : (Cond.initialized y.cls).before a A.U = true := hinit _ _ X.warmed
  have h4 : A.cells + (headSpec ws rm).room.cells ≤ R.cells := by rw [show (headSpec ws rm).room.cells = mc from hrc]; exact hp.1
  have h5 : A.slots + (headSpec ws rm).room.slots ≤ R.slots := by rw [show (headSpec ws rm).room.slots = ms from hrs]; exact hp.2.1
  have hPc : Pc a (A.U.calling g mk a) := hblind _ _ _ _ hp.2.2
  obtain ⟨U, Ls, c0, s0⟩ := A
  dsimp only [Pt.U, Pt.locs, Pt.cells, Pt.slots] at h1 h2 h3 h4 h5 X hn hPc ⊢
  obtain ⟨m9, methY, cY, hn9, hmY, hcY, -, hlY, -⟩ := Cond.codeWith_spec h2
  cases Option.some.inj (hn9.symm.trans hn)
  obtain ⟨kY, hkY, -⟩ := className_of_methodNamed hn
  have hinitY : kY.init = .initialized := Cond.initialized_spec (findClass_of_methodNamed hn) hkY h3
  have h : At U g.method c below := by rw [hg]; exact X.here
  have hlocals9 : W9 + (maxL + 11) + (headSpec ws rm).room.locals ≤ R.locals := hlocals
  have happ : (headSpec ws rm).appliesLoose y e.platform (U.calling g mk a) = true :=
    Spec.appliesLoose_calling (g := g) h hdg hn hkY hinitY
      (X.room_calling (g := g) (R' := (headSpec ws rm).room) hsize hmY hcY hframes (by rw [hlY]; omega) h4 h5) h1
  obtain ⟨mid, hmid⟩ := h.above
  have hfr : (U.setTop g).frames = (.java g :: mid) ++ below := by rw [State.frames_setTop' g h.top, hmid]; rfl
  obtain ⟨o, s₂, hsteps, -, hend, hq⟩ := Steps.callFree hM p X.admits X.cas X.clock (acts := []) hfr happ hPc trivial
  have hq' : vx_Q Qc XC mc ms free a (U.calling g mk a) o s₂ := hq
  rw [State.frames_setTop' g h.top] at hend
  obtain ⟨g₀, hg0⟩ := Option.isSome_iff_exists.mp h.top
  obtain ⟨r, hr⟩ := State.topJava?_eq_some.mp hg0
  have hr' : (({ U with heap := s₂.heap, slotsUsed := s₂.slotsUsed } : State).setVm s₂.vm).frames = .java g₀ :: r := hr
  rcases hq' with ⟨hqc, L, hfe, hL⟩ | ⟨q, rfl, E, ce, L, hx, hce, hcv, hcl, hW₂, hsm, hL⟩
  · obtain ⟨⟨v, rfl⟩, hW₂, e2, q2, q3, q4, q5, q6⟩ := id hfe
    have e3 : s₂ = ({ (U.calling g mk a).setFrames s₂.frames with heap := s₂.heap, slotsUsed := s₂.slotsUsed } : State).setVm s₂.vm := by
      have : s₂ = ({ s₂ with vm := (U.calling g mk a).vm } : State).setVm s₂.vm := rfl
      rw [e2] at this
      exact this
    obtain ⟨c₂, i₂, len₂, hc₂, hd₂, hf₂⟩ := hend
    have hW' : U.WarmedH s₂.vm := hW₂
    have hcc : c₂ = c := by
      have h1 : s₂.code? g.method = U.code? g.method := by
        rw [State.code?_eq, State.code?_eq, hW'.alike.method?]
      exact Option.some.inj (hc₂.symm.trans (h1.trans h.code))
    subst hcc
    have hlen : len₂ = len := by rw [hdg] at hd₂; cases hd₂; rfl
    subst hlen
    have hs₂ : s₂ = (({ U with heap := s₂.heap, slotsUsed := s₂.slotsUsed } : State).setVm s₂.vm).setTop { g with pc := g.pc + len₂, stack := v.toList ++ g.stack } := by
      refine e3.trans ?_
      rw [hf₂, State.calling_eq h.top, State.setFrames_setFrames, State.setTop_of_frames _ hr', hr]
      rfl
    have hsame : U.sameButNew ({ U with heap := s₂.heap, slotsUsed := s₂.slotsUsed } : State) L mc ms := by
      refine ⟨?_, q2, q3, q4, q5, q6⟩
      obtain ⟨t, ht, -⟩ := State.frames_cons hr
      show ({ U with heap := s₂.heap, slotsUsed := s₂.slotsUsed } : State) = { U.setFrames U.frames with heap := s₂.heap, slotsUsed := s₂.slotsUsed }
      rw [State.setFrames_self ht]
    subst hg
    refine Or.inl ⟨v, ⟨(({ U with heap := s₂.heap, slotsUsed := s₂.slotsUsed } : State).setVm s₂.vm), Ls ++ L, c0 + mc, s0 + ms⟩,
      ⟨X.admits, X.cas, X.clock, X.frames, X.room, X.hears, X.method, X.code, (X.here.setHeapUsed s₂.heap s₂.slotsUsed).setVm hW'.alike, X.tail, State.WarmedH.trans X.warmed hW', X.limits, X.bytes, X.same.trans (hsame.setVm s.vm)⟩,
      ⟨g, mk, s₂, L, rfl, rfl, hqc, rfl, hL, rfl, rfl⟩, ?_⟩
    show Steps p.tables e below _ ((({ U with heap := s₂.heap, slotsUsed := s₂.slotsUsed } : State).setVm s₂.vm).setTop { g with pc := g.pc + len₂, stack := v.toList ++ g.stack })
    rw [← hs₂]
    exact hsteps
  · obtain ⟨e2, q2, q3, q4, q5, q6⟩ := id hsm
    have e3 : s₂ = ({ (U.calling g mk a).setFrames s₂.frames with heap := s₂.heap, slotsUsed := s₂.slotsUsed } : State).setVm s₂.vm := by
      have : s₂ = ({ s₂ with vm := (U.calling g mk a).vm } : State).setVm s₂.vm := rfl
      rw [e2] at this
      exact this
    have hf₂ : s₂.frames = .throwing q :: .java g :: U.frames.tail := hend
    have hW' : U.WarmedH s₂.vm := hW₂
    have hs₂ : s₂ = ((({ U with heap := s₂.heap, slotsUsed := s₂.slotsUsed } : State).setVm s₂.vm).setTop g).pushFrame (.throwing q) := by
      refine e3.trans ?_
      rw [hf₂, State.calling_eq h.top, State.setFrames_setFrames, State.pushFrame, State.frames_setTop _ hr', State.setTop_of_frames _ hr', State.setFrames_setFrames, hr]
      rfl
    have hsame : U.sameButNew ({ U with heap := s₂.heap, slotsUsed := s₂.slotsUsed } : State) L mc ms := by
      refine ⟨?_, q2, q3, q4, q5, q6⟩
      obtain ⟨t, ht, -⟩ := State.frames_cons hr
      show ({ U with heap := s₂.heap, slotsUsed := s₂.slotsUsed } : State) = { U.setFrames U.frames with heap := s₂.heap, slotsUsed := s₂.slotsUsed }
      rw [State.setFrames_self ht]
    subst hg
    refine Or.inr ⟨q, ⟨(({ U with heap := s₂.heap, slotsUsed := s₂.slotsUsed } : State).setVm s₂.vm), Ls ++ L, c0 + mc, s0 + ms⟩,
      ⟨X.admits, X.cas, X.clock, X.frames, X.room, X.hears, X.method, X.code, (X.here.setHeapUsed s₂.heap s₂.slotsUsed).setVm hW'.alike, X.tail, State.WarmedH.trans X.warmed hW', X.limits, X.bytes, X.same.trans (hsame.setVm s.vm)⟩,
      ⟨g, mk, s₂, L, E, ce, rfl, rfl, hx, hce, hcv, hcl, rfl, hL, rfl, rfl⟩, ?_⟩
    show Steps p.tables e below _ (((({ U with heap := s₂.heap, slotsUsed := s₂.slotsUsed } : State).setVm s₂.vm).setTop g).pushFrame (.throwing q))
    rw [← hs₂]
    exact hsteps
end
variable {p : Program} {l : Launch} {e : Env} {R : Room} {s : State} {m : MethodId} {args : Array Value} {below : List Frame} {meth : Method} {c : Code} {T : State} {H : Heap} {locs : List Loc} {cells slots : Nat}
theorem vx_callVX (X : Stand p l e R s m args below meth c T locs cells slots) (hexec : p.tables.exec = Jvm.exec) {own C : String} {index : Nat} {y : MethodName} {bytes : ByteArray} {maxL : Nat} {ret : Option FieldType} {hh : List (Nat × Nat × Nat × Nat)}
    (hown : s.vm.findClass own = some m.cls) (hlink : (Cond.methodLink own index y).before args s = true) (hinst : (Cond.instanceMethod y).before args s = true) (hsel : (Cond.selects C y y).before args s = true)
    (hcode : (Cond.codeWith y bytes maxL ret hh).before args s = true) (hy : y.cls ≠ "java/lang/invoke/MethodHandle" ∧ y.cls ≠ "java/lang/invoke/VarHandle")
    {W9 : Nat} {Pre : Pt → Array Value → Prop} {Post : Pt → Array Value → Option Value → Pt → Prop} {PostX : Pt → Array Value → Addr → Pt → Prop} (hK : vx_Back l R p e below s args y 3 W9 Pre Post PostX)
    {b : Addr} {cellB : Cell} (hcell : T.heap[b]? = some cellB) (hobj : cellB.vm.isStatics = false) (hcls : s.vm.findClass C = some cellB.cls)
    {g : JFrame} (hg : g.method = m) (hsize : g.locals.size = c.maxLocals) {argsL rest : List Value} (hlen : ∀ sig, parseMethodDescriptor y.desc = some sig → argsL.length = sig.parameters.length)
    (hstack : g.stack = argsL.reverse ++ .ref b :: rest) (hW : 2 * g.monitorRoom + (rest.map fun v => v.category).sum ≤ W9) (hdg : decode c.code g.pc = .ok (.invokevirtual index, 3))
    (hpre : ∀ vm₁, s.WarmedH vm₁ → Pre ⟨T.setVm vm₁, locs, cells, slots⟩ (Value.ref b :: argsL).toArray) :
    (∃ (v : Option Value) (vm₁ : Vm) (B : Pt), s.WarmedH vm₁ ∧ Stand p l e R s m args below meth c B.U B.locs B.cells B.slots ∧ Post ⟨T.setVm vm₁, locs, cells, slots⟩ (Value.ref b :: argsL).toArray v B ∧
      ∀ target, Steps p.tables e below (B.U.setTop { g with pc := g.pc + 3, stack := v.toList ++ rest }) target → Steps p.tables e below (T.setTop g) target) ∨
    (∃ (q : Addr) (vm₁ : Vm) (B : Pt), s.WarmedH vm₁ ∧ Stand p l e R s m args below meth c B.U B.locs B.cells B.slots ∧ PostX ⟨T.setVm vm₁, locs, cells, slots⟩ (Value.ref b :: argsL).toArray q B ∧
      Steps p.tables e below (T.setTop g) ((B.U.setTop { g with stack := rest }).pushFrame (.throwing q))) := by
  obtain ⟨mk, methM, hnamed, hmethM, hstM, habM⟩ := Cond.instanceMethod_spec hinst
  obtain ⟨m8, methM', cM, hn8, hmethM', -, -, -, -, -, -, hsigM⟩ := Cond.codeWith_spec hcode
  cases Option.some.inj (hn8.symm.trans hnamed)
  cases hmethM.symm.trans hmethM'
  obtain ⟨c2, r2, m2, q1, q2, q3, q4, kP, hkP, hkPi⟩ := Cond.selects_spec hsel
  cases hcls.symm.trans q1
  cases (State.methodFound?_of_named hnamed hy).symm.trans q2
  cases hnamed.symm.trans q3
  have hselP : selectMethod e.platform s.vm cellB.cls mk = .method mk := by rw [Launch.admits_selectMethod X.admits]; exact q4
  obtain ⟨vm₁, X₁, hstep₁⟩ := X.invokevirtual hexec hown hlink hnamed hmethM hstM hkP hkPi hy (a := b) (cell := cellB) hcell
    (fun z h => by rw [h] at hobj; cases hobj) hselP hmethM habM hkP hkPi (g := g) hg (argsL := argsL) (rest := rest) (hlen _ hsigM) hstack hdg
  rcases hK m meth c ⟨T.setVm vm₁, locs, cells, slots⟩ { g with stack := rest } (.invokevirtual index) mk (Value.ref b :: argsL).toArray X₁ hg hsize hdg hW (X₁.named hnamed) (hpre vm₁ X₁.warmed) with ⟨v, B, X', hpost, hsteps⟩ | ⟨q, B, X', hpost, hsteps⟩
  · exact Or.inl ⟨v, vm₁, B, X₁.warmed, X', hpost, fun target h => hstep₁ _ fun acts => by rw [doInvoke_state]; exact hsteps.trans h⟩
  · exact Or.inr ⟨q, vm₁, B, X₁.warmed, X', hpost, hstep₁ _ fun acts => by rw [doInvoke_state]; exact hsteps⟩
theorem vx_callSX (X : Stand p l e R s m args below meth c T locs cells slots) (hexec : p.tables.exec = Jvm.exec) {own : String} {index : Nat} {y : MethodName} {bytes : ByteArray} {maxL : Nat} {ret : Option FieldType} {hh : List (Nat × Nat × Nat × Nat)}
    (hown : s.vm.findClass own = some m.cls) (hlink : (Cond.methodLink own index y).before args s = true) (hstat : (Cond.static y).before args s = true) (hinit : (Cond.initialized y.cls).before args s = true)
    (hcode : (Cond.codeWith y bytes maxL ret hh).before args s = true) (hy : y.cls ≠ "java/lang/invoke/MethodHandle" ∧ y.cls ≠ "java/lang/invoke/VarHandle")
    {W9 : Nat} {Pre : Pt → Array Value → Prop} {Post : Pt → Array Value → Option Value → Pt → Prop} {PostX : Pt → Array Value → Addr → Pt → Prop} (hK : vx_Back l R p e below s args y 3 W9 Pre Post PostX)
    {g : JFrame} (hg : g.method = m) (hsize : g.locals.size = c.maxLocals) {argsL rest : List Value} (hlen : ∀ sig, parseMethodDescriptor y.desc = some sig → argsL.length = sig.parameters.length)
    (hstack : g.stack = argsL.reverse ++ rest) (hW : 2 * g.monitorRoom + (rest.map fun v => v.category).sum ≤ W9) (hdg : decode c.code g.pc = .ok (.invokestatic index, 3))
    (hpre : ∀ vm₁, s.WarmedH vm₁ → Pre ⟨T.setVm vm₁, locs, cells, slots⟩ argsL.toArray) :
    (∃ (v : Option Value) (vm₁ : Vm) (B : Pt), s.WarmedH vm₁ ∧ Stand p l e R s m args below meth c B.U B.locs B.cells B.slots ∧ Post ⟨T.setVm vm₁, locs, cells, slots⟩ argsL.toArray v B ∧
      ∀ target, Steps p.tables e below (B.U.setTop { g with pc := g.pc + 3, stack := v.toList ++ rest }) target → Steps p.tables e below (T.setTop g) target) ∨
    (∃ (q : Addr) (vm₁ : Vm) (B : Pt), s.WarmedH vm₁ ∧ Stand p l e R s m args below meth c B.U B.locs B.cells B.slots ∧ PostX ⟨T.setVm vm₁, locs, cells, slots⟩ argsL.toArray q B ∧
      Steps p.tables e below (T.setTop g) ((B.U.setTop { g with stack := rest }).pushFrame (.throwing q))) := by
  obtain ⟨mk, methM, cM, hnamed, hmethM, -, -, -, -, -, -, hsigM⟩ := Cond.codeWith_spec hcode
  have hstatic : methM.isStatic = true := Cond.static_spec hnamed hmethM hstat
  obtain ⟨kP, hkP, -⟩ := className_of_methodNamed hnamed
  have hinitP : kP.init = .initialized := Cond.initialized_spec (findClass_of_methodNamed hnamed) hkP hinit
  obtain ⟨vm₁, X₁, hstep₁⟩ := X.invokestatic hexec hown hlink hnamed hmethM hstatic hkP hinitP hy (g := g) hg (argsL := argsL) (rest := rest) (hlen _ hsigM) hstack hdg
  rcases hK m meth c ⟨T.setVm vm₁, locs, cells, slots⟩ { g with stack := rest } (.invokestatic index) mk argsL.toArray X₁ hg hsize hdg hW (X₁.named hnamed) (hpre vm₁ X₁.warmed) with ⟨v, B, X', hpost, hsteps⟩ | ⟨q, B, X', hpost, hsteps⟩
  · exact Or.inl ⟨v, vm₁, B, X₁.warmed, X', hpost, fun target h => hstep₁ _ fun acts => by rw [doInvoke_state]; exact hsteps.trans h⟩
  · exact Or.inr ⟨q, vm₁, B, X₁.warmed, X', hpost, hstep₁ _ fun acts => by rw [doInvoke_state]; exact hsteps⟩
theorem vx_callVW (X : Stand p l e R s m args below meth c T locs cells slots) (hexec : p.tables.exec = Jvm.exec) {own C : String} {index : Nat} {y : MethodName} {bytes : ByteArray} {maxL : Nat} {ret : Option FieldType} {hh : List (Nat × Nat × Nat × Nat)}
    (hown : s.vm.findClass own = some m.cls) (hlink : (Cond.methodLink own index y).before args s = true) (hinst : (Cond.instanceMethod y).before args s = true) (hsel : (Cond.selects C y y).before args s = true)
    (hcode : (Cond.codeWith y bytes maxL ret hh).before args s = true) (hy : y.cls ≠ "java/lang/invoke/MethodHandle" ∧ y.cls ≠ "java/lang/invoke/VarHandle")
    {W9 : Nat} {Pre : Pt → Array Value → Prop} {Post : Pt → Array Value → Option Value → Pt → Prop} (hK : Back l R p e below s args y 3 W9 Pre Post)
    {b : Addr} {cellB : Cell} (hcell : T.heap[b]? = some cellB) (hobj : cellB.vm.isStatics = false) (hcls : s.vm.findClass C = some cellB.cls)
    {g : JFrame} (hg : g.method = m) (hsize : g.locals.size = c.maxLocals) {argsL rest : List Value} (hlen : ∀ sig, parseMethodDescriptor y.desc = some sig → argsL.length = sig.parameters.length)
    (hstack : g.stack = argsL.reverse ++ .ref b :: rest) (hW : 2 * g.monitorRoom + (rest.map fun v => v.category).sum ≤ W9) (hdg : decode c.code g.pc = .ok (.invokevirtual index, 3))
    (hpre : ∀ vm₁, s.WarmedH vm₁ → Pre ⟨T.setVm vm₁, locs, cells, slots⟩ (Value.ref b :: argsL).toArray) :
    ∃ (v : Option Value) (vm₁ : Vm) (B : Pt), s.WarmedH vm₁ ∧ Stand p l e R s m args below meth c B.U B.locs B.cells B.slots ∧ Post ⟨T.setVm vm₁, locs, cells, slots⟩ (Value.ref b :: argsL).toArray v B ∧
      ∀ target, Steps p.tables e below (B.U.setTop { g with pc := g.pc + 3, stack := v.toList ++ rest }) target → Steps p.tables e below (T.setTop g) target := by
  obtain ⟨mk, methM, hnamed, hmethM, hstM, habM⟩ := Cond.instanceMethod_spec hinst
  obtain ⟨m8, methM', cM, hn8, hmethM', -, -, -, -, -, -, hsigM⟩ := Cond.codeWith_spec hcode
  cases Option.some.inj (hn8.symm.trans hnamed)
  cases hmethM.symm.trans hmethM'
  obtain ⟨c2, r2, m2, q1, q2, q3, q4, kP, hkP, hkPi⟩ := Cond.selects_spec hsel
  cases hcls.symm.trans q1
  cases (State.methodFound?_of_named hnamed hy).symm.trans q2
  cases hnamed.symm.trans q3
  have hselP : selectMethod e.platform s.vm cellB.cls mk = .method mk := by rw [Launch.admits_selectMethod X.admits]; exact q4
  obtain ⟨vm₁, X₁, hstep₁⟩ := X.invokevirtual hexec hown hlink hnamed hmethM hstM hkP hkPi hy (a := b) (cell := cellB) hcell
    (fun z h => by rw [h] at hobj; cases hobj) hselP hmethM habM hkP hkPi (g := g) hg (argsL := argsL) (rest := rest) (hlen _ hsigM) hstack hdg
  obtain ⟨v, B, X', hpost, hsteps⟩ := hK m meth c ⟨T.setVm vm₁, locs, cells, slots⟩ { g with stack := rest } (.invokevirtual index) mk (Value.ref b :: argsL).toArray X₁ hg hsize hdg hW (X₁.named hnamed) (hpre vm₁ X₁.warmed)
  exact ⟨v, vm₁, B, X₁.warmed, X', hpost, fun target h => hstep₁ _ fun acts => by rw [doInvoke_state]; exact hsteps.trans h⟩
abbrev vx_CVW (R : Room) (s : State) (args : Array Value) (own C : String) (index : Nat) (y : MethodName) (bytes : ByteArray) (maxL : Nat) (ret : Option FieldType) (hh : List (Nat × Nat × Nat × Nat)) (ws : List Cond) (rm : Room) (mc ms n : Nat) : Prop :=
  (rm.cells = mc ∧ rm.slots = ms ∧ rm.frames + 1 ≤ R.frames ∧ 8 + (maxL + 11) + rm.locals ≤ R.locals ∧ (∀ w ∈ ws, ∀ (a' : Array Value) (U : State), s.WarmedH U.vm → w.before a' U = true) ∧ Cond.codeWith y bytes maxL ret hh ∈ ws) ∧
  (Cond.codeWith y bytes maxL ret hh).before args s = true ∧ (Cond.initialized y.cls).before args s = true ∧ (y.cls ≠ "java/lang/invoke/MethodHandle" ∧ y.cls ≠ "java/lang/invoke/VarHandle") ∧
  (∀ sig, parseMethodDescriptor y.desc = some sig → n = sig.parameters.length) ∧ (Cond.methodLink own index y).before args s = true ∧ (Cond.instanceMethod y).before args s = true ∧ (Cond.selects C y y).before args s = true
theorem vx_cwVW {own C : String} {index maxL mc ms : Nat} {y : MethodName} {bytes : ByteArray} {ret : Option FieldType} {hh : List (Nat × Nat × Nat × Nat)} {Ts ws ws' : List Cond} {rm : Room} (n : Nat) (ht : ∀ w ∈ Ts, w.before args s = true) (hT : GoodIn Ts (wsV own index C y ws)) (hw : ws = Cond.codeWith y bytes maxL ret hh :: ws') (hrc : rm.cells = mc) (hrs : rm.slots = ms)
    (hd : y.cls = C ∧ y.cls ≠ "java/lang/invoke/MethodHandle" ∧ y.cls ≠ "java/lang/invoke/VarHandle" ∧ (parseMethodDescriptor y.desc).map (fun d => d.parameters.length) = some n) (hR : rm.frames + 1 ≤ R.frames ∧ 8 + (maxL + 11) + rm.locals ≤ R.locals) :
    vx_CVW R s args own C index y bytes maxL ret hh ws rm mc ms n := by
  obtain ⟨hC, hd⟩ := hd
  subst hC
  have ok : ∀ w ∈ wsV own index y.cls y ws, w.before args s = true := fun w h => ht w (hT w h).1
  have hG : GoodIn Ts ws := fun w h => hT w (by unfold wsV; exact List.mem_append_right _ h)
  have hc : Cond.codeWith y bytes maxL ret hh ∈ ws := by rw [hw]; exact List.mem_cons_self
  refine ⟨⟨hrc, hrs, hR.1, hR.2, pay_in ht hG, hc⟩, ht _ (hG _ hc).1, ok _ (by simp [wsV]), ⟨hd.1, hd.2.1⟩, fun sig h => ?_, ok _ (by simp [wsV]), ok _ (by simp [wsV]), ok _ (by simp [wsV])⟩
  have h2 := hd.2.2
  rw [h] at h2
  exact (Option.some.inj h2).symm
theorem vx_runVW {y : MethodName} {bytes cc : ByteArray} {maxL nL mc ms n index : Nat} {ret : Option FieldType} {hh : List (Nat × Nat × Nat × Nat)} {ws : List Cond} {rm : Room} {Pc : Array Value → State → Prop} {Qc : Array Value → State → Outcome → State → Prop} {free : Addr → Prop} {Ts : List Cond} {own C : String} {b : Addr} {As rest : List Value} {g : JFrame}
    (S : CallFix p m c cc nL s args Ts own) (hM : Met l y ws rm Pc Qc mc ms free) (cw : vx_CVW R s args own C index y bytes maxL ret hh ws rm mc ms n) (hp : PreV s H C b Pc As)
    (hg : g.method = m) (hn : As.length = n) (hsize : g.locals.size = nL) (hstack : g.stack = As.reverse ++ .ref b :: rest) (hW : 2 * g.monitorRoom + (rest.map fun v => v.category).sum ≤ 8) (hdg : decode cc g.pc = .ok (.invokevirtual index, 3)) (hf : cells + mc ≤ R.cells ∧ slots + ms ≤ R.slots) :
    va_Run p l e R s m args below meth c H locs cells slots mc ms g rest (Qc (Value.ref b :: As).toArray) free := by
  obtain ⟨⟨hrc, hrs, hfr, hlo, hws, hcw⟩, hcode, hini, hy, hlen, hl, hin, hse⟩ := cw
  have hK : Back l R p e below s args y 3 8 (PreOf R mc ms Pc) (PostOf Qc mc ms free) := va_backW (hh := hh) (bytes := bytes) (maxL := maxL) (ret := ret) hM hp.1 hrc hrs hfr hlo hws hcw (fun a' U hW => word_at hW (Or.inl (by first | rfl | simp [Cond.onTables, Cond.keeps, Cond.steady])) hini)
  obtain ⟨hx, hb, hml, ho, -⟩ := S
  obtain ⟨-, ⟨cellB, hcB, hoB, hclB⟩, hPc⟩ := hp
  intro T hT X
  obtain ⟨v, vm₁, ⟨U', l2, c2, s2⟩, hW₁, X', ⟨g', mk, t, L, e1, e2, hq, h1, hL, h2, h3⟩, st⟩ := vx_callVW X hx (C := C) (hh := hh) (bytes := bytes) (maxL := maxL) (ret := ret) ho hl hin hse hcode hy hK (by rw [hT]; exact hcB) hoB hclB hg (hsize.trans hml.symm) (argsL := As) (rest := rest) (fun sig h => hn.trans (hlen sig h)) hstack hW (by rw [hb]; exact hdg)
    (fun vm₁ hW₁ => ⟨hf.1, hf.2, hPc (T.setVm vm₁) hT hW₁⟩)
  dsimp only [Pt.U, Pt.locs, Pt.cells, Pt.slots] at X' e1 e2 h1 h2 h3 st
  subst h1; subst h2; subst h3
  exact ⟨v, (T.setVm vm₁).calling g' mk (Value.ref b :: As).toArray, t, U', L, hT, X', hL, e1, e2, hq, st⟩
section
variable {y : MethodName} {bytes cc : ByteArray} {maxL nL mc ms n index : Nat} {ret : Option FieldType} {ws : List Cond} {rm : Room} {Pc : Array Value → State → Prop} {Qc : Array Value → State → Outcome → State → Prop} {XC : String → State → State → Prop} {free : Addr → Prop} {Ts : List Cond} {own C : String} {b : Addr} {As rest : List Value} {g : JFrame}
theorem vx_runVX {hh : List (Nat × Nat × Nat × Nat)} (S : CallFix p m c cc nL s args Ts own) (hM : vx_Met l y ws rm Pc Qc XC mc ms free) (cw : vx_CVW R s args own C index y bytes maxL ret hh ws rm mc ms n) (hp : PreV s H C b Pc As)
    (hg : g.method = m) (hn : As.length = n) (hsize : g.locals.size = nL) (hstack : g.stack = As.reverse ++ .ref b :: rest) (hW : 2 * g.monitorRoom + (rest.map fun v => v.category).sum ≤ 8) (hdg : decode cc g.pc = .ok (.invokevirtual index, 3)) (hf : cells + mc ≤ R.cells ∧ slots + ms ≤ R.slots) :
    vx_Run p l e R s m args below meth c H locs cells slots mc ms g rest (Qc (Value.ref b :: As).toArray) XC free := by
  obtain ⟨⟨hrc, hrs, hfr, hlo, hws, hcw⟩, hcode, hini, hy, hlen, hl, hin, hse⟩ := cw
  have hK : vx_Back l R p e below s args y 3 8 (PreOf R mc ms Pc) (PostOf Qc mc ms free) (vx_Post XC mc ms free) := vx_backW (hh := hh) (bytes := bytes) (maxL := maxL) (ret := ret) hM hp.1 hrc hrs hfr hlo hws hcw (fun a' U hW => word_at hW (Or.inl (by first | rfl | simp [Cond.onTables, Cond.keeps, Cond.steady])) hini)
  obtain ⟨hx, hb, hml, ho, -⟩ := S
  obtain ⟨-, ⟨cellB, hcB, hoB, hclB⟩, hPc⟩ := hp
  intro T hT X
  rcases vx_callVX X hx (C := C) (hh := hh) (bytes := bytes) (maxL := maxL) (ret := ret) ho hl hin hse hcode hy hK (by rw [hT]; exact hcB) hoB hclB hg (hsize.trans hml.symm) (argsL := As) (rest := rest) (fun sig h => hn.trans (hlen sig h)) hstack hW (by rw [hb]; exact hdg)
    (fun vm₁ hW₁ => ⟨hf.1, hf.2, hPc (T.setVm vm₁) hT hW₁⟩) with ⟨v, vm₁, ⟨U', l2, c2, s2⟩, hW₁, X', ⟨g', mk, t, L, e1, e2, hq, h1, hL, h2, h3⟩, st⟩ | ⟨q, vm₁, ⟨U', l2, c2, s2⟩, hW₁, X', ⟨g', mk, t, L, E, ce, e1, e2, hq, hce, hcv, hcl, h1, hL, h2, h3⟩, st⟩
  · dsimp only [Pt.U, Pt.locs, Pt.cells, Pt.slots] at X' e1 e2 h1 h2 h3 st
    subst h1; subst h2; subst h3
    exact Or.inl ⟨v, (T.setVm vm₁).calling g' mk (Value.ref b :: As).toArray, t, U', L, hT, X', hL, e1, e2, hq, st⟩
  · dsimp only [Pt.U, Pt.locs, Pt.cells, Pt.slots] at X' e1 e2 h1 h2 h3 st hcl
    subst h1; subst h2; subst h3
    exact Or.inr ⟨q, (T.setVm vm₁).calling g' mk (Value.ref b :: As).toArray, t, U', L, E, ce, hT, X', hL, e1, e2, hq, hce, hcv, vx_cls hW₁ hcl, st⟩
theorem vx_runSX {hh : List (Nat × Nat × Nat × Nat)} (S : CallFix p m c cc nL s args Ts own) (hM : vx_Met l y ws rm Pc Qc XC mc ms free) (cw : vx_CSW R s args own index y bytes maxL ret hh ws rm mc ms n) (hp : PreS s H Pc As)
    (hg : g.method = m) (hn : As.length = n) (hsize : g.locals.size = nL) (hstack : g.stack = As.reverse ++ rest) (hW : 2 * g.monitorRoom + (rest.map fun v => v.category).sum ≤ 8) (hdg : decode cc g.pc = .ok (.invokestatic index, 3)) (hf : cells + mc ≤ R.cells ∧ slots + ms ≤ R.slots) :
    vx_Run p l e R s m args below meth c H locs cells slots mc ms g rest (Qc As.toArray) XC free := by
  obtain ⟨⟨hrc, hrs, hfr, hlo, hws, hcw⟩, hcode, hini, hy, hlen, hl, hstt⟩ := cw
  have hK : vx_Back l R p e below s args y 3 8 (PreOf R mc ms Pc) (PostOf Qc mc ms free) (vx_Post XC mc ms free) := vx_backW (hh := hh) (bytes := bytes) (maxL := maxL) (ret := ret) hM hp.1 hrc hrs hfr hlo hws hcw (fun a' U hW => word_at hW (Or.inl (by first | rfl | simp [Cond.onTables, Cond.keeps, Cond.steady])) hini)
  obtain ⟨hx, hb, hml, ho, -⟩ := S
  intro T hT X
  rcases vx_callSX X hx (hh := hh) (bytes := bytes) (maxL := maxL) (ret := ret) ho hl hstt hini hcode hy hK hg (hsize.trans hml.symm) (argsL := As) (rest := rest) (fun sig h => hn.trans (hlen sig h)) hstack hW (by rw [hb]; exact hdg)
    (fun vm₁ hW₁ => ⟨hf.1, hf.2, hp.2 (T.setVm vm₁) hT hW₁⟩) with ⟨v, vm₁, ⟨U', l2, c2, s2⟩, hW₁, X', ⟨g', mk, t, L, e1, e2, hq, h1, hL, h2, h3⟩, st⟩ | ⟨q, vm₁, ⟨U', l2, c2, s2⟩, hW₁, X', ⟨g', mk, t, L, E, ce, e1, e2, hq, hce, hcv, hcl, h1, hL, h2, h3⟩, st⟩
  · dsimp only [Pt.U, Pt.locs, Pt.cells, Pt.slots] at X' e1 e2 h1 h2 h3 st
    subst h1; subst h2; subst h3
    exact Or.inl ⟨v, (T.setVm vm₁).calling g' mk As.toArray, t, U', L, hT, X', hL, e1, e2, hq, st⟩
  · dsimp only [Pt.U, Pt.locs, Pt.cells, Pt.slots] at X' e1 e2 h1 h2 h3 st hcl
    subst h1; subst h2; subst h3
    exact Or.inr ⟨q, (T.setVm vm₁).calling g' mk As.toArray, t, U', L, E, ce, hT, X', hL, e1, e2, hq, hce, hcv, vx_cls hW₁ hcl, st⟩
end
end VXH
theorem vx_ofWH {l : Launch} {y : MethodName} {ws ws' : List Cond} {rm : Room} {Pc : Array Value → State → Prop} {Qc : Array Value → State → Outcome → State → Prop} {XC : String → State → State → Prop} {mc ms : Nat} {free : Addr → Prop} {cc : ByteArray} {maxL : Nat} {ret : Option FieldType} {hh : List (Nat × Nat × Nat × Nat)}
    (hy : plainName y.cls = true) (hw : ws = Cond.codeWith y cc maxL ret hh :: ws')
    (body : ∀ p e s m args below meth c s₁, BodyLoose p l y (headSpec ws rm) cc maxL ret e s m args below meth c s₁ → c.maxLocals = maxL → Pc args s →
      W p l e (headSpec ws rm).room s m args below meth c s.heap [] 0 0 (vx_MQ below Qc XC args s mc ms free) (entryFrame m args maxL)) : vx_Met l y ws rm Pc Qc XC mc ms free := by
  refine MetFree.of_bodyS (code := cc) (maxLocals := maxL) (ret := ret) hy ?_ ?_
  · intro args s m h hn
    obtain ⟨m9, meth, c, hn9, h1, h2, h3, h4, -, h5, h6, -⟩ := Cond.codeWith_spec (atoms_spec (ws := ws) h _ (by rw [hw]; exact List.mem_cons_self))
    cases hn.symm.trans hn9
    exact ⟨meth, c, h1, h2, h3, h4, h5, h6⟩
  · intro p e s m args below meth c s₁ B hml hP _
    have hh0 : s₁.heap = s.heap := by rw [B.state]; rfl
    obtain ⟨t, a1, o, b1, b2, b3⟩ := body p e s m args below meth c s₁ B hml hP s₁ hh0 (Stand.of_body B)
    exact ⟨t, o, a1, b1, b2, b3⟩
/-! ===== END ===== -/
/-! ===== BEGIN what the machine throws by itself, no traces kept ===== -/
section VXM
set_option maxHeartbeats 1000000 in
/-- the machine throws cls with the message text, no traces kept: from its note over the frame g to 'throwing' over the same frame (follows the proofs of Stand.vmThrowsMessage, Shelf/KitTracedVmS.lean, and Stand.throwsMessageColdBareV, StandMessageColdV.lean, without the step out of the frame) -/
theorem vx_vmAt {p : Program} {l : Launch} {e : Env} {R : Room} {s : State} {m₀ : MethodId} {args : Array Value} {below : List Frame} {meth : Method} {c : Code} {W : State} {locs : List Loc} {cells slots : Nat}
    (X : Stand p l e R s m₀ args below meth c W locs cells slots) (hexec : p.tables.exec = Jvm.exec) (htr : e.platform.stackTraces = false) {cls : String} {names : List String} {text : String}
    (hcls : Bundle.fit cls = true) (hnames : ∀ n ∈ names, Bundle.fit n = true) (hsoe : (cls == "java/lang/StackOverflowError") = false) (hoom : (cls == "java/lang/OutOfMemoryError") = false)
    (h : ∀ a ∈ Bundle.messageArmAtoms cls names, a.before args s = true)
    (hlocs : ∀ x ∈ locs, ∀ cell, s.heap[x.base]? = some cell → cell.vm.isStatics = false)
    (htext : (text == notModelled) = false) (hlimit : ¬ (stringBytes (stringToUtf16 text)).size > e.platform.arrayLengthLimit) (hheap : ¬ (stringBytes (stringToUtf16 text)).size * componentBytes .byte > e.platform.maxHeapBytes)
    {g : JFrame} (hg : g.method = m₀) (hsize : g.locals.size = c.maxLocals)
    (hRframes : names.length + 4 < R.frames) (hRlocals : 2 * g.monitorRoom + (g.stack.map fun v => v.category).sum + 10240 ≤ R.locals) (hshort : 13 * names.length + 55 ≤ 10240)
    (hRcells : cells + 3 ≤ R.cells) (hRslots : slots + ((stringBytes (stringToUtf16 text)).size + 4 + 6) ≤ R.slots) (hlocks : meth.locks = false) :
    ∃ (S : State) (q : Addr) (ce : Cell), (∀ target, Steps p.tables e below ((S.setTop g).pushFrame (.throwing q)) target → Steps p.tables e below ((W.setTop g).pushFrame (.throwNew cls (some text) none)) target) ∧
      Stand p l e R s m₀ args below meth c S locs (cells + 3) (slots + ((stringBytes (stringToUtf16 text)).size + 4 + 6)) ∧ S.heap[q]? = some ce ∧ s.vm.findClass cls = some ce.cls ∧ ce.vm = .none := by
  have howns : e.platform.frameOwnsMonitors = true := by rw [X.admits.platform]
  have hfin : e.platform.finalization = false := by rw [X.admits.platform]
  have hpl : e.platform.magicAccessors = ({} : Platform).magicAccessors := by rw [X.admits.platform]
  have a : ∀ x, x ∈ Bundle.messageArmAtoms cls names → x.holds args s none s [] = true := fun x hx => h x hx
  obtain ⟨T, Z0, L, -, Y⟩ := ThrowableC.of_atoms (args := args) howns hfin hpl (fun x hx => h x (by simp [Bundle.messageArmAtoms, hx]))
  obtain ⟨Z, M, LZ, LM, hnZ⟩ := Init0T.ofS_atoms (args := args) hpl L Y (fun x hx => h x (by simp [Bundle.messageArmAtoms, hx]))
  obtain ⟨P1, Ps, hlen, L1, hL, hP1m, hlink1, hlink⟩ := Bundle.chainS (args := args) hpl hnZ names cls hcls hnames (fun x hx => h x (by simp [Bundle.messageArmAtoms, hx]))
  obtain ⟨Zs, LZs, hn4, hfitv, hfitc⟩ := StringT.of_atoms (args := args) (fun x hx => h x (by simp [Bundle.messageArmAtoms, hx]))
  have hfound : s.vm.findClass cls = some P1.m.cls := findClass_of_methodNamed hP1m
  obtain ⟨c1, kX, hc1, hk, hord, -, -, hn6⟩ := Cond.instantiable_spec (a (.instantiable cls 6) (by simp [Bundle.messageArmAtoms]))
  cases Option.some.inj (hc1.symm.trans hfound)
  have hinit := Cond.initialized_spec hfound hk (a (.initialized cls) (by simp [Bundle.messageArmAtoms]))
  have hctor : kX.findMethod "<init>" "(Ljava/lang/String;)V" = some P1.m.idx := findMethod_of_methodNamed hP1m hk
  have hsel0 : selectMethod e.platform s.vm P1.m.cls T.fill0 = .method T.fill0 := by
    obtain ⟨c2, r2, m2, q1, q2, q3, q4, -⟩ := Cond.selects_spec (a (.selects cls Bundle.tFill0 Bundle.tFill0) (by simp [Bundle.messageArmAtoms]))
    cases Option.some.inj (q1.symm.trans hfound)
    cases Option.some.inj (q2.symm.trans (State.methodFound?_of_named Y.fill0 (by decide)))
    cases Option.some.inj (q3.symm.trans Y.fill0)
    rw [Launch.admits_selectMethod X.admits]; exact q4
  have hselF : selectMethod e.platform s.vm P1.m.cls T.fill = .method T.fill := by
    obtain ⟨c2, r2, m2, q1, q2, q3, q4, -⟩ := Cond.selects_spec (a (.selects cls Bundle.tFill Bundle.tFill) (by simp [Bundle.messageArmAtoms]))
    cases Option.some.inj (q1.symm.trans hfound)
    cases Option.some.inj (q2.symm.trans (State.methodFound?_of_named Y.fill (by decide)))
    cases Option.some.inj (q3.symm.trans Y.fill)
    rw [Launch.admits_selectMethod X.admits]; exact q4
  obtain ⟨cellS0, hcS0, hiss⟩ := Y.statics
  obtain ⟨u0, hu0⟩ := Cond.staticRefV Y.unassigned L.unassignedStatic L.statics hcS0 hiss (a (.isRef (.static Bundle.tN "UNASSIGNED_STACK" Bundle.steD)) (by simp [Bundle.messageArmAtoms]))
  obtain ⟨sen, hsen⟩ := Cond.staticRefV Y.sentinel L.sentinelStatic L.statics hcS0 hiss (a (.isRef (.static Bundle.tN "SUPPRESSED_SENTINEL" Bundle.listD)) (by simp [Bundle.messageArmAtoms]))
  obtain ⟨ci198, i198, fB, hk198, hg198, ha198, hsB, -, hnB, htB, hffB⟩ := Cond.ownField (t := .object "java/lang/Object") Y.found L.cls (by decide +kernel) (a (.fieldLink Bundle.tN 198 Bundle.tN "backtrace" "Ljava/lang/Object;") (by simp [Bundle.messageArmAtoms])) (a (.lays Bundle.tN Bundle.tN "backtrace" "Ljava/lang/Object;") (by simp [Bundle.messageArmAtoms])) e.platform hpl
  obtain ⟨cellS, hcS', heS, -, hkeep⟩ := X.same.2.2.2.2.2 T.aS cellS0 hcS0
  have hcellS : W.heap[T.aS]? = some cellS := hcS'
  have hout' : ∀ i, (⟨T.aS, i⟩ : Loc) ∉ locs := fun i hmem => by
    have := hlocs _ hmem cellS0 hcS0
    rw [hiss] at this; cases this
  have hknownS : cellS.vm ≠ .unknown := by
    rw [heS]; intro hu
    rw [show cellS0.vm = .unknown from hu] at hiss
    cases hiss
  have hvU : cellS.slots[T.fUnassigned.slot]? = some u0.v := by rw [hkeep _ (hout' _)]; exact hu0
  have hvSen : cellS.slots[T.fSentinel.slot]? = some sen.v := by rw [hkeep _ (hout' _)]; exact hsen
  obtain ⟨iM, hffM⟩ := Y.msg
  obtain ⟨tyC, dC, hdC, hdnC⟩ := Cond.laysAt hfound hk Y.cause (a (.lays cls Bundle.tN "cause" "Ljava/lang/Throwable;") (by simp [Bundle.messageArmAtoms]))
  obtain ⟨tyS, dS, hdS, hdnS⟩ := Cond.laysAt hfound hk Y.stack (a (.lays cls Bundle.tN "stackTrace" Bundle.steD) (by simp [Bundle.messageArmAtoms]))
  obtain ⟨tyP, dP, hdP, hdnP⟩ := Cond.laysAt hfound hk Y.supp (a (.lays cls Bundle.tN "suppressedExceptions" Bundle.listD) (by simp [Bundle.messageArmAtoms]))
  obtain ⟨tyM, dM, hdM, hdnM⟩ := Cond.laysAt hfound hk hffM (a (.lays cls Bundle.tN "detailMessage" "Ljava/lang/String;") (by simp [Bundle.messageArmAtoms]))
  obtain ⟨tyB, dB, hdB, hdnB⟩ := Cond.laysAt hfound hk hffB (a (.lays cls Bundle.tN "backtrace" "Ljava/lang/Object;") (by simp [Bundle.messageArmAtoms]))
  have bC := Cond.laysApart hdB hdC hdnB hdnC (by rw [hnB, Y.causeName]; decide)
  have bS := Cond.laysApart hdB hdS hdnB hdnS (by rw [hnB, Y.stackName]; decide)
  have bP := Cond.laysApart hdB hdP hdnB hdnP (by rw [hnB, Y.suppName]; decide)
  have hbk : ((preparedCellV T.toThrowableT (freshCell P1.m.cls kX) (W.heap.size + 2) u0 sen).withEntry W.cur).slots[fB.slot]? = some .null := by
    have := fresh_default (c := P1.m.cls) tyB
    rw [htB] at this
    simpa [preparedCellV, Cell.setSlot, Cell.withEntry, Array.getElem?_setIfInBounds, bC, bS, bP, bC.symm, bS.symm, bP.symm, defaultValue] using this
  have tkC := Takes.of_laid (v := .ref (W.heap.size + 2)) hk hord tyC (by rw [Y.causeType]; rfl)
  have tkS := Takes.of_laid (v := u0.v) hk hord tyS (by rw [Y.stackType]; exact fits_refV_array _ u0)
  have tkP := Takes.of_laid (v := sen.v) hk hord tyP (by rw [Y.suppType]; exact fits_refV_object _ sen)
  have tkM := Takes.of_laid (v := .ref (W.heap.size + 1)) hk hord tyM (by rw [Y.msgType]; rfl)
  have hskip : SkipFacts T e.platform s (fun u => u) u0 ((preparedCellV T.toThrowableT (freshCell P1.m.cls kX) (W.heap.size + 2) u0 sen).withEntry W.cur) := ⟨{ ci198 := ci198, i198 := i198, fBack := fB }, ⟨hk198, hg198, ha198, hsB⟩, hbk, fun _ _ => rfl⟩
  have h0 : At W g.method c below := by rw [hg]; exact X.here
  obtain ⟨hbeyond, hfreeW⟩ := X.vmMayThrow hsize (.throwNew cls (some text) none) (fun f hf => by cases hf) rfl hRlocals
  have hfr' : W.frames.length + Ps.length + 4 < (e.platform.stackLimits W.me).1 := by have := X.framesAbove hRframes; omega
  have hwd' : (stackUse (.java g :: W.frames.tail)).2 + 13 * Ps.length + 55 ≤ (e.platform.stackLimits W.me).2 := by have := X.stackAbove hsize (K := 13 * Ps.length + 55) (by omega); omega
  have hslots : W.slotsUsed + (stringBytes (stringToUtf16 text)).size + Zs.kS.instanceTypes.size + kX.instanceTypes.size ≤ e.platform.maxSlots := by
    have := X.slotsAbove hRslots
    rw [hn4, hn6]
    omega
  obtain ⟨vm', hW', st⟩ := Steps.vmThrowsMessageColdByV p (s₀ := s) (S := W) (g := g) h0 hexec T L Z LZ M LM X.warmed (t := W.cur) rfl Zs LZs P1 L1 Ps hL hlink1 hlink hsoe hoom hfound hk hinit hord hctor
    (Launch.admits_hotImplicitExceptions X.admits) hbeyond hfreeW htext hlimit hheap (X.cellsAbove hRcells) hslots (hfitv _) (hfitc _)
    (Nn := fun u => u) heapOnly_id (fun _ _ => rfl) (fun _ => rfl) (fun u x y => setCell_twice _ _ _ _) (fun _ => Nat.le_refl _) (cN := ((preparedCellV T.toThrowableT (freshCell P1.m.cls kX) (W.heap.size + 2) u0 sen).withEntry W.cur))
    hsel0 hcellS hknownS hvU tkS (fun _ hu => hu) (fun _ hu => hu) rfl rfl rfl (by simp [preparedCellV, Cell.setSlot, Cell.withEntry]) hskip (fun _ _ hA hW _ hroom _ hrest => L.nativeOff p htr hA hW hroom hrest) hselF hvSen tkC tkP tkM Y.objLocals rfl hfr' hwd'
  rw [plainBareV_eq T.toThrowableT (W.heap.size + 2) u0 sen (.ref (W.heap.size + 1)) W.cur rfl rfl] at st
  obtain ⟨-, -, w3, w4, -, -, -⟩ := withThrown_facts e.platform W Zs text P1.m.cls kX
  have X3 := ((X.pushed (bytesOf Zs.cB (stringToUtf16 text))).pushed (stringAt Zs.cS Zs.kS Zs.fv Zs.fc (stringToUtf16 text) W.heap.size)).pushed (freshCell P1.m.cls kX)
  rw [← withString_eq] at X3
  have X4 := X3.noted hW'
  have ha : (W.heap.size + 2) < ((withThrown W Zs text P1.m.cls kX).setVm vm').heap.size := by show _ < (withThrown W Zs text P1.m.cls kX).heap.size; rw [w3]; omega
  have hcell : ((withThrown W Zs text P1.m.cls kX).setVm vm').heap[(W.heap.size + 2)]? = some (freshCell P1.m.cls kX) := w4
  have X5 := ((((X4.stored hcell T.fCause.slot (.ref (W.heap.size + 2))).storedAgain ha T.fStack.slot u0.v).storedAgain ha T.fSupp.slot sen.v).storedAgain ha T.fStack.slot u0.v).storedAgain ha T.fMsg.slot (.ref (W.heap.size + 1))
  obtain ⟨g₁, hfrM⟩ := X5.frames_eq
  have hU : ((((withThrown W Zs text P1.m.cls kX).setVm vm').setCell (W.heap.size + 2) (plainBareV T.toThrowableT (freshCell P1.m.cls kX) (W.heap.size + 2) u0 sen (.ref (W.heap.size + 1)))).setTop g).pushFrame (.throwing (W.heap.size + 2)) = (((withThrown W Zs text P1.m.cls kX).setVm vm').setCell (W.heap.size + 2) (plainBareV T.toThrowableT (freshCell P1.m.cls kX) (W.heap.size + 2) u0 sen (.ref (W.heap.size + 1)))).setFrames (.throwing (W.heap.size + 2) :: .java g :: below) := by
    rw [State.pushFrame, State.frames_setTop _ hfrM, State.setTop_of_frames _ hfrM, State.setFrames_setFrames]
  have b1 : (bytesOf Zs.cB (stringToUtf16 text)).slots.size = (stringBytes (stringToUtf16 text)).size := by
    rw [(Cell.writeAll_facts _ _).2.2]; simp [bytes0]
  have b2 : (stringAt Zs.cS Zs.kS Zs.fv Zs.fc (stringToUtf16 text) W.heap.size).slots.size = 4 := by simp [string0, Cell.setSlot, hn4]
  have b3 : (freshCell P1.m.cls kX).slots.size = 6 := by simp [hn6]
  rw [b1, b2, b3] at X5
  have e9 : slots + (stringBytes (stringToUtf16 text)).size + 4 + 6 = slots + ((stringBytes (stringToUtf16 text)).size + 4 + 6) := by omega
  rw [e9] at X5
  simp only [List.append_assoc, List.cons_append, List.nil_append] at X5
  refine ⟨((withThrown W Zs text P1.m.cls kX).setVm vm').setCell (W.heap.size + 2) (plainBareV T.toThrowableT (freshCell P1.m.cls kX) (W.heap.size + 2) u0 sen (.ref (W.heap.size + 1))), W.heap.size + 2, _, fun target ht => st _ (by rw [X.tail, ← hU]; exact ht),
    X5.forget (fun y hy => ?_), heapAt_setCell_self _ ha, hfound, rfl⟩
  simp only [List.mem_cons, List.not_mem_nil, or_false] at hy
  have hge : s.heap.size ≤ W.heap.size := X.same.2.1
  rcases hy with rfl | rfl | rfl | rfl | rfl <;> exact Nat.le_trans hge (Nat.le_add_right _ 2)
set_option maxHeartbeats 1000000 in
/-- the machine throws NullPointerException, no traces kept: from its note over the frame g to 'throwing' over the same frame (follows the proof of Stand.vmThrowsNpe, Shelf42/KT2.lean; throwsNpeColdBareVAt, Shelf42/NT91.lean, called) -/
theorem vx_npeAt {p : Program} {l : Launch} {e : Env} {R : Room} {s : State} {m₀ : MethodId} {args : Array Value} {below : List Frame} {meth : Method} {c : Code} {W : State} {locs : List Loc} {cells slots : Nat}
    (X : Stand p l e R s m₀ args below meth c W locs cells slots) (hexec : p.tables.exec = Jvm.exec) (htr : e.platform.stackTraces = false) {n : Nat}
    (h : ∀ a ∈ Bundle.npeArmAtoms n, a.before args s = true)
    (hlocs : ∀ x ∈ locs, ∀ cell, s.heap[x.base]? = some cell → cell.vm.isStatics = false)
    {g : JFrame} (hg : g.method = m₀) (hsize : g.locals.size = c.maxLocals)
    (hRframes : 7 < R.frames) (hRlocals : 2 * g.monitorRoom + (g.stack.map fun v => v.category).sum + 10240 ≤ R.locals)
    (hRcells : cells + 1 ≤ R.cells) (hRslots : slots + n ≤ R.slots) (hlocks : meth.locks = false) :
    ∃ (S : State) (q : Addr) (ce : Cell), (∀ target, Steps p.tables e below ((S.setTop g).pushFrame (.throwing q)) target → Steps p.tables e below ((W.setTop g).pushFrame (.throwNew "java/lang/NullPointerException" none none)) target) ∧
      Stand p l e R s m₀ args below meth c S locs (cells + 1) (slots + n) ∧ S.heap[q]? = some ce ∧ s.vm.findClass "java/lang/NullPointerException" = some ce.cls ∧ ce.vm = .none := by
  have howns : e.platform.frameOwnsMonitors = true := by rw [X.admits.platform]
  have hfin : e.platform.finalization = false := by rw [X.admits.platform]
  have hpl : e.platform.magicAccessors = ({} : Platform).magicAccessors := by rw [X.admits.platform]
  have hpl2 : e.platform.arrayCloneIsPublic = true := by rw [X.admits.platform]
  have a' : ∀ x, x ∈ Bundle.npeArmAtoms n → x.holds args s none s [] = true := fun x hx => h x hx
  obtain ⟨T, Z, L, LZ, Y⟩ := ThrowableC.of_atoms (args := args) howns hfin hpl (fun x hx => h x (by simp [Bundle.npeArmAtoms, hx]))
  obtain ⟨N, LN, hcN, hnNF, hordN, hffS⟩ := NpeC.of_atoms (args := args) hpl hpl2 L Y (fun x hx => h x (by simp [Bundle.npeArmAtoms, hx]))
  obtain ⟨P1, L1, hP1m, hP1s⟩ := PassC.of_atoms (args := args) (s := s) hpl (X := Bundle.nN) (Y := Bundle.rN) (by decide) (by decide) LibCode.NullPointerException.Init0.at_0 LibCode.NullPointerException.Init0.at_1 LibCode.NullPointerException.Init0.at_4 (fun x hx => h x (by simp [Bundle.npeArmAtoms, hx]))
  obtain ⟨PR, LR, hPRm, hPRs⟩ := PassC.of_atoms (args := args) (s := s) hpl (X := Bundle.rN) (Y := Bundle.eN) (by decide) (by decide) LibCode.RuntimeException.Init0.at_0 LibCode.RuntimeException.Init0.at_1 LibCode.RuntimeException.Init0.at_4 (fun x hx => h x (by simp [Bundle.npeArmAtoms, hx]))
  obtain ⟨PE, LEx, hPEm, hPEs⟩ := PassC.of_atoms (args := args) (s := s) hpl (X := Bundle.eN) (Y := Bundle.tN) (by decide) (by decide) LibCode.Exception.Init0.at_0 LibCode.Exception.Init0.at_1 LibCode.Exception.Init0.at_4 (fun x hx => h x (by simp [Bundle.npeArmAtoms, hx]))
  have hfound : s.vm.findClass Bundle.nN = some P1.m.cls := findClass_of_methodNamed hP1m
  have ecls : N.cN = P1.m.cls := Option.some.inj (hcN.symm.trans hfound)
  have hk : s.vm.classes[P1.m.cls]? = some N.kN := by rw [← ecls]; exact LN.cls
  have hinit := Cond.initialized_spec hfound hk (a' (.initialized Bundle.nN) (by simp [Bundle.npeArmAtoms]))
  have hctor : N.kN.findMethod "<init>" "()V" = some P1.m.idx := findMethod_of_methodNamed hP1m hk
  obtain ⟨c1, k1, hc1, hk1, -, -, -, hn⟩ := Cond.instantiable_spec (a' (.instantiable Bundle.nN n) (by simp [Bundle.npeArmAtoms]))
  cases Option.some.inj (hc1.symm.trans hfound)
  cases Option.some.inj (hk1.symm.trans hk)
  have hfsz : (freshCell P1.m.cls N.kN).slots.size = n := by simp [hn]
  have hlink1 : P1.sup = PR.m := Option.some.inj (hP1s.symm.trans hPRm)
  have hlinkR : PR.sup = PE.m := Option.some.inj (hPRs.symm.trans hPEm)
  have hlinkE : PE.sup = Z.m T.toThrowableT := Option.some.inj (hPEs.symm.trans Y.init0)
  have hLs : ∀ P, P ∈ [PR, PE] → P.Links0 e.platform s := fun P hP => by
    simp only [List.mem_cons, List.not_mem_nil, or_false] at hP
    rcases hP with rfl | rfl
    · exact LR
    · exact LEx
  have hsel0 : selectMethod e.platform s.vm P1.m.cls T.fill0 = .method T.fill0 := by
    obtain ⟨c2, r2, m2, q1, q2, q3, q4, -⟩ := Cond.selects_spec (a' (.selects Bundle.nN Bundle.tFill0 Bundle.tFill0) (by simp [Bundle.npeArmAtoms]))
    cases Option.some.inj (q1.symm.trans hfound)
    cases Option.some.inj (q2.symm.trans (State.methodFound?_of_named Y.fill0 (by decide)))
    cases Option.some.inj (q3.symm.trans Y.fill0)
    rw [Launch.admits_selectMethod X.admits]; exact q4
  have hselF : selectMethod e.platform s.vm P1.m.cls T.fill = .method N.fill := by
    obtain ⟨c2, r2, m2, q1, q2, q3, q4, -⟩ := Cond.selects_spec (a' (.selects Bundle.nN Bundle.tFill Bundle.nFill) (by simp [Bundle.npeArmAtoms]))
    cases Option.some.inj (q1.symm.trans hfound)
    cases Option.some.inj (q2.symm.trans (State.methodFound?_of_named Y.fill (by decide)))
    cases Option.some.inj (q3.symm.trans hnNF)
    rw [Launch.admits_selectMethod X.admits]; exact q4
  obtain ⟨cellS0, hcS0, hiss⟩ := Y.statics
  obtain ⟨u0, hu0⟩ := Cond.staticRefV Y.unassigned L.unassignedStatic L.statics hcS0 hiss (a' (.isRef (.static Bundle.tN "UNASSIGNED_STACK" Bundle.steD)) (by simp [Bundle.npeArmAtoms]))
  obtain ⟨sen, hsen⟩ := Cond.staticRefV Y.sentinel L.sentinelStatic L.statics hcS0 hiss (a' (.isRef (.static Bundle.tN "SUPPRESSED_SENTINEL" Bundle.listD)) (by simp [Bundle.npeArmAtoms]))
  obtain ⟨ci198, i198, fB, hk198, hg198, ha198, hsB, -, hnB, htB, hffB⟩ := Cond.ownField (t := .object "java/lang/Object") Y.found L.cls (by decide +kernel) (a' (.fieldLink Bundle.tN 198 Bundle.tN "backtrace" Bundle.objD) (by simp [Bundle.npeArmAtoms])) (a' (.lays Bundle.tN Bundle.tN "backtrace" Bundle.objD) (by simp [Bundle.npeArmAtoms])) e.platform hpl
  obtain ⟨cellS, hcS', heS, -, hkeep⟩ := X.same.2.2.2.2.2 T.aS cellS0 hcS0
  have hcellS : W.heap[T.aS]? = some cellS := hcS'
  have hout' : ∀ i, (⟨T.aS, i⟩ : Loc) ∉ locs := fun i hmem => by
    have := hlocs _ hmem cellS0 hcS0
    rw [hiss] at this; cases this
  have hknownS : cellS.vm ≠ .unknown := by
    rw [heS]; intro hu
    rw [show cellS0.vm = .unknown from hu] at hiss
    cases hiss
  have hvU : cellS.slots[T.fUnassigned.slot]? = some u0.v := by rw [hkeep _ (hout' _)]; exact hu0
  have hvSen : cellS.slots[T.fSentinel.slot]? = some sen.v := by rw [hkeep _ (hout' _)]; exact hsen
  obtain ⟨tyC, dC, hdC, hdnC⟩ := Cond.laysAt hfound hk Y.cause (a' (.lays Bundle.nN Bundle.tN "cause" "Ljava/lang/Throwable;") (by simp [Bundle.npeArmAtoms]))
  obtain ⟨tyS, dS, hdS, hdnS⟩ := Cond.laysAt hfound hk Y.stack (a' (.lays Bundle.nN Bundle.tN "stackTrace" Bundle.steD) (by simp [Bundle.npeArmAtoms]))
  obtain ⟨tyP, dP, hdP, hdnP⟩ := Cond.laysAt hfound hk Y.supp (a' (.lays Bundle.nN Bundle.tN "suppressedExceptions" Bundle.listD) (by simp [Bundle.npeArmAtoms]))
  obtain ⟨tyX, dX, hdX, hdnX⟩ := Cond.laysAt hfound hk hffS (a' (.lays Bundle.nN Bundle.nN "extendedMessageState" "I") (by simp [Bundle.npeArmAtoms, Bundle.npeAtoms]))
  obtain ⟨hnX, htX⟩ := State.fieldFound?_type hffS (t := .int) (by decide +kernel)
  have xC := Cond.laysApart hdC hdX hdnC hdnX (by rw [hnX, Y.causeName]; decide)
  have xS := Cond.laysApart hdS hdX hdnS hdnX (by rw [hnX, Y.stackName]; decide)
  have xP := Cond.laysApart hdP hdX hdnP hdnX (by rw [hnX, Y.suppName]; decide)
  have hv0 : (freshCell P1.m.cls N.kN).slots[N.fState.slot]? = some (.int 0) := by
    have := fresh_default (c := P1.m.cls) tyX
    rw [htX] at this; exact this
  obtain ⟨tyB, dB, hdB, hdnB⟩ := Cond.laysAt hfound hk hffB (a' (.lays Bundle.nN Bundle.tN "backtrace" Bundle.objD) (by simp [Bundle.npeArmAtoms]))
  have bC := Cond.laysApart hdB hdC hdnB hdnC (by rw [hnB, Y.causeName]; decide)
  have bS := Cond.laysApart hdB hdS hdnB hdnS (by rw [hnB, Y.stackName]; decide)
  have bP := Cond.laysApart hdB hdP hdnB hdnP (by rw [hnB, Y.suppName]; decide)
  have bX := Cond.laysApart hdB hdX hdnB hdnX (by rw [hnB, hnX]; decide)
  have hbk : ((npeCell N.toNpeT (preparedCellV T.toThrowableT (freshCell P1.m.cls N.kN) W.heap.size u0 sen) W.cur).withEntry W.cur).slots[fB.slot]? = some .null := by
    have := fresh_default (c := P1.m.cls) tyB
    rw [htB] at this
    simpa [npeCell, preparedCellV, Cell.setSlot, Cell.withEntry, Array.getElem?_setIfInBounds, bC, bS, bP, bX, bC.symm, bS.symm, bP.symm, bX.symm, defaultValue] using this
  have tkC := Takes.of_laid (v := .ref W.heap.size) hk hordN tyC (by rw [Y.causeType]; rfl)
  have tkS := Takes.of_laid (v := u0.v) hk hordN tyS (by rw [Y.stackType]; exact fits_refV_array _ u0)
  have tkP := Takes.of_laid (v := sen.v) hk hordN tyP (by rw [Y.suppType]; exact fits_refV_object _ sen)
  have tkX := Takes.of_laid (v := .int 1) hk hordN tyX (by rw [htX]; rfl)
  have hskip : SkipFacts T e.platform s (fun u => u) u0 ((npeCell N.toNpeT (preparedCellV T.toThrowableT (freshCell P1.m.cls N.kN) W.heap.size u0 sen) W.cur).withEntry W.cur) := ⟨{ ci198 := ci198, i198 := i198, fBack := fB }, ⟨hk198, hg198, ha198, hsB⟩, hbk, fun _ _ => rfl⟩
  obtain ⟨vm', X3, st, -⟩ := X.throwsNpeColdBareVAt hexec hg hsize T L Z LZ N LN P1 L1 [PR, PE] hLs hlink1 ⟨hlinkR, hlinkE, trivial⟩ hfound hk hinit hordN hctor hsel0 hselF hcellS hknownS hvU hvSen
    hv0 xC xS xP tkC tkS tkP tkX Y.objLocals hskip (fun _ _ hA hW _ hroom _ hrest => L.nativeOff p htr hA hW hroom hrest) (by simpa using hRframes) hRlocals (by simp) hRcells (by rw [hn]; exact hRslots)
  have hlt : W.heap.size < ((W.pushCell (freshCell P1.m.cls N.kN)).setVm vm').heap.size := by
    show W.heap.size < (W.pushCell (freshCell P1.m.cls N.kN)).heap.size
    rw [State.heap_size_pushCell]; omega
  rw [hfsz] at X3
  obtain ⟨g₁, hfrM⟩ := X3.frames_eq
  have hU : ((((W.pushCell (freshCell P1.m.cls N.kN)).setVm vm').setCell W.heap.size (npeBareV T.toThrowableT N.toNpeT (freshCell P1.m.cls N.kN) W.heap.size u0 sen)).setTop g).pushFrame (.throwing W.heap.size) = (((W.pushCell (freshCell P1.m.cls N.kN)).setVm vm').setCell W.heap.size (npeBareV T.toThrowableT N.toNpeT (freshCell P1.m.cls N.kN) W.heap.size u0 sen)).setFrames (.throwing W.heap.size :: .java g :: below) := by
    rw [State.pushFrame, State.frames_setTop _ hfrM, State.setTop_of_frames _ hfrM, State.setFrames_setFrames]
  refine ⟨_, W.heap.size, _, fun target ht => st.trans (by rw [← hU]; exact ht), X3.forget (fun y hy => ?_), heapAt_setCell_self _ hlt, hfound, rfl⟩
  simp only [List.mem_cons, List.not_mem_nil, or_false] at hy
  have hge : s.heap.size ≤ W.heap.size := X.same.2.1
  rcases hy with rfl | rfl | rfl | rfl | rfl <;> exact hge
/-- the words of a machine's NullPointerException, but the four that speak of the heap -/
def vx_atN (n : Nat) : List Cond := (Bundle.npeArmAtoms n).filter vx_no
/-- the words of a machine's throw with a message, but the four that speak of the heap -/
def vx_atM (X : String) (names : List String) : List Cond := (Bundle.messageArmAtoms X names).filter vx_no
section
variable {p : Program} {l : Launch} {e : Env} {R : Room} {s : State} {m : MethodId} {args : Array Value} {below : List Frame} {meth : Method} {c : Code} {H : Heap} {locs : List Loc} {cells slots : Nat}
/-- a frame seen from a rebased start, seen from the first start again -/
theorem vx_back9 {T S : State} {R' : Room} {k n : Nat} (X : Stand p l e R s m args below meth c T locs cells slots) (Y : Stand p l e R' ((T.setVm s.vm).setFrames (.invoking m args :: below)) m args below meth c T [] 0 0) (Z : Stand p l e R' ((T.setVm s.vm).setFrames (.invoking m args :: below)) m args below meth c S [] k n) :
    Stand p l e R s m args below meth c S locs (cells + k) (slots + n) := by
  have hW0 : s.WarmedH ((T.setVm s.vm).setFrames (.invoking m args :: below)).vm := State.WarmedH.refl s
  refine { admits := X.admits, cas := X.cas, clock := X.clock, frames := X.frames, room := X.room, hears := X.hears, method := X.method, code := X.code, here := Z.here, tail := Z.tail, warmed := State.WarmedH.trans hW0 Z.warmed, limits := Z.limits.trans (Y.limits.symm.trans X.limits), bytes := Z.bytes.trans (Y.bytes.symm.trans X.bytes), same := ?_ }
  obtain ⟨e1, e2⟩ := Z.same
  rw [State.setFrames_setFrames] at e1
  have h2 : (T.setVm s.vm).sameButNew (S.setVm s.vm) [] k n := ⟨e1, e2⟩
  have h3 := X.same.trans h2
  rw [List.append_nil] at h3
  exact h3
/-- from the machine's note that E is thrown here with this text -/
def vx_Note (p : Program) (l : Launch) (e : Env) (R : Room) (s : State) (m : MethodId) (args : Array Value) (below : List Frame) (meth : Method) (c : Code) (H : Heap) (locs : List Loc) (cells slots : Nat) (Q : State → Prop) (g : JFrame) (E text : String) : Prop :=
  ∀ T : State, T.heap = H → Stand p l e R s m args below meth c T locs cells slots → ∃ t, Steps p.tables e below ((T.setTop g).pushFrame (.throwNew E (some text) none)) t ∧ Q t
theorem vx_vm {pc : Nat} {ls : Array Slot} {rest : List Value} {Q : State → Prop} (hexec : p.tables.exec = Jvm.exec) (hl : l.stackTraces = false) {cls text : String} {names : List String} {nb : Nat} {A : Nat → Prop}
    (hcls : Bundle.fit cls = true) (hnames : ∀ n ∈ names, Bundle.fit n = true) (hsoe : (cls == "java/lang/StackOverflowError") = false) (hoom : (cls == "java/lang/OutOfMemoryError") = false)
    (hat : ∀ w ∈ vx_atM cls names, w.before args s = true) (hgood : ∀ w ∈ vx_atM cls names, vx_ot w = true)
    (hU : vx_Zq Bundle.tN "UNASSIGNED_STACK" Bundle.steD A s s.heap) (hN : vx_Zq Bundle.tN "SUPPRESSED_SENTINEL" Bundle.listD A s s.heap) (hS : va_S A s.heap H locs) (hsize : ls.size = c.maxLocals)
    (htext : (text == notModelled) = false) (hnb : (stringBytes (stringToUtf16 text)).size ≤ nb) (hnb1 : nb ≤ 1000)
    (hRframes : names.length + 4 < R.frames) (hRlocals : (rest.map fun v => v.category).sum + 10240 ≤ R.locals) (hshort : 13 * names.length + 55 ≤ 10240) (hRcells : cells + 3 ≤ R.cells) (hRslots : slots + (nb + 10) ≤ R.slots) (hlocks : meth.locks = false)
    (k : ∀ (H1 : Heap) (q9 : Addr) (ce : Cell), H.size ≤ H1.size → (∀ q : Nat, q < H.size → H1[q]? = H[q]?) → va_S A s.heap H1 locs → H1[q9]? = some ce → ce.vm = .none → s.vm.findClass cls = some ce.cls → vx_W p l e R s m args below meth c H1 locs (cells + 3) (slots + (nb + 10)) Q (F0 m pc ls rest) q9) :
    vx_Note p l e R s m args below meth c H locs cells slots Q (F0 m pc ls rest) cls text := by
  intro T hT X
  have htr : e.platform.stackTraces = false := (show e.platform.stackTraces = l.stackTraces by rw [X.admits.platform]).trans hl
  have Y := vx_rebase X (R' := { frames := R.frames, locals := R.locals, cells := 3, slots := nb + 10 }) (Nat.le_refl _) (Nat.le_refl _) hRcells hRslots
  have hhp : ((T.setVm s.vm).setFrames (.invoking m args :: below)).heap = H := hT
  have hW0 : s.WarmedH ((T.setVm s.vm).setFrames (.invoking m args :: below)).vm := State.WarmedH.refl s
  have hat' : ∀ w ∈ vx_atM cls names, w.before args ((T.setVm s.vm).setFrames (.invoking m args :: below)) = true := fun w hw => vx_ot_at hW0 rfl (hgood w hw) (hat w hw)
  have hU' : vx_Zq Bundle.tN "UNASSIGNED_STACK" Bundle.steD A ((T.setVm s.vm).setFrames (.invoking m args :: below)) ((T.setVm s.vm).setFrames (.invoking m args :: below)).heap := by rw [hhp]; exact vx_Zq.moved hW0.alike (hU.kept hS.2.1)
  have hN' : vx_Zq Bundle.tN "SUPPRESSED_SENTINEL" Bundle.listD A ((T.setVm s.vm).setFrames (.invoking m args :: below)) ((T.setVm s.vm).setFrames (.invoking m args :: below)).heap := by rw [hhp]; exact vx_Zq.moved hW0.alike (hN.kept hS.2.1)
  obtain ⟨S, q, ce, st, Z, hce, hcl', hv⟩ := vx_vmAt Y hexec htr (cls := cls) (names := names) (text := text) hcls hnames hsoe hoom (vx_own hat' (vx_isRefq hU'.1) (vx_isRefq hN'.1) hU'.2.word hN'.2.word) (fun x hx => nomatch hx) htext
    (by rw [Launch.admits_arrayLengthLimit X.admits]; omega) (by rw [Launch.admits_maxHeapBytes X.admits]; simp only [componentBytes]; omega)
    (g := F0 m pc ls rest) rfl hsize hRframes (by show 2 * 0 + (rest.map fun v => v.category).sum + 10240 ≤ R.locals; omega) hshort (by show 0 + 3 ≤ 3; omega) (by show 0 + (_ + 4 + 6) ≤ nb + 10; omega) hlocks
  obtain ⟨f1, f2⟩ := vx_frame Z.same
  have f1' : H.size ≤ S.heap.size := by rw [← hT]; exact f1
  have f2' : ∀ q : Nat, q < H.size → S.heap[q]? = H[q]? := fun q hq => by
    rw [← hT]
    exact f2 q (by rw [← hT] at hq; exact hq) (fun z hz => nomatch hz)
  have X5 := vx_back9 X Y Z
  have X6 : Stand p l e R s m args below meth c S locs (cells + 3) (slots + (nb + 10)) := { X5 with same := X5.same.mono (by omega) (by omega) }
  obtain ⟨t, a1, b1⟩ := k S.heap q ce f1' f2' ⟨Nat.le_trans hS.1 f1', fun q h1 h2 => (f2' q (Nat.lt_of_lt_of_le h1 hS.1)).trans (hS.2.1 q h1 h2), hS.2.2⟩ hce hv hcl' S rfl X6
  exact ⟨t, st t a1, b1⟩
/-- from the machine's note that NullPointerException is thrown here -/
def vx_NoteN (p : Program) (l : Launch) (e : Env) (R : Room) (s : State) (m : MethodId) (args : Array Value) (below : List Frame) (meth : Method) (c : Code) (H : Heap) (locs : List Loc) (cells slots : Nat) (Q : State → Prop) (g : JFrame) : Prop :=
  ∀ T : State, T.heap = H → Stand p l e R s m args below meth c T locs cells slots → ∃ t, Steps p.tables e below ((T.setTop g).pushFrame (.throwNew "java/lang/NullPointerException" none none)) t ∧ Q t
theorem vx_npe {pc : Nat} {ls : Array Slot} {rest : List Value} {Q : State → Prop} (hexec : p.tables.exec = Jvm.exec) (hl : l.stackTraces = false) {nb : Nat} {A : Nat → Prop}
    (hat : ∀ w ∈ vx_atN nb, w.before args s = true) (hgood : ∀ w ∈ vx_atN nb, vx_ot w = true)
    (hU : vx_Zq Bundle.tN "UNASSIGNED_STACK" Bundle.steD A s s.heap) (hN : vx_Zq Bundle.tN "SUPPRESSED_SENTINEL" Bundle.listD A s s.heap) (hS : va_S A s.heap H locs) (hsize : ls.size = c.maxLocals)
    (hRframes : 7 < R.frames) (hRlocals : (rest.map fun v => v.category).sum + 10240 ≤ R.locals) (hRcells : cells + 1 ≤ R.cells) (hRslots : slots + nb ≤ R.slots) (hlocks : meth.locks = false)
    (k : ∀ (H1 : Heap) (q9 : Addr) (ce : Cell), H.size ≤ H1.size → (∀ q : Nat, q < H.size → H1[q]? = H[q]?) → va_S A s.heap H1 locs → H1[q9]? = some ce → ce.vm = .none → s.vm.findClass "java/lang/NullPointerException" = some ce.cls → vx_W p l e R s m args below meth c H1 locs (cells + 1) (slots + nb) Q (F0 m pc ls rest) q9) :
    vx_NoteN p l e R s m args below meth c H locs cells slots Q (F0 m pc ls rest) := by
  intro T hT X
  have htr : e.platform.stackTraces = false := (show e.platform.stackTraces = l.stackTraces by rw [X.admits.platform]).trans hl
  have Y := vx_rebase X (R' := { frames := R.frames, locals := R.locals, cells := 1, slots := nb }) (Nat.le_refl _) (Nat.le_refl _) hRcells hRslots
  have hhp : ((T.setVm s.vm).setFrames (.invoking m args :: below)).heap = H := hT
  have hW0 : s.WarmedH ((T.setVm s.vm).setFrames (.invoking m args :: below)).vm := State.WarmedH.refl s
  have hat' : ∀ w ∈ vx_atN nb, w.before args ((T.setVm s.vm).setFrames (.invoking m args :: below)) = true := fun w hw => vx_ot_at hW0 rfl (hgood w hw) (hat w hw)
  have hU' : vx_Zq Bundle.tN "UNASSIGNED_STACK" Bundle.steD A ((T.setVm s.vm).setFrames (.invoking m args :: below)) ((T.setVm s.vm).setFrames (.invoking m args :: below)).heap := by rw [hhp]; exact vx_Zq.moved hW0.alike (hU.kept hS.2.1)
  have hN' : vx_Zq Bundle.tN "SUPPRESSED_SENTINEL" Bundle.listD A ((T.setVm s.vm).setFrames (.invoking m args :: below)) ((T.setVm s.vm).setFrames (.invoking m args :: below)).heap := by rw [hhp]; exact vx_Zq.moved hW0.alike (hN.kept hS.2.1)
  obtain ⟨S, q, ce, st, Z, hce, hcl', hv⟩ := vx_npeAt Y hexec htr (n := nb) (vx_own hat' (vx_isRefq hU'.1) (vx_isRefq hN'.1) hU'.2.word hN'.2.word) (fun x hx => nomatch hx)
    (g := F0 m pc ls rest) rfl hsize hRframes (by show 2 * 0 + (rest.map fun v => v.category).sum + 10240 ≤ R.locals; omega) (by show 0 + 1 ≤ 1; omega) (by show 0 + nb ≤ nb; omega) hlocks
  obtain ⟨f1, f2⟩ := vx_frame Z.same
  have f1' : H.size ≤ S.heap.size := by rw [← hT]; exact f1
  have f2' : ∀ q : Nat, q < H.size → S.heap[q]? = H[q]? := fun q hq => by
    rw [← hT]
    exact f2 q (by rw [← hT] at hq; exact hq) (fun z hz => nomatch hz)
  have X5 := vx_back9 X Y Z
  have X6 : Stand p l e R s m args below meth c S locs (cells + 1) (slots + nb) := { X5 with same := X5.same.mono (by omega) (by omega) }
  obtain ⟨t, a1, b1⟩ := k S.heap q ce f1' f2' ⟨Nat.le_trans hS.1 f1', fun q h1 h2 => (f2' q (Nat.lt_of_lt_of_le h1 hS.1)).trans (hS.2.1 q h1 h2), hS.2.2⟩ hce hv hcl' S rfl X6
  exact ⟨t, st t a1, b1⟩
variable {Q : State → Prop} {cc : ByteArray} {pc : Nat} {ls : Array Slot} {rest : List Value}
theorem vx_idivZ (hexec : p.tables.exec = Jvm.exec) (hb : c.code = cc) {a b : Int32} (h0 : b = 0) (d : decode cc pc = .ok (.idiv, 1)) (k : vx_Note p l e R s m args below meth c H locs cells slots Q (F0 m pc ls rest) "java/lang/ArithmeticException" "/ by zero") :
    W p l e R s m args below meth c H locs cells slots Q (F0 m pc ls (.int b :: .int a :: rest)) := by
  intro T hT X
  obtain ⟨t, st, q⟩ := k T hT X
  exact ⟨t, X.idivZero hexec (g := F0 m pc ls (.int b :: .int a :: rest)) rfl (a := a) (rest := rest) (by rw [h0]) (by rw [hb]; exact d) t st, q⟩
theorem vx_iremZ (hexec : p.tables.exec = Jvm.exec) (hb : c.code = cc) {a b : Int32} (h0 : b = 0) (d : decode cc pc = .ok (.irem, 1)) (k : vx_Note p l e R s m args below meth c H locs cells slots Q (F0 m pc ls rest) "java/lang/ArithmeticException" "/ by zero") :
    W p l e R s m args below meth c H locs cells slots Q (F0 m pc ls (.int b :: .int a :: rest)) := by
  intro T hT X
  obtain ⟨t, st, q⟩ := k T hT X
  exact ⟨t, X.iremZero hexec (g := F0 m pc ls (.int b :: .int a :: rest)) rfl (a := a) (rest := rest) (by rw [h0]) (by rw [hb]; exact d) t st, q⟩
theorem vx_ldivZ (hexec : p.tables.exec = Jvm.exec) (hb : c.code = cc) {a b : Int64} (h0 : b = 0) (d : decode cc pc = .ok (.ldiv, 1)) (k : vx_Note p l e R s m args below meth c H locs cells slots Q (F0 m pc ls rest) "java/lang/ArithmeticException" "/ by zero") :
    W p l e R s m args below meth c H locs cells slots Q (F0 m pc ls (.long b :: .long a :: rest)) := by
  intro T hT X
  obtain ⟨t, st, q⟩ := k T hT X
  exact ⟨t, X.ldivZero hexec (g := F0 m pc ls (.long b :: .long a :: rest)) rfl (a := a) (rest := rest) (by rw [h0]) (by rw [hb]; exact d) t st, q⟩
theorem vx_lremZ (hexec : p.tables.exec = Jvm.exec) (hb : c.code = cc) {a b : Int64} (h0 : b = 0) (d : decode cc pc = .ok (.lrem, 1)) (k : vx_Note p l e R s m args below meth c H locs cells slots Q (F0 m pc ls rest) "java/lang/ArithmeticException" "/ by zero") :
    W p l e R s m args below meth c H locs cells slots Q (F0 m pc ls (.long b :: .long a :: rest)) := by
  intro T hT X
  obtain ⟨t, st, q⟩ := k T hT X
  exact ⟨t, X.lremZero hexec (g := F0 m pc ls (.long b :: .long a :: rest)) rfl (a := a) (rest := rest) (by rw [h0]) (by rw [hb]; exact d) t st, q⟩
theorem vx_ialdZ {D : va_G} {cl : List vw_C} {ws : va_W} {tys : List (ClassId × FieldType)} {a : Nat} (hexec : p.tables.exec = Jvm.exec) (hb : c.code = cc) (hK : va_K D cl tys s) (hP : va_P D cl ws H) (q0 t0 : Nat) {cA : ClassId} {n : Nat} {f : Nat → Int32} (ha : ws[q0]? = some (a, .inl (cA, n, .inl f))) (ht : tys[t0]? = some (cA, .int)) {i : Int32} (hout : ¬ vp_in i n) (hdg : decode cc pc = .ok (.iaload, 1))
    (k : ∀ tx : String, tx = (toString "Index " ++ toString i ++ toString " out of bounds for length " ++ toString n : String) → vx_Note p l e R s m args below meth c H locs cells slots Q (F0 m pc ls rest) "java/lang/ArrayIndexOutOfBoundsException" tx) : W p l e R s m args below meth c H locs cells slots Q (F0 m pc ls (.int i :: .ref a :: rest)) := by
  intro T hT X
  obtain ⟨t, st, q⟩ := k _ rfl T hT X
  refine ⟨t, ?_, q⟩
  have h1 := X.ialoadOut hexec (by rw [hT]; exact hP q0 _ ha) ((hK.2 t0 _ ht).1 n (fun j => .int (f j))) (j := i) (by show (i < 0 ∨ (arrV _ _ _).slots.size ≤ _); rw [arrV_size]; exact Classical.byContradiction hout) (g := F0 m pc ls (.int i :: .ref a :: rest)) rfl (rest := rest) rfl (by rw [hb]; exact hdg) t
  simp only [arrV_size] at h1
  exact h1 st
theorem vx_iastZ {D : va_G} {cl : List vw_C} {ws : va_W} {tys : List (ClassId × FieldType)} {a : Nat} (hexec : p.tables.exec = Jvm.exec) (hb : c.code = cc) (hK : va_K D cl tys s) (hP : va_P D cl ws H) (q0 t0 : Nat) {cA : ClassId} {n : Nat} {f : Nat → Int32} (ha : ws[q0]? = some (a, .inl (cA, n, .inl f))) (ht : tys[t0]? = some (cA, .int)) {i : Int32} {x : Int32} (hout : ¬ vp_in i n) (hdg : decode cc pc = .ok (.iastore, 1))
    (k : ∀ tx : String, tx = (toString "Index " ++ toString i ++ toString " out of bounds for length " ++ toString n : String) → vx_Note p l e R s m args below meth c H locs cells slots Q (F0 m pc ls rest) "java/lang/ArrayIndexOutOfBoundsException" tx) : W p l e R s m args below meth c H locs cells slots Q (F0 m pc ls (.int x :: .int i :: .ref a :: rest)) := by
  intro T hT X
  obtain ⟨t, st, q⟩ := k _ rfl T hT X
  refine ⟨t, ?_, q⟩
  have h1 := X.iastoreOut hexec (by rw [hT]; exact hP q0 _ ha) ((hK.2 t0 _ ht).1 n (fun j => .int (f j))) (j := i) (by show (i < 0 ∨ (arrV _ _ _).slots.size ≤ _); rw [arrV_size]; exact Classical.byContradiction hout) (g := F0 m pc ls (.int x :: .int i :: .ref a :: rest)) rfl (rest := rest) rfl (by rw [hb]; exact hdg) t
  simp only [arrV_size] at h1
  exact h1 st
theorem vx_baldZ {D : va_G} {cl : List vw_C} {ws : va_W} {tys : List (ClassId × FieldType)} {a : Nat} (hexec : p.tables.exec = Jvm.exec) (hb : c.code = cc) (hK : va_K D cl tys s) (hP : va_P D cl ws H) (q0 t0 : Nat) {cA : ClassId} {n : Nat} {f : Nat → Int32} (ha : ws[q0]? = some (a, .inl (cA, n, .inl f))) (ht : tys[t0]? = some (cA, .byte)) {i : Int32} (hout : ¬ vp_in i n) (hdg : decode cc pc = .ok (.baload, 1))
    (k : ∀ tx : String, tx = (toString "Index " ++ toString i ++ toString " out of bounds for length " ++ toString n : String) → vx_Note p l e R s m args below meth c H locs cells slots Q (F0 m pc ls rest) "java/lang/ArrayIndexOutOfBoundsException" tx) : W p l e R s m args below meth c H locs cells slots Q (F0 m pc ls (.int i :: .ref a :: rest)) := by
  intro T hT X
  obtain ⟨t, st, q⟩ := k _ rfl T hT X
  refine ⟨t, ?_, q⟩
  have h1 := X.baloadOut hexec (by rw [hT]; exact hP q0 _ ha) ((hK.2 t0 _ ht).1 n (fun j => .int (f j))) (j := i) (by show (i < 0 ∨ (arrV _ _ _).slots.size ≤ _); rw [arrV_size]; exact Classical.byContradiction hout) (g := F0 m pc ls (.int i :: .ref a :: rest)) rfl (rest := rest) rfl (by rw [hb]; exact hdg) t
  simp only [arrV_size] at h1
  exact h1 st
theorem vx_bastZ {D : va_G} {cl : List vw_C} {ws : va_W} {tys : List (ClassId × FieldType)} {a : Nat} (hexec : p.tables.exec = Jvm.exec) (hb : c.code = cc) (hK : va_K D cl tys s) (hP : va_P D cl ws H) (q0 t0 : Nat) {cA : ClassId} {n : Nat} {f : Nat → Int32} (ha : ws[q0]? = some (a, .inl (cA, n, .inl f))) (ht : tys[t0]? = some (cA, .byte)) {i : Int32} {x : Int32} (hout : ¬ vp_in i n) (hdg : decode cc pc = .ok (.bastore, 1))
    (k : ∀ tx : String, tx = (toString "Index " ++ toString i ++ toString " out of bounds for length " ++ toString n : String) → vx_Note p l e R s m args below meth c H locs cells slots Q (F0 m pc ls rest) "java/lang/ArrayIndexOutOfBoundsException" tx) : W p l e R s m args below meth c H locs cells slots Q (F0 m pc ls (.int x :: .int i :: .ref a :: rest)) := by
  intro T hT X
  obtain ⟨t, st, q⟩ := k _ rfl T hT X
  refine ⟨t, ?_, q⟩
  have h1 := X.bastoreOut hexec (by rw [hT]; exact hP q0 _ ha) ((hK.2 t0 _ ht).1 n (fun j => .int (f j))) (j := i) (by show (i < 0 ∨ (arrV _ _ _).slots.size ≤ _); rw [arrV_size]; exact Classical.byContradiction hout) (g := F0 m pc ls (.int x :: .int i :: .ref a :: rest)) rfl (rest := rest) rfl (by rw [hb]; exact hdg) t
  simp only [arrV_size] at h1
  exact h1 st
theorem vx_zaldZ {D : va_G} {cl : List vw_C} {ws : va_W} {tys : List (ClassId × FieldType)} {a : Nat} (hexec : p.tables.exec = Jvm.exec) (hb : c.code = cc) (hK : va_K D cl tys s) (hP : va_P D cl ws H) (q0 t0 : Nat) {cA : ClassId} {n : Nat} {f : Nat → Int32} (ha : ws[q0]? = some (a, .inl (cA, n, .inl f))) (ht : tys[t0]? = some (cA, .boolean)) {i : Int32} (hout : ¬ vp_in i n) (hdg : decode cc pc = .ok (.baload, 1))
    (k : ∀ tx : String, tx = (toString "Index " ++ toString i ++ toString " out of bounds for length " ++ toString n : String) → vx_Note p l e R s m args below meth c H locs cells slots Q (F0 m pc ls rest) "java/lang/ArrayIndexOutOfBoundsException" tx) : W p l e R s m args below meth c H locs cells slots Q (F0 m pc ls (.int i :: .ref a :: rest)) := by
  intro T hT X
  obtain ⟨t, st, q⟩ := k _ rfl T hT X
  refine ⟨t, ?_, q⟩
  have h1 := X.baloadOut hexec (by rw [hT]; exact hP q0 _ ha) ((hK.2 t0 _ ht).1 n (fun j => .int (f j))) (j := i) (by show (i < 0 ∨ (arrV _ _ _).slots.size ≤ _); rw [arrV_size]; exact Classical.byContradiction hout) (g := F0 m pc ls (.int i :: .ref a :: rest)) rfl (rest := rest) rfl (by rw [hb]; exact hdg) t
  simp only [arrV_size] at h1
  exact h1 st
theorem vx_zastZ {D : va_G} {cl : List vw_C} {ws : va_W} {tys : List (ClassId × FieldType)} {a : Nat} (hexec : p.tables.exec = Jvm.exec) (hb : c.code = cc) (hK : va_K D cl tys s) (hP : va_P D cl ws H) (q0 t0 : Nat) {cA : ClassId} {n : Nat} {f : Nat → Int32} (ha : ws[q0]? = some (a, .inl (cA, n, .inl f))) (ht : tys[t0]? = some (cA, .boolean)) {i : Int32} {x : Int32} (hout : ¬ vp_in i n) (hdg : decode cc pc = .ok (.bastore, 1))
    (k : ∀ tx : String, tx = (toString "Index " ++ toString i ++ toString " out of bounds for length " ++ toString n : String) → vx_Note p l e R s m args below meth c H locs cells slots Q (F0 m pc ls rest) "java/lang/ArrayIndexOutOfBoundsException" tx) : W p l e R s m args below meth c H locs cells slots Q (F0 m pc ls (.int x :: .int i :: .ref a :: rest)) := by
  intro T hT X
  obtain ⟨t, st, q⟩ := k _ rfl T hT X
  refine ⟨t, ?_, q⟩
  have h1 := X.bastoreOut hexec (by rw [hT]; exact hP q0 _ ha) ((hK.2 t0 _ ht).1 n (fun j => .int (f j))) (j := i) (by show (i < 0 ∨ (arrV _ _ _).slots.size ≤ _); rw [arrV_size]; exact Classical.byContradiction hout) (g := F0 m pc ls (.int x :: .int i :: .ref a :: rest)) rfl (rest := rest) rfl (by rw [hb]; exact hdg) t
  simp only [arrV_size] at h1
  exact h1 st
theorem vx_caldZ {D : va_G} {cl : List vw_C} {ws : va_W} {tys : List (ClassId × FieldType)} {a : Nat} (hexec : p.tables.exec = Jvm.exec) (hb : c.code = cc) (hK : va_K D cl tys s) (hP : va_P D cl ws H) (q0 t0 : Nat) {cA : ClassId} {n : Nat} {f : Nat → Int32} (ha : ws[q0]? = some (a, .inl (cA, n, .inl f))) (ht : tys[t0]? = some (cA, .char)) {i : Int32} (hout : ¬ vp_in i n) (hdg : decode cc pc = .ok (.caload, 1))
    (k : ∀ tx : String, tx = (toString "Index " ++ toString i ++ toString " out of bounds for length " ++ toString n : String) → vx_Note p l e R s m args below meth c H locs cells slots Q (F0 m pc ls rest) "java/lang/ArrayIndexOutOfBoundsException" tx) : W p l e R s m args below meth c H locs cells slots Q (F0 m pc ls (.int i :: .ref a :: rest)) := by
  intro T hT X
  obtain ⟨t, st, q⟩ := k _ rfl T hT X
  refine ⟨t, ?_, q⟩
  have h1 := X.caloadOut hexec (by rw [hT]; exact hP q0 _ ha) ((hK.2 t0 _ ht).1 n (fun j => .int (f j))) (j := i) (by show (i < 0 ∨ (arrV _ _ _).slots.size ≤ _); rw [arrV_size]; exact Classical.byContradiction hout) (g := F0 m pc ls (.int i :: .ref a :: rest)) rfl (rest := rest) rfl (by rw [hb]; exact hdg) t
  simp only [arrV_size] at h1
  exact h1 st
theorem vx_castZ {D : va_G} {cl : List vw_C} {ws : va_W} {tys : List (ClassId × FieldType)} {a : Nat} (hexec : p.tables.exec = Jvm.exec) (hb : c.code = cc) (hK : va_K D cl tys s) (hP : va_P D cl ws H) (q0 t0 : Nat) {cA : ClassId} {n : Nat} {f : Nat → Int32} (ha : ws[q0]? = some (a, .inl (cA, n, .inl f))) (ht : tys[t0]? = some (cA, .char)) {i : Int32} {x : Int32} (hout : ¬ vp_in i n) (hdg : decode cc pc = .ok (.castore, 1))
    (k : ∀ tx : String, tx = (toString "Index " ++ toString i ++ toString " out of bounds for length " ++ toString n : String) → vx_Note p l e R s m args below meth c H locs cells slots Q (F0 m pc ls rest) "java/lang/ArrayIndexOutOfBoundsException" tx) : W p l e R s m args below meth c H locs cells slots Q (F0 m pc ls (.int x :: .int i :: .ref a :: rest)) := by
  intro T hT X
  obtain ⟨t, st, q⟩ := k _ rfl T hT X
  refine ⟨t, ?_, q⟩
  have h1 := X.castoreOut hexec (by rw [hT]; exact hP q0 _ ha) ((hK.2 t0 _ ht).1 n (fun j => .int (f j))) (j := i) (by show (i < 0 ∨ (arrV _ _ _).slots.size ≤ _); rw [arrV_size]; exact Classical.byContradiction hout) (g := F0 m pc ls (.int x :: .int i :: .ref a :: rest)) rfl (rest := rest) rfl (by rw [hb]; exact hdg) t
  simp only [arrV_size] at h1
  exact h1 st
theorem vx_saldZ {D : va_G} {cl : List vw_C} {ws : va_W} {tys : List (ClassId × FieldType)} {a : Nat} (hexec : p.tables.exec = Jvm.exec) (hb : c.code = cc) (hK : va_K D cl tys s) (hP : va_P D cl ws H) (q0 t0 : Nat) {cA : ClassId} {n : Nat} {f : Nat → Int32} (ha : ws[q0]? = some (a, .inl (cA, n, .inl f))) (ht : tys[t0]? = some (cA, .short)) {i : Int32} (hout : ¬ vp_in i n) (hdg : decode cc pc = .ok (.saload, 1))
    (k : ∀ tx : String, tx = (toString "Index " ++ toString i ++ toString " out of bounds for length " ++ toString n : String) → vx_Note p l e R s m args below meth c H locs cells slots Q (F0 m pc ls rest) "java/lang/ArrayIndexOutOfBoundsException" tx) : W p l e R s m args below meth c H locs cells slots Q (F0 m pc ls (.int i :: .ref a :: rest)) := by
  intro T hT X
  obtain ⟨t, st, q⟩ := k _ rfl T hT X
  refine ⟨t, ?_, q⟩
  have h1 := X.saloadOut hexec (by rw [hT]; exact hP q0 _ ha) ((hK.2 t0 _ ht).1 n (fun j => .int (f j))) (j := i) (by show (i < 0 ∨ (arrV _ _ _).slots.size ≤ _); rw [arrV_size]; exact Classical.byContradiction hout) (g := F0 m pc ls (.int i :: .ref a :: rest)) rfl (rest := rest) rfl (by rw [hb]; exact hdg) t
  simp only [arrV_size] at h1
  exact h1 st
theorem vx_sastZ {D : va_G} {cl : List vw_C} {ws : va_W} {tys : List (ClassId × FieldType)} {a : Nat} (hexec : p.tables.exec = Jvm.exec) (hb : c.code = cc) (hK : va_K D cl tys s) (hP : va_P D cl ws H) (q0 t0 : Nat) {cA : ClassId} {n : Nat} {f : Nat → Int32} (ha : ws[q0]? = some (a, .inl (cA, n, .inl f))) (ht : tys[t0]? = some (cA, .short)) {i : Int32} {x : Int32} (hout : ¬ vp_in i n) (hdg : decode cc pc = .ok (.sastore, 1))
    (k : ∀ tx : String, tx = (toString "Index " ++ toString i ++ toString " out of bounds for length " ++ toString n : String) → vx_Note p l e R s m args below meth c H locs cells slots Q (F0 m pc ls rest) "java/lang/ArrayIndexOutOfBoundsException" tx) : W p l e R s m args below meth c H locs cells slots Q (F0 m pc ls (.int x :: .int i :: .ref a :: rest)) := by
  intro T hT X
  obtain ⟨t, st, q⟩ := k _ rfl T hT X
  refine ⟨t, ?_, q⟩
  have h1 := X.sastoreOut hexec (by rw [hT]; exact hP q0 _ ha) ((hK.2 t0 _ ht).1 n (fun j => .int (f j))) (j := i) (by show (i < 0 ∨ (arrV _ _ _).slots.size ≤ _); rw [arrV_size]; exact Classical.byContradiction hout) (g := F0 m pc ls (.int x :: .int i :: .ref a :: rest)) rfl (rest := rest) rfl (by rw [hb]; exact hdg) t
  simp only [arrV_size] at h1
  exact h1 st
theorem vx_laldZ {D : va_G} {cl : List vw_C} {ws : va_W} {tys : List (ClassId × FieldType)} {a : Nat} (hexec : p.tables.exec = Jvm.exec) (hb : c.code = cc) (hK : va_K D cl tys s) (hP : va_P D cl ws H) (q0 t0 : Nat) {cA : ClassId} {n : Nat} {f : Nat → Int64} (ha : ws[q0]? = some (a, .inl (cA, n, .inr (.inl f)))) (ht : tys[t0]? = some (cA, .long)) {i : Int32} (hout : ¬ vp_in i n) (hdg : decode cc pc = .ok (.laload, 1))
    (k : ∀ tx : String, tx = (toString "Index " ++ toString i ++ toString " out of bounds for length " ++ toString n : String) → vx_Note p l e R s m args below meth c H locs cells slots Q (F0 m pc ls rest) "java/lang/ArrayIndexOutOfBoundsException" tx) : W p l e R s m args below meth c H locs cells slots Q (F0 m pc ls (.int i :: .ref a :: rest)) := by
  intro T hT X
  obtain ⟨t, st, q⟩ := k _ rfl T hT X
  refine ⟨t, ?_, q⟩
  have h1 := X.laloadOut hexec (by rw [hT]; exact hP q0 _ ha) ((hK.2 t0 _ ht).1 n (fun j => .long (f j))) (j := i) (by show (i < 0 ∨ (arrV _ _ _).slots.size ≤ _); rw [arrV_size]; exact Classical.byContradiction hout) (g := F0 m pc ls (.int i :: .ref a :: rest)) rfl (rest := rest) rfl (by rw [hb]; exact hdg) t
  simp only [arrV_size] at h1
  exact h1 st
theorem vx_lastZ {D : va_G} {cl : List vw_C} {ws : va_W} {tys : List (ClassId × FieldType)} {a : Nat} (hexec : p.tables.exec = Jvm.exec) (hb : c.code = cc) (hK : va_K D cl tys s) (hP : va_P D cl ws H) (q0 t0 : Nat) {cA : ClassId} {n : Nat} {f : Nat → Int64} (ha : ws[q0]? = some (a, .inl (cA, n, .inr (.inl f)))) (ht : tys[t0]? = some (cA, .long)) {i : Int32} {x : Int64} (hout : ¬ vp_in i n) (hdg : decode cc pc = .ok (.lastore, 1))
    (k : ∀ tx : String, tx = (toString "Index " ++ toString i ++ toString " out of bounds for length " ++ toString n : String) → vx_Note p l e R s m args below meth c H locs cells slots Q (F0 m pc ls rest) "java/lang/ArrayIndexOutOfBoundsException" tx) : W p l e R s m args below meth c H locs cells slots Q (F0 m pc ls (.long x :: .int i :: .ref a :: rest)) := by
  intro T hT X
  obtain ⟨t, st, q⟩ := k _ rfl T hT X
  refine ⟨t, ?_, q⟩
  have h1 := X.lastoreOut hexec (by rw [hT]; exact hP q0 _ ha) ((hK.2 t0 _ ht).1 n (fun j => .long (f j))) (j := i) (by show (i < 0 ∨ (arrV _ _ _).slots.size ≤ _); rw [arrV_size]; exact Classical.byContradiction hout) (g := F0 m pc ls (.long x :: .int i :: .ref a :: rest)) rfl (rest := rest) rfl (by rw [hb]; exact hdg) t
  simp only [arrV_size] at h1
  exact h1 st
theorem vx_faldZ {D : va_G} {cl : List vw_C} {ws : va_W} {tys : List (ClassId × FieldType)} {a : Nat} (hexec : p.tables.exec = Jvm.exec) (hb : c.code = cc) (hK : va_K D cl tys s) (hP : va_P D cl ws H) (q0 t0 : Nat) {cA : ClassId} {n : Nat} {f : Nat → UInt32} (ha : ws[q0]? = some (a, .inl (cA, n, .inr (.inr (.inl f))))) (ht : tys[t0]? = some (cA, .float)) {i : Int32} (hout : ¬ vp_in i n) (hdg : decode cc pc = .ok (.faload, 1))
    (k : ∀ tx : String, tx = (toString "Index " ++ toString i ++ toString " out of bounds for length " ++ toString n : String) → vx_Note p l e R s m args below meth c H locs cells slots Q (F0 m pc ls rest) "java/lang/ArrayIndexOutOfBoundsException" tx) : W p l e R s m args below meth c H locs cells slots Q (F0 m pc ls (.int i :: .ref a :: rest)) := by
  intro T hT X
  obtain ⟨t, st, q⟩ := k _ rfl T hT X
  refine ⟨t, ?_, q⟩
  have h1 := X.faloadOut hexec (by rw [hT]; exact hP q0 _ ha) ((hK.2 t0 _ ht).1 n (fun j => .float (f j))) (j := i) (by show (i < 0 ∨ (arrV _ _ _).slots.size ≤ _); rw [arrV_size]; exact Classical.byContradiction hout) (g := F0 m pc ls (.int i :: .ref a :: rest)) rfl (rest := rest) rfl (by rw [hb]; exact hdg) t
  simp only [arrV_size] at h1
  exact h1 st
theorem vx_fastZ {D : va_G} {cl : List vw_C} {ws : va_W} {tys : List (ClassId × FieldType)} {a : Nat} (hexec : p.tables.exec = Jvm.exec) (hb : c.code = cc) (hK : va_K D cl tys s) (hP : va_P D cl ws H) (q0 t0 : Nat) {cA : ClassId} {n : Nat} {f : Nat → UInt32} (ha : ws[q0]? = some (a, .inl (cA, n, .inr (.inr (.inl f))))) (ht : tys[t0]? = some (cA, .float)) {i : Int32} {x : UInt32} (hout : ¬ vp_in i n) (hdg : decode cc pc = .ok (.fastore, 1))
    (k : ∀ tx : String, tx = (toString "Index " ++ toString i ++ toString " out of bounds for length " ++ toString n : String) → vx_Note p l e R s m args below meth c H locs cells slots Q (F0 m pc ls rest) "java/lang/ArrayIndexOutOfBoundsException" tx) : W p l e R s m args below meth c H locs cells slots Q (F0 m pc ls (.float x :: .int i :: .ref a :: rest)) := by
  intro T hT X
  obtain ⟨t, st, q⟩ := k _ rfl T hT X
  refine ⟨t, ?_, q⟩
  have h1 := X.fastoreOut hexec (by rw [hT]; exact hP q0 _ ha) ((hK.2 t0 _ ht).1 n (fun j => .float (f j))) (j := i) (by show (i < 0 ∨ (arrV _ _ _).slots.size ≤ _); rw [arrV_size]; exact Classical.byContradiction hout) (g := F0 m pc ls (.float x :: .int i :: .ref a :: rest)) rfl (rest := rest) rfl (by rw [hb]; exact hdg) t
  simp only [arrV_size] at h1
  exact h1 st
theorem vx_daldZ {D : va_G} {cl : List vw_C} {ws : va_W} {tys : List (ClassId × FieldType)} {a : Nat} (hexec : p.tables.exec = Jvm.exec) (hb : c.code = cc) (hK : va_K D cl tys s) (hP : va_P D cl ws H) (q0 t0 : Nat) {cA : ClassId} {n : Nat} {f : Nat → UInt64} (ha : ws[q0]? = some (a, .inl (cA, n, .inr (.inr (.inr (.inl f)))))) (ht : tys[t0]? = some (cA, .double)) {i : Int32} (hout : ¬ vp_in i n) (hdg : decode cc pc = .ok (.daload, 1))
    (k : ∀ tx : String, tx = (toString "Index " ++ toString i ++ toString " out of bounds for length " ++ toString n : String) → vx_Note p l e R s m args below meth c H locs cells slots Q (F0 m pc ls rest) "java/lang/ArrayIndexOutOfBoundsException" tx) : W p l e R s m args below meth c H locs cells slots Q (F0 m pc ls (.int i :: .ref a :: rest)) := by
  intro T hT X
  obtain ⟨t, st, q⟩ := k _ rfl T hT X
  refine ⟨t, ?_, q⟩
  have h1 := X.daloadOut hexec (by rw [hT]; exact hP q0 _ ha) ((hK.2 t0 _ ht).1 n (fun j => .double (f j))) (j := i) (by show (i < 0 ∨ (arrV _ _ _).slots.size ≤ _); rw [arrV_size]; exact Classical.byContradiction hout) (g := F0 m pc ls (.int i :: .ref a :: rest)) rfl (rest := rest) rfl (by rw [hb]; exact hdg) t
  simp only [arrV_size] at h1
  exact h1 st
theorem vx_dastZ {D : va_G} {cl : List vw_C} {ws : va_W} {tys : List (ClassId × FieldType)} {a : Nat} (hexec : p.tables.exec = Jvm.exec) (hb : c.code = cc) (hK : va_K D cl tys s) (hP : va_P D cl ws H) (q0 t0 : Nat) {cA : ClassId} {n : Nat} {f : Nat → UInt64} (ha : ws[q0]? = some (a, .inl (cA, n, .inr (.inr (.inr (.inl f)))))) (ht : tys[t0]? = some (cA, .double)) {i : Int32} {x : UInt64} (hout : ¬ vp_in i n) (hdg : decode cc pc = .ok (.dastore, 1))
    (k : ∀ tx : String, tx = (toString "Index " ++ toString i ++ toString " out of bounds for length " ++ toString n : String) → vx_Note p l e R s m args below meth c H locs cells slots Q (F0 m pc ls rest) "java/lang/ArrayIndexOutOfBoundsException" tx) : W p l e R s m args below meth c H locs cells slots Q (F0 m pc ls (.double x :: .int i :: .ref a :: rest)) := by
  intro T hT X
  obtain ⟨t, st, q⟩ := k _ rfl T hT X
  refine ⟨t, ?_, q⟩
  have h1 := X.dastoreOut hexec (by rw [hT]; exact hP q0 _ ha) ((hK.2 t0 _ ht).1 n (fun j => .double (f j))) (j := i) (by show (i < 0 ∨ (arrV _ _ _).slots.size ≤ _); rw [arrV_size]; exact Classical.byContradiction hout) (g := F0 m pc ls (.double x :: .int i :: .ref a :: rest)) rfl (rest := rest) rfl (by rw [hb]; exact hdg) t
  simp only [arrV_size] at h1
  exact h1 st
theorem vx_arraylengthN (hexec : p.tables.exec = Jvm.exec) (hb : c.code = cc) (hdg : decode cc pc = .ok (.arraylength, 1)) (k : vx_NoteN p l e R s m args below meth c H locs cells slots Q (F0 m pc ls rest)) : W p l e R s m args below meth c H locs cells slots Q (F0 m pc ls (.null :: rest)) := by
  intro T hT X
  obtain ⟨t, st, q⟩ := k T hT X
  exact ⟨t, X.arraylengthNull hexec (g := F0 m pc ls (.null :: rest)) rfl (rest := rest) rfl (by rw [hb]; exact hdg) t st, q⟩
theorem vx_ialoadN (hexec : p.tables.exec = Jvm.exec) (hb : c.code = cc) {i : Int32} (hdg : decode cc pc = .ok (.iaload, 1)) (k : vx_NoteN p l e R s m args below meth c H locs cells slots Q (F0 m pc ls rest)) : W p l e R s m args below meth c H locs cells slots Q (F0 m pc ls (.int i :: .null :: rest)) := by
  intro T hT X
  obtain ⟨t, st, q⟩ := k T hT X
  exact ⟨t, X.ialoadNull hexec (g := F0 m pc ls (.int i :: .null :: rest)) rfl (rest := rest) rfl (by rw [hb]; exact hdg) t st, q⟩
theorem vx_laloadN (hexec : p.tables.exec = Jvm.exec) (hb : c.code = cc) {i : Int32} (hdg : decode cc pc = .ok (.laload, 1)) (k : vx_NoteN p l e R s m args below meth c H locs cells slots Q (F0 m pc ls rest)) : W p l e R s m args below meth c H locs cells slots Q (F0 m pc ls (.int i :: .null :: rest)) := by
  intro T hT X
  obtain ⟨t, st, q⟩ := k T hT X
  exact ⟨t, X.laloadNull hexec (g := F0 m pc ls (.int i :: .null :: rest)) rfl (rest := rest) rfl (by rw [hb]; exact hdg) t st, q⟩
theorem vx_faloadN (hexec : p.tables.exec = Jvm.exec) (hb : c.code = cc) {i : Int32} (hdg : decode cc pc = .ok (.faload, 1)) (k : vx_NoteN p l e R s m args below meth c H locs cells slots Q (F0 m pc ls rest)) : W p l e R s m args below meth c H locs cells slots Q (F0 m pc ls (.int i :: .null :: rest)) := by
  intro T hT X
  obtain ⟨t, st, q⟩ := k T hT X
  exact ⟨t, X.faloadNull hexec (g := F0 m pc ls (.int i :: .null :: rest)) rfl (rest := rest) rfl (by rw [hb]; exact hdg) t st, q⟩
theorem vx_daloadN (hexec : p.tables.exec = Jvm.exec) (hb : c.code = cc) {i : Int32} (hdg : decode cc pc = .ok (.daload, 1)) (k : vx_NoteN p l e R s m args below meth c H locs cells slots Q (F0 m pc ls rest)) : W p l e R s m args below meth c H locs cells slots Q (F0 m pc ls (.int i :: .null :: rest)) := by
  intro T hT X
  obtain ⟨t, st, q⟩ := k T hT X
  exact ⟨t, X.daloadNull hexec (g := F0 m pc ls (.int i :: .null :: rest)) rfl (rest := rest) rfl (by rw [hb]; exact hdg) t st, q⟩
theorem vx_aaloadN (hexec : p.tables.exec = Jvm.exec) (hb : c.code = cc) {i : Int32} (hdg : decode cc pc = .ok (.aaload, 1)) (k : vx_NoteN p l e R s m args below meth c H locs cells slots Q (F0 m pc ls rest)) : W p l e R s m args below meth c H locs cells slots Q (F0 m pc ls (.int i :: .null :: rest)) := by
  intro T hT X
  obtain ⟨t, st, q⟩ := k T hT X
  exact ⟨t, X.aaloadNull hexec (g := F0 m pc ls (.int i :: .null :: rest)) rfl (rest := rest) rfl (by rw [hb]; exact hdg) t st, q⟩
theorem vx_baloadN (hexec : p.tables.exec = Jvm.exec) (hb : c.code = cc) {i : Int32} (hdg : decode cc pc = .ok (.baload, 1)) (k : vx_NoteN p l e R s m args below meth c H locs cells slots Q (F0 m pc ls rest)) : W p l e R s m args below meth c H locs cells slots Q (F0 m pc ls (.int i :: .null :: rest)) := by
  intro T hT X
  obtain ⟨t, st, q⟩ := k T hT X
  exact ⟨t, X.baloadNull hexec (g := F0 m pc ls (.int i :: .null :: rest)) rfl (rest := rest) rfl (by rw [hb]; exact hdg) t st, q⟩
theorem vx_caloadN (hexec : p.tables.exec = Jvm.exec) (hb : c.code = cc) {i : Int32} (hdg : decode cc pc = .ok (.caload, 1)) (k : vx_NoteN p l e R s m args below meth c H locs cells slots Q (F0 m pc ls rest)) : W p l e R s m args below meth c H locs cells slots Q (F0 m pc ls (.int i :: .null :: rest)) := by
  intro T hT X
  obtain ⟨t, st, q⟩ := k T hT X
  exact ⟨t, X.caloadNull hexec (g := F0 m pc ls (.int i :: .null :: rest)) rfl (rest := rest) rfl (by rw [hb]; exact hdg) t st, q⟩
theorem vx_saloadN (hexec : p.tables.exec = Jvm.exec) (hb : c.code = cc) {i : Int32} (hdg : decode cc pc = .ok (.saload, 1)) (k : vx_NoteN p l e R s m args below meth c H locs cells slots Q (F0 m pc ls rest)) : W p l e R s m args below meth c H locs cells slots Q (F0 m pc ls (.int i :: .null :: rest)) := by
  intro T hT X
  obtain ⟨t, st, q⟩ := k T hT X
  exact ⟨t, X.saloadNull hexec (g := F0 m pc ls (.int i :: .null :: rest)) rfl (rest := rest) rfl (by rw [hb]; exact hdg) t st, q⟩
theorem vx_iastoreN (hexec : p.tables.exec = Jvm.exec) (hb : c.code = cc) {x : Int32} {i : Int32} (hdg : decode cc pc = .ok (.iastore, 1)) (k : vx_NoteN p l e R s m args below meth c H locs cells slots Q (F0 m pc ls rest)) : W p l e R s m args below meth c H locs cells slots Q (F0 m pc ls (.int x :: .int i :: .null :: rest)) := by
  intro T hT X
  obtain ⟨t, st, q⟩ := k T hT X
  exact ⟨t, X.iastoreNull hexec (g := F0 m pc ls (.int x :: .int i :: .null :: rest)) rfl (rest := rest) rfl (by rw [hb]; exact hdg) t st, q⟩
theorem vx_lastoreN (hexec : p.tables.exec = Jvm.exec) (hb : c.code = cc) {x : Int64} {i : Int32} (hdg : decode cc pc = .ok (.lastore, 1)) (k : vx_NoteN p l e R s m args below meth c H locs cells slots Q (F0 m pc ls rest)) : W p l e R s m args below meth c H locs cells slots Q (F0 m pc ls (.long x :: .int i :: .null :: rest)) := by
  intro T hT X
  obtain ⟨t, st, q⟩ := k T hT X
  exact ⟨t, X.lastoreNull hexec (g := F0 m pc ls (.long x :: .int i :: .null :: rest)) rfl (rest := rest) rfl (by rw [hb]; exact hdg) t st, q⟩
theorem vx_fastoreN (hexec : p.tables.exec = Jvm.exec) (hb : c.code = cc) {x : UInt32} {i : Int32} (hdg : decode cc pc = .ok (.fastore, 1)) (k : vx_NoteN p l e R s m args below meth c H locs cells slots Q (F0 m pc ls rest)) : W p l e R s m args below meth c H locs cells slots Q (F0 m pc ls (.float x :: .int i :: .null :: rest)) := by
  intro T hT X
  obtain ⟨t, st, q⟩ := k T hT X
  exact ⟨t, X.fastoreNull hexec (g := F0 m pc ls (.float x :: .int i :: .null :: rest)) rfl (rest := rest) rfl (by rw [hb]; exact hdg) t st, q⟩
theorem vx_dastoreN (hexec : p.tables.exec = Jvm.exec) (hb : c.code = cc) {x : UInt64} {i : Int32} (hdg : decode cc pc = .ok (.dastore, 1)) (k : vx_NoteN p l e R s m args below meth c H locs cells slots Q (F0 m pc ls rest)) : W p l e R s m args below meth c H locs cells slots Q (F0 m pc ls (.double x :: .int i :: .null :: rest)) := by
  intro T hT X
  obtain ⟨t, st, q⟩ := k T hT X
  exact ⟨t, X.dastoreNull hexec (g := F0 m pc ls (.double x :: .int i :: .null :: rest)) rfl (rest := rest) rfl (by rw [hb]; exact hdg) t st, q⟩
theorem vx_bastoreN (hexec : p.tables.exec = Jvm.exec) (hb : c.code = cc) {x : Int32} {i : Int32} (hdg : decode cc pc = .ok (.bastore, 1)) (k : vx_NoteN p l e R s m args below meth c H locs cells slots Q (F0 m pc ls rest)) : W p l e R s m args below meth c H locs cells slots Q (F0 m pc ls (.int x :: .int i :: .null :: rest)) := by
  intro T hT X
  obtain ⟨t, st, q⟩ := k T hT X
  exact ⟨t, X.bastoreNull hexec (g := F0 m pc ls (.int x :: .int i :: .null :: rest)) rfl (rest := rest) rfl (by rw [hb]; exact hdg) t st, q⟩
theorem vx_castoreN (hexec : p.tables.exec = Jvm.exec) (hb : c.code = cc) {x : Int32} {i : Int32} (hdg : decode cc pc = .ok (.castore, 1)) (k : vx_NoteN p l e R s m args below meth c H locs cells slots Q (F0 m pc ls rest)) : W p l e R s m args below meth c H locs cells slots Q (F0 m pc ls (.int x :: .int i :: .null :: rest)) := by
  intro T hT X
  obtain ⟨t, st, q⟩ := k T hT X
  exact ⟨t, X.castoreNull hexec (g := F0 m pc ls (.int x :: .int i :: .null :: rest)) rfl (rest := rest) rfl (by rw [hb]; exact hdg) t st, q⟩
theorem vx_sastoreN (hexec : p.tables.exec = Jvm.exec) (hb : c.code = cc) {x : Int32} {i : Int32} (hdg : decode cc pc = .ok (.sastore, 1)) (k : vx_NoteN p l e R s m args below meth c H locs cells slots Q (F0 m pc ls rest)) : W p l e R s m args below meth c H locs cells slots Q (F0 m pc ls (.int x :: .int i :: .null :: rest)) := by
  intro T hT X
  obtain ⟨t, st, q⟩ := k T hT X
  exact ⟨t, X.sastoreNull hexec (g := F0 m pc ls (.int x :: .int i :: .null :: rest)) rfl (rest := rest) rfl (by rw [hb]; exact hdg) t st, q⟩
theorem vx_invokeN {own C : String} {index maxL : Nat} {y : MethodName} {bytes : ByteArray} {ret : Option FieldType} (hexec : p.tables.exec = Jvm.exec) (hb : c.code = cc) (hown : s.vm.findClass own = some m.cls) (hlink : (Cond.methodLink own index y).before args s = true) (hinst : (Cond.instanceMethod y).before args s = true) (hcode : (Cond.code y bytes maxL ret).before args s = true) (hsel : (Cond.selects C y y).before args s = true)
    (hx : y.cls ≠ "java/lang/invoke/MethodHandle" ∧ y.cls ≠ "java/lang/invoke/VarHandle") {As : List Value} (hlen : (parseMethodDescriptor y.desc).map (fun d => d.parameters.length) = some As.length) (hdg : decode cc pc = .ok (.invokevirtual index, 3))
    (k : vx_NoteN p l e R s m args below meth c H locs cells slots Q (F0 m pc ls rest)) {st0 : List Value} (hst : st0 = As.reverse ++ .null :: rest) : W p l e R s m args below meth c H locs cells slots Q (F0 m pc ls st0) := by
  intro T hT X
  obtain ⟨r0, r, hn, hrm, hstR, hsigR⟩ := va_Decl.of hinst hcode
  obtain ⟨c2, r2, m2, q1, q2, q3, q4, kP, hkP, hkPi⟩ := Cond.selects_spec hsel
  cases hn.symm.trans q3
  have hl9 : As.length = r.sig.parameters.length := by
    rw [hsigR] at hlen
    exact (Option.some.inj hlen).symm
  obtain ⟨vm', X1, st1⟩ := X.invokevirtualNull hexec hown hlink hn hrm hstR hkP hkPi hx (g := F0 m pc ls st0) rfl (argsL := As) (rest := rest) hl9 hst (by rw [hb]; exact hdg)
  obtain ⟨t, st, q⟩ := k (T.setVm vm') hT X1
  exact ⟨t, st1 t st, q⟩
theorem vx_newarrayZ {atype : ArrayType} (hexec : p.tables.exec = Jvm.exec) (hb : c.code = cc) {n : Int32} (h0 : n < 0) (hdg : decode cc pc = .ok (.newarray atype, 2)) (k : ∀ tx : String, tx = toString n → vx_Note p l e R s m args below meth c H locs cells slots Q (F0 m pc ls rest) "java/lang/NegativeArraySizeException" tx) : W p l e R s m args below meth c H locs cells slots Q (F0 m pc ls (.int n :: rest)) := by
  intro T hT X
  obtain ⟨t, st, q⟩ := k _ rfl T hT X
  exact ⟨t, X.newarrayNegative hexec (g := F0 m pc ls (.int n :: rest)) rfl h0 (rest := rest) rfl (by rw [hb]; exact hdg) t st, q⟩
end
end VXM
/-! ===== END ===== -/
/-! ===== BEGIN an exception as an object: made, kept, thrown later (no traces kept) ===== -/
section VXK
variable {p : Program} {l : Launch} {e : Env} {R : Room} {s : State} {m₀ : MethodId} {args : Array Value} {below : List Frame} {meth : Method} {c : Code} {W : State} {locs : List Loc} {cells slots : Nat}
set_option maxHeartbeats 1000000 in
theorem vx_ctorMadeS (X : Stand p l e R s m₀ args below meth c W locs cells slots) (hexec : p.tables.exec = Jvm.exec) (htr : e.platform.stackTraces = false) {own cls : String} {names : List String} {ic : Nat}
    (hown : s.vm.findClass own = some m₀.cls) (hcls : Bundle.fit cls = true) (hnames : ∀ n ∈ names, Bundle.fit n = true)
    (h : ∀ a ∈ Bundle.ownAtoms own ic cls names, a.before args s = true)
    (hlocs : ∀ x ∈ locs, ∀ cell, s.heap[x.base]? = some cell → cell.vm.isStatics = false)
    {a : Addr} {cX : ClassId} {kX : Class} (hfoundX : s.vm.findClass cls = some cX) (hkX : s.vm.classes[cX]? = some kX) (hcell : W.heap[a]? = some (freshCell cX kX)) (hnew : s.heap.size ≤ a)
    {msg : Value} (hmsg : msg.isRef = true)
    {g : JFrame} (hg : g.method = m₀) (hsize : g.locals.size = c.maxLocals) {rest : List Value} (hstack : g.stack = msg :: .ref a :: .ref a :: rest)
    (hd6 : decode c.code g.pc = .ok (.invokespecial ic, 3))
    (hRframes : names.length + 3 < R.frames) (hRlocals : 2 * g.monitorRoom + ((Value.ref a :: rest).map fun v => v.category).sum + (13 * (names.length + 1) + 42) ≤ R.locals) :
    ∃ (V : State) (ce : Cell) (L : List Loc), Stand p l e R s m₀ args below meth c (V.setCell a ce) (locs ++ L) cells slots ∧ (∀ y ∈ L, y.base = a) ∧ a < V.heap.size ∧ ce.cls = cX ∧ ce.vm = .none ∧
      ∀ target, Steps p.tables e below ((V.setCell a ce).setTop { g with stack := .ref a :: rest, pc := g.pc + 3 }) target → Steps p.tables e below (W.setTop g) target := by
  have howns : e.platform.frameOwnsMonitors = true := by rw [X.admits.platform]
  have hfin : e.platform.finalization = false := by rw [X.admits.platform]
  have hpl : e.platform.magicAccessors = ({} : Platform).magicAccessors := by rw [X.admits.platform]
  have a' : ∀ x, x ∈ Bundle.ownAtoms own ic cls names → x.holds args s none s [] = true := fun x hx => h x hx
  obtain ⟨T, Z0, L, -, Y⟩ := ThrowableC.of_atoms (args := args) howns hfin hpl (fun x hx => h x (by simp [Bundle.ownAtoms, hx]))
  obtain ⟨Z, M, LZ, LM, hnZ⟩ := Init0T.ofS_atoms (args := args) hpl L Y (fun x hx => h x (by simp [Bundle.ownAtoms, hx]))
  obtain ⟨P1, Ps, hlen, L1, hL, hP1m, hlink1, hlink⟩ := Bundle.chainS (args := args) hpl hnZ names cls hcls hnames (fun x hx => h x (by simp [Bundle.ownAtoms, hx]))
  have hfound : s.vm.findClass cls = some P1.m.cls := findClass_of_methodNamed hP1m
  cases Option.some.inj (hfoundX.symm.trans hfound)
  obtain ⟨c1, kX', hc1, hk, hord, -, -, hn6⟩ := Cond.instantiable_spec (a' (.instantiable cls 6) (by simp [Bundle.ownAtoms]))
  cases Option.some.inj (hc1.symm.trans hfound)
  cases Option.some.inj (hkX.symm.trans hk)
  have hsel0 : selectMethod e.platform s.vm P1.m.cls T.fill0 = .method T.fill0 := by
    obtain ⟨c2, r2, m2, q1, q2, q3, q4, -⟩ := Cond.selects_spec (a' (.selects cls Bundle.tFill0 Bundle.tFill0) (by simp [Bundle.ownAtoms]))
    cases Option.some.inj (q1.symm.trans hfound)
    cases Option.some.inj (q2.symm.trans (State.methodFound?_of_named Y.fill0 (by decide)))
    cases Option.some.inj (q3.symm.trans Y.fill0)
    rw [Launch.admits_selectMethod X.admits]; exact q4
  have hselF : selectMethod e.platform s.vm P1.m.cls T.fill = .method T.fill := by
    obtain ⟨c2, r2, m2, q1, q2, q3, q4, -⟩ := Cond.selects_spec (a' (.selects cls Bundle.tFill Bundle.tFill) (by simp [Bundle.ownAtoms]))
    cases Option.some.inj (q1.symm.trans hfound)
    cases Option.some.inj (q2.symm.trans (State.methodFound?_of_named Y.fill (by decide)))
    cases Option.some.inj (q3.symm.trans Y.fill)
    rw [Launch.admits_selectMethod X.admits]; exact q4
  obtain ⟨cellS0, hcS0, hiss⟩ := Y.statics
  obtain ⟨u0, hu0⟩ := Cond.staticRefV Y.unassigned L.unassignedStatic L.statics hcS0 hiss (a' (.isRef (.static Bundle.tN "UNASSIGNED_STACK" Bundle.steD)) (by simp [Bundle.ownAtoms]))
  obtain ⟨sen, hsen⟩ := Cond.staticRefV Y.sentinel L.sentinelStatic L.statics hcS0 hiss (a' (.isRef (.static Bundle.tN "SUPPRESSED_SENTINEL" Bundle.listD)) (by simp [Bundle.ownAtoms]))
  obtain ⟨ci198, i198, fB, hk198, hg198, ha198, hsB, -, hnB, htB, hffB⟩ := Cond.ownField (t := .object "java/lang/Object") Y.found L.cls (by decide +kernel) (a' (.fieldLink Bundle.tN 198 Bundle.tN "backtrace" "Ljava/lang/Object;") (by simp [Bundle.ownAtoms])) (a' (.lays Bundle.tN Bundle.tN "backtrace" "Ljava/lang/Object;") (by simp [Bundle.ownAtoms])) e.platform hpl
  obtain ⟨cellS, hcS', heS, -, hkeep⟩ := X.same.2.2.2.2.2 T.aS cellS0 hcS0
  have hcellS : W.heap[T.aS]? = some cellS := hcS'
  have hout' : ∀ i, (⟨T.aS, i⟩ : Loc) ∉ locs := fun i hmem => by
    have := hlocs _ hmem cellS0 hcS0
    rw [hiss] at this; cases this
  have hknownS : cellS.vm ≠ .unknown := by
    rw [heS]; intro hu
    rw [show cellS0.vm = .unknown from hu] at hiss
    cases hiss
  have hneS : T.aS ≠ a := Nat.ne_of_lt (Nat.lt_of_lt_of_le (Array.getElem?_eq_some_iff.mp hcS0).1 hnew)
  obtain ⟨iM, hffM⟩ := Y.msg
  obtain ⟨tyC, dC, hdC, hdnC⟩ := Cond.laysAt hfound hk Y.cause (a' (.lays cls Bundle.tN "cause" "Ljava/lang/Throwable;") (by simp [Bundle.ownAtoms]))
  obtain ⟨tyS, dS, hdS, hdnS⟩ := Cond.laysAt hfound hk Y.stack (a' (.lays cls Bundle.tN "stackTrace" Bundle.steD) (by simp [Bundle.ownAtoms]))
  obtain ⟨tyP, dP, hdP, hdnP⟩ := Cond.laysAt hfound hk Y.supp (a' (.lays cls Bundle.tN "suppressedExceptions" Bundle.listD) (by simp [Bundle.ownAtoms]))
  obtain ⟨tyM, dM, hdM, hdnM⟩ := Cond.laysAt hfound hk hffM (a' (.lays cls Bundle.tN "detailMessage" "Ljava/lang/String;") (by simp [Bundle.ownAtoms]))
  obtain ⟨tyB, dB, hdB, hdnB⟩ := Cond.laysAt hfound hk hffB (a' (.lays cls Bundle.tN "backtrace" "Ljava/lang/Object;") (by simp [Bundle.ownAtoms]))
  have bC := Cond.laysApart hdB hdC hdnB hdnC (by rw [hnB, Y.causeName]; decide)
  have bS := Cond.laysApart hdB hdS hdnB hdnS (by rw [hnB, Y.stackName]; decide)
  have bP := Cond.laysApart hdB hdP hdnB hdnP (by rw [hnB, Y.suppName]; decide)
  have hskip : SkipFacts T e.platform s (fun u => u) u0 ((preparedCellV T.toThrowableT (freshCell P1.m.cls kX) a u0 sen).withEntry W.cur) :=
    ⟨{ ci198 := ci198, i198 := i198, fBack := fB }, ⟨hk198, hg198, ha198, hsB⟩, by
      have := fresh_default (c := P1.m.cls) tyB
      rw [htB] at this
      simpa [preparedCellV, Cell.setSlot, Cell.withEntry, Array.getElem?_setIfInBounds, bC, bS, bP, bC.symm, bS.symm, bP.symm, defaultValue] using this, fun _ _ => rfl⟩
  obtain ⟨tm, methC, cdC, kC, vm₁, hnC, -, -, -, -, -, -, -, hW₁, st1⟩ := Steps.initColdS (tb := p.tables) (e := e) (below := below) (s := s) (U := W) X.here hexec X.warmed hpl hown (t := Bundle.initS cls) rfl rfl (Bundle.fit_spec hcls).2
    (a' (.methodLink own ic (Bundle.initS cls)) (by simp [Bundle.ownAtoms])) (h (.instanceMethod (Bundle.initS cls)) (by cases names <;> simp [Bundle.ownAtoms, Bundle.chainSAtoms, Bundle.passSAtoms])) (bytes := Bundle.six) (maxL := 2) (h (.code (Bundle.initS cls) Bundle.six 2 none) (by cases names <;> simp [Bundle.ownAtoms, Bundle.chainSAtoms, Bundle.passSAtoms]))
    (f := g) hg (a := a) (msg := msg) (rest := .ref a :: rest) hstack hd6
  cases Option.some.inj (hnC.symm.trans hP1m)
  have X₁ := X.noted hW₁
  obtain ⟨vm₂, X₂, st2⟩ := X₁.ctorMessageOffV hexec (g := { g with stack := .ref a :: rest }) hg hsize T L Z LZ M LM (P1 :: Ps)
    (fun P hP => by rcases List.mem_cons.mp hP with rfl | hP; exact L1; exact hL P hP) ⟨hlink1, hlink⟩ (u0 := u0) (sen := sen) (self := a) hmsg (cell := freshCell P1.m.cls kX) (cellS := cellS)
    hcell (fun _ => by simp) (by simp) rfl rfl hsel0 hselF hcellS hneS hknownS (by rw [hkeep _ (hout' _)]; exact hu0) (by rw [hkeep _ (hout' _)]; exact hsen)
    (Takes.of_laid hk hord tyC (by rw [Y.causeType]; rfl)) (Takes.of_laid hk hord tyS (by rw [Y.stackType]; exact fits_refV_array _ u0)) (Takes.of_laid hk hord tyP (by rw [Y.suppType]; exact fits_refV_object _ sen))
    (Takes.of_laid hk hord tyM (by rw [Y.msgType]; exact fits_refV_object _ ⟨msg, hmsg⟩)) Y.objLocals hskip htr [] hd6
    (by simp only [List.length_cons, hlen]; omega) (by simp only [List.length_cons, hlen]; exact hRlocals)
  have hlt : a < ((W.setVm vm₁).setVm vm₂).heap.size := (Array.getElem?_eq_some_iff.mp hcell).1
  refine ⟨(W.setVm vm₁).setVm vm₂, _, _, X₂, fun y hy => ?_, hlt, rfl, rfl, fun target hwalk => st1 _ (fun acts => ?_)⟩
  · simp only [List.mem_cons, List.not_mem_nil, or_false] at hy
    rcases hy with rfl | rfl | rfl | rfl | rfl <;> rfl
  · rw [doInvoke_state]
    exact st2 _ hwalk
set_option maxHeartbeats 1000000 in
theorem vx_ctorMade0 (X : Stand p l e R s m₀ args below meth c W locs cells slots) (hexec : p.tables.exec = Jvm.exec) (htr : e.platform.stackTraces = false) {own cls : String} {names : List String} {ic : Nat}
    (hown : s.vm.findClass own = some m₀.cls) (hcls : Bundle.fit cls = true) (hnames : ∀ n ∈ names, Bundle.fit n = true)
    (h : ∀ a ∈ Bundle.ownAtoms0 own ic cls names, a.before args s = true)
    (hlocs : ∀ x ∈ locs, ∀ cell, s.heap[x.base]? = some cell → cell.vm.isStatics = false)
    {a : Addr} {cX : ClassId} {kX : Class} (hfoundX : s.vm.findClass cls = some cX) (hkX : s.vm.classes[cX]? = some kX) (hcell : W.heap[a]? = some (freshCell cX kX)) (hnew : s.heap.size ≤ a)
    {g : JFrame} (hg : g.method = m₀) (hsize : g.locals.size = c.maxLocals) {rest : List Value} (hstack : g.stack = .ref a :: .ref a :: rest)
    (hd6 : decode c.code g.pc = .ok (.invokespecial ic, 3))
    (hRframes : names.length + 3 < R.frames) (hRlocals : 2 * g.monitorRoom + ((Value.ref a :: rest).map fun v => v.category).sum + (13 * (names.length + 1) + 41) ≤ R.locals) :
    ∃ (V : State) (ce : Cell) (L : List Loc), Stand p l e R s m₀ args below meth c (V.setCell a ce) (locs ++ L) cells slots ∧ (∀ y ∈ L, y.base = a) ∧ a < V.heap.size ∧ ce.cls = cX ∧ ce.vm = .none ∧
      ∀ target, Steps p.tables e below ((V.setCell a ce).setTop { g with stack := .ref a :: rest, pc := g.pc + 3 }) target → Steps p.tables e below (W.setTop g) target := by
  have howns : e.platform.frameOwnsMonitors = true := by rw [X.admits.platform]
  have hfin : e.platform.finalization = false := by rw [X.admits.platform]
  have hpl : e.platform.magicAccessors = ({} : Platform).magicAccessors := by rw [X.admits.platform]
  have a' : ∀ x, x ∈ Bundle.ownAtoms0 own ic cls names → x.holds args s none s [] = true := fun x hx => h x hx
  obtain ⟨T, Z, L, LZ, Y⟩ := ThrowableC.of_atoms (args := args) howns hfin hpl (fun x hx => h x (by simp [Bundle.ownAtoms0, hx]))
  obtain ⟨P1, Ps, hlen, L1, hL, hP1m, hlink1, hlink⟩ := Bundle.chain0 (args := args) hpl Y.init0 names cls hcls hnames (fun x hx => h x (by simp [Bundle.ownAtoms0, hx]))
  have hfound : s.vm.findClass cls = some P1.m.cls := findClass_of_methodNamed hP1m
  cases Option.some.inj (hfoundX.symm.trans hfound)
  obtain ⟨c1, kX', hc1, hk, hord, -, -, hn6⟩ := Cond.instantiable_spec (a' (.instantiable cls 6) (by simp [Bundle.ownAtoms0]))
  cases Option.some.inj (hc1.symm.trans hfound)
  cases Option.some.inj (hkX.symm.trans hk)
  have hsel0 : selectMethod e.platform s.vm P1.m.cls T.fill0 = .method T.fill0 := by
    obtain ⟨c2, r2, m2, q1, q2, q3, q4, -⟩ := Cond.selects_spec (a' (.selects cls Bundle.tFill0 Bundle.tFill0) (by simp [Bundle.ownAtoms0]))
    cases Option.some.inj (q1.symm.trans hfound)
    cases Option.some.inj (q2.symm.trans (State.methodFound?_of_named Y.fill0 (by decide)))
    cases Option.some.inj (q3.symm.trans Y.fill0)
    rw [Launch.admits_selectMethod X.admits]; exact q4
  have hselF : selectMethod e.platform s.vm P1.m.cls T.fill = .method T.fill := by
    obtain ⟨c2, r2, m2, q1, q2, q3, q4, -⟩ := Cond.selects_spec (a' (.selects cls Bundle.tFill Bundle.tFill) (by simp [Bundle.ownAtoms0]))
    cases Option.some.inj (q1.symm.trans hfound)
    cases Option.some.inj (q2.symm.trans (State.methodFound?_of_named Y.fill (by decide)))
    cases Option.some.inj (q3.symm.trans Y.fill)
    rw [Launch.admits_selectMethod X.admits]; exact q4
  obtain ⟨cellS0, hcS0, hiss⟩ := Y.statics
  obtain ⟨u0, hu0⟩ := Cond.staticRefV Y.unassigned L.unassignedStatic L.statics hcS0 hiss (a' (.isRef (.static Bundle.tN "UNASSIGNED_STACK" Bundle.steD)) (by simp [Bundle.ownAtoms0]))
  obtain ⟨sen, hsen⟩ := Cond.staticRefV Y.sentinel L.sentinelStatic L.statics hcS0 hiss (a' (.isRef (.static Bundle.tN "SUPPRESSED_SENTINEL" Bundle.listD)) (by simp [Bundle.ownAtoms0]))
  obtain ⟨ci198, i198, fB, hk198, hg198, ha198, hsB, -, hnB, htB, hffB⟩ := Cond.ownField (t := .object "java/lang/Object") Y.found L.cls (by decide +kernel) (a' (.fieldLink Bundle.tN 198 Bundle.tN "backtrace" "Ljava/lang/Object;") (by simp [Bundle.ownAtoms0])) (a' (.lays Bundle.tN Bundle.tN "backtrace" "Ljava/lang/Object;") (by simp [Bundle.ownAtoms0])) e.platform hpl
  obtain ⟨cellS, hcS', heS, -, hkeep⟩ := X.same.2.2.2.2.2 T.aS cellS0 hcS0
  have hcellS : W.heap[T.aS]? = some cellS := hcS'
  have hout' : ∀ i, (⟨T.aS, i⟩ : Loc) ∉ locs := fun i hmem => by
    have := hlocs _ hmem cellS0 hcS0
    rw [hiss] at this; cases this
  have hknownS : cellS.vm ≠ .unknown := by
    rw [heS]; intro hu
    rw [show cellS0.vm = .unknown from hu] at hiss
    cases hiss
  have hneS : T.aS ≠ a := Nat.ne_of_lt (Nat.lt_of_lt_of_le (Array.getElem?_eq_some_iff.mp hcS0).1 hnew)
  obtain ⟨iM, hffM⟩ := Y.msg
  obtain ⟨tyC, dC, hdC, hdnC⟩ := Cond.laysAt hfound hk Y.cause (a' (.lays cls Bundle.tN "cause" "Ljava/lang/Throwable;") (by simp [Bundle.ownAtoms0]))
  obtain ⟨tyS, dS, hdS, hdnS⟩ := Cond.laysAt hfound hk Y.stack (a' (.lays cls Bundle.tN "stackTrace" Bundle.steD) (by simp [Bundle.ownAtoms0]))
  obtain ⟨tyP, dP, hdP, hdnP⟩ := Cond.laysAt hfound hk Y.supp (a' (.lays cls Bundle.tN "suppressedExceptions" Bundle.listD) (by simp [Bundle.ownAtoms0]))
  obtain ⟨tyM, dM, hdM, hdnM⟩ := Cond.laysAt hfound hk hffM (a' (.lays cls Bundle.tN "detailMessage" "Ljava/lang/String;") (by simp [Bundle.ownAtoms0]))
  obtain ⟨tyB, dB, hdB, hdnB⟩ := Cond.laysAt hfound hk hffB (a' (.lays cls Bundle.tN "backtrace" "Ljava/lang/Object;") (by simp [Bundle.ownAtoms0]))
  have bC := Cond.laysApart hdB hdC hdnB hdnC (by rw [hnB, Y.causeName]; decide)
  have bS := Cond.laysApart hdB hdS hdnB hdnS (by rw [hnB, Y.stackName]; decide)
  have bP := Cond.laysApart hdB hdP hdnB hdnP (by rw [hnB, Y.suppName]; decide)
  have hskip : SkipFacts T e.platform s (fun u => u) u0 ((preparedCellV T.toThrowableT (freshCell P1.m.cls kX) a u0 sen).withEntry W.cur) :=
    ⟨{ ci198 := ci198, i198 := i198, fBack := fB }, ⟨hk198, hg198, ha198, hsB⟩, by
      have := fresh_default (c := P1.m.cls) tyB
      rw [htB] at this
      simpa [preparedCellV, Cell.setSlot, Cell.withEntry, Array.getElem?_setIfInBounds, bC, bS, bP, bC.symm, bS.symm, bP.symm, defaultValue] using this, fun _ _ => rfl⟩
  obtain ⟨tm, methC, cdC, kC, vm₁, hnC, -, -, -, -, -, -, -, hW₁, st1⟩ := Steps.initCold (tb := p.tables) (e := e) (below := below) (s := s) (U := W) X.here hexec X.warmed hpl hown (t := Bundle.init0 cls) rfl rfl (Bundle.fit_spec hcls).2
    (a' (.methodLink own ic (Bundle.init0 cls)) (by simp [Bundle.ownAtoms0])) (h (.instanceMethod (Bundle.init0 cls)) (by cases names <;> simp [Bundle.ownAtoms0, Bundle.chain0Atoms, Bundle.passAtoms])) (bytes := Bundle.five) (maxL := 1) (h (.code (Bundle.init0 cls) Bundle.five 1 none) (by cases names <;> simp [Bundle.ownAtoms0, Bundle.chain0Atoms, Bundle.passAtoms]))
    (f := g) hg (a := a) (rest := .ref a :: rest) hstack hd6
  cases Option.some.inj (hnC.symm.trans hP1m)
  have X₁ := X.noted hW₁
  obtain ⟨vm₂, X₂, st2⟩ := X₁.ctorPlainOffV hexec (g := { g with stack := .ref a :: rest }) hg hsize T L Z LZ (P1 :: Ps)
    (fun P hP => by rcases List.mem_cons.mp hP with rfl | hP; exact L1; exact hL P hP) ⟨hlink1, hlink⟩ (u0 := u0) (sen := sen) (self := a) (cell := freshCell P1.m.cls kX) (cellS := cellS)
    hcell (fun _ => by simp) (by simp) rfl rfl hsel0 hselF hcellS hneS hknownS (by rw [hkeep _ (hout' _)]; exact hu0) (by rw [hkeep _ (hout' _)]; exact hsen)
    (Takes.of_laid hk hord tyC (by rw [Y.causeType]; rfl)) (Takes.of_laid hk hord tyS (by rw [Y.stackType]; exact fits_refV_array _ u0)) (Takes.of_laid hk hord tyP (by rw [Y.suppType]; exact fits_refV_object _ sen)) Y.objLocals hskip htr [] hd6
    (by simp only [List.length_cons, hlen]; omega) (by simp only [List.length_cons, hlen]; exact hRlocals)
  have hlt : a < ((W.setVm vm₁).setVm vm₂).heap.size := (Array.getElem?_eq_some_iff.mp hcell).1
  refine ⟨(W.setVm vm₁).setVm vm₂, _, _, X₂, fun y hy => ?_, hlt, rfl, rfl, fun target hwalk => st1 _ (fun acts => ?_)⟩
  · simp only [List.mem_cons, List.not_mem_nil, or_false] at hy
    rcases hy with rfl | rfl | rfl | rfl <;> rfl
  · rw [doInvoke_state]
    exact st2 _ hwalk
end VXK
section VXK2
variable {p : Program} {l : Launch} {e : Env} {R : Room} {s : State} {m : MethodId} {args : Array Value} {below : List Frame} {meth : Method} {c : Code} {H : Heap} {locs : List Loc} {cells slots : Nat} {Q : State → Prop}
variable {ls : Array Slot} {rest : List Value} {D : va_G} {cl : List vw_C} {tys : List (ClassId × FieldType)} {ws : va_W}
/-- 'new E("text")' that isn't thrown at once: the object goes on the stack -/
theorem vx_makeS {cc : ByteArray} {pc : Nat} (hexec : p.tables.exec = Jvm.exec) (hb : c.code = cc) (hl : l.stackTraces = false) {own cls text : String} {names : List String} {ik is ic sa ci : Nat} {A : Nat → Prop} {T0 : u_T}
    (hown : s.vm.findClass own = some m.cls) (hcls : Bundle.fit cls = true) (hnames : ∀ n ∈ names, Bundle.fit n = true)
    (hk : (Cond.classLink own ik cls).before args s = true) (hini : (Cond.initialized cls).before args s = true) (hstr : vk_R own is text sa s) (hat : ∀ w ∈ vx_atS own ic cls names, w.before args s = true)
    (hgood : ∀ w ∈ Cond.classLink own ik cls :: Cond.initialized cls :: vx_atS own ic cls names, vx_ot w = true)
    (hU : vx_Zq Bundle.tN "UNASSIGNED_STACK" Bundle.steD A s s.heap) (hN : vx_Zq Bundle.tN "SUPPRESSED_SENTINEL" Bundle.listD A s s.heap) (hS : va_S A s.heap H locs) (hsize : ls.size = c.maxLocals)
    (d0 : decode cc pc = .ok (.new ik, 3)) (d3 : decode cc (pc + 3) = .ok (.dup, 1)) (d4 : decode cc (pc + 4) = .ok (.ldc is, 2)) (d6 : decode cc (pc + 6) = .ok (.invokespecial ic, 3))
    (hK : va_K D cl tys s) (hP : va_P D cl ws H) (hD : va_D A ws) (hA : ∀ q, s.heap.size ≤ q → A q) (hc : cl[ci]? = some (cls, T0, 0))
    (hRframes : names.length + 3 < R.frames) (hRlocals : (rest.map fun v => v.category).sum + (13 * (names.length + 1) + 43) ≤ R.locals) (hRcells : cells + 1 ≤ R.cells) (hRslots : slots + 6 ≤ R.slots)
    (kk : ∀ (q : Nat) (H1 : Heap), va_P D cl (ws ++ [(q, .inr (ci, []))]) H1 → va_D A (ws ++ [(q, .inr (ci, []))]) → va_S A s.heap H1 locs → W p l e R s m args below meth c H1 locs (cells + 1) (slots + 6) Q (F0 m (pc + 9) ls (.ref q :: rest))) :
    W p l e R s m args below meth c H locs cells slots Q (F0 m pc ls rest) := by
  intro T hT X
  subst hT
  have htr : e.platform.stackTraces = false := (show e.platform.stackTraces = l.stackTraces by rw [X.admits.platform]).trans hl
  have Y := vx_rebase X (R' := { frames := R.frames, locals := R.locals, cells := 1, slots := 6 }) (Nat.le_refl _) (Nat.le_refl _) hRcells hRslots
  obtain ⟨s', hA'⟩ : ∃ z, z = (T.setVm s.vm).setFrames (.invoking m args :: below) := ⟨_, rfl⟩
  rw [← hA'] at Y
  have hvm : s'.vm = s.vm := by rw [hA']; rfl
  have hhp : s'.heap = T.heap := by rw [hA']; rfl
  have hW0 : s.WarmedH s'.vm := by rw [hvm]; exact State.WarmedH.refl s
  have hat' : ∀ w ∈ vx_atS own ic cls names, w.before args s' = true := fun w hw => vx_ot_at hW0 hvm.symm (hgood w (List.mem_cons_of_mem _ (List.mem_cons_of_mem _ hw))) (hat w hw)
  have hk' : (Cond.classLink own ik cls).before args s' = true := vx_ot_at hW0 hvm.symm (hgood _ List.mem_cons_self) hk
  have hini' : (Cond.initialized cls).before args s' = true := vx_ot_at hW0 hvm.symm (hgood _ (List.mem_cons_of_mem _ List.mem_cons_self)) hini
  have hU' : vx_Zq Bundle.tN "UNASSIGNED_STACK" Bundle.steD A s' s'.heap := by rw [hhp]; exact vx_Zq.moved hW0.alike (hU.kept hS.2.1)
  have hN' : vx_Zq Bundle.tN "SUPPRESSED_SENTINEL" Bundle.listD A s' s'.heap := by rw [hhp]; exact vx_Zq.moved hW0.alike (hN.kept hS.2.1)
  have h : ∀ w ∈ Bundle.ownAtoms own ic cls names, w.before args s' = true := vx_own hat' (vx_isRefq hU'.1) (vx_isRefq hN'.1) hU'.2.word hN'.2.word
  have hown' : s'.vm.findClass own = some m.cls := by rw [hvm]; exact hown
  have hins : (Cond.instantiable cls 6).before args s' = true := h _ (by simp [Bundle.ownAtoms])
  obtain ⟨vm₁, cX, kX, hfX, hkX, -, -, X₁, st1⟩ := Y.newCold hexec (own := own) (C := cls) (index := ik) (n := 6) hown' hk' hins hini'
    (g := F0 m pc ls rest) rfl (by rw [hb]; exact d0) (Nat.le_refl _) (Nat.le_refl _)
  generalize hT1 : (T.setVm vm₁).pushCell { cls := cX, slots := kX.instanceTypes.map defaultValue, vm := .none } = T1 at X₁ st1
  have hcat : (Value.ref T.heap.size).category = 1 := rfl
  have hcellA : T1.heap[T.heap.size]? = some (freshCell cX kX) := by rw [← hT1]; exact State.heap_pushCell_size _ _
  have d3' : decode c.code (pc + 3) = .ok (.dup, 1) := by rw [hb]; exact d3
  have d4' : decode c.code (pc + 4) = .ok (.ldc is, 2) := by rw [hb]; exact d4
  have hstr' : vk_R own is text sa s' := vk_R.warm hW0 hstr
  obtain ⟨V, ce, L, Z, hL, hlt, hcl9, hvm9, st⟩ := vx_ctorMadeS X₁ hexec htr (own := own) (cls := cls) (names := names) (ic := ic) hown' hcls hnames h (fun x hx => nomatch hx) hfX hkX hcellA (by rw [hhp]; exact Nat.le_refl _) (msg := .ref sa) rfl
    (g := { method := m, pc := pc + 6, locals := ls, stack := .ref sa :: .ref T.heap.size :: .ref T.heap.size :: rest, locked := none }) rfl hsize (rest := rest) rfl
    (by rw [hb]; exact d6) hRframes (by simp only [List.map_cons, List.sum_cons, hcat]; omega)
  have Z0 := Stand.forget (locs := []) Z (fun y hy => by rw [hL y hy, hhp]; exact Nat.le_refl _)
  obtain ⟨f1, f2⟩ := vx_frame Z0.same
  rw [hhp] at f1 f2
  have hcid : ce.cls = D.1 ci := by
    rw [hcl9]
    have h1 := (hK.1 ci _ hc).2.1
    rw [hvm] at hfX
    exact Option.some.inj (hfX.symm.trans h1)
  have hh : (V.setCell T.heap.size ce).heap[T.heap.size]? = some ce := heapAt_setCell_self (s := V) ce hlt
  subst hA'
  have X5 := vx_back9 X Y Z0
  have X6 : Stand p l e R s m args below meth c (V.setCell T.heap.size ce) locs (cells + 1) (slots + 6) := { X5 with same := X5.same.mono (by omega) (by omega) }
  have hk9 : ∀ (k : Nat) (x : Nat × va_E), ws[k]? = some x → (V.setCell T.heap.size ce).heap[x.1]? = T.heap[x.1]? := fun k x hx => f2 x.1 ((hP k x hx).lt) (fun z hz => nomatch hz)
  obtain ⟨t, a1, b1⟩ := kk T.heap.size (V.setCell T.heap.size ce).heap ((hP.kept hk9).app (fun k x hx => by
      have hz : k < 1 := (List.getElem?_eq_some_iff.mp hx).1
      rw [show k = 0 by omega] at hx
      cases hx
      exact ⟨_, hc, ce, hh, hcid, hvm9, fun k hk => absurd hk (Nat.not_lt_zero k)⟩)) (hD.push hP rfl (hA _ hS.1)) ⟨Nat.le_trans hS.1 f1, fun q h1 h2 => (f2 q (Nat.lt_of_lt_of_le h1 hS.1) (fun z hz => nomatch hz)).trans (hS.2.1 q h1 h2), hS.2.2⟩ _ rfl X6
  refine ⟨t, st1 _ ?_, b1⟩
  show Steps p.tables e below (T1.setTop { method := m, pc := pc + 3, locals := ls, stack := .ref T.heap.size :: rest, locked := none }) _
  jvm_step X₁.here [X₁.here.top, hexec, d3', Value.category]
  exact X₁.ldcString hexec (own := own) (text := text) (index := is) (a := sa) hown' hstr'.1 hstr'.2
    (g := { method := m, pc := pc + 4, locals := ls, stack := .ref T.heap.size :: .ref T.heap.size :: rest, locked := none }) rfl d4' _ (st _ a1)
/-- 'new E()' that isn't thrown at once: the object goes on the stack -/
theorem vx_make0 {cc : ByteArray} {pc : Nat} (hexec : p.tables.exec = Jvm.exec) (hb : c.code = cc) (hl : l.stackTraces = false) {own cls : String} {names : List String} {ik ic ci : Nat} {A : Nat → Prop} {T0 : u_T}
    (hown : s.vm.findClass own = some m.cls) (hcls : Bundle.fit cls = true) (hnames : ∀ n ∈ names, Bundle.fit n = true)
    (hk : (Cond.classLink own ik cls).before args s = true) (hini : (Cond.initialized cls).before args s = true) (hat : ∀ w ∈ vx_at0 own ic cls names, w.before args s = true)
    (hgood : ∀ w ∈ Cond.classLink own ik cls :: Cond.initialized cls :: vx_at0 own ic cls names, vx_ot w = true)
    (hU : vx_Zq Bundle.tN "UNASSIGNED_STACK" Bundle.steD A s s.heap) (hN : vx_Zq Bundle.tN "SUPPRESSED_SENTINEL" Bundle.listD A s s.heap) (hS : va_S A s.heap H locs) (hsize : ls.size = c.maxLocals)
    (d0 : decode cc pc = .ok (.new ik, 3)) (d3 : decode cc (pc + 3) = .ok (.dup, 1)) (d4 : decode cc (pc + 4) = .ok (.invokespecial ic, 3))
    (hK : va_K D cl tys s) (hP : va_P D cl ws H) (hD : va_D A ws) (hA : ∀ q, s.heap.size ≤ q → A q) (hc : cl[ci]? = some (cls, T0, 0))
    (hRframes : names.length + 3 < R.frames) (hRlocals : (rest.map fun v => v.category).sum + (13 * (names.length + 1) + 42) ≤ R.locals) (hRcells : cells + 1 ≤ R.cells) (hRslots : slots + 6 ≤ R.slots)
    (kk : ∀ (q : Nat) (H1 : Heap), va_P D cl (ws ++ [(q, .inr (ci, []))]) H1 → va_D A (ws ++ [(q, .inr (ci, []))]) → va_S A s.heap H1 locs → W p l e R s m args below meth c H1 locs (cells + 1) (slots + 6) Q (F0 m (pc + 7) ls (.ref q :: rest))) :
    W p l e R s m args below meth c H locs cells slots Q (F0 m pc ls rest) := by
  intro T hT X
  subst hT
  have htr : e.platform.stackTraces = false := (show e.platform.stackTraces = l.stackTraces by rw [X.admits.platform]).trans hl
  have Y := vx_rebase X (R' := { frames := R.frames, locals := R.locals, cells := 1, slots := 6 }) (Nat.le_refl _) (Nat.le_refl _) hRcells hRslots
  obtain ⟨s', hA'⟩ : ∃ z, z = (T.setVm s.vm).setFrames (.invoking m args :: below) := ⟨_, rfl⟩
  rw [← hA'] at Y
  have hvm : s'.vm = s.vm := by rw [hA']; rfl
  have hhp : s'.heap = T.heap := by rw [hA']; rfl
  have hW0 : s.WarmedH s'.vm := by rw [hvm]; exact State.WarmedH.refl s
  have hat' : ∀ w ∈ vx_at0 own ic cls names, w.before args s' = true := fun w hw => vx_ot_at hW0 hvm.symm (hgood w (List.mem_cons_of_mem _ (List.mem_cons_of_mem _ hw))) (hat w hw)
  have hk' : (Cond.classLink own ik cls).before args s' = true := vx_ot_at hW0 hvm.symm (hgood _ List.mem_cons_self) hk
  have hini' : (Cond.initialized cls).before args s' = true := vx_ot_at hW0 hvm.symm (hgood _ (List.mem_cons_of_mem _ List.mem_cons_self)) hini
  have hU' : vx_Zq Bundle.tN "UNASSIGNED_STACK" Bundle.steD A s' s'.heap := by rw [hhp]; exact vx_Zq.moved hW0.alike (hU.kept hS.2.1)
  have hN' : vx_Zq Bundle.tN "SUPPRESSED_SENTINEL" Bundle.listD A s' s'.heap := by rw [hhp]; exact vx_Zq.moved hW0.alike (hN.kept hS.2.1)
  have h : ∀ w ∈ Bundle.ownAtoms0 own ic cls names, w.before args s' = true := vx_own hat' (vx_isRefq hU'.1) (vx_isRefq hN'.1) hU'.2.word hN'.2.word
  have hown' : s'.vm.findClass own = some m.cls := by rw [hvm]; exact hown
  have hins : (Cond.instantiable cls 6).before args s' = true := h _ (by simp [Bundle.ownAtoms0])
  obtain ⟨vm₁, cX, kX, hfX, hkX, -, -, X₁, st1⟩ := Y.newCold hexec (own := own) (C := cls) (index := ik) (n := 6) hown' hk' hins hini'
    (g := F0 m pc ls rest) rfl (by rw [hb]; exact d0) (Nat.le_refl _) (Nat.le_refl _)
  generalize hT1 : (T.setVm vm₁).pushCell { cls := cX, slots := kX.instanceTypes.map defaultValue, vm := .none } = T1 at X₁ st1
  have hcat : (Value.ref T.heap.size).category = 1 := rfl
  have hcellA : T1.heap[T.heap.size]? = some (freshCell cX kX) := by rw [← hT1]; exact State.heap_pushCell_size _ _
  have d3' : decode c.code (pc + 3) = .ok (.dup, 1) := by rw [hb]; exact d3
  obtain ⟨V, ce, L, Z, hL, hlt, hcl9, hvm9, st⟩ := vx_ctorMade0 X₁ hexec htr (own := own) (cls := cls) (names := names) (ic := ic) hown' hcls hnames h (fun x hx => nomatch hx) hfX hkX hcellA (by rw [hhp]; exact Nat.le_refl _)
    (g := { method := m, pc := pc + 4, locals := ls, stack := .ref T.heap.size :: .ref T.heap.size :: rest, locked := none }) rfl hsize (rest := rest) rfl
    (by rw [hb]; exact d4) hRframes (by simp only [List.map_cons, List.sum_cons, hcat]; omega)
  have Z0 := Stand.forget (locs := []) Z (fun y hy => by rw [hL y hy, hhp]; exact Nat.le_refl _)
  obtain ⟨f1, f2⟩ := vx_frame Z0.same
  rw [hhp] at f1 f2
  have hcid : ce.cls = D.1 ci := by
    rw [hcl9]
    have h1 := (hK.1 ci _ hc).2.1
    rw [hvm] at hfX
    exact Option.some.inj (hfX.symm.trans h1)
  have hh : (V.setCell T.heap.size ce).heap[T.heap.size]? = some ce := heapAt_setCell_self (s := V) ce hlt
  subst hA'
  have X5 := vx_back9 X Y Z0
  have X6 : Stand p l e R s m args below meth c (V.setCell T.heap.size ce) locs (cells + 1) (slots + 6) := { X5 with same := X5.same.mono (by omega) (by omega) }
  have hk9 : ∀ (k : Nat) (x : Nat × va_E), ws[k]? = some x → (V.setCell T.heap.size ce).heap[x.1]? = T.heap[x.1]? := fun k x hx => f2 x.1 ((hP k x hx).lt) (fun z hz => nomatch hz)
  obtain ⟨t, a1, b1⟩ := kk T.heap.size (V.setCell T.heap.size ce).heap ((hP.kept hk9).app (fun k x hx => by
      have hz : k < 1 := (List.getElem?_eq_some_iff.mp hx).1
      rw [show k = 0 by omega] at hx
      cases hx
      exact ⟨_, hc, ce, hh, hcid, hvm9, fun k hk => absurd hk (Nat.not_lt_zero k)⟩)) (hD.push hP rfl (hA _ hS.1)) ⟨Nat.le_trans hS.1 f1, fun q h1 h2 => (f2 q (Nat.lt_of_lt_of_le h1 hS.1) (fun z hz => nomatch hz)).trans (hS.2.1 q h1 h2), hS.2.2⟩ _ rfl X6
  refine ⟨t, st1 _ ?_, b1⟩
  show Steps p.tables e below (T1.setTop { method := m, pc := pc + 3, locals := ls, stack := .ref T.heap.size :: rest, locked := none }) _
  jvm_step X₁.here [X₁.here.top, hexec, d3', Value.category]
  exact st _ a1
/-- 'throw x' of an object that was made before -/
theorem vx_athrow {cc : ByteArray} {pc : Nat} (hexec : p.tables.exec = Jvm.exec) (hb : c.code = cc) {q : Addr} (hdg : decode cc pc = .ok (.athrow, 1)) (k : vx_W p l e R s m args below meth c H locs cells slots Q (F0 m pc ls rest) q) : W p l e R s m args below meth c H locs cells slots Q (F0 m pc ls (.ref q :: rest)) := by
  intro T hT X
  obtain ⟨t, st, hq⟩ := k T hT X
  refine ⟨t, ?_, hq⟩
  have hdg' : decode c.code pc = .ok (.athrow, 1) := by rw [hb]; exact hdg
  jvm_step X.here [X.here.top, hexec, hdg', athrow.wp_sem]
  exact st
end VXK2
/-! ===== END ===== -/
/-! ===== BEGIN a constructor that throws (launches without stack traces) ===== -/
section VXIA
variable {p : Program} {l : Launch} {e : Env} {R : Room} {s : State} {m : MethodId} {args : Array Value} {below : List Frame} {meth : Method} {c : Code} {T : State} {locs : List Loc} {cells slots : Nat}
theorem vx_callI (X : Stand p l e R s m args below meth c T locs cells slots) (hexec : p.tables.exec = Jvm.exec) {own : String} {index : Nat} {y : MethodName} {bytes : ByteArray} {maxL : Nat}
    (hown : s.vm.findClass own = some m.cls) (hy1 : y.name = "<init>") (hlink : (Cond.methodLink own index y).before args s = true) (hinst : (Cond.instanceMethod y).before args s = true)
    (hcode : (Cond.code y bytes maxL none).before args s = true) (hy : y.cls ≠ "java/lang/invoke/MethodHandle" ∧ y.cls ≠ "java/lang/invoke/VarHandle")
    {W9 : Nat} {Pre : Pt → Array Value → Prop} {Post : Pt → Array Value → Option Value → Pt → Prop} {PostX : Pt → Array Value → Addr → Pt → Prop} (hK : vx_Back l R p e below s args y 3 W9 Pre Post PostX)
    {g : JFrame} (hg : g.method = m) (hsize : g.locals.size = c.maxLocals) {a : Addr} {argsL rest : List Value} (hlen : ∀ sig, parseMethodDescriptor y.desc = some sig → argsL.length = sig.parameters.length)
    (hstack : g.stack = argsL.reverse ++ .ref a :: rest) (hW : 2 * g.monitorRoom + (rest.map fun v => v.category).sum ≤ W9) (hdg : decode c.code g.pc = .ok (.invokespecial index, 3))
    (hpre : ∀ vm₁, s.WarmedH vm₁ → Pre ⟨T.setVm vm₁, locs, cells, slots⟩ (Value.ref a :: argsL).toArray) :
    (∃ (v : Option Value) (vm₁ : Vm) (B : Pt), s.WarmedH vm₁ ∧ Stand p l e R s m args below meth c B.U B.locs B.cells B.slots ∧ Post ⟨T.setVm vm₁, locs, cells, slots⟩ (Value.ref a :: argsL).toArray v B ∧
      ∀ target, Steps p.tables e below (B.U.setTop { g with pc := g.pc + 3, stack := v.toList ++ rest }) target → Steps p.tables e below (T.setTop g) target) ∨
    (∃ (q : Addr) (vm₁ : Vm) (B : Pt), s.WarmedH vm₁ ∧ Stand p l e R s m args below meth c B.U B.locs B.cells B.slots ∧ PostX ⟨T.setVm vm₁, locs, cells, slots⟩ (Value.ref a :: argsL).toArray q B ∧
      Steps p.tables e below (T.setTop g) ((B.U.setTop { g with stack := rest }).pushFrame (.throwing q))) := by
  subst hg
  have hpl : e.platform.magicAccessors = ({} : Platform).magicAccessors := by rw [X.admits.platform]
  obtain ⟨mk, methM, cM, kP, vm₁, hnamed, hmethM, hcodeM, -, hlocalsM, -, hkP, -, hW₁, hstep₁⟩ := Steps.initColdArgs (e := e) X.here hexec X.warmed hpl hown hy1 hy hlink hinst hcode (f := g) rfl hlen hstack hdg
  have X₁ := X.noted hW₁
  rcases hK g.method meth c ⟨T.setVm vm₁, locs, cells, slots⟩ { g with stack := rest } (.invokespecial index) mk (Value.ref a :: argsL).toArray X₁ rfl hsize hdg hW (X₁.named hnamed) (hpre vm₁ X₁.warmed) with ⟨v, B, X', hpost, hsteps⟩ | ⟨q, B, X', hpost, hsteps⟩
  · exact Or.inl ⟨v, vm₁, B, X₁.warmed, X', hpost, fun target h => hstep₁ _ fun acts => by rw [doInvoke_state]; exact hsteps.trans h⟩
  · exact Or.inr ⟨q, vm₁, B, X₁.warmed, X', hpost, hstep₁ _ fun acts => by rw [doInvoke_state]; exact hsteps⟩
end VXIA
section VXIB
variable {p : Program} {l : Launch} {e : Env} {R : Room} {s : State} {m : MethodId} {args : Array Value} {below : List Frame} {meth : Method} {c : Code} {H : Heap} {locs : List Loc} {cells slots : Nat}
variable {y : MethodName} {bytes cc : ByteArray} {maxL nL mc ms n index : Nat} {ret : Option FieldType} {ws : List Cond} {rm : Room} {Pc : Array Value → State → Prop} {Qc : Array Value → State → Outcome → State → Prop} {XC : String → State → State → Prop} {free : Addr → Prop} {Ts : List Cond} {own C : String} {b : Addr} {As rest : List Value} {g : JFrame}
theorem vx_runI (S : CallFix p m c cc nL s args Ts own) (hM : vx_Met l y ws rm Pc Qc XC mc ms free) (cw : CallB R s args own index y bytes maxL none ws rm mc ms n ∧ y.name = "<init>" ∧ (Cond.instanceMethod y).before args s = true) (hp : PreS s H Pc (.ref b :: As))
    (hg : g.method = m) (hn : As.length = n) (hsize : g.locals.size = nL) (hstack : g.stack = As.reverse ++ .ref b :: rest) (hW : 2 * g.monitorRoom + (rest.map fun v => v.category).sum ≤ 8) (hdg : decode cc g.pc = .ok (.invokespecial index, 3)) (hf : cells + mc ≤ R.cells ∧ slots + ms ≤ R.slots) :
    vx_Run p l e R s m args below meth c H locs cells slots mc ms g rest (Qc (Value.ref b :: As).toArray) XC free := by
  have hK : vx_Back l R p e below s args y 3 8 (PreOf R mc ms Pc) (PostOf Qc mc ms free) (vx_Post XC mc ms free) := vx_callBack cw.1 hM hp.1
  obtain ⟨⟨-, -, -, -, -, -, hcode, -, hy, hlen, hl⟩, hy1, hin⟩ := cw
  obtain ⟨hx, hb, hml, ho, -⟩ := S
  have hPc := hp.2
  intro T hT X
  rcases vx_callI X hx (bytes := bytes) (maxL := maxL) ho hy1 hl hin hcode hy hK hg (hsize.trans hml.symm) (a := b) (argsL := As) (rest := rest) (fun sig h => hn.trans (hlen sig h)) hstack hW (by rw [hb]; exact hdg)
    (fun vm₁ hW₁ => ⟨hf.1, hf.2, hPc (T.setVm vm₁) hT hW₁⟩) with ⟨v, vm₁, ⟨U', l2, c2, s2⟩, hW₁, X', ⟨g', mk, t, L, e1, e2, hq, h1, hL, h2, h3⟩, st⟩ | ⟨q, vm₁, ⟨U', l2, c2, s2⟩, hW₁, X', ⟨g', mk, t, L, E, ce, e1, e2, hq, hce, hcv, hcl, h1, hL, h2, h3⟩, st⟩
  · dsimp only [Pt.U, Pt.locs, Pt.cells, Pt.slots] at X' e1 e2 h1 h2 h3 st
    subst h1; subst h2; subst h3
    exact Or.inl ⟨v, (T.setVm vm₁).calling g' mk (Value.ref b :: As).toArray, t, U', L, hT, X', hL, e1, e2, hq, st⟩
  · dsimp only [Pt.U, Pt.locs, Pt.cells, Pt.slots] at X' e1 e2 h1 h2 h3 st hcl
    subst h1; subst h2; subst h3
    exact Or.inr ⟨q, (T.setVm vm₁).calling g' mk (Value.ref b :: As).toArray, t, U', L, E, ce, hT, X', hL, e1, e2, hq, hce, hcv, vx_cls hW₁ hcl, st⟩
end VXIB
/-! ===== END ===== -/
/-! ===== BEGIN a private constructor of a nest mate that throws ===== -/
section VXIC
variable {p : Program} {l : Launch} {e : Env} {R : Room} {s : State} {m : MethodId} {args : Array Value} {below : List Frame} {meth : Method} {c : Code} {T : State} {locs : List Loc} {cells slots : Nat}
theorem vx_callIN (X : Stand p l e R s m args below meth c T locs cells slots) (hexec : p.tables.exec = Jvm.exec) {own : String} {index : Nat} {host : String} {y : MethodName} {bytes : ByteArray} {maxL : Nat}
    (hown : s.vm.findClass own = some m.cls) (hy1 : y.name = "<init>") (hlink : (Cond.methodLinkNest own index y host).before args s = true) (hinst : (Cond.instanceMethod y).before args s = true)
    (hcode : (Cond.code y bytes maxL none).before args s = true) (hy : y.cls ≠ "java/lang/invoke/MethodHandle" ∧ y.cls ≠ "java/lang/invoke/VarHandle")
    {W9 : Nat} {Pre : Pt → Array Value → Prop} {Post : Pt → Array Value → Option Value → Pt → Prop} {PostX : Pt → Array Value → Addr → Pt → Prop} (hK : vx_Back l R p e below s args y 3 W9 Pre Post PostX)
    {g : JFrame} (hg : g.method = m) (hsize : g.locals.size = c.maxLocals) {a : Addr} {argsL rest : List Value} (hlen : ∀ sig, parseMethodDescriptor y.desc = some sig → argsL.length = sig.parameters.length)
    (hstack : g.stack = argsL.reverse ++ .ref a :: rest) (hW : 2 * g.monitorRoom + (rest.map fun v => v.category).sum ≤ W9) (hdg : decode c.code g.pc = .ok (.invokespecial index, 3))
    (hpre : ∀ vm₁, s.WarmedH vm₁ → Pre ⟨T.setVm vm₁, locs, cells, slots⟩ (Value.ref a :: argsL).toArray) :
    (∃ (v : Option Value) (vm₁ : Vm) (B : Pt), s.WarmedH vm₁ ∧ Stand p l e R s m args below meth c B.U B.locs B.cells B.slots ∧ Post ⟨T.setVm vm₁, locs, cells, slots⟩ (Value.ref a :: argsL).toArray v B ∧
      ∀ target, Steps p.tables e below (B.U.setTop { g with pc := g.pc + 3, stack := v.toList ++ rest }) target → Steps p.tables e below (T.setTop g) target) ∨
    (∃ (q : Addr) (vm₁ : Vm) (B : Pt), s.WarmedH vm₁ ∧ Stand p l e R s m args below meth c B.U B.locs B.cells B.slots ∧ PostX ⟨T.setVm vm₁, locs, cells, slots⟩ (Value.ref a :: argsL).toArray q B ∧
      Steps p.tables e below (T.setTop g) ((B.U.setTop { g with stack := rest }).pushFrame (.throwing q))) := by
  subst hg
  have hpl : e.platform.magicAccessors = ({} : Platform).magicAccessors := by rw [X.admits.platform]
  obtain ⟨mk, methM, cM, kP, vm₁, hnamed, hmethM, hcodeM, -, hlocalsM, -, hkP, -, hW₁, hstep₁⟩ := Steps.initColdArgsNest (e := e) X.here hexec X.warmed hpl hown hy1 hy hlink hinst hcode (f := g) rfl hlen hstack hdg
  have X₁ := X.noted hW₁
  rcases hK g.method meth c ⟨T.setVm vm₁, locs, cells, slots⟩ { g with stack := rest } (.invokespecial index) mk (Value.ref a :: argsL).toArray X₁ rfl hsize hdg hW (X₁.named hnamed) (hpre vm₁ X₁.warmed) with ⟨v, B, X', hpost, hsteps⟩ | ⟨q, B, X', hpost, hsteps⟩
  · exact Or.inl ⟨v, vm₁, B, X₁.warmed, X', hpost, fun target h => hstep₁ _ fun acts => by rw [doInvoke_state]; exact hsteps.trans h⟩
  · exact Or.inr ⟨q, vm₁, B, X₁.warmed, X', hpost, hstep₁ _ fun acts => by rw [doInvoke_state]; exact hsteps⟩
end VXIC
section VXID
variable {p : Program} {l : Launch} {e : Env} {R : Room} {s : State} {m : MethodId} {args : Array Value} {below : List Frame} {meth : Method} {c : Code} {H : Heap} {locs : List Loc} {cells slots : Nat}
theorem vx_runIN {y : MethodName} {bytes cc : ByteArray} {maxL nL mc ms n index : Nat} {ws : List Cond} {rm : Room} {Pc : Array Value → State → Prop} {Qc : Array Value → State → Outcome → State → Prop} {XC : String → State → State → Prop} {free : Addr → Prop} {Ts : List Cond} {own host : String} {b : Addr} {As rest : List Value} {g : JFrame}
    (S : CallFix p m c cc nL s args Ts own) (hM : vx_Met l y ws rm Pc Qc XC mc ms free) (cw : va_CN R s args own index y host bytes maxL none ws rm mc ms n ∧ y.name = "<init>" ∧ (Cond.instanceMethod y).before args s = true) (hp : PreS s H Pc (.ref b :: As))
    (hg : g.method = m) (hn : As.length = n) (hsize : g.locals.size = nL) (hstack : g.stack = As.reverse ++ .ref b :: rest) (hW : 2 * g.monitorRoom + (rest.map fun v => v.category).sum ≤ 8) (hdg : decode cc g.pc = .ok (.invokespecial index, 3)) (hf : cells + mc ≤ R.cells ∧ slots + ms ≤ R.slots) :
    vx_Run p l e R s m args below meth c H locs cells slots mc ms g rest (Qc (Value.ref b :: As).toArray) XC free := by
  obtain ⟨⟨⟨hrc, hrs, hfr, hlo, hws, hcw⟩, hcode, hini, hy, hlen, hl⟩, hx1, hx2⟩ := cw
  have hK : vx_Back l R p e below s args y 3 8 (PreOf R mc ms Pc) (PostOf Qc mc ms free) (vx_Post XC mc ms free) := vx_back (bytes := bytes) (maxL := maxL) (ret := none) hM hp.1 hrc hrs hfr hlo hws hcw (fun a' U hW => word_at hW (Or.inl (by first | rfl | simp [Cond.onTables, Cond.keeps, Cond.steady])) hini)
  obtain ⟨hx, hb, hml, ho, -⟩ := S
  have hPc := hp.2
  intro T hT X
  rcases vx_callIN X hx (bytes := bytes) (maxL := maxL) ho hx1 hl hx2 hcode hy hK hg (hsize.trans hml.symm) (a := b) (argsL := As) (rest := rest) (fun sig h => hn.trans (hlen sig h)) hstack hW (by rw [hb]; exact hdg)
    (fun vm₁ hW₁ => ⟨hf.1, hf.2, hPc (T.setVm vm₁) hT hW₁⟩) with ⟨v, vm₁, ⟨U', l2, c2, s2⟩, hW₁, X', ⟨g', mk, t, L, e1, e2, hq, h1, hL, h2, h3⟩, st⟩ | ⟨q, vm₁, ⟨U', l2, c2, s2⟩, hW₁, X', ⟨g', mk, t, L, E, ce, e1, e2, hq, hce, hcv, hcl, h1, hL, h2, h3⟩, st⟩
  · dsimp only [Pt.U, Pt.locs, Pt.cells, Pt.slots] at X' e1 e2 h1 h2 h3 st
    subst h1; subst h2; subst h3
    exact Or.inl ⟨v, (T.setVm vm₁).calling g' mk (Value.ref b :: As).toArray, t, U', L, hT, X', hL, e1, e2, hq, st⟩
  · dsimp only [Pt.U, Pt.locs, Pt.cells, Pt.slots] at X' e1 e2 h1 h2 h3 st hcl
    subst h1; subst h2; subst h3
    exact Or.inr ⟨q, (T.setVm vm₁).calling g' mk (Value.ref b :: As).toArray, t, U', L, E, ce, hT, X', hL, e1, e2, hq, hce, hcv, vx_cls hW₁ hcl, st⟩
end VXID
/-! ===== END ===== -/
/-! ===== BEGIN a method of a class above, found by the receiver, that may throw (follows va_callVU, va_runU of this kit) ===== -/
section
variable {p : Program} {l : Launch} {e : Env} {R : Room} {s : State} {m : MethodId} {args : Array Value} {below : List Frame} {meth : Method} {c : Code} {H : Heap} {locs : List Loc} {cells slots : Nat}
theorem vx_callVU {T : State} {locs : List Loc} {cells slots : Nat} (X : Stand p l e R s m args below meth c T locs cells slots) (hexec : p.tables.exec = Jvm.exec) {own C owner : String} {index : Nat} {x y : MethodName} {bytes : ByteArray} {maxL : Nat} {ret : Option FieldType}
    (hown : s.vm.findClass own = some m.cls) (hlink : (Cond.methodLink own index x).before args s = true) (hsame : (Cond.sameMethod x.cls owner x.name x.desc).before args s = true)
    (hd0 : va_Decl s ⟨owner, x.name, x.desc⟩) (howner : owner ≠ "java/lang/invoke/MethodHandle" ∧ owner ≠ "java/lang/invoke/VarHandle")
    (hsel : (Cond.selects C x y).before args s = true) (hinst : (Cond.instanceMethod y).before args s = true) (hcode : (Cond.code y bytes maxL ret).before args s = true)
    {W : Nat} {Pre : Pt → Array Value → Prop} {Post : Pt → Array Value → Option Value → Pt → Prop} {PostX : Pt → Array Value → Addr → Pt → Prop} (hK : vx_Back l R p e below s args y 3 W Pre Post PostX)
    {b : Addr} {cellB : Cell} (hcell : T.heap[b]? = some cellB) (hobj : cellB.vm.isStatics = false) (hcls : s.vm.findClass C = some cellB.cls)
    {g : JFrame} (hg : g.method = m) (hsize : g.locals.size = c.maxLocals) {argsL rest : List Value} (hlen : ∀ sig, parseMethodDescriptor x.desc = some sig → argsL.length = sig.parameters.length)
    (hstack : g.stack = argsL.reverse ++ .ref b :: rest) (hW : 2 * g.monitorRoom + (rest.map fun v => v.category).sum ≤ W) (hdg : decode c.code g.pc = .ok (.invokevirtual index, 3))
    (hpre : ∀ vm₁, s.WarmedH vm₁ → Pre ⟨T.setVm vm₁, locs, cells, slots⟩ (Value.ref b :: argsL).toArray) :
    (∃ (v : Option Value) (vm₁ : Vm) (B : Pt), s.WarmedH vm₁ ∧ Stand p l e R s m args below meth c B.U B.locs B.cells B.slots ∧ Post ⟨T.setVm vm₁, locs, cells, slots⟩ (Value.ref b :: argsL).toArray v B ∧
      ∀ target, Steps p.tables e below (B.U.setTop { g with pc := g.pc + 3, stack := v.toList ++ rest }) target → Steps p.tables e below (T.setTop g) target) ∨
    (∃ (q : Addr) (vm₁ : Vm) (B : Pt), s.WarmedH vm₁ ∧ Stand p l e R s m args below meth c B.U B.locs B.cells B.slots ∧ PostX ⟨T.setVm vm₁, locs, cells, slots⟩ (Value.ref b :: argsL).toArray q B ∧
      Steps p.tables e below (T.setTop g) ((B.U.setTop { g with stack := rest }).pushFrame (.throwing q))) := by
  obtain ⟨r0, r, hn, hrm, hstR, hsigR⟩ := hd0
  obtain ⟨cn, ck, r1, hcn, hck, hni, hf, hn1⟩ := Cond.sameMethod_found hsame
  cases hn.symm.trans hn1
  obtain ⟨mk, methM, hnamed, hmethM, -, habM⟩ := Cond.instanceMethod_spec hinst
  obtain ⟨c2, r2, m2, q1, q2, q3, q4, kP, hkP, hkPi⟩ := Cond.selects_spec hsel
  cases hcls.symm.trans q1
  cases hf.symm.trans q2
  cases hnamed.symm.trans q3
  have hselP : selectMethod e.platform s.vm cellB.cls r0 = .method mk := by rw [Launch.admits_selectMethod X.admits]; exact q4
  obtain ⟨vm₁, X₁, hstep₁⟩ := X.invokevirtualUp hexec hown hlink hsame howner hn hrm hstR (a := b) (cell := cellB) hcell
    (fun z h => by rw [h] at hobj; cases hobj) hselP hmethM habM hkP hkPi (g := g) hg (argsL := argsL) (rest := rest) (hlen _ hsigR) hstack hdg
  rcases hK m meth c ⟨T.setVm vm₁, locs, cells, slots⟩ { g with stack := rest } (.invokevirtual index) mk (Value.ref b :: argsL).toArray X₁ hg hsize hdg hW (X₁.named hnamed) (hpre vm₁ X₁.warmed) with ⟨v, B, X', hpost, hsteps⟩ | ⟨q, B, X', hpost, hsteps⟩
  · exact Or.inl ⟨v, vm₁, B, X₁.warmed, X', hpost, fun target h => hstep₁ _ fun acts => by rw [doInvoke_state]; exact hsteps.trans h⟩
  · exact Or.inr ⟨q, vm₁, B, X₁.warmed, X', hpost, hstep₁ _ fun acts => by rw [doInvoke_state]; exact hsteps⟩
theorem vx_runU {x y : MethodName} {bytes cc : ByteArray} {maxL nL mc ms n index : Nat} {ret : Option FieldType} {ws : List Cond} {rm : Room} {Pc : Array Value → State → Prop} {Qc : Array Value → State → Outcome → State → Prop} {XC : String → State → State → Prop} {free : Addr → Prop} {Ts : List Cond} {own C owner : String} {b : Addr} {As rest : List Value} {g : JFrame}
    (S : CallFix p m c cc nL s args Ts own) (hM : vx_Met l y ws rm Pc Qc XC mc ms free) (cw : va_CU R s args own C owner index x y bytes maxL ret ws rm mc ms n) (hp : PreV s H C b Pc As)
    (hg : g.method = m) (hn : As.length = n) (hsize : g.locals.size = nL) (hstack : g.stack = As.reverse ++ .ref b :: rest) (hW : 2 * g.monitorRoom + (rest.map fun v => v.category).sum ≤ 8) (hdg : decode cc g.pc = .ok (.invokevirtual index, 3)) (hf : cells + mc ≤ R.cells ∧ slots + ms ≤ R.slots) :
    vx_Run p l e R s m args below meth c H locs cells slots mc ms g rest (Qc (Value.ref b :: As).toArray) XC free := by
  obtain ⟨hrc, hrs, hfr, hlo, hws, hcw⟩ := cw.back
  have hini := cw.init
  have hK : vx_Back l R p e below s args y 3 8 (PreOf R mc ms Pc) (PostOf Qc mc ms free) (vx_Post XC mc ms free) := vx_back (bytes := bytes) (maxL := maxL) (ret := ret) hM hp.1 hrc hrs hfr hlo hws hcw (fun a' U hW => word_at hW (Or.inl (by first | rfl | simp [Cond.onTables, Cond.keeps, Cond.steady])) hini)
  obtain ⟨hx, hb, hml, ho, -⟩ := S
  obtain ⟨-, ⟨cellB, hcB, hoB, hclB⟩, hPc⟩ := hp
  intro T hT X
  rcases vx_callVU X hx (C := C) (owner := owner) (bytes := bytes) (maxL := maxL) (ret := ret) ho cw.link cw.same cw.decl cw.notMH cw.sel cw.inst cw.code hK (by rw [hT]; exact hcB) hoB hclB hg (hsize.trans hml.symm) (argsL := As) (rest := rest) (fun sig h => hn.trans (cw.len sig h)) hstack hW (by rw [hb]; exact hdg)
    (fun vm₁ hW₁ => ⟨hf.1, hf.2, hPc (T.setVm vm₁) hT hW₁⟩) with ⟨v, vm₁, ⟨U', l2, c2, s2⟩, hW₁, X', ⟨g', mk, t, L, e1, e2, hq, h1, hL, h2, h3⟩, st⟩ | ⟨q, vm₁, ⟨U', l2, c2, s2⟩, hW₁, X', ⟨g', mk, t, L, E, ce, e1, e2, hq, hce, hcv, hcl, h1, hL, h2, h3⟩, st⟩
  · dsimp only [Pt.U, Pt.locs, Pt.cells, Pt.slots] at X' e1 e2 h1 h2 h3 st
    subst h1; subst h2; subst h3
    exact Or.inl ⟨v, (T.setVm vm₁).calling g' mk (Value.ref b :: As).toArray, t, U', L, hT, X', hL, e1, e2, hq, st⟩
  · dsimp only [Pt.U, Pt.locs, Pt.cells, Pt.slots] at X' e1 e2 h1 h2 h3 st hcl
    subst h1; subst h2; subst h3
    exact Or.inr ⟨q, (T.setVm vm₁).calling g' mk (Value.ref b :: As).toArray, t, U', L, E, ce, hT, X', hL, e1, e2, hq, hce, hcv, vx_cls hW₁ hcl, st⟩
end
/-! ===== END ===== -/
/-! ===== BEGIN super.m(..) that may throw (follows va_callSU, va_runSU) ===== -/
section
variable {p : Program} {l : Launch} {e : Env} {R : Room} {s : State} {m : MethodId} {args : Array Value} {below : List Frame} {meth : Method} {c : Code} {H : Heap} {locs : List Loc} {cells slots : Nat}
theorem vx_callSU {T : State} {locs : List Loc} {cells slots : Nat} (X : Stand p l e R s m args below meth c T locs cells slots) (hexec : p.tables.exec = Jvm.exec) {own : String} {index : Nat} {y : MethodName} {bytes : ByteArray} {maxL : Nat} {ret : Option FieldType}
    (hown : s.vm.findClass own = some m.cls) (hlink : (Cond.methodLink own index y).before args s = true) (hsame : (Cond.sameMethod y.cls y.cls y.name y.desc).before args s = true) (hsup : (Cond.superclass own y.cls).before args s = true)
    (hinst : (Cond.instanceMethod y).before args s = true) (hcode : (Cond.code y bytes maxL ret).before args s = true) (hno : y.name ≠ "<init>")
    {W : Nat} {Pre : Pt → Array Value → Prop} {Post : Pt → Array Value → Option Value → Pt → Prop} {PostX : Pt → Array Value → Addr → Pt → Prop} (hK : vx_Back l R p e below s args y 3 W Pre Post PostX)
    {b : Addr} {cellB : Cell} {kB : Class} (hcell : T.heap[b]? = some cellB) (hobj : cellB.vm.isStatics = false) (hkB : s.vm.classes[cellB.cls]? = some kB)
    {g : JFrame} (hg : g.method = m) (hsize : g.locals.size = c.maxLocals) {argsL rest : List Value} (hlen : ∀ sig, parseMethodDescriptor y.desc = some sig → argsL.length = sig.parameters.length)
    (hstack : g.stack = argsL.reverse ++ .ref b :: rest) (hW : 2 * g.monitorRoom + (rest.map fun v => v.category).sum ≤ W) (hdg : decode c.code g.pc = .ok (.invokespecial index, 3))
    (hpre : ∀ vm₁, s.WarmedH vm₁ → Pre ⟨T.setVm vm₁, locs, cells, slots⟩ (Value.ref b :: argsL).toArray) :
    (∃ (v : Option Value) (vm₁ : Vm) (B : Pt), s.WarmedH vm₁ ∧ Stand p l e R s m args below meth c B.U B.locs B.cells B.slots ∧ Post ⟨T.setVm vm₁, locs, cells, slots⟩ (Value.ref b :: argsL).toArray v B ∧
      ∀ target, Steps p.tables e below (B.U.setTop { g with pc := g.pc + 3, stack := v.toList ++ rest }) target → Steps p.tables e below (T.setTop g) target) ∨
    (∃ (q : Addr) (vm₁ : Vm) (B : Pt), s.WarmedH vm₁ ∧ Stand p l e R s m args below meth c B.U B.locs B.cells B.slots ∧ PostX ⟨T.setVm vm₁, locs, cells, slots⟩ (Value.ref b :: argsL).toArray q B ∧
      Steps p.tables e below (T.setTop g) ((B.U.setTop { g with stack := rest }).pushFrame (.throwing q))) := by
  obtain ⟨mk, methM, hnamed, hmethM, hstM, habM⟩ := Cond.instanceMethod_spec hinst
  obtain ⟨methM', cM, hmethM', -, -, -, -, -, -, hsigM⟩ := Cond.code_spec hnamed hcode
  cases hmethM.symm.trans hmethM'
  obtain ⟨ps, dk, kp, hps, hdk, hkp, hsuper, -, -, hnid⟩ := Cond.superclass_spec hown hsup
  have hn : s.methodNamed? ⟨y.cls, y.name, y.desc⟩ = some mk := hnamed
  have hpm : ps = mk.cls := Option.some.inj (hps.symm.trans (findClass_of_methodNamed hnamed))
  have hsub : s.vm.isSubclass ps mk.cls = true := by rw [hpm]; simp [Vm.isSubclass, Vm.isSubclassAux]
  obtain ⟨vm₁, X₁, hstep₁⟩ := X.invokespecialUp hexec hown hlink hsame hn hmethM hstM habM hno hdk hnid hps hsuper hsub (a := b) (cell := cellB) hcell
    (fun z h => by rw [h] at hobj; cases hobj) hkB (g := g) hg (argsL := argsL) (rest := rest) (hlen _ hsigM) hstack hdg
  rcases hK m meth c ⟨T.setVm vm₁, locs, cells, slots⟩ { g with stack := rest } (.invokespecial index) mk (Value.ref b :: argsL).toArray X₁ hg hsize hdg hW (X₁.named hnamed) (hpre vm₁ X₁.warmed) with ⟨v, B, X', hpost, hsteps⟩ | ⟨q, B, X', hpost, hsteps⟩
  · exact Or.inl ⟨v, vm₁, B, X₁.warmed, X', hpost, fun target h => hstep₁ _ (by rw [doInvoke_state]; exact hsteps.trans h)⟩
  · exact Or.inr ⟨q, vm₁, B, X₁.warmed, X', hpost, hstep₁ _ (by rw [doInvoke_state]; exact hsteps)⟩
theorem vx_runSU {y : MethodName} {bytes cc : ByteArray} {maxL nL mc ms n index : Nat} {ret : Option FieldType} {ws : List Cond} {rm : Room} {Pc : Array Value → State → Prop} {Qc : Array Value → State → Outcome → State → Prop} {XC : String → State → State → Prop} {free : Addr → Prop} {Ts : List Cond} {own C : String} {cC : ClassId} {b : Addr} {As rest : List Value} {g : JFrame}
    (hat : ClassAt s C cC) (S : CallFix p m c cc nL s args Ts own) (hM : vx_Met l y ws rm Pc Qc XC mc ms free) (cw : va_CS R s args own index y bytes maxL ret ws rm mc ms n) (hp : PreV s H C b Pc As)
    (hg : g.method = m) (hn : As.length = n) (hsize : g.locals.size = nL) (hstack : g.stack = As.reverse ++ .ref b :: rest) (hW : 2 * g.monitorRoom + (rest.map fun v => v.category).sum ≤ 8) (hdg : decode cc g.pc = .ok (.invokespecial index, 3)) (hf : cells + mc ≤ R.cells ∧ slots + ms ≤ R.slots) :
    vx_Run p l e R s m args below meth c H locs cells slots mc ms g rest (Qc (Value.ref b :: As).toArray) XC free := by
  obtain ⟨⟨hrc, hrs, hfr, hlo, hws, hcw⟩, hl1, hl2, hl3, hl4, hini, hcode, hno, hlen⟩ := cw
  have hK : vx_Back l R p e below s args y 3 8 (PreOf R mc ms Pc) (PostOf Qc mc ms free) (vx_Post XC mc ms free) := vx_back (bytes := bytes) (maxL := maxL) (ret := ret) hM hp.1 hrc hrs hfr hlo hws hcw (fun a' U hW => word_at hW (Or.inl (by first | rfl | simp [Cond.onTables, Cond.keeps, Cond.steady])) hini)
  obtain ⟨hx, hb, hml, ho, -⟩ := S
  obtain ⟨-, ⟨cellB, hcB, hoB, hclB⟩, hPc⟩ := hp
  obtain ⟨hfc, kB, hkB, -⟩ := hat
  cases hfc.symm.trans hclB
  intro T hT X
  rcases vx_callSU X hx (bytes := bytes) (maxL := maxL) (ret := ret) ho hl1 hl2 hl3 hl4 hcode hno hK (by rw [hT]; exact hcB) hoB hkB hg (hsize.trans hml.symm) (argsL := As) (rest := rest) (fun sig h => hn.trans (hlen sig h)) hstack hW (by rw [hb]; exact hdg)
    (fun vm₁ hW₁ => ⟨hf.1, hf.2, hPc (T.setVm vm₁) hT hW₁⟩) with ⟨v, vm₁, ⟨U', l2, c2, s2⟩, hW₁, X', ⟨g', mk, t, L, e1, e2, hq, h1, hL, h2, h3⟩, st⟩ | ⟨q, vm₁, ⟨U', l2, c2, s2⟩, hW₁, X', ⟨g', mk, t, L, E, ce, e1, e2, hq, hce, hcv, hcl, h1, hL, h2, h3⟩, st⟩
  · dsimp only [Pt.U, Pt.locs, Pt.cells, Pt.slots] at X' e1 e2 h1 h2 h3 st
    subst h1; subst h2; subst h3
    exact Or.inl ⟨v, (T.setVm vm₁).calling g' mk (Value.ref b :: As).toArray, t, U', L, hT, X', hL, e1, e2, hq, st⟩
  · dsimp only [Pt.U, Pt.locs, Pt.cells, Pt.slots] at X' e1 e2 h1 h2 h3 st hcl
    subst h1; subst h2; subst h3
    exact Or.inr ⟨q, (T.setVm vm₁).calling g' mk (Value.ref b :: As).toArray, t, U', L, E, ce, hT, X', hL, e1, e2, hq, hce, hcv, vx_cls hW₁ hcl, st⟩
end
/-! ===== END ===== -/
/-! ===== BEGIN a private method of a nest mate that may throw (follows va_callVN, va_callSN, va_runVN, va_runSN) ===== -/
section
variable {p : Program} {l : Launch} {e : Env} {R : Room} {s : State} {m : MethodId} {args : Array Value} {below : List Frame} {meth : Method} {c : Code} {H : Heap} {locs : List Loc} {cells slots : Nat}
variable {T : State}
theorem vx_callVN (X : Stand p l e R s m args below meth c T locs cells slots) (hexec : p.tables.exec = Jvm.exec) {own C : String} {index : Nat} {host : String} {y : MethodName} {bytes : ByteArray} {maxL : Nat} {ret : Option FieldType}
    (hown : s.vm.findClass own = some m.cls) (hlink : (Cond.methodLinkNest own index y host).before args s = true) (hinst : (Cond.instanceMethod y).before args s = true) (hsel : (Cond.selects C y y).before args s = true)
    (hcode : (Cond.code y bytes maxL ret).before args s = true) (hy : y.cls ≠ "java/lang/invoke/MethodHandle" ∧ y.cls ≠ "java/lang/invoke/VarHandle")
    {W : Nat} {Pre : Pt → Array Value → Prop} {Post : Pt → Array Value → Option Value → Pt → Prop} {PostX : Pt → Array Value → Addr → Pt → Prop} (hK : vx_Back l R p e below s args y 3 W Pre Post PostX)
    {b : Addr} {cellB : Cell} (hcell : T.heap[b]? = some cellB) (hobj : cellB.vm.isStatics = false) (hcls : s.vm.findClass C = some cellB.cls)
    {g : JFrame} (hg : g.method = m) (hsize : g.locals.size = c.maxLocals) {argsL rest : List Value} (hlen : ∀ sig, parseMethodDescriptor y.desc = some sig → argsL.length = sig.parameters.length)
    (hstack : g.stack = argsL.reverse ++ .ref b :: rest) (hW : 2 * g.monitorRoom + (rest.map fun v => v.category).sum ≤ W) (hdg : decode c.code g.pc = .ok (.invokevirtual index, 3))
    (hpre : ∀ vm₁, s.WarmedH vm₁ → Pre ⟨T.setVm vm₁, locs, cells, slots⟩ (Value.ref b :: argsL).toArray) :
    (∃ (v : Option Value) (vm₁ : Vm) (B : Pt), s.WarmedH vm₁ ∧ Stand p l e R s m args below meth c B.U B.locs B.cells B.slots ∧ Post ⟨T.setVm vm₁, locs, cells, slots⟩ (Value.ref b :: argsL).toArray v B ∧
      ∀ target, Steps p.tables e below (B.U.setTop { g with pc := g.pc + 3, stack := v.toList ++ rest }) target → Steps p.tables e below (T.setTop g) target) ∨
    (∃ (q : Addr) (vm₁ : Vm) (B : Pt), s.WarmedH vm₁ ∧ Stand p l e R s m args below meth c B.U B.locs B.cells B.slots ∧ PostX ⟨T.setVm vm₁, locs, cells, slots⟩ (Value.ref b :: argsL).toArray q B ∧
      Steps p.tables e below (T.setTop g) ((B.U.setTop { g with stack := rest }).pushFrame (.throwing q))) := by
  obtain ⟨mk, methM, hnamed, hmethM, hstM, habM⟩ := Cond.instanceMethod_spec hinst
  obtain ⟨methM', cM, hmethM', -, -, -, -, -, -, hsigM⟩ := Cond.code_spec hnamed hcode
  cases hmethM.symm.trans hmethM'
  obtain ⟨c2, r2, m2, q1, q2, q3, q4, kP, hkP, hkPi⟩ := Cond.selects_spec hsel
  cases hcls.symm.trans q1
  cases (State.methodFound?_of_named hnamed hy).symm.trans q2
  cases hnamed.symm.trans q3
  have hselP : selectMethod e.platform s.vm cellB.cls mk = .method mk := by rw [Launch.admits_selectMethod X.admits]; exact q4
  obtain ⟨vm₁, X₁, hstep₁⟩ := X.invokevirtualNest hexec hown hlink hnamed hmethM hstM hkP hkPi hy (a := b) (cell := cellB) hcell
    (fun z h => by rw [h] at hobj; cases hobj) hselP hmethM habM hkP hkPi (g := g) hg (argsL := argsL) (rest := rest) (hlen _ hsigM) hstack hdg
  rcases hK m meth c ⟨T.setVm vm₁, locs, cells, slots⟩ { g with stack := rest } (.invokevirtual index) mk (Value.ref b :: argsL).toArray X₁ hg hsize hdg hW (X₁.named hnamed) (hpre vm₁ X₁.warmed) with ⟨v, B, X', hpost, hsteps⟩ | ⟨q, B, X', hpost, hsteps⟩
  · exact Or.inl ⟨v, vm₁, B, X₁.warmed, X', hpost, fun target h => hstep₁ _ fun acts => by rw [doInvoke_state]; exact hsteps.trans h⟩
  · exact Or.inr ⟨q, vm₁, B, X₁.warmed, X', hpost, hstep₁ _ fun acts => by rw [doInvoke_state]; exact hsteps⟩
theorem vx_callSN (X : Stand p l e R s m args below meth c T locs cells slots) (hexec : p.tables.exec = Jvm.exec) {own : String} {index : Nat} {host : String} {y : MethodName} {bytes : ByteArray} {maxL : Nat} {ret : Option FieldType}
    (hown : s.vm.findClass own = some m.cls) (hlink : (Cond.methodLinkNest own index y host).before args s = true) (hstat : (Cond.static y).before args s = true) (hinit : (Cond.initialized y.cls).before args s = true)
    (hcode : (Cond.code y bytes maxL ret).before args s = true) (hy : y.cls ≠ "java/lang/invoke/MethodHandle" ∧ y.cls ≠ "java/lang/invoke/VarHandle")
    {W : Nat} {Pre : Pt → Array Value → Prop} {Post : Pt → Array Value → Option Value → Pt → Prop} {PostX : Pt → Array Value → Addr → Pt → Prop} (hK : vx_Back l R p e below s args y 3 W Pre Post PostX)
    {g : JFrame} (hg : g.method = m) (hsize : g.locals.size = c.maxLocals) {argsL rest : List Value} (hlen : ∀ sig, parseMethodDescriptor y.desc = some sig → argsL.length = sig.parameters.length)
    (hstack : g.stack = argsL.reverse ++ rest) (hW : 2 * g.monitorRoom + (rest.map fun v => v.category).sum ≤ W) (hdg : decode c.code g.pc = .ok (.invokestatic index, 3))
    (hpre : ∀ vm₁, s.WarmedH vm₁ → Pre ⟨T.setVm vm₁, locs, cells, slots⟩ argsL.toArray) :
    (∃ (v : Option Value) (vm₁ : Vm) (B : Pt), s.WarmedH vm₁ ∧ Stand p l e R s m args below meth c B.U B.locs B.cells B.slots ∧ Post ⟨T.setVm vm₁, locs, cells, slots⟩ argsL.toArray v B ∧
      ∀ target, Steps p.tables e below (B.U.setTop { g with pc := g.pc + 3, stack := v.toList ++ rest }) target → Steps p.tables e below (T.setTop g) target) ∨
    (∃ (q : Addr) (vm₁ : Vm) (B : Pt), s.WarmedH vm₁ ∧ Stand p l e R s m args below meth c B.U B.locs B.cells B.slots ∧ PostX ⟨T.setVm vm₁, locs, cells, slots⟩ argsL.toArray q B ∧
      Steps p.tables e below (T.setTop g) ((B.U.setTop { g with stack := rest }).pushFrame (.throwing q))) := by
  obtain ⟨mk, hnamed⟩ := Cond.code_named hcode
  obtain ⟨methM, cM, hmethM, -, -, -, -, -, -, hsigM⟩ := Cond.code_spec hnamed hcode
  have hstatic : methM.isStatic = true := Cond.static_spec hnamed hmethM hstat
  obtain ⟨kP, hkP, -⟩ := className_of_methodNamed hnamed
  have hinitP : kP.init = .initialized := Cond.initialized_spec (findClass_of_methodNamed hnamed) hkP hinit
  obtain ⟨vm₁, X₁, hstep₁⟩ := X.invokestaticNest hexec hown hlink hnamed hmethM hstatic hkP hinitP hy (g := g) hg (argsL := argsL) (rest := rest) (hlen _ hsigM) hstack hdg
  rcases hK m meth c ⟨T.setVm vm₁, locs, cells, slots⟩ { g with stack := rest } (.invokestatic index) mk argsL.toArray X₁ hg hsize hdg hW (X₁.named hnamed) (hpre vm₁ X₁.warmed) with ⟨v, B, X', hpost, hsteps⟩ | ⟨q, B, X', hpost, hsteps⟩
  · exact Or.inl ⟨v, vm₁, B, X₁.warmed, X', hpost, fun target h => hstep₁ _ fun acts => by rw [doInvoke_state]; exact hsteps.trans h⟩
  · exact Or.inr ⟨q, vm₁, B, X₁.warmed, X', hpost, hstep₁ _ fun acts => by rw [doInvoke_state]; exact hsteps⟩
theorem vx_runVN {y : MethodName} {bytes cc : ByteArray} {maxL nL mc ms n index : Nat} {ret : Option FieldType} {ws : List Cond} {rm : Room} {Pc : Array Value → State → Prop} {Qc : Array Value → State → Outcome → State → Prop} {XC : String → State → State → Prop} {free : Addr → Prop} {Ts : List Cond} {own C host : String} {b : Addr} {As rest : List Value} {g : JFrame}
    (S : CallFix p m c cc nL s args Ts own) (hM : vx_Met l y ws rm Pc Qc XC mc ms free) (cw : va_CN R s args own index y host bytes maxL ret ws rm mc ms n ∧ (Cond.instanceMethod y).before args s = true ∧ (Cond.selects C y y).before args s = true) (hp : PreV s H C b Pc As)
    (hg : g.method = m) (hn : As.length = n) (hsize : g.locals.size = nL) (hstack : g.stack = As.reverse ++ .ref b :: rest) (hW : 2 * g.monitorRoom + (rest.map fun v => v.category).sum ≤ 8) (hdg : decode cc g.pc = .ok (.invokevirtual index, 3)) (hf : cells + mc ≤ R.cells ∧ slots + ms ≤ R.slots) :
    vx_Run p l e R s m args below meth c H locs cells slots mc ms g rest (Qc (Value.ref b :: As).toArray) XC free := by
  obtain ⟨⟨⟨hrc, hrs, hfr, hlo, hws, hcw⟩, hcode, hini, hy, hlen, hl⟩, hx1, hx2⟩ := cw
  have hK : vx_Back l R p e below s args y 3 8 (PreOf R mc ms Pc) (PostOf Qc mc ms free) (vx_Post XC mc ms free) := vx_back (bytes := bytes) (maxL := maxL) (ret := ret) hM hp.1 hrc hrs hfr hlo hws hcw (fun a' U hW => word_at hW (Or.inl (by first | rfl | simp [Cond.onTables, Cond.keeps, Cond.steady])) hini)
  obtain ⟨hx, hb, hml, ho, -⟩ := S
  obtain ⟨-, ⟨cellB, hcB, hoB, hclB⟩, hPc⟩ := hp
  intro T hT X
  rcases vx_callVN X hx (C := C) (bytes := bytes) (maxL := maxL) (ret := ret) ho hl hx1 hx2 hcode hy hK (by rw [hT]; exact hcB) hoB hclB hg (hsize.trans hml.symm) (argsL := As) (rest := rest) (fun sig h => hn.trans (hlen sig h)) hstack hW (by rw [hb]; exact hdg)
    (fun vm₁ hW₁ => ⟨hf.1, hf.2, hPc (T.setVm vm₁) hT hW₁⟩) with ⟨v, vm₁, ⟨U', l2, c2, s2⟩, hW₁, X', ⟨g', mk, t, L, e1, e2, hq, h1, hL, h2, h3⟩, st⟩ | ⟨q, vm₁, ⟨U', l2, c2, s2⟩, hW₁, X', ⟨g', mk, t, L, E, ce, e1, e2, hq, hce, hcv, hcl, h1, hL, h2, h3⟩, st⟩
  · dsimp only [Pt.U, Pt.locs, Pt.cells, Pt.slots] at X' e1 e2 h1 h2 h3 st
    subst h1; subst h2; subst h3
    exact Or.inl ⟨v, (T.setVm vm₁).calling g' mk (Value.ref b :: As).toArray, t, U', L, hT, X', hL, e1, e2, hq, st⟩
  · dsimp only [Pt.U, Pt.locs, Pt.cells, Pt.slots] at X' e1 e2 h1 h2 h3 st hcl
    subst h1; subst h2; subst h3
    exact Or.inr ⟨q, (T.setVm vm₁).calling g' mk (Value.ref b :: As).toArray, t, U', L, E, ce, hT, X', hL, e1, e2, hq, hce, hcv, vx_cls hW₁ hcl, st⟩
theorem vx_runSN {y : MethodName} {bytes cc : ByteArray} {maxL nL mc ms n index : Nat} {ret : Option FieldType} {ws : List Cond} {rm : Room} {Pc : Array Value → State → Prop} {Qc : Array Value → State → Outcome → State → Prop} {XC : String → State → State → Prop} {free : Addr → Prop} {Ts : List Cond} {own host : String} {As rest : List Value} {g : JFrame}
    (S : CallFix p m c cc nL s args Ts own) (hM : vx_Met l y ws rm Pc Qc XC mc ms free) (cw : va_CN R s args own index y host bytes maxL ret ws rm mc ms n ∧ (Cond.static y).before args s = true ∧ True) (hp : PreS s H Pc As)
    (hg : g.method = m) (hn : As.length = n) (hsize : g.locals.size = nL) (hstack : g.stack = As.reverse ++ rest) (hW : 2 * g.monitorRoom + (rest.map fun v => v.category).sum ≤ 8) (hdg : decode cc g.pc = .ok (.invokestatic index, 3)) (hf : cells + mc ≤ R.cells ∧ slots + ms ≤ R.slots) :
    vx_Run p l e R s m args below meth c H locs cells slots mc ms g rest (Qc As.toArray) XC free := by
  obtain ⟨⟨⟨hrc, hrs, hfr, hlo, hws, hcw⟩, hcode, hini, hy, hlen, hl⟩, hx1, hx2⟩ := cw
  have hK : vx_Back l R p e below s args y 3 8 (PreOf R mc ms Pc) (PostOf Qc mc ms free) (vx_Post XC mc ms free) := vx_back (bytes := bytes) (maxL := maxL) (ret := ret) hM hp.1 hrc hrs hfr hlo hws hcw (fun a' U hW => word_at hW (Or.inl (by first | rfl | simp [Cond.onTables, Cond.keeps, Cond.steady])) hini)
  obtain ⟨hx, hb, hml, ho, -⟩ := S
  have hPc := hp.2
  intro T hT X
  rcases vx_callSN X hx (bytes := bytes) (maxL := maxL) (ret := ret) ho hl hx1 hini hcode hy hK hg (hsize.trans hml.symm) (argsL := As) (rest := rest) (fun sig h => hn.trans (hlen sig h)) hstack hW (by rw [hb]; exact hdg)
    (fun vm₁ hW₁ => ⟨hf.1, hf.2, hPc (T.setVm vm₁) hT hW₁⟩) with ⟨v, vm₁, ⟨U', l2, c2, s2⟩, hW₁, X', ⟨g', mk, t, L, e1, e2, hq, h1, hL, h2, h3⟩, st⟩ | ⟨q, vm₁, ⟨U', l2, c2, s2⟩, hW₁, X', ⟨g', mk, t, L, E, ce, e1, e2, hq, hce, hcv, hcl, h1, hL, h2, h3⟩, st⟩
  · dsimp only [Pt.U, Pt.locs, Pt.cells, Pt.slots] at X' e1 e2 h1 h2 h3 st
    subst h1; subst h2; subst h3
    exact Or.inl ⟨v, (T.setVm vm₁).calling g' mk As.toArray, t, U', L, hT, X', hL, e1, e2, hq, st⟩
  · dsimp only [Pt.U, Pt.locs, Pt.cells, Pt.slots] at X' e1 e2 h1 h2 h3 st hcl
    subst h1; subst h2; subst h3
    exact Or.inr ⟨q, (T.setVm vm₁).calling g' mk As.toArray, t, U', L, E, ce, hT, X', hL, e1, e2, hq, hce, hcv, vx_cls hW₁ hcl, st⟩
end
/-! ===== END ===== -/
/-! ===== BEGIN calls by an interface of methods that may throw (vx_callIF, vx_runF follow va_callIF, va_runF of this kit) ===== -/
section
variable {p : Program} {l : Launch} {e : Env} {R : Room} {s : State} {m : MethodId} {args : Array Value} {below : List Frame} {meth : Method} {c : Code} {H : Heap} {locs : List Loc} {cells slots : Nat} {Q : State → Prop}
variable {mc ms : Nat} {free : Addr → Prop} {A0 A1 : Nat → Prop} {H0 : Heap} {a : Array Value} {pc : Nat} {ls : Array Slot} {st0 rest : List Value}
def vx_Run5 (p : Program) (l : Launch) (e : Env) (R : Room) (s : State) (m : MethodId) (args : Array Value) (below : List Frame) (meth : Method) (c : Code) (H : Heap) (locs : List Loc) (cells slots mc ms : Nat) (g : JFrame) (rest : List Value) (Qa : State → Outcome → State → Prop) (XC : String → State → State → Prop) (free : Addr → Prop) : Prop :=
  ∀ T : State, T.heap = H → Stand p l e R s m args below meth c T locs cells slots →
    (∃ (v : Option Value) (st₀ t T' : State) (L : List Loc), st₀.heap = H ∧ Stand p l e R s m args below meth c T' (locs ++ L) (cells + mc) (slots + ms) ∧ (∀ q ∈ L, free q.base) ∧ T'.heap = t.heap ∧ T'.vm = t.vm ∧ Qa st₀ (.returned v) t ∧
      Goes p e below T g T' { g with pc := g.pc + 5, stack := v.toList ++ rest }) ∨
    (∃ (q : Addr) (st₀ t T' : State) (L : List Loc) (E : String) (ce : Cell), st₀.heap = H ∧ Stand p l e R s m args below meth c T' (locs ++ L) (cells + mc) (slots + ms) ∧ (∀ z ∈ L, free z.base) ∧ T'.heap = t.heap ∧ T'.vm = t.vm ∧ XC E st₀ t ∧ t.heap[q]? = some ce ∧ ce.vm = .none ∧ s.vm.findClass E = some ce.cls ∧
      Steps p.tables e below (T.setTop g) ((T'.setTop { g with stack := rest }).pushFrame (.throwing q)))
theorem vx_callIF {T : State} (X : Stand p l e R s m args below meth c T locs cells slots) (hexec : p.tables.exec = Jvm.exec) {own C : String} {index count : Nat} {x y : MethodName} {bytes : ByteArray} {maxL : Nat} {ret : Option FieldType}
    (hown : s.vm.findClass own = some m.cls) (hlink : (Cond.methodLink own index x).before args s = true) (hdecl : (Cond.declares x).before args s = true) (hface : (Cond.interfaceMethod x.cls x.cls x.name x.desc).before args s = true)
    (hsel : (Cond.selects C x y).before args s = true) (hinst : (Cond.instanceMethod y).before args s = true) (hpub : (Cond.publicMethod y).before args s = true) (hunh : (Cond.unhidden C x.name x.desc).before args s = true)
    (hcast : (Cond.castable C x.cls).before args s = true) (hcode : (Cond.code y bytes maxL ret).before args s = true) (hx : x.cls ≠ "java/lang/invoke/MethodHandle" ∧ x.cls ≠ "java/lang/invoke/VarHandle")
    {W9 : Nat} {Pre : Pt → Array Value → Prop} {Post : Pt → Array Value → Option Value → Pt → Prop} {PostX : Pt → Array Value → Addr → Pt → Prop} (hK : vx_Back l R p e below s args y 5 W9 Pre Post PostX)
    {b : Addr} {cellB : Cell} {kB : Class} (hcell : T.heap[b]? = some cellB) (hobj : cellB.vm.isStatics = false) (hcls : s.vm.findClass C = some cellB.cls) (hkB : s.vm.classes[cellB.cls]? = some kB)
    {g : JFrame} (hg : g.method = m) (hsize : g.locals.size = c.maxLocals) {argsL rest : List Value} (hlen : ∀ sig, parseMethodDescriptor x.desc = some sig → argsL.length = sig.parameters.length)
    (hstack : g.stack = argsL.reverse ++ .ref b :: rest) (hW : 2 * g.monitorRoom + (rest.map fun v => v.category).sum ≤ W9) (hdg : decode c.code g.pc = .ok (.invokeinterface index count, 5))
    (hpre : ∀ vm₁, s.WarmedH vm₁ → Pre ⟨T.setVm vm₁, locs, cells, slots⟩ (Value.ref b :: argsL).toArray) :
    (∃ (v : Option Value) (vm₁ : Vm) (B : Pt), s.WarmedH vm₁ ∧ Stand p l e R s m args below meth c B.U B.locs B.cells B.slots ∧ Post ⟨T.setVm vm₁, locs, cells, slots⟩ (Value.ref b :: argsL).toArray v B ∧
      ∀ target, Steps p.tables e below (B.U.setTop { g with pc := g.pc + 5, stack := v.toList ++ rest }) target → Steps p.tables e below (T.setTop g) target) ∨
    (∃ (q : Addr) (vm₁ : Vm) (B : Pt), s.WarmedH vm₁ ∧ Stand p l e R s m args below meth c B.U B.locs B.cells B.slots ∧ PostX ⟨T.setVm vm₁, locs, cells, slots⟩ (Value.ref b :: argsL).toArray q B ∧
      Steps p.tables e below (T.setTop g) ((B.U.setTop { g with stack := rest }).pushFrame (.throwing q))) := by
  obtain ⟨r0, r, hn, hrm, hstR, hsigR⟩ := Cond.declares_spec hdecl
  obtain ⟨cL, kL, r1, hcL, hkL, hiL, hfoundL, hn1⟩ := Cond.interfaceMethod_spec hface
  cases hn.symm.trans hn1
  have hr0cls : r0.cls = cL := Option.some.inj ((findClass_of_methodNamed hn).symm.trans hcL)
  obtain ⟨hnameR, hdescR⟩ := name_of_methodNamed hn hrm
  obtain ⟨mk, methM, hnamed, hmethM, -, habM⟩ := Cond.instanceMethod_spec hinst
  obtain ⟨c2, r2, m2, q1, q2, q3, q4, -⟩ := Cond.selects_spec hsel
  cases hcls.symm.trans q1
  cases hfoundL.symm.trans q2
  cases hnamed.symm.trans q3
  have hselP : selectMethod e.platform s.vm cellB.cls r0 = .method mk := by rw [Launch.admits_selectMethod X.admits]; exact q4
  have hpubM : hasFlag methM.accessFlags Acc.public_ = true := Cond.publicMethod_spec hnamed hmethM hpub
  have hway : ((cellB.cls :: s.vm.superclasses cellB.cls).any fun k => (declaredIn s.vm r.name r.desc k).any fun (_, z) => z.isPrivate || z.isStatic) = false := by
    rw [hnameR, hdescR]; exact Cond.unhidden_spec hcls hunh
  obtain ⟨c3, t3, w1, w2, w3⟩ := Cond.castable_spec hcast
  cases hcls.symm.trans w1
  cases hcL.symm.trans w2
  obtain ⟨vm₁, X₁, hstep₁⟩ := X.invokeinterface hexec hown hlink hn hrm hstR (by rw [hr0cls]; exact hkL) hiL hx (a := b) (cell := cellB) (kcell := kB) hcell
    (fun z h => by rw [h] at hobj; cases hobj) hkB (by rw [hr0cls]; exact w3) hselP hmethM hway hpubM habM (g := g) hg (argsL := argsL) (rest := rest) (hlen _ hsigR) hstack hdg
  rcases hK m meth c ⟨T.setVm vm₁, locs, cells, slots⟩ { g with stack := rest } (.invokeinterface index count) mk (Value.ref b :: argsL).toArray X₁ hg hsize hdg hW (X₁.named hnamed) (hpre vm₁ X₁.warmed) with ⟨v, B, X', hpost, hsteps⟩ | ⟨q, B, X', hpost, hsteps⟩
  · exact Or.inl ⟨v, vm₁, B, X₁.warmed, X', hpost, fun target h => hstep₁ _ fun acts => by rw [doInvoke_state]; exact hsteps.trans h⟩
  · exact Or.inr ⟨q, vm₁, B, X₁.warmed, X', hpost, hstep₁ _ fun acts => by rw [doInvoke_state]; exact hsteps⟩
theorem vx_runF {x y : MethodName} {bytes cc : ByteArray} {maxL nL mc ms n index count : Nat} {ret : Option FieldType} {ws : List Cond} {rm : Room} {Pc : Array Value → State → Prop} {Qc : Array Value → State → Outcome → State → Prop} {XC : String → State → State → Prop} {free : Addr → Prop} {Ts : List Cond} {own C : String} {cC : ClassId} {b : Addr} {As rest : List Value} {g : JFrame}
    (hat : ClassAt s C cC) (S : CallFix p m c cc nL s args Ts own) (hM : vx_Met l y ws rm Pc Qc XC mc ms free) (cw : va_CI R s args own C index x y bytes maxL ret ws rm mc ms n) (hp : PreV s H C b Pc As)
    (hg : g.method = m) (hn : As.length = n) (hsize : g.locals.size = nL) (hstack : g.stack = As.reverse ++ .ref b :: rest) (hW : 2 * g.monitorRoom + (rest.map fun v => v.category).sum ≤ 8) (hdg : decode cc g.pc = .ok (.invokeinterface index count, 5)) (hf : cells + mc ≤ R.cells ∧ slots + ms ≤ R.slots) :
    vx_Run5 p l e R s m args below meth c H locs cells slots mc ms g rest (Qc (Value.ref b :: As).toArray) XC free := by
  obtain ⟨hrc, hrs, hfr, hlo, hws, hcw⟩ := cw.back
  have hini := cw.init
  have hK : vx_Back l R p e below s args y 5 8 (PreOf R mc ms Pc) (PostOf Qc mc ms free) (vx_Post XC mc ms free) := vx_back (bytes := bytes) (maxL := maxL) (ret := ret) hM hp.1 hrc hrs hfr hlo hws hcw (fun a' U hW => word_at hW (Or.inl (by first | rfl | simp [Cond.onTables, Cond.keeps, Cond.steady])) hini)
  obtain ⟨hx, hb, hml, ho, -⟩ := S
  obtain ⟨-, ⟨cellB, hcB, hoB, hclB⟩, hPc⟩ := hp
  obtain ⟨hfc, kB, hkB, -⟩ := hat
  cases hfc.symm.trans hclB
  intro T hT X
  rcases vx_callIF X hx (C := C) (bytes := bytes) (maxL := maxL) (ret := ret) ho cw.link cw.decl cw.face cw.sel cw.inst cw.pub cw.unh cw.cast cw.code cw.notMH hK (by rw [hT]; exact hcB) hoB hclB hkB hg (hsize.trans hml.symm) (argsL := As) (rest := rest) (fun sig h => hn.trans (cw.len sig h)) hstack hW (by rw [hb]; exact hdg)
    (fun vm₁ hW₁ => ⟨hf.1, hf.2, hPc (T.setVm vm₁) hT hW₁⟩) with ⟨v, vm₁, ⟨U', l2, c2, s2⟩, hW₁, X', ⟨g', mk, t, L, e1, e2, hq, h1, hL, h2, h3⟩, st⟩ | ⟨q, vm₁, ⟨U', l2, c2, s2⟩, hW₁, X', ⟨g', mk, t, L, E, ce, e1, e2, hq, hce, hcv, hcl, h1, hL, h2, h3⟩, st⟩
  · dsimp only [Pt.U, Pt.locs, Pt.cells, Pt.slots] at X' e1 e2 h1 h2 h3 st
    subst h1; subst h2; subst h3
    exact Or.inl ⟨v, (T.setVm vm₁).calling g' mk (Value.ref b :: As).toArray, t, U', L, hT, X', hL, e1, e2, hq, st⟩
  · dsimp only [Pt.U, Pt.locs, Pt.cells, Pt.slots] at X' e1 e2 h1 h2 h3 st hcl
    subst h1; subst h2; subst h3
    exact Or.inr ⟨q, (T.setVm vm₁).calling g' mk (Value.ref b :: As).toArray, t, U', L, E, ce, hT, X', hL, e1, e2, hq, hce, hcv, vx_cls hW₁ hcl, st⟩
theorem vx_callFv {S SX : Type} {post : S → Prop} {px : SX → Prop} {B : S → State → Prop} {BX : String → SX → State → Prop} {AX : Nat → Prop} (hr : vx_Run5 p l e R s m args below meth c H locs cells slots mc ms (F0 m pc ls st0) rest (va_Qv post B A1 a) (vx_X px BX AX) free) (hS : va_S A0 H0 H locs) (hA : ∀ q, q < H.size → A1 q → A0 q) (hf : ∀ q, free q → A0 q) (hAX : ∀ q, q < H.size → AX q → A0 q)
    (kx : ∀ (E : String) (ce : Cell) (q9 : Addr) (u : SX) (t : State) (H1 : Heap) (locs1 : List Loc), t.heap = H1 → s.vm.Alike t.vm → px u → BX E u t → H.size ≤ H1.size → (∀ q : Nat, q < H.size → ¬ AX q → H1[q]? = H[q]?) → va_S A0 H0 H1 locs1 → H1[q9]? = some ce → ce.vm = .none → s.vm.findClass E = some ce.cls → vx_W p l e R s m args below meth c H1 locs1 (cells + mc) (slots + ms) Q (F0 m pc ls rest) q9)
    (kk : ∀ (u : S) (t : State) (H1 : Heap) (locs1 : List Loc), t.heap = H1 → s.vm.Alike t.vm → post u → B u t → H.size ≤ H1.size → (∀ q : Nat, q < H.size → ¬ A1 q → H1[q]? = H[q]?) → va_S A0 H0 H1 locs1 → W p l e R s m args below meth c H1 locs1 (cells + mc) (slots + ms) Q (F0 m (pc + 5) ls (rest))) : W p l e R s m args below meth c H locs cells slots Q (F0 m pc ls st0) := by
  intro T hT X
  rcases hr T hT X with ⟨v, st₀, t, T', L, h0, X', hL, e1, e2, ⟨⟨u, hv, hp, hb⟩, hF⟩, st⟩ | ⟨q, st₀, t, T', L, E, ce, h0, X', hL, e1, e2, ⟨u, hp, hb, hF⟩, hce, hcv, hcl, st⟩
  · cases hv
    obtain ⟨k1, k2, k3⟩ := vx_keep h0 e1 hS hA hf hL hF
    obtain ⟨t2, a1, b1⟩ := kk u t T'.heap (locs ++ L) e1.symm (by rw [← e2]; exact X'.warmed.alike) hp hb k1 k2 k3 T' rfl X'
    exact ⟨t2, st t2 a1, b1⟩
  · obtain ⟨k1, k2, k3⟩ := vx_keep h0 e1 hS hAX hf hL hF
    obtain ⟨t2, a1, b1⟩ := kx E ce q u t T'.heap (locs ++ L) e1.symm (by rw [← e2]; exact X'.warmed.alike) hp hb k1 k2 k3 (by rw [e1]; exact hce) hcv hcl T' rfl X'
    exact ⟨t2, st.trans a1, b1⟩
theorem vx_callFi {S SX : Type} {post : Int32 → S → Prop} {px : SX → Prop} {B : S → State → Prop} {BX : String → SX → State → Prop} {AX : Nat → Prop} (hr : vx_Run5 p l e R s m args below meth c H locs cells slots mc ms (F0 m pc ls st0) rest (va_Qi post B A1 a) (vx_X px BX AX) free) (hS : va_S A0 H0 H locs) (hA : ∀ q, q < H.size → A1 q → A0 q) (hf : ∀ q, free q → A0 q) (hAX : ∀ q, q < H.size → AX q → A0 q)
    (kx : ∀ (E : String) (ce : Cell) (q9 : Addr) (u : SX) (t : State) (H1 : Heap) (locs1 : List Loc), t.heap = H1 → s.vm.Alike t.vm → px u → BX E u t → H.size ≤ H1.size → (∀ q : Nat, q < H.size → ¬ AX q → H1[q]? = H[q]?) → va_S A0 H0 H1 locs1 → H1[q9]? = some ce → ce.vm = .none → s.vm.findClass E = some ce.cls → vx_W p l e R s m args below meth c H1 locs1 (cells + mc) (slots + ms) Q (F0 m pc ls rest) q9)
    (kk : ∀ (r : Int32) (u : S) (t : State) (H1 : Heap) (locs1 : List Loc), t.heap = H1 → s.vm.Alike t.vm → post r u → B u t → H.size ≤ H1.size → (∀ q : Nat, q < H.size → ¬ A1 q → H1[q]? = H[q]?) → va_S A0 H0 H1 locs1 → W p l e R s m args below meth c H1 locs1 (cells + mc) (slots + ms) Q (F0 m (pc + 5) ls (.int r :: rest))) : W p l e R s m args below meth c H locs cells slots Q (F0 m pc ls st0) := by
  intro T hT X
  rcases hr T hT X with ⟨v, st₀, t, T', L, h0, X', hL, e1, e2, ⟨⟨r, u, hv, hp, hb⟩, hF⟩, st⟩ | ⟨q, st₀, t, T', L, E, ce, h0, X', hL, e1, e2, ⟨u, hp, hb, hF⟩, hce, hcv, hcl, st⟩
  · cases hv
    obtain ⟨k1, k2, k3⟩ := vx_keep h0 e1 hS hA hf hL hF
    obtain ⟨t2, a1, b1⟩ := kk r u t T'.heap (locs ++ L) e1.symm (by rw [← e2]; exact X'.warmed.alike) hp hb k1 k2 k3 T' rfl X'
    exact ⟨t2, st t2 a1, b1⟩
  · obtain ⟨k1, k2, k3⟩ := vx_keep h0 e1 hS hAX hf hL hF
    obtain ⟨t2, a1, b1⟩ := kx E ce q u t T'.heap (locs ++ L) e1.symm (by rw [← e2]; exact X'.warmed.alike) hp hb k1 k2 k3 (by rw [e1]; exact hce) hcv hcl T' rfl X'
    exact ⟨t2, st.trans a1, b1⟩
theorem vx_callFl {S SX : Type} {post : Int64 → S → Prop} {px : SX → Prop} {B : S → State → Prop} {BX : String → SX → State → Prop} {AX : Nat → Prop} (hr : vx_Run5 p l e R s m args below meth c H locs cells slots mc ms (F0 m pc ls st0) rest (va_Ql post B A1 a) (vx_X px BX AX) free) (hS : va_S A0 H0 H locs) (hA : ∀ q, q < H.size → A1 q → A0 q) (hf : ∀ q, free q → A0 q) (hAX : ∀ q, q < H.size → AX q → A0 q)
    (kx : ∀ (E : String) (ce : Cell) (q9 : Addr) (u : SX) (t : State) (H1 : Heap) (locs1 : List Loc), t.heap = H1 → s.vm.Alike t.vm → px u → BX E u t → H.size ≤ H1.size → (∀ q : Nat, q < H.size → ¬ AX q → H1[q]? = H[q]?) → va_S A0 H0 H1 locs1 → H1[q9]? = some ce → ce.vm = .none → s.vm.findClass E = some ce.cls → vx_W p l e R s m args below meth c H1 locs1 (cells + mc) (slots + ms) Q (F0 m pc ls rest) q9)
    (kk : ∀ (r : Int64) (u : S) (t : State) (H1 : Heap) (locs1 : List Loc), t.heap = H1 → s.vm.Alike t.vm → post r u → B u t → H.size ≤ H1.size → (∀ q : Nat, q < H.size → ¬ A1 q → H1[q]? = H[q]?) → va_S A0 H0 H1 locs1 → W p l e R s m args below meth c H1 locs1 (cells + mc) (slots + ms) Q (F0 m (pc + 5) ls (.long r :: rest))) : W p l e R s m args below meth c H locs cells slots Q (F0 m pc ls st0) := by
  intro T hT X
  rcases hr T hT X with ⟨v, st₀, t, T', L, h0, X', hL, e1, e2, ⟨⟨r, u, hv, hp, hb⟩, hF⟩, st⟩ | ⟨q, st₀, t, T', L, E, ce, h0, X', hL, e1, e2, ⟨u, hp, hb, hF⟩, hce, hcv, hcl, st⟩
  · cases hv
    obtain ⟨k1, k2, k3⟩ := vx_keep h0 e1 hS hA hf hL hF
    obtain ⟨t2, a1, b1⟩ := kk r u t T'.heap (locs ++ L) e1.symm (by rw [← e2]; exact X'.warmed.alike) hp hb k1 k2 k3 T' rfl X'
    exact ⟨t2, st t2 a1, b1⟩
  · obtain ⟨k1, k2, k3⟩ := vx_keep h0 e1 hS hAX hf hL hF
    obtain ⟨t2, a1, b1⟩ := kx E ce q u t T'.heap (locs ++ L) e1.symm (by rw [← e2]; exact X'.warmed.alike) hp hb k1 k2 k3 (by rw [e1]; exact hce) hcv hcl T' rfl X'
    exact ⟨t2, st.trans a1, b1⟩
theorem vx_callFf {S SX : Type} {post : UInt32 → S → Prop} {px : SX → Prop} {B : S → State → Prop} {BX : String → SX → State → Prop} {AX : Nat → Prop} (hr : vx_Run5 p l e R s m args below meth c H locs cells slots mc ms (F0 m pc ls st0) rest (va_Qf post B A1 a) (vx_X px BX AX) free) (hS : va_S A0 H0 H locs) (hA : ∀ q, q < H.size → A1 q → A0 q) (hf : ∀ q, free q → A0 q) (hAX : ∀ q, q < H.size → AX q → A0 q)
    (kx : ∀ (E : String) (ce : Cell) (q9 : Addr) (u : SX) (t : State) (H1 : Heap) (locs1 : List Loc), t.heap = H1 → s.vm.Alike t.vm → px u → BX E u t → H.size ≤ H1.size → (∀ q : Nat, q < H.size → ¬ AX q → H1[q]? = H[q]?) → va_S A0 H0 H1 locs1 → H1[q9]? = some ce → ce.vm = .none → s.vm.findClass E = some ce.cls → vx_W p l e R s m args below meth c H1 locs1 (cells + mc) (slots + ms) Q (F0 m pc ls rest) q9)
    (kk : ∀ (r : UInt32) (u : S) (t : State) (H1 : Heap) (locs1 : List Loc), t.heap = H1 → s.vm.Alike t.vm → post r u → B u t → H.size ≤ H1.size → (∀ q : Nat, q < H.size → ¬ A1 q → H1[q]? = H[q]?) → va_S A0 H0 H1 locs1 → W p l e R s m args below meth c H1 locs1 (cells + mc) (slots + ms) Q (F0 m (pc + 5) ls (.float r :: rest))) : W p l e R s m args below meth c H locs cells slots Q (F0 m pc ls st0) := by
  intro T hT X
  rcases hr T hT X with ⟨v, st₀, t, T', L, h0, X', hL, e1, e2, ⟨⟨r, u, hv, hp, hb⟩, hF⟩, st⟩ | ⟨q, st₀, t, T', L, E, ce, h0, X', hL, e1, e2, ⟨u, hp, hb, hF⟩, hce, hcv, hcl, st⟩
  · cases hv
    obtain ⟨k1, k2, k3⟩ := vx_keep h0 e1 hS hA hf hL hF
    obtain ⟨t2, a1, b1⟩ := kk r u t T'.heap (locs ++ L) e1.symm (by rw [← e2]; exact X'.warmed.alike) hp hb k1 k2 k3 T' rfl X'
    exact ⟨t2, st t2 a1, b1⟩
  · obtain ⟨k1, k2, k3⟩ := vx_keep h0 e1 hS hAX hf hL hF
    obtain ⟨t2, a1, b1⟩ := kx E ce q u t T'.heap (locs ++ L) e1.symm (by rw [← e2]; exact X'.warmed.alike) hp hb k1 k2 k3 (by rw [e1]; exact hce) hcv hcl T' rfl X'
    exact ⟨t2, st.trans a1, b1⟩
theorem vx_callFd {S SX : Type} {post : UInt64 → S → Prop} {px : SX → Prop} {B : S → State → Prop} {BX : String → SX → State → Prop} {AX : Nat → Prop} (hr : vx_Run5 p l e R s m args below meth c H locs cells slots mc ms (F0 m pc ls st0) rest (va_Qd post B A1 a) (vx_X px BX AX) free) (hS : va_S A0 H0 H locs) (hA : ∀ q, q < H.size → A1 q → A0 q) (hf : ∀ q, free q → A0 q) (hAX : ∀ q, q < H.size → AX q → A0 q)
    (kx : ∀ (E : String) (ce : Cell) (q9 : Addr) (u : SX) (t : State) (H1 : Heap) (locs1 : List Loc), t.heap = H1 → s.vm.Alike t.vm → px u → BX E u t → H.size ≤ H1.size → (∀ q : Nat, q < H.size → ¬ AX q → H1[q]? = H[q]?) → va_S A0 H0 H1 locs1 → H1[q9]? = some ce → ce.vm = .none → s.vm.findClass E = some ce.cls → vx_W p l e R s m args below meth c H1 locs1 (cells + mc) (slots + ms) Q (F0 m pc ls rest) q9)
    (kk : ∀ (r : UInt64) (u : S) (t : State) (H1 : Heap) (locs1 : List Loc), t.heap = H1 → s.vm.Alike t.vm → post r u → B u t → H.size ≤ H1.size → (∀ q : Nat, q < H.size → ¬ A1 q → H1[q]? = H[q]?) → va_S A0 H0 H1 locs1 → W p l e R s m args below meth c H1 locs1 (cells + mc) (slots + ms) Q (F0 m (pc + 5) ls (.double r :: rest))) : W p l e R s m args below meth c H locs cells slots Q (F0 m pc ls st0) := by
  intro T hT X
  rcases hr T hT X with ⟨v, st₀, t, T', L, h0, X', hL, e1, e2, ⟨⟨r, u, hv, hp, hb⟩, hF⟩, st⟩ | ⟨q, st₀, t, T', L, E, ce, h0, X', hL, e1, e2, ⟨u, hp, hb, hF⟩, hce, hcv, hcl, st⟩
  · cases hv
    obtain ⟨k1, k2, k3⟩ := vx_keep h0 e1 hS hA hf hL hF
    obtain ⟨t2, a1, b1⟩ := kk r u t T'.heap (locs ++ L) e1.symm (by rw [← e2]; exact X'.warmed.alike) hp hb k1 k2 k3 T' rfl X'
    exact ⟨t2, st t2 a1, b1⟩
  · obtain ⟨k1, k2, k3⟩ := vx_keep h0 e1 hS hAX hf hL hF
    obtain ⟨t2, a1, b1⟩ := kx E ce q u t T'.heap (locs ++ L) e1.symm (by rw [← e2]; exact X'.warmed.alike) hp hb k1 k2 k3 (by rw [e1]; exact hce) hcv hcl T' rfl X'
    exact ⟨t2, st.trans a1, b1⟩
end
/-! ===== END ===== -/
/-! ===== BEGIN by an interface, a method with a table of its own that may throw (follows va_callIFW, va_runFW) ===== -/
section
variable {p : Program} {l : Launch} {e : Env} {R : Room} {s : State} {m : MethodId} {args : Array Value} {below : List Frame} {meth : Method} {c : Code} {H : Heap} {locs : List Loc} {cells slots : Nat}
theorem vx_callIFW {T : State} (X : Stand p l e R s m args below meth c T locs cells slots) (hexec : p.tables.exec = Jvm.exec) {own C : String} {index count : Nat} {x y : MethodName} {bytes : ByteArray} {maxL : Nat} {ret : Option FieldType} {hh : List (Nat × Nat × Nat × Nat)}
    (hown : s.vm.findClass own = some m.cls) (hlink : (Cond.methodLink own index x).before args s = true) (hdecl : (Cond.declares x).before args s = true) (hface : (Cond.interfaceMethod x.cls x.cls x.name x.desc).before args s = true)
    (hsel : (Cond.selects C x y).before args s = true) (hinst : (Cond.instanceMethod y).before args s = true) (hpub : (Cond.publicMethod y).before args s = true) (hunh : (Cond.unhidden C x.name x.desc).before args s = true)
    (hcast : (Cond.castable C x.cls).before args s = true) (hcode : (Cond.codeWith y bytes maxL ret hh).before args s = true) (hx : x.cls ≠ "java/lang/invoke/MethodHandle" ∧ x.cls ≠ "java/lang/invoke/VarHandle")
    {W : Nat} {Pre : Pt → Array Value → Prop} {Post : Pt → Array Value → Option Value → Pt → Prop} {PostX : Pt → Array Value → Addr → Pt → Prop} (hK : vx_Back l R p e below s args y 5 W Pre Post PostX)
    {b : Addr} {cellB : Cell} {kB : Class} (hcell : T.heap[b]? = some cellB) (hobj : cellB.vm.isStatics = false) (hcls : s.vm.findClass C = some cellB.cls) (hkB : s.vm.classes[cellB.cls]? = some kB)
    {g : JFrame} (hg : g.method = m) (hsize : g.locals.size = c.maxLocals) {argsL rest : List Value} (hlen : ∀ sig, parseMethodDescriptor x.desc = some sig → argsL.length = sig.parameters.length)
    (hstack : g.stack = argsL.reverse ++ .ref b :: rest) (hW : 2 * g.monitorRoom + (rest.map fun v => v.category).sum ≤ W) (hdg : decode c.code g.pc = .ok (.invokeinterface index count, 5))
    (hpre : ∀ vm₁, s.WarmedH vm₁ → Pre ⟨T.setVm vm₁, locs, cells, slots⟩ (Value.ref b :: argsL).toArray) :
    (∃ (v : Option Value) (vm₁ : Vm) (B : Pt), s.WarmedH vm₁ ∧ Stand p l e R s m args below meth c B.U B.locs B.cells B.slots ∧ Post ⟨T.setVm vm₁, locs, cells, slots⟩ (Value.ref b :: argsL).toArray v B ∧
      ∀ target, Steps p.tables e below (B.U.setTop { g with pc := g.pc + 5, stack := v.toList ++ rest }) target → Steps p.tables e below (T.setTop g) target) ∨
    (∃ (q : Addr) (vm₁ : Vm) (B : Pt), s.WarmedH vm₁ ∧ Stand p l e R s m args below meth c B.U B.locs B.cells B.slots ∧ PostX ⟨T.setVm vm₁, locs, cells, slots⟩ (Value.ref b :: argsL).toArray q B ∧
      Steps p.tables e below (T.setTop g) ((B.U.setTop { g with stack := rest }).pushFrame (.throwing q))) := by
  obtain ⟨r0, r, hn, hrm, hstR, hsigR⟩ := Cond.declares_spec hdecl
  obtain ⟨cL, kL, r1, hcL, hkL, hiL, hfoundL, hn1⟩ := Cond.interfaceMethod_spec hface
  cases hn.symm.trans hn1
  have hr0cls : r0.cls = cL := Option.some.inj ((findClass_of_methodNamed hn).symm.trans hcL)
  obtain ⟨hnameR, hdescR⟩ := name_of_methodNamed hn hrm
  obtain ⟨mk, methM, hnamed, hmethM, -, habM⟩ := Cond.instanceMethod_spec hinst
  obtain ⟨c2, r2, m2, q1, q2, q3, q4, -⟩ := Cond.selects_spec hsel
  cases hcls.symm.trans q1
  cases hfoundL.symm.trans q2
  cases hnamed.symm.trans q3
  have hselP : selectMethod e.platform s.vm cellB.cls r0 = .method mk := by rw [Launch.admits_selectMethod X.admits]; exact q4
  have hpubM : hasFlag methM.accessFlags Acc.public_ = true := Cond.publicMethod_spec hnamed hmethM hpub
  have hway : ((cellB.cls :: s.vm.superclasses cellB.cls).any fun k => (declaredIn s.vm r.name r.desc k).any fun (_, z) => z.isPrivate || z.isStatic) = false := by
    rw [hnameR, hdescR]; exact Cond.unhidden_spec hcls hunh
  obtain ⟨c3, t3, w1, w2, w3⟩ := Cond.castable_spec hcast
  cases hcls.symm.trans w1
  cases hcL.symm.trans w2
  obtain ⟨vm₁, X₁, hstep₁⟩ := X.invokeinterface hexec hown hlink hn hrm hstR (by rw [hr0cls]; exact hkL) hiL hx (a := b) (cell := cellB) (kcell := kB) hcell
    (fun z h => by rw [h] at hobj; cases hobj) hkB (by rw [hr0cls]; exact w3) hselP hmethM hway hpubM habM (g := g) hg (argsL := argsL) (rest := rest) (hlen _ hsigR) hstack hdg
  rcases hK m meth c ⟨T.setVm vm₁, locs, cells, slots⟩ { g with stack := rest } (.invokeinterface index count) mk (Value.ref b :: argsL).toArray X₁ hg hsize hdg hW (X₁.named hnamed) (hpre vm₁ X₁.warmed) with ⟨v, B, X', hpost, hsteps⟩ | ⟨q, B, X', hpost, hsteps⟩
  · exact Or.inl ⟨v, vm₁, B, X₁.warmed, X', hpost, fun target h => hstep₁ _ fun acts => by rw [doInvoke_state]; exact hsteps.trans h⟩
  · exact Or.inr ⟨q, vm₁, B, X₁.warmed, X', hpost, hstep₁ _ fun acts => by rw [doInvoke_state]; exact hsteps⟩
theorem vx_runFW {x y : MethodName} {bytes cc : ByteArray} {maxL nL mc ms n index count : Nat} {ret : Option FieldType} {hh : List (Nat × Nat × Nat × Nat)} {ws : List Cond} {rm : Room} {Pc : Array Value → State → Prop} {Qc : Array Value → State → Outcome → State → Prop} {XC : String → State → State → Prop} {free : Addr → Prop} {Ts : List Cond} {own C : String} {cC : ClassId} {b : Addr} {As rest : List Value} {g : JFrame}
    (hat : ClassAt s C cC) (S : CallFix p m c cc nL s args Ts own) (hM : vx_Met l y ws rm Pc Qc XC mc ms free) (cw : va_CIW R s args own C index x y bytes maxL ret hh ws rm mc ms n) (hp : PreV s H C b Pc As)
    (hg : g.method = m) (hn : As.length = n) (hsize : g.locals.size = nL) (hstack : g.stack = As.reverse ++ .ref b :: rest) (hW : 2 * g.monitorRoom + (rest.map fun v => v.category).sum ≤ 8) (hdg : decode cc g.pc = .ok (.invokeinterface index count, 5)) (hf : cells + mc ≤ R.cells ∧ slots + ms ≤ R.slots) :
    vx_Run5 p l e R s m args below meth c H locs cells slots mc ms g rest (Qc (Value.ref b :: As).toArray) XC free := by
  obtain ⟨hrc, hrs, hfr, hlo, hws, hcw⟩ := cw.back
  have hini := cw.init
  have hK : vx_Back l R p e below s args y 5 8 (PreOf R mc ms Pc) (PostOf Qc mc ms free) (vx_Post XC mc ms free) := vx_backW (hh := hh) (bytes := bytes) (maxL := maxL) (ret := ret) hM hp.1 hrc hrs hfr hlo hws hcw (fun a' U hW => word_at hW (Or.inl (by first | rfl | simp [Cond.onTables, Cond.keeps, Cond.steady])) hini)
  obtain ⟨hx, hb, hml, ho, -⟩ := S
  obtain ⟨-, ⟨cellB, hcB, hoB, hclB⟩, hPc⟩ := hp
  obtain ⟨hfc, kB, hkB, -⟩ := hat
  cases hfc.symm.trans hclB
  intro T hT X
  rcases vx_callIFW X hx (C := C) (hh := hh) (bytes := bytes) (maxL := maxL) (ret := ret) ho cw.link cw.decl cw.face cw.sel cw.inst cw.pub cw.unh cw.cast cw.code cw.notMH hK (by rw [hT]; exact hcB) hoB hclB hkB hg (hsize.trans hml.symm) (argsL := As) (rest := rest) (fun sig h => hn.trans (cw.len sig h)) hstack hW (by rw [hb]; exact hdg)
    (fun vm₁ hW₁ => ⟨hf.1, hf.2, hPc (T.setVm vm₁) hT hW₁⟩) with ⟨v, vm₁, ⟨U', l2, c2, s2⟩, hW₁, X', ⟨g', mk, t, L, e1, e2, hq, h1, hL, h2, h3⟩, st⟩ | ⟨q, vm₁, ⟨U', l2, c2, s2⟩, hW₁, X', ⟨g', mk, t, L, E, ce, e1, e2, hq, hce, hcv, hcl, h1, hL, h2, h3⟩, st⟩
  · dsimp only [Pt.U, Pt.locs, Pt.cells, Pt.slots] at X' e1 e2 h1 h2 h3 st
    subst h1; subst h2; subst h3
    exact Or.inl ⟨v, (T.setVm vm₁).calling g' mk (Value.ref b :: As).toArray, t, U', L, hT, X', hL, e1, e2, hq, st⟩
  · dsimp only [Pt.U, Pt.locs, Pt.cells, Pt.slots] at X' e1 e2 h1 h2 h3 st hcl
    subst h1; subst h2; subst h3
    exact Or.inr ⟨q, (T.setVm vm₁).calling g' mk (Value.ref b :: As).toArray, t, U', L, E, ce, hT, X', hL, e1, e2, hq, hce, hcv, vx_cls hW₁ hcl, st⟩
end
/-! ===== END ===== -/
/-! ===== BEGIN .. of methods that hand back an object of the pool ===== -/
section
variable {p : Program} {l : Launch} {e : Env} {R : Room} {s : State} {m : MethodId} {args : Array Value} {below : List Frame} {meth : Method} {c : Code} {H : Heap} {locs : List Loc} {cells slots : Nat} {Q : State → Prop}
variable {mc ms : Nat} {free : Addr → Prop} {A0 A1 : Nat → Prop} {H0 : Heap} {a : Array Value} {pc : Nat} {ls : Array Slot} {st0 rest : List Value}
theorem vx_callq {S SX : Type} {post : Option Nat → S → Prop} {px : SX → Prop} {B : S → State → Prop} {BX : String → SX → State → Prop} {AX : Nat → Prop} (hr : vx_Run p l e R s m args below meth c H locs cells slots mc ms (F0 m pc ls st0) rest (va_Qq post B A1 a) (vx_X px BX AX) free) (hS : va_S A0 H0 H locs) (hA : ∀ q, q < H.size → A1 q → A0 q) (hf : ∀ q, free q → A0 q) (hAX : ∀ q, q < H.size → AX q → A0 q)
    (kx : ∀ (E : String) (ce : Cell) (q9 : Addr) (u : SX) (t : State) (H1 : Heap) (locs1 : List Loc), t.heap = H1 → s.vm.Alike t.vm → px u → BX E u t → H.size ≤ H1.size → (∀ q : Nat, q < H.size → ¬ AX q → H1[q]? = H[q]?) → va_S A0 H0 H1 locs1 → H1[q9]? = some ce → ce.vm = .none → s.vm.findClass E = some ce.cls → vx_W p l e R s m args below meth c H1 locs1 (cells + mc) (slots + ms) Q (F0 m pc ls rest) q9)
    (kk : ∀ (r : Option Nat) (u : S) (t : State) (H1 : Heap) (locs1 : List Loc), t.heap = H1 → s.vm.Alike t.vm → post r u → B u t → H.size ≤ H1.size → (∀ q : Nat, q < H.size → ¬ A1 q → H1[q]? = H[q]?) → va_S A0 H0 H1 locs1 → W p l e R s m args below meth c H1 locs1 (cells + mc) (slots + ms) Q (F0 m (pc + 3) ls (va_rf r :: rest))) : W p l e R s m args below meth c H locs cells slots Q (F0 m pc ls st0) := by
  intro T hT X
  rcases hr T hT X with ⟨v, st₀, t, T', L, h0, X', hL, e1, e2, ⟨⟨r, u, hv, hp, hb⟩, hF⟩, st⟩ | ⟨q, st₀, t, T', L, E, ce, h0, X', hL, e1, e2, ⟨u, hp, hb, hF⟩, hce, hcv, hcl, st⟩
  · cases hv
    obtain ⟨k1, k2, k3⟩ := vx_keep h0 e1 hS hA hf hL hF
    obtain ⟨t2, a1, b1⟩ := kk r u t T'.heap (locs ++ L) e1.symm (by rw [← e2]; exact X'.warmed.alike) hp hb k1 k2 k3 T' rfl X'
    exact ⟨t2, st t2 a1, b1⟩
  · obtain ⟨k1, k2, k3⟩ := vx_keep h0 e1 hS hAX hf hL hF
    obtain ⟨t2, a1, b1⟩ := kx E ce q u t T'.heap (locs ++ L) e1.symm (by rw [← e2]; exact X'.warmed.alike) hp hb k1 k2 k3 (by rw [e1]; exact hce) hcv hcl T' rfl X'
    exact ⟨t2, st.trans a1, b1⟩
end
/-! ===== END ===== -/
/-! ===== BEGIN .. a constant ===== -/
section
variable {p : Program} {l : Launch} {e : Env} {R : Room} {s : State} {m : MethodId} {args : Array Value} {below : List Frame} {meth : Method} {c : Code} {H : Heap} {locs : List Loc} {cells slots : Nat} {Q : State → Prop}
variable {mc ms : Nat} {free : Addr → Prop} {A0 A1 : Nat → Prop} {H0 : Heap} {a : Array Value} {pc : Nat} {ls : Array Slot} {st0 rest : List Value}
theorem vx_calle {ad : Nat → Nat} {S SX : Type} {post : Option Nat → S → Prop} {px : SX → Prop} {B : S → State → Prop} {BX : String → SX → State → Prop} {AX : Nat → Prop} (hr : vx_Run p l e R s m args below meth c H locs cells slots mc ms (F0 m pc ls st0) rest (va_Qe ad post B A1 a) (vx_X px BX AX) free) (hS : va_S A0 H0 H locs) (hA : ∀ q, q < H.size → A1 q → A0 q) (hf : ∀ q, free q → A0 q) (hAX : ∀ q, q < H.size → AX q → A0 q)
    (kx : ∀ (E : String) (ce : Cell) (q9 : Addr) (u : SX) (t : State) (H1 : Heap) (locs1 : List Loc), t.heap = H1 → s.vm.Alike t.vm → px u → BX E u t → H.size ≤ H1.size → (∀ q : Nat, q < H.size → ¬ AX q → H1[q]? = H[q]?) → va_S A0 H0 H1 locs1 → H1[q9]? = some ce → ce.vm = .none → s.vm.findClass E = some ce.cls → vx_W p l e R s m args below meth c H1 locs1 (cells + mc) (slots + ms) Q (F0 m pc ls rest) q9)
    (kk : ∀ (r : Option Nat) (u : S) (t : State) (H1 : Heap) (locs1 : List Loc), t.heap = H1 → s.vm.Alike t.vm → post r u → B u t → H.size ≤ H1.size → (∀ q : Nat, q < H.size → ¬ A1 q → H1[q]? = H[q]?) → va_S A0 H0 H1 locs1 → W p l e R s m args below meth c H1 locs1 (cells + mc) (slots + ms) Q (F0 m (pc + 3) ls (va_re ad r :: rest))) : W p l e R s m args below meth c H locs cells slots Q (F0 m pc ls st0) := by
  intro T hT X
  rcases hr T hT X with ⟨v, st₀, t, T', L, h0, X', hL, e1, e2, ⟨⟨r, u, hv, hp, hb⟩, hF⟩, st⟩ | ⟨q, st₀, t, T', L, E, ce, h0, X', hL, e1, e2, ⟨u, hp, hb, hF⟩, hce, hcv, hcl, st⟩
  · cases hv
    obtain ⟨k1, k2, k3⟩ := vx_keep h0 e1 hS hA hf hL hF
    obtain ⟨t2, a1, b1⟩ := kk r u t T'.heap (locs ++ L) e1.symm (by rw [← e2]; exact X'.warmed.alike) hp hb k1 k2 k3 T' rfl X'
    exact ⟨t2, st t2 a1, b1⟩
  · obtain ⟨k1, k2, k3⟩ := vx_keep h0 e1 hS hAX hf hL hF
    obtain ⟨t2, a1, b1⟩ := kx E ce q u t T'.heap (locs ++ L) e1.symm (by rw [← e2]; exact X'.warmed.alike) hp hb k1 k2 k3 (by rw [e1]; exact hce) hcv hcl T' rfl X'
    exact ⟨t2, st.trans a1, b1⟩
end
/-! ===== END ===== -/
/-! ===== BEGIN .. by an interface, an object ===== -/
section
variable {p : Program} {l : Launch} {e : Env} {R : Room} {s : State} {m : MethodId} {args : Array Value} {below : List Frame} {meth : Method} {c : Code} {H : Heap} {locs : List Loc} {cells slots : Nat} {Q : State → Prop}
variable {mc ms : Nat} {free : Addr → Prop} {A0 A1 : Nat → Prop} {H0 : Heap} {a : Array Value} {pc : Nat} {ls : Array Slot} {st0 rest : List Value}
theorem vx_callFq {S SX : Type} {post : Option Nat → S → Prop} {px : SX → Prop} {B : S → State → Prop} {BX : String → SX → State → Prop} {AX : Nat → Prop} (hr : vx_Run5 p l e R s m args below meth c H locs cells slots mc ms (F0 m pc ls st0) rest (va_Qq post B A1 a) (vx_X px BX AX) free) (hS : va_S A0 H0 H locs) (hA : ∀ q, q < H.size → A1 q → A0 q) (hf : ∀ q, free q → A0 q) (hAX : ∀ q, q < H.size → AX q → A0 q)
    (kx : ∀ (E : String) (ce : Cell) (q9 : Addr) (u : SX) (t : State) (H1 : Heap) (locs1 : List Loc), t.heap = H1 → s.vm.Alike t.vm → px u → BX E u t → H.size ≤ H1.size → (∀ q : Nat, q < H.size → ¬ AX q → H1[q]? = H[q]?) → va_S A0 H0 H1 locs1 → H1[q9]? = some ce → ce.vm = .none → s.vm.findClass E = some ce.cls → vx_W p l e R s m args below meth c H1 locs1 (cells + mc) (slots + ms) Q (F0 m pc ls rest) q9)
    (kk : ∀ (r : Option Nat) (u : S) (t : State) (H1 : Heap) (locs1 : List Loc), t.heap = H1 → s.vm.Alike t.vm → post r u → B u t → H.size ≤ H1.size → (∀ q : Nat, q < H.size → ¬ A1 q → H1[q]? = H[q]?) → va_S A0 H0 H1 locs1 → W p l e R s m args below meth c H1 locs1 (cells + mc) (slots + ms) Q (F0 m (pc + 5) ls (va_rf r :: rest))) : W p l e R s m args below meth c H locs cells slots Q (F0 m pc ls st0) := by
  intro T hT X
  rcases hr T hT X with ⟨v, st₀, t, T', L, h0, X', hL, e1, e2, ⟨⟨r, u, hv, hp, hb⟩, hF⟩, st⟩ | ⟨q, st₀, t, T', L, E, ce, h0, X', hL, e1, e2, ⟨u, hp, hb, hF⟩, hce, hcv, hcl, st⟩
  · cases hv
    obtain ⟨k1, k2, k3⟩ := vx_keep h0 e1 hS hA hf hL hF
    obtain ⟨t2, a1, b1⟩ := kk r u t T'.heap (locs ++ L) e1.symm (by rw [← e2]; exact X'.warmed.alike) hp hb k1 k2 k3 T' rfl X'
    exact ⟨t2, st t2 a1, b1⟩
  · obtain ⟨k1, k2, k3⟩ := vx_keep h0 e1 hS hAX hf hL hF
    obtain ⟨t2, a1, b1⟩ := kx E ce q u t T'.heap (locs ++ L) e1.symm (by rw [← e2]; exact X'.warmed.alike) hp hb k1 k2 k3 (by rw [e1]; exact hce) hcv hcl T' rfl X'
    exact ⟨t2, st.trans a1, b1⟩
end
/-! ===== END ===== -/
/-! ===== BEGIN .. by an interface, a constant ===== -/
section
variable {p : Program} {l : Launch} {e : Env} {R : Room} {s : State} {m : MethodId} {args : Array Value} {below : List Frame} {meth : Method} {c : Code} {H : Heap} {locs : List Loc} {cells slots : Nat} {Q : State → Prop}
variable {mc ms : Nat} {free : Addr → Prop} {A0 A1 : Nat → Prop} {H0 : Heap} {a : Array Value} {pc : Nat} {ls : Array Slot} {st0 rest : List Value}
theorem vx_callFe {ad : Nat → Nat} {S SX : Type} {post : Option Nat → S → Prop} {px : SX → Prop} {B : S → State → Prop} {BX : String → SX → State → Prop} {AX : Nat → Prop} (hr : vx_Run5 p l e R s m args below meth c H locs cells slots mc ms (F0 m pc ls st0) rest (va_Qe ad post B A1 a) (vx_X px BX AX) free) (hS : va_S A0 H0 H locs) (hA : ∀ q, q < H.size → A1 q → A0 q) (hf : ∀ q, free q → A0 q) (hAX : ∀ q, q < H.size → AX q → A0 q)
    (kx : ∀ (E : String) (ce : Cell) (q9 : Addr) (u : SX) (t : State) (H1 : Heap) (locs1 : List Loc), t.heap = H1 → s.vm.Alike t.vm → px u → BX E u t → H.size ≤ H1.size → (∀ q : Nat, q < H.size → ¬ AX q → H1[q]? = H[q]?) → va_S A0 H0 H1 locs1 → H1[q9]? = some ce → ce.vm = .none → s.vm.findClass E = some ce.cls → vx_W p l e R s m args below meth c H1 locs1 (cells + mc) (slots + ms) Q (F0 m pc ls rest) q9)
    (kk : ∀ (r : Option Nat) (u : S) (t : State) (H1 : Heap) (locs1 : List Loc), t.heap = H1 → s.vm.Alike t.vm → post r u → B u t → H.size ≤ H1.size → (∀ q : Nat, q < H.size → ¬ A1 q → H1[q]? = H[q]?) → va_S A0 H0 H1 locs1 → W p l e R s m args below meth c H1 locs1 (cells + mc) (slots + ms) Q (F0 m (pc + 5) ls (va_re ad r :: rest))) : W p l e R s m args below meth c H locs cells slots Q (F0 m pc ls st0) := by
  intro T hT X
  rcases hr T hT X with ⟨v, st₀, t, T', L, h0, X', hL, e1, e2, ⟨⟨r, u, hv, hp, hb⟩, hF⟩, st⟩ | ⟨q, st₀, t, T', L, E, ce, h0, X', hL, e1, e2, ⟨u, hp, hb, hF⟩, hce, hcv, hcl, st⟩
  · cases hv
    obtain ⟨k1, k2, k3⟩ := vx_keep h0 e1 hS hA hf hL hF
    obtain ⟨t2, a1, b1⟩ := kk r u t T'.heap (locs ++ L) e1.symm (by rw [← e2]; exact X'.warmed.alike) hp hb k1 k2 k3 T' rfl X'
    exact ⟨t2, st t2 a1, b1⟩
  · obtain ⟨k1, k2, k3⟩ := vx_keep h0 e1 hS hAX hf hL hF
    obtain ⟨t2, a1, b1⟩ := kx E ce q u t T'.heap (locs ++ L) e1.symm (by rw [← e2]; exact X'.warmed.alike) hp hb k1 k2 k3 (by rw [e1]; exact hce) hcv hcl T' rfl X'
    exact ⟨t2, st.trans a1, b1⟩
end
/-! ===== END ===== -/
/-! ===== BEGIN what the machine throws by itself: null at a field, at athrow ===== -/
section VXM2
variable {p : Program} {l : Launch} {e : Env} {R : Room} {s : State} {m : MethodId} {args : Array Value} {below : List Frame} {meth : Method} {c : Code} {H : Heap} {locs : List Loc} {cells slots : Nat}
variable {Q : State → Prop} {cc : ByteArray} {pc : Nat} {ls : Array Slot} {rest : List Value}
theorem vx_getfN {D cl tys} {own ref C : String} {T : u_T} {N ci index : Nat} {Ts : List Cond} (hexec : p.tables.exec = Jvm.exec) (hb : c.code = cc) (hts : ∀ w ∈ Ts, w.before args s = true) (hin : ∀ w ∈ u_ws C T N, w ∈ Ts) (hown : s.vm.findClass own = some m.cls) (hK : va_K D cl tys s) (hc : cl[ci]? = some (C, T, N)) (k : Nat) (hk : k < N) (hlink : (Cond.fieldLink own index ref (T k).2.1 (T k).2.2.1).before args s = true) (hsame : ∀ x, s.fieldFound? (T k).1 (T k).2.1 (T k).2.2.1 = some x → s.fieldFound? ref (T k).2.1 (T k).2.2.1 = some x) (hdg : decode cc pc = .ok (.getfield index, 3)) (kk : vx_NoteN p l e R s m args below meth c H locs cells slots Q (F0 m pc ls rest)) : W p l e R s m args below meth c H locs cells slots Q (F0 m pc ls (.null :: rest)) := by
  obtain ⟨hS, hfc, kC, hkC, -⟩ := hK.1 ci _ hc
  obtain ⟨cf, kf, fi, f, hi, -⟩ := hS k hk
  intro U hU X
  obtain ⟨vm', X1, st1⟩ := X.getfieldNull hexec hown hlink (hsame _ hi) (u_facts hfc hkC (u_lays hts hin hk) hi).1 (g := F0 m pc ls (.null :: rest)) rfl (rest := rest) rfl (by rw [hb]; exact hdg)
  obtain ⟨t, st, q⟩ := kk (U.setVm vm') hU X1
  exact ⟨t, st1 t st, q⟩
theorem vx_getfNN {D cl tys} {own ref C host : String} {T : u_T} {N ci index : Nat} {Ts : List Cond} (hexec : p.tables.exec = Jvm.exec) (hb : c.code = cc) (hts : ∀ w ∈ Ts, w.before args s = true) (hin : ∀ w ∈ u_ws C T N, w ∈ Ts) (hown : s.vm.findClass own = some m.cls) (hK : va_K D cl tys s) (hc : cl[ci]? = some (C, T, N)) (k : Nat) (hk : k < N) (hlink : (Cond.fieldLinkNest own index ref (T k).2.1 (T k).2.2.1 host).before args s = true) (hsame : ∀ x, s.fieldFound? (T k).1 (T k).2.1 (T k).2.2.1 = some x → s.fieldFound? ref (T k).2.1 (T k).2.2.1 = some x) (hdg : decode cc pc = .ok (.getfield index, 3)) (kk : vx_NoteN p l e R s m args below meth c H locs cells slots Q (F0 m pc ls rest)) : W p l e R s m args below meth c H locs cells slots Q (F0 m pc ls (.null :: rest)) := by
  obtain ⟨hS, hfc, kC, hkC, -⟩ := hK.1 ci _ hc
  obtain ⟨cf, kf, fi, f, hi, -⟩ := hS k hk
  intro U hU X
  obtain ⟨vm', X1, st1⟩ := X.getfieldNullNest hexec hown hlink (hsame _ hi) (u_facts hfc hkC (u_lays hts hin hk) hi).1 (g := F0 m pc ls (.null :: rest)) rfl (rest := rest) rfl (by rw [hb]; exact hdg)
  obtain ⟨t, st, q⟩ := kk (U.setVm vm') hU X1
  exact ⟨t, st1 t st, q⟩
theorem vx_putfN {D cl tys} {own ref C : String} {T : u_T} {N ci index : Nat} {Ts : List Cond} (hexec : p.tables.exec = Jvm.exec) (hb : c.code = cc) (hts : ∀ w ∈ Ts, w.before args s = true) (hin : ∀ w ∈ u_ws C T N, w ∈ Ts) (hown : s.vm.findClass own = some m.cls) (hK : va_K D cl tys s) (hc : cl[ci]? = some (C, T, N)) (k : Nat) (hk : k < N) (hlink : (Cond.fieldLink own index ref (T k).2.1 (T k).2.2.1).before args s = true) (hsame : ∀ x, s.fieldFound? (T k).1 (T k).2.1 (T k).2.2.1 = some x → s.fieldFound? ref (T k).2.1 (T k).2.2.1 = some x) (hfin : (T k).2.2.2 = false) {v : Value} (hdg : decode cc pc = .ok (.putfield index, 3)) (kk : vx_NoteN p l e R s m args below meth c H locs cells slots Q (F0 m pc ls rest)) : W p l e R s m args below meth c H locs cells slots Q (F0 m pc ls (v :: .null :: rest)) := by
  obtain ⟨hS, hfc, kC, hkC, -⟩ := hK.1 ci _ hc
  obtain ⟨cf, kf, fi, f, hi, -⟩ := hS k hk
  have hlay := hts _ (hin _ (u_in_lay hk))
  unfold u_lay at hlay
  rw [if_neg (by rw [hfin]; decide)] at hlay
  obtain ⟨c9, k9, cf9, kf9, fi9, f9, -, -, hi9, hst9, hnf9, -⟩ := Cond.lays_spec hlay
  cases hi.symm.trans hi9
  intro U hU X
  obtain ⟨vm', X1, st1⟩ := X.putfieldNull hexec hown hlink (hsame _ hi) hst9 hnf9 (g := F0 m pc ls (v :: .null :: rest)) rfl (v := v) (rest := rest) rfl (by rw [hb]; exact hdg)
  obtain ⟨t, st, q⟩ := kk (U.setVm vm') hU X1
  exact ⟨t, st1 t st, q⟩
theorem vx_putfNN {D cl tys} {own ref C host : String} {T : u_T} {N ci index : Nat} {Ts : List Cond} (hexec : p.tables.exec = Jvm.exec) (hb : c.code = cc) (hts : ∀ w ∈ Ts, w.before args s = true) (hin : ∀ w ∈ u_ws C T N, w ∈ Ts) (hown : s.vm.findClass own = some m.cls) (hK : va_K D cl tys s) (hc : cl[ci]? = some (C, T, N)) (k : Nat) (hk : k < N) (hlink : (Cond.fieldLinkNest own index ref (T k).2.1 (T k).2.2.1 host).before args s = true) (hsame : ∀ x, s.fieldFound? (T k).1 (T k).2.1 (T k).2.2.1 = some x → s.fieldFound? ref (T k).2.1 (T k).2.2.1 = some x) (hfin : (T k).2.2.2 = false) {v : Value} (hdg : decode cc pc = .ok (.putfield index, 3)) (kk : vx_NoteN p l e R s m args below meth c H locs cells slots Q (F0 m pc ls rest)) : W p l e R s m args below meth c H locs cells slots Q (F0 m pc ls (v :: .null :: rest)) := by
  obtain ⟨hS, hfc, kC, hkC, -⟩ := hK.1 ci _ hc
  obtain ⟨cf, kf, fi, f, hi, -⟩ := hS k hk
  have hlay := hts _ (hin _ (u_in_lay hk))
  unfold u_lay at hlay
  rw [if_neg (by rw [hfin]; decide)] at hlay
  obtain ⟨c9, k9, cf9, kf9, fi9, f9, -, -, hi9, hst9, hnf9, -⟩ := Cond.lays_spec hlay
  cases hi.symm.trans hi9
  intro U hU X
  obtain ⟨vm', X1, st1⟩ := X.putfieldNullNest hexec hown hlink (hsame _ hi) hst9 hnf9 (g := F0 m pc ls (v :: .null :: rest)) rfl (v := v) (rest := rest) rfl (by rw [hb]; exact hdg)
  obtain ⟨t, st, q⟩ := kk (U.setVm vm') hU X1
  exact ⟨t, st1 t st, q⟩
theorem vx_athrowN (hexec : p.tables.exec = Jvm.exec) (hb : c.code = cc) (hdg : decode cc pc = .ok (.athrow, 1)) (k : vx_NoteN p l e R s m args below meth c H locs cells slots Q (F0 m pc ls rest)) : W p l e R s m args below meth c H locs cells slots Q (F0 m pc ls (.null :: rest)) := by
  intro T hT X
  obtain ⟨t, st, q⟩ := k T hT X
  exact ⟨t, X.athrowNull hexec (g := F0 m pc ls (.null :: rest)) rfl (rest := rest) rfl (by rw [hb]; exact hdg) t st, q⟩
end VXM2
/-! ===== END ===== -/
end
section
-- ===== PART A: goes FIRST, ahead of the names: the tables' words, and 'selects' of the private methods out of them =====
/-- a private method of a class that the tables say can be made, by its rows of tables_1 -/
def lw_okq (q : MethodName × Nat) : Prop := (q.1.cls ≠ "java/lang/invoke/MethodHandle" ∧ q.1.cls ≠ "java/lang/invoke/VarHandle") ∧ Cond.instantiable q.1.cls q.2 ∈ tables_1 ∧ Cond.privateMethod q.1 ∈ tables_1 ∧ Cond.instanceMethod q.1 ∈ tables_1
theorem lw_p0 : lw_okq (⟨"CuttingRoom$Cloth", "spoilRows", "()V"⟩, 7) := ⟨⟨by decide +kernel, by decide +kernel⟩, List.mem_of_getElem? (i := 31) (by decide +kernel), List.mem_of_getElem? (i := 186) (by decide +kernel), List.mem_of_getElem? (i := 187) (by decide +kernel)⟩
theorem lw_p1 : lw_okq (⟨"CuttingRoom$Cloth", "reversed", "(I)I"⟩, 7) := ⟨⟨by decide +kernel, by decide +kernel⟩, List.mem_of_getElem? (i := 31) (by decide +kernel), List.mem_of_getElem? (i := 193) (by decide +kernel), List.mem_of_getElem? (i := 194) (by decide +kernel)⟩
theorem lw_p2 : lw_okq (⟨"CuttingRoom$Marker", "pieceIn", "(I)LCuttingRoom$Piece;"⟩, 8) := ⟨⟨by decide +kernel, by decide +kernel⟩, List.mem_of_getElem? (i := 67) (by decide +kernel), List.mem_of_getElem? (i := 236) (by decide +kernel), List.mem_of_getElem? (i := 237) (by decide +kernel)⟩
theorem lw_p3 : lw_okq (⟨"CuttingRoom", "shapeNumbered", "(I)LCuttingRoom$Shape;"⟩, 11) := ⟨⟨by decide +kernel, by decide +kernel⟩, List.mem_of_getElem? (i := 23) (by decide +kernel), List.mem_of_getElem? (i := 248) (by decide +kernel), List.mem_of_getElem? (i := 249) (by decide +kernel)⟩
theorem lw_p4 : lw_okq (⟨"CuttingRoom$Marker", "meetsAnew", "(LCuttingRoom$Piece;)Z"⟩, 8) := ⟨⟨by decide +kernel, by decide +kernel⟩, List.mem_of_getElem? (i := 67) (by decide +kernel), List.mem_of_getElem? (i := 260) (by decide +kernel), List.mem_of_getElem? (i := 261) (by decide +kernel)⟩
theorem lw_p5 : lw_okq (⟨"CuttingRoom", "inGarments", "(I)J"⟩, 11) := ⟨⟨by decide +kernel, by decide +kernel⟩, List.mem_of_getElem? (i := 23) (by decide +kernel), List.mem_of_getElem? (i := 265) (by decide +kernel), List.mem_of_getElem? (i := 266) (by decide +kernel)⟩
theorem lw_p6 : lw_okq (⟨"CuttingRoom", "piecesOfPart", "(LCuttingRoom$Style;I)I"⟩, 11) := ⟨⟨by decide +kernel, by decide +kernel⟩, List.mem_of_getElem? (i := 23) (by decide +kernel), List.mem_of_getElem? (i := 269) (by decide +kernel), List.mem_of_getElem? (i := 270) (by decide +kernel)⟩
theorem lw_p7 : lw_okq (⟨"java/lang/Throwable", "fillInStackTrace", "(I)Ljava/lang/Throwable;"⟩, 6) := ⟨⟨by decide +kernel, by decide +kernel⟩, List.mem_of_getElem? (i := 328) (by decide +kernel), List.mem_of_getElem? (i := 326) (by decide +kernel), List.mem_of_getElem? (i := 327) (by decide +kernel)⟩
theorem lw_p8 : lw_okq (⟨"CuttingRoom", "isUnderPiece", "(II)Z"⟩, 11) := ⟨⟨by decide +kernel, by decide +kernel⟩, List.mem_of_getElem? (i := 23) (by decide +kernel), List.mem_of_getElem? (i := 395) (by decide +kernel), List.mem_of_getElem? (i := 396) (by decide +kernel)⟩
theorem lw_p9 : lw_okq (⟨"CuttingRoom", "shapeOrThrow", "(I)LCuttingRoom$Shape;"⟩, 11) := ⟨⟨by decide +kernel, by decide +kernel⟩, List.mem_of_getElem? (i := 23) (by decide +kernel), List.mem_of_getElem? (i := 547) (by decide +kernel), List.mem_of_getElem? (i := 548) (by decide +kernel)⟩
theorem lw_p10 : lw_okq (⟨"CuttingRoom$Shape", "traceAll", "()V"⟩, 11) := ⟨⟨by decide +kernel, by decide +kernel⟩, List.mem_of_getElem? (i := 437) (by decide +kernel), List.mem_of_getElem? (i := 586) (by decide +kernel), List.mem_of_getElem? (i := 587) (by decide +kernel)⟩
theorem lw_p11 : lw_okq (⟨"CuttingRoom$Outline", "turnedRow", "(II)I"⟩, 6) := ⟨⟨by decide +kernel, by decide +kernel⟩, List.mem_of_getElem? (i := 444) (by decide +kernel), List.mem_of_getElem? (i := 597) (by decide +kernel), List.mem_of_getElem? (i := 598) (by decide +kernel)⟩
theorem lw_p12 : lw_okq (⟨"CuttingRoom$Outline", "turnedColumn", "(II)I"⟩, 6) := ⟨⟨by decide +kernel, by decide +kernel⟩, List.mem_of_getElem? (i := 444) (by decide +kernel), List.mem_of_getElem? (i := 601) (by decide +kernel), List.mem_of_getElem? (i := 602) (by decide +kernel)⟩
theorem lw_p13 : lw_okq (⟨"CuttingRoom$Marker", "stripesMeet", "(II)Z"⟩, 8) := ⟨⟨by decide +kernel, by decide +kernel⟩, List.mem_of_getElem? (i := 67) (by decide +kernel), List.mem_of_getElem? (i := 679) (by decide +kernel), List.mem_of_getElem? (i := 680) (by decide +kernel)⟩
theorem lw_p14 : lw_okq (⟨"CuttingRoom$Marker", "cover", "(LCuttingRoom$Outline;III)V"⟩, 8) := ⟨⟨by decide +kernel, by decide +kernel⟩, List.mem_of_getElem? (i := 67) (by decide +kernel), List.mem_of_getElem? (i := 693) (by decide +kernel), List.mem_of_getElem? (i := 694) (by decide +kernel)⟩
theorem lw_p15 : lw_okq (⟨"CuttingRoom$Marker", "join", "(II)V"⟩, 8) := ⟨⟨by decide +kernel, by decide +kernel⟩, List.mem_of_getElem? (i := 67) (by decide +kernel), List.mem_of_getElem? (i := 698) (by decide +kernel), List.mem_of_getElem? (i := 699) (by decide +kernel)⟩
def lw_privs_1 : List (MethodName × Nat) := [(⟨"CuttingRoom$Cloth", "spoilRows", "()V"⟩, 7), (⟨"CuttingRoom$Cloth", "reversed", "(I)I"⟩, 7), (⟨"CuttingRoom$Marker", "pieceIn", "(I)LCuttingRoom$Piece;"⟩, 8), (⟨"CuttingRoom", "shapeNumbered", "(I)LCuttingRoom$Shape;"⟩, 11), (⟨"CuttingRoom$Marker", "meetsAnew", "(LCuttingRoom$Piece;)Z"⟩, 8), (⟨"CuttingRoom", "inGarments", "(I)J"⟩, 11), (⟨"CuttingRoom", "piecesOfPart", "(LCuttingRoom$Style;I)I"⟩, 11), (⟨"java/lang/Throwable", "fillInStackTrace", "(I)Ljava/lang/Throwable;"⟩, 6), (⟨"CuttingRoom", "isUnderPiece", "(II)Z"⟩, 11), (⟨"CuttingRoom", "shapeOrThrow", "(I)LCuttingRoom$Shape;"⟩, 11), (⟨"CuttingRoom$Shape", "traceAll", "()V"⟩, 11), (⟨"CuttingRoom$Outline", "turnedRow", "(II)I"⟩, 6), (⟨"CuttingRoom$Outline", "turnedColumn", "(II)I"⟩, 6), (⟨"CuttingRoom$Marker", "stripesMeet", "(II)Z"⟩, 8), (⟨"CuttingRoom$Marker", "cover", "(LCuttingRoom$Outline;III)V"⟩, 8), (⟨"CuttingRoom$Marker", "join", "(II)V"⟩, 8)]
theorem lw_r1 : ∀ q ∈ lw_privs_1, lw_okq q := List.forall_mem_cons.mpr ⟨lw_p0, List.forall_mem_cons.mpr ⟨lw_p1, List.forall_mem_cons.mpr ⟨lw_p2, List.forall_mem_cons.mpr ⟨lw_p3, List.forall_mem_cons.mpr ⟨lw_p4, List.forall_mem_cons.mpr ⟨lw_p5, List.forall_mem_cons.mpr ⟨lw_p6, List.forall_mem_cons.mpr ⟨lw_p7, List.forall_mem_cons.mpr ⟨lw_p8, List.forall_mem_cons.mpr ⟨lw_p9, List.forall_mem_cons.mpr ⟨lw_p10, List.forall_mem_cons.mpr ⟨lw_p11, List.forall_mem_cons.mpr ⟨lw_p12, List.forall_mem_cons.mpr ⟨lw_p13, List.forall_mem_cons.mpr ⟨lw_p14, List.forall_mem_cons.mpr ⟨lw_p15, fun _ h => absurd h List.not_mem_nil⟩⟩⟩⟩⟩⟩⟩⟩⟩⟩⟩⟩⟩⟩⟩⟩
theorem lw_p16 : lw_okq (⟨"CuttingRoom", "pieceOrThrow", "(I)LCuttingRoom$Piece;"⟩, 11) := ⟨⟨by decide +kernel, by decide +kernel⟩, List.mem_of_getElem? (i := 23) (by decide +kernel), List.mem_of_getElem? (i := 751) (by decide +kernel), List.mem_of_getElem? (i := 752) (by decide +kernel)⟩
theorem lw_p17 : lw_okq (⟨"CuttingRoom$Marker", "slotOf", "(I)I"⟩, 8) := ⟨⟨by decide +kernel, by decide +kernel⟩, List.mem_of_getElem? (i := 67) (by decide +kernel), List.mem_of_getElem? (i := 759) (by decide +kernel), List.mem_of_getElem? (i := 760) (by decide +kernel)⟩
theorem lw_p18 : lw_okq (⟨"CuttingRoom$Marker", "leave", "(I)V"⟩, 8) := ⟨⟨by decide +kernel, by decide +kernel⟩, List.mem_of_getElem? (i := 67) (by decide +kernel), List.mem_of_getElem? (i := 768) (by decide +kernel), List.mem_of_getElem? (i := 769) (by decide +kernel)⟩
theorem lw_p19 : lw_okq (⟨"CuttingRoom$Marker", "moveToEnd", "(I)V"⟩, 8) := ⟨⟨by decide +kernel, by decide +kernel⟩, List.mem_of_getElem? (i := 67) (by decide +kernel), List.mem_of_getElem? (i := 772) (by decide +kernel), List.mem_of_getElem? (i := 773) (by decide +kernel)⟩
theorem lw_p20 : lw_okq (⟨"CuttingRoom", "styleOrThrow", "(I)LCuttingRoom$Style;"⟩, 11) := ⟨⟨by decide +kernel, by decide +kernel⟩, List.mem_of_getElem? (i := 23) (by decide +kernel), List.mem_of_getElem? (i := 875) (by decide +kernel), List.mem_of_getElem? (i := 876) (by decide +kernel)⟩
theorem lw_p21 : lw_okq (⟨"CuttingRoom", "piecesOfGarment", "(LCuttingRoom$Style;)I"⟩, 11) := ⟨⟨by decide +kernel, by decide +kernel⟩, List.mem_of_getElem? (i := 23) (by decide +kernel), List.mem_of_getElem? (i := 883) (by decide +kernel), List.mem_of_getElem? (i := 884) (by decide +kernel)⟩
theorem lw_p22 : lw_okq (⟨"CuttingRoom", "wantPieces", "(LCuttingRoom$Style;)I"⟩, 11) := ⟨⟨by decide +kernel, by decide +kernel⟩, List.mem_of_getElem? (i := 23) (by decide +kernel), List.mem_of_getElem? (i := 901) (by decide +kernel), List.mem_of_getElem? (i := 902) (by decide +kernel)⟩
theorem lw_p23 : lw_okq (⟨"CuttingRoom", "plainToNest", "(LCuttingRoom$Style;I)I"⟩, 11) := ⟨⟨by decide +kernel, by decide +kernel⟩, List.mem_of_getElem? (i := 23) (by decide +kernel), List.mem_of_getElem? (i := 905) (by decide +kernel), List.mem_of_getElem? (i := 906) (by decide +kernel)⟩
theorem lw_p24 : lw_okq (⟨"CuttingRoom", "mirroredToNest", "(LCuttingRoom$Style;I)I"⟩, 11) := ⟨⟨by decide +kernel, by decide +kernel⟩, List.mem_of_getElem? (i := 23) (by decide +kernel), List.mem_of_getElem? (i := 909) (by decide +kernel), List.mem_of_getElem? (i := 910) (by decide +kernel)⟩
theorem lw_p25 : lw_okq (⟨"CuttingRoom", "shortest", "(II)I"⟩, 11) := ⟨⟨by decide +kernel, by decide +kernel⟩, List.mem_of_getElem? (i := 23) (by decide +kernel), List.mem_of_getElem? (i := 917) (by decide +kernel), List.mem_of_getElem? (i := 918) (by decide +kernel)⟩
theorem lw_p26 : lw_okq (⟨"CuttingRoom", "shortestWith", "(III)I"⟩, 11) := ⟨⟨by decide +kernel, by decide +kernel⟩, List.mem_of_getElem? (i := 23) (by decide +kernel), List.mem_of_getElem? (i := 924) (by decide +kernel), List.mem_of_getElem? (i := 925) (by decide +kernel)⟩
theorem lw_p27 : lw_okq (⟨"CuttingRoom", "nestInTrial", "(I)I"⟩, 11) := ⟨⟨by decide +kernel, by decide +kernel⟩, List.mem_of_getElem? (i := 23) (by decide +kernel), List.mem_of_getElem? (i := 928) (by decide +kernel), List.mem_of_getElem? (i := 929) (by decide +kernel)⟩
theorem lw_p28 : lw_okq (⟨"CuttingRoom", "lengthInOrder", "(II)I"⟩, 11) := ⟨⟨by decide +kernel, by decide +kernel⟩, List.mem_of_getElem? (i := 23) (by decide +kernel), List.mem_of_getElem? (i := 943) (by decide +kernel), List.mem_of_getElem? (i := 944) (by decide +kernel)⟩
theorem lw_p29 : lw_okq (⟨"CuttingRoom", "fillQueue", "()V"⟩, 11) := ⟨⟨by decide +kernel, by decide +kernel⟩, List.mem_of_getElem? (i := 23) (by decide +kernel), List.mem_of_getElem? (i := 947) (by decide +kernel), List.mem_of_getElem? (i := 948) (by decide +kernel)⟩
theorem lw_p30 : lw_okq (⟨"CuttingRoom", "stockHolds", "(I)Z"⟩, 11) := ⟨⟨by decide +kernel, by decide +kernel⟩, List.mem_of_getElem? (i := 23) (by decide +kernel), List.mem_of_getElem? (i := 969) (by decide +kernel), List.mem_of_getElem? (i := 970) (by decide +kernel)⟩
theorem lw_p31 : lw_okq (⟨"CuttingRoom", "perPly", "(LCuttingRoom$Shape;Z)I"⟩, 11) := ⟨⟨by decide +kernel, by decide +kernel⟩, List.mem_of_getElem? (i := 23) (by decide +kernel), List.mem_of_getElem? (i := 973) (by decide +kernel), List.mem_of_getElem? (i := 974) (by decide +kernel)⟩
def lw_privs_2 : List (MethodName × Nat) := [(⟨"CuttingRoom", "pieceOrThrow", "(I)LCuttingRoom$Piece;"⟩, 11), (⟨"CuttingRoom$Marker", "slotOf", "(I)I"⟩, 8), (⟨"CuttingRoom$Marker", "leave", "(I)V"⟩, 8), (⟨"CuttingRoom$Marker", "moveToEnd", "(I)V"⟩, 8), (⟨"CuttingRoom", "styleOrThrow", "(I)LCuttingRoom$Style;"⟩, 11), (⟨"CuttingRoom", "piecesOfGarment", "(LCuttingRoom$Style;)I"⟩, 11), (⟨"CuttingRoom", "wantPieces", "(LCuttingRoom$Style;)I"⟩, 11), (⟨"CuttingRoom", "plainToNest", "(LCuttingRoom$Style;I)I"⟩, 11), (⟨"CuttingRoom", "mirroredToNest", "(LCuttingRoom$Style;I)I"⟩, 11), (⟨"CuttingRoom", "shortest", "(II)I"⟩, 11), (⟨"CuttingRoom", "shortestWith", "(III)I"⟩, 11), (⟨"CuttingRoom", "nestInTrial", "(I)I"⟩, 11), (⟨"CuttingRoom", "lengthInOrder", "(II)I"⟩, 11), (⟨"CuttingRoom", "fillQueue", "()V"⟩, 11), (⟨"CuttingRoom", "stockHolds", "(I)Z"⟩, 11), (⟨"CuttingRoom", "perPly", "(LCuttingRoom$Shape;Z)I"⟩, 11)]
theorem lw_r2 : ∀ q ∈ lw_privs_2, lw_okq q := List.forall_mem_cons.mpr ⟨lw_p16, List.forall_mem_cons.mpr ⟨lw_p17, List.forall_mem_cons.mpr ⟨lw_p18, List.forall_mem_cons.mpr ⟨lw_p19, List.forall_mem_cons.mpr ⟨lw_p20, List.forall_mem_cons.mpr ⟨lw_p21, List.forall_mem_cons.mpr ⟨lw_p22, List.forall_mem_cons.mpr ⟨lw_p23, List.forall_mem_cons.mpr ⟨lw_p24, List.forall_mem_cons.mpr ⟨lw_p25, List.forall_mem_cons.mpr ⟨lw_p26, List.forall_mem_cons.mpr ⟨lw_p27, List.forall_mem_cons.mpr ⟨lw_p28, List.forall_mem_cons.mpr ⟨lw_p29, List.forall_mem_cons.mpr ⟨lw_p30, List.forall_mem_cons.mpr ⟨lw_p31, fun _ h => absurd h List.not_mem_nil⟩⟩⟩⟩⟩⟩⟩⟩⟩⟩⟩⟩⟩⟩⟩⟩
theorem lw_p32 : lw_okq (⟨"CuttingRoom", "cutPlies", "(LCuttingRoom$Shape;I)V"⟩, 11) := ⟨⟨by decide +kernel, by decide +kernel⟩, List.mem_of_getElem? (i := 23) (by decide +kernel), List.mem_of_getElem? (i := 979) (by decide +kernel), List.mem_of_getElem? (i := 980) (by decide +kernel)⟩
theorem lw_p33 : lw_okq (⟨"CuttingRoom", "styleWithPartsOrThrow", "(I)LCuttingRoom$Style;"⟩, 11) := ⟨⟨by decide +kernel, by decide +kernel⟩, List.mem_of_getElem? (i := 23) (by decide +kernel), List.mem_of_getElem? (i := 1002) (by decide +kernel), List.mem_of_getElem? (i := 1003) (by decide +kernel)⟩
theorem lw_p34 : lw_okq (⟨"CuttingRoom", "garmentsInStock", "(LCuttingRoom$Style;)I"⟩, 11) := ⟨⟨by decide +kernel, by decide +kernel⟩, List.mem_of_getElem? (i := 23) (by decide +kernel), List.mem_of_getElem? (i := 1011) (by decide +kernel), List.mem_of_getElem? (i := 1012) (by decide +kernel)⟩
theorem lw_p35 : lw_okq (⟨"CuttingRoom", "takesGarment", "(LCuttingRoom$Style;)Z"⟩, 11) := ⟨⟨by decide +kernel, by decide +kernel⟩, List.mem_of_getElem? (i := 23) (by decide +kernel), List.mem_of_getElem? (i := 1027) (by decide +kernel), List.mem_of_getElem? (i := 1028) (by decide +kernel)⟩
theorem lw_p36 : lw_okq (⟨"CuttingRoom", "takesPart", "(IZI)Z"⟩, 11) := ⟨⟨by decide +kernel, by decide +kernel⟩, List.mem_of_getElem? (i := 23) (by decide +kernel), List.mem_of_getElem? (i := 1031) (by decide +kernel), List.mem_of_getElem? (i := 1032) (by decide +kernel)⟩
theorem lw_p37 : lw_okq (⟨"CuttingRoom", "takesKind", "(II)Z"⟩, 11) := ⟨⟨by decide +kernel, by decide +kernel⟩, List.mem_of_getElem? (i := 23) (by decide +kernel), List.mem_of_getElem? (i := 1035) (by decide +kernel), List.mem_of_getElem? (i := 1036) (by decide +kernel)⟩
theorem lw_p38 : lw_okq (⟨"CuttingRoom", "pliesForPart", "(LCuttingRoom$Shape;I)I"⟩, 11) := ⟨⟨by decide +kernel, by decide +kernel⟩, List.mem_of_getElem? (i := 23) (by decide +kernel), List.mem_of_getElem? (i := 1069) (by decide +kernel), List.mem_of_getElem? (i := 1070) (by decide +kernel)⟩
theorem lw_p39 : lw_okq (⟨"CuttingRoomModel", "empties", "()V"⟩, 49) := ⟨⟨by decide +kernel, by decide +kernel⟩, List.mem_of_getElem? (i := 1109) (by decide +kernel), List.mem_of_getElem? (i := 1115) (by decide +kernel), List.mem_of_getElem? (i := 1116) (by decide +kernel)⟩
theorem lw_p40 : lw_okq (⟨"CuttingRoomModel", "fails", "(I)Z"⟩, 49) := ⟨⟨by decide +kernel, by decide +kernel⟩, List.mem_of_getElem? (i := 1109) (by decide +kernel), List.mem_of_getElem? (i := 1280) (by decide +kernel), List.mem_of_getElem? (i := 1281) (by decide +kernel)⟩
theorem lw_p41 : lw_okq (⟨"CuttingRoomModel", "isUnderPiece", "(II)Z"⟩, 49) := ⟨⟨by decide +kernel, by decide +kernel⟩, List.mem_of_getElem? (i := 1109) (by decide +kernel), List.mem_of_getElem? (i := 1292) (by decide +kernel), List.mem_of_getElem? (i := 1293) (by decide +kernel)⟩
theorem lw_p42 : lw_okq (⟨"CuttingRoomModel", "isShape", "(I)Z"⟩, 49) := ⟨⟨by decide +kernel, by decide +kernel⟩, List.mem_of_getElem? (i := 1109) (by decide +kernel), List.mem_of_getElem? (i := 1308) (by decide +kernel), List.mem_of_getElem? (i := 1309) (by decide +kernel)⟩
theorem lw_p43 : lw_okq (⟨"CuttingRoomModel", "isLaid", "(I)Z"⟩, 49) := ⟨⟨by decide +kernel, by decide +kernel⟩, List.mem_of_getElem? (i := 1109) (by decide +kernel), List.mem_of_getElem? (i := 1312) (by decide +kernel), List.mem_of_getElem? (i := 1313) (by decide +kernel)⟩
theorem lw_p44 : lw_okq (⟨"CuttingRoomModel", "reasonFor", "(IIIIZ)C"⟩, 49) := ⟨⟨by decide +kernel, by decide +kernel⟩, List.mem_of_getElem? (i := 1109) (by decide +kernel), List.mem_of_getElem? (i := 1328) (by decide +kernel), List.mem_of_getElem? (i := 1329) (by decide +kernel)⟩
theorem lw_p45 : lw_okq (⟨"CuttingRoomModel", "mayTurn", "(II)Z"⟩, 49) := ⟨⟨by decide +kernel, by decide +kernel⟩, List.mem_of_getElem? (i := 1109) (by decide +kernel), List.mem_of_getElem? (i := 1332) (by decide +kernel), List.mem_of_getElem? (i := 1333) (by decide +kernel)⟩
theorem lw_p46 : lw_okq (⟨"CuttingRoomModel", "turns", "(IIZ)V"⟩, 49) := ⟨⟨by decide +kernel, by decide +kernel⟩, List.mem_of_getElem? (i := 1109) (by decide +kernel), List.mem_of_getElem? (i := 1336) (by decide +kernel), List.mem_of_getElem? (i := 1337) (by decide +kernel)⟩
theorem lw_p47 : lw_okq (⟨"CuttingRoomModel", "worst", "(II)I"⟩, 49) := ⟨⟨by decide +kernel, by decide +kernel⟩, List.mem_of_getElem? (i := 1109) (by decide +kernel), List.mem_of_getElem? (i := 1346) (by decide +kernel), List.mem_of_getElem? (i := 1347) (by decide +kernel)⟩
def lw_privs_3 : List (MethodName × Nat) := [(⟨"CuttingRoom", "cutPlies", "(LCuttingRoom$Shape;I)V"⟩, 11), (⟨"CuttingRoom", "styleWithPartsOrThrow", "(I)LCuttingRoom$Style;"⟩, 11), (⟨"CuttingRoom", "garmentsInStock", "(LCuttingRoom$Style;)I"⟩, 11), (⟨"CuttingRoom", "takesGarment", "(LCuttingRoom$Style;)Z"⟩, 11), (⟨"CuttingRoom", "takesPart", "(IZI)Z"⟩, 11), (⟨"CuttingRoom", "takesKind", "(II)Z"⟩, 11), (⟨"CuttingRoom", "pliesForPart", "(LCuttingRoom$Shape;I)I"⟩, 11), (⟨"CuttingRoomModel", "empties", "()V"⟩, 49), (⟨"CuttingRoomModel", "fails", "(I)Z"⟩, 49), (⟨"CuttingRoomModel", "isUnderPiece", "(II)Z"⟩, 49), (⟨"CuttingRoomModel", "isShape", "(I)Z"⟩, 49), (⟨"CuttingRoomModel", "isLaid", "(I)Z"⟩, 49), (⟨"CuttingRoomModel", "reasonFor", "(IIIIZ)C"⟩, 49), (⟨"CuttingRoomModel", "mayTurn", "(II)Z"⟩, 49), (⟨"CuttingRoomModel", "turns", "(IIZ)V"⟩, 49), (⟨"CuttingRoomModel", "worst", "(II)I"⟩, 49)]
theorem lw_r3 : ∀ q ∈ lw_privs_3, lw_okq q := List.forall_mem_cons.mpr ⟨lw_p32, List.forall_mem_cons.mpr ⟨lw_p33, List.forall_mem_cons.mpr ⟨lw_p34, List.forall_mem_cons.mpr ⟨lw_p35, List.forall_mem_cons.mpr ⟨lw_p36, List.forall_mem_cons.mpr ⟨lw_p37, List.forall_mem_cons.mpr ⟨lw_p38, List.forall_mem_cons.mpr ⟨lw_p39, List.forall_mem_cons.mpr ⟨lw_p40, List.forall_mem_cons.mpr ⟨lw_p41, List.forall_mem_cons.mpr ⟨lw_p42, List.forall_mem_cons.mpr ⟨lw_p43, List.forall_mem_cons.mpr ⟨lw_p44, List.forall_mem_cons.mpr ⟨lw_p45, List.forall_mem_cons.mpr ⟨lw_p46, List.forall_mem_cons.mpr ⟨lw_p47, fun _ h => absurd h List.not_mem_nil⟩⟩⟩⟩⟩⟩⟩⟩⟩⟩⟩⟩⟩⟩⟩⟩
theorem lw_p48 : lw_okq (⟨"CuttingRoomModel", "columns", "()I"⟩, 49) := ⟨⟨by decide +kernel, by decide +kernel⟩, List.mem_of_getElem? (i := 1109) (by decide +kernel), List.mem_of_getElem? (i := 1350) (by decide +kernel), List.mem_of_getElem? (i := 1351) (by decide +kernel)⟩
theorem lw_p49 : lw_okq (⟨"CuttingRoomModel", "isBad", "(II)Z"⟩, 49) := ⟨⟨by decide +kernel, by decide +kernel⟩, List.mem_of_getElem? (i := 1109) (by decide +kernel), List.mem_of_getElem? (i := 1354) (by decide +kernel), List.mem_of_getElem? (i := 1355) (by decide +kernel)⟩
theorem lw_p50 : lw_okq (⟨"CuttingRoomModel", "isMarked", "(I)Z"⟩, 49) := ⟨⟨by decide +kernel, by decide +kernel⟩, List.mem_of_getElem? (i := 1109) (by decide +kernel), List.mem_of_getElem? (i := 1358) (by decide +kernel), List.mem_of_getElem? (i := 1359) (by decide +kernel)⟩
theorem lw_p51 : lw_okq (⟨"CuttingRoomModel", "remainder", "(I)I"⟩, 49) := ⟨⟨by decide +kernel, by decide +kernel⟩, List.mem_of_getElem? (i := 1109) (by decide +kernel), List.mem_of_getElem? (i := 1362) (by decide +kernel), List.mem_of_getElem? (i := 1363) (by decide +kernel)⟩
theorem lw_p52 : lw_okq (⟨"CuttingRoomModel", "puts", "(IIIIZ)I"⟩, 49) := ⟨⟨by decide +kernel, by decide +kernel⟩, List.mem_of_getElem? (i := 1109) (by decide +kernel), List.mem_of_getElem? (i := 1366) (by decide +kernel), List.mem_of_getElem? (i := 1367) (by decide +kernel)⟩
theorem lw_p53 : lw_okq (⟨"CuttingRoomModel", "isNested", "(IZ)Z"⟩, 49) := ⟨⟨by decide +kernel, by decide +kernel⟩, List.mem_of_getElem? (i := 1109) (by decide +kernel), List.mem_of_getElem? (i := 1378) (by decide +kernel), List.mem_of_getElem? (i := 1379) (by decide +kernel)⟩
theorem lw_p54 : lw_okq (⟨"CuttingRoomModel", "placeOf", "(I)I"⟩, 49) := ⟨⟨by decide +kernel, by decide +kernel⟩, List.mem_of_getElem? (i := 1109) (by decide +kernel), List.mem_of_getElem? (i := 1386) (by decide +kernel), List.mem_of_getElem? (i := 1387) (by decide +kernel)⟩
theorem lw_p55 : lw_okq (⟨"CuttingRoomModel", "takes", "(I)V"⟩, 49) := ⟨⟨by decide +kernel, by decide +kernel⟩, List.mem_of_getElem? (i := 1109) (by decide +kernel), List.mem_of_getElem? (i := 1390) (by decide +kernel), List.mem_of_getElem? (i := 1391) (by decide +kernel)⟩
theorem lw_p56 : lw_okq (⟨"CuttingRoomModel", "longest", "()I"⟩, 49) := ⟨⟨by decide +kernel, by decide +kernel⟩, List.mem_of_getElem? (i := 1109) (by decide +kernel), List.mem_of_getElem? (i := 1394) (by decide +kernel), List.mem_of_getElem? (i := 1395) (by decide +kernel)⟩
theorem lw_p57 : lw_okq (⟨"CuttingRoomModel", "cellsUsed", "()I"⟩, 49) := ⟨⟨by decide +kernel, by decide +kernel⟩, List.mem_of_getElem? (i := 1109) (by decide +kernel), List.mem_of_getElem? (i := 1435) (by decide +kernel), List.mem_of_getElem? (i := 1436) (by decide +kernel)⟩
theorem lw_p58 : lw_okq (⟨"CuttingRoomModel", "isStyle", "(I)Z"⟩, 49) := ⟨⟨by decide +kernel, by decide +kernel⟩, List.mem_of_getElem? (i := 1109) (by decide +kernel), List.mem_of_getElem? (i := 1451) (by decide +kernel), List.mem_of_getElem? (i := 1452) (by decide +kernel)⟩
theorem lw_p59 : lw_okq (⟨"CuttingRoomModel", "takenBy", "(I)I"⟩, 49) := ⟨⟨by decide +kernel, by decide +kernel⟩, List.mem_of_getElem? (i := 1109) (by decide +kernel), List.mem_of_getElem? (i := 1455) (by decide +kernel), List.mem_of_getElem? (i := 1456) (by decide +kernel)⟩
theorem lw_p60 : lw_okq (⟨"CuttingRoomModel", "queues", "(I)Z"⟩, 49) := ⟨⟨by decide +kernel, by decide +kernel⟩, List.mem_of_getElem? (i := 1109) (by decide +kernel), List.mem_of_getElem? (i := 1467) (by decide +kernel), List.mem_of_getElem? (i := 1468) (by decide +kernel)⟩
theorem lw_p61 : lw_okq (⟨"CuttingRoomModel", "leastLength", "()I"⟩, 49) := ⟨⟨by decide +kernel, by decide +kernel⟩, List.mem_of_getElem? (i := 1109) (by decide +kernel), List.mem_of_getElem? (i := 1471) (by decide +kernel), List.mem_of_getElem? (i := 1472) (by decide +kernel)⟩
theorem lw_p62 : lw_okq (⟨"CuttingRoomModel", "tries", "(I)V"⟩, 49) := ⟨⟨by decide +kernel, by decide +kernel⟩, List.mem_of_getElem? (i := 1109) (by decide +kernel), List.mem_of_getElem? (i := 1475) (by decide +kernel), List.mem_of_getElem? (i := 1476) (by decide +kernel)⟩
theorem lw_p63 : lw_okq (⟨"CuttingRoomModel", "takenFromRoll", "(I)I"⟩, 49) := ⟨⟨by decide +kernel, by decide +kernel⟩, List.mem_of_getElem? (i := 1109) (by decide +kernel), List.mem_of_getElem? (i := 1497) (by decide +kernel), List.mem_of_getElem? (i := 1498) (by decide +kernel)⟩
def lw_privs_4 : List (MethodName × Nat) := [(⟨"CuttingRoomModel", "columns", "()I"⟩, 49), (⟨"CuttingRoomModel", "isBad", "(II)Z"⟩, 49), (⟨"CuttingRoomModel", "isMarked", "(I)Z"⟩, 49), (⟨"CuttingRoomModel", "remainder", "(I)I"⟩, 49), (⟨"CuttingRoomModel", "puts", "(IIIIZ)I"⟩, 49), (⟨"CuttingRoomModel", "isNested", "(IZ)Z"⟩, 49), (⟨"CuttingRoomModel", "placeOf", "(I)I"⟩, 49), (⟨"CuttingRoomModel", "takes", "(I)V"⟩, 49), (⟨"CuttingRoomModel", "longest", "()I"⟩, 49), (⟨"CuttingRoomModel", "cellsUsed", "()I"⟩, 49), (⟨"CuttingRoomModel", "isStyle", "(I)Z"⟩, 49), (⟨"CuttingRoomModel", "takenBy", "(I)I"⟩, 49), (⟨"CuttingRoomModel", "queues", "(I)Z"⟩, 49), (⟨"CuttingRoomModel", "leastLength", "()I"⟩, 49), (⟨"CuttingRoomModel", "tries", "(I)V"⟩, 49), (⟨"CuttingRoomModel", "takenFromRoll", "(I)I"⟩, 49)]
theorem lw_r4 : ∀ q ∈ lw_privs_4, lw_okq q := List.forall_mem_cons.mpr ⟨lw_p48, List.forall_mem_cons.mpr ⟨lw_p49, List.forall_mem_cons.mpr ⟨lw_p50, List.forall_mem_cons.mpr ⟨lw_p51, List.forall_mem_cons.mpr ⟨lw_p52, List.forall_mem_cons.mpr ⟨lw_p53, List.forall_mem_cons.mpr ⟨lw_p54, List.forall_mem_cons.mpr ⟨lw_p55, List.forall_mem_cons.mpr ⟨lw_p56, List.forall_mem_cons.mpr ⟨lw_p57, List.forall_mem_cons.mpr ⟨lw_p58, List.forall_mem_cons.mpr ⟨lw_p59, List.forall_mem_cons.mpr ⟨lw_p60, List.forall_mem_cons.mpr ⟨lw_p61, List.forall_mem_cons.mpr ⟨lw_p62, List.forall_mem_cons.mpr ⟨lw_p63, fun _ h => absurd h List.not_mem_nil⟩⟩⟩⟩⟩⟩⟩⟩⟩⟩⟩⟩⟩⟩⟩⟩
theorem lw_p64 : lw_okq (⟨"CuttingRoomModel", "isMuch", "(I)Z"⟩, 49) := ⟨⟨by decide +kernel, by decide +kernel⟩, List.mem_of_getElem? (i := 1109) (by decide +kernel), List.mem_of_getElem? (i := 1501) (by decide +kernel), List.mem_of_getElem? (i := 1502) (by decide +kernel)⟩
theorem lw_p65 : lw_okq (⟨"CuttingRoomModel", "givenBy", "(IZ)I"⟩, 49) := ⟨⟨by decide +kernel, by decide +kernel⟩, List.mem_of_getElem? (i := 1109) (by decide +kernel), List.mem_of_getElem? (i := 1505) (by decide +kernel), List.mem_of_getElem? (i := 1506) (by decide +kernel)⟩
theorem lw_p66 : lw_okq (⟨"CuttingRoomModel", "makes", "(II)I"⟩, 49) := ⟨⟨by decide +kernel, by decide +kernel⟩, List.mem_of_getElem? (i := 1109) (by decide +kernel), List.mem_of_getElem? (i := 1517) (by decide +kernel), List.mem_of_getElem? (i := 1518) (by decide +kernel)⟩
def lw_privs_5 : List (MethodName × Nat) := [(⟨"CuttingRoomModel", "isMuch", "(I)Z"⟩, 49), (⟨"CuttingRoomModel", "givenBy", "(IZ)I"⟩, 49), (⟨"CuttingRoomModel", "makes", "(II)I"⟩, 49)]
theorem lw_r5 : ∀ q ∈ lw_privs_5, lw_okq q := List.forall_mem_cons.mpr ⟨lw_p64, List.forall_mem_cons.mpr ⟨lw_p65, List.forall_mem_cons.mpr ⟨lw_p66, fun _ h => absurd h List.not_mem_nil⟩⟩⟩
def lw_privs : List (MethodName × Nat) := lw_privs_1 ++ (lw_privs_2 ++ (lw_privs_3 ++ (lw_privs_4 ++ (lw_privs_5))))
def lw_tbl : List Cond := k2_sels lw_privs ++ tables_1
theorem lw_privs_ok : ∀ q ∈ lw_privs, lw_okq q := by
  show ∀ q ∈ lw_privs_1 ++ (lw_privs_2 ++ (lw_privs_3 ++ (lw_privs_4 ++ (lw_privs_5)))), lw_okq q
  exact List.forall_mem_append.mpr ⟨lw_r1, List.forall_mem_append.mpr ⟨lw_r2, List.forall_mem_append.mpr ⟨lw_r3, List.forall_mem_append.mpr ⟨lw_r4, lw_r5⟩⟩⟩⟩
/-- the streams that the claim lets the run draw from -/
abbrev lw_cs : List Choice := [Jvm.Choice.named "NaN.bits"]
theorem lw_bits : nanBits ∈ lw_cs := by first | decide | exact List.mem_cons_self | simp [lw_cs, nanBits]
end
section
def RX0 : String := "CuttingRoom$Cloth"
def TX0 : u_T := fun k => match k with
  | 0 => ("CuttingRoom$Cloth", "width", "I", false)
  | 1 => ("CuttingRoom$Cloth", "hasNap", "Z", false)
  | 2 => ("CuttingRoom$Cloth", "isFolded", "Z", false)
  | 3 => ("CuttingRoom$Cloth", "stripes", "I", false)
  | 4 => ("CuttingRoom$Cloth", "flaws", "I", false)
  | 5 => ("CuttingRoom$Cloth", "told", "[I", true)
  | _ => ("CuttingRoom$Cloth", "spoiled", "[I", true)
def tyX0 : Nat → FieldType := fun k => match k with
  | 0 => .int
  | 1 => .boolean
  | 2 => .boolean
  | 3 => .int
  | 4 => .int
  | 5 => .array .int
  | _ => .array .int
theorem nmX0 : ∀ a, a < 7 → ∀ b, b < 7 → a ≠ b → (TX0 a).2.1 ≠ (TX0 b).2.1 := by decide +kernel
theorem tyX0_ok : ∀ k, k < 7 → parseFieldDescriptor (TX0 k).2.2.1 = some (tyX0 k) := by decide +kernel
abbrev cX0_init : ByteArray := prog_2_method_1_code
def yX0_init : MethodName := ⟨RX0, "<init>", "()V"⟩
abbrev cX0_openColumns : ByteArray := prog_2_method_2_code
def yX0_openColumns : MethodName := ⟨RX0, "openColumns", "()I"⟩
abbrev cX0_isStriped : ByteArray := prog_2_method_3_code
def yX0_isStriped : MethodName := ⟨RX0, "isStriped", "()Z"⟩
abbrev cX0_remainder : ByteArray := prog_2_method_4_code
def yX0_remainder : MethodName := ⟨RX0, "remainder", "(I)I"⟩
abbrev cX0_opposite : ByteArray := prog_2_method_5_code
def yX0_opposite : MethodName := ⟨RX0, "opposite", "(I)I"⟩
abbrev cX0_foldOrOpen : ByteArray := prog_2_method_6_code
def yX0_foldOrOpen : MethodName := ⟨RX0, "foldOrOpen", "(Z)V"⟩
abbrev cX0_isTold : ByteArray := prog_2_method_7_code
def yX0_isTold : MethodName := ⟨RX0, "isTold", "(II)Z"⟩
abbrev cX0_tell : ByteArray := prog_2_method_8_code
def yX0_tell : MethodName := ⟨RX0, "tell", "(II)V"⟩
abbrev cX0_forgetFlaws : ByteArray := prog_2_method_9_code
def yX0_forgetFlaws : MethodName := ⟨RX0, "forgetFlaws", "()V"⟩
abbrev cX0_spoilRows : ByteArray := prog_2_method_10_code
def yX0_spoilRows : MethodName := ⟨RX0, "spoilRows", "()V"⟩
abbrev cX0_reversed : ByteArray := prog_2_method_11_code
def yX0_reversed : MethodName := ⟨RX0, "reversed", "(I)I"⟩
abbrev cX0_reaches : ByteArray := prog_2_method_12_code
def yX0_reaches : MethodName := ⟨RX0, "reaches", "(LCuttingRoom$Outline;II)Z"⟩
def RX1 : String := "CuttingRoom$Marker"
def TX1 : u_T := fun k => match k with
  | 0 => ("CuttingRoom$Marker", "pieces", "[LCuttingRoom$Piece;", true)
  | 1 => ("CuttingRoom$Marker", "count", "I", false)
  | 2 => ("CuttingRoom$Marker", "nextNumber", "I", false)
  | 3 => ("CuttingRoom$Marker", "owners", "[I", true)
  | 4 => ("CuttingRoom$Marker", "taken", "[I", true)
  | 5 => ("CuttingRoom$Marker", "members", "[I", true)
  | 6 => ("CuttingRoom$Marker", "phases", "[I", true)
  | _ => ("CuttingRoom$Marker", "met", "[I", true)
def tyX1 : Nat → FieldType := fun k => match k with
  | 0 => .array (.object "CuttingRoom$Piece")
  | 1 => .int
  | 2 => .int
  | 3 => .array .int
  | 4 => .array .int
  | 5 => .array .int
  | 6 => .array .int
  | _ => .array .int
theorem nmX1 : ∀ a, a < 8 → ∀ b, b < 8 → a ≠ b → (TX1 a).2.1 ≠ (TX1 b).2.1 := by decide +kernel
theorem tyX1_ok : ∀ k, k < 8 → parseFieldDescriptor (TX1 k).2.2.1 = some (tyX1 k) := by decide +kernel
abbrev cX1_init : ByteArray := prog_3_method_1_code
def yX1_init : MethodName := ⟨RX1, "<init>", "()V"⟩
abbrev cX1_isFull : ByteArray := prog_3_method_2_code
def yX1_isFull : MethodName := ⟨RX1, "isFull", "()Z"⟩
abbrev cX1_pieceIn : ByteArray := prog_3_method_3_code
def yX1_pieceIn : MethodName := ⟨RX1, "pieceIn", "(I)LCuttingRoom$Piece;"⟩
abbrev cX1_slotOf : ByteArray := prog_3_method_4_code
def yX1_slotOf : MethodName := ⟨RX1, "slotOf", "(I)I"⟩
abbrev cX1_pieceNumbered : ByteArray := prog_3_method_5_code
def yX1_pieceNumbered : MethodName := ⟨RX1, "pieceNumbered", "(I)LCuttingRoom$Piece;"⟩
abbrev cX1_obstacle : ByteArray := prog_3_method_6_code
def yX1_obstacle : MethodName := ⟨RX1, "obstacle", "(LCuttingRoom$Cloth;LCuttingRoom$Shape;IIIZ)C"⟩
abbrev cX1_meetsAny : ByteArray := prog_3_method_7_code
def yX1_meetsAny : MethodName := ⟨RX1, "meetsAny", "([ILCuttingRoom$Outline;II)Z"⟩
abbrev cX1_stripesMeet : ByteArray := prog_3_method_8_code
def yX1_stripesMeet : MethodName := ⟨RX1, "stripesMeet", "(II)Z"⟩
abbrev cX1_firstSpot : ByteArray := prog_3_method_9_code
def yX1_firstSpot : MethodName := ⟨RX1, "firstSpot", "(LCuttingRoom$Cloth;LCuttingRoom$Shape;Z)I"⟩
abbrev cX1_putAtSpot : ByteArray := prog_3_method_10_code
def yX1_putAtSpot : MethodName := ⟨RX1, "putAtSpot", "(LCuttingRoom$Cloth;LCuttingRoom$Shape;IZ)I"⟩
abbrev cX1_put : ByteArray := prog_3_method_11_code
def yX1_put : MethodName := ⟨RX1, "put", "(LCuttingRoom$Cloth;LCuttingRoom$Shape;IIIZ)I"⟩
abbrev cX1_cover : ByteArray := prog_3_method_12_code
def yX1_cover : MethodName := ⟨RX1, "cover", "(LCuttingRoom$Outline;III)V"⟩
abbrev cX1_join : ByteArray := prog_3_method_13_code
def yX1_join : MethodName := ⟨RX1, "join", "(II)V"⟩
abbrev cX1_leave : ByteArray := prog_3_method_14_code
def yX1_leave : MethodName := ⟨RX1, "leave", "(I)V"⟩
abbrev cX1_remove : ByteArray := prog_3_method_15_code
def yX1_remove : MethodName := ⟨RX1, "remove", "(I)V"⟩
abbrev cX1_moveToEnd : ByteArray := prog_3_method_16_code
def yX1_moveToEnd : MethodName := ⟨RX1, "moveToEnd", "(I)V"⟩
abbrev cX1_empty : ByteArray := prog_3_method_17_code
def yX1_empty : MethodName := ⟨RX1, "empty", "()V"⟩
abbrev cX1_ownerOf : ByteArray := prog_3_method_18_code
def yX1_ownerOf : MethodName := ⟨RX1, "ownerOf", "(II)I"⟩
abbrev cX1_ownerByPieces : ByteArray := prog_3_method_19_code
def yX1_ownerByPieces : MethodName := ⟨RX1, "ownerByPieces", "(II)I"⟩
abbrev cX1_holds : ByteArray := prog_3_method_20_code
def yX1_holds : MethodName := ⟨RX1, "holds", "(LCuttingRoom$Shape;)Z"⟩
abbrev cX1_countOf : ByteArray := prog_3_method_21_code
def yX1_countOf : MethodName := ⟨RX1, "countOf", "(LCuttingRoom$Shape;Z)I"⟩
abbrev cX1_rowsUsed : ByteArray := prog_3_method_22_code
def yX1_rowsUsed : MethodName := ⟨RX1, "rowsUsed", "()I"⟩
abbrev cX1_cellsUsed : ByteArray := prog_3_method_23_code
def yX1_cellsUsed : MethodName := ⟨RX1, "cellsUsed", "()I"⟩
abbrev cX1_hasNoOverlap : ByteArray := prog_3_method_24_code
def yX1_hasNoOverlap : MethodName := ⟨RX1, "hasNoOverlap", "()Z"⟩
abbrev cX1_meetsAnew : ByteArray := prog_3_method_25_code
def yX1_meetsAnew : MethodName := ⟨RX1, "meetsAnew", "(LCuttingRoom$Piece;)Z"⟩
def RX2 : String := "CuttingRoom$Outline"
def TX2 : u_T := fun k => match k with
  | 0 => ("CuttingRoom$Outline", "turns", "I", true)
  | 1 => ("CuttingRoom$Outline", "isMirrored", "Z", true)
  | 2 => ("CuttingRoom$Outline", "rows", "[I", true)
  | 3 => ("CuttingRoom$Outline", "height", "I", false)
  | 4 => ("CuttingRoom$Outline", "width", "I", false)
  | _ => ("CuttingRoom$Outline", "markRow", "I", false)
def tyX2 : Nat → FieldType := fun k => match k with
  | 0 => .int
  | 1 => .boolean
  | 2 => .array .int
  | 3 => .int
  | 4 => .int
  | _ => .int
theorem nmX2 : ∀ a, a < 6 → ∀ b, b < 6 → a ≠ b → (TX2 a).2.1 ≠ (TX2 b).2.1 := by decide +kernel
theorem tyX2_ok : ∀ k, k < 6 → parseFieldDescriptor (TX2 k).2.2.1 = some (tyX2 k) := by decide +kernel
abbrev cX2_init : ByteArray := prog_4_method_1_code
def yX2_init : MethodName := ⟨RX2, "<init>", "(IZ)V"⟩
abbrev cX2_trace : ByteArray := prog_4_method_2_code
def yX2_trace : MethodName := ⟨RX2, "trace", "([III)V"⟩
abbrev cX2_turnedRow : ByteArray := prog_4_method_3_code
def yX2_turnedRow : MethodName := ⟨RX2, "turnedRow", "(II)I"⟩
abbrev cX2_turnedColumn : ByteArray := prog_4_method_4_code
def yX2_turnedColumn : MethodName := ⟨RX2, "turnedColumn", "(II)I"⟩
abbrev cX2_hasCell : ByteArray := prog_4_method_5_code
def yX2_hasCell : MethodName := ⟨RX2, "hasCell", "(II)Z"⟩
def RX3 : String := "CuttingRoom$Piece"
def TX3 : u_T := fun k => match k with
  | 0 => ("CuttingRoom$Piece", "number", "I", false)
  | 1 => ("CuttingRoom$Piece", "shape", "LCuttingRoom$Shape;", false)
  | 2 => ("CuttingRoom$Piece", "outline", "LCuttingRoom$Outline;", false)
  | 3 => ("CuttingRoom$Piece", "turns", "I", false)
  | 4 => ("CuttingRoom$Piece", "row", "I", false)
  | 5 => ("CuttingRoom$Piece", "column", "I", false)
  | _ => ("CuttingRoom$Piece", "isMirrored", "Z", false)
def tyX3 : Nat → FieldType := fun k => match k with
  | 0 => .int
  | 1 => .object "CuttingRoom$Shape"
  | 2 => .object "CuttingRoom$Outline"
  | 3 => .int
  | 4 => .int
  | 5 => .int
  | _ => .boolean
theorem nmX3 : ∀ a, a < 7 → ∀ b, b < 7 → a ≠ b → (TX3 a).2.1 ≠ (TX3 b).2.1 := by decide +kernel
theorem tyX3_ok : ∀ k, k < 7 → parseFieldDescriptor (TX3 k).2.2.1 = some (tyX3 k) := by decide +kernel
abbrev cX3_init : ByteArray := prog_5_method_1_code
def yX3_init : MethodName := ⟨RX3, "<init>", "()V"⟩
abbrev cX3_covers : ByteArray := prog_5_method_2_code
def yX3_covers : MethodName := ⟨RX3, "covers", "(II)Z"⟩
def RX4 : String := "CuttingRoom$Shape"
def TX4 : u_T := fun k => match k with
  | 0 => ("CuttingRoom$Shape", "rule", "C", true)
  | 1 => ("CuttingRoom$Shape", "isPaired", "Z", true)
  | 2 => ("CuttingRoom$Shape", "drawing", "[I", true)
  | 3 => ("CuttingRoom$Shape", "outlines", "[LCuttingRoom$Outline;", true)
  | 4 => ("CuttingRoom$Shape", "cells", "I", false)
  | 5 => ("CuttingRoom$Shape", "group", "I", false)
  | 6 => ("CuttingRoom$Shape", "markRow", "I", false)
  | 7 => ("CuttingRoom$Shape", "markColumn", "I", false)
  | 8 => ("CuttingRoom$Shape", "plain", "I", false)
  | 9 => ("CuttingRoom$Shape", "mirrored", "I", false)
  | _ => ("CuttingRoom$Shape", "everCut", "J", false)
def tyX4 : Nat → FieldType := fun k => match k with
  | 0 => .char
  | 1 => .boolean
  | 2 => .array .int
  | 3 => .array (.object "CuttingRoom$Outline")
  | 4 => .int
  | 5 => .int
  | 6 => .int
  | 7 => .int
  | 8 => .int
  | 9 => .int
  | _ => .long
theorem nmX4 : ∀ a, a < 11 → ∀ b, b < 11 → a ≠ b → (TX4 a).2.1 ≠ (TX4 b).2.1 := by decide +kernel
theorem tyX4_ok : ∀ k, k < 11 → parseFieldDescriptor (TX4 k).2.2.1 = some (tyX4 k) := by decide +kernel
abbrev cX4_init : ByteArray := prog_6_method_1_code
def yX4_init : MethodName := ⟨RX4, "<init>", "(CZ)V"⟩
abbrev cX4_hasCell : ByteArray := prog_6_method_2_code
def yX4_hasCell : MethodName := ⟨RX4, "hasCell", "(II)Z"⟩
abbrev cX4_draw : ByteArray := prog_6_method_3_code
def yX4_draw : MethodName := ⟨RX4, "draw", "(II)V"⟩
abbrev cX4_mark : ByteArray := prog_6_method_4_code
def yX4_mark : MethodName := ⟨RX4, "mark", "(III)V"⟩
abbrev cX4_traceAll : ByteArray := prog_6_method_5_code
def yX4_traceAll : MethodName := ⟨RX4, "traceAll", "()V"⟩
abbrev cX4_outlineFor : ByteArray := prog_6_method_6_code
def yX4_outlineFor : MethodName := ⟨RX4, "outlineFor", "(IZ)LCuttingRoom$Outline;"⟩
abbrev cX4_canTurn : ByteArray := prog_6_method_7_code
def yX4_canTurn : MethodName := ⟨RX4, "canTurn", "(IZ)Z"⟩
abbrev cX4_canMirror : ByteArray := prog_6_method_8_code
def yX4_canMirror : MethodName := ⟨RX4, "canMirror", "(Z)Z"⟩
abbrev cX4_whole : ByteArray := prog_6_method_9_code
def yX4_whole : MethodName := ⟨RX4, "whole", "()I"⟩
abbrev cX4_receive : ByteArray := prog_6_method_10_code
def yX4_receive : MethodName := ⟨RX4, "receive", "(II)V"⟩
abbrev cX4_giveAway : ByteArray := prog_6_method_11_code
def yX4_giveAway : MethodName := ⟨RX4, "giveAway", "(I)V"⟩
def RX5 : String := "CuttingRoom$Style"
def TX5 : u_T := fun k => match k with
  | 0 => ("CuttingRoom$Style", "counts", "[I", true)
  | _ => ("CuttingRoom$Style", "garments", "I", false)
def tyX5 : Nat → FieldType := fun k => match k with
  | 0 => .array .int
  | _ => .int
theorem nmX5 : ∀ a, a < 2 → ∀ b, b < 2 → a ≠ b → (TX5 a).2.1 ≠ (TX5 b).2.1 := by decide +kernel
theorem tyX5_ok : ∀ k, k < 2 → parseFieldDescriptor (TX5 k).2.2.1 = some (tyX5 k) := by decide +kernel
abbrev cX5_init : ByteArray := prog_7_method_1_code
def yX5_init : MethodName := ⟨RX5, "<init>", "()V"⟩
abbrev cX5_hasParts : ByteArray := prog_7_method_2_code
def yX5_hasParts : MethodName := ⟨RX5, "hasParts", "()Z"⟩
def RX6 : String := "CuttingRoom"
def TX6 : u_T := fun k => match k with
  | 0 => ("CuttingRoom", "cloth", "LCuttingRoom$Cloth;", true)
  | 1 => ("CuttingRoom", "marker", "LCuttingRoom$Marker;", true)
  | 2 => ("CuttingRoom", "shapes", "[LCuttingRoom$Shape;", true)
  | 3 => ("CuttingRoom", "shapeCount", "I", false)
  | 4 => ("CuttingRoom", "styles", "[LCuttingRoom$Style;", true)
  | 5 => ("CuttingRoom", "styleCount", "I", false)
  | 6 => ("CuttingRoom", "rollRows", "I", false)
  | 7 => ("CuttingRoom", "trial", "LCuttingRoom$Marker;", true)
  | 8 => ("CuttingRoom", "wanted", "[I", true)
  | 9 => ("CuttingRoom", "queue", "[I", true)
  | _ => ("CuttingRoom", "untaken", "[I", true)
def tyX6 : Nat → FieldType := fun k => match k with
  | 0 => .object "CuttingRoom$Cloth"
  | 1 => .object "CuttingRoom$Marker"
  | 2 => .array (.object "CuttingRoom$Shape")
  | 3 => .int
  | 4 => .array (.object "CuttingRoom$Style")
  | 5 => .int
  | 6 => .int
  | 7 => .object "CuttingRoom$Marker"
  | 8 => .array .int
  | 9 => .array .int
  | _ => .array .int
theorem nmX6 : ∀ a, a < 11 → ∀ b, b < 11 → a ≠ b → (TX6 a).2.1 ≠ (TX6 b).2.1 := by decide +kernel
theorem tyX6_ok : ∀ k, k < 11 → parseFieldDescriptor (TX6 k).2.2.1 = some (tyX6 k) := by decide +kernel
abbrev cX6_init : ByteArray := prog_1_method_1_code
def yX6_init : MethodName := ⟨RX6, "<init>", "()V"⟩
abbrev cX6_setCloth : ByteArray := prog_1_method_2_code
def yX6_setCloth : MethodName := ⟨RX6, "setCloth", "(IZI)I"⟩
abbrev cX6_fold : ByteArray := prog_1_method_3_code
def yX6_fold : MethodName := ⟨RX6, "fold", "(Z)Z"⟩
abbrev cX6_addFlaw : ByteArray := prog_1_method_4_code
def yX6_addFlaw : MethodName := ⟨RX6, "addFlaw", "(II)I"⟩
abbrev cX6_isUnderPiece : ByteArray := prog_1_method_5_code
def yX6_isUnderPiece : MethodName := ⟨RX6, "isUnderPiece", "(II)Z"⟩
abbrev cX6_clearFlaws : ByteArray := prog_1_method_6_code
def yX6_clearFlaws : MethodName := ⟨RX6, "clearFlaws", "()I"⟩
abbrev cX6_addShape : ByteArray := prog_1_method_7_code
def yX6_addShape : MethodName := ⟨RX6, "addShape", "(CZ)I"⟩
abbrev cX6_addCell : ByteArray := prog_1_method_8_code
def yX6_addCell : MethodName := ⟨RX6, "addCell", "(III)I"⟩
abbrev cX6_setMark : ByteArray := prog_1_method_9_code
def yX6_setMark : MethodName := ⟨RX6, "setMark", "(IIII)I"⟩
abbrev cX6_cellsOf : ByteArray := prog_1_method_10_code
def yX6_cellsOf : MethodName := ⟨RX6, "cellsOf", "(I)I"⟩
abbrev cX6_shapeOrThrow : ByteArray := prog_1_method_11_code
def yX6_shapeOrThrow : MethodName := ⟨RX6, "shapeOrThrow", "(I)LCuttingRoom$Shape;"⟩
abbrev cX6_shapeNumbered : ByteArray := prog_1_method_12_code
def yX6_shapeNumbered : MethodName := ⟨RX6, "shapeNumbered", "(I)LCuttingRoom$Shape;"⟩
abbrev cX6_lay : ByteArray := prog_1_method_13_code
def yX6_lay : MethodName := ⟨RX6, "lay", "(IIIIZ)I"⟩
abbrev cX6_reason : ByteArray := prog_1_method_14_code
def yX6_reason : MethodName := ⟨RX6, "reason", "(IIIIZ)C"⟩
abbrev cX6_checkTurns : ByteArray := prog_1_method_15_code
def yX6_checkTurns : MethodName := ⟨RX6, "checkTurns", "(I)V"⟩
abbrev cX6_nest : ByteArray := prog_1_method_16_code
def yX6_nest : MethodName := ⟨RX6, "nest", "(IZ)I"⟩
abbrev cX6_takeOff : ByteArray := prog_1_method_17_code
def yX6_takeOff : MethodName := ⟨RX6, "takeOff", "(I)I"⟩
abbrev cX6_clear : ByteArray := prog_1_method_18_code
def yX6_clear : MethodName := ⟨RX6, "clear", "()I"⟩
abbrev cX6_inMarker : ByteArray := prog_1_method_19_code
def yX6_inMarker : MethodName := ⟨RX6, "inMarker", "()I"⟩
abbrev cX6_rowOf : ByteArray := prog_1_method_20_code
def yX6_rowOf : MethodName := ⟨RX6, "rowOf", "(I)I"⟩
abbrev cX6_columnOf : ByteArray := prog_1_method_21_code
def yX6_columnOf : MethodName := ⟨RX6, "columnOf", "(I)I"⟩
abbrev cX6_turnsOf : ByteArray := prog_1_method_22_code
def yX6_turnsOf : MethodName := ⟨RX6, "turnsOf", "(I)I"⟩
abbrev cX6_pieceOrThrow : ByteArray := prog_1_method_23_code
def yX6_pieceOrThrow : MethodName := ⟨RX6, "pieceOrThrow", "(I)LCuttingRoom$Piece;"⟩
abbrev cX6_pieceAt : ByteArray := prog_1_method_24_code
def yX6_pieceAt : MethodName := ⟨RX6, "pieceAt", "(II)I"⟩
abbrev cX6_pieceByPieces : ByteArray := prog_1_method_25_code
def yX6_pieceByPieces : MethodName := ⟨RX6, "pieceByPieces", "(II)I"⟩
abbrev cX6_checkCell : ByteArray := prog_1_method_26_code
def yX6_checkCell : MethodName := ⟨RX6, "checkCell", "(II)V"⟩
abbrev cX6_numberOrThrow : ByteArray := prog_1_method_27_code
def yX6_numberOrThrow : MethodName := ⟨RX6, "numberOrThrow", "(I)I"⟩
abbrev cX6_length : ByteArray := prog_1_method_28_code
def yX6_length : MethodName := ⟨RX6, "length", "()I"⟩
abbrev cX6_used : ByteArray := prog_1_method_29_code
def yX6_used : MethodName := ⟨RX6, "used", "()I"⟩
abbrev cX6_phase : ByteArray := prog_1_method_30_code
def yX6_phase : MethodName := ⟨RX6, "phase", "(I)I"⟩
abbrev cX6_addStyle : ByteArray := prog_1_method_31_code
def yX6_addStyle : MethodName := ⟨RX6, "addStyle", "()I"⟩
abbrev cX6_addPart : ByteArray := prog_1_method_32_code
def yX6_addPart : MethodName := ⟨RX6, "addPart", "(III)I"⟩
abbrev cX6_piecesFor : ByteArray := prog_1_method_33_code
def yX6_piecesFor : MethodName := ⟨RX6, "piecesFor", "(I)I"⟩
abbrev cX6_styleOrThrow : ByteArray := prog_1_method_34_code
def yX6_styleOrThrow : MethodName := ⟨RX6, "styleOrThrow", "(I)LCuttingRoom$Style;"⟩
abbrev cX6_styleWithPartsOrThrow : ByteArray := prog_1_method_35_code
def yX6_styleWithPartsOrThrow : MethodName := ⟨RX6, "styleWithPartsOrThrow", "(I)LCuttingRoom$Style;"⟩
abbrev cX6_piecesOfGarment : ByteArray := prog_1_method_36_code
def yX6_piecesOfGarment : MethodName := ⟨RX6, "piecesOfGarment", "(LCuttingRoom$Style;)I"⟩
abbrev cX6_piecesOfPart : ByteArray := prog_1_method_37_code
def yX6_piecesOfPart : MethodName := ⟨RX6, "piecesOfPart", "(LCuttingRoom$Style;I)I"⟩
abbrev cX6_nestedLength : ByteArray := prog_1_method_38_code
def yX6_nestedLength : MethodName := ⟨RX6, "nestedLength", "(I)I"⟩
abbrev cX6_nestedByTrying : ByteArray := prog_1_method_39_code
def yX6_nestedByTrying : MethodName := ⟨RX6, "nestedByTrying", "(I)I"⟩
abbrev cX6_lengthOrThrow : ByteArray := prog_1_method_40_code
def yX6_lengthOrThrow : MethodName := ⟨RX6, "lengthOrThrow", "(I)I"⟩
abbrev cX6_wantPieces : ByteArray := prog_1_method_41_code
def yX6_wantPieces : MethodName := ⟨RX6, "wantPieces", "(LCuttingRoom$Style;)I"⟩
abbrev cX6_plainToNest : ByteArray := prog_1_method_42_code
def yX6_plainToNest : MethodName := ⟨RX6, "plainToNest", "(LCuttingRoom$Style;I)I"⟩
abbrev cX6_mirroredToNest : ByteArray := prog_1_method_43_code
def yX6_mirroredToNest : MethodName := ⟨RX6, "mirroredToNest", "(LCuttingRoom$Style;I)I"⟩
abbrev cX6_shortest : ByteArray := prog_1_method_44_code
def yX6_shortest : MethodName := ⟨RX6, "shortest", "(II)I"⟩
abbrev cX6_shortestWith : ByteArray := prog_1_method_45_code
def yX6_shortestWith : MethodName := ⟨RX6, "shortestWith", "(III)I"⟩
abbrev cX6_lengthInOrder : ByteArray := prog_1_method_46_code
def yX6_lengthInOrder : MethodName := ⟨RX6, "lengthInOrder", "(II)I"⟩
abbrev cX6_fillQueue : ByteArray := prog_1_method_47_code
def yX6_fillQueue : MethodName := ⟨RX6, "fillQueue", "()V"⟩
abbrev cX6_nestInTrial : ByteArray := prog_1_method_48_code
def yX6_nestInTrial : MethodName := ⟨RX6, "nestInTrial", "(I)I"⟩
abbrev cX6_kindOf : ByteArray := prog_1_method_49_code
def yX6_kindOf : MethodName := ⟨RX6, "kindOf", "(IZ)I"⟩
abbrev cX6_addCloth : ByteArray := prog_1_method_50_code
def yX6_addCloth : MethodName := ⟨RX6, "addCloth", "(I)I"⟩
abbrev cX6_roll : ByteArray := prog_1_method_51_code
def yX6_roll : MethodName := ⟨RX6, "roll", "()I"⟩
abbrev cX6_spread : ByteArray := prog_1_method_52_code
def yX6_spread : MethodName := ⟨RX6, "spread", "(I)I"⟩
abbrev cX6_stockHolds : ByteArray := prog_1_method_53_code
def yX6_stockHolds : MethodName := ⟨RX6, "stockHolds", "(I)Z"⟩
abbrev cX6_cutPlies : ByteArray := prog_1_method_54_code
def yX6_cutPlies : MethodName := ⟨RX6, "cutPlies", "(LCuttingRoom$Shape;I)V"⟩
abbrev cX6_perPly : ByteArray := prog_1_method_55_code
def yX6_perPly : MethodName := ⟨RX6, "perPly", "(LCuttingRoom$Shape;Z)I"⟩
abbrev cX6_pieces : ByteArray := prog_1_method_56_code
def yX6_pieces : MethodName := ⟨RX6, "pieces", "(IZ)I"⟩
abbrev cX6_cut : ByteArray := prog_1_method_57_code
def yX6_cut : MethodName := ⟨RX6, "cut", "()J"⟩
abbrev cX6_canMake : ByteArray := prog_1_method_58_code
def yX6_canMake : MethodName := ⟨RX6, "canMake", "(I)I"⟩
abbrev cX6_garmentsInStock : ByteArray := prog_1_method_59_code
def yX6_garmentsInStock : MethodName := ⟨RX6, "garmentsInStock", "(LCuttingRoom$Style;)I"⟩
abbrev cX6_canMakeByTaking : ByteArray := prog_1_method_60_code
def yX6_canMakeByTaking : MethodName := ⟨RX6, "canMakeByTaking", "(I)I"⟩
abbrev cX6_takesGarment : ByteArray := prog_1_method_61_code
def yX6_takesGarment : MethodName := ⟨RX6, "takesGarment", "(LCuttingRoom$Style;)Z"⟩
abbrev cX6_takesPart : ByteArray := prog_1_method_62_code
def yX6_takesPart : MethodName := ⟨RX6, "takesPart", "(IZI)Z"⟩
abbrev cX6_takesKind : ByteArray := prog_1_method_63_code
def yX6_takesKind : MethodName := ⟨RX6, "takesKind", "(II)Z"⟩
abbrev cX6_make : ByteArray := prog_1_method_64_code
def yX6_make : MethodName := ⟨RX6, "make", "(II)I"⟩
abbrev cX6_checkGarments : ByteArray := prog_1_method_65_code
def yX6_checkGarments : MethodName := ⟨RX6, "checkGarments", "(I)V"⟩
abbrev cX6_made : ByteArray := prog_1_method_66_code
def yX6_made : MethodName := ⟨RX6, "made", "(I)I"⟩
abbrev cX6_pliesFor : ByteArray := prog_1_method_67_code
def yX6_pliesFor : MethodName := ⟨RX6, "pliesFor", "(II)I"⟩
abbrev cX6_pliesForPart : ByteArray := prog_1_method_68_code
def yX6_pliesForPart : MethodName := ⟨RX6, "pliesForPart", "(LCuttingRoom$Shape;I)I"⟩
abbrev cX6_pliesForSort : ByteArray := prog_1_method_69_code
def yX6_pliesForSort : MethodName := ⟨RX6, "pliesForSort", "(II)I"⟩
abbrev cX6_density : ByteArray := prog_1_method_70_code
def yX6_density : MethodName := ⟨RX6, "density", "()F"⟩
abbrev cX6_meanCells : ByteArray := prog_1_method_71_code
def yX6_meanCells : MethodName := ⟨RX6, "meanCells", "()D"⟩
abbrev cX6_isSound : ByteArray := prog_1_method_72_code
def yX6_isSound : MethodName := ⟨RX6, "isSound", "()Z"⟩
abbrev cX6_inGarments : ByteArray := prog_1_method_73_code
def yX6_inGarments : MethodName := ⟨RX6, "inGarments", "(I)J"⟩
abbrev cX6_isWithin : ByteArray := prog_1_method_74_code
def yX6_isWithin : MethodName := ⟨RX6, "isWithin", "(III)Z"⟩
abbrev cX6_entry : ByteArray := prog_1_method_75_code
def yX6_entry : MethodName := ⟨RX6, "entry", "([II)I"⟩
abbrev cX6_store : ByteArray := prog_1_method_76_code
def yX6_store : MethodName := ⟨RX6, "store", "([III)V"⟩
abbrev cX6_hasBit : ByteArray := prog_1_method_77_code
def yX6_hasBit : MethodName := ⟨RX6, "hasBit", "(II)Z"⟩
abbrev cX6_firstBit : ByteArray := prog_1_method_78_code
def yX6_firstBit : MethodName := ⟨RX6, "firstBit", "(I)I"⟩
abbrev cX6_endOfBits : ByteArray := prog_1_method_79_code
def yX6_endOfBits : MethodName := ⟨RX6, "endOfBits", "(I)I"⟩
def RX7 : String := "CuttingRoomModel"
def TX7 : u_T := fun k => match k with
  | 0 => ("CuttingRoomModel", "thrown", "I", false)
  | 1 => ("CuttingRoomModel", "width", "I", false)
  | 2 => ("CuttingRoomModel", "nap", "Z", false)
  | 3 => ("CuttingRoomModel", "folded", "Z", false)
  | 4 => ("CuttingRoomModel", "stripes", "I", false)
  | 5 => ("CuttingRoomModel", "flaws", "I", false)
  | 6 => ("CuttingRoomModel", "flaw", "[Z", true)
  | 7 => ("CuttingRoomModel", "shapes", "I", false)
  | 8 => ("CuttingRoomModel", "rule", "[C", true)
  | 9 => ("CuttingRoomModel", "paired", "[Z", true)
  | 10 => ("CuttingRoomModel", "drawn", "[Z", true)
  | 11 => ("CuttingRoomModel", "size", "[I", true)
  | 12 => ("CuttingRoomModel", "group", "[I", true)
  | 13 => ("CuttingRoomModel", "markRow", "[I", true)
  | 14 => ("CuttingRoomModel", "markColumn", "[I", true)
  | 15 => ("CuttingRoomModel", "everCut", "[Z", true)
  | 16 => ("CuttingRoomModel", "stock", "[I", true)
  | 17 => ("CuttingRoomModel", "many", "I", false)
  | 18 => ("CuttingRoomModel", "next", "I", false)
  | 19 => ("CuttingRoomModel", "number", "[I", true)
  | 20 => ("CuttingRoomModel", "shapeOf", "[I", true)
  | 21 => ("CuttingRoomModel", "rowAt", "[I", true)
  | 22 => ("CuttingRoomModel", "columnAt", "[I", true)
  | 23 => ("CuttingRoomModel", "turned", "[I", true)
  | 24 => ("CuttingRoomModel", "mirrored", "[Z", true)
  | 25 => ("CuttingRoomModel", "cloth", "[I", true)
  | 26 => ("CuttingRoomModel", "phase", "[I", true)
  | 27 => ("CuttingRoomModel", "ofGroup", "[I", true)
  | 28 => ("CuttingRoomModel", "styles", "I", false)
  | 29 => ("CuttingRoomModel", "count", "[I", true)
  | 30 => ("CuttingRoomModel", "made", "[I", true)
  | 31 => ("CuttingRoomModel", "roll", "I", false)
  | 32 => ("CuttingRoomModel", "cutAll", "J", false)
  | 33 => ("CuttingRoomModel", "cellMany", "I", false)
  | 34 => ("CuttingRoomModel", "cellRow", "[I", true)
  | 35 => ("CuttingRoomModel", "cellColumn", "[I", true)
  | 36 => ("CuttingRoomModel", "markBehind", "I", false)
  | 37 => ("CuttingRoomModel", "nestRow", "I", false)
  | 38 => ("CuttingRoomModel", "nestColumn", "I", false)
  | 39 => ("CuttingRoomModel", "nestTurns", "I", false)
  | 40 => ("CuttingRoomModel", "queue", "[I", true)
  | 41 => ("CuttingRoomModel", "queued", "I", false)
  | 42 => ("CuttingRoomModel", "keptNumber", "[I", true)
  | 43 => ("CuttingRoomModel", "keptShape", "[I", true)
  | 44 => ("CuttingRoomModel", "keptRow", "[I", true)
  | 45 => ("CuttingRoomModel", "keptColumn", "[I", true)
  | 46 => ("CuttingRoomModel", "keptTurns", "[I", true)
  | 47 => ("CuttingRoomModel", "keptMirror", "[Z", true)
  | _ => ("CuttingRoomModel", "least", "I", false)
def tyX7 : Nat → FieldType := fun k => match k with
  | 0 => .int
  | 1 => .int
  | 2 => .boolean
  | 3 => .boolean
  | 4 => .int
  | 5 => .int
  | 6 => .array .boolean
  | 7 => .int
  | 8 => .array .char
  | 9 => .array .boolean
  | 10 => .array .boolean
  | 11 => .array .int
  | 12 => .array .int
  | 13 => .array .int
  | 14 => .array .int
  | 15 => .array .boolean
  | 16 => .array .int
  | 17 => .int
  | 18 => .int
  | 19 => .array .int
  | 20 => .array .int
  | 21 => .array .int
  | 22 => .array .int
  | 23 => .array .int
  | 24 => .array .boolean
  | 25 => .array .int
  | 26 => .array .int
  | 27 => .array .int
  | 28 => .int
  | 29 => .array .int
  | 30 => .array .int
  | 31 => .int
  | 32 => .long
  | 33 => .int
  | 34 => .array .int
  | 35 => .array .int
  | 36 => .int
  | 37 => .int
  | 38 => .int
  | 39 => .int
  | 40 => .array .int
  | 41 => .int
  | 42 => .array .int
  | 43 => .array .int
  | 44 => .array .int
  | 45 => .array .int
  | 46 => .array .int
  | 47 => .array .boolean
  | _ => .int
theorem nmX7 : ∀ a, a < 49 → ∀ b, b < 49 → a ≠ b → (TX7 a).2.1 ≠ (TX7 b).2.1 := by decide +kernel
theorem tyX7_ok : ∀ k, k < 49 → parseFieldDescriptor (TX7 k).2.2.1 = some (tyX7 k) := by decide +kernel
abbrev cX7_init : ByteArray := prog_9_method_1_code
def yX7_init : MethodName := ⟨RX7, "<init>", "()V"⟩
abbrev cX7_thrown : ByteArray := prog_9_method_2_code
def yX7_thrown : MethodName := ⟨RX7, "thrown", "()I"⟩
abbrev cX7_fails : ByteArray := prog_9_method_3_code
def yX7_fails : MethodName := ⟨RX7, "fails", "(I)Z"⟩
abbrev cX7_in : ByteArray := prog_9_method_4_code
def yX7_in : MethodName := ⟨RX7, "in", "(III)Z"⟩
abbrev cX7_empties : ByteArray := prog_9_method_5_code
def yX7_empties : MethodName := ⟨RX7, "empties", "()V"⟩
abbrev cX7_columns : ByteArray := prog_9_method_6_code
def yX7_columns : MethodName := ⟨RX7, "columns", "()I"⟩
abbrev cX7_isBad : ByteArray := prog_9_method_7_code
def yX7_isBad : MethodName := ⟨RX7, "isBad", "(II)Z"⟩
abbrev cX7_setCloth : ByteArray := prog_9_method_8_code
def yX7_setCloth : MethodName := ⟨RX7, "setCloth", "(IZI)I"⟩
abbrev cX7_fold : ByteArray := prog_9_method_9_code
def yX7_fold : MethodName := ⟨RX7, "fold", "(Z)Z"⟩
abbrev cX7_isUnderPiece : ByteArray := prog_9_method_10_code
def yX7_isUnderPiece : MethodName := ⟨RX7, "isUnderPiece", "(II)Z"⟩
abbrev cX7_addFlaw : ByteArray := prog_9_method_11_code
def yX7_addFlaw : MethodName := ⟨RX7, "addFlaw", "(II)I"⟩
abbrev cX7_clearFlaws : ByteArray := prog_9_method_12_code
def yX7_clearFlaws : MethodName := ⟨RX7, "clearFlaws", "()I"⟩
abbrev cX7_isShape : ByteArray := prog_9_method_13_code
def yX7_isShape : MethodName := ⟨RX7, "isShape", "(I)Z"⟩
abbrev cX7_addShape : ByteArray := prog_9_method_14_code
def yX7_addShape : MethodName := ⟨RX7, "addShape", "(CZ)I"⟩
abbrev cX7_isLaid : ByteArray := prog_9_method_15_code
def yX7_isLaid : MethodName := ⟨RX7, "isLaid", "(I)Z"⟩
abbrev cX7_addCell : ByteArray := prog_9_method_16_code
def yX7_addCell : MethodName := ⟨RX7, "addCell", "(III)I"⟩
abbrev cX7_setMark : ByteArray := prog_9_method_17_code
def yX7_setMark : MethodName := ⟨RX7, "setMark", "(IIII)I"⟩
abbrev cX7_cellsOf : ByteArray := prog_9_method_18_code
def yX7_cellsOf : MethodName := ⟨RX7, "cellsOf", "(I)I"⟩
abbrev cX7_turnedRow : ByteArray := prog_9_method_19_code
def yX7_turnedRow : MethodName := ⟨RX7, "turnedRow", "(III)I"⟩
abbrev cX7_turnedColumn : ByteArray := prog_9_method_20_code
def yX7_turnedColumn : MethodName := ⟨RX7, "turnedColumn", "(III)I"⟩
abbrev cX7_turns : ByteArray := prog_9_method_21_code
def yX7_turns : MethodName := ⟨RX7, "turns", "(IIZ)V"⟩
abbrev cX7_mayTurn : ByteArray := prog_9_method_22_code
def yX7_mayTurn : MethodName := ⟨RX7, "mayTurn", "(II)Z"⟩
abbrev cX7_isMarked : ByteArray := prog_9_method_23_code
def yX7_isMarked : MethodName := ⟨RX7, "isMarked", "(I)Z"⟩
abbrev cX7_remainder : ByteArray := prog_9_method_24_code
def yX7_remainder : MethodName := ⟨RX7, "remainder", "(I)I"⟩
abbrev cX7_worst : ByteArray := prog_9_method_25_code
def yX7_worst : MethodName := ⟨RX7, "worst", "(II)I"⟩
abbrev cX7_reasonFor : ByteArray := prog_9_method_26_code
def yX7_reasonFor : MethodName := ⟨RX7, "reasonFor", "(IIIIZ)C"⟩
abbrev cX7_puts : ByteArray := prog_9_method_27_code
def yX7_puts : MethodName := ⟨RX7, "puts", "(IIIIZ)I"⟩
abbrev cX7_takes : ByteArray := prog_9_method_28_code
def yX7_takes : MethodName := ⟨RX7, "takes", "(I)V"⟩
abbrev cX7_lay : ByteArray := prog_9_method_29_code
def yX7_lay : MethodName := ⟨RX7, "lay", "(IIIIZ)I"⟩
abbrev cX7_reason : ByteArray := prog_9_method_30_code
def yX7_reason : MethodName := ⟨RX7, "reason", "(IIIIZ)C"⟩
abbrev cX7_isNested : ByteArray := prog_9_method_31_code
def yX7_isNested : MethodName := ⟨RX7, "isNested", "(IZ)Z"⟩
abbrev cX7_nest : ByteArray := prog_9_method_32_code
def yX7_nest : MethodName := ⟨RX7, "nest", "(IZ)I"⟩
abbrev cX7_placeOf : ByteArray := prog_9_method_33_code
def yX7_placeOf : MethodName := ⟨RX7, "placeOf", "(I)I"⟩
abbrev cX7_longest : ByteArray := prog_9_method_34_code
def yX7_longest : MethodName := ⟨RX7, "longest", "()I"⟩
abbrev cX7_takeOff : ByteArray := prog_9_method_35_code
def yX7_takeOff : MethodName := ⟨RX7, "takeOff", "(I)I"⟩
abbrev cX7_clear : ByteArray := prog_9_method_36_code
def yX7_clear : MethodName := ⟨RX7, "clear", "()I"⟩
abbrev cX7_inMarker : ByteArray := prog_9_method_37_code
def yX7_inMarker : MethodName := ⟨RX7, "inMarker", "()I"⟩
abbrev cX7_rowOf : ByteArray := prog_9_method_38_code
def yX7_rowOf : MethodName := ⟨RX7, "rowOf", "(I)I"⟩
abbrev cX7_columnOf : ByteArray := prog_9_method_39_code
def yX7_columnOf : MethodName := ⟨RX7, "columnOf", "(I)I"⟩
abbrev cX7_turnsOf : ByteArray := prog_9_method_40_code
def yX7_turnsOf : MethodName := ⟨RX7, "turnsOf", "(I)I"⟩
abbrev cX7_pieceAt : ByteArray := prog_9_method_41_code
def yX7_pieceAt : MethodName := ⟨RX7, "pieceAt", "(II)I"⟩
abbrev cX7_pieceByPieces : ByteArray := prog_9_method_42_code
def yX7_pieceByPieces : MethodName := ⟨RX7, "pieceByPieces", "(II)I"⟩
abbrev cX7_length : ByteArray := prog_9_method_43_code
def yX7_length : MethodName := ⟨RX7, "length", "()I"⟩
abbrev cX7_cellsUsed : ByteArray := prog_9_method_44_code
def yX7_cellsUsed : MethodName := ⟨RX7, "cellsUsed", "()I"⟩
abbrev cX7_used : ByteArray := prog_9_method_45_code
def yX7_used : MethodName := ⟨RX7, "used", "()I"⟩
abbrev cX7_phase : ByteArray := prog_9_method_46_code
def yX7_phase : MethodName := ⟨RX7, "phase", "(I)I"⟩
abbrev cX7_isStyle : ByteArray := prog_9_method_47_code
def yX7_isStyle : MethodName := ⟨RX7, "isStyle", "(I)Z"⟩
abbrev cX7_addStyle : ByteArray := prog_9_method_48_code
def yX7_addStyle : MethodName := ⟨RX7, "addStyle", "()I"⟩
abbrev cX7_takenBy : ByteArray := prog_9_method_49_code
def yX7_takenBy : MethodName := ⟨RX7, "takenBy", "(I)I"⟩
abbrev cX7_addPart : ByteArray := prog_9_method_50_code
def yX7_addPart : MethodName := ⟨RX7, "addPart", "(III)I"⟩
abbrev cX7_piecesFor : ByteArray := prog_9_method_51_code
def yX7_piecesFor : MethodName := ⟨RX7, "piecesFor", "(I)I"⟩
abbrev cX7_queues : ByteArray := prog_9_method_52_code
def yX7_queues : MethodName := ⟨RX7, "queues", "(I)Z"⟩
abbrev cX7_tries : ByteArray := prog_9_method_53_code
def yX7_tries : MethodName := ⟨RX7, "tries", "(I)V"⟩
abbrev cX7_leastLength : ByteArray := prog_9_method_54_code
def yX7_leastLength : MethodName := ⟨RX7, "leastLength", "()I"⟩
abbrev cX7_nestedLength : ByteArray := prog_9_method_55_code
def yX7_nestedLength : MethodName := ⟨RX7, "nestedLength", "(I)I"⟩
abbrev cX7_nestedByTrying : ByteArray := prog_9_method_56_code
def yX7_nestedByTrying : MethodName := ⟨RX7, "nestedByTrying", "(I)I"⟩
abbrev cX7_addCloth : ByteArray := prog_9_method_57_code
def yX7_addCloth : MethodName := ⟨RX7, "addCloth", "(I)I"⟩
abbrev cX7_roll : ByteArray := prog_9_method_58_code
def yX7_roll : MethodName := ⟨RX7, "roll", "()I"⟩
abbrev cX7_givenBy : ByteArray := prog_9_method_59_code
def yX7_givenBy : MethodName := ⟨RX7, "givenBy", "(IZ)I"⟩
abbrev cX7_isMuch : ByteArray := prog_9_method_60_code
def yX7_isMuch : MethodName := ⟨RX7, "isMuch", "(I)Z"⟩
abbrev cX7_takenFromRoll : ByteArray := prog_9_method_61_code
def yX7_takenFromRoll : MethodName := ⟨RX7, "takenFromRoll", "(I)I"⟩
abbrev cX7_spread : ByteArray := prog_9_method_62_code
def yX7_spread : MethodName := ⟨RX7, "spread", "(I)I"⟩
abbrev cX7_pieces : ByteArray := prog_9_method_63_code
def yX7_pieces : MethodName := ⟨RX7, "pieces", "(IZ)I"⟩
abbrev cX7_makes : ByteArray := prog_9_method_64_code
def yX7_makes : MethodName := ⟨RX7, "makes", "(II)I"⟩
abbrev cX7_canMake : ByteArray := prog_9_method_65_code
def yX7_canMake : MethodName := ⟨RX7, "canMake", "(I)I"⟩
abbrev cX7_canMakeByTaking : ByteArray := prog_9_method_66_code
def yX7_canMakeByTaking : MethodName := ⟨RX7, "canMakeByTaking", "(I)I"⟩
abbrev cX7_make : ByteArray := prog_9_method_67_code
def yX7_make : MethodName := ⟨RX7, "make", "(II)I"⟩
abbrev cX7_made : ByteArray := prog_9_method_68_code
def yX7_made : MethodName := ⟨RX7, "made", "(I)I"⟩
abbrev cX7_pliesFor : ByteArray := prog_9_method_69_code
def yX7_pliesFor : MethodName := ⟨RX7, "pliesFor", "(II)I"⟩
abbrev cX7_cut : ByteArray := prog_9_method_70_code
def yX7_cut : MethodName := ⟨RX7, "cut", "()J"⟩
abbrev cX7_density : ByteArray := prog_9_method_71_code
def yX7_density : MethodName := ⟨RX7, "density", "()F"⟩
abbrev cX7_meanCells : ByteArray := prog_9_method_72_code
def yX7_meanCells : MethodName := ⟨RX7, "meanCells", "()D"⟩
abbrev cX7_isSound : ByteArray := prog_9_method_73_code
def yX7_isSound : MethodName := ⟨RX7, "isSound", "()Z"⟩
def RJ9 : String := "java/lang/Math"
abbrev cJ9_floorMod_7cf53 : ByteArray := prog_17_method_50_code
def yJ9_floorMod_7cf53 : MethodName := ⟨RJ9, "floorMod", "(II)I"⟩
abbrev cJ9_max_7cf53 : ByteArray := prog_17_method_65_code
def yJ9_max_7cf53 : MethodName := ⟨RJ9, "max", "(II)I"⟩
abbrev cJ9_min_7cf53 : ByteArray := prog_17_method_69_code
def yJ9_min_7cf53 : MethodName := ⟨RJ9, "min", "(II)I"⟩
def RJ7 : String := "java/util/Arrays"
abbrev cJ7_fill_53178 : ByteArray := prog_22_method_103_code
def yJ7_fill_53178 : MethodName := ⟨RJ7, "fill", "([II)V"⟩
def RL : String := "CuttingRoomLaw"
abbrev cL_setCloth : ByteArray := method_3_code
def yL_setCloth : MethodName := ⟨RL, "setCloth", "(LCuttingRoom;IZI[J)I"⟩
abbrev cL_fold : ByteArray := method_4_code
def yL_fold : MethodName := ⟨RL, "fold", "(LCuttingRoom;Z[J)I"⟩
abbrev cL_addFlaw : ByteArray := method_5_code
def yL_addFlaw : MethodName := ⟨RL, "addFlaw", "(LCuttingRoom;II[J)I"⟩
abbrev cL_addShape : ByteArray := method_6_code
def yL_addShape : MethodName := ⟨RL, "addShape", "(LCuttingRoom;CZ[J)I"⟩
abbrev cL_addCell : ByteArray := method_7_code
def yL_addCell : MethodName := ⟨RL, "addCell", "(LCuttingRoom;III[J)I"⟩
abbrev cL_setMark : ByteArray := method_8_code
def yL_setMark : MethodName := ⟨RL, "setMark", "(LCuttingRoom;IIII[J)I"⟩
abbrev cL_cellsOf : ByteArray := method_9_code
def yL_cellsOf : MethodName := ⟨RL, "cellsOf", "(LCuttingRoom;I[J)I"⟩
abbrev cL_lay : ByteArray := method_10_code
def yL_lay : MethodName := ⟨RL, "lay", "(LCuttingRoom;IIIIZ[J)I"⟩
abbrev cL_reason : ByteArray := method_11_code
def yL_reason : MethodName := ⟨RL, "reason", "(LCuttingRoom;IIIIZ[J)I"⟩
abbrev cL_nest : ByteArray := method_12_code
def yL_nest : MethodName := ⟨RL, "nest", "(LCuttingRoom;IZ[J)I"⟩
abbrev cL_takeOff : ByteArray := method_13_code
def yL_takeOff : MethodName := ⟨RL, "takeOff", "(LCuttingRoom;I[J)I"⟩
abbrev cL_rowOf : ByteArray := method_14_code
def yL_rowOf : MethodName := ⟨RL, "rowOf", "(LCuttingRoom;I[J)I"⟩
abbrev cL_columnOf : ByteArray := method_15_code
def yL_columnOf : MethodName := ⟨RL, "columnOf", "(LCuttingRoom;I[J)I"⟩
abbrev cL_turnsOf : ByteArray := method_16_code
def yL_turnsOf : MethodName := ⟨RL, "turnsOf", "(LCuttingRoom;I[J)I"⟩
abbrev cL_pieceAt : ByteArray := method_17_code
def yL_pieceAt : MethodName := ⟨RL, "pieceAt", "(LCuttingRoom;II[J)I"⟩
abbrev cL_pieceByPieces : ByteArray := method_18_code
def yL_pieceByPieces : MethodName := ⟨RL, "pieceByPieces", "(LCuttingRoom;II[J)I"⟩
abbrev cL_phase : ByteArray := method_19_code
def yL_phase : MethodName := ⟨RL, "phase", "(LCuttingRoom;I[J)I"⟩
abbrev cL_addStyle : ByteArray := method_20_code
def yL_addStyle : MethodName := ⟨RL, "addStyle", "(LCuttingRoom;[J)I"⟩
abbrev cL_addPart : ByteArray := method_21_code
def yL_addPart : MethodName := ⟨RL, "addPart", "(LCuttingRoom;III[J)I"⟩
abbrev cL_piecesFor : ByteArray := method_22_code
def yL_piecesFor : MethodName := ⟨RL, "piecesFor", "(LCuttingRoom;I[J)I"⟩
abbrev cL_nestedLength : ByteArray := method_23_code
def yL_nestedLength : MethodName := ⟨RL, "nestedLength", "(LCuttingRoom;I[J)I"⟩
abbrev cL_nestedByTrying : ByteArray := method_24_code
def yL_nestedByTrying : MethodName := ⟨RL, "nestedByTrying", "(LCuttingRoom;I[J)I"⟩
abbrev cL_addCloth : ByteArray := method_25_code
def yL_addCloth : MethodName := ⟨RL, "addCloth", "(LCuttingRoom;I[J)I"⟩
abbrev cL_spread : ByteArray := method_26_code
def yL_spread : MethodName := ⟨RL, "spread", "(LCuttingRoom;I[J)I"⟩
abbrev cL_pieces : ByteArray := method_27_code
def yL_pieces : MethodName := ⟨RL, "pieces", "(LCuttingRoom;IZ[J)I"⟩
abbrev cL_canMake : ByteArray := method_28_code
def yL_canMake : MethodName := ⟨RL, "canMake", "(LCuttingRoom;I[J)I"⟩
abbrev cL_canMakeByTaking : ByteArray := method_29_code
def yL_canMakeByTaking : MethodName := ⟨RL, "canMakeByTaking", "(LCuttingRoom;I[J)I"⟩
abbrev cL_make : ByteArray := method_30_code
def yL_make : MethodName := ⟨RL, "make", "(LCuttingRoom;II[J)I"⟩
abbrev cL_made : ByteArray := method_31_code
def yL_made : MethodName := ⟨RL, "made", "(LCuttingRoom;I[J)I"⟩
abbrev cL_pliesFor : ByteArray := method_32_code
def yL_pliesFor : MethodName := ⟨RL, "pliesFor", "(LCuttingRoom;II[J)I"⟩
abbrev cL_density : ByteArray := method_33_code
def yL_density : MethodName := ⟨RL, "density", "(LCuttingRoom;[D)I"⟩
abbrev cL_meanCells : ByteArray := method_34_code
def yL_meanCells : MethodName := ⟨RL, "meanCells", "(LCuttingRoom;[D)I"⟩
abbrev cL_law : ByteArray := code
def yL_law : MethodName := ⟨RL, "law", "([I)Z"⟩
end
section
def DI (cc : ByteArray) (pc : Nat) (i : Instr) (n pc' : Nat) : Prop := decode cc pc = .ok (i, n) ∧ pc + n = pc'
def DJ (cc : ByteArray) (pc : Nat) (i : Instr) (off : Int) (tgt pc' : Nat) : Prop := decode cc pc = .ok (i, 3) ∧ (pc : Int) + off = (tgt : Int) ∧ pc + 3 = pc'
theorem dJ7_fill_53178_0 : DI cJ7_fill_53178 0 (.iconst 0) 1 1 := ⟨by decide +kernel, rfl⟩
theorem dJ7_fill_53178_1 : DI cJ7_fill_53178 1 (.istore_n 2) 1 2 := ⟨by decide +kernel, rfl⟩
theorem dJ7_fill_53178_2 : DI cJ7_fill_53178 2 (.aload_n 0) 1 3 := ⟨by decide +kernel, rfl⟩
theorem dJ7_fill_53178_3 : DI cJ7_fill_53178 3 (.arraylength) 1 4 := ⟨by decide +kernel, rfl⟩
theorem dJ7_fill_53178_4 : DI cJ7_fill_53178 4 (.istore_n 3) 1 5 := ⟨by decide +kernel, rfl⟩
theorem dJ7_fill_53178_5 : DI cJ7_fill_53178 5 (.iload_n 2) 1 6 := ⟨by decide +kernel, rfl⟩
theorem dJ7_fill_53178_6 : DI cJ7_fill_53178 6 (.iload_n 3) 1 7 := ⟨by decide +kernel, rfl⟩
theorem dJ7_fill_53178_7 : DJ cJ7_fill_53178 7 (.if_icmp .ge 13) 13 20 10 := ⟨by decide +kernel, by decide, rfl⟩
theorem dJ7_fill_53178_10 : DI cJ7_fill_53178 10 (.aload_n 0) 1 11 := ⟨by decide +kernel, rfl⟩
theorem dJ7_fill_53178_11 : DI cJ7_fill_53178 11 (.iload_n 2) 1 12 := ⟨by decide +kernel, rfl⟩
theorem dJ7_fill_53178_12 : DI cJ7_fill_53178 12 (.iload_n 1) 1 13 := ⟨by decide +kernel, rfl⟩
theorem dJ7_fill_53178_13 : DI cJ7_fill_53178 13 (.iastore) 1 14 := ⟨by decide +kernel, rfl⟩
theorem dJ7_fill_53178_14 : DI cJ7_fill_53178 14 (.iinc 2 1) 3 17 := ⟨by decide +kernel, rfl⟩
theorem dJ7_fill_53178_17 : DJ cJ7_fill_53178 17 (.goto (-12)) (-12) 5 20 := ⟨by decide +kernel, by decide, rfl⟩
theorem dJ7_fill_53178_20 : DI cJ7_fill_53178 20 (.return_) 1 21 := ⟨by decide +kernel, rfl⟩
theorem dJ9_floorMod_7cf53_0 : DI cJ9_floorMod_7cf53 0 (.iload_n 0) 1 1 := ⟨by decide +kernel, rfl⟩
theorem dJ9_floorMod_7cf53_1 : DI cJ9_floorMod_7cf53 1 (.iload_n 1) 1 2 := ⟨by decide +kernel, rfl⟩
theorem dJ9_floorMod_7cf53_2 : DI cJ9_floorMod_7cf53 2 (.irem) 1 3 := ⟨by decide +kernel, rfl⟩
theorem dJ9_floorMod_7cf53_3 : DI cJ9_floorMod_7cf53 3 (.istore_n 2) 1 4 := ⟨by decide +kernel, rfl⟩
theorem dJ9_floorMod_7cf53_4 : DI cJ9_floorMod_7cf53 4 (.iload_n 0) 1 5 := ⟨by decide +kernel, rfl⟩
theorem dJ9_floorMod_7cf53_5 : DI cJ9_floorMod_7cf53 5 (.iload_n 1) 1 6 := ⟨by decide +kernel, rfl⟩
theorem dJ9_floorMod_7cf53_6 : DI cJ9_floorMod_7cf53 6 (.ixor) 1 7 := ⟨by decide +kernel, rfl⟩
theorem dJ9_floorMod_7cf53_7 : DJ cJ9_floorMod_7cf53 7 (.ifCond .ge 11) 11 18 10 := ⟨by decide +kernel, by decide, rfl⟩
theorem dJ9_floorMod_7cf53_10 : DI cJ9_floorMod_7cf53 10 (.iload_n 2) 1 11 := ⟨by decide +kernel, rfl⟩
theorem dJ9_floorMod_7cf53_11 : DJ cJ9_floorMod_7cf53 11 (.ifCond .eq 7) 7 18 14 := ⟨by decide +kernel, by decide, rfl⟩
theorem dJ9_floorMod_7cf53_14 : DI cJ9_floorMod_7cf53 14 (.iload_n 2) 1 15 := ⟨by decide +kernel, rfl⟩
theorem dJ9_floorMod_7cf53_15 : DI cJ9_floorMod_7cf53 15 (.iload_n 1) 1 16 := ⟨by decide +kernel, rfl⟩
theorem dJ9_floorMod_7cf53_16 : DI cJ9_floorMod_7cf53 16 (.iadd) 1 17 := ⟨by decide +kernel, rfl⟩
theorem dJ9_floorMod_7cf53_17 : DI cJ9_floorMod_7cf53 17 (.ireturn) 1 18 := ⟨by decide +kernel, rfl⟩
theorem dJ9_floorMod_7cf53_18 : DI cJ9_floorMod_7cf53 18 (.iload_n 2) 1 19 := ⟨by decide +kernel, rfl⟩
theorem dJ9_floorMod_7cf53_19 : DI cJ9_floorMod_7cf53 19 (.ireturn) 1 20 := ⟨by decide +kernel, rfl⟩
theorem dJ9_max_7cf53_0 : DI cJ9_max_7cf53 0 (.iload_n 0) 1 1 := ⟨by decide +kernel, rfl⟩
theorem dJ9_max_7cf53_1 : DI cJ9_max_7cf53 1 (.iload_n 1) 1 2 := ⟨by decide +kernel, rfl⟩
theorem dJ9_max_7cf53_2 : DJ cJ9_max_7cf53 2 (.if_icmp .lt 7) 7 9 5 := ⟨by decide +kernel, by decide, rfl⟩
theorem dJ9_max_7cf53_5 : DI cJ9_max_7cf53 5 (.iload_n 0) 1 6 := ⟨by decide +kernel, rfl⟩
theorem dJ9_max_7cf53_6 : DJ cJ9_max_7cf53 6 (.goto 4) 4 10 9 := ⟨by decide +kernel, by decide, rfl⟩
theorem dJ9_max_7cf53_9 : DI cJ9_max_7cf53 9 (.iload_n 1) 1 10 := ⟨by decide +kernel, rfl⟩
theorem dJ9_max_7cf53_10 : DI cJ9_max_7cf53 10 (.ireturn) 1 11 := ⟨by decide +kernel, rfl⟩
theorem dJ9_min_7cf53_0 : DI cJ9_min_7cf53 0 (.iload_n 0) 1 1 := ⟨by decide +kernel, rfl⟩
theorem dJ9_min_7cf53_1 : DI cJ9_min_7cf53 1 (.iload_n 1) 1 2 := ⟨by decide +kernel, rfl⟩
theorem dJ9_min_7cf53_2 : DJ cJ9_min_7cf53 2 (.if_icmp .gt 7) 7 9 5 := ⟨by decide +kernel, by decide, rfl⟩
theorem dJ9_min_7cf53_5 : DI cJ9_min_7cf53 5 (.iload_n 0) 1 6 := ⟨by decide +kernel, rfl⟩
theorem dJ9_min_7cf53_6 : DJ cJ9_min_7cf53 6 (.goto 4) 4 10 9 := ⟨by decide +kernel, by decide, rfl⟩
theorem dJ9_min_7cf53_9 : DI cJ9_min_7cf53 9 (.iload_n 1) 1 10 := ⟨by decide +kernel, rfl⟩
theorem dJ9_min_7cf53_10 : DI cJ9_min_7cf53 10 (.ireturn) 1 11 := ⟨by decide +kernel, rfl⟩
theorem dX0_init_0 : DI cX0_init 0 (.aload_n 0) 1 1 := ⟨by decide +kernel, rfl⟩
theorem dX0_init_1 : DI cX0_init 1 (.invokespecial 3) 3 4 := ⟨by decide +kernel, rfl⟩
theorem dX0_init_4 : DI cX0_init 4 (.aload_n 0) 1 5 := ⟨by decide +kernel, rfl⟩
theorem dX0_init_5 : DI cX0_init 5 (.bipush 12) 2 7 := ⟨by decide +kernel, rfl⟩
theorem dX0_init_7 : DI cX0_init 7 (.putfield 9) 3 10 := ⟨by decide +kernel, rfl⟩
theorem dX0_init_10 : DI cX0_init 10 (.aload_n 0) 1 11 := ⟨by decide +kernel, rfl⟩
theorem dX0_init_11 : DI cX0_init 11 (.bipush 60) 2 13 := ⟨by decide +kernel, rfl⟩
theorem dX0_init_13 : DI cX0_init 13 (.newarray .int) 2 15 := ⟨by decide +kernel, rfl⟩
theorem dX0_init_15 : DI cX0_init 15 (.putfield 15) 3 18 := ⟨by decide +kernel, rfl⟩
theorem dX0_init_18 : DI cX0_init 18 (.aload_n 0) 1 19 := ⟨by decide +kernel, rfl⟩
theorem dX0_init_19 : DI cX0_init 19 (.bipush 60) 2 21 := ⟨by decide +kernel, rfl⟩
theorem dX0_init_21 : DI cX0_init 21 (.newarray .int) 2 23 := ⟨by decide +kernel, rfl⟩
theorem dX0_init_23 : DI cX0_init 23 (.putfield 19) 3 26 := ⟨by decide +kernel, rfl⟩
theorem dX0_init_26 : DI cX0_init 26 (.return_) 1 27 := ⟨by decide +kernel, rfl⟩
theorem dX0_openColumns_0 : DI cX0_openColumns 0 (.aload_n 0) 1 1 := ⟨by decide +kernel, rfl⟩
theorem dX0_openColumns_1 : DI cX0_openColumns 1 (.getfield 22) 3 4 := ⟨by decide +kernel, rfl⟩
theorem dX0_openColumns_4 : DJ cX0_openColumns 4 (.ifCond .eq 12) 12 16 7 := ⟨by decide +kernel, by decide, rfl⟩
theorem dX0_openColumns_7 : DI cX0_openColumns 7 (.aload_n 0) 1 8 := ⟨by decide +kernel, rfl⟩
theorem dX0_openColumns_8 : DI cX0_openColumns 8 (.getfield 9) 3 11 := ⟨by decide +kernel, rfl⟩
theorem dX0_openColumns_11 : DI cX0_openColumns 11 (.iconst 2) 1 12 := ⟨by decide +kernel, rfl⟩
theorem dX0_openColumns_12 : DI cX0_openColumns 12 (.idiv) 1 13 := ⟨by decide +kernel, rfl⟩
theorem dX0_openColumns_13 : DJ cX0_openColumns 13 (.goto 7) 7 20 16 := ⟨by decide +kernel, by decide, rfl⟩
theorem dX0_openColumns_16 : DI cX0_openColumns 16 (.aload_n 0) 1 17 := ⟨by decide +kernel, rfl⟩
theorem dX0_openColumns_17 : DI cX0_openColumns 17 (.getfield 9) 3 20 := ⟨by decide +kernel, rfl⟩
theorem dX0_openColumns_20 : DI cX0_openColumns 20 (.ireturn) 1 21 := ⟨by decide +kernel, rfl⟩
theorem dX0_isStriped_0 : DI cX0_isStriped 0 (.aload_n 0) 1 1 := ⟨by decide +kernel, rfl⟩
theorem dX0_isStriped_1 : DI cX0_isStriped 1 (.getfield 26) 3 4 := ⟨by decide +kernel, rfl⟩
theorem dX0_isStriped_4 : DI cX0_isStriped 4 (.iconst 2) 1 5 := ⟨by decide +kernel, rfl⟩
theorem dX0_isStriped_5 : DJ cX0_isStriped 5 (.if_icmp .lt 7) 7 12 8 := ⟨by decide +kernel, by decide, rfl⟩
theorem dX0_isStriped_8 : DI cX0_isStriped 8 (.iconst 1) 1 9 := ⟨by decide +kernel, rfl⟩
theorem dX0_isStriped_9 : DJ cX0_isStriped 9 (.goto 4) 4 13 12 := ⟨by decide +kernel, by decide, rfl⟩
theorem dX0_isStriped_12 : DI cX0_isStriped 12 (.iconst 0) 1 13 := ⟨by decide +kernel, rfl⟩
theorem dX0_isStriped_13 : DI cX0_isStriped 13 (.ireturn) 1 14 := ⟨by decide +kernel, rfl⟩
theorem dX0_remainder_0 : DI cX0_remainder 0 (.aload_n 0) 1 1 := ⟨by decide +kernel, rfl⟩
theorem dX0_remainder_1 : DI cX0_remainder 1 (.getfield 26) 3 4 := ⟨by decide +kernel, rfl⟩
theorem dX0_remainder_4 : DI cX0_remainder 4 (.iconst 2) 1 5 := ⟨by decide +kernel, rfl⟩
theorem dX0_remainder_5 : DJ cX0_remainder 5 (.if_icmp .lt 14) 14 19 8 := ⟨by decide +kernel, by decide, rfl⟩
theorem dX0_remainder_8 : DI cX0_remainder 8 (.iload_n 1) 1 9 := ⟨by decide +kernel, rfl⟩
theorem dX0_remainder_9 : DI cX0_remainder 9 (.aload_n 0) 1 10 := ⟨by decide +kernel, rfl⟩
theorem dX0_remainder_10 : DI cX0_remainder 10 (.getfield 26) 3 13 := ⟨by decide +kernel, rfl⟩
theorem dX0_remainder_13 : DI cX0_remainder 13 (.invokestatic 29) 3 16 := ⟨by decide +kernel, rfl⟩
theorem dX0_remainder_16 : DJ cX0_remainder 16 (.goto 4) 4 20 19 := ⟨by decide +kernel, by decide, rfl⟩
theorem dX0_remainder_19 : DI cX0_remainder 19 (.iconst 0) 1 20 := ⟨by decide +kernel, rfl⟩
theorem dX0_remainder_20 : DI cX0_remainder 20 (.ireturn) 1 21 := ⟨by decide +kernel, rfl⟩
theorem dX0_opposite_0 : DI cX0_opposite 0 (.aload_n 0) 1 1 := ⟨by decide +kernel, rfl⟩
theorem dX0_opposite_1 : DI cX0_opposite 1 (.getfield 9) 3 4 := ⟨by decide +kernel, rfl⟩
theorem dX0_opposite_4 : DI cX0_opposite 4 (.iconst 1) 1 5 := ⟨by decide +kernel, rfl⟩
theorem dX0_opposite_5 : DI cX0_opposite 5 (.isub) 1 6 := ⟨by decide +kernel, rfl⟩
theorem dX0_opposite_6 : DI cX0_opposite 6 (.iload_n 1) 1 7 := ⟨by decide +kernel, rfl⟩
theorem dX0_opposite_7 : DI cX0_opposite 7 (.isub) 1 8 := ⟨by decide +kernel, rfl⟩
theorem dX0_opposite_8 : DI cX0_opposite 8 (.ireturn) 1 9 := ⟨by decide +kernel, rfl⟩
theorem dX0_foldOrOpen_0 : DI cX0_foldOrOpen 0 (.aload_n 0) 1 1 := ⟨by decide +kernel, rfl⟩
theorem dX0_foldOrOpen_1 : DI cX0_foldOrOpen 1 (.iload_n 1) 1 2 := ⟨by decide +kernel, rfl⟩
theorem dX0_foldOrOpen_2 : DI cX0_foldOrOpen 2 (.putfield 22) 3 5 := ⟨by decide +kernel, rfl⟩
theorem dX0_foldOrOpen_5 : DI cX0_foldOrOpen 5 (.aload_n 0) 1 6 := ⟨by decide +kernel, rfl⟩
theorem dX0_foldOrOpen_6 : DI cX0_foldOrOpen 6 (.invokevirtual 35) 3 9 := ⟨by decide +kernel, rfl⟩
theorem dX0_foldOrOpen_9 : DI cX0_foldOrOpen 9 (.return_) 1 10 := ⟨by decide +kernel, rfl⟩
theorem dX0_isTold_0 : DI cX0_isTold 0 (.aload_n 0) 1 1 := ⟨by decide +kernel, rfl⟩
theorem dX0_isTold_1 : DI cX0_isTold 1 (.getfield 15) 3 4 := ⟨by decide +kernel, rfl⟩
theorem dX0_isTold_4 : DI cX0_isTold 4 (.iload_n 1) 1 5 := ⟨by decide +kernel, rfl⟩
theorem dX0_isTold_5 : DI cX0_isTold 5 (.invokestatic 38) 3 8 := ⟨by decide +kernel, rfl⟩
theorem dX0_isTold_8 : DI cX0_isTold 8 (.iload_n 2) 1 9 := ⟨by decide +kernel, rfl⟩
theorem dX0_isTold_9 : DI cX0_isTold 9 (.invokestatic 42) 3 12 := ⟨by decide +kernel, rfl⟩
theorem dX0_isTold_12 : DI cX0_isTold 12 (.ireturn) 1 13 := ⟨by decide +kernel, rfl⟩
theorem dX0_tell_0 : DI cX0_tell 0 (.aload_n 0) 1 1 := ⟨by decide +kernel, rfl⟩
theorem dX0_tell_1 : DI cX0_tell 1 (.getfield 15) 3 4 := ⟨by decide +kernel, rfl⟩
theorem dX0_tell_4 : DI cX0_tell 4 (.iload_n 1) 1 5 := ⟨by decide +kernel, rfl⟩
theorem dX0_tell_5 : DI cX0_tell 5 (.aload_n 0) 1 6 := ⟨by decide +kernel, rfl⟩
theorem dX0_tell_6 : DI cX0_tell 6 (.getfield 15) 3 9 := ⟨by decide +kernel, rfl⟩
theorem dX0_tell_9 : DI cX0_tell 9 (.iload_n 1) 1 10 := ⟨by decide +kernel, rfl⟩
theorem dX0_tell_10 : DI cX0_tell 10 (.invokestatic 38) 3 13 := ⟨by decide +kernel, rfl⟩
theorem dX0_tell_13 : DI cX0_tell 13 (.iconst 1) 1 14 := ⟨by decide +kernel, rfl⟩
theorem dX0_tell_14 : DI cX0_tell 14 (.iload_n 2) 1 15 := ⟨by decide +kernel, rfl⟩
theorem dX0_tell_15 : DI cX0_tell 15 (.ishl) 1 16 := ⟨by decide +kernel, rfl⟩
theorem dX0_tell_16 : DI cX0_tell 16 (.ior) 1 17 := ⟨by decide +kernel, rfl⟩
theorem dX0_tell_17 : DI cX0_tell 17 (.invokestatic 46) 3 20 := ⟨by decide +kernel, rfl⟩
theorem dX0_tell_20 : DI cX0_tell 20 (.aload_n 0) 1 21 := ⟨by decide +kernel, rfl⟩
theorem dX0_tell_21 : DI cX0_tell 21 (.dup) 1 22 := ⟨by decide +kernel, rfl⟩
theorem dX0_tell_22 : DI cX0_tell 22 (.getfield 50) 3 25 := ⟨by decide +kernel, rfl⟩
theorem dX0_tell_25 : DI cX0_tell 25 (.iconst 1) 1 26 := ⟨by decide +kernel, rfl⟩
theorem dX0_tell_26 : DI cX0_tell 26 (.iadd) 1 27 := ⟨by decide +kernel, rfl⟩
theorem dX0_tell_27 : DI cX0_tell 27 (.putfield 50) 3 30 := ⟨by decide +kernel, rfl⟩
theorem dX0_tell_30 : DI cX0_tell 30 (.aload_n 0) 1 31 := ⟨by decide +kernel, rfl⟩
theorem dX0_tell_31 : DI cX0_tell 31 (.invokevirtual 35) 3 34 := ⟨by decide +kernel, rfl⟩
theorem dX0_tell_34 : DI cX0_tell 34 (.return_) 1 35 := ⟨by decide +kernel, rfl⟩
theorem dX0_forgetFlaws_0 : DI cX0_forgetFlaws 0 (.aload_n 0) 1 1 := ⟨by decide +kernel, rfl⟩
theorem dX0_forgetFlaws_1 : DI cX0_forgetFlaws 1 (.getfield 15) 3 4 := ⟨by decide +kernel, rfl⟩
theorem dX0_forgetFlaws_4 : DI cX0_forgetFlaws 4 (.iconst 0) 1 5 := ⟨by decide +kernel, rfl⟩
theorem dX0_forgetFlaws_5 : DI cX0_forgetFlaws 5 (.invokestatic 53) 3 8 := ⟨by decide +kernel, rfl⟩
theorem dX0_forgetFlaws_8 : DI cX0_forgetFlaws 8 (.aload_n 0) 1 9 := ⟨by decide +kernel, rfl⟩
theorem dX0_forgetFlaws_9 : DI cX0_forgetFlaws 9 (.iconst 0) 1 10 := ⟨by decide +kernel, rfl⟩
theorem dX0_forgetFlaws_10 : DI cX0_forgetFlaws 10 (.putfield 50) 3 13 := ⟨by decide +kernel, rfl⟩
theorem dX0_forgetFlaws_13 : DI cX0_forgetFlaws 13 (.aload_n 0) 1 14 := ⟨by decide +kernel, rfl⟩
theorem dX0_forgetFlaws_14 : DI cX0_forgetFlaws 14 (.invokevirtual 35) 3 17 := ⟨by decide +kernel, rfl⟩
theorem dX0_forgetFlaws_17 : DI cX0_forgetFlaws 17 (.return_) 1 18 := ⟨by decide +kernel, rfl⟩
theorem dX0_spoilRows_0 : DI cX0_spoilRows 0 (.iconst 0) 1 1 := ⟨by decide +kernel, rfl⟩
theorem dX0_spoilRows_1 : DI cX0_spoilRows 1 (.istore_n 1) 1 2 := ⟨by decide +kernel, rfl⟩
theorem dX0_spoilRows_2 : DI cX0_spoilRows 2 (.iload_n 1) 1 3 := ⟨by decide +kernel, rfl⟩
theorem dX0_spoilRows_3 : DI cX0_spoilRows 3 (.bipush 60) 2 5 := ⟨by decide +kernel, rfl⟩
theorem dX0_spoilRows_5 : DJ cX0_spoilRows 5 (.if_icmp .ge 44) 44 49 8 := ⟨by decide +kernel, by decide, rfl⟩
theorem dX0_spoilRows_8 : DI cX0_spoilRows 8 (.aload_n 0) 1 9 := ⟨by decide +kernel, rfl⟩
theorem dX0_spoilRows_9 : DI cX0_spoilRows 9 (.getfield 15) 3 12 := ⟨by decide +kernel, rfl⟩
theorem dX0_spoilRows_12 : DI cX0_spoilRows 12 (.iload_n 1) 1 13 := ⟨by decide +kernel, rfl⟩
theorem dX0_spoilRows_13 : DI cX0_spoilRows 13 (.invokestatic 38) 3 16 := ⟨by decide +kernel, rfl⟩
theorem dX0_spoilRows_16 : DI cX0_spoilRows 16 (.istore_n 2) 1 17 := ⟨by decide +kernel, rfl⟩
theorem dX0_spoilRows_17 : DI cX0_spoilRows 17 (.aload_n 0) 1 18 := ⟨by decide +kernel, rfl⟩
theorem dX0_spoilRows_18 : DI cX0_spoilRows 18 (.getfield 19) 3 21 := ⟨by decide +kernel, rfl⟩
theorem dX0_spoilRows_21 : DI cX0_spoilRows 21 (.iload_n 1) 1 22 := ⟨by decide +kernel, rfl⟩
theorem dX0_spoilRows_22 : DI cX0_spoilRows 22 (.aload_n 0) 1 23 := ⟨by decide +kernel, rfl⟩
theorem dX0_spoilRows_23 : DI cX0_spoilRows 23 (.getfield 22) 3 26 := ⟨by decide +kernel, rfl⟩
theorem dX0_spoilRows_26 : DJ cX0_spoilRows 26 (.ifCond .eq 13) 13 39 29 := ⟨by decide +kernel, by decide, rfl⟩
theorem dX0_spoilRows_29 : DI cX0_spoilRows 29 (.iload_n 2) 1 30 := ⟨by decide +kernel, rfl⟩
theorem dX0_spoilRows_30 : DI cX0_spoilRows 30 (.aload_n 0) 1 31 := ⟨by decide +kernel, rfl⟩
theorem dX0_spoilRows_31 : DI cX0_spoilRows 31 (.iload_n 2) 1 32 := ⟨by decide +kernel, rfl⟩
theorem dX0_spoilRows_32 : DI cX0_spoilRows 32 (.invokevirtual 59) 3 35 := ⟨by decide +kernel, rfl⟩
theorem dX0_spoilRows_35 : DI cX0_spoilRows 35 (.ior) 1 36 := ⟨by decide +kernel, rfl⟩
theorem dX0_spoilRows_36 : DJ cX0_spoilRows 36 (.goto 4) 4 40 39 := ⟨by decide +kernel, by decide, rfl⟩
theorem dX0_spoilRows_39 : DI cX0_spoilRows 39 (.iload_n 2) 1 40 := ⟨by decide +kernel, rfl⟩
theorem dX0_spoilRows_40 : DI cX0_spoilRows 40 (.invokestatic 46) 3 43 := ⟨by decide +kernel, rfl⟩
theorem dX0_spoilRows_43 : DI cX0_spoilRows 43 (.iinc 1 1) 3 46 := ⟨by decide +kernel, rfl⟩
theorem dX0_spoilRows_46 : DJ cX0_spoilRows 46 (.goto (-44)) (-44) 2 49 := ⟨by decide +kernel, by decide, rfl⟩
theorem dX0_spoilRows_49 : DI cX0_spoilRows 49 (.return_) 1 50 := ⟨by decide +kernel, rfl⟩
theorem dX0_reversed_0 : DI cX0_reversed 0 (.iconst 0) 1 1 := ⟨by decide +kernel, rfl⟩
theorem dX0_reversed_1 : DI cX0_reversed 1 (.istore_n 2) 1 2 := ⟨by decide +kernel, rfl⟩
theorem dX0_reversed_2 : DI cX0_reversed 2 (.iconst 0) 1 3 := ⟨by decide +kernel, rfl⟩
theorem dX0_reversed_3 : DI cX0_reversed 3 (.istore_n 3) 1 4 := ⟨by decide +kernel, rfl⟩
theorem dX0_reversed_4 : DI cX0_reversed 4 (.iload_n 3) 1 5 := ⟨by decide +kernel, rfl⟩
theorem dX0_reversed_5 : DI cX0_reversed 5 (.aload_n 0) 1 6 := ⟨by decide +kernel, rfl⟩
theorem dX0_reversed_6 : DI cX0_reversed 6 (.getfield 9) 3 9 := ⟨by decide +kernel, rfl⟩
theorem dX0_reversed_9 : DJ cX0_reversed 9 (.if_icmp .ge 27) 27 36 12 := ⟨by decide +kernel, by decide, rfl⟩
theorem dX0_reversed_12 : DI cX0_reversed 12 (.iload_n 1) 1 13 := ⟨by decide +kernel, rfl⟩
theorem dX0_reversed_13 : DI cX0_reversed 13 (.iload_n 3) 1 14 := ⟨by decide +kernel, rfl⟩
theorem dX0_reversed_14 : DI cX0_reversed 14 (.invokestatic 42) 3 17 := ⟨by decide +kernel, rfl⟩
theorem dX0_reversed_17 : DJ cX0_reversed 17 (.ifCond .eq 13) 13 30 20 := ⟨by decide +kernel, by decide, rfl⟩
theorem dX0_reversed_20 : DI cX0_reversed 20 (.iload_n 2) 1 21 := ⟨by decide +kernel, rfl⟩
theorem dX0_reversed_21 : DI cX0_reversed 21 (.iconst 1) 1 22 := ⟨by decide +kernel, rfl⟩
theorem dX0_reversed_22 : DI cX0_reversed 22 (.aload_n 0) 1 23 := ⟨by decide +kernel, rfl⟩
theorem dX0_reversed_23 : DI cX0_reversed 23 (.iload_n 3) 1 24 := ⟨by decide +kernel, rfl⟩
theorem dX0_reversed_24 : DI cX0_reversed 24 (.invokevirtual 63) 3 27 := ⟨by decide +kernel, rfl⟩
theorem dX0_reversed_27 : DI cX0_reversed 27 (.ishl) 1 28 := ⟨by decide +kernel, rfl⟩
theorem dX0_reversed_28 : DI cX0_reversed 28 (.ior) 1 29 := ⟨by decide +kernel, rfl⟩
theorem dX0_reversed_29 : DI cX0_reversed 29 (.istore_n 2) 1 30 := ⟨by decide +kernel, rfl⟩
theorem dX0_reversed_30 : DI cX0_reversed 30 (.iinc 3 1) 3 33 := ⟨by decide +kernel, rfl⟩
theorem dX0_reversed_33 : DJ cX0_reversed 33 (.goto (-29)) (-29) 4 36 := ⟨by decide +kernel, by decide, rfl⟩
theorem dX0_reversed_36 : DI cX0_reversed 36 (.iload_n 2) 1 37 := ⟨by decide +kernel, rfl⟩
theorem dX0_reversed_37 : DI cX0_reversed 37 (.ireturn) 1 38 := ⟨by decide +kernel, rfl⟩
theorem dX0_reaches_0 : DI cX0_reaches 0 (.iload_n 2) 1 1 := ⟨by decide +kernel, rfl⟩
theorem dX0_reaches_1 : DI cX0_reaches 1 (.iconst 0) 1 2 := ⟨by decide +kernel, rfl⟩
theorem dX0_reaches_2 : DI cX0_reaches 2 (.bipush 60) 2 4 := ⟨by decide +kernel, rfl⟩
theorem dX0_reaches_4 : DI cX0_reaches 4 (.aload_n 1) 1 5 := ⟨by decide +kernel, rfl⟩
theorem dX0_reaches_5 : DI cX0_reaches 5 (.getfield 66) 3 8 := ⟨by decide +kernel, rfl⟩
theorem dX0_reaches_8 : DI cX0_reaches 8 (.isub) 1 9 := ⟨by decide +kernel, rfl⟩
theorem dX0_reaches_9 : DI cX0_reaches 9 (.invokestatic 71) 3 12 := ⟨by decide +kernel, rfl⟩
theorem dX0_reaches_12 : DJ cX0_reaches 12 (.ifCond .eq 24) 24 36 15 := ⟨by decide +kernel, by decide, rfl⟩
theorem dX0_reaches_15 : DI cX0_reaches 15 (.iload_n 3) 1 16 := ⟨by decide +kernel, rfl⟩
theorem dX0_reaches_16 : DI cX0_reaches 16 (.iconst 0) 1 17 := ⟨by decide +kernel, rfl⟩
theorem dX0_reaches_17 : DI cX0_reaches 17 (.aload_n 0) 1 18 := ⟨by decide +kernel, rfl⟩
theorem dX0_reaches_18 : DI cX0_reaches 18 (.invokevirtual 75) 3 21 := ⟨by decide +kernel, rfl⟩
theorem dX0_reaches_21 : DI cX0_reaches 21 (.aload_n 1) 1 22 := ⟨by decide +kernel, rfl⟩
theorem dX0_reaches_22 : DI cX0_reaches 22 (.getfield 79) 3 25 := ⟨by decide +kernel, rfl⟩
theorem dX0_reaches_25 : DI cX0_reaches 25 (.isub) 1 26 := ⟨by decide +kernel, rfl⟩
theorem dX0_reaches_26 : DI cX0_reaches 26 (.invokestatic 71) 3 29 := ⟨by decide +kernel, rfl⟩
theorem dX0_reaches_29 : DJ cX0_reaches 29 (.ifCond .eq 7) 7 36 32 := ⟨by decide +kernel, by decide, rfl⟩
theorem dX0_reaches_32 : DI cX0_reaches 32 (.iconst 1) 1 33 := ⟨by decide +kernel, rfl⟩
theorem dX0_reaches_33 : DJ cX0_reaches 33 (.goto 4) 4 37 36 := ⟨by decide +kernel, by decide, rfl⟩
theorem dX0_reaches_36 : DI cX0_reaches 36 (.iconst 0) 1 37 := ⟨by decide +kernel, rfl⟩
theorem dX0_reaches_37 : DI cX0_reaches 37 (.ireturn) 1 38 := ⟨by decide +kernel, rfl⟩
theorem dX2_init_0 : DI cX2_init 0 (.aload_n 0) 1 1 := ⟨by decide +kernel, rfl⟩
theorem dX2_init_1 : DI cX2_init 1 (.invokespecial 3) 3 4 := ⟨by decide +kernel, rfl⟩
theorem dX2_init_4 : DI cX2_init 4 (.aload_n 0) 1 5 := ⟨by decide +kernel, rfl⟩
theorem dX2_init_5 : DI cX2_init 5 (.iload_n 1) 1 6 := ⟨by decide +kernel, rfl⟩
theorem dX2_init_6 : DI cX2_init 6 (.putfield 9) 3 9 := ⟨by decide +kernel, rfl⟩
theorem dX2_init_9 : DI cX2_init 9 (.aload_n 0) 1 10 := ⟨by decide +kernel, rfl⟩
theorem dX2_init_10 : DI cX2_init 10 (.iload_n 2) 1 11 := ⟨by decide +kernel, rfl⟩
theorem dX2_init_11 : DI cX2_init 11 (.putfield 15) 3 14 := ⟨by decide +kernel, rfl⟩
theorem dX2_init_14 : DI cX2_init 14 (.aload_n 0) 1 15 := ⟨by decide +kernel, rfl⟩
theorem dX2_init_15 : DI cX2_init 15 (.iconst 5) 1 16 := ⟨by decide +kernel, rfl⟩
theorem dX2_init_16 : DI cX2_init 16 (.newarray .int) 2 18 := ⟨by decide +kernel, rfl⟩
theorem dX2_init_18 : DI cX2_init 18 (.putfield 19) 3 21 := ⟨by decide +kernel, rfl⟩
theorem dX2_init_21 : DI cX2_init 21 (.return_) 1 22 := ⟨by decide +kernel, rfl⟩
theorem dX2_trace_0 : DI cX2_trace 0 (.aload_n 0) 1 1 := ⟨by decide +kernel, rfl⟩
theorem dX2_trace_1 : DI cX2_trace 1 (.getfield 19) 3 4 := ⟨by decide +kernel, rfl⟩
theorem dX2_trace_4 : DI cX2_trace 4 (.iconst 0) 1 5 := ⟨by decide +kernel, rfl⟩
theorem dX2_trace_5 : DI cX2_trace 5 (.invokestatic 23) 3 8 := ⟨by decide +kernel, rfl⟩
theorem dX2_trace_8 : DI cX2_trace 8 (.iconst 0) 1 9 := ⟨by decide +kernel, rfl⟩
theorem dX2_trace_9 : DI cX2_trace 9 (.istore 4) 2 11 := ⟨by decide +kernel, rfl⟩
theorem dX2_trace_11 : DI cX2_trace 11 (.iconst 0) 1 12 := ⟨by decide +kernel, rfl⟩
theorem dX2_trace_12 : DI cX2_trace 12 (.istore 5) 2 14 := ⟨by decide +kernel, rfl⟩
theorem dX2_trace_14 : DI cX2_trace 14 (.iconst 0) 1 15 := ⟨by decide +kernel, rfl⟩
theorem dX2_trace_15 : DI cX2_trace 15 (.istore 6) 2 17 := ⟨by decide +kernel, rfl⟩
theorem dX2_trace_17 : DI cX2_trace 17 (.iload 6) 2 19 := ⟨by decide +kernel, rfl⟩
theorem dX2_trace_19 : DI cX2_trace 19 (.iconst 5) 1 20 := ⟨by decide +kernel, rfl⟩
theorem dX2_trace_20 : DJ cX2_trace 20 (.if_icmp .ge 99) 99 119 23 := ⟨by decide +kernel, by decide, rfl⟩
theorem dX2_trace_23 : DI cX2_trace 23 (.iconst 0) 1 24 := ⟨by decide +kernel, rfl⟩
theorem dX2_trace_24 : DI cX2_trace 24 (.istore 7) 2 26 := ⟨by decide +kernel, rfl⟩
theorem dX2_trace_26 : DI cX2_trace 26 (.iload 7) 2 28 := ⟨by decide +kernel, rfl⟩
theorem dX2_trace_28 : DI cX2_trace 28 (.iconst 5) 1 29 := ⟨by decide +kernel, rfl⟩
theorem dX2_trace_29 : DJ cX2_trace 29 (.if_icmp .ge 84) 84 113 32 := ⟨by decide +kernel, by decide, rfl⟩
theorem dX2_trace_32 : DI cX2_trace 32 (.aload_n 1) 1 33 := ⟨by decide +kernel, rfl⟩
theorem dX2_trace_33 : DI cX2_trace 33 (.iload 6) 2 35 := ⟨by decide +kernel, rfl⟩
theorem dX2_trace_35 : DI cX2_trace 35 (.invokestatic 29) 3 38 := ⟨by decide +kernel, rfl⟩
theorem dX2_trace_38 : DI cX2_trace 38 (.iload 7) 2 40 := ⟨by decide +kernel, rfl⟩
theorem dX2_trace_40 : DI cX2_trace 40 (.invokestatic 33) 3 43 := ⟨by decide +kernel, rfl⟩
theorem dX2_trace_43 : DJ cX2_trace 43 (.ifCond .eq 64) 64 107 46 := ⟨by decide +kernel, by decide, rfl⟩
theorem dX2_trace_46 : DI cX2_trace 46 (.aload_n 0) 1 47 := ⟨by decide +kernel, rfl⟩
theorem dX2_trace_47 : DI cX2_trace 47 (.iload 6) 2 49 := ⟨by decide +kernel, rfl⟩
theorem dX2_trace_49 : DI cX2_trace 49 (.iload 7) 2 51 := ⟨by decide +kernel, rfl⟩
theorem dX2_trace_51 : DI cX2_trace 51 (.invokevirtual 37) 3 54 := ⟨by decide +kernel, rfl⟩
theorem dX2_trace_54 : DI cX2_trace 54 (.istore 8) 2 56 := ⟨by decide +kernel, rfl⟩
theorem dX2_trace_56 : DI cX2_trace 56 (.aload_n 0) 1 57 := ⟨by decide +kernel, rfl⟩
theorem dX2_trace_57 : DI cX2_trace 57 (.iload 6) 2 59 := ⟨by decide +kernel, rfl⟩
theorem dX2_trace_59 : DI cX2_trace 59 (.iload 7) 2 61 := ⟨by decide +kernel, rfl⟩
theorem dX2_trace_61 : DI cX2_trace 61 (.invokevirtual 41) 3 64 := ⟨by decide +kernel, rfl⟩
theorem dX2_trace_64 : DI cX2_trace 64 (.istore 9) 2 66 := ⟨by decide +kernel, rfl⟩
theorem dX2_trace_66 : DI cX2_trace 66 (.aload_n 0) 1 67 := ⟨by decide +kernel, rfl⟩
theorem dX2_trace_67 : DI cX2_trace 67 (.getfield 19) 3 70 := ⟨by decide +kernel, rfl⟩
theorem dX2_trace_70 : DI cX2_trace 70 (.iload 8) 2 72 := ⟨by decide +kernel, rfl⟩
theorem dX2_trace_72 : DI cX2_trace 72 (.aload_n 0) 1 73 := ⟨by decide +kernel, rfl⟩
theorem dX2_trace_73 : DI cX2_trace 73 (.getfield 19) 3 76 := ⟨by decide +kernel, rfl⟩
theorem dX2_trace_76 : DI cX2_trace 76 (.iload 8) 2 78 := ⟨by decide +kernel, rfl⟩
theorem dX2_trace_78 : DI cX2_trace 78 (.invokestatic 29) 3 81 := ⟨by decide +kernel, rfl⟩
theorem dX2_trace_81 : DI cX2_trace 81 (.iconst 1) 1 82 := ⟨by decide +kernel, rfl⟩
theorem dX2_trace_82 : DI cX2_trace 82 (.iload 9) 2 84 := ⟨by decide +kernel, rfl⟩
theorem dX2_trace_84 : DI cX2_trace 84 (.ishl) 1 85 := ⟨by decide +kernel, rfl⟩
theorem dX2_trace_85 : DI cX2_trace 85 (.ior) 1 86 := ⟨by decide +kernel, rfl⟩
theorem dX2_trace_86 : DI cX2_trace 86 (.invokestatic 44) 3 89 := ⟨by decide +kernel, rfl⟩
theorem dX2_trace_89 : DI cX2_trace 89 (.iload 4) 2 91 := ⟨by decide +kernel, rfl⟩
theorem dX2_trace_91 : DI cX2_trace 91 (.iconst 1) 1 92 := ⟨by decide +kernel, rfl⟩
theorem dX2_trace_92 : DI cX2_trace 92 (.iload 8) 2 94 := ⟨by decide +kernel, rfl⟩
theorem dX2_trace_94 : DI cX2_trace 94 (.ishl) 1 95 := ⟨by decide +kernel, rfl⟩
theorem dX2_trace_95 : DI cX2_trace 95 (.ior) 1 96 := ⟨by decide +kernel, rfl⟩
theorem dX2_trace_96 : DI cX2_trace 96 (.istore 4) 2 98 := ⟨by decide +kernel, rfl⟩
theorem dX2_trace_98 : DI cX2_trace 98 (.iload 5) 2 100 := ⟨by decide +kernel, rfl⟩
theorem dX2_trace_100 : DI cX2_trace 100 (.iconst 1) 1 101 := ⟨by decide +kernel, rfl⟩
theorem dX2_trace_101 : DI cX2_trace 101 (.iload 9) 2 103 := ⟨by decide +kernel, rfl⟩
theorem dX2_trace_103 : DI cX2_trace 103 (.ishl) 1 104 := ⟨by decide +kernel, rfl⟩
theorem dX2_trace_104 : DI cX2_trace 104 (.ior) 1 105 := ⟨by decide +kernel, rfl⟩
theorem dX2_trace_105 : DI cX2_trace 105 (.istore 5) 2 107 := ⟨by decide +kernel, rfl⟩
theorem dX2_trace_107 : DI cX2_trace 107 (.iinc 7 1) 3 110 := ⟨by decide +kernel, rfl⟩
theorem dX2_trace_110 : DJ cX2_trace 110 (.goto (-84)) (-84) 26 113 := ⟨by decide +kernel, by decide, rfl⟩
theorem dX2_trace_113 : DI cX2_trace 113 (.iinc 6 1) 3 116 := ⟨by decide +kernel, rfl⟩
theorem dX2_trace_116 : DJ cX2_trace 116 (.goto (-99)) (-99) 17 119 := ⟨by decide +kernel, by decide, rfl⟩
theorem dX2_trace_119 : DI cX2_trace 119 (.iload 4) 2 121 := ⟨by decide +kernel, rfl⟩
theorem dX2_trace_121 : DI cX2_trace 121 (.invokestatic 48) 3 124 := ⟨by decide +kernel, rfl⟩
theorem dX2_trace_124 : DI cX2_trace 124 (.istore 6) 2 126 := ⟨by decide +kernel, rfl⟩
theorem dX2_trace_126 : DI cX2_trace 126 (.iload 5) 2 128 := ⟨by decide +kernel, rfl⟩
theorem dX2_trace_128 : DI cX2_trace 128 (.invokestatic 48) 3 131 := ⟨by decide +kernel, rfl⟩
theorem dX2_trace_131 : DI cX2_trace 131 (.istore 7) 2 133 := ⟨by decide +kernel, rfl⟩
theorem dX2_trace_133 : DI cX2_trace 133 (.iconst 0) 1 134 := ⟨by decide +kernel, rfl⟩
theorem dX2_trace_134 : DI cX2_trace 134 (.istore 8) 2 136 := ⟨by decide +kernel, rfl⟩
theorem dX2_trace_136 : DI cX2_trace 136 (.iload 8) 2 138 := ⟨by decide +kernel, rfl⟩
theorem dX2_trace_138 : DI cX2_trace 138 (.iconst 5) 1 139 := ⟨by decide +kernel, rfl⟩
theorem dX2_trace_139 : DJ cX2_trace 139 (.if_icmp .ge 33) 33 172 142 := ⟨by decide +kernel, by decide, rfl⟩
theorem dX2_trace_142 : DI cX2_trace 142 (.aload_n 0) 1 143 := ⟨by decide +kernel, rfl⟩
theorem dX2_trace_143 : DI cX2_trace 143 (.getfield 19) 3 146 := ⟨by decide +kernel, rfl⟩
theorem dX2_trace_146 : DI cX2_trace 146 (.iload 8) 2 148 := ⟨by decide +kernel, rfl⟩
theorem dX2_trace_148 : DI cX2_trace 148 (.aload_n 0) 1 149 := ⟨by decide +kernel, rfl⟩
theorem dX2_trace_149 : DI cX2_trace 149 (.getfield 19) 3 152 := ⟨by decide +kernel, rfl⟩
theorem dX2_trace_152 : DI cX2_trace 152 (.iload 8) 2 154 := ⟨by decide +kernel, rfl⟩
theorem dX2_trace_154 : DI cX2_trace 154 (.iload 6) 2 156 := ⟨by decide +kernel, rfl⟩
theorem dX2_trace_156 : DI cX2_trace 156 (.iadd) 1 157 := ⟨by decide +kernel, rfl⟩
theorem dX2_trace_157 : DI cX2_trace 157 (.invokestatic 29) 3 160 := ⟨by decide +kernel, rfl⟩
theorem dX2_trace_160 : DI cX2_trace 160 (.iload 7) 2 162 := ⟨by decide +kernel, rfl⟩
theorem dX2_trace_162 : DI cX2_trace 162 (.ishr) 1 163 := ⟨by decide +kernel, rfl⟩
theorem dX2_trace_163 : DI cX2_trace 163 (.invokestatic 44) 3 166 := ⟨by decide +kernel, rfl⟩
theorem dX2_trace_166 : DI cX2_trace 166 (.iinc 8 1) 3 169 := ⟨by decide +kernel, rfl⟩
theorem dX2_trace_169 : DJ cX2_trace 169 (.goto (-33)) (-33) 136 172 := ⟨by decide +kernel, by decide, rfl⟩
theorem dX2_trace_172 : DI cX2_trace 172 (.aload_n 0) 1 173 := ⟨by decide +kernel, rfl⟩
theorem dX2_trace_173 : DI cX2_trace 173 (.iload 4) 2 175 := ⟨by decide +kernel, rfl⟩
theorem dX2_trace_175 : DI cX2_trace 175 (.invokestatic 52) 3 178 := ⟨by decide +kernel, rfl⟩
theorem dX2_trace_178 : DI cX2_trace 178 (.iload 6) 2 180 := ⟨by decide +kernel, rfl⟩
theorem dX2_trace_180 : DI cX2_trace 180 (.isub) 1 181 := ⟨by decide +kernel, rfl⟩
theorem dX2_trace_181 : DI cX2_trace 181 (.putfield 55) 3 184 := ⟨by decide +kernel, rfl⟩
theorem dX2_trace_184 : DI cX2_trace 184 (.aload_n 0) 1 185 := ⟨by decide +kernel, rfl⟩
theorem dX2_trace_185 : DI cX2_trace 185 (.iload 5) 2 187 := ⟨by decide +kernel, rfl⟩
theorem dX2_trace_187 : DI cX2_trace 187 (.invokestatic 52) 3 190 := ⟨by decide +kernel, rfl⟩
theorem dX2_trace_190 : DI cX2_trace 190 (.iload 7) 2 192 := ⟨by decide +kernel, rfl⟩
theorem dX2_trace_192 : DI cX2_trace 192 (.isub) 1 193 := ⟨by decide +kernel, rfl⟩
theorem dX2_trace_193 : DI cX2_trace 193 (.putfield 58) 3 196 := ⟨by decide +kernel, rfl⟩
theorem dX2_trace_196 : DI cX2_trace 196 (.aload_n 0) 1 197 := ⟨by decide +kernel, rfl⟩
theorem dX2_trace_197 : DI cX2_trace 197 (.aload_n 0) 1 198 := ⟨by decide +kernel, rfl⟩
theorem dX2_trace_198 : DI cX2_trace 198 (.iload_n 2) 1 199 := ⟨by decide +kernel, rfl⟩
theorem dX2_trace_199 : DI cX2_trace 199 (.iload_n 3) 1 200 := ⟨by decide +kernel, rfl⟩
theorem dX2_trace_200 : DI cX2_trace 200 (.invokevirtual 37) 3 203 := ⟨by decide +kernel, rfl⟩
theorem dX2_trace_203 : DI cX2_trace 203 (.iload 6) 2 205 := ⟨by decide +kernel, rfl⟩
theorem dX2_trace_205 : DI cX2_trace 205 (.isub) 1 206 := ⟨by decide +kernel, rfl⟩
theorem dX2_trace_206 : DI cX2_trace 206 (.putfield 61) 3 209 := ⟨by decide +kernel, rfl⟩
theorem dX2_trace_209 : DI cX2_trace 209 (.return_) 1 210 := ⟨by decide +kernel, rfl⟩
theorem dX2_turnedRow_0 : DI cX2_turnedRow 0 (.aload_n 0) 1 1 := ⟨by decide +kernel, rfl⟩
theorem dX2_turnedRow_1 : DI cX2_turnedRow 1 (.getfield 15) 3 4 := ⟨by decide +kernel, rfl⟩
theorem dX2_turnedRow_4 : DJ cX2_turnedRow 4 (.ifCond .eq 9) 9 13 7 := ⟨by decide +kernel, by decide, rfl⟩
theorem dX2_turnedRow_7 : DI cX2_turnedRow 7 (.iconst 4) 1 8 := ⟨by decide +kernel, rfl⟩
theorem dX2_turnedRow_8 : DI cX2_turnedRow 8 (.iload_n 2) 1 9 := ⟨by decide +kernel, rfl⟩
theorem dX2_turnedRow_9 : DI cX2_turnedRow 9 (.isub) 1 10 := ⟨by decide +kernel, rfl⟩
theorem dX2_turnedRow_10 : DJ cX2_turnedRow 10 (.goto 4) 4 14 13 := ⟨by decide +kernel, by decide, rfl⟩
theorem dX2_turnedRow_13 : DI cX2_turnedRow 13 (.iload_n 2) 1 14 := ⟨by decide +kernel, rfl⟩
theorem dX2_turnedRow_14 : DI cX2_turnedRow 14 (.istore_n 3) 1 15 := ⟨by decide +kernel, rfl⟩
theorem dX2_turnedRow_15 : DI cX2_turnedRow 15 (.aload_n 0) 1 16 := ⟨by decide +kernel, rfl⟩
theorem dX2_turnedRow_16 : DI cX2_turnedRow 16 (.getfield 9) 3 19 := ⟨by decide +kernel, rfl⟩
theorem dX2_turnedRow_19 : DI cX2_turnedRow 19 (.tableswitch 33 0 2 #[25, 27, 29]) 25 44 := ⟨by decide +kernel, rfl⟩
theorem dX2_turnedRow_44 : DI cX2_turnedRow 44 (.iload_n 1) 1 45 := ⟨by decide +kernel, rfl⟩
theorem dX2_turnedRow_45 : DI cX2_turnedRow 45 (.ireturn) 1 46 := ⟨by decide +kernel, rfl⟩
theorem dX2_turnedRow_46 : DI cX2_turnedRow 46 (.iload_n 3) 1 47 := ⟨by decide +kernel, rfl⟩
theorem dX2_turnedRow_47 : DI cX2_turnedRow 47 (.ireturn) 1 48 := ⟨by decide +kernel, rfl⟩
theorem dX2_turnedRow_48 : DI cX2_turnedRow 48 (.iconst 4) 1 49 := ⟨by decide +kernel, rfl⟩
theorem dX2_turnedRow_49 : DI cX2_turnedRow 49 (.iload_n 1) 1 50 := ⟨by decide +kernel, rfl⟩
theorem dX2_turnedRow_50 : DI cX2_turnedRow 50 (.isub) 1 51 := ⟨by decide +kernel, rfl⟩
theorem dX2_turnedRow_51 : DI cX2_turnedRow 51 (.ireturn) 1 52 := ⟨by decide +kernel, rfl⟩
theorem dX2_turnedRow_52 : DI cX2_turnedRow 52 (.iconst 4) 1 53 := ⟨by decide +kernel, rfl⟩
theorem dX2_turnedRow_53 : DI cX2_turnedRow 53 (.iload_n 3) 1 54 := ⟨by decide +kernel, rfl⟩
theorem dX2_turnedRow_54 : DI cX2_turnedRow 54 (.isub) 1 55 := ⟨by decide +kernel, rfl⟩
theorem dX2_turnedRow_55 : DI cX2_turnedRow 55 (.ireturn) 1 56 := ⟨by decide +kernel, rfl⟩
theorem dX2_turnedColumn_0 : DI cX2_turnedColumn 0 (.aload_n 0) 1 1 := ⟨by decide +kernel, rfl⟩
theorem dX2_turnedColumn_1 : DI cX2_turnedColumn 1 (.getfield 15) 3 4 := ⟨by decide +kernel, rfl⟩
theorem dX2_turnedColumn_4 : DJ cX2_turnedColumn 4 (.ifCond .eq 9) 9 13 7 := ⟨by decide +kernel, by decide, rfl⟩
theorem dX2_turnedColumn_7 : DI cX2_turnedColumn 7 (.iconst 4) 1 8 := ⟨by decide +kernel, rfl⟩
theorem dX2_turnedColumn_8 : DI cX2_turnedColumn 8 (.iload_n 2) 1 9 := ⟨by decide +kernel, rfl⟩
theorem dX2_turnedColumn_9 : DI cX2_turnedColumn 9 (.isub) 1 10 := ⟨by decide +kernel, rfl⟩
theorem dX2_turnedColumn_10 : DJ cX2_turnedColumn 10 (.goto 4) 4 14 13 := ⟨by decide +kernel, by decide, rfl⟩
theorem dX2_turnedColumn_13 : DI cX2_turnedColumn 13 (.iload_n 2) 1 14 := ⟨by decide +kernel, rfl⟩
theorem dX2_turnedColumn_14 : DI cX2_turnedColumn 14 (.istore_n 3) 1 15 := ⟨by decide +kernel, rfl⟩
theorem dX2_turnedColumn_15 : DI cX2_turnedColumn 15 (.aload_n 0) 1 16 := ⟨by decide +kernel, rfl⟩
theorem dX2_turnedColumn_16 : DI cX2_turnedColumn 16 (.getfield 9) 3 19 := ⟨by decide +kernel, rfl⟩
theorem dX2_turnedColumn_19 : DI cX2_turnedColumn 19 (.tableswitch 35 0 2 #[25, 27, 31]) 25 44 := ⟨by decide +kernel, rfl⟩
theorem dX2_turnedColumn_44 : DI cX2_turnedColumn 44 (.iload_n 3) 1 45 := ⟨by decide +kernel, rfl⟩
theorem dX2_turnedColumn_45 : DI cX2_turnedColumn 45 (.ireturn) 1 46 := ⟨by decide +kernel, rfl⟩
theorem dX2_turnedColumn_46 : DI cX2_turnedColumn 46 (.iconst 4) 1 47 := ⟨by decide +kernel, rfl⟩
theorem dX2_turnedColumn_47 : DI cX2_turnedColumn 47 (.iload_n 1) 1 48 := ⟨by decide +kernel, rfl⟩
theorem dX2_turnedColumn_48 : DI cX2_turnedColumn 48 (.isub) 1 49 := ⟨by decide +kernel, rfl⟩
theorem dX2_turnedColumn_49 : DI cX2_turnedColumn 49 (.ireturn) 1 50 := ⟨by decide +kernel, rfl⟩
theorem dX2_turnedColumn_50 : DI cX2_turnedColumn 50 (.iconst 4) 1 51 := ⟨by decide +kernel, rfl⟩
theorem dX2_turnedColumn_51 : DI cX2_turnedColumn 51 (.iload_n 3) 1 52 := ⟨by decide +kernel, rfl⟩
theorem dX2_turnedColumn_52 : DI cX2_turnedColumn 52 (.isub) 1 53 := ⟨by decide +kernel, rfl⟩
theorem dX2_turnedColumn_53 : DI cX2_turnedColumn 53 (.ireturn) 1 54 := ⟨by decide +kernel, rfl⟩
theorem dX2_turnedColumn_54 : DI cX2_turnedColumn 54 (.iload_n 1) 1 55 := ⟨by decide +kernel, rfl⟩
theorem dX2_turnedColumn_55 : DI cX2_turnedColumn 55 (.ireturn) 1 56 := ⟨by decide +kernel, rfl⟩
theorem dX2_hasCell_0 : DI cX2_hasCell 0 (.iload_n 2) 1 1 := ⟨by decide +kernel, rfl⟩
theorem dX2_hasCell_1 : DI cX2_hasCell 1 (.iconst 0) 1 2 := ⟨by decide +kernel, rfl⟩
theorem dX2_hasCell_2 : DI cX2_hasCell 2 (.iconst 4) 1 3 := ⟨by decide +kernel, rfl⟩
theorem dX2_hasCell_3 : DI cX2_hasCell 3 (.invokestatic 64) 3 6 := ⟨by decide +kernel, rfl⟩
theorem dX2_hasCell_6 : DJ cX2_hasCell 6 (.ifCond .eq 22) 22 28 9 := ⟨by decide +kernel, by decide, rfl⟩
theorem dX2_hasCell_9 : DI cX2_hasCell 9 (.aload_n 0) 1 10 := ⟨by decide +kernel, rfl⟩
theorem dX2_hasCell_10 : DI cX2_hasCell 10 (.getfield 19) 3 13 := ⟨by decide +kernel, rfl⟩
theorem dX2_hasCell_13 : DI cX2_hasCell 13 (.iload_n 1) 1 14 := ⟨by decide +kernel, rfl⟩
theorem dX2_hasCell_14 : DI cX2_hasCell 14 (.invokestatic 29) 3 17 := ⟨by decide +kernel, rfl⟩
theorem dX2_hasCell_17 : DI cX2_hasCell 17 (.iload_n 2) 1 18 := ⟨by decide +kernel, rfl⟩
theorem dX2_hasCell_18 : DI cX2_hasCell 18 (.invokestatic 33) 3 21 := ⟨by decide +kernel, rfl⟩
theorem dX2_hasCell_21 : DJ cX2_hasCell 21 (.ifCond .eq 7) 7 28 24 := ⟨by decide +kernel, by decide, rfl⟩
theorem dX2_hasCell_24 : DI cX2_hasCell 24 (.iconst 1) 1 25 := ⟨by decide +kernel, rfl⟩
theorem dX2_hasCell_25 : DJ cX2_hasCell 25 (.goto 4) 4 29 28 := ⟨by decide +kernel, by decide, rfl⟩
theorem dX2_hasCell_28 : DI cX2_hasCell 28 (.iconst 0) 1 29 := ⟨by decide +kernel, rfl⟩
theorem dX2_hasCell_29 : DI cX2_hasCell 29 (.ireturn) 1 30 := ⟨by decide +kernel, rfl⟩
theorem dX3_init_0 : DI cX3_init 0 (.aload_n 0) 1 1 := ⟨by decide +kernel, rfl⟩
theorem dX3_init_1 : DI cX3_init 1 (.invokespecial 1) 3 4 := ⟨by decide +kernel, rfl⟩
theorem dX3_init_4 : DI cX3_init 4 (.return_) 1 5 := ⟨by decide +kernel, rfl⟩
theorem dX3_covers_0 : DI cX3_covers 0 (.aload_n 0) 1 1 := ⟨by decide +kernel, rfl⟩
theorem dX3_covers_1 : DI cX3_covers 1 (.getfield 7) 3 4 := ⟨by decide +kernel, rfl⟩
theorem dX3_covers_4 : DJ cX3_covers 4 (.ifnull 29) 29 33 7 := ⟨by decide +kernel, by decide, rfl⟩
theorem dX3_covers_7 : DI cX3_covers 7 (.aload_n 0) 1 8 := ⟨by decide +kernel, rfl⟩
theorem dX3_covers_8 : DI cX3_covers 8 (.getfield 7) 3 11 := ⟨by decide +kernel, rfl⟩
theorem dX3_covers_11 : DI cX3_covers 11 (.iload_n 1) 1 12 := ⟨by decide +kernel, rfl⟩
theorem dX3_covers_12 : DI cX3_covers 12 (.aload_n 0) 1 13 := ⟨by decide +kernel, rfl⟩
theorem dX3_covers_13 : DI cX3_covers 13 (.getfield 13) 3 16 := ⟨by decide +kernel, rfl⟩
theorem dX3_covers_16 : DI cX3_covers 16 (.isub) 1 17 := ⟨by decide +kernel, rfl⟩
theorem dX3_covers_17 : DI cX3_covers 17 (.iload_n 2) 1 18 := ⟨by decide +kernel, rfl⟩
theorem dX3_covers_18 : DI cX3_covers 18 (.aload_n 0) 1 19 := ⟨by decide +kernel, rfl⟩
theorem dX3_covers_19 : DI cX3_covers 19 (.getfield 17) 3 22 := ⟨by decide +kernel, rfl⟩
theorem dX3_covers_22 : DI cX3_covers 22 (.isub) 1 23 := ⟨by decide +kernel, rfl⟩
theorem dX3_covers_23 : DI cX3_covers 23 (.invokevirtual 20) 3 26 := ⟨by decide +kernel, rfl⟩
theorem dX3_covers_26 : DJ cX3_covers 26 (.ifCond .eq 7) 7 33 29 := ⟨by decide +kernel, by decide, rfl⟩
theorem dX3_covers_29 : DI cX3_covers 29 (.iconst 1) 1 30 := ⟨by decide +kernel, rfl⟩
theorem dX3_covers_30 : DJ cX3_covers 30 (.goto 4) 4 34 33 := ⟨by decide +kernel, by decide, rfl⟩
theorem dX3_covers_33 : DI cX3_covers 33 (.iconst 0) 1 34 := ⟨by decide +kernel, rfl⟩
theorem dX3_covers_34 : DI cX3_covers 34 (.ireturn) 1 35 := ⟨by decide +kernel, rfl⟩
theorem dX4_init_0 : DI cX4_init 0 (.aload_n 0) 1 1 := ⟨by decide +kernel, rfl⟩
theorem dX4_init_1 : DI cX4_init 1 (.invokespecial 3) 3 4 := ⟨by decide +kernel, rfl⟩
theorem dX4_init_4 : DI cX4_init 4 (.aload_n 0) 1 5 := ⟨by decide +kernel, rfl⟩
theorem dX4_init_5 : DI cX4_init 5 (.iload_n 1) 1 6 := ⟨by decide +kernel, rfl⟩
theorem dX4_init_6 : DI cX4_init 6 (.putfield 9) 3 9 := ⟨by decide +kernel, rfl⟩
theorem dX4_init_9 : DI cX4_init 9 (.aload_n 0) 1 10 := ⟨by decide +kernel, rfl⟩
theorem dX4_init_10 : DI cX4_init 10 (.iload_n 2) 1 11 := ⟨by decide +kernel, rfl⟩
theorem dX4_init_11 : DI cX4_init 11 (.putfield 15) 3 14 := ⟨by decide +kernel, rfl⟩
theorem dX4_init_14 : DI cX4_init 14 (.aload_n 0) 1 15 := ⟨by decide +kernel, rfl⟩
theorem dX4_init_15 : DI cX4_init 15 (.iconst 5) 1 16 := ⟨by decide +kernel, rfl⟩
theorem dX4_init_16 : DI cX4_init 16 (.newarray .int) 2 18 := ⟨by decide +kernel, rfl⟩
theorem dX4_init_18 : DI cX4_init 18 (.putfield 19) 3 21 := ⟨by decide +kernel, rfl⟩
theorem dX4_init_21 : DI cX4_init 21 (.aload_n 0) 1 22 := ⟨by decide +kernel, rfl⟩
theorem dX4_init_22 : DI cX4_init 22 (.iconst (-1)) 1 23 := ⟨by decide +kernel, rfl⟩
theorem dX4_init_23 : DI cX4_init 23 (.putfield 23) 3 26 := ⟨by decide +kernel, rfl⟩
theorem dX4_init_26 : DI cX4_init 26 (.aload_n 0) 1 27 := ⟨by decide +kernel, rfl⟩
theorem dX4_init_27 : DI cX4_init 27 (.bipush 8) 2 29 := ⟨by decide +kernel, rfl⟩
theorem dX4_init_29 : DI cX4_init 29 (.anewarray 27) 3 32 := ⟨by decide +kernel, rfl⟩
theorem dX4_init_32 : DI cX4_init 32 (.putfield 29) 3 35 := ⟨by decide +kernel, rfl⟩
theorem dX4_init_35 : DI cX4_init 35 (.iconst 0) 1 36 := ⟨by decide +kernel, rfl⟩
theorem dX4_init_36 : DI cX4_init 36 (.istore_n 3) 1 37 := ⟨by decide +kernel, rfl⟩
theorem dX4_init_37 : DI cX4_init 37 (.iload_n 3) 1 38 := ⟨by decide +kernel, rfl⟩
theorem dX4_init_38 : DI cX4_init 38 (.aload_n 0) 1 39 := ⟨by decide +kernel, rfl⟩
theorem dX4_init_39 : DI cX4_init 39 (.getfield 29) 3 42 := ⟨by decide +kernel, rfl⟩
theorem dX4_init_42 : DI cX4_init 42 (.arraylength) 1 43 := ⟨by decide +kernel, rfl⟩
theorem dX4_init_43 : DJ cX4_init 43 (.if_icmp .ge 35) 35 78 46 := ⟨by decide +kernel, by decide, rfl⟩
theorem dX4_init_46 : DI cX4_init 46 (.aload_n 0) 1 47 := ⟨by decide +kernel, rfl⟩
theorem dX4_init_47 : DI cX4_init 47 (.getfield 29) 3 50 := ⟨by decide +kernel, rfl⟩
theorem dX4_init_50 : DI cX4_init 50 (.iload_n 3) 1 51 := ⟨by decide +kernel, rfl⟩
theorem dX4_init_51 : DI cX4_init 51 (.new 27) 3 54 := ⟨by decide +kernel, rfl⟩
theorem dX4_init_54 : DI cX4_init 54 (.dup) 1 55 := ⟨by decide +kernel, rfl⟩
theorem dX4_init_55 : DI cX4_init 55 (.iload_n 3) 1 56 := ⟨by decide +kernel, rfl⟩
theorem dX4_init_56 : DI cX4_init 56 (.iconst 4) 1 57 := ⟨by decide +kernel, rfl⟩
theorem dX4_init_57 : DI cX4_init 57 (.irem) 1 58 := ⟨by decide +kernel, rfl⟩
theorem dX4_init_58 : DI cX4_init 58 (.iload_n 3) 1 59 := ⟨by decide +kernel, rfl⟩
theorem dX4_init_59 : DI cX4_init 59 (.iconst 4) 1 60 := ⟨by decide +kernel, rfl⟩
theorem dX4_init_60 : DJ cX4_init 60 (.if_icmp .lt 7) 7 67 63 := ⟨by decide +kernel, by decide, rfl⟩
theorem dX4_init_63 : DI cX4_init 63 (.iconst 1) 1 64 := ⟨by decide +kernel, rfl⟩
theorem dX4_init_64 : DJ cX4_init 64 (.goto 4) 4 68 67 := ⟨by decide +kernel, by decide, rfl⟩
theorem dX4_init_67 : DI cX4_init 67 (.iconst 0) 1 68 := ⟨by decide +kernel, rfl⟩
theorem dX4_init_68 : DI cX4_init 68 (.invokespecial 33) 3 71 := ⟨by decide +kernel, rfl⟩
theorem dX4_init_71 : DI cX4_init 71 (.aastore) 1 72 := ⟨by decide +kernel, rfl⟩
theorem dX4_init_72 : DI cX4_init 72 (.iinc 3 1) 3 75 := ⟨by decide +kernel, rfl⟩
theorem dX4_init_75 : DJ cX4_init 75 (.goto (-38)) (-38) 37 78 := ⟨by decide +kernel, by decide, rfl⟩
theorem dX4_init_78 : DI cX4_init 78 (.return_) 1 79 := ⟨by decide +kernel, rfl⟩
theorem dX4_hasCell_0 : DI cX4_hasCell 0 (.aload_n 0) 1 1 := ⟨by decide +kernel, rfl⟩
theorem dX4_hasCell_1 : DI cX4_hasCell 1 (.getfield 19) 3 4 := ⟨by decide +kernel, rfl⟩
theorem dX4_hasCell_4 : DI cX4_hasCell 4 (.iload_n 1) 1 5 := ⟨by decide +kernel, rfl⟩
theorem dX4_hasCell_5 : DI cX4_hasCell 5 (.invokestatic 36) 3 8 := ⟨by decide +kernel, rfl⟩
theorem dX4_hasCell_8 : DI cX4_hasCell 8 (.iload_n 2) 1 9 := ⟨by decide +kernel, rfl⟩
theorem dX4_hasCell_9 : DI cX4_hasCell 9 (.invokestatic 40) 3 12 := ⟨by decide +kernel, rfl⟩
theorem dX4_hasCell_12 : DI cX4_hasCell 12 (.ireturn) 1 13 := ⟨by decide +kernel, rfl⟩
theorem dX4_draw_0 : DI cX4_draw 0 (.aload_n 0) 1 1 := ⟨by decide +kernel, rfl⟩
theorem dX4_draw_1 : DI cX4_draw 1 (.getfield 19) 3 4 := ⟨by decide +kernel, rfl⟩
theorem dX4_draw_4 : DI cX4_draw 4 (.iload_n 1) 1 5 := ⟨by decide +kernel, rfl⟩
theorem dX4_draw_5 : DI cX4_draw 5 (.aload_n 0) 1 6 := ⟨by decide +kernel, rfl⟩
theorem dX4_draw_6 : DI cX4_draw 6 (.getfield 19) 3 9 := ⟨by decide +kernel, rfl⟩
theorem dX4_draw_9 : DI cX4_draw 9 (.iload_n 1) 1 10 := ⟨by decide +kernel, rfl⟩
theorem dX4_draw_10 : DI cX4_draw 10 (.invokestatic 36) 3 13 := ⟨by decide +kernel, rfl⟩
theorem dX4_draw_13 : DI cX4_draw 13 (.iconst 1) 1 14 := ⟨by decide +kernel, rfl⟩
theorem dX4_draw_14 : DI cX4_draw 14 (.iload_n 2) 1 15 := ⟨by decide +kernel, rfl⟩
theorem dX4_draw_15 : DI cX4_draw 15 (.ishl) 1 16 := ⟨by decide +kernel, rfl⟩
theorem dX4_draw_16 : DI cX4_draw 16 (.ior) 1 17 := ⟨by decide +kernel, rfl⟩
theorem dX4_draw_17 : DI cX4_draw 17 (.invokestatic 44) 3 20 := ⟨by decide +kernel, rfl⟩
theorem dX4_draw_20 : DI cX4_draw 20 (.aload_n 0) 1 21 := ⟨by decide +kernel, rfl⟩
theorem dX4_draw_21 : DI cX4_draw 21 (.dup) 1 22 := ⟨by decide +kernel, rfl⟩
theorem dX4_draw_22 : DI cX4_draw 22 (.getfield 48) 3 25 := ⟨by decide +kernel, rfl⟩
theorem dX4_draw_25 : DI cX4_draw 25 (.iconst 1) 1 26 := ⟨by decide +kernel, rfl⟩
theorem dX4_draw_26 : DI cX4_draw 26 (.iadd) 1 27 := ⟨by decide +kernel, rfl⟩
theorem dX4_draw_27 : DI cX4_draw 27 (.putfield 48) 3 30 := ⟨by decide +kernel, rfl⟩
theorem dX4_draw_30 : DI cX4_draw 30 (.aload_n 0) 1 31 := ⟨by decide +kernel, rfl⟩
theorem dX4_draw_31 : DI cX4_draw 31 (.invokevirtual 51) 3 34 := ⟨by decide +kernel, rfl⟩
theorem dX4_draw_34 : DI cX4_draw 34 (.return_) 1 35 := ⟨by decide +kernel, rfl⟩
theorem dX4_mark_0 : DI cX4_mark 0 (.aload_n 0) 1 1 := ⟨by decide +kernel, rfl⟩
theorem dX4_mark_1 : DI cX4_mark 1 (.iload_n 1) 1 2 := ⟨by decide +kernel, rfl⟩
theorem dX4_mark_2 : DI cX4_mark 2 (.putfield 23) 3 5 := ⟨by decide +kernel, rfl⟩
theorem dX4_mark_5 : DI cX4_mark 5 (.aload_n 0) 1 6 := ⟨by decide +kernel, rfl⟩
theorem dX4_mark_6 : DI cX4_mark 6 (.iload_n 2) 1 7 := ⟨by decide +kernel, rfl⟩
theorem dX4_mark_7 : DI cX4_mark 7 (.putfield 54) 3 10 := ⟨by decide +kernel, rfl⟩
theorem dX4_mark_10 : DI cX4_mark 10 (.aload_n 0) 1 11 := ⟨by decide +kernel, rfl⟩
theorem dX4_mark_11 : DI cX4_mark 11 (.iload_n 3) 1 12 := ⟨by decide +kernel, rfl⟩
theorem dX4_mark_12 : DI cX4_mark 12 (.putfield 57) 3 15 := ⟨by decide +kernel, rfl⟩
theorem dX4_mark_15 : DI cX4_mark 15 (.aload_n 0) 1 16 := ⟨by decide +kernel, rfl⟩
theorem dX4_mark_16 : DI cX4_mark 16 (.invokevirtual 51) 3 19 := ⟨by decide +kernel, rfl⟩
theorem dX4_mark_19 : DI cX4_mark 19 (.return_) 1 20 := ⟨by decide +kernel, rfl⟩
theorem dX4_traceAll_0 : DI cX4_traceAll 0 (.iconst 0) 1 1 := ⟨by decide +kernel, rfl⟩
theorem dX4_traceAll_1 : DI cX4_traceAll 1 (.istore_n 1) 1 2 := ⟨by decide +kernel, rfl⟩
theorem dX4_traceAll_2 : DI cX4_traceAll 2 (.iload_n 1) 1 3 := ⟨by decide +kernel, rfl⟩
theorem dX4_traceAll_3 : DI cX4_traceAll 3 (.aload_n 0) 1 4 := ⟨by decide +kernel, rfl⟩
theorem dX4_traceAll_4 : DI cX4_traceAll 4 (.getfield 29) 3 7 := ⟨by decide +kernel, rfl⟩
theorem dX4_traceAll_7 : DI cX4_traceAll 7 (.arraylength) 1 8 := ⟨by decide +kernel, rfl⟩
theorem dX4_traceAll_8 : DJ cX4_traceAll 8 (.if_icmp .ge 36) 36 44 11 := ⟨by decide +kernel, by decide, rfl⟩
theorem dX4_traceAll_11 : DI cX4_traceAll 11 (.aload_n 0) 1 12 := ⟨by decide +kernel, rfl⟩
theorem dX4_traceAll_12 : DI cX4_traceAll 12 (.getfield 29) 3 15 := ⟨by decide +kernel, rfl⟩
theorem dX4_traceAll_15 : DI cX4_traceAll 15 (.iload_n 1) 1 16 := ⟨by decide +kernel, rfl⟩
theorem dX4_traceAll_16 : DI cX4_traceAll 16 (.aaload) 1 17 := ⟨by decide +kernel, rfl⟩
theorem dX4_traceAll_17 : DI cX4_traceAll 17 (.astore_n 2) 1 18 := ⟨by decide +kernel, rfl⟩
theorem dX4_traceAll_18 : DI cX4_traceAll 18 (.aload_n 2) 1 19 := ⟨by decide +kernel, rfl⟩
theorem dX4_traceAll_19 : DJ cX4_traceAll 19 (.ifnull 19) 19 38 22 := ⟨by decide +kernel, by decide, rfl⟩
theorem dX4_traceAll_22 : DI cX4_traceAll 22 (.aload_n 2) 1 23 := ⟨by decide +kernel, rfl⟩
theorem dX4_traceAll_23 : DI cX4_traceAll 23 (.aload_n 0) 1 24 := ⟨by decide +kernel, rfl⟩
theorem dX4_traceAll_24 : DI cX4_traceAll 24 (.getfield 19) 3 27 := ⟨by decide +kernel, rfl⟩
theorem dX4_traceAll_27 : DI cX4_traceAll 27 (.aload_n 0) 1 28 := ⟨by decide +kernel, rfl⟩
theorem dX4_traceAll_28 : DI cX4_traceAll 28 (.getfield 54) 3 31 := ⟨by decide +kernel, rfl⟩
theorem dX4_traceAll_31 : DI cX4_traceAll 31 (.aload_n 0) 1 32 := ⟨by decide +kernel, rfl⟩
theorem dX4_traceAll_32 : DI cX4_traceAll 32 (.getfield 57) 3 35 := ⟨by decide +kernel, rfl⟩
theorem dX4_traceAll_35 : DI cX4_traceAll 35 (.invokevirtual 60) 3 38 := ⟨by decide +kernel, rfl⟩
theorem dX4_traceAll_38 : DI cX4_traceAll 38 (.iinc 1 1) 3 41 := ⟨by decide +kernel, rfl⟩
theorem dX4_traceAll_41 : DJ cX4_traceAll 41 (.goto (-39)) (-39) 2 44 := ⟨by decide +kernel, by decide, rfl⟩
theorem dX4_traceAll_44 : DI cX4_traceAll 44 (.return_) 1 45 := ⟨by decide +kernel, rfl⟩
theorem dX4_outlineFor_0 : DI cX4_outlineFor 0 (.iload_n 2) 1 1 := ⟨by decide +kernel, rfl⟩
theorem dX4_outlineFor_1 : DJ cX4_outlineFor 1 (.ifCond .eq 9) 9 10 4 := ⟨by decide +kernel, by decide, rfl⟩
theorem dX4_outlineFor_4 : DI cX4_outlineFor 4 (.iload_n 1) 1 5 := ⟨by decide +kernel, rfl⟩
theorem dX4_outlineFor_5 : DI cX4_outlineFor 5 (.iconst 4) 1 6 := ⟨by decide +kernel, rfl⟩
theorem dX4_outlineFor_6 : DI cX4_outlineFor 6 (.iadd) 1 7 := ⟨by decide +kernel, rfl⟩
theorem dX4_outlineFor_7 : DJ cX4_outlineFor 7 (.goto 4) 4 11 10 := ⟨by decide +kernel, by decide, rfl⟩
theorem dX4_outlineFor_10 : DI cX4_outlineFor 10 (.iload_n 1) 1 11 := ⟨by decide +kernel, rfl⟩
theorem dX4_outlineFor_11 : DI cX4_outlineFor 11 (.istore_n 3) 1 12 := ⟨by decide +kernel, rfl⟩
theorem dX4_outlineFor_12 : DI cX4_outlineFor 12 (.iload_n 3) 1 13 := ⟨by decide +kernel, rfl⟩
theorem dX4_outlineFor_13 : DJ cX4_outlineFor 13 (.ifCond .lt 21) 21 34 16 := ⟨by decide +kernel, by decide, rfl⟩
theorem dX4_outlineFor_16 : DI cX4_outlineFor 16 (.iload_n 3) 1 17 := ⟨by decide +kernel, rfl⟩
theorem dX4_outlineFor_17 : DI cX4_outlineFor 17 (.aload_n 0) 1 18 := ⟨by decide +kernel, rfl⟩
theorem dX4_outlineFor_18 : DI cX4_outlineFor 18 (.getfield 29) 3 21 := ⟨by decide +kernel, rfl⟩
theorem dX4_outlineFor_21 : DI cX4_outlineFor 21 (.arraylength) 1 22 := ⟨by decide +kernel, rfl⟩
theorem dX4_outlineFor_22 : DJ cX4_outlineFor 22 (.if_icmp .ge 12) 12 34 25 := ⟨by decide +kernel, by decide, rfl⟩
theorem dX4_outlineFor_25 : DI cX4_outlineFor 25 (.aload_n 0) 1 26 := ⟨by decide +kernel, rfl⟩
theorem dX4_outlineFor_26 : DI cX4_outlineFor 26 (.getfield 29) 3 29 := ⟨by decide +kernel, rfl⟩
theorem dX4_outlineFor_29 : DI cX4_outlineFor 29 (.iload_n 3) 1 30 := ⟨by decide +kernel, rfl⟩
theorem dX4_outlineFor_30 : DI cX4_outlineFor 30 (.aaload) 1 31 := ⟨by decide +kernel, rfl⟩
theorem dX4_outlineFor_31 : DJ cX4_outlineFor 31 (.goto 4) 4 35 34 := ⟨by decide +kernel, by decide, rfl⟩
theorem dX4_outlineFor_34 : DI cX4_outlineFor 34 (.aconst_null) 1 35 := ⟨by decide +kernel, rfl⟩
theorem dX4_outlineFor_35 : DI cX4_outlineFor 35 (.areturn) 1 36 := ⟨by decide +kernel, rfl⟩
theorem dX4_canTurn_0 : DI cX4_canTurn 0 (.iload_n 1) 1 1 := ⟨by decide +kernel, rfl⟩
theorem dX4_canTurn_1 : DJ cX4_canTurn 1 (.ifCond .ne 5) 5 6 4 := ⟨by decide +kernel, by decide, rfl⟩
theorem dX4_canTurn_4 : DI cX4_canTurn 4 (.iconst 1) 1 5 := ⟨by decide +kernel, rfl⟩
theorem dX4_canTurn_5 : DI cX4_canTurn 5 (.ireturn) 1 6 := ⟨by decide +kernel, rfl⟩
theorem dX4_canTurn_6 : DI cX4_canTurn 6 (.iload_n 2) 1 7 := ⟨by decide +kernel, rfl⟩
theorem dX4_canTurn_7 : DJ cX4_canTurn 7 (.ifCond .ne 30) 30 37 10 := ⟨by decide +kernel, by decide, rfl⟩
theorem dX4_canTurn_10 : DI cX4_canTurn 10 (.aload_n 0) 1 11 := ⟨by decide +kernel, rfl⟩
theorem dX4_canTurn_11 : DI cX4_canTurn 11 (.getfield 9) 3 14 := ⟨by decide +kernel, rfl⟩
theorem dX4_canTurn_14 : DI cX4_canTurn 14 (.bipush 113) 2 16 := ⟨by decide +kernel, rfl⟩
theorem dX4_canTurn_16 : DJ cX4_canTurn 16 (.if_icmp .eq 17) 17 33 19 := ⟨by decide +kernel, by decide, rfl⟩
theorem dX4_canTurn_19 : DI cX4_canTurn 19 (.aload_n 0) 1 20 := ⟨by decide +kernel, rfl⟩
theorem dX4_canTurn_20 : DI cX4_canTurn 20 (.getfield 9) 3 23 := ⟨by decide +kernel, rfl⟩
theorem dX4_canTurn_23 : DI cX4_canTurn 23 (.bipush 104) 2 25 := ⟨by decide +kernel, rfl⟩
theorem dX4_canTurn_25 : DJ cX4_canTurn 25 (.if_icmp .ne 12) 12 37 28 := ⟨by decide +kernel, by decide, rfl⟩
theorem dX4_canTurn_28 : DI cX4_canTurn 28 (.iload_n 1) 1 29 := ⟨by decide +kernel, rfl⟩
theorem dX4_canTurn_29 : DI cX4_canTurn 29 (.iconst 2) 1 30 := ⟨by decide +kernel, rfl⟩
theorem dX4_canTurn_30 : DJ cX4_canTurn 30 (.if_icmp .ne 7) 7 37 33 := ⟨by decide +kernel, by decide, rfl⟩
theorem dX4_canTurn_33 : DI cX4_canTurn 33 (.iconst 1) 1 34 := ⟨by decide +kernel, rfl⟩
theorem dX4_canTurn_34 : DJ cX4_canTurn 34 (.goto 4) 4 38 37 := ⟨by decide +kernel, by decide, rfl⟩
theorem dX4_canTurn_37 : DI cX4_canTurn 37 (.iconst 0) 1 38 := ⟨by decide +kernel, rfl⟩
theorem dX4_canTurn_38 : DI cX4_canTurn 38 (.ireturn) 1 39 := ⟨by decide +kernel, rfl⟩
theorem dX4_canMirror_0 : DI cX4_canMirror 0 (.aload_n 0) 1 1 := ⟨by decide +kernel, rfl⟩
theorem dX4_canMirror_1 : DI cX4_canMirror 1 (.getfield 15) 3 4 := ⟨by decide +kernel, rfl⟩
theorem dX4_canMirror_4 : DJ cX4_canMirror 4 (.ifCond .eq 11) 11 15 7 := ⟨by decide +kernel, by decide, rfl⟩
theorem dX4_canMirror_7 : DI cX4_canMirror 7 (.iload_n 1) 1 8 := ⟨by decide +kernel, rfl⟩
theorem dX4_canMirror_8 : DJ cX4_canMirror 8 (.ifCond .ne 7) 7 15 11 := ⟨by decide +kernel, by decide, rfl⟩
theorem dX4_canMirror_11 : DI cX4_canMirror 11 (.iconst 1) 1 12 := ⟨by decide +kernel, rfl⟩
theorem dX4_canMirror_12 : DJ cX4_canMirror 12 (.goto 4) 4 16 15 := ⟨by decide +kernel, by decide, rfl⟩
theorem dX4_canMirror_15 : DI cX4_canMirror 15 (.iconst 0) 1 16 := ⟨by decide +kernel, rfl⟩
theorem dX4_canMirror_16 : DI cX4_canMirror 16 (.ireturn) 1 17 := ⟨by decide +kernel, rfl⟩
theorem dX4_whole_0 : DI cX4_whole 0 (.aload_n 0) 1 1 := ⟨by decide +kernel, rfl⟩
theorem dX4_whole_1 : DI cX4_whole 1 (.getfield 15) 3 4 := ⟨by decide +kernel, rfl⟩
theorem dX4_whole_4 : DJ cX4_whole 4 (.ifCond .eq 17) 17 21 7 := ⟨by decide +kernel, by decide, rfl⟩
theorem dX4_whole_7 : DI cX4_whole 7 (.aload_n 0) 1 8 := ⟨by decide +kernel, rfl⟩
theorem dX4_whole_8 : DI cX4_whole 8 (.getfield 63) 3 11 := ⟨by decide +kernel, rfl⟩
theorem dX4_whole_11 : DI cX4_whole 11 (.aload_n 0) 1 12 := ⟨by decide +kernel, rfl⟩
theorem dX4_whole_12 : DI cX4_whole 12 (.getfield 66) 3 15 := ⟨by decide +kernel, rfl⟩
theorem dX4_whole_15 : DI cX4_whole 15 (.invokestatic 69) 3 18 := ⟨by decide +kernel, rfl⟩
theorem dX4_whole_18 : DJ cX4_whole 18 (.goto 7) 7 25 21 := ⟨by decide +kernel, by decide, rfl⟩
theorem dX4_whole_21 : DI cX4_whole 21 (.aload_n 0) 1 22 := ⟨by decide +kernel, rfl⟩
theorem dX4_whole_22 : DI cX4_whole 22 (.getfield 63) 3 25 := ⟨by decide +kernel, rfl⟩
theorem dX4_whole_25 : DI cX4_whole 25 (.ireturn) 1 26 := ⟨by decide +kernel, rfl⟩
theorem dX4_receive_0 : DI cX4_receive 0 (.aload_n 0) 1 1 := ⟨by decide +kernel, rfl⟩
theorem dX4_receive_1 : DI cX4_receive 1 (.dup) 1 2 := ⟨by decide +kernel, rfl⟩
theorem dX4_receive_2 : DI cX4_receive 2 (.getfield 63) 3 5 := ⟨by decide +kernel, rfl⟩
theorem dX4_receive_5 : DI cX4_receive 5 (.iload_n 1) 1 6 := ⟨by decide +kernel, rfl⟩
theorem dX4_receive_6 : DI cX4_receive 6 (.iadd) 1 7 := ⟨by decide +kernel, rfl⟩
theorem dX4_receive_7 : DI cX4_receive 7 (.putfield 63) 3 10 := ⟨by decide +kernel, rfl⟩
theorem dX4_receive_10 : DI cX4_receive 10 (.aload_n 0) 1 11 := ⟨by decide +kernel, rfl⟩
theorem dX4_receive_11 : DI cX4_receive 11 (.dup) 1 12 := ⟨by decide +kernel, rfl⟩
theorem dX4_receive_12 : DI cX4_receive 12 (.getfield 66) 3 15 := ⟨by decide +kernel, rfl⟩
theorem dX4_receive_15 : DI cX4_receive 15 (.iload_n 2) 1 16 := ⟨by decide +kernel, rfl⟩
theorem dX4_receive_16 : DI cX4_receive 16 (.iadd) 1 17 := ⟨by decide +kernel, rfl⟩
theorem dX4_receive_17 : DI cX4_receive 17 (.putfield 66) 3 20 := ⟨by decide +kernel, rfl⟩
theorem dX4_receive_20 : DI cX4_receive 20 (.aload_n 0) 1 21 := ⟨by decide +kernel, rfl⟩
theorem dX4_receive_21 : DI cX4_receive 21 (.dup) 1 22 := ⟨by decide +kernel, rfl⟩
theorem dX4_receive_22 : DI cX4_receive 22 (.getfield 75) 3 25 := ⟨by decide +kernel, rfl⟩
theorem dX4_receive_25 : DI cX4_receive 25 (.iload_n 1) 1 26 := ⟨by decide +kernel, rfl⟩
theorem dX4_receive_26 : DI cX4_receive 26 (.iload_n 2) 1 27 := ⟨by decide +kernel, rfl⟩
theorem dX4_receive_27 : DI cX4_receive 27 (.iadd) 1 28 := ⟨by decide +kernel, rfl⟩
theorem dX4_receive_28 : DI cX4_receive 28 (.i2l) 1 29 := ⟨by decide +kernel, rfl⟩
theorem dX4_receive_29 : DI cX4_receive 29 (.ladd) 1 30 := ⟨by decide +kernel, rfl⟩
theorem dX4_receive_30 : DI cX4_receive 30 (.putfield 75) 3 33 := ⟨by decide +kernel, rfl⟩
theorem dX4_receive_33 : DI cX4_receive 33 (.return_) 1 34 := ⟨by decide +kernel, rfl⟩
theorem dX4_giveAway_0 : DI cX4_giveAway 0 (.aload_n 0) 1 1 := ⟨by decide +kernel, rfl⟩
theorem dX4_giveAway_1 : DI cX4_giveAway 1 (.dup) 1 2 := ⟨by decide +kernel, rfl⟩
theorem dX4_giveAway_2 : DI cX4_giveAway 2 (.getfield 63) 3 5 := ⟨by decide +kernel, rfl⟩
theorem dX4_giveAway_5 : DI cX4_giveAway 5 (.iload_n 1) 1 6 := ⟨by decide +kernel, rfl⟩
theorem dX4_giveAway_6 : DI cX4_giveAway 6 (.isub) 1 7 := ⟨by decide +kernel, rfl⟩
theorem dX4_giveAway_7 : DI cX4_giveAway 7 (.putfield 63) 3 10 := ⟨by decide +kernel, rfl⟩
theorem dX4_giveAway_10 : DI cX4_giveAway 10 (.aload_n 0) 1 11 := ⟨by decide +kernel, rfl⟩
theorem dX4_giveAway_11 : DI cX4_giveAway 11 (.getfield 15) 3 14 := ⟨by decide +kernel, rfl⟩
theorem dX4_giveAway_14 : DJ cX4_giveAway 14 (.ifCond .eq 13) 13 27 17 := ⟨by decide +kernel, by decide, rfl⟩
theorem dX4_giveAway_17 : DI cX4_giveAway 17 (.aload_n 0) 1 18 := ⟨by decide +kernel, rfl⟩
theorem dX4_giveAway_18 : DI cX4_giveAway 18 (.dup) 1 19 := ⟨by decide +kernel, rfl⟩
theorem dX4_giveAway_19 : DI cX4_giveAway 19 (.getfield 66) 3 22 := ⟨by decide +kernel, rfl⟩
theorem dX4_giveAway_22 : DI cX4_giveAway 22 (.iload_n 1) 1 23 := ⟨by decide +kernel, rfl⟩
theorem dX4_giveAway_23 : DI cX4_giveAway 23 (.isub) 1 24 := ⟨by decide +kernel, rfl⟩
theorem dX4_giveAway_24 : DI cX4_giveAway 24 (.putfield 66) 3 27 := ⟨by decide +kernel, rfl⟩
theorem dX4_giveAway_27 : DI cX4_giveAway 27 (.return_) 1 28 := ⟨by decide +kernel, rfl⟩
theorem dX5_init_0 : DI cX5_init 0 (.aload_n 0) 1 1 := ⟨by decide +kernel, rfl⟩
theorem dX5_init_1 : DI cX5_init 1 (.invokespecial 3) 3 4 := ⟨by decide +kernel, rfl⟩
theorem dX5_init_4 : DI cX5_init 4 (.aload_n 0) 1 5 := ⟨by decide +kernel, rfl⟩
theorem dX5_init_5 : DI cX5_init 5 (.bipush 8) 2 7 := ⟨by decide +kernel, rfl⟩
theorem dX5_init_7 : DI cX5_init 7 (.newarray .int) 2 9 := ⟨by decide +kernel, rfl⟩
theorem dX5_init_9 : DI cX5_init 9 (.putfield 9) 3 12 := ⟨by decide +kernel, rfl⟩
theorem dX5_init_12 : DI cX5_init 12 (.return_) 1 13 := ⟨by decide +kernel, rfl⟩
theorem dX5_hasParts_0 : DI cX5_hasParts 0 (.iconst 0) 1 1 := ⟨by decide +kernel, rfl⟩
theorem dX5_hasParts_1 : DI cX5_hasParts 1 (.istore_n 1) 1 2 := ⟨by decide +kernel, rfl⟩
theorem dX5_hasParts_2 : DI cX5_hasParts 2 (.iload_n 1) 1 3 := ⟨by decide +kernel, rfl⟩
theorem dX5_hasParts_3 : DI cX5_hasParts 3 (.aload_n 0) 1 4 := ⟨by decide +kernel, rfl⟩
theorem dX5_hasParts_4 : DI cX5_hasParts 4 (.getfield 9) 3 7 := ⟨by decide +kernel, rfl⟩
theorem dX5_hasParts_7 : DI cX5_hasParts 7 (.arraylength) 1 8 := ⟨by decide +kernel, rfl⟩
theorem dX5_hasParts_8 : DJ cX5_hasParts 8 (.if_icmp .ge 20) 20 28 11 := ⟨by decide +kernel, by decide, rfl⟩
theorem dX5_hasParts_11 : DI cX5_hasParts 11 (.aload_n 0) 1 12 := ⟨by decide +kernel, rfl⟩
theorem dX5_hasParts_12 : DI cX5_hasParts 12 (.getfield 9) 3 15 := ⟨by decide +kernel, rfl⟩
theorem dX5_hasParts_15 : DI cX5_hasParts 15 (.iload_n 1) 1 16 := ⟨by decide +kernel, rfl⟩
theorem dX5_hasParts_16 : DI cX5_hasParts 16 (.iaload) 1 17 := ⟨by decide +kernel, rfl⟩
theorem dX5_hasParts_17 : DJ cX5_hasParts 17 (.ifCond .le 5) 5 22 20 := ⟨by decide +kernel, by decide, rfl⟩
theorem dX5_hasParts_20 : DI cX5_hasParts 20 (.iconst 1) 1 21 := ⟨by decide +kernel, rfl⟩
theorem dX5_hasParts_21 : DI cX5_hasParts 21 (.ireturn) 1 22 := ⟨by decide +kernel, rfl⟩
theorem dX5_hasParts_22 : DI cX5_hasParts 22 (.iinc 1 1) 3 25 := ⟨by decide +kernel, rfl⟩
theorem dX5_hasParts_25 : DJ cX5_hasParts 25 (.goto (-23)) (-23) 2 28 := ⟨by decide +kernel, by decide, rfl⟩
theorem dX5_hasParts_28 : DI cX5_hasParts 28 (.iconst 0) 1 29 := ⟨by decide +kernel, rfl⟩
theorem dX5_hasParts_29 : DI cX5_hasParts 29 (.ireturn) 1 30 := ⟨by decide +kernel, rfl⟩
end
section
/-! The memory by kinds: an object is (kind, number); its fields are numbers (Int), references (the number of an object of a known kind), longs, doubles. -/
abbrev AV : Type := Int ⊕ (Option (Nat × Nat)) ⊕ Int ⊕ UInt32 ⊕ UInt64
abbrev aI (x : Int) : AV := .inl x
abbrev aR (r : Option (Nat × Nat)) : AV := .inr (.inl r)
abbrev aO (k i : Nat) : AV := .inr (.inl (some (k, i)))
abbrev aN : AV := .inr (.inl none)
abbrev aL (x : Int) : AV := .inr (.inr (.inl x))
abbrev aF (x : UInt32) : AV := .inr (.inr (.inr (.inl x)))
abbrev aD (x : UInt64) : AV := .inr (.inr (.inr (.inr x)))
abbrev Ads : Type := Nat → Nat → Nat
def tv (ad : Ads) (v : AV) : Value := match v with
  | .inl x => .int (Int32.ofInt x)
  | .inr (.inl none) => .null
  | .inr (.inl (some p)) => .ref (ad p.1 p.2)
  | .inr (.inr (.inl x)) => .long (Int64.ofInt x)
  | .inr (.inr (.inr (.inl x))) => .float x
  | .inr (.inr (.inr (.inr x))) => .double x
def cat2 (v : AV) : Bool := match v with
  | .inr (.inr (.inl _)) => true
  | .inr (.inr (.inr (.inr _))) => true
  | _ => false
theorem tv_cat (ad : Ads) (v : AV) : ((tv ad v).category == 2) = cat2 v := by rcases v with x | (_ | p) | x | x | x <;> rfl
theorem tv_cat1 {ad : Ads} {v : AV} (h : cat2 v = false) : (tv ad v).category = 1 := by
  rcases v with x | (_ | p) | x | x | x <;> first | rfl | (exact absurd h (fun q => by cases q))
theorem tv_cat2 (ad : Ads) (v : AV) : (tv ad v).category = if cat2 v then 2 else 1 := by rcases v with x | (_ | p) | x | x | x <;> rfl
abbrev Lv : Type := List (Nat × AV)
def lget : Lv → Nat → Option AV
  | [], _ => none
  | q :: t, j => if q.1 = j then some q.2 else lget t j
def lset (lv : Lv) (i : Nat) (v : AV) : Lv := (i, v) :: lv.filter (fun q => !(q.1 == i) && !(q.1 + 1 == i && cat2 q.2))
def lset2 (lv : Lv) (i : Nat) (v : AV) : Lv := (i, v) :: lv.filter (fun q => !(q.1 == i) && (!(q.1 == i + 1) && !(q.1 + 1 == i && cat2 q.2)))
def lvm (ad : Ads) (lv : Lv) : List (Nat × Value) := lv.map fun q => (q.1, tv ad q.2)
def lsub (lv : Lv) : Lv → Prop
  | [] => True
  | q :: t => lget lv q.1 = some q.2 ∧ lsub lv t
theorem lget_mem : ∀ {lv : Lv} {j : Nat} {v : AV}, lget lv j = some v → (j, v) ∈ lv
  | [], _, _, h => by simp [lget] at h
  | q :: t, j, v, h => by
    unfold lget at h
    split at h
    · rename_i e
      cases h
      subst e
      exact List.mem_cons_self
    · exact List.mem_cons_of_mem _ (lget_mem h)
theorem lget_mapped {ad : Ads} {lv : Lv} {j : Nat} {v : AV} (h : lget lv j = some v) : (j, tv ad v) ∈ lvm ad lv := List.mem_map.mpr ⟨(j, v), lget_mem h, rfl⟩
theorem lget_has {ad : Ads} {ls : Array Slot} {nL : Nat} {lv : Lv} {j : Nat} {v : AV} (hl : lv_has ls nL (lvm ad lv)) (h : lget lv j = some v) : ls[j]? = some (.val (tv ad v)) := hl.2.2 (j, tv ad v) (lget_mapped h)
theorem lsub_mem {lv : Lv} : ∀ {lv' : Lv}, lsub lv lv' → ∀ q ∈ lv', lget lv q.1 = some q.2
  | [], _, q, hq => by cases hq
  | q0 :: t, h, q, hq => by
    rcases List.mem_cons.mp hq with e | e
    · rw [e]; exact h.1
    · exact lsub_mem h.2 q e
theorem lsub_has {ad : Ads} {ls : Array Slot} {nL : Nat} {lv lv' : Lv} (hl : lv_has ls nL (lvm ad lv)) (h : lsub lv lv') : lv_has ls nL (lvm ad lv') := by
  refine ⟨hl.1, hl.2.1, fun q hq => ?_⟩
  obtain ⟨q0, h0, rfl⟩ := List.mem_map.mp hq
  exact lget_has hl (lsub_mem h q0 h0)
theorem lvm_lset (ad : Ads) (lv : Lv) (i : Nat) (v : AV) : (i, tv ad v) :: (lvm ad lv).filter (fun q => !(q.1 == i) && !(q.1 + 1 == i && q.2.category == 2)) = lvm ad (lset lv i v) := by
  simp only [lvm, lset, List.map_cons, List.filter_map]
  congr 3
  funext q
  simp only [Function.comp, tv_cat]
theorem lvm_lset2 (ad : Ads) (lv : Lv) (i : Nat) (v : AV) : (i, tv ad v) :: (lvm ad lv).filter (fun q => !(q.1 == i) && (!(q.1 == i + 1) && !(q.1 + 1 == i && q.2.category == 2))) = lvm ad (lset2 lv i v) := by
  simp only [lvm, lset2, List.map_cons, List.filter_map]
  congr 3
  funext q
  simp only [Function.comp, tv_cat]
def avargs : Nat → List AV → Lv
  | _, [] => []
  | i, v :: t => (i, v) :: avargs (if cat2 v then i + 2 else i + 1) t
theorem avargs_lv (ad : Ads) : ∀ (vs : List AV) (i : Nat), lv_args i (vs.map (tv ad)) = lvm ad (avargs i vs)
  | [], _ => rfl
  | v :: t, i => by
    simp only [List.map_cons, lv_args, avargs, lvm]
    congr 1
    rw [avargs_lv ad t]
    have : (if (tv ad v).category = 2 then i + 2 else i + 1) = (if cat2 v = true then i + 2 else i + 1) := by
      have h := tv_cat ad v
      by_cases hc : cat2 v = true
      · rw [hc] at h
        rw [if_pos (by simpa using h), if_pos hc]
      · rw [Bool.not_eq_true] at hc
        rw [hc] at h
        rw [if_neg (by simpa using h), hc]
        rfl
    rw [this]
    rfl
/-! memory -/
abbrev Mem : Type := (Nat → Nat → Nat → Int) × (Nat → Nat → Nat → Option Nat) × (Nat → Nat → Nat → Int) × (Nat → Nat → Nat → UInt64)
def cellG (cA : Nat → ClassId) (ad : Ads) (k i : Nat) (f : Nat → Int) (g : Nat → Option Nat) (h : Nat → Int) (d : Nat → UInt64) : va_E := match k with
  | 0 => .inr (6, [.ref (ad 1 0), .ref (ad 2 0), .ref (ad 10 0), .int (Int32.ofInt (f 3)), .ref (ad 11 0), .int (Int32.ofInt (f 5)), .int (Int32.ofInt (f 6)), .ref (ad 2 1), .ref (ad 27 0), .ref (ad 28 0), .ref (ad 29 0)])
  | 1 => .inr (0, [.int (Int32.ofInt (f 0)), .int (Int32.ofInt (f 1)), .int (Int32.ofInt (f 2)), .int (Int32.ofInt (f 3)), .int (Int32.ofInt (f 4)), .ref (ad 20 0), .ref (ad 21 0)])
  | 2 => .inr (1, [.ref (ad 12 i), .int (Int32.ofInt (f 1)), .int (Int32.ofInt (f 2)), .ref (ad 22 i), .ref (ad 23 i), .ref (ad 24 i), .ref (ad 25 i), .ref (ad 26 i)])
  | 3 => .inr (3, [.int (Int32.ofInt (f 0)), va_rf ((g 1).map (ad 4)), va_rf ((g 2).map (ad 5)), .int (Int32.ofInt (f 3)), .int (Int32.ofInt (f 4)), .int (Int32.ofInt (f 5)), .int (Int32.ofInt (f 6))])
  | 4 => .inr (4, [.int (Int32.ofInt (f 0)), .int (Int32.ofInt (f 1)), .ref (ad 30 i), .ref (ad 13 i), .int (Int32.ofInt (f 4)), .int (Int32.ofInt (f 5)), .int (Int32.ofInt (f 6)), .int (Int32.ofInt (f 7)), .int (Int32.ofInt (f 8)), .int (Int32.ofInt (f 9)), .long (Int64.ofInt (h 10))])
  | 5 => .inr (2, [.int (Int32.ofInt (f 0)), .int (Int32.ofInt (f 1)), .ref (ad 31 i), .int (Int32.ofInt (f 3)), .int (Int32.ofInt (f 4)), .int (Int32.ofInt (f 5))])
  | 6 => .inr (5, [.ref (ad 32 i), .int (Int32.ofInt (f 1))])
  | 10 => .inl (cA 5, 8, .inr (.inr (.inr (.inr (fun j => (g j).map (ad 4))))))
  | 11 => .inl (cA 6, 4, .inr (.inr (.inr (.inr (fun j => (g j).map (ad 6))))))
  | 12 => .inl (cA 7, 40, .inr (.inr (.inr (.inr (fun j => (g j).map (ad 3))))))
  | 13 => .inl (cA 8, 8, .inr (.inr (.inr (.inr (fun j => (g j).map (ad 5))))))
  | 20 => .inl (cA 0, 60, .inl (fun j => Int32.ofInt (f j)))
  | 21 => .inl (cA 0, 60, .inl (fun j => Int32.ofInt (f j)))
  | 22 => .inl (cA 0, 720, .inl (fun j => Int32.ofInt (f j)))
  | 23 => .inl (cA 0, 60, .inl (fun j => Int32.ofInt (f j)))
  | 24 => .inl (cA 0, 4, .inl (fun j => Int32.ofInt (f j)))
  | 25 => .inl (cA 0, 4, .inl (fun j => Int32.ofInt (f j)))
  | 26 => .inl (cA 0, 60, .inl (fun j => Int32.ofInt (f j)))
  | 27 => .inl (cA 0, 16, .inl (fun j => Int32.ofInt (f j)))
  | 28 => .inl (cA 0, 4, .inl (fun j => Int32.ofInt (f j)))
  | 29 => .inl (cA 0, 16, .inl (fun j => Int32.ofInt (f j)))
  | 30 => .inl (cA 0, 5, .inl (fun j => Int32.ofInt (f j)))
  | 31 => .inl (cA 0, 5, .inl (fun j => Int32.ofInt (f j)))
  | 32 => .inl (cA 0, 8, .inl (fun j => Int32.ofInt (f j)))
  | 40 => .inr (7, [.int (Int32.ofInt (f 0)), .int (Int32.ofInt (f 1)), .int (Int32.ofInt (f 2)), .int (Int32.ofInt (f 3)), .int (Int32.ofInt (f 4)), .int (Int32.ofInt (f 5)), .ref (ad 41 0), .int (Int32.ofInt (f 7)), .ref (ad 47 0), .ref (ad 42 0), .ref (ad 43 0), .ref (ad 48 0), .ref (ad 49 0), .ref (ad 50 0), .ref (ad 51 0), .ref (ad 44 0), .ref (ad 52 0), .int (Int32.ofInt (f 17)), .int (Int32.ofInt (f 18)), .ref (ad 53 0), .ref (ad 54 0), .ref (ad 55 0), .ref (ad 56 0), .ref (ad 57 0), .ref (ad 45 0), .ref (ad 58 0), .ref (ad 59 0), .ref (ad 60 0), .int (Int32.ofInt (f 28)), .ref (ad 61 0), .ref (ad 62 0), .int (Int32.ofInt (f 31)), .long (Int64.ofInt (h 32)), .int (Int32.ofInt (f 33)), .ref (ad 63 0), .ref (ad 64 0), .int (Int32.ofInt (f 36)), .int (Int32.ofInt (f 37)), .int (Int32.ofInt (f 38)), .int (Int32.ofInt (f 39)), .ref (ad 65 0), .int (Int32.ofInt (f 41)), .ref (ad 66 0), .ref (ad 67 0), .ref (ad 68 0), .ref (ad 69 0), .ref (ad 70 0), .ref (ad 46 0), .int (Int32.ofInt (f 48))])
  | 41 => .inl (cA 1, 720, .inl (fun j => Int32.ofInt (f j)))
  | 42 => .inl (cA 1, 8, .inl (fun j => Int32.ofInt (f j)))
  | 43 => .inl (cA 1, 200, .inl (fun j => Int32.ofInt (f j)))
  | 44 => .inl (cA 1, 8, .inl (fun j => Int32.ofInt (f j)))
  | 45 => .inl (cA 1, 40, .inl (fun j => Int32.ofInt (f j)))
  | 46 => .inl (cA 1, 40, .inl (fun j => Int32.ofInt (f j)))
  | 47 => .inl (cA 2, 8, .inl (fun j => Int32.ofInt (f j)))
  | 48 => .inl (cA 0, 8, .inl (fun j => Int32.ofInt (f j)))
  | 49 => .inl (cA 0, 8, .inl (fun j => Int32.ofInt (f j)))
  | 50 => .inl (cA 0, 8, .inl (fun j => Int32.ofInt (f j)))
  | 51 => .inl (cA 0, 8, .inl (fun j => Int32.ofInt (f j)))
  | 52 => .inl (cA 0, 16, .inl (fun j => Int32.ofInt (f j)))
  | 53 => .inl (cA 0, 40, .inl (fun j => Int32.ofInt (f j)))
  | 54 => .inl (cA 0, 40, .inl (fun j => Int32.ofInt (f j)))
  | 55 => .inl (cA 0, 40, .inl (fun j => Int32.ofInt (f j)))
  | 56 => .inl (cA 0, 40, .inl (fun j => Int32.ofInt (f j)))
  | 57 => .inl (cA 0, 40, .inl (fun j => Int32.ofInt (f j)))
  | 58 => .inl (cA 0, 720, .inl (fun j => Int32.ofInt (f j)))
  | 59 => .inl (cA 0, 4, .inl (fun j => Int32.ofInt (f j)))
  | 60 => .inl (cA 0, 4, .inl (fun j => Int32.ofInt (f j)))
  | 61 => .inl (cA 0, 32, .inl (fun j => Int32.ofInt (f j)))
  | 62 => .inl (cA 0, 4, .inl (fun j => Int32.ofInt (f j)))
  | 63 => .inl (cA 0, 25, .inl (fun j => Int32.ofInt (f j)))
  | 64 => .inl (cA 0, 25, .inl (fun j => Int32.ofInt (f j)))
  | 65 => .inl (cA 0, 4, .inl (fun j => Int32.ofInt (f j)))
  | 66 => .inl (cA 0, 40, .inl (fun j => Int32.ofInt (f j)))
  | 67 => .inl (cA 0, 40, .inl (fun j => Int32.ofInt (f j)))
  | 68 => .inl (cA 0, 40, .inl (fun j => Int32.ofInt (f j)))
  | 69 => .inl (cA 0, 40, .inl (fun j => Int32.ofInt (f j)))
  | 70 => .inl (cA 0, 40, .inl (fun j => Int32.ofInt (f j)))
  | 80 => .inl (cA 3, 1, .inr (.inl (fun j => Int64.ofInt (h j))))
  | 81 => .inl (cA 4, 1, .inr (.inr (.inr (.inl d))))
  | _ => .inl (cA 0, 0, .inl (fun _ => 0))

def inD (ns nt : Nat) (k i : Nat) : Prop := match k with
  | 0 => i < 1
  | 1 => i < 1
  | 10 => i < 1
  | 11 => i < 1
  | 20 => i < 1
  | 21 => i < 1
  | 27 => i < 1
  | 28 => i < 1
  | 29 => i < 1
  | 40 => i < 1
  | 41 => i < 1
  | 42 => i < 1
  | 43 => i < 1
  | 44 => i < 1
  | 45 => i < 1
  | 46 => i < 1
  | 47 => i < 1
  | 48 => i < 1
  | 49 => i < 1
  | 50 => i < 1
  | 51 => i < 1
  | 52 => i < 1
  | 53 => i < 1
  | 54 => i < 1
  | 55 => i < 1
  | 56 => i < 1
  | 57 => i < 1
  | 58 => i < 1
  | 59 => i < 1
  | 60 => i < 1
  | 61 => i < 1
  | 62 => i < 1
  | 63 => i < 1
  | 64 => i < 1
  | 65 => i < 1
  | 66 => i < 1
  | 67 => i < 1
  | 68 => i < 1
  | 69 => i < 1
  | 70 => i < 1
  | 80 => i < 1
  | 81 => i < 1
  | 2 => i < 2
  | 12 => i < 2
  | 22 => i < 2
  | 23 => i < 2
  | 24 => i < 2
  | 25 => i < 2
  | 26 => i < 2
  | 3 => i < 80
  | 4 => i < ns
  | 13 => i < ns
  | 30 => i < ns
  | 5 => i < 8 * ns
  | 31 => i < 8 * ns
  | 6 => i < nt
  | 32 => i < nt
  | _ => False

def strL : List (String × Nat × String) := [("CuttingRoom", 54, "the width or the stripe number is out of range"), ("CuttingRoom", 68, "the marker is not empty, or there are flaws"), ("CuttingRoom", 81, "the marker is not empty"), ("CuttingRoom", 90, "there is no such cell"), ("CuttingRoom", 98, "a piece of the marker would be on the flaw"), ("CuttingRoom", 104, "there are 12 flaws"), ("CuttingRoom", 121, "there is no such rule"), ("CuttingRoom", 126, "there are 8 shapes"), ("CuttingRoom", 174, "there is no such shape"), ("CuttingRoom", 135, "the row or the column is out of range"), ("CuttingRoom", 140, "the shape has this cell"), ("CuttingRoom", 150, "a piece of the shape is in the marker or was cut"), ("CuttingRoom", 158, "the group, the row or the column is out of range"), ("CuttingRoom", 160, "a piece of the shape is in the marker"), ("CuttingRoom", 197, "the number of turns is out of range"), ("CuttingRoom", 185, "the piece cannot be laid"), ("CuttingRoom", 191, "there are 40 pieces in the marker"), ("CuttingRoom", 205, "the piece can be laid nowhere"), ("CuttingRoom", 240, "there is no such piece in the marker"), ("CuttingRoom", 251, "no piece has this cell"), ("CuttingRoom", 256, "there is no such group"), ("CuttingRoom", 268, "there are no stripes, or no piece is of the group"), ("CuttingRoom", 276, "there are 4 styles"), ("CuttingRoom", 301, "there is no such style"), ("CuttingRoom", 283, "the count is out of range"), ("CuttingRoom", 291, "the style has this part, or a garment of it was made"), ("CuttingRoom", 344, "more than 4 pieces would be nested, or none"), ("CuttingRoom", 332, "the pieces can be nested in no order"), ("CuttingRoom", 360, "the length is out of range, or the roll would be too long"), ("CuttingRoom", 362, "the number of plies is out of range"), ("CuttingRoom", 364, "the marker is empty"), ("CuttingRoom", 370, "the roll is too short, or the stock would be too large"), ("CuttingRoom", 392, "a single shape has no mirrored pieces"), ("CuttingRoom", 306, "the style has no parts"), ("CuttingRoom", 422, "the number of garments is out of range"), ("CuttingRoom", 417, "there are too few pieces"), ("CuttingRoom", 428, "no number of plies is enough")]
def nestL : List (String × Nat × MethodName × String) := [("CuttingRoom$Cloth", 38, ⟨"CuttingRoom", "entry", "([II)I"⟩, "CuttingRoom"), ("CuttingRoom$Cloth", 42, ⟨"CuttingRoom", "hasBit", "(II)Z"⟩, "CuttingRoom"), ("CuttingRoom$Cloth", 46, ⟨"CuttingRoom", "store", "([III)V"⟩, "CuttingRoom"), ("CuttingRoom$Marker", 110, ⟨"CuttingRoom", "entry", "([II)I"⟩, "CuttingRoom"), ("CuttingRoom$Marker", 160, ⟨"CuttingRoom", "store", "([III)V"⟩, "CuttingRoom"), ("CuttingRoom$Shape", 36, ⟨"CuttingRoom", "entry", "([II)I"⟩, "CuttingRoom"), ("CuttingRoom$Shape", 40, ⟨"CuttingRoom", "hasBit", "(II)Z"⟩, "CuttingRoom"), ("CuttingRoom$Shape", 44, ⟨"CuttingRoom", "store", "([III)V"⟩, "CuttingRoom"), ("CuttingRoom$Outline", 29, ⟨"CuttingRoom", "entry", "([II)I"⟩, "CuttingRoom"), ("CuttingRoom$Outline", 33, ⟨"CuttingRoom", "hasBit", "(II)Z"⟩, "CuttingRoom"), ("CuttingRoom$Outline", 44, ⟨"CuttingRoom", "store", "([III)V"⟩, "CuttingRoom"), ("CuttingRoom$Outline", 48, ⟨"CuttingRoom", "firstBit", "(I)I"⟩, "CuttingRoom"), ("CuttingRoom$Outline", 52, ⟨"CuttingRoom", "endOfBits", "(I)I"⟩, "CuttingRoom"), ("CuttingRoom$Cloth", 71, ⟨"CuttingRoom", "isWithin", "(III)Z"⟩, "CuttingRoom"), ("CuttingRoom$Marker", 164, ⟨"CuttingRoom", "hasBit", "(II)Z"⟩, "CuttingRoom"), ("CuttingRoom$Outline", 64, ⟨"CuttingRoom", "isWithin", "(III)Z"⟩, "CuttingRoom")]
def castL : List (String × String) := [("java/lang/IllegalArgumentException", "java/lang/IllegalArgumentException"), ("java/lang/IllegalStateException", "java/lang/IllegalStateException"), ("java/lang/UnsupportedOperationException", "java/lang/UnsupportedOperationException"), ("java/lang/ArrayIndexOutOfBoundsException", "java/lang/ArrayIndexOutOfBoundsException"), ("java/lang/IndexOutOfBoundsException", "java/lang/IndexOutOfBoundsException"), ("java/util/NoSuchElementException", "java/util/NoSuchElementException"), ("java/lang/ArithmeticException", "java/lang/ArithmeticException"), ("java/lang/ArrayIndexOutOfBoundsException", "java/lang/IndexOutOfBoundsException"), ("CuttingRoom", "java/lang/Object"), ("CuttingRoom$Cloth", "java/lang/Object"), ("CuttingRoom$Marker", "java/lang/Object"), ("CuttingRoom$Piece", "java/lang/Object"), ("CuttingRoomModel", "java/lang/Object"), ("java/lang/IllegalArgumentException", "java/lang/Object"), ("java/lang/IllegalStateException", "java/lang/Object"), ("java/lang/UnsupportedOperationException", "java/lang/Object"), ("CuttingRoom$Shape", "java/lang/Object"), ("CuttingRoom$Outline", "java/lang/Object"), ("java/lang/ArrayIndexOutOfBoundsException", "java/lang/Object"), ("java/lang/IndexOutOfBoundsException", "java/lang/Object"), ("java/util/NoSuchElementException", "java/lang/Object"), ("CuttingRoom$Style", "java/lang/Object"), ("java/lang/ArithmeticException", "java/lang/Object"), ("java/lang/Throwable", "java/lang/Object"), ("java/lang/String", "java/lang/Object")]
def ncL : List (String × String) := [("CuttingRoom", "java/lang/IllegalArgumentException"), ("CuttingRoom$Cloth", "java/lang/IllegalArgumentException"), ("CuttingRoom$Marker", "java/lang/IllegalArgumentException"), ("CuttingRoom$Piece", "java/lang/IllegalArgumentException"), ("CuttingRoomModel", "java/lang/IllegalArgumentException"), ("java/lang/IllegalStateException", "java/lang/IllegalArgumentException"), ("java/lang/UnsupportedOperationException", "java/lang/IllegalArgumentException"), ("CuttingRoom$Shape", "java/lang/IllegalArgumentException"), ("CuttingRoom$Outline", "java/lang/IllegalArgumentException"), ("java/lang/ArrayIndexOutOfBoundsException", "java/lang/IllegalArgumentException"), ("java/lang/IndexOutOfBoundsException", "java/lang/IllegalArgumentException"), ("java/util/NoSuchElementException", "java/lang/IllegalArgumentException"), ("CuttingRoom$Style", "java/lang/IllegalArgumentException"), ("java/lang/ArithmeticException", "java/lang/IllegalArgumentException"), ("CuttingRoom", "java/lang/IllegalStateException"), ("CuttingRoom$Cloth", "java/lang/IllegalStateException"), ("CuttingRoom$Marker", "java/lang/IllegalStateException"), ("CuttingRoom$Piece", "java/lang/IllegalStateException"), ("CuttingRoomModel", "java/lang/IllegalStateException"), ("java/lang/IllegalArgumentException", "java/lang/IllegalStateException"), ("java/lang/UnsupportedOperationException", "java/lang/IllegalStateException"), ("CuttingRoom$Shape", "java/lang/IllegalStateException"), ("CuttingRoom$Outline", "java/lang/IllegalStateException"), ("java/lang/ArrayIndexOutOfBoundsException", "java/lang/IllegalStateException"), ("java/lang/IndexOutOfBoundsException", "java/lang/IllegalStateException"), ("java/util/NoSuchElementException", "java/lang/IllegalStateException"), ("CuttingRoom$Style", "java/lang/IllegalStateException"), ("java/lang/ArithmeticException", "java/lang/IllegalStateException"), ("CuttingRoom", "java/lang/UnsupportedOperationException"), ("CuttingRoom$Cloth", "java/lang/UnsupportedOperationException"), ("CuttingRoom$Marker", "java/lang/UnsupportedOperationException"), ("CuttingRoom$Piece", "java/lang/UnsupportedOperationException"), ("CuttingRoomModel", "java/lang/UnsupportedOperationException"), ("java/lang/IllegalArgumentException", "java/lang/UnsupportedOperationException"), ("java/lang/IllegalStateException", "java/lang/UnsupportedOperationException"), ("CuttingRoom$Shape", "java/lang/UnsupportedOperationException"), ("CuttingRoom$Outline", "java/lang/UnsupportedOperationException"), ("java/lang/ArrayIndexOutOfBoundsException", "java/lang/UnsupportedOperationException"), ("java/lang/IndexOutOfBoundsException", "java/lang/UnsupportedOperationException"), ("java/util/NoSuchElementException", "java/lang/UnsupportedOperationException"), ("CuttingRoom$Style", "java/lang/UnsupportedOperationException"), ("java/lang/ArithmeticException", "java/lang/UnsupportedOperationException"), ("CuttingRoom", "java/lang/IndexOutOfBoundsException"), ("CuttingRoom$Cloth", "java/lang/IndexOutOfBoundsException"), ("CuttingRoom$Marker", "java/lang/IndexOutOfBoundsException"), ("CuttingRoom$Piece", "java/lang/IndexOutOfBoundsException"), ("CuttingRoomModel", "java/lang/IndexOutOfBoundsException"), ("java/lang/IllegalArgumentException", "java/lang/IndexOutOfBoundsException"), ("java/lang/IllegalStateException", "java/lang/IndexOutOfBoundsException"), ("java/lang/UnsupportedOperationException", "java/lang/IndexOutOfBoundsException"), ("CuttingRoom$Shape", "java/lang/IndexOutOfBoundsException"), ("CuttingRoom$Outline", "java/lang/IndexOutOfBoundsException"), ("java/util/NoSuchElementException", "java/lang/IndexOutOfBoundsException"), ("CuttingRoom$Style", "java/lang/IndexOutOfBoundsException"), ("java/lang/ArithmeticException", "java/lang/IndexOutOfBoundsException"), ("CuttingRoom", "java/util/NoSuchElementException"), ("CuttingRoom$Cloth", "java/util/NoSuchElementException"), ("CuttingRoom$Marker", "java/util/NoSuchElementException"), ("CuttingRoom$Piece", "java/util/NoSuchElementException"), ("CuttingRoomModel", "java/util/NoSuchElementException"), ("java/lang/IllegalArgumentException", "java/util/NoSuchElementException"), ("java/lang/IllegalStateException", "java/util/NoSuchElementException"), ("java/lang/UnsupportedOperationException", "java/util/NoSuchElementException"), ("CuttingRoom$Shape", "java/util/NoSuchElementException"), ("CuttingRoom$Outline", "java/util/NoSuchElementException"), ("java/lang/ArrayIndexOutOfBoundsException", "java/util/NoSuchElementException"), ("java/lang/IndexOutOfBoundsException", "java/util/NoSuchElementException"), ("CuttingRoom$Style", "java/util/NoSuchElementException"), ("java/lang/ArithmeticException", "java/util/NoSuchElementException"), ("CuttingRoom", "java/lang/ArithmeticException"), ("CuttingRoom$Cloth", "java/lang/ArithmeticException"), ("CuttingRoom$Marker", "java/lang/ArithmeticException"), ("CuttingRoom$Piece", "java/lang/ArithmeticException"), ("CuttingRoomModel", "java/lang/ArithmeticException"), ("java/lang/IllegalArgumentException", "java/lang/ArithmeticException"), ("java/lang/IllegalStateException", "java/lang/ArithmeticException"), ("java/lang/UnsupportedOperationException", "java/lang/ArithmeticException"), ("CuttingRoom$Shape", "java/lang/ArithmeticException"), ("CuttingRoom$Outline", "java/lang/ArithmeticException"), ("java/lang/ArrayIndexOutOfBoundsException", "java/lang/ArithmeticException"), ("java/lang/IndexOutOfBoundsException", "java/lang/ArithmeticException"), ("java/util/NoSuchElementException", "java/lang/ArithmeticException"), ("CuttingRoom$Style", "java/lang/ArithmeticException")]

abbrev clT : List vw_C := [(RX0, TX0, 7), (RX1, TX1, 8), (RX2, TX2, 6), (RX3, TX3, 7), (RX4, TX4, 11), (RX5, TX5, 2), (RX6, TX6, 11), (RX7, TX7, 49)]
abbrev tysT (cA : Nat → ClassId) : List (ClassId × FieldType) := [(cA 0, .int), (cA 1, .boolean), (cA 2, .char), (cA 3, .long), (cA 4, .double), (cA 5, .object RX4), (cA 6, .object RX5), (cA 7, .object RX3), (cA 8, .object RX2)]
def GW : List Cond := lw_tbl.filter goodWord
theorem mG {i : Nat} {w : Cond} (h : lw_tbl[i]? = some w) (hg : goodWord w = true) : w ∈ GW := List.mem_filter.mpr ⟨List.mem_of_getElem? h, hg⟩
theorem GW_good {w : Cond} (h : w ∈ GW) : goodWord w = true := (List.mem_filter.mp h).2
def cM (cA : Nat → ClassId) (ad : Ads) (M : Mem) (k i : Nat) : va_E := cellG cA ad k i (M.1 k i) (M.2.1 k i) (M.2.2.1 k i) (M.2.2.2 k i)
def HW (D : va_G) (cA : Nat → ClassId) (b0 : Nat) (ad : Ads) (ns nt : Nat) (M : Mem) (H : Heap) : Prop :=
  (∀ k i, inD ns nt k i → va_at D clT (ad k i, cM cA ad M k i) H) ∧ (∀ k i k' i', inD ns nt k i → inD ns nt k' i' → ad k i = ad k' i' → k = k' ∧ i = i') ∧ ∀ k i, inD ns nt k i → b0 ≤ ad k i
theorem HW_put {D : va_G} {cA : Nat → ClassId} {b0 : Nat} {ad : Ads} {ns nt : Nat} {M M' : Mem} {H H1 : Heap} {k i : Nat} (hw : HW D cA b0 ad ns nt M H) (hin : inD ns nt k i) (h1 : va_at D clT (ad k i, cM cA ad M' k i) H1)
    (hoff : ∀ q : Nat, q ≠ ad k i → H1[q]? = H[q]?) (hM : ∀ k' i', ¬ (k' = k ∧ i' = i) → cM cA ad M' k' i' = cM cA ad M k' i') : HW D cA b0 ad ns nt M' H1 := by
  refine ⟨fun k' i' h' => ?_, hw.2.1, hw.2.2⟩
  by_cases hk : k' = k ∧ i' = i
  · obtain ⟨rfl, rfl⟩ := hk
    exact h1
  · rw [hM k' i' hk]
    exact (hw.1 k' i' h').kept (hoff _ (fun e => hk (hw.2.1 k' i' k i h' hin e)))
def up1 {α : Type} (f : Nat → α) (s : Nat) (v : α) : Nat → α := fun j => if j = s then v else f j
def up3 {α : Type} (f : Nat → Nat → Nat → α) (k i s : Nat) (v : α) : Nat → Nat → Nat → α := fun k' i' s' => if k' = k ∧ i' = i ∧ s' = s then v else f k' i' s'
theorem up3_on {α : Type} (f : Nat → Nat → Nat → α) (k i s : Nat) (v : α) : up3 f k i s v k i = up1 (f k i) s v := by
  funext j
  simp [up3, up1]
theorem up3_off {α : Type} (f : Nat → Nat → Nat → α) {k i k' i' : Nat} (s : Nat) (v : α) (h : ¬ (k' = k ∧ i' = i)) : up3 f k i s v k' i' = f k' i' := by
  funext j
  exact if_neg (fun e => h ⟨e.1, e.2.1⟩)
def uI (M : Mem) (k i s : Nat) (v : Int) : Mem := (up3 M.1 k i s v, M.2)
def uR (M : Mem) (k i s : Nat) (v : Option Nat) : Mem := (M.1, up3 M.2.1 k i s v, M.2.2)
def uL (M : Mem) (k i s : Nat) (v : Int) : Mem := (M.1, M.2.1, up3 M.2.2.1 k i s v, M.2.2.2)
def uD (M : Mem) (k i s : Nat) (v : UInt64) : Mem := (M.1, M.2.1, M.2.2.1, up3 M.2.2.2 k i s v)
theorem uI_on (cA : Nat → ClassId) (ad : Ads) (M : Mem) (k i s : Nat) (v : Int) : cM cA ad (uI M k i s v) k i = cellG cA ad k i (up1 (M.1 k i) s v) (M.2.1 k i) (M.2.2.1 k i) (M.2.2.2 k i) := by
  show cellG cA ad k i (up3 M.1 k i s v k i) _ _ _ = _
  rw [up3_on]
  rfl
theorem uI_off (cA : Nat → ClassId) (ad : Ads) (M : Mem) {k i : Nat} (s : Nat) (v : Int) : ∀ k' i', ¬ (k' = k ∧ i' = i) → cM cA ad (uI M k i s v) k' i' = cM cA ad M k' i' := fun k' i' h => by
  show cellG cA ad k' i' (up3 M.1 k i s v k' i') _ _ _ = _
  rw [up3_off _ s v h]
  rfl
theorem uR_on (cA : Nat → ClassId) (ad : Ads) (M : Mem) (k i s : Nat) (v : Option Nat) : cM cA ad (uR M k i s v) k i = cellG cA ad k i (M.1 k i) (up1 (M.2.1 k i) s v) (M.2.2.1 k i) (M.2.2.2 k i) := by
  show cellG cA ad k i _ (up3 M.2.1 k i s v k i) _ _ = _
  rw [up3_on]
  rfl
theorem uR_off (cA : Nat → ClassId) (ad : Ads) (M : Mem) {k i : Nat} (s : Nat) (v : Option Nat) : ∀ k' i', ¬ (k' = k ∧ i' = i) → cM cA ad (uR M k i s v) k' i' = cM cA ad M k' i' := fun k' i' h => by
  show cellG cA ad k' i' _ (up3 M.2.1 k i s v k' i') _ _ = _
  rw [up3_off _ s v h]
  rfl
theorem uL_on (cA : Nat → ClassId) (ad : Ads) (M : Mem) (k i s : Nat) (v : Int) : cM cA ad (uL M k i s v) k i = cellG cA ad k i (M.1 k i) (M.2.1 k i) (up1 (M.2.2.1 k i) s v) (M.2.2.2 k i) := by
  show cellG cA ad k i _ _ (up3 M.2.2.1 k i s v k i) _ = _
  rw [up3_on]
  rfl
theorem uL_off (cA : Nat → ClassId) (ad : Ads) (M : Mem) {k i : Nat} (s : Nat) (v : Int) : ∀ k' i', ¬ (k' = k ∧ i' = i) → cM cA ad (uL M k i s v) k' i' = cM cA ad M k' i' := fun k' i' h => by
  show cellG cA ad k' i' _ _ (up3 M.2.2.1 k i s v k' i') _ = _
  rw [up3_off _ s v h]
  rfl
theorem uD_on (cA : Nat → ClassId) (ad : Ads) (M : Mem) (k i s : Nat) (v : UInt64) : cM cA ad (uD M k i s v) k i = cellG cA ad k i (M.1 k i) (M.2.1 k i) (M.2.2.1 k i) (up1 (M.2.2.2 k i) s v) := by
  show cellG cA ad k i _ _ _ (up3 M.2.2.2 k i s v k i) = _
  rw [up3_on]
  rfl
theorem uD_off (cA : Nat → ClassId) (ad : Ads) (M : Mem) {k i : Nat} (s : Nat) (v : UInt64) : ∀ k' i', ¬ (k' = k ∧ i' = i) → cM cA ad (uD M k i s v) k' i' = cM cA ad M k' i' := fun k' i' h => by
  show cellG cA ad k' i' _ _ _ (up3 M.2.2.2 k i s v k' i') = _
  rw [up3_off _ s v h]
  rfl
/-! what a start gives beside the memory -/
def CaP (C T : String) (U : State) : Prop := ∃ c t : ClassId, U.vm.findClass C = some c ∧ U.vm.findClass T = some t ∧ U.vm.assignable c t = true
theorem CaP.moved {C T : String} {u U : State} (hvm : u.vm.Alike U.vm) (h : CaP C T u) : CaP C T U := by
  obtain ⟨c, t, h1, h2, h3⟩ := h
  exact ⟨c, t, by rw [hvm.findClass]; exact h1, by rw [hvm.findClass]; exact h2, by rw [hvm.assignable]; exact h3⟩
theorem CaP.use {C T : String} {args : Array Value} {U : State} (h : CaP C T U) : (Cond.castable C T).before args U = true := by
  obtain ⟨c, t, h1, h2, h3⟩ := h
  simp [Cond.before, Cond.holds, Cond.value, h1, h2, h3]
def EV (D : va_G) (cA : Nat → ClassId) (b0 : Nat) (U : State) : Prop :=
  va_K D clT (tysT cA) U ∧ vx_Zq Bundle.tN "UNASSIGNED_STACK" Bundle.steD (fun q => b0 ≤ q) U U.heap ∧ vx_Zq Bundle.tN "SUPPRESSED_SENTINEL" Bundle.listD (fun q => b0 ≤ q) U U.heap ∧ b0 ≤ U.heap.size ∧
  (∀ q ∈ strL, ∃ a, vk_R q.1 q.2.1 q.2.2 a U) ∧ (∀ q ∈ nestL, va_Nw (.methodLinkNest q.1 q.2.1 q.2.2.1 q.2.2.2) U) ∧ (∀ q ∈ castL, CaP q.1 q.2 U) ∧ ∀ q ∈ ncL, va_Nc q.1 q.2 U
theorem EV.same {D : va_G} {cA : Nat → ClassId} {b0 : Nat} {u U : State} (hv : U.vm = u.vm) (hh : U.heap = u.heap) (h : EV D cA b0 u) : EV D cA b0 U := by
  obtain ⟨h1, h2, h3, h4, h5, h6, h7, h8⟩ := h
  have ha : u.vm.Alike U.vm := by rw [hv]; exact Vm.Alike.refl u.vm
  refine ⟨va_K.moved ha h1, ?_, ?_, by rw [hh]; exact h4, fun q hq => ?_, fun q hq => va_Nw.same rfl hv.symm (h6 q hq), fun q hq => CaP.moved ha (h7 q hq), fun q hq => va_Nc.moved ha (h8 q hq)⟩
  · rw [hh]; exact vx_Zq.moved ha h2
  · rw [hh]; exact vx_Zq.moved ha h3
  · obtain ⟨a, k⟩ := h5 q hq
    exact ⟨a, vk_R.same hv k⟩
theorem EV.warm {D : va_G} {cA : Nat → ClassId} {b0 : Nat} {s U : State} {locs : List Loc} (hW : s.WarmedH U.vm) (hS : va_S (fun q => b0 ≤ q) s.heap U.heap locs) (h : EV D cA b0 s) : EV D cA b0 U := by
  obtain ⟨h1, h2, h3, h4, h5, h6, h7, h8⟩ := h
  refine ⟨va_K.moved hW.alike h1, vx_Zq.moved hW.alike (h2.kept hS.2.1), vx_Zq.moved hW.alike (h3.kept hS.2.1), Nat.le_trans h4 hS.1, fun q hq => ?_, fun q hq => va_Nw.warmM hW (h6 q hq), fun q hq => CaP.moved hW.alike (h7 q hq), fun q hq => va_Nc.moved hW.alike (h8 q hq)⟩
  obtain ⟨a, k⟩ := h5 q hq
  exact ⟨a, vk_R.warm hW k⟩
def Cx (l : Launch) (p : Program) (s : State) (m : MethodId) (args : Array Value) (meth : Method) (c : Code) (cc : ByteArray) (own : String) (nL : Nat) (D : va_G) (cA : Nat → ClassId) (b0 : Nat) (tab : List ExceptionTableEntry) : Prop :=
  p.tables.exec = Jvm.exec ∧ c.code = cc ∧ c.maxLocals = nL ∧ s.vm.findClass own = some m.cls ∧ (∀ w ∈ GW, w.before args s = true) ∧ meth.locks = false ∧ l.stackTraces = false ∧ EV D cA b0 s ∧ c.exceptionTable.toList = tab
abbrev PT : Type := Option AV → Mem → Prop
abbrev PX : Type := String → Mem → Prop
def mQ (D : va_G) (cA : Nat → ClassId) (b0 : Nat) (ad : Ads) (ns nt : Nat) (P : PT) : Array Value → State → Outcome → State → Prop := fun _ st oc t => ∃ (r : Option AV) (M : Mem), oc = .returned (r.map (tv ad)) ∧ P r M ∧ HW D cA b0 ad ns nt M t.heap ∧ va_F (fun q => b0 ≤ q) st t
def mX (D : va_G) (cA : Nat → ClassId) (b0 : Nat) (ad : Ads) (ns nt : Nat) (X : PX) : String → State → State → Prop := fun E st t => ∃ M : Mem, X E M ∧ HW D cA b0 ad ns nt M t.heap ∧ va_F (fun q => b0 ≤ q) st t
def rmd (d mc ms : Nat) : Room := { frames := d, cells := mc, slots := ms, locals := 40 * d }
def Con (l : Launch) (b0 : Nat) (y : MethodName) (cc : ByteArray) (nL : Nat) (ret : Option FieldType) (d mc ms : Nat) (as : List AV) (ad : Ads) (ns nt : Nat) (M : Mem) (P : PT) (X : PX) : Prop :=
  ∀ (D : va_G) (cA : Nat → ClassId), vx_Met l y (.code y cc nL ret :: GW) (rmd d mc ms) (va_Pc (as.map (tv ad)) (fun U => HW D cA b0 ad ns nt M U.heap ∧ EV D cA b0 U)) (mQ D cA b0 ad ns nt P) (mX D cA b0 ad ns nt X) mc ms (fun q => b0 ≤ q)
def Wm (p : Program) (l : Launch) (e : Env) (R : Room) (s : State) (m : MethodId) (args : Array Value) (below : List Frame) (meth : Method) (c : Code) (nL : Nat) (D : va_G) (cA : Nat → ClassId) (b0 cells slots : Nat) (Q : State → Prop) (pc : Nat) (lv : Lv) (st : List AV) (ad : Ads) (ns nt : Nat) (M : Mem) : Prop :=
  ∀ (H : Heap) (locs : List Loc) (ls : Array Slot), HW D cA b0 ad ns nt M H → va_S (fun q => b0 ≤ q) s.heap H locs → lv_has ls nL (lvm ad lv) → W p l e R s m args below meth c H locs cells slots Q (F0 m pc ls (st.map (tv ad)))
/-! numbers -/
theorem e32 {x : Int} (h : -2147483648 ≤ x ∧ x ≤ 2147483647) : (Int32.ofInt x).toInt = x := Int32.toInt_ofInt_of_le (by omega) (by omega)
theorem e64 {x : Int} (h : -9223372036854775808 ≤ x ∧ x ≤ 9223372036854775807) : (Int64.ofInt x).toInt = x := Int64.toInt_ofInt_of_le (by omega) (by omega)
theorem e32_eq {x y : Int} (hx : -2147483648 ≤ x ∧ x ≤ 2147483647) (hy : -2147483648 ≤ y ∧ y ≤ 2147483647) : Int32.ofInt x = Int32.ofInt y ↔ x = y := by
  rw [← Int32.toInt_inj, e32 hx, e32 hy]
theorem e32_lt {x y : Int} (hx : -2147483648 ≤ x ∧ x ≤ 2147483647) (hy : -2147483648 ≤ y ∧ y ≤ 2147483647) : Int32.ofInt x < Int32.ofInt y ↔ x < y := by
  rw [Int32.lt_iff_toInt_lt, e32 hx, e32 hy]
theorem e32_le {x y : Int} (hx : -2147483648 ≤ x ∧ x ≤ 2147483647) (hy : -2147483648 ≤ y ∧ y ≤ 2147483647) : Int32.ofInt x ≤ Int32.ofInt y ↔ x ≤ y := by
  rw [Int32.le_iff_toInt_le, e32 hx, e32 hy]
theorem z32 : (0 : Int32) = Int32.ofInt 0 := rfl
theorem ix_in {z : Int} {n : Nat} (h : 0 ≤ z ∧ z < n) (hn : n ≤ 2147483647) : vp_in (Int32.ofInt z) n ∧ (Int32.ofInt z).toNatClampNeg = z.toNat := by
  have e : (Int32.ofInt z).toInt = z := e32 (by omega)
  have e2 : (Int32.ofInt z).toNatClampNeg = z.toNat := by
    show (Int32.ofInt z).toInt.toNat = _
    rw [e]
  refine ⟨?_, e2⟩
  rw [vp_in_iff, e]
  exact h
end
section
/-! more numbers -/
theorem fa_and (a b : Nat) : nI a &&& nI b = nI (a &&& b) := by
  apply Int32.toBitVec_inj.1
  show BitVec.ofNat 32 a &&& BitVec.ofNat 32 b = BitVec.ofNat 32 (a &&& b)
  apply BitVec.eq_of_getLsbD_eq
  intro i hi
  simp [hi]
theorem fa_or (a b : Nat) : nI a ||| nI b = nI (a ||| b) := by
  apply Int32.toBitVec_inj.1
  show BitVec.ofNat 32 a ||| BitVec.ofNat 32 b = BitVec.ofNat 32 (a ||| b)
  apply BitVec.eq_of_getLsbD_eq
  intro i hi
  simp [hi]
/-- a remainder by a power of two, as a mask -/
theorem e32_div {x y : Int} (hx : 0 ≤ x ∧ x ≤ 2147483647) (hy : 0 < y ∧ y ≤ 2147483647) : Int32.ofInt x / Int32.ofInt y = Int32.ofInt (x / y) := by
  have h := Int32.ofInt_tdiv (a := x) (b := y) (by show -2147483648 ≤ x; omega) (by show x ≤ 2147483647; omega) (by show -2147483648 ≤ y; omega) (by show y ≤ 2147483647; omega)
  rw [← h, Int.tdiv_eq_ediv_of_nonneg hx.1]
theorem e32_mod {x y : Int} : x - x / y * y = x % y := by
  have h := Int.emod_def x y
  rw [h, Int.mul_comm]
theorem e32_n (n : Nat) : Int32.ofInt (n : Int) = nI n := Int32.ofInt_eq_ofNat
theorem e32_and {a b : Nat} (ha : a < 2147483648) (hb : b < 2147483648) : Int32.ofInt (a : Int) &&& Int32.ofInt (b : Int) = Int32.ofInt ((a &&& b : Nat) : Int) := by
  rw [e32_n, e32_n, e32_n]
  exact fa_and a b
theorem e32_or {a b : Nat} (ha : a < 2147483648) (hb : b < 2147483648) : Int32.ofInt (a : Int) ||| Int32.ofInt (b : Int) = Int32.ofInt ((a ||| b : Nat) : Int) := by
  rw [e32_n, e32_n, e32_n]
  exact fa_or a b
theorem e32_s : ∀ n, n < 32 → ((nI n &&& 31).toBitVec.smod 32).toNat = n := by decide +kernel
theorem e32_shl {a b : Nat} (hb : b < 32) : Int32.ofInt (a : Int) <<< (Int32.ofInt (b : Int) &&& 31) = Int32.ofInt ((a * 2 ^ b : Nat) : Int) := by
  rw [e32_n, e32_n, e32_n]
  refine Int32.toBitVec_inj.mp (BitVec.eq_of_toNat_eq ?_)
  rw [pk_shl (nI a) (nI b &&& 31) b (e32_s b hb)]
  show (BitVec.ofNat 32 a).toNat * 2 ^ b % 2 ^ 32 = (BitVec.ofNat 32 (a * 2 ^ b)).toNat
  rw [BitVec.toNat_ofNat, BitVec.toNat_ofNat, Nat.mod_mul_mod]
theorem e32_shr {a b : Nat} (ha : a < 2147483648) (hb : b < 32) : Int32.ofInt (a : Int) >>> (Int32.ofInt (b : Int) &&& 31) = Int32.ofInt ((a / 2 ^ b : Nat) : Int) := by
  rw [e32_n, e32_n, e32_n]
  exact pk_shrN ha (nI b &&& 31) b (e32_s b hb)
theorem e32_l {x : Int} (hx : -2147483648 ≤ x ∧ x ≤ 2147483647) : (Int32.ofInt x).toInt64 = Int64.ofInt x := Int32.toInt64_ofInt hx.1 hx.2
theorem e32_c (x : Int) : ((Int32.ofInt x).toUInt32 % 65536).toInt32 = Int32.ofInt (x % 65536) := by
  rw [pk_char]
  have h : ((x % 65536).toNat : Int) = x % 65536 := Int.toNat_of_nonneg (Int.emod_nonneg x (by decide))
  rw [← h, e32_n]
  congr 1
  show (BitVec.ofInt 32 x).toNat % 65536 = (x % 65536).toNat
  rw [BitVec.toNat_ofInt]
  omega
theorem e64_cmp {x y : Int} (hx : -9223372036854775808 ≤ x ∧ x ≤ 9223372036854775807) (hy : -9223372036854775808 ≤ y ∧ y ≤ 9223372036854775807) : lg_cmp (Int64.ofInt x) (Int64.ofInt y) = Int32.ofInt (if x < y then -1 else if x = y then 0 else 1) := by
  unfold lg_cmp
  simp only [gt_iff_lt, Int64.lt_iff_toInt_lt, ← Int64.toInt_inj, e64 hx, e64 hy]
  by_cases h1 : y < x
  · rw [if_pos h1, if_neg (by omega), if_neg (by omega)]; rfl
  · by_cases h2 : x = y
    · rw [if_neg h1, if_pos h2, if_neg (by omega), if_pos h2]; rfl
    · rw [if_neg h1, if_neg h2, if_pos (by omega)]; rfl
section Rows
variable {p : Program} {l : Launch} {e : Env} {R : Room} {s : State} {m : MethodId} {args : Array Value} {below : List Frame} {meth : Method} {c : Code} {nL : Nat} {D : va_G} {cA : Nat → ClassId} {b0 cells slots : Nat} {Q : State → Prop} {lv : Lv} {st : List AV} {ad : Ads} {ns nt : Nat} {M : Mem} {cc : ByteArray} {own : String} {tab : List ExceptionTableEntry} {pc pc' : Nat}
theorem w_iconst (C : Cx l p s m args meth c cc own nL D cA b0 tab) {n : Int} (hd : DI cc pc (.iconst n) 1 pc') (kk : Wm p l e R s m args below meth c nL D cA b0 cells slots Q pc' lv (aI n :: st) ad ns nt M) : Wm p l e R s m args below meth c nL D cA b0 cells slots Q pc lv st ad ns nt M := fun H locs ls hw hS hl => lv_iconst C.1 C.2.1 hd.1 rfl (by have k := kk H locs ls hw hS hl; rw [← hd.2] at k; exact k)
theorem w_bipush (C : Cx l p s m args meth c cc own nL D cA b0 tab) {n v : Int} (hd : DI cc pc (.bipush n) 2 pc') (hv : (Int8.ofInt n).toInt32 = Int32.ofInt v) (kk : Wm p l e R s m args below meth c nL D cA b0 cells slots Q pc' lv (aI v :: st) ad ns nt M) : Wm p l e R s m args below meth c nL D cA b0 cells slots Q pc lv st ad ns nt M := fun H locs ls hw hS hl => lv_bipush C.1 C.2.1 hd.1 hv (by have k := kk H locs ls hw hS hl; rw [← hd.2] at k; exact k)
theorem w_sipush (C : Cx l p s m args meth c cc own nL D cA b0 tab) {n v : Int} (hd : DI cc pc (.sipush n) 3 pc') (hv : (Int16.ofInt n).toInt32 = Int32.ofInt v) (kk : Wm p l e R s m args below meth c nL D cA b0 cells slots Q pc' lv (aI v :: st) ad ns nt M) : Wm p l e R s m args below meth c nL D cA b0 cells slots Q pc lv st ad ns nt M := fun H locs ls hw hS hl => lv_sipush C.1 C.2.1 hd.1 hv (by have k := kk H locs ls hw hS hl; rw [← hd.2] at k; exact k)
theorem w_lconst (C : Cx l p s m args meth c cc own nL D cA b0 tab) {n : Fin 2} (hd : DI cc pc (.lconst n) 1 pc') (kk : Wm p l e R s m args below meth c nL D cA b0 cells slots Q pc' lv (aL (n : Nat) :: st) ad ns nt M) : Wm p l e R s m args below meth c nL D cA b0 cells slots Q pc lv st ad ns nt M := fun H locs ls hw hS hl => lv_lconst C.1 C.2.1 hd.1 rfl (by have k := kk H locs ls hw hS hl; rw [← hd.2] at k; exact k)
theorem w_ldc (C : Cx l p s m args meth c cc own nL D cA b0 tab) {ix : Nat} {v : Int} (hd : DI cc pc (.ldc ix) 2 pc') (hc : Cond.constant own ix (Int32.ofInt v) ∈ GW) (kk : Wm p l e R s m args below meth c nL D cA b0 cells slots Q pc' lv (aI v :: st) ad ns nt M) : Wm p l e R s m args below meth c nL D cA b0 cells slots Q pc lv st ad ns nt M := fun H locs ls hw hS hl => lv_ldc C.1 C.2.1 C.2.2.2.1 (C.2.2.2.2.1 _ hc) hd.1 (by have k := kk H locs ls hw hS hl; rw [← hd.2] at k; exact k)
theorem w_ldcw (C : Cx l p s m args meth c cc own nL D cA b0 tab) {ix : Nat} {v : Int} (hd : DI cc pc (.ldc_w ix) 3 pc') (hc : Cond.constant own ix (Int32.ofInt v) ∈ GW) (kk : Wm p l e R s m args below meth c nL D cA b0 cells slots Q pc' lv (aI v :: st) ad ns nt M) : Wm p l e R s m args below meth c nL D cA b0 cells slots Q pc lv st ad ns nt M := fun H locs ls hw hS hl => lv_ldcw C.1 C.2.1 C.2.2.2.1 (C.2.2.2.2.1 _ hc) hd.1 (by have k := kk H locs ls hw hS hl; rw [← hd.2] at k; exact k)
theorem w_iload_n (C : Cx l p s m args meth c cc own nL D cA b0 tab) {k : Fin 4} {x : Int} (hd : DI cc pc (.iload_n k) 1 pc') (hv : lget lv k = some (aI x)) (kk : Wm p l e R s m args below meth c nL D cA b0 cells slots Q pc' lv (aI x :: st) ad ns nt M) : Wm p l e R s m args below meth c nL D cA b0 cells slots Q pc lv st ad ns nt M := fun H locs ls hw hS hl => lv_iload_n C.1 C.2.1 hd.1 rfl (lget_has hl hv) (by have k := kk H locs ls hw hS hl; rw [← hd.2] at k; exact k)
theorem w_iload (C : Cx l p s m args meth c cc own nL D cA b0 tab) {i : Nat} {x : Int} (hd : DI cc pc (.iload i) 2 pc') (hv : lget lv i = some (aI x)) (kk : Wm p l e R s m args below meth c nL D cA b0 cells slots Q pc' lv (aI x :: st) ad ns nt M) : Wm p l e R s m args below meth c nL D cA b0 cells slots Q pc lv st ad ns nt M := fun H locs ls hw hS hl => lv_iload C.1 C.2.1 hd.1 (lget_has hl hv) (by have k := kk H locs ls hw hS hl; rw [← hd.2] at k; exact k)
theorem w_lload_n (C : Cx l p s m args meth c cc own nL D cA b0 tab) {k : Fin 4} {x : Int} (hd : DI cc pc (.lload_n k) 1 pc') (hv : lget lv k = some (aL x)) (kk : Wm p l e R s m args below meth c nL D cA b0 cells slots Q pc' lv (aL x :: st) ad ns nt M) : Wm p l e R s m args below meth c nL D cA b0 cells slots Q pc lv st ad ns nt M := fun H locs ls hw hS hl => lv_lload_n C.1 C.2.1 hd.1 rfl (lget_has hl hv) (by have k := kk H locs ls hw hS hl; rw [← hd.2] at k; exact k)
theorem w_lload (C : Cx l p s m args meth c cc own nL D cA b0 tab) {i : Nat} {x : Int} (hd : DI cc pc (.lload i) 2 pc') (hv : lget lv i = some (aL x)) (kk : Wm p l e R s m args below meth c nL D cA b0 cells slots Q pc' lv (aL x :: st) ad ns nt M) : Wm p l e R s m args below meth c nL D cA b0 cells slots Q pc lv st ad ns nt M := fun H locs ls hw hS hl => lv_lload C.1 C.2.1 hd.1 (lget_has hl hv) (by have k := kk H locs ls hw hS hl; rw [← hd.2] at k; exact k)
theorem w_fload (C : Cx l p s m args meth c cc own nL D cA b0 tab) {i : Nat} {x : UInt32} (hd : DI cc pc (.fload i) 2 pc') (hv : lget lv i = some (aF x)) (kk : Wm p l e R s m args below meth c nL D cA b0 cells slots Q pc' lv (aF x :: st) ad ns nt M) : Wm p l e R s m args below meth c nL D cA b0 cells slots Q pc lv st ad ns nt M := fun H locs ls hw hS hl => lv_fload C.1 C.2.1 hd.1 (lget_has hl hv) (by have k := kk H locs ls hw hS hl; rw [← hd.2] at k; exact k)
theorem w_dload (C : Cx l p s m args meth c cc own nL D cA b0 tab) {i : Nat} {x : UInt64} (hd : DI cc pc (.dload i) 2 pc') (hv : lget lv i = some (aD x)) (kk : Wm p l e R s m args below meth c nL D cA b0 cells slots Q pc' lv (aD x :: st) ad ns nt M) : Wm p l e R s m args below meth c nL D cA b0 cells slots Q pc lv st ad ns nt M := fun H locs ls hw hS hl => lv_dload C.1 C.2.1 hd.1 (lget_has hl hv) (by have k := kk H locs ls hw hS hl; rw [← hd.2] at k; exact k)
theorem w_aload_n (C : Cx l p s m args meth c cc own nL D cA b0 tab) {k : Fin 4} {r : Option (Nat × Nat)} (hd : DI cc pc (.aload_n k) 1 pc') (hv : lget lv k = some (aR r)) (kk : Wm p l e R s m args below meth c nL D cA b0 cells slots Q pc' lv (aR r :: st) ad ns nt M) : Wm p l e R s m args below meth c nL D cA b0 cells slots Q pc lv st ad ns nt M := by
  intro H locs ls hw hS hl
  have k := kk H locs ls hw hS hl
  rw [← hd.2] at k
  cases r with
  | none => exact lv_aload_nN C.1 C.2.1 hd.1 rfl (lget_has hl hv) k
  | some q => exact lv_aload_n C.1 C.2.1 hd.1 rfl (lget_has hl hv) k
theorem w_aload (C : Cx l p s m args meth c cc own nL D cA b0 tab) {i : Nat} {r : Option (Nat × Nat)} (hd : DI cc pc (.aload i) 2 pc') (hv : lget lv i = some (aR r)) (kk : Wm p l e R s m args below meth c nL D cA b0 cells slots Q pc' lv (aR r :: st) ad ns nt M) : Wm p l e R s m args below meth c nL D cA b0 cells slots Q pc lv st ad ns nt M := by
  intro H locs ls hw hS hl
  have k := kk H locs ls hw hS hl
  rw [← hd.2] at k
  cases r with
  | none => exact lv_aloadN C.1 C.2.1 hd.1 (lget_has hl hv) k
  | some q => exact lv_aload C.1 C.2.1 hd.1 (lget_has hl hv) k
theorem w_istore_n (C : Cx l p s m args meth c cc own nL D cA b0 tab) {k : Fin 4} {x : Int} (hd : DI cc pc (.istore_n k) 1 pc') (hn : (k : Nat) < nL) (kk : Wm p l e R s m args below meth c nL D cA b0 cells slots Q pc' (lset lv k (aI x)) st ad ns nt M) : Wm p l e R s m args below meth c nL D cA b0 cells slots Q pc lv (aI x :: st) ad ns nt M := fun H locs ls hw hS hl => lv_istore_n C.1 C.2.1 hd.1 rfl hl hn (lvm_lset ad lv k (aI x)) (fun ls1 hl1 => by have k := kk H locs ls1 hw hS hl1; rw [← hd.2] at k; exact k)
theorem w_istore (C : Cx l p s m args meth c cc own nL D cA b0 tab) {i : Nat} {x : Int} (hd : DI cc pc (.istore i) 2 pc') (hn : i < nL) (kk : Wm p l e R s m args below meth c nL D cA b0 cells slots Q pc' (lset lv i (aI x)) st ad ns nt M) : Wm p l e R s m args below meth c nL D cA b0 cells slots Q pc lv (aI x :: st) ad ns nt M := fun H locs ls hw hS hl => lv_istore C.1 C.2.1 hd.1 hl hn (lvm_lset ad lv i (aI x)) (fun ls1 hl1 => by have k := kk H locs ls1 hw hS hl1; rw [← hd.2] at k; exact k)
theorem w_lstore_n (C : Cx l p s m args meth c cc own nL D cA b0 tab) {k : Fin 4} {x : Int} (hd : DI cc pc (.lstore_n k) 1 pc') (hn : (k : Nat) + 1 < nL) (kk : Wm p l e R s m args below meth c nL D cA b0 cells slots Q pc' (lset2 lv k (aL x)) st ad ns nt M) : Wm p l e R s m args below meth c nL D cA b0 cells slots Q pc lv (aL x :: st) ad ns nt M := fun H locs ls hw hS hl => lv_lstore_n C.1 C.2.1 hd.1 rfl hl hn (lvm_lset2 ad lv k (aL x)) (fun ls1 hl1 => by have k := kk H locs ls1 hw hS hl1; rw [← hd.2] at k; exact k)
theorem w_fstore (C : Cx l p s m args meth c cc own nL D cA b0 tab) {i : Nat} {x : UInt32} (hd : DI cc pc (.fstore i) 2 pc') (hn : i < nL) (kk : Wm p l e R s m args below meth c nL D cA b0 cells slots Q pc' (lset lv i (aF x)) st ad ns nt M) : Wm p l e R s m args below meth c nL D cA b0 cells slots Q pc lv (aF x :: st) ad ns nt M := fun H locs ls hw hS hl => lv_fstore C.1 C.2.1 hd.1 hl hn (lvm_lset ad lv i (aF x)) (fun ls1 hl1 => by have k := kk H locs ls1 hw hS hl1; rw [← hd.2] at k; exact k)
theorem w_dstore (C : Cx l p s m args meth c cc own nL D cA b0 tab) {i : Nat} {x : UInt64} (hd : DI cc pc (.dstore i) 2 pc') (hn : i + 1 < nL) (kk : Wm p l e R s m args below meth c nL D cA b0 cells slots Q pc' (lset2 lv i (aD x)) st ad ns nt M) : Wm p l e R s m args below meth c nL D cA b0 cells slots Q pc lv (aD x :: st) ad ns nt M := fun H locs ls hw hS hl => lv_dstore C.1 C.2.1 hd.1 hl hn (lvm_lset2 ad lv i (aD x)) (fun ls1 hl1 => by have k := kk H locs ls1 hw hS hl1; rw [← hd.2] at k; exact k)
theorem w_astore_n (C : Cx l p s m args meth c cc own nL D cA b0 tab) {k : Fin 4} {r : Option (Nat × Nat)} (hd : DI cc pc (.astore_n k) 1 pc') (hn : (k : Nat) < nL) (kk : Wm p l e R s m args below meth c nL D cA b0 cells slots Q pc' (lset lv k (aR r)) st ad ns nt M) : Wm p l e R s m args below meth c nL D cA b0 cells slots Q pc lv (aR r :: st) ad ns nt M := by
  intro H locs ls hw hS hl
  have h := lvm_lset ad lv k (aR r)
  cases r with
  | none => exact lv_astore_nN C.1 C.2.1 hd.1 rfl hl hn h (fun ls1 hl1 => by have k := kk H locs ls1 hw hS hl1; rw [← hd.2] at k; exact k)
  | some q => exact lv_astore_n C.1 C.2.1 hd.1 rfl hl hn h (fun ls1 hl1 => by have k := kk H locs ls1 hw hS hl1; rw [← hd.2] at k; exact k)
theorem w_astore (C : Cx l p s m args meth c cc own nL D cA b0 tab) {i : Nat} {r : Option (Nat × Nat)} (hd : DI cc pc (.astore i) 2 pc') (hn : i < nL) (kk : Wm p l e R s m args below meth c nL D cA b0 cells slots Q pc' (lset lv i (aR r)) st ad ns nt M) : Wm p l e R s m args below meth c nL D cA b0 cells slots Q pc lv (aR r :: st) ad ns nt M := by
  intro H locs ls hw hS hl
  have h := lvm_lset ad lv i (aR r)
  cases r with
  | none => exact lv_astoreN C.1 C.2.1 hd.1 hl hn h (fun ls1 hl1 => by have k := kk H locs ls1 hw hS hl1; rw [← hd.2] at k; exact k)
  | some q => exact lv_astore C.1 C.2.1 hd.1 hl hn h (fun ls1 hl1 => by have k := kk H locs ls1 hw hS hl1; rw [← hd.2] at k; exact k)
theorem w_iinc (C : Cx l p s m args meth c cc own nL D cA b0 tab) {i : Nat} {n x : Int} (hd : DI cc pc (.iinc i n) 3 pc') (hv : lget lv i = some (aI x)) (hn : i < nL) (kk : Wm p l e R s m args below meth c nL D cA b0 cells slots Q pc' (lset lv i (aI (x + n))) st ad ns nt M) : Wm p l e R s m args below meth c nL D cA b0 cells slots Q pc lv st ad ns nt M := by
  intro H locs ls hw hS hl
  obtain ⟨k, hk⟩ := List.getElem?_of_mem (lget_mapped (ad := ad) hv)
  exact lv_iinc C.1 C.2.1 hd.1 hl hk (Int32.ofInt_add x n).symm hn (lvm_lset ad lv i (aI (x + n))) (fun ls1 hl1 => by have k := kk H locs ls1 hw hS hl1; rw [← hd.2] at k; exact k)
theorem w_iadd (C : Cx l p s m args meth c cc own nL D cA b0 tab) {x y : Int} (hd : DI cc pc .iadd 1 pc') (kk : Wm p l e R s m args below meth c nL D cA b0 cells slots Q pc' lv (aI (x + y) :: st) ad ns nt M) : Wm p l e R s m args below meth c nL D cA b0 cells slots Q pc lv (aI y :: aI x :: st) ad ns nt M := by
  intro H locs ls hw hS hl
  have k := kk H locs ls hw hS hl
  rw [← hd.2] at k
  exact lv_iadd C.1 C.2.1 hd.1 (by rw [← Int32.ofInt_add]; exact k)
theorem w_isub (C : Cx l p s m args meth c cc own nL D cA b0 tab) {x y : Int} (hd : DI cc pc .isub 1 pc') (kk : Wm p l e R s m args below meth c nL D cA b0 cells slots Q pc' lv (aI (x - y) :: st) ad ns nt M) : Wm p l e R s m args below meth c nL D cA b0 cells slots Q pc lv (aI y :: aI x :: st) ad ns nt M := by
  intro H locs ls hw hS hl
  have k := kk H locs ls hw hS hl
  rw [← hd.2] at k
  exact lv_isub C.1 C.2.1 hd.1 (by rw [← Int32.ofInt_sub]; exact k)
theorem w_imul (C : Cx l p s m args meth c cc own nL D cA b0 tab) {x y : Int} (hd : DI cc pc .imul 1 pc') (kk : Wm p l e R s m args below meth c nL D cA b0 cells slots Q pc' lv (aI (x * y) :: st) ad ns nt M) : Wm p l e R s m args below meth c nL D cA b0 cells slots Q pc lv (aI y :: aI x :: st) ad ns nt M := by
  intro H locs ls hw hS hl
  have k := kk H locs ls hw hS hl
  rw [← hd.2] at k
  exact lv_imul C.1 C.2.1 hd.1 (by rw [← Int32.ofInt_mul]; exact k)
theorem w_idiv (C : Cx l p s m args meth c cc own nL D cA b0 tab) {x y : Int} (hd : DI cc pc .idiv 1 pc') (hx : 0 ≤ x ∧ x ≤ 2147483647) (hy : 0 < y ∧ y ≤ 2147483647) (kk : Wm p l e R s m args below meth c nL D cA b0 cells slots Q pc' lv (aI (x / y) :: st) ad ns nt M) : Wm p l e R s m args below meth c nL D cA b0 cells slots Q pc lv (aI y :: aI x :: st) ad ns nt M := by
  intro H locs ls hw hS hl
  have k := kk H locs ls hw hS hl
  rw [← hd.2] at k
  have hne : ¬ Int32.ofInt y = 0 := fun h => by
    rw [z32, e32_eq (by omega) (by omega)] at h
    omega
  exact lv_idiv C.1 C.2.1 hd.1 hne (by rw [e32_div hx hy]; exact k)
theorem w_irem (C : Cx l p s m args meth c cc own nL D cA b0 tab) {x y : Int} (hd : DI cc pc .irem 1 pc') (hx : 0 ≤ x ∧ x ≤ 2147483647) (hy : 0 < y ∧ y ≤ 2147483647) (kk : Wm p l e R s m args below meth c nL D cA b0 cells slots Q pc' lv (aI (x % y) :: st) ad ns nt M) : Wm p l e R s m args below meth c nL D cA b0 cells slots Q pc lv (aI y :: aI x :: st) ad ns nt M := by
  intro H locs ls hw hS hl
  have k := kk H locs ls hw hS hl
  rw [← hd.2] at k
  have hne : ¬ Int32.ofInt y = 0 := fun h => by
    rw [z32, e32_eq (by omega) (by omega)] at h
    omega
  exact lv_irem C.1 C.2.1 hd.1 hne (by rw [e32_div hx hy, ← Int32.ofInt_mul, ← Int32.ofInt_sub, e32_mod]; exact k)
theorem w_iand (C : Cx l p s m args meth c cc own nL D cA b0 tab) {x y : Nat} (hd : DI cc pc .iand 1 pc') (hx : x < 2147483648) (hy : y < 2147483648) (kk : Wm p l e R s m args below meth c nL D cA b0 cells slots Q pc' lv (aI ((x &&& y : Nat) : Int) :: st) ad ns nt M) : Wm p l e R s m args below meth c nL D cA b0 cells slots Q pc lv (aI y :: aI x :: st) ad ns nt M := by
  intro H locs ls hw hS hl
  have k := kk H locs ls hw hS hl
  rw [← hd.2] at k
  exact lv_iand C.1 C.2.1 hd.1 (by rw [e32_and hx hy]; exact k)
theorem w_ior (C : Cx l p s m args meth c cc own nL D cA b0 tab) {x y : Nat} (hd : DI cc pc .ior 1 pc') (hx : x < 2147483648) (hy : y < 2147483648) (kk : Wm p l e R s m args below meth c nL D cA b0 cells slots Q pc' lv (aI ((x ||| y : Nat) : Int) :: st) ad ns nt M) : Wm p l e R s m args below meth c nL D cA b0 cells slots Q pc lv (aI y :: aI x :: st) ad ns nt M := by
  intro H locs ls hw hS hl
  have k := kk H locs ls hw hS hl
  rw [← hd.2] at k
  exact lv_ior C.1 C.2.1 hd.1 (by rw [e32_or hx hy]; exact k)
theorem w_ishl (C : Cx l p s m args meth c cc own nL D cA b0 tab) {x y : Nat} (hd : DI cc pc .ishl 1 pc') (hy : y < 32) (kk : Wm p l e R s m args below meth c nL D cA b0 cells slots Q pc' lv (aI ((x * 2 ^ y : Nat) : Int) :: st) ad ns nt M) : Wm p l e R s m args below meth c nL D cA b0 cells slots Q pc lv (aI y :: aI x :: st) ad ns nt M := by
  intro H locs ls hw hS hl
  have k := kk H locs ls hw hS hl
  rw [← hd.2] at k
  exact lv_ishl C.1 C.2.1 hd.1 (by rw [e32_shl hy]; exact k)
theorem w_ishr (C : Cx l p s m args meth c cc own nL D cA b0 tab) {x y : Nat} (hd : DI cc pc .ishr 1 pc') (hx : x < 2147483648) (hy : y < 32) (kk : Wm p l e R s m args below meth c nL D cA b0 cells slots Q pc' lv (aI ((x / 2 ^ y : Nat) : Int) :: st) ad ns nt M) : Wm p l e R s m args below meth c nL D cA b0 cells slots Q pc lv (aI y :: aI x :: st) ad ns nt M := by
  intro H locs ls hw hS hl
  have k := kk H locs ls hw hS hl
  rw [← hd.2] at k
  exact lv_ishr C.1 C.2.1 hd.1 (by rw [e32_shr hx hy]; exact k)
theorem w_i2l (C : Cx l p s m args meth c cc own nL D cA b0 tab) {x : Int} (hd : DI cc pc .i2l 1 pc') (hx : -2147483648 ≤ x ∧ x ≤ 2147483647) (kk : Wm p l e R s m args below meth c nL D cA b0 cells slots Q pc' lv (aL x :: st) ad ns nt M) : Wm p l e R s m args below meth c nL D cA b0 cells slots Q pc lv (aI x :: st) ad ns nt M := fun H locs ls hw hS hl => lv_i2l C.1 C.2.1 hd.1 (e32_l hx) (by have k := kk H locs ls hw hS hl; rw [← hd.2] at k; exact k)
theorem w_i2c (C : Cx l p s m args meth c cc own nL D cA b0 tab) {x : Int} (hd : DI cc pc .i2c 1 pc') (kk : Wm p l e R s m args below meth c nL D cA b0 cells slots Q pc' lv (aI (x % 65536) :: st) ad ns nt M) : Wm p l e R s m args below meth c nL D cA b0 cells slots Q pc lv (aI x :: st) ad ns nt M := fun H locs ls hw hS hl => lv_i2c C.1 C.2.1 hd.1 (e32_c x) (by have k := kk H locs ls hw hS hl; rw [← hd.2] at k; exact k)
theorem w_ladd (C : Cx l p s m args meth c cc own nL D cA b0 tab) {x y : Int} (hd : DI cc pc .ladd 1 pc') (kk : Wm p l e R s m args below meth c nL D cA b0 cells slots Q pc' lv (aL (x + y) :: st) ad ns nt M) : Wm p l e R s m args below meth c nL D cA b0 cells slots Q pc lv (aL y :: aL x :: st) ad ns nt M := by
  intro H locs ls hw hS hl
  have k := kk H locs ls hw hS hl
  rw [← hd.2] at k
  exact lv_ladd C.1 C.2.1 hd.1 (by rw [← Int64.ofInt_add]; exact k)
theorem w_lmul (C : Cx l p s m args meth c cc own nL D cA b0 tab) {x y : Int} (hd : DI cc pc .lmul 1 pc') (kk : Wm p l e R s m args below meth c nL D cA b0 cells slots Q pc' lv (aL (x * y) :: st) ad ns nt M) : Wm p l e R s m args below meth c nL D cA b0 cells slots Q pc lv (aL y :: aL x :: st) ad ns nt M := by
  intro H locs ls hw hS hl
  have k := kk H locs ls hw hS hl
  rw [← hd.2] at k
  exact lv_lmul C.1 C.2.1 hd.1 (by rw [← Int64.ofInt_mul]; exact k)
theorem w_lcmp (C : Cx l p s m args meth c cc own nL D cA b0 tab) {x y : Int} (hd : DI cc pc .lcmp 1 pc') (hx : -9223372036854775808 ≤ x ∧ x ≤ 9223372036854775807) (hy : -9223372036854775808 ≤ y ∧ y ≤ 9223372036854775807) (kk : Wm p l e R s m args below meth c nL D cA b0 cells slots Q pc' lv (aI (if x < y then -1 else if x = y then 0 else 1) :: st) ad ns nt M) : Wm p l e R s m args below meth c nL D cA b0 cells slots Q pc lv (aL y :: aL x :: st) ad ns nt M := by
  intro H locs ls hw hS hl
  have k := kk H locs ls hw hS hl
  rw [← hd.2] at k
  refine W.lcmp C.1 C.2.1 hd.1 ?_
  rw [e64_cmp hx hy]
  exact k
theorem w_dup (C : Cx l p s m args meth c cc own nL D cA b0 tab) {v : AV} (hd : DI cc pc .dup 1 pc') (hv : cat2 v = false) (kk : Wm p l e R s m args below meth c nL D cA b0 cells slots Q pc' lv (v :: v :: st) ad ns nt M) : Wm p l e R s m args below meth c nL D cA b0 cells slots Q pc lv (v :: st) ad ns nt M := fun H locs ls hw hS hl => lv_dup C.1 C.2.1 hd.1 (tv_cat1 hv) (by have k := kk H locs ls hw hS hl; rw [← hd.2] at k; exact k)
theorem w_pop (C : Cx l p s m args meth c cc own nL D cA b0 tab) {v : AV} (hd : DI cc pc .pop 1 pc') (hv : cat2 v = false) (kk : Wm p l e R s m args below meth c nL D cA b0 cells slots Q pc' lv st ad ns nt M) : Wm p l e R s m args below meth c nL D cA b0 cells slots Q pc lv (v :: st) ad ns nt M := fun H locs ls hw hS hl => lv_pop C.1 C.2.1 hd.1 (tv_cat1 hv) (by have k := kk H locs ls hw hS hl; rw [← hd.2] at k; exact k)
theorem w_dup2 (C : Cx l p s m args meth c cc own nL D cA b0 tab) {v w : AV} (hd : DI cc pc .dup2 1 pc') (hv : cat2 v = false) (hw2 : cat2 w = false) (kk : Wm p l e R s m args below meth c nL D cA b0 cells slots Q pc' lv (v :: w :: v :: w :: st) ad ns nt M) : Wm p l e R s m args below meth c nL D cA b0 cells slots Q pc lv (v :: w :: st) ad ns nt M := fun H locs ls hw hS hl => lv_dup2_11 C.1 C.2.1 hd.1 (tv_cat1 hv) (tv_cat1 hw2) (by have k := kk H locs ls hw hS hl; rw [← hd.2] at k; exact k)
theorem w_null (C : Cx l p s m args meth c cc own nL D cA b0 tab) (hd : DI cc pc .aconst_null 1 pc') (kk : Wm p l e R s m args below meth c nL D cA b0 cells slots Q pc' lv (aN :: st) ad ns nt M) : Wm p l e R s m args below meth c nL D cA b0 cells slots Q pc lv st ad ns nt M := fun H locs ls hw hS hl => lv_null C.1 C.2.1 hd.1 (by have k := kk H locs ls hw hS hl; rw [← hd.2] at k; exact k)
theorem w_i2f (C : Cx l p s m args meth c cc own nL D cA b0 tab) {x : Int} (hd : DI cc pc .i2f 1 pc') (kk : Wm p l e R s m args below meth c nL D cA b0 cells slots Q pc' lv (aF (FP.i2f (Int32.ofInt x)) :: st) ad ns nt M) : Wm p l e R s m args below meth c nL D cA b0 cells slots Q pc lv (aI x :: st) ad ns nt M := fun H locs ls hw hS hl => lv_i2f C.1 C.2.1 hd.1 (by have k := kk H locs ls hw hS hl; rw [← hd.2] at k; exact k)
theorem w_i2d (C : Cx l p s m args meth c cc own nL D cA b0 tab) {x : Int} (hd : DI cc pc .i2d 1 pc') (kk : Wm p l e R s m args below meth c nL D cA b0 cells slots Q pc' lv (aD (FP.i2d (Int32.ofInt x)) :: st) ad ns nt M) : Wm p l e R s m args below meth c nL D cA b0 cells slots Q pc lv (aI x :: st) ad ns nt M := fun H locs ls hw hS hl => lv_i2d C.1 C.2.1 hd.1 (by have k := kk H locs ls hw hS hl; rw [← hd.2] at k; exact k)
theorem w_fdiv (C : Cx l p s m args meth c cc own nL D cA b0 tab) {x y : UInt32} (hd : DI cc pc .fdiv 1 pc') (hn : vf_n32 (FP.fdiv x y)) (kk : Wm p l e R s m args below meth c nL D cA b0 cells slots Q pc' lv (aF (FP.fdiv x y) :: st) ad ns nt M) : Wm p l e R s m args below meth c nL D cA b0 cells slots Q pc lv (aF y :: aF x :: st) ad ns nt M := fun H locs ls hw hS hl => lv_fdiv C.1 C.2.1 hd.1 hn (by have k := kk H locs ls hw hS hl; rw [← hd.2] at k; exact k)
theorem w_ddiv (C : Cx l p s m args meth c cc own nL D cA b0 tab) {x y : UInt64} (hd : DI cc pc .ddiv 1 pc') (hn : vf_n64 (FP.ddiv x y)) (kk : Wm p l e R s m args below meth c nL D cA b0 cells slots Q pc' lv (aD (FP.ddiv x y) :: st) ad ns nt M) : Wm p l e R s m args below meth c nL D cA b0 cells slots Q pc lv (aD y :: aD x :: st) ad ns nt M := fun H locs ls hw hS hl => lv_ddiv C.1 C.2.1 hd.1 hn (by have k := kk H locs ls hw hS hl; rw [← hd.2] at k; exact k)
theorem w_f2d (C : Cx l p s m args meth c cc own nL D cA b0 tab) {x : UInt32} (hd : DI cc pc .f2d 1 pc') (hn : vf_n64 (FP.f2d x)) (kk : Wm p l e R s m args below meth c nL D cA b0 cells slots Q pc' lv (aD (FP.f2d x) :: st) ad ns nt M) : Wm p l e R s m args below meth c nL D cA b0 cells slots Q pc lv (aF x :: st) ad ns nt M := fun H locs ls hw hS hl => lv_f2d C.1 C.2.1 hd.1 hn (by have k := kk H locs ls hw hS hl; rw [← hd.2] at k; exact k)
theorem w_if_eq (C : Cx l p s m args meth c cc own nL D cA b0 tab) {x off : Int} {tgt : Nat} (hd : DJ cc pc (.ifCond .eq off) off tgt pc') (hx : -2147483648 ≤ x ∧ x ≤ 2147483647) (kt : (x = 0) → Wm p l e R s m args below meth c nL D cA b0 cells slots Q tgt lv st ad ns nt M) (kf : ¬ (x = 0) → Wm p l e R s m args below meth c nL D cA b0 cells slots Q pc' lv st ad ns nt M) : Wm p l e R s m args below meth c nL D cA b0 cells slots Q pc lv (aI x :: st) ad ns nt M := fun H locs ls hw hS hl => lv_if_eq C.1 C.2.1 hd.1 hd.2.1 (fun h => kt ((e32_eq hx (by omega)).mp h) H locs ls hw hS hl) (fun h => by have k := kf (fun q => h ((e32_eq hx (by omega)).mpr q)) H locs ls hw hS hl; rw [← hd.2.2] at k; exact k)
theorem w_if_ne (C : Cx l p s m args meth c cc own nL D cA b0 tab) {x off : Int} {tgt : Nat} (hd : DJ cc pc (.ifCond .ne off) off tgt pc') (hx : -2147483648 ≤ x ∧ x ≤ 2147483647) (kt : (x ≠ 0) → Wm p l e R s m args below meth c nL D cA b0 cells slots Q tgt lv st ad ns nt M) (kf : ¬ (x ≠ 0) → Wm p l e R s m args below meth c nL D cA b0 cells slots Q pc' lv st ad ns nt M) : Wm p l e R s m args below meth c nL D cA b0 cells slots Q pc lv (aI x :: st) ad ns nt M := fun H locs ls hw hS hl => lv_if_ne C.1 C.2.1 hd.1 hd.2.1 (fun h => kt (fun q => h (by rw [q]; rfl)) H locs ls hw hS hl) (fun h => by have k := kf (fun q => q ((e32_eq hx (by omega)).mp h)) H locs ls hw hS hl; rw [← hd.2.2] at k; exact k)
theorem w_if_lt (C : Cx l p s m args meth c cc own nL D cA b0 tab) {x off : Int} {tgt : Nat} (hd : DJ cc pc (.ifCond .lt off) off tgt pc') (hx : -2147483648 ≤ x ∧ x ≤ 2147483647) (kt : (x < 0) → Wm p l e R s m args below meth c nL D cA b0 cells slots Q tgt lv st ad ns nt M) (kf : ¬ (x < 0) → Wm p l e R s m args below meth c nL D cA b0 cells slots Q pc' lv st ad ns nt M) : Wm p l e R s m args below meth c nL D cA b0 cells slots Q pc lv (aI x :: st) ad ns nt M := fun H locs ls hw hS hl => lv_if_lt C.1 C.2.1 hd.1 hd.2.1 (fun h => kt ((e32_lt hx (by omega)).mp h) H locs ls hw hS hl) (fun h => by have k := kf (fun q => h ((e32_lt hx (by omega)).mpr q)) H locs ls hw hS hl; rw [← hd.2.2] at k; exact k)
theorem w_if_ge (C : Cx l p s m args meth c cc own nL D cA b0 tab) {x off : Int} {tgt : Nat} (hd : DJ cc pc (.ifCond .ge off) off tgt pc') (hx : -2147483648 ≤ x ∧ x ≤ 2147483647) (kt : (0 ≤ x) → Wm p l e R s m args below meth c nL D cA b0 cells slots Q tgt lv st ad ns nt M) (kf : ¬ (0 ≤ x) → Wm p l e R s m args below meth c nL D cA b0 cells slots Q pc' lv st ad ns nt M) : Wm p l e R s m args below meth c nL D cA b0 cells slots Q pc lv (aI x :: st) ad ns nt M := fun H locs ls hw hS hl => lv_if_ge C.1 C.2.1 hd.1 hd.2.1 (fun h => kt ((e32_le (by omega) hx).mp h) H locs ls hw hS hl) (fun h => by have k := kf (fun q => h ((e32_le (by omega) hx).mpr q)) H locs ls hw hS hl; rw [← hd.2.2] at k; exact k)
theorem w_if_gt (C : Cx l p s m args meth c cc own nL D cA b0 tab) {x off : Int} {tgt : Nat} (hd : DJ cc pc (.ifCond .gt off) off tgt pc') (hx : -2147483648 ≤ x ∧ x ≤ 2147483647) (kt : (0 < x) → Wm p l e R s m args below meth c nL D cA b0 cells slots Q tgt lv st ad ns nt M) (kf : ¬ (0 < x) → Wm p l e R s m args below meth c nL D cA b0 cells slots Q pc' lv st ad ns nt M) : Wm p l e R s m args below meth c nL D cA b0 cells slots Q pc lv (aI x :: st) ad ns nt M := fun H locs ls hw hS hl => lv_if_gt C.1 C.2.1 hd.1 hd.2.1 (fun h => kt ((e32_lt (by omega) hx).mp h) H locs ls hw hS hl) (fun h => by have k := kf (fun q => h ((e32_lt (by omega) hx).mpr q)) H locs ls hw hS hl; rw [← hd.2.2] at k; exact k)
theorem w_if_le (C : Cx l p s m args meth c cc own nL D cA b0 tab) {x off : Int} {tgt : Nat} (hd : DJ cc pc (.ifCond .le off) off tgt pc') (hx : -2147483648 ≤ x ∧ x ≤ 2147483647) (kt : (x ≤ 0) → Wm p l e R s m args below meth c nL D cA b0 cells slots Q tgt lv st ad ns nt M) (kf : ¬ (x ≤ 0) → Wm p l e R s m args below meth c nL D cA b0 cells slots Q pc' lv st ad ns nt M) : Wm p l e R s m args below meth c nL D cA b0 cells slots Q pc lv (aI x :: st) ad ns nt M := fun H locs ls hw hS hl => lv_if_le C.1 C.2.1 hd.1 hd.2.1 (fun h => kt ((e32_le hx (by omega)).mp h) H locs ls hw hS hl) (fun h => by have k := kf (fun q => h ((e32_le hx (by omega)).mpr q)) H locs ls hw hS hl; rw [← hd.2.2] at k; exact k)
theorem w_icmp_eq (C : Cx l p s m args meth c cc own nL D cA b0 tab) {x y off : Int} {tgt : Nat} (hd : DJ cc pc (.if_icmp .eq off) off tgt pc') (hx : -2147483648 ≤ x ∧ x ≤ 2147483647) (hy : -2147483648 ≤ y ∧ y ≤ 2147483647) (kt : (x = y) → Wm p l e R s m args below meth c nL D cA b0 cells slots Q tgt lv st ad ns nt M) (kf : ¬ (x = y) → Wm p l e R s m args below meth c nL D cA b0 cells slots Q pc' lv st ad ns nt M) : Wm p l e R s m args below meth c nL D cA b0 cells slots Q pc lv (aI y :: aI x :: st) ad ns nt M := fun H locs ls hw hS hl => lv_icmp_eq C.1 C.2.1 hd.1 hd.2.1 (fun h => kt ((e32_eq hx hy).mp h) H locs ls hw hS hl) (fun h => by have k := kf (fun q => h ((e32_eq hx hy).mpr q)) H locs ls hw hS hl; rw [← hd.2.2] at k; exact k)
theorem w_icmp_ne (C : Cx l p s m args meth c cc own nL D cA b0 tab) {x y off : Int} {tgt : Nat} (hd : DJ cc pc (.if_icmp .ne off) off tgt pc') (hx : -2147483648 ≤ x ∧ x ≤ 2147483647) (hy : -2147483648 ≤ y ∧ y ≤ 2147483647) (kt : (x ≠ y) → Wm p l e R s m args below meth c nL D cA b0 cells slots Q tgt lv st ad ns nt M) (kf : ¬ (x ≠ y) → Wm p l e R s m args below meth c nL D cA b0 cells slots Q pc' lv st ad ns nt M) : Wm p l e R s m args below meth c nL D cA b0 cells slots Q pc lv (aI y :: aI x :: st) ad ns nt M := fun H locs ls hw hS hl => lv_icmp_ne C.1 C.2.1 hd.1 hd.2.1 (fun h => kt (fun q => h (by rw [q])) H locs ls hw hS hl) (fun h => by have k := kf (fun q => q ((e32_eq hx hy).mp h)) H locs ls hw hS hl; rw [← hd.2.2] at k; exact k)
theorem w_icmp_lt (C : Cx l p s m args meth c cc own nL D cA b0 tab) {x y off : Int} {tgt : Nat} (hd : DJ cc pc (.if_icmp .lt off) off tgt pc') (hx : -2147483648 ≤ x ∧ x ≤ 2147483647) (hy : -2147483648 ≤ y ∧ y ≤ 2147483647) (kt : (x < y) → Wm p l e R s m args below meth c nL D cA b0 cells slots Q tgt lv st ad ns nt M) (kf : ¬ (x < y) → Wm p l e R s m args below meth c nL D cA b0 cells slots Q pc' lv st ad ns nt M) : Wm p l e R s m args below meth c nL D cA b0 cells slots Q pc lv (aI y :: aI x :: st) ad ns nt M := fun H locs ls hw hS hl => lv_icmp_lt C.1 C.2.1 hd.1 hd.2.1 (fun h => kt ((e32_lt hx hy).mp h) H locs ls hw hS hl) (fun h => by have k := kf (fun q => h ((e32_lt hx hy).mpr q)) H locs ls hw hS hl; rw [← hd.2.2] at k; exact k)
theorem w_icmp_ge (C : Cx l p s m args meth c cc own nL D cA b0 tab) {x y off : Int} {tgt : Nat} (hd : DJ cc pc (.if_icmp .ge off) off tgt pc') (hx : -2147483648 ≤ x ∧ x ≤ 2147483647) (hy : -2147483648 ≤ y ∧ y ≤ 2147483647) (kt : (y ≤ x) → Wm p l e R s m args below meth c nL D cA b0 cells slots Q tgt lv st ad ns nt M) (kf : ¬ (y ≤ x) → Wm p l e R s m args below meth c nL D cA b0 cells slots Q pc' lv st ad ns nt M) : Wm p l e R s m args below meth c nL D cA b0 cells slots Q pc lv (aI y :: aI x :: st) ad ns nt M := fun H locs ls hw hS hl => lv_icmp_ge C.1 C.2.1 hd.1 hd.2.1 (fun h => kt ((e32_le hy hx).mp h) H locs ls hw hS hl) (fun h => by have k := kf (fun q => h ((e32_le hy hx).mpr q)) H locs ls hw hS hl; rw [← hd.2.2] at k; exact k)
theorem w_icmp_gt (C : Cx l p s m args meth c cc own nL D cA b0 tab) {x y off : Int} {tgt : Nat} (hd : DJ cc pc (.if_icmp .gt off) off tgt pc') (hx : -2147483648 ≤ x ∧ x ≤ 2147483647) (hy : -2147483648 ≤ y ∧ y ≤ 2147483647) (kt : (y < x) → Wm p l e R s m args below meth c nL D cA b0 cells slots Q tgt lv st ad ns nt M) (kf : ¬ (y < x) → Wm p l e R s m args below meth c nL D cA b0 cells slots Q pc' lv st ad ns nt M) : Wm p l e R s m args below meth c nL D cA b0 cells slots Q pc lv (aI y :: aI x :: st) ad ns nt M := fun H locs ls hw hS hl => lv_icmp_gt C.1 C.2.1 hd.1 hd.2.1 (fun h => kt ((e32_lt hy hx).mp h) H locs ls hw hS hl) (fun h => by have k := kf (fun q => h ((e32_lt hy hx).mpr q)) H locs ls hw hS hl; rw [← hd.2.2] at k; exact k)
theorem w_icmp_le (C : Cx l p s m args meth c cc own nL D cA b0 tab) {x y off : Int} {tgt : Nat} (hd : DJ cc pc (.if_icmp .le off) off tgt pc') (hx : -2147483648 ≤ x ∧ x ≤ 2147483647) (hy : -2147483648 ≤ y ∧ y ≤ 2147483647) (kt : (x ≤ y) → Wm p l e R s m args below meth c nL D cA b0 cells slots Q tgt lv st ad ns nt M) (kf : ¬ (x ≤ y) → Wm p l e R s m args below meth c nL D cA b0 cells slots Q pc' lv st ad ns nt M) : Wm p l e R s m args below meth c nL D cA b0 cells slots Q pc lv (aI y :: aI x :: st) ad ns nt M := fun H locs ls hw hS hl => lv_icmp_le C.1 C.2.1 hd.1 hd.2.1 (fun h => kt ((e32_le hx hy).mp h) H locs ls hw hS hl) (fun h => by have k := kf (fun q => h ((e32_le hx hy).mpr q)) H locs ls hw hS hl; rw [← hd.2.2] at k; exact k)
theorem w_goto (C : Cx l p s m args meth c cc own nL D cA b0 tab) {off : Int} {tgt : Nat} (hd : DJ cc pc (.goto off) off tgt pc') (kk : Wm p l e R s m args below meth c nL D cA b0 cells slots Q tgt lv st ad ns nt M) : Wm p l e R s m args below meth c nL D cA b0 cells slots Q pc lv st ad ns nt M := fun H locs ls hw hS hl => lv_goto C.1 C.2.1 hd.1 hd.2.1 (kk H locs ls hw hS hl)
theorem w_ifnull (C : Cx l p s m args meth c cc own nL D cA b0 tab) {r : Option (Nat × Nat)} {off : Int} {tgt : Nat} (hd : DJ cc pc (.ifnull off) off tgt pc') (kt : r = none → Wm p l e R s m args below meth c nL D cA b0 cells slots Q tgt lv st ad ns nt M) (kf : (∃ q, r = some q) → Wm p l e R s m args below meth c nL D cA b0 cells slots Q pc' lv st ad ns nt M) : Wm p l e R s m args below meth c nL D cA b0 cells slots Q pc lv (aR r :: st) ad ns nt M := by
  intro H locs ls hw hS hl
  cases r with
  | none => exact lv_ifnullN C.1 C.2.1 hd.1 hd.2.1 (kt rfl H locs ls hw hS hl)
  | some q =>
    have k := kf ⟨q, rfl⟩ H locs ls hw hS hl
    rw [← hd.2.2] at k
    exact lv_ifnull C.1 C.2.1 hd.1 k
theorem w_ifnonnull (C : Cx l p s m args meth c cc own nL D cA b0 tab) {r : Option (Nat × Nat)} {off : Int} {tgt : Nat} (hd : DJ cc pc (.ifnonnull off) off tgt pc') (kt : (∃ q, r = some q) → Wm p l e R s m args below meth c nL D cA b0 cells slots Q tgt lv st ad ns nt M) (kf : r = none → Wm p l e R s m args below meth c nL D cA b0 cells slots Q pc' lv st ad ns nt M) : Wm p l e R s m args below meth c nL D cA b0 cells slots Q pc lv (aR r :: st) ad ns nt M := by
  intro H locs ls hw hS hl
  cases r with
  | none =>
    have k := kf rfl H locs ls hw hS hl
    rw [← hd.2.2] at k
    exact lv_ifnonnullN C.1 C.2.1 hd.1 k
  | some q => exact lv_ifnonnull C.1 C.2.1 hd.1 hd.2.1 (kt ⟨q, rfl⟩ H locs ls hw hS hl)
theorem w_acmp_ne (C : Cx l p s m args meth c cc own nL D cA b0 tab) {r r2 : Option (Nat × Nat)} {off : Int} {tgt : Nat} (hd : DJ cc pc (.if_acmp .ne off) off tgt pc') (hr : ∀ q, r = some q → inD ns nt q.1 q.2) (hr2 : ∀ q, r2 = some q → inD ns nt q.1 q.2)
    (kt : r ≠ r2 → Wm p l e R s m args below meth c nL D cA b0 cells slots Q tgt lv st ad ns nt M) (kf : r = r2 → Wm p l e R s m args below meth c nL D cA b0 cells slots Q pc' lv st ad ns nt M) : Wm p l e R s m args below meth c nL D cA b0 cells slots Q pc lv (aR r2 :: aR r :: st) ad ns nt M := by
  intro H locs ls hw hS hl
  have e : (r.map fun q => ad q.1 q.2) = (r2.map fun q => ad q.1 q.2) ↔ r = r2 := by
    refine ⟨fun h => ?_, fun h => by rw [h]⟩
    cases r with
    | none =>
      cases r2 with
      | none => rfl
      | some q2 => cases h
    | some q =>
      cases r2 with
      | none => cases h
      | some q2 =>
        have h1 := hw.2.1 _ _ _ _ (hr q rfl) (hr2 q2 rfl) (Option.some.inj h)
        exact congrArg some (Prod.ext h1.1 h1.2)
  have t1 : ∀ r : Option (Nat × Nat), tv ad (aR r) = va_rf (r.map fun q => ad q.1 q.2) := fun r => by cases r <;> rfl
  refine W.eq (g2 := F0 m pc ls (va_rf (r2.map fun q => ad q.1 q.2) :: va_rf (r.map fun q => ad q.1 q.2) :: st.map (tv ad))) (by rw [← t1, ← t1]; rfl) ?_
  refine lv_acmp_ne C.1 C.2.1 hd.1 hd.2.1 (fun h => kt (fun q => h (e.mpr q)) H locs ls hw hS hl) (fun h => ?_)
  have k := kf (e.mp h) H locs ls hw hS hl
  rw [← hd.2.2] at k
  exact k
end Rows
end
