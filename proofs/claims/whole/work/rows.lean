section
/-! ===== BEGIN words of one list among another's, by their places ===== -/
theorem goodIn_r {big : List Cond} (ws : List Cond) (ps : List Nat) (hp : ws = ps.filterMap (fun i => big[i]?)) (h : ws.all goodWord = true) : GoodIn big ws := by
  intro w hw
  have h1 := List.all_eq_true.mp h w hw
  rw [hp] at hw
  obtain ⟨i, -, hi⟩ := List.mem_filterMap.mp hw
  have hm : w ∈ big := by first | exact List.mem_of_getElem? hi | exact List.getElem?_mem hi
  exact ⟨hm, good_of_word h1⟩
theorem goodIn_app {big a b : List Cond} (ha : GoodIn big a) (hb : GoodIn big b) : GoodIn big (a ++ b) := fun w h => (List.mem_append.mp h).elim (ha w) (hb w)
theorem goodIn_ca {big a b : List Cond} {c : Cond} (ha : GoodIn big (c :: a)) (hb : GoodIn big b) : GoodIn big (c :: (a ++ b)) := fun w h => (List.mem_cons.mp h).elim (fun e => ha w (List.mem_cons.mpr (Or.inl e))) (fun h => (List.mem_append.mp h).elim (fun h => ha w (List.mem_cons.mpr (Or.inr h))) (hb w))
theorem goodIn_sub {big ws : List Cond} (hm : ∀ w ∈ ws, w ∈ big) (h : ws.all goodWord = true) : GoodIn big ws := fun w hw => ⟨hm w hw, good_of_word (List.all_eq_true.mp h w hw)⟩
/-! ===== END ===== -/
/-! ===== BEGIN exceptions that leave a method, and their catching by the caller (launches without stack traces) ===== -/
section VXA
/-! The laws vx_back, vx_callV, vx_callS, vx_callSW, vx_throw0, vx_throwS follow proofs of the library, with one case more: JvmDerived/Free/Laws.lean (Back.of_free), Shelf42/LK1.lean (callV, callS), Shelf/KitTraced.lean (throwNew0V, throwNewS). -/
/-- where a method has thrown q: the class by its name, the cell, what was written, the world -/
def vx_T (XC : String → State → State → Prop) (st : State) (q : Addr) (t : State) (mc ms : Nat) (free : Addr → Prop) : Prop :=
  ∃ (E : String) (ce : Cell) (L : List Loc), XC E st t ∧ t.heap[q]? = some ce ∧ ce.vm = .none ∧ st.vm.findClass E = some ce.cls ∧ st.WarmedH t.vm ∧ st.sameButNew ({ t with vm := st.vm } : State) L mc ms ∧ ∀ z ∈ L, free z.base
def vx_Q (Qc : Array Value → State → Outcome → State → Prop) (XC : String → State → State → Prop) (mc ms : Nat) (free : Addr → Prop) : Array Value → State → Outcome → State → Prop := fun a st o t =>
  (Qc a st o t ∧ ∃ L, FrameEnd st o t L mc ms ∧ ∀ q ∈ L, free q.base) ∨ ∃ q, o = .threw q ∧ vx_T XC st q t mc ms free
/-- a callee that returns or throws -/
def vx_Met (l : Launch) (y : MethodName) (ws : List Cond) (rm : Room) (Pc : Array Value → State → Prop) (Qc : Array Value → State → Outcome → State → Prop) (XC : String → State → State → Prop) (mc ms : Nat) (free : Addr → Prop) : Prop :=
  MetFree l y (headSpec ws rm) Pc (fun _ _ _ _ _ => True) (vx_Q Qc XC mc ms free)
def vx_Post (XC : String → State → State → Prop) (mc ms : Nat) (free : Addr → Prop) : Pt → Array Value → Addr → Pt → Prop := fun A a q B =>
  ∃ (g : JFrame) (mk : MethodId) (t : State) (L : List Loc) (E : String) (ce : Cell), B.U.heap = t.heap ∧ B.U.vm = t.vm ∧ XC E (A.U.calling g mk a) t ∧ t.heap[q]? = some ce ∧ ce.vm = .none ∧ A.U.vm.findClass E = some ce.cls ∧ B.locs = A.locs ++ L ∧ (∀ z ∈ L, free z.base) ∧ B.cells = A.cells + mc ∧ B.slots = A.slots + ms
def vx_Back (l : Launch) (R : Room) (p : Program) (e : Env) (below : List Frame) (s : State) (sargs : Array Value) (y : MethodName) (len W9 : Nat)
    (Pre : Pt → Array Value → Prop) (Post : Pt → Array Value → Option Value → Pt → Prop) (PostX : Pt → Array Value → Addr → Pt → Prop) : Prop :=
  ∀ (m : MethodId) (meth : Method) (c : Code) (A : Pt) (g : JFrame) (ig : Instr) (mk : MethodId) (a : Array Value),
    Stand p l e R s m sargs below meth c A.U A.locs A.cells A.slots → g.method = m → g.locals.size = c.maxLocals → decode c.code g.pc = .ok (ig, len) →
    2 * g.monitorRoom + (g.stack.map fun v => v.category).sum ≤ W9 → A.U.methodNamed? y = some mk → Pre A a →
    (∃ (v : Option Value) (B : Pt), Stand p l e R s m sargs below meth c B.U B.locs B.cells B.slots ∧ Post A a v B ∧
      Steps p.tables e below (doInvoke e (A.U.setTop g) [] mk a).1 (B.U.setTop { g with pc := g.pc + len, stack := v.toList ++ g.stack })) ∨
    (∃ (q : Addr) (B : Pt), Stand p l e R s m sargs below meth c B.U B.locs B.cells B.slots ∧ PostX A a q B ∧
      Steps p.tables e below (doInvoke e (A.U.setTop g) [] mk a).1 ((B.U.setTop g).pushFrame (.throwing q)))
section Payer
variable {l : Launch} {R : Room} {p : Program} {e : Env} {below : List Frame} {s : State} {sargs : Array Value} {y : MethodName} {len W9 : Nat}
theorem vx_back {ws : List Cond} {rm : Room} {Pc : Array Value → State → Prop} {Qc : Array Value → State → Outcome → State → Prop} {XC : String → State → State → Prop} {mc ms : Nat} {free : Addr → Prop} {bytes : ByteArray} {maxL : Nat} {ret : Option FieldType}
    (hM : vx_Met l y ws rm Pc Qc XC mc ms free) (hblind : FrameBlind Pc) (hrc : rm.cells = mc) (hrs : rm.slots = ms)
    (hframes : rm.frames + 1 ≤ R.frames) (hlocals : W9 + (maxL + 11) + rm.locals ≤ R.locals)
    (hws : ∀ w ∈ ws, ∀ a' U, s.WarmedH U.vm → w.before a' U = true) (hcode : Cond.code y bytes maxL ret ∈ ws) (hinit : ∀ a' U, s.WarmedH U.vm → (Cond.initialized y.cls).before a' U = true) :
    vx_Back l R p e below s sargs y len W9 (PreOf R mc ms Pc) (PostOf Qc mc ms free) (vx_Post XC mc ms free) := by
  intro m meth c A g ig mk a X hg hsize hdg hW hn hp
  have h1 : (headSpec ws rm).pre.before a A.U = true := atoms_intro fun w hw => hws w hw _ _ X.warmed
  have h2 : (Cond.code y bytes maxL ret).before a A.U = true := hws _ hcode _ _ X.warmed
  have h3 : (Cond.initialized y.cls).before a A.U = true := hinit _ _ X.warmed
  have h4 : A.cells + (headSpec ws rm).room.cells ≤ R.cells := by rw [show (headSpec ws rm).room.cells = mc from hrc]; exact hp.1
  have h5 : A.slots + (headSpec ws rm).room.slots ≤ R.slots := by rw [show (headSpec ws rm).room.slots = ms from hrs]; exact hp.2.1
  have hPc : Pc a (A.U.calling g mk a) := hblind _ _ _ _ hp.2.2
  obtain ⟨U, Ls, c0, s0⟩ := A
  dsimp only [Pt.U, Pt.locs, Pt.cells, Pt.slots] at h1 h2 h3 h4 h5 X hn hPc ⊢
  obtain ⟨methY, cY, hmY, hcY, -, hlY, -, -, -, -⟩ := Cond.code_spec hn h2
  obtain ⟨kY, hkY, -⟩ := className_of_methodNamed hn
  have hinitY : kY.init = .initialized := Cond.initialized_spec (findClass_of_methodNamed hn) hkY h3
  have h : At U g.method c below := by rw [hg]; exact X.here
  have hlocals9 : W9 + (maxL + 11) + (headSpec ws rm).room.locals ≤ R.locals := hlocals
  have happ : (headSpec ws rm).appliesLoose y e.platform (U.calling g mk a) = true :=
    Spec.appliesLoose_calling (g := g) h hdg hn hkY hinitY
      (X.room_calling (g := g) (R' := (headSpec ws rm).room) hsize hmY hcY hframes (by rw [hlY]; omega) h4 h5) h1
  obtain ⟨mid, hmid⟩ := h.above
  have hfr : (U.setTop g).frames = (.java g :: mid) ++ below := by rw [State.frames_setTop' g h.top, hmid]; rfl
  obtain ⟨o, s₂, hsteps, -, hend, hq⟩ := Steps.callFree hM p X.admits X.cas X.clock (acts := []) hfr happ hPc trivial
  have hq' : vx_Q Qc XC mc ms free a (U.calling g mk a) o s₂ := hq
  rw [State.frames_setTop' g h.top] at hend
  obtain ⟨g₀, hg0⟩ := Option.isSome_iff_exists.mp h.top
  obtain ⟨r, hr⟩ := State.topJava?_eq_some.mp hg0
  have hr' : (({ U with heap := s₂.heap, slotsUsed := s₂.slotsUsed } : State).setVm s₂.vm).frames = .java g₀ :: r := hr
  rcases hq' with ⟨hqc, L, hfe, hL⟩ | ⟨q, rfl, E, ce, L, hx, hce, hcv, hcl, hW₂, hsm, hL⟩
  · obtain ⟨⟨v, rfl⟩, hW₂, e2, q2, q3, q4, q5, q6⟩ := id hfe
    have e3 : s₂ = ({ (U.calling g mk a).setFrames s₂.frames with heap := s₂.heap, slotsUsed := s₂.slotsUsed } : State).setVm s₂.vm := by
      have : s₂ = ({ s₂ with vm := (U.calling g mk a).vm } : State).setVm s₂.vm := rfl
      rw [e2] at this
      exact this
    obtain ⟨c₂, i₂, len₂, hc₂, hd₂, hf₂⟩ := hend
    have hW' : U.WarmedH s₂.vm := hW₂
    have hcc : c₂ = c := by
      have h1 : s₂.code? g.method = U.code? g.method := by
        rw [State.code?_eq, State.code?_eq, hW'.alike.method?]
      exact Option.some.inj (hc₂.symm.trans (h1.trans h.code))
    subst hcc
    have hlen : len₂ = len := by rw [hdg] at hd₂; cases hd₂; rfl
    subst hlen
    have hs₂ : s₂ = (({ U with heap := s₂.heap, slotsUsed := s₂.slotsUsed } : State).setVm s₂.vm).setTop { g with pc := g.pc + len₂, stack := v.toList ++ g.stack } := by
      refine e3.trans ?_
      rw [hf₂, State.calling_eq h.top, State.setFrames_setFrames, State.setTop_of_frames _ hr', hr]
      rfl
    have hsame : U.sameButNew ({ U with heap := s₂.heap, slotsUsed := s₂.slotsUsed } : State) L mc ms := by
      refine ⟨?_, q2, q3, q4, q5, q6⟩
      obtain ⟨t, ht, -⟩ := State.frames_cons hr
      show ({ U with heap := s₂.heap, slotsUsed := s₂.slotsUsed } : State) = { U.setFrames U.frames with heap := s₂.heap, slotsUsed := s₂.slotsUsed }
      rw [State.setFrames_self ht]
    subst hg
    refine Or.inl ⟨v, ⟨(({ U with heap := s₂.heap, slotsUsed := s₂.slotsUsed } : State).setVm s₂.vm), Ls ++ L, c0 + mc, s0 + ms⟩,
      ⟨X.admits, X.cas, X.clock, X.frames, X.room, X.hears, X.method, X.code, (X.here.setHeapUsed s₂.heap s₂.slotsUsed).setVm hW'.alike, X.tail, State.WarmedH.trans X.warmed hW', X.limits, X.bytes, X.same.trans (hsame.setVm s.vm)⟩,
      ⟨g, mk, s₂, L, rfl, rfl, hqc, rfl, hL, rfl, rfl⟩, ?_⟩
    show Steps p.tables e below _ ((({ U with heap := s₂.heap, slotsUsed := s₂.slotsUsed } : State).setVm s₂.vm).setTop { g with pc := g.pc + len₂, stack := v.toList ++ g.stack })
    rw [← hs₂]
    exact hsteps
  · obtain ⟨e2, q2, q3, q4, q5, q6⟩ := id hsm
    have e3 : s₂ = ({ (U.calling g mk a).setFrames s₂.frames with heap := s₂.heap, slotsUsed := s₂.slotsUsed } : State).setVm s₂.vm := by
      have : s₂ = ({ s₂ with vm := (U.calling g mk a).vm } : State).setVm s₂.vm := rfl
      rw [e2] at this
      exact this
    have hf₂ : s₂.frames = .throwing q :: .java g :: U.frames.tail := hend
    have hW' : U.WarmedH s₂.vm := hW₂
    have hs₂ : s₂ = ((({ U with heap := s₂.heap, slotsUsed := s₂.slotsUsed } : State).setVm s₂.vm).setTop g).pushFrame (.throwing q) := by
      refine e3.trans ?_
      rw [hf₂, State.calling_eq h.top, State.setFrames_setFrames, State.pushFrame, State.frames_setTop _ hr', State.setTop_of_frames _ hr', State.setFrames_setFrames, hr]
      rfl
    have hsame : U.sameButNew ({ U with heap := s₂.heap, slotsUsed := s₂.slotsUsed } : State) L mc ms := by
      refine ⟨?_, q2, q3, q4, q5, q6⟩
      obtain ⟨t, ht, -⟩ := State.frames_cons hr
      show ({ U with heap := s₂.heap, slotsUsed := s₂.slotsUsed } : State) = { U.setFrames U.frames with heap := s₂.heap, slotsUsed := s₂.slotsUsed }
      rw [State.setFrames_self ht]
    subst hg
    refine Or.inr ⟨q, ⟨(({ U with heap := s₂.heap, slotsUsed := s₂.slotsUsed } : State).setVm s₂.vm), Ls ++ L, c0 + mc, s0 + ms⟩,
      ⟨X.admits, X.cas, X.clock, X.frames, X.room, X.hears, X.method, X.code, (X.here.setHeapUsed s₂.heap s₂.slotsUsed).setVm hW'.alike, X.tail, State.WarmedH.trans X.warmed hW', X.limits, X.bytes, X.same.trans (hsame.setVm s.vm)⟩,
      ⟨g, mk, s₂, L, E, ce, rfl, rfl, hx, hce, hcv, hcl, rfl, hL, rfl, rfl⟩, ?_⟩
    show Steps p.tables e below _ (((({ U with heap := s₂.heap, slotsUsed := s₂.slotsUsed } : State).setVm s₂.vm).setTop g).pushFrame (.throwing q))
    rw [← hs₂]
    exact hsteps
end Payer
section Calls
variable {p : Program} {l : Launch} {e : Env} {R : Room} {s : State} {m : MethodId} {args : Array Value} {below : List Frame} {meth : Method} {c : Code} {T : State} {locs : List Loc} {cells slots : Nat}
theorem vx_callV (X : Stand p l e R s m args below meth c T locs cells slots) (hexec : p.tables.exec = Jvm.exec) {own C : String} {index : Nat} {y : MethodName} {bytes : ByteArray} {maxL : Nat} {ret : Option FieldType}
    (hown : s.vm.findClass own = some m.cls) (hlink : (Cond.methodLink own index y).before args s = true) (hinst : (Cond.instanceMethod y).before args s = true) (hsel : (Cond.selects C y y).before args s = true)
    (hcode : (Cond.code y bytes maxL ret).before args s = true) (hy : y.cls ≠ "java/lang/invoke/MethodHandle" ∧ y.cls ≠ "java/lang/invoke/VarHandle")
    {W9 : Nat} {Pre : Pt → Array Value → Prop} {Post : Pt → Array Value → Option Value → Pt → Prop} {PostX : Pt → Array Value → Addr → Pt → Prop} (hK : vx_Back l R p e below s args y 3 W9 Pre Post PostX)
    {b : Addr} {cellB : Cell} (hcell : T.heap[b]? = some cellB) (hobj : cellB.vm.isStatics = false) (hcls : s.vm.findClass C = some cellB.cls)
    {g : JFrame} (hg : g.method = m) (hsize : g.locals.size = c.maxLocals) {argsL rest : List Value} (hlen : ∀ sig, parseMethodDescriptor y.desc = some sig → argsL.length = sig.parameters.length)
    (hstack : g.stack = argsL.reverse ++ .ref b :: rest) (hW : 2 * g.monitorRoom + (rest.map fun v => v.category).sum ≤ W9) (hdg : decode c.code g.pc = .ok (.invokevirtual index, 3))
    (hpre : ∀ vm₁, s.WarmedH vm₁ → Pre ⟨T.setVm vm₁, locs, cells, slots⟩ (Value.ref b :: argsL).toArray) :
    (∃ (v : Option Value) (vm₁ : Vm) (B : Pt), s.WarmedH vm₁ ∧ Stand p l e R s m args below meth c B.U B.locs B.cells B.slots ∧ Post ⟨T.setVm vm₁, locs, cells, slots⟩ (Value.ref b :: argsL).toArray v B ∧
      ∀ target, Steps p.tables e below (B.U.setTop { g with pc := g.pc + 3, stack := v.toList ++ rest }) target → Steps p.tables e below (T.setTop g) target) ∨
    (∃ (q : Addr) (vm₁ : Vm) (B : Pt), s.WarmedH vm₁ ∧ Stand p l e R s m args below meth c B.U B.locs B.cells B.slots ∧ PostX ⟨T.setVm vm₁, locs, cells, slots⟩ (Value.ref b :: argsL).toArray q B ∧
      Steps p.tables e below (T.setTop g) ((B.U.setTop { g with stack := rest }).pushFrame (.throwing q))) := by
  obtain ⟨mk, methM, hnamed, hmethM, hstM, habM⟩ := Cond.instanceMethod_spec hinst
  obtain ⟨methM', cM, hmethM', -, -, -, -, -, -, hsigM⟩ := Cond.code_spec hnamed hcode
  cases hmethM.symm.trans hmethM'
  obtain ⟨c2, r2, m2, q1, q2, q3, q4, kP, hkP, hkPi⟩ := Cond.selects_spec hsel
  cases hcls.symm.trans q1
  cases (State.methodFound?_of_named hnamed hy).symm.trans q2
  cases hnamed.symm.trans q3
  have hselP : selectMethod e.platform s.vm cellB.cls mk = .method mk := by rw [Launch.admits_selectMethod X.admits]; exact q4
  obtain ⟨vm₁, X₁, hstep₁⟩ := X.invokevirtual hexec hown hlink hnamed hmethM hstM hkP hkPi hy (a := b) (cell := cellB) hcell
    (fun z h => by rw [h] at hobj; cases hobj) hselP hmethM habM hkP hkPi (g := g) hg (argsL := argsL) (rest := rest) (hlen _ hsigM) hstack hdg
  rcases hK m meth c ⟨T.setVm vm₁, locs, cells, slots⟩ { g with stack := rest } (.invokevirtual index) mk (Value.ref b :: argsL).toArray X₁ hg hsize hdg hW (X₁.named hnamed) (hpre vm₁ X₁.warmed) with ⟨v, B, X', hpost, hsteps⟩ | ⟨q, B, X', hpost, hsteps⟩
  · exact Or.inl ⟨v, vm₁, B, X₁.warmed, X', hpost, fun target h => hstep₁ _ fun acts => by rw [doInvoke_state]; exact hsteps.trans h⟩
  · exact Or.inr ⟨q, vm₁, B, X₁.warmed, X', hpost, hstep₁ _ fun acts => by rw [doInvoke_state]; exact hsteps⟩
theorem vx_callS (X : Stand p l e R s m args below meth c T locs cells slots) (hexec : p.tables.exec = Jvm.exec) {own : String} {index : Nat} {y : MethodName} {bytes : ByteArray} {maxL : Nat} {ret : Option FieldType}
    (hown : s.vm.findClass own = some m.cls) (hlink : (Cond.methodLink own index y).before args s = true) (hstat : (Cond.static y).before args s = true) (hinit : (Cond.initialized y.cls).before args s = true)
    (hcode : (Cond.code y bytes maxL ret).before args s = true) (hy : y.cls ≠ "java/lang/invoke/MethodHandle" ∧ y.cls ≠ "java/lang/invoke/VarHandle")
    {W9 : Nat} {Pre : Pt → Array Value → Prop} {Post : Pt → Array Value → Option Value → Pt → Prop} {PostX : Pt → Array Value → Addr → Pt → Prop} (hK : vx_Back l R p e below s args y 3 W9 Pre Post PostX)
    {g : JFrame} (hg : g.method = m) (hsize : g.locals.size = c.maxLocals) {argsL rest : List Value} (hlen : ∀ sig, parseMethodDescriptor y.desc = some sig → argsL.length = sig.parameters.length)
    (hstack : g.stack = argsL.reverse ++ rest) (hW : 2 * g.monitorRoom + (rest.map fun v => v.category).sum ≤ W9) (hdg : decode c.code g.pc = .ok (.invokestatic index, 3))
    (hpre : ∀ vm₁, s.WarmedH vm₁ → Pre ⟨T.setVm vm₁, locs, cells, slots⟩ argsL.toArray) :
    (∃ (v : Option Value) (vm₁ : Vm) (B : Pt), s.WarmedH vm₁ ∧ Stand p l e R s m args below meth c B.U B.locs B.cells B.slots ∧ Post ⟨T.setVm vm₁, locs, cells, slots⟩ argsL.toArray v B ∧
      ∀ target, Steps p.tables e below (B.U.setTop { g with pc := g.pc + 3, stack := v.toList ++ rest }) target → Steps p.tables e below (T.setTop g) target) ∨
    (∃ (q : Addr) (vm₁ : Vm) (B : Pt), s.WarmedH vm₁ ∧ Stand p l e R s m args below meth c B.U B.locs B.cells B.slots ∧ PostX ⟨T.setVm vm₁, locs, cells, slots⟩ argsL.toArray q B ∧
      Steps p.tables e below (T.setTop g) ((B.U.setTop { g with stack := rest }).pushFrame (.throwing q))) := by
  obtain ⟨mk, hnamed⟩ := Cond.code_named hcode
  obtain ⟨methM, cM, hmethM, -, -, -, -, -, -, hsigM⟩ := Cond.code_spec hnamed hcode
  have hstatic : methM.isStatic = true := Cond.static_spec hnamed hmethM hstat
  obtain ⟨kP, hkP, -⟩ := className_of_methodNamed hnamed
  have hinitP : kP.init = .initialized := Cond.initialized_spec (findClass_of_methodNamed hnamed) hkP hinit
  obtain ⟨vm₁, X₁, hstep₁⟩ := X.invokestatic hexec hown hlink hnamed hmethM hstatic hkP hinitP hy (g := g) hg (argsL := argsL) (rest := rest) (hlen _ hsigM) hstack hdg
  rcases hK m meth c ⟨T.setVm vm₁, locs, cells, slots⟩ { g with stack := rest } (.invokestatic index) mk argsL.toArray X₁ hg hsize hdg hW (X₁.named hnamed) (hpre vm₁ X₁.warmed) with ⟨v, B, X', hpost, hsteps⟩ | ⟨q, B, X', hpost, hsteps⟩
  · exact Or.inl ⟨v, vm₁, B, X₁.warmed, X', hpost, fun target h => hstep₁ _ fun acts => by rw [doInvoke_state]; exact hsteps.trans h⟩
  · exact Or.inr ⟨q, vm₁, B, X₁.warmed, X', hpost, hstep₁ _ fun acts => by rw [doInvoke_state]; exact hsteps⟩
end Calls
theorem vx_cls {s : State} {T : State} {vm₁ : Vm} {E : String} {k : ClassId} (hW : s.WarmedH vm₁) (h : (T.setVm vm₁).vm.findClass E = some k) : s.vm.findClass E = some k := by
  have h1 : vm₁.findClass E = some k := h
  rw [hW.alike.findClass] at h1
  exact h1
/-- the method's frame g, with q thrown over it -/
def vx_W (p : Program) (l : Launch) (e : Env) (R : Room) (s : State) (m : MethodId) (args : Array Value) (below : List Frame) (meth : Method) (c : Code) (H : Heap) (locs : List Loc) (cells slots : Nat) (Q : State → Prop) (g : JFrame) (q : Addr) : Prop :=
  ∀ T : State, T.heap = H → Stand p l e R s m args below meth c T locs cells slots → ∃ t, Steps p.tables e below ((T.setTop g).pushFrame (.throwing q)) t ∧ Q t
def vx_Run (p : Program) (l : Launch) (e : Env) (R : Room) (s : State) (m : MethodId) (args : Array Value) (below : List Frame) (meth : Method) (c : Code) (H : Heap) (locs : List Loc) (cells slots mc ms : Nat) (g : JFrame) (rest : List Value) (Qa : State → Outcome → State → Prop) (XC : String → State → State → Prop) (free : Addr → Prop) : Prop :=
  ∀ T : State, T.heap = H → Stand p l e R s m args below meth c T locs cells slots →
    (∃ (v : Option Value) (st₀ t T' : State) (L : List Loc), st₀.heap = H ∧ Stand p l e R s m args below meth c T' (locs ++ L) (cells + mc) (slots + ms) ∧ (∀ q ∈ L, free q.base) ∧ T'.heap = t.heap ∧ T'.vm = t.vm ∧ Qa st₀ (.returned v) t ∧
      Goes p e below T g T' { g with pc := g.pc + 3, stack := v.toList ++ rest }) ∨
    (∃ (q : Addr) (st₀ t T' : State) (L : List Loc) (E : String) (ce : Cell), st₀.heap = H ∧ Stand p l e R s m args below meth c T' (locs ++ L) (cells + mc) (slots + ms) ∧ (∀ z ∈ L, free z.base) ∧ T'.heap = t.heap ∧ T'.vm = t.vm ∧ XC E st₀ t ∧ t.heap[q]? = some ce ∧ ce.vm = .none ∧ s.vm.findClass E = some ce.cls ∧
      Steps p.tables e below (T.setTop g) ((T'.setTop { g with stack := rest }).pushFrame (.throwing q)))
def vx_X {S : Type} (px : S → Prop) (B : String → S → State → Prop) (A : Nat → Prop) : String → State → State → Prop := fun E st t => ∃ u : S, px u ∧ B E u t ∧ va_F A st t
section Runs
variable {p : Program} {l : Launch} {e : Env} {R : Room} {s : State} {m : MethodId} {args : Array Value} {below : List Frame} {meth : Method} {c : Code} {H : Heap} {locs : List Loc} {cells slots : Nat}
variable {y : MethodName} {bytes cc : ByteArray} {maxL nL mc ms n index : Nat} {ret : Option FieldType} {ws : List Cond} {rm : Room} {Pc : Array Value → State → Prop} {Qc : Array Value → State → Outcome → State → Prop} {XC : String → State → State → Prop} {free : Addr → Prop} {Ts : List Cond} {own C : String} {b : Addr} {As rest : List Value} {g : JFrame}
theorem vx_callBack (cb : CallB R s args own index y bytes maxL ret ws rm mc ms n) (hM : vx_Met l y ws rm Pc Qc XC mc ms free) (hbl : FrameBlind Pc) : vx_Back l R p e below s args y 3 8 (PreOf R mc ms Pc) (PostOf Qc mc ms free) (vx_Post XC mc ms free) := by
  obtain ⟨hrc, hrs, hfr, hlo, hws, hcw, -, hini, -⟩ := cb
  exact vx_back (bytes := bytes) (maxL := maxL) (ret := ret) hM hbl hrc hrs hfr hlo hws hcw (fun a' U hW => word_at hW (Or.inl (by first | rfl | simp [Cond.onTables, Cond.keeps, Cond.steady])) hini)
theorem vx_runV (S : CallFix p m c cc nL s args Ts own) (hM : vx_Met l y ws rm Pc Qc XC mc ms free) (cw : CallW R s args own C index y bytes maxL ret ws rm mc ms n) (hp : PreV s H C b Pc As)
    (hg : g.method = m) (hn : As.length = n) (hsize : g.locals.size = nL) (hstack : g.stack = As.reverse ++ .ref b :: rest) (hW : 2 * g.monitorRoom + (rest.map fun v => v.category).sum ≤ 8) (hdg : decode cc g.pc = .ok (.invokevirtual index, 3)) (hf : cells + mc ≤ R.cells ∧ slots + ms ≤ R.slots) :
    vx_Run p l e R s m args below meth c H locs cells slots mc ms g rest (Qc (Value.ref b :: As).toArray) XC free := by
  have hK : vx_Back l R p e below s args y 3 8 (PreOf R mc ms Pc) (PostOf Qc mc ms free) (vx_Post XC mc ms free) := vx_callBack cw.1 hM hp.1
  obtain ⟨⟨-, -, -, -, -, -, hcode, -, hy, hlen, hl⟩, hin, hse⟩ := cw
  obtain ⟨hx, hb, hml, ho, -⟩ := S
  obtain ⟨-, ⟨cellB, hcB, hoB, hclB⟩, hPc⟩ := hp
  intro T hT X
  rcases vx_callV X hx (C := C) (bytes := bytes) (maxL := maxL) (ret := ret) ho hl hin hse hcode hy hK (by rw [hT]; exact hcB) hoB hclB hg (hsize.trans hml.symm) (argsL := As) (rest := rest) (fun sig h => hn.trans (hlen sig h)) hstack hW (by rw [hb]; exact hdg)
    (fun vm₁ hW₁ => ⟨hf.1, hf.2, hPc (T.setVm vm₁) hT hW₁⟩) with ⟨v, vm₁, ⟨U', l2, c2, s2⟩, hW₁, X', ⟨g', mk, t, L, e1, e2, hq, h1, hL, h2, h3⟩, st⟩ | ⟨q, vm₁, ⟨U', l2, c2, s2⟩, hW₁, X', ⟨g', mk, t, L, E, ce, e1, e2, hq, hce, hcv, hcl, h1, hL, h2, h3⟩, st⟩
  · dsimp only [Pt.U, Pt.locs, Pt.cells, Pt.slots] at X' e1 e2 h1 h2 h3 st
    subst h1; subst h2; subst h3
    exact Or.inl ⟨v, (T.setVm vm₁).calling g' mk (Value.ref b :: As).toArray, t, U', L, hT, X', hL, e1, e2, hq, st⟩
  · dsimp only [Pt.U, Pt.locs, Pt.cells, Pt.slots] at X' e1 e2 h1 h2 h3 st hcl
    subst h1; subst h2; subst h3
    exact Or.inr ⟨q, (T.setVm vm₁).calling g' mk (Value.ref b :: As).toArray, t, U', L, E, ce, hT, X', hL, e1, e2, hq, hce, hcv, vx_cls hW₁ hcl, st⟩
theorem vx_runS (S : CallFix p m c cc nL s args Ts own) (hM : vx_Met l y ws rm Pc Qc XC mc ms free) (cw : CallB R s args own index y bytes maxL ret ws rm mc ms n ∧ (Cond.static y).before args s = true) (hp : PreS s H Pc As)
    (hg : g.method = m) (hn : As.length = n) (hsize : g.locals.size = nL) (hstack : g.stack = As.reverse ++ rest) (hW : 2 * g.monitorRoom + (rest.map fun v => v.category).sum ≤ 8) (hdg : decode cc g.pc = .ok (.invokestatic index, 3)) (hf : cells + mc ≤ R.cells ∧ slots + ms ≤ R.slots) :
    vx_Run p l e R s m args below meth c H locs cells slots mc ms g rest (Qc As.toArray) XC free := by
  have hK : vx_Back l R p e below s args y 3 8 (PreOf R mc ms Pc) (PostOf Qc mc ms free) (vx_Post XC mc ms free) := vx_callBack cw.1 hM hp.1
  obtain ⟨⟨-, -, -, -, -, -, hcode, hini, hy, hlen, hl⟩, hstt⟩ := cw
  obtain ⟨hx, hb, hml, ho, -⟩ := S
  intro T hT X
  rcases vx_callS X hx (bytes := bytes) (maxL := maxL) (ret := ret) ho hl hstt hini hcode hy hK hg (hsize.trans hml.symm) (argsL := As) (rest := rest) (fun sig h => hn.trans (hlen sig h)) hstack hW (by rw [hb]; exact hdg)
    (fun vm₁ hW₁ => ⟨hf.1, hf.2, hp.2 (T.setVm vm₁) hT hW₁⟩) with ⟨v, vm₁, ⟨U', l2, c2, s2⟩, hW₁, X', ⟨g', mk, t, L, e1, e2, hq, h1, hL, h2, h3⟩, st⟩ | ⟨q, vm₁, ⟨U', l2, c2, s2⟩, hW₁, X', ⟨g', mk, t, L, E, ce, e1, e2, hq, hce, hcv, hcl, h1, hL, h2, h3⟩, st⟩
  · dsimp only [Pt.U, Pt.locs, Pt.cells, Pt.slots] at X' e1 e2 h1 h2 h3 st
    subst h1; subst h2; subst h3
    exact Or.inl ⟨v, (T.setVm vm₁).calling g' mk As.toArray, t, U', L, hT, X', hL, e1, e2, hq, st⟩
  · dsimp only [Pt.U, Pt.locs, Pt.cells, Pt.slots] at X' e1 e2 h1 h2 h3 st hcl
    subst h1; subst h2; subst h3
    exact Or.inr ⟨q, (T.setVm vm₁).calling g' mk As.toArray, t, U', L, E, ce, hT, X', hL, e1, e2, hq, hce, hcv, vx_cls hW₁ hcl, st⟩
end Runs
section Rows
variable {p : Program} {l : Launch} {e : Env} {R : Room} {s : State} {m : MethodId} {args : Array Value} {below : List Frame} {meth : Method} {c : Code} {H : Heap} {locs : List Loc} {cells slots : Nat} {Q : State → Prop}
variable {mc ms : Nat} {free : Addr → Prop} {A0 A1 : Nat → Prop} {H0 : Heap} {a : Array Value} {pc : Nat} {ls : Array Slot} {st0 rest : List Value}
theorem vx_keep {st₀ t T' : State} {L : List Loc} (h0 : st₀.heap = H) (e1 : T'.heap = t.heap) (hS : va_S A0 H0 H locs) (hA : ∀ q, q < H.size → A1 q → A0 q) (hf : ∀ q, free q → A0 q) (hL : ∀ q ∈ L, free q.base) (hF : va_F A1 st₀ t) :
    H.size ≤ T'.heap.size ∧ (∀ q : Nat, q < H.size → ¬ A1 q → T'.heap[q]? = H[q]?) ∧ va_S A0 H0 T'.heap (locs ++ L) := by
  obtain ⟨hz, hk⟩ := hF
  rw [h0] at hz hk
  exact ⟨by rw [e1]; exact hz, fun q h1 h2 => by rw [e1]; exact hk q h1 h2,
    ⟨Nat.le_trans hS.1 (by rw [e1]; exact hz), fun q h1 h2 => by rw [e1, hk q (Nat.lt_of_lt_of_le h1 hS.1) (fun z => h2 (hA q (Nat.lt_of_lt_of_le h1 hS.1) z))]; exact hS.2.1 q h1 h2, fun q hq => by
      rcases List.mem_append.mp hq with h | h
      · exact hS.2.2 q h
      · exact hf _ (hL q h)⟩⟩
theorem vx_calli {S SX : Type} {post : Int32 → S → Prop} {px : SX → Prop} {B : S → State → Prop} {BX : String → SX → State → Prop} {AX : Nat → Prop} (hr : vx_Run p l e R s m args below meth c H locs cells slots mc ms (F0 m pc ls st0) rest (va_Qi post B A1 a) (vx_X px BX AX) free) (hS : va_S A0 H0 H locs) (hA : ∀ q, q < H.size → A1 q → A0 q) (hf : ∀ q, free q → A0 q) (hAX : ∀ q, q < H.size → AX q → A0 q)
    (kx : ∀ (E : String) (ce : Cell) (q9 : Addr) (u : SX) (t : State) (H1 : Heap) (locs1 : List Loc), t.heap = H1 → s.vm.Alike t.vm → px u → BX E u t → H.size ≤ H1.size → (∀ q : Nat, q < H.size → ¬ AX q → H1[q]? = H[q]?) → va_S A0 H0 H1 locs1 → H1[q9]? = some ce → ce.vm = .none → s.vm.findClass E = some ce.cls → vx_W p l e R s m args below meth c H1 locs1 (cells + mc) (slots + ms) Q (F0 m pc ls rest) q9)
    (kk : ∀ (r : Int32) (u : S) (t : State) (H1 : Heap) (locs1 : List Loc), t.heap = H1 → s.vm.Alike t.vm → post r u → B u t → H.size ≤ H1.size → (∀ q : Nat, q < H.size → ¬ A1 q → H1[q]? = H[q]?) → va_S A0 H0 H1 locs1 → W p l e R s m args below meth c H1 locs1 (cells + mc) (slots + ms) Q (F0 m (pc + 3) ls (.int r :: rest))) : W p l e R s m args below meth c H locs cells slots Q (F0 m pc ls st0) := by
  intro T hT X
  rcases hr T hT X with ⟨v, st₀, t, T', L, h0, X', hL, e1, e2, ⟨⟨r, u, hv, hp, hb⟩, hF⟩, st⟩ | ⟨q, st₀, t, T', L, E, ce, h0, X', hL, e1, e2, ⟨u, hp, hb, hF⟩, hce, hcv, hcl, st⟩
  · cases hv
    obtain ⟨k1, k2, k3⟩ := vx_keep h0 e1 hS hA hf hL hF
    obtain ⟨t2, a1, b1⟩ := kk r u t T'.heap (locs ++ L) e1.symm (by rw [← e2]; exact X'.warmed.alike) hp hb k1 k2 k3 T' rfl X'
    exact ⟨t2, st t2 a1, b1⟩
  · obtain ⟨k1, k2, k3⟩ := vx_keep h0 e1 hS hAX hf hL hF
    obtain ⟨t2, a1, b1⟩ := kx E ce q u t T'.heap (locs ++ L) e1.symm (by rw [← e2]; exact X'.warmed.alike) hp hb k1 k2 k3 (by rw [e1]; exact hce) hcv hcl T' rfl X'
    exact ⟨t2, st.trans a1, b1⟩
theorem vx_calll {S SX : Type} {post : Int64 → S → Prop} {px : SX → Prop} {B : S → State → Prop} {BX : String → SX → State → Prop} {AX : Nat → Prop} (hr : vx_Run p l e R s m args below meth c H locs cells slots mc ms (F0 m pc ls st0) rest (va_Ql post B A1 a) (vx_X px BX AX) free) (hS : va_S A0 H0 H locs) (hA : ∀ q, q < H.size → A1 q → A0 q) (hf : ∀ q, free q → A0 q) (hAX : ∀ q, q < H.size → AX q → A0 q)
    (kx : ∀ (E : String) (ce : Cell) (q9 : Addr) (u : SX) (t : State) (H1 : Heap) (locs1 : List Loc), t.heap = H1 → s.vm.Alike t.vm → px u → BX E u t → H.size ≤ H1.size → (∀ q : Nat, q < H.size → ¬ AX q → H1[q]? = H[q]?) → va_S A0 H0 H1 locs1 → H1[q9]? = some ce → ce.vm = .none → s.vm.findClass E = some ce.cls → vx_W p l e R s m args below meth c H1 locs1 (cells + mc) (slots + ms) Q (F0 m pc ls rest) q9)
    (kk : ∀ (r : Int64) (u : S) (t : State) (H1 : Heap) (locs1 : List Loc), t.heap = H1 → s.vm.Alike t.vm → post r u → B u t → H.size ≤ H1.size → (∀ q : Nat, q < H.size → ¬ A1 q → H1[q]? = H[q]?) → va_S A0 H0 H1 locs1 → W p l e R s m args below meth c H1 locs1 (cells + mc) (slots + ms) Q (F0 m (pc + 3) ls (.long r :: rest))) : W p l e R s m args below meth c H locs cells slots Q (F0 m pc ls st0) := by
  intro T hT X
  rcases hr T hT X with ⟨v, st₀, t, T', L, h0, X', hL, e1, e2, ⟨⟨r, u, hv, hp, hb⟩, hF⟩, st⟩ | ⟨q, st₀, t, T', L, E, ce, h0, X', hL, e1, e2, ⟨u, hp, hb, hF⟩, hce, hcv, hcl, st⟩
  · cases hv
    obtain ⟨k1, k2, k3⟩ := vx_keep h0 e1 hS hA hf hL hF
    obtain ⟨t2, a1, b1⟩ := kk r u t T'.heap (locs ++ L) e1.symm (by rw [← e2]; exact X'.warmed.alike) hp hb k1 k2 k3 T' rfl X'
    exact ⟨t2, st t2 a1, b1⟩
  · obtain ⟨k1, k2, k3⟩ := vx_keep h0 e1 hS hAX hf hL hF
    obtain ⟨t2, a1, b1⟩ := kx E ce q u t T'.heap (locs ++ L) e1.symm (by rw [← e2]; exact X'.warmed.alike) hp hb k1 k2 k3 (by rw [e1]; exact hce) hcv hcl T' rfl X'
    exact ⟨t2, st.trans a1, b1⟩
theorem vx_callf {S SX : Type} {post : UInt32 → S → Prop} {px : SX → Prop} {B : S → State → Prop} {BX : String → SX → State → Prop} {AX : Nat → Prop} (hr : vx_Run p l e R s m args below meth c H locs cells slots mc ms (F0 m pc ls st0) rest (va_Qf post B A1 a) (vx_X px BX AX) free) (hS : va_S A0 H0 H locs) (hA : ∀ q, q < H.size → A1 q → A0 q) (hf : ∀ q, free q → A0 q) (hAX : ∀ q, q < H.size → AX q → A0 q)
    (kx : ∀ (E : String) (ce : Cell) (q9 : Addr) (u : SX) (t : State) (H1 : Heap) (locs1 : List Loc), t.heap = H1 → s.vm.Alike t.vm → px u → BX E u t → H.size ≤ H1.size → (∀ q : Nat, q < H.size → ¬ AX q → H1[q]? = H[q]?) → va_S A0 H0 H1 locs1 → H1[q9]? = some ce → ce.vm = .none → s.vm.findClass E = some ce.cls → vx_W p l e R s m args below meth c H1 locs1 (cells + mc) (slots + ms) Q (F0 m pc ls rest) q9)
    (kk : ∀ (r : UInt32) (u : S) (t : State) (H1 : Heap) (locs1 : List Loc), t.heap = H1 → s.vm.Alike t.vm → post r u → B u t → H.size ≤ H1.size → (∀ q : Nat, q < H.size → ¬ A1 q → H1[q]? = H[q]?) → va_S A0 H0 H1 locs1 → W p l e R s m args below meth c H1 locs1 (cells + mc) (slots + ms) Q (F0 m (pc + 3) ls (.float r :: rest))) : W p l e R s m args below meth c H locs cells slots Q (F0 m pc ls st0) := by
  intro T hT X
  rcases hr T hT X with ⟨v, st₀, t, T', L, h0, X', hL, e1, e2, ⟨⟨r, u, hv, hp, hb⟩, hF⟩, st⟩ | ⟨q, st₀, t, T', L, E, ce, h0, X', hL, e1, e2, ⟨u, hp, hb, hF⟩, hce, hcv, hcl, st⟩
  · cases hv
    obtain ⟨k1, k2, k3⟩ := vx_keep h0 e1 hS hA hf hL hF
    obtain ⟨t2, a1, b1⟩ := kk r u t T'.heap (locs ++ L) e1.symm (by rw [← e2]; exact X'.warmed.alike) hp hb k1 k2 k3 T' rfl X'
    exact ⟨t2, st t2 a1, b1⟩
  · obtain ⟨k1, k2, k3⟩ := vx_keep h0 e1 hS hAX hf hL hF
    obtain ⟨t2, a1, b1⟩ := kx E ce q u t T'.heap (locs ++ L) e1.symm (by rw [← e2]; exact X'.warmed.alike) hp hb k1 k2 k3 (by rw [e1]; exact hce) hcv hcl T' rfl X'
    exact ⟨t2, st.trans a1, b1⟩
theorem vx_calld {S SX : Type} {post : UInt64 → S → Prop} {px : SX → Prop} {B : S → State → Prop} {BX : String → SX → State → Prop} {AX : Nat → Prop} (hr : vx_Run p l e R s m args below meth c H locs cells slots mc ms (F0 m pc ls st0) rest (va_Qd post B A1 a) (vx_X px BX AX) free) (hS : va_S A0 H0 H locs) (hA : ∀ q, q < H.size → A1 q → A0 q) (hf : ∀ q, free q → A0 q) (hAX : ∀ q, q < H.size → AX q → A0 q)
    (kx : ∀ (E : String) (ce : Cell) (q9 : Addr) (u : SX) (t : State) (H1 : Heap) (locs1 : List Loc), t.heap = H1 → s.vm.Alike t.vm → px u → BX E u t → H.size ≤ H1.size → (∀ q : Nat, q < H.size → ¬ AX q → H1[q]? = H[q]?) → va_S A0 H0 H1 locs1 → H1[q9]? = some ce → ce.vm = .none → s.vm.findClass E = some ce.cls → vx_W p l e R s m args below meth c H1 locs1 (cells + mc) (slots + ms) Q (F0 m pc ls rest) q9)
    (kk : ∀ (r : UInt64) (u : S) (t : State) (H1 : Heap) (locs1 : List Loc), t.heap = H1 → s.vm.Alike t.vm → post r u → B u t → H.size ≤ H1.size → (∀ q : Nat, q < H.size → ¬ A1 q → H1[q]? = H[q]?) → va_S A0 H0 H1 locs1 → W p l e R s m args below meth c H1 locs1 (cells + mc) (slots + ms) Q (F0 m (pc + 3) ls (.double r :: rest))) : W p l e R s m args below meth c H locs cells slots Q (F0 m pc ls st0) := by
  intro T hT X
  rcases hr T hT X with ⟨v, st₀, t, T', L, h0, X', hL, e1, e2, ⟨⟨r, u, hv, hp, hb⟩, hF⟩, st⟩ | ⟨q, st₀, t, T', L, E, ce, h0, X', hL, e1, e2, ⟨u, hp, hb, hF⟩, hce, hcv, hcl, st⟩
  · cases hv
    obtain ⟨k1, k2, k3⟩ := vx_keep h0 e1 hS hA hf hL hF
    obtain ⟨t2, a1, b1⟩ := kk r u t T'.heap (locs ++ L) e1.symm (by rw [← e2]; exact X'.warmed.alike) hp hb k1 k2 k3 T' rfl X'
    exact ⟨t2, st t2 a1, b1⟩
  · obtain ⟨k1, k2, k3⟩ := vx_keep h0 e1 hS hAX hf hL hF
    obtain ⟨t2, a1, b1⟩ := kx E ce q u t T'.heap (locs ++ L) e1.symm (by rw [← e2]; exact X'.warmed.alike) hp hb k1 k2 k3 (by rw [e1]; exact hce) hcv hcl T' rfl X'
    exact ⟨t2, st.trans a1, b1⟩
theorem vx_callv {S SX : Type} {post : S → Prop} {px : SX → Prop} {B : S → State → Prop} {BX : String → SX → State → Prop} {AX : Nat → Prop} (hr : vx_Run p l e R s m args below meth c H locs cells slots mc ms (F0 m pc ls st0) rest (va_Qv post B A1 a) (vx_X px BX AX) free) (hS : va_S A0 H0 H locs) (hA : ∀ q, q < H.size → A1 q → A0 q) (hf : ∀ q, free q → A0 q) (hAX : ∀ q, q < H.size → AX q → A0 q)
    (kx : ∀ (E : String) (ce : Cell) (q9 : Addr) (u : SX) (t : State) (H1 : Heap) (locs1 : List Loc), t.heap = H1 → s.vm.Alike t.vm → px u → BX E u t → H.size ≤ H1.size → (∀ q : Nat, q < H.size → ¬ AX q → H1[q]? = H[q]?) → va_S A0 H0 H1 locs1 → H1[q9]? = some ce → ce.vm = .none → s.vm.findClass E = some ce.cls → vx_W p l e R s m args below meth c H1 locs1 (cells + mc) (slots + ms) Q (F0 m pc ls rest) q9)
    (kk : ∀ (u : S) (t : State) (H1 : Heap) (locs1 : List Loc), t.heap = H1 → s.vm.Alike t.vm → post u → B u t → H.size ≤ H1.size → (∀ q : Nat, q < H.size → ¬ A1 q → H1[q]? = H[q]?) → va_S A0 H0 H1 locs1 → W p l e R s m args below meth c H1 locs1 (cells + mc) (slots + ms) Q (F0 m (pc + 3) ls (rest))) : W p l e R s m args below meth c H locs cells slots Q (F0 m pc ls st0) := by
  intro T hT X
  rcases hr T hT X with ⟨v, st₀, t, T', L, h0, X', hL, e1, e2, ⟨⟨u, hv, hp, hb⟩, hF⟩, st⟩ | ⟨q, st₀, t, T', L, E, ce, h0, X', hL, e1, e2, ⟨u, hp, hb, hF⟩, hce, hcv, hcl, st⟩
  · cases hv
    obtain ⟨k1, k2, k3⟩ := vx_keep h0 e1 hS hA hf hL hF
    obtain ⟨t2, a1, b1⟩ := kk u t T'.heap (locs ++ L) e1.symm (by rw [← e2]; exact X'.warmed.alike) hp hb k1 k2 k3 T' rfl X'
    exact ⟨t2, st t2 a1, b1⟩
  · obtain ⟨k1, k2, k3⟩ := vx_keep h0 e1 hS hAX hf hL hF
    obtain ⟨t2, a1, b1⟩ := kx E ce q u t T'.heap (locs ++ L) e1.symm (by rw [← e2]; exact X'.warmed.alike) hp hb k1 k2 k3 (by rw [e1]; exact hce) hcv hcl T' rfl X'
    exact ⟨t2, st.trans a1, b1⟩
/-- caught by the row x of this method's table; the rows ahead don't take it -/
theorem vx_catch {own name : String} {E : String} {ce : Cell} {q : Addr} (hown : s.vm.findClass own = some m.cls) (pre : List ExceptionTableEntry) (x : ExceptionTableEntry) (suf : List ExceptionTableEntry) (hsplit : c.exceptionTable.toList = pre ++ x :: suf)
    (hpass : ∀ z ∈ pre, covers z pc = false ∨ (z.catchType ≠ 0 ∧ ∃ nm : String, (Cond.classLink own z.catchType nm).before args s = true ∧ va_Nc E nm s)) (hx : covers x pc = true) (h0 : x.catchType ≠ 0)
    (hlink : (Cond.classLink own x.catchType name).before args s = true) (hcast : (Cond.castable E name).before args s = true) (hcell : H[q]? = some ce) (hv : ce.vm = .none) (hcl : s.vm.findClass E = some ce.cls)
    (kk : W p l e R s m args below meth c H locs cells slots Q (F0 m x.handlerPc ls [.ref q])) : vx_W p l e R s m args below meth c H locs cells slots Q (F0 m pc ls rest) q := by
  intro T hT X
  have hpl : e.platform.magicAccessors = ({} : Platform).magicAccessors := by rw [X.admits.platform]
  obtain ⟨c3, c4, hc3, hc4, hasg⟩ := Cond.castable_spec hcast
  cases Option.some.inj (hc3.symm.trans hcl)
  obtain ⟨c5, hc5, hcl5⟩ := Cond.classLink_spec hown hlink e.platform hpl
  cases Option.some.inj (hc4.symm.trans hc5)
  obtain ⟨vm', X', st⟩ := X.thenCaughtThrough q (g := F0 m pc ls rest) rfl (Steps.refl _) (by rw [hT]; exact hcell) (by rw [hv]; rfl) (by obtain ⟨k9, h9, -⟩ := Vm.findClass_spec hcl; exact ⟨k9, h9⟩) pre x suf hsplit
    (fun z hz => by
      rcases hpass z hz with h | ⟨hz0, nm, hl1, hn1⟩
      · exact Or.inl h
      · obtain ⟨c6, hc6, hcl6⟩ := Cond.classLink_spec hown hl1 e.platform hpl
        obtain ⟨a8, b8, h1, h2, h3⟩ := hn1
        cases Option.some.inj (h1.symm.trans hcl)
        cases Option.some.inj (h2.symm.trans hc6)
        exact Or.inr ⟨hz0, _, hcl6, h3⟩) hx (Or.inr ⟨h0, c4, hcl5, hasg⟩)
  obtain ⟨t, a1, b1⟩ := kk (T.setVm vm') hT X'
  exact ⟨t, st.trans a1, b1⟩
end Rows
section Ends
variable {p : Program} {l : Launch} {e : Env} {R : Room} {s : State} {m : MethodId} {args : Array Value} {below : List Frame} {meth : Method} {c : Code} {H : Heap} {locs : List Loc} {cells slots : Nat} {Q : State → Prop}
variable {mc ms : Nat} {free : Addr → Prop} {A0 A1 : Nat → Prop} {H0 : Heap} {a : Array Value} {ls : Array Slot} {st0 rest : List Value}
variable {Qc : Array Value → State → Outcome → State → Prop} {XC : String → State → State → Prop}
/-- what a body that may throw owes at its end -/
def vx_MQ (below : List Frame) (Qc : Array Value → State → Outcome → State → Prop) (XC : String → State → State → Prop) (a : Array Value) (s : State) (mc ms : Nat) (free : Addr → Prop) : State → Prop := fun t =>
  ∃ o, t.status = .running ∧ Ended t below o ∧ vx_Q Qc XC mc ms free a s o t
theorem vx_ret {g : JFrame} {mc ms : Nat} (k : W p l e R s m args below meth c H locs cells slots (MQ below Qc args s mc ms free) g) : W p l e R s m args below meth c H locs cells slots (vx_MQ below Qc XC args s mc ms free) g := by
  intro T hT X
  obtain ⟨t, a1, o, b1, b2, b3, b4⟩ := k T hT X
  exact ⟨t, a1, o, b1, b2, Or.inl ⟨b3, b4⟩⟩
/-- not caught here: it goes on to the caller -/
theorem vx_widen {g : JFrame} {q : Addr} {k n : Nat} (h1 : cells ≤ k) (h2 : slots ≤ n) (kk : vx_W p l e R s m args below meth c H locs k n Q g q) : vx_W p l e R s m args below meth c H locs cells slots Q g q := fun T hT X => kk T hT (stand_widen X h1 h2)
theorem vx_out {pc : Nat} {E : String} {ce : Cell} {q : Addr} {mc ms : Nat} (hout : ∀ x ∈ c.exceptionTable.toList, covers x pc = false) (hlocks : meth.locks = false) (hcell : H[q]? = some ce) (hv : ce.vm = .none) (hcl : s.vm.findClass E = some ce.cls)
    (hx : ∀ t : State, t.heap = H → s.vm.Alike t.vm → XC E s t) (hf : ∀ z ∈ locs, free z.base) (hc : cells ≤ mc) (hs : slots ≤ ms) :
    vx_W p l e R s m args below meth c H locs cells slots (vx_MQ below Qc XC args s mc ms free) (F0 m pc ls rest) q := by
  intro T hT X
  obtain ⟨st1, hrun, hend, hW, hsm⟩ := X.leaveThrown q (g := F0 m pc ls rest) rfl rfl rfl hout hlocks
  have hcell9 : (T.setFrames (.throwing q :: below)).heap[q]? = some ce := by
    show T.heap[q]? = some ce
    rw [hT]; exact hcell
  exact ⟨_, st1, .threw q, hrun, hend, Or.inr ⟨q, rfl, E, ce, locs, hx _ hT hW.alike, hcell9, hv, hcl, hW, hsm.mono hc hs, hf⟩⟩
theorem vx_frame {U : State} {k n : Nat} (h : s.sameButNew ({ U with vm := s.vm } : State) locs k n) : s.heap.size ≤ U.heap.size ∧ ∀ q : Nat, q < s.heap.size → (∀ z ∈ locs, z.base ≠ q) → U.heap[q]? = s.heap[q]? := by
  obtain ⟨-, h2, -, -, -, h6⟩ := h
  refine ⟨h2, fun q hq hz => ?_⟩
  obtain ⟨c9, e1, e2, e3, e4⟩ := h6 q _ (Array.getElem?_eq_getElem hq)
  have hs : c9.slots = (s.heap[q]).slots := Array.ext_getElem? fun i => e4 i fun hm => hz _ hm rfl
  have h9 : c9 = s.heap[q] := by
    rw [hs] at e2
    exact e2
  have e5 : U.heap[q]? = some c9 := e1
  rw [e5, h9, Array.getElem?_eq_getElem hq]
/-- the words of a throw but the four that speak of the heap -/
def vx_no (w : Cond) : Bool := decide (w ≠ .isRef (.static Bundle.tN "UNASSIGNED_STACK" Bundle.steD)) && decide (w ≠ .isRef (.static Bundle.tN "SUPPRESSED_SENTINEL" Bundle.listD)) && decide (w ≠ .laysStatic Bundle.tN "UNASSIGNED_STACK" Bundle.steD) && decide (w ≠ .laysStatic Bundle.tN "SUPPRESSED_SENTINEL" Bundle.listD)
def vx_at0 (own : String) (ic : Nat) (X : String) (names : List String) : List Cond := (Bundle.ownAtoms0 own ic X names).filter vx_no
def vx_atS (own : String) (ic : Nat) (X : String) (names : List String) : List Cond := (Bundle.ownAtoms own ic X names).filter vx_no
/-- a word that the tables alone decide, or a good one -/
def vx_ot (w : Cond) : Bool := w.onTables || goodWord w
theorem vx_ot_at {args a' : Array Value} {s U : State} {w : Cond} (hW : s.WarmedH U.vm) (hvm : s.vm = U.vm) (hg : vx_ot w = true) (h : w.before args s = true) : w.before a' U = true := by
  simp only [vx_ot, Bool.or_eq_true] at hg
  rcases hg with hg | hg
  · exact va_tabs hg hvm h
  · exact word_at hW (good_of_word hg) h
/-- a list's words: the good ones out of the method's own list, the others by premises of their own -/
theorem vx_hat {args : Array Value} {s : State} {L B : List Cond} (h1 : ∀ w ∈ L.filter goodWord, w.before args s = true) (h2 : ∀ w ∈ L.filter (fun w => !goodWord w), w ∈ B) (h3 : ∀ w ∈ B, w.before args s = true) : ∀ w ∈ L, w.before args s = true := by
  intro w hw
  by_cases g : goodWord w = true
  · exact h1 w (List.mem_filter.mpr ⟨hw, g⟩)
  · refine h3 w (h2 w (List.mem_filter.mpr ⟨hw, ?_⟩))
    show (!goodWord w) = true
    cases hgw : goodWord w
    · rfl
    · exact absurd hgw g
theorem vx_c {args : Array Value} {s : State} {w : Cond} {B : List Cond} (h : w.before args s = true) (t : ∀ w ∈ B, w.before args s = true) : ∀ w' ∈ w :: B, w'.before args s = true := fun w' h' => (List.mem_cons.mp h').elim (fun e => by rw [e]; exact h) (t w')
theorem vx_n {args : Array Value} {s : State} : ∀ w ∈ ([] : List Cond), w.before args s = true := fun _ h => nomatch h
theorem vx_own {args : Array Value} {s : State} {L : List Cond} (h1 : ∀ w ∈ L.filter vx_no, w.before args s = true)
    (hU : (Cond.isRef (.static Bundle.tN "UNASSIGNED_STACK" Bundle.steD)).before args s = true) (hN : (Cond.isRef (.static Bundle.tN "SUPPRESSED_SENTINEL" Bundle.listD)).before args s = true)
    (lU : (Cond.laysStatic Bundle.tN "UNASSIGNED_STACK" Bundle.steD).before args s = true) (lN : (Cond.laysStatic Bundle.tN "SUPPRESSED_SENTINEL" Bundle.listD).before args s = true) : ∀ w ∈ L, w.before args s = true := by
  intro w hw
  by_cases e1 : w = .isRef (.static Bundle.tN "UNASSIGNED_STACK" Bundle.steD)
  · rw [e1]; exact hU
  · by_cases e2 : w = .isRef (.static Bundle.tN "SUPPRESSED_SENTINEL" Bundle.listD)
    · rw [e2]; exact hN
    · by_cases e3 : w = .laysStatic Bundle.tN "UNASSIGNED_STACK" Bundle.steD
      · rw [e3]; exact lU
      · by_cases e4 : w = .laysStatic Bundle.tN "SUPPRESSED_SENTINEL" Bundle.listD
        · rw [e4]; exact lN
        · exact h1 w (List.mem_filter.mpr ⟨hw, by unfold vx_no; rw [decide_eq_true e1, decide_eq_true e2, decide_eq_true e3, decide_eq_true e4]; rfl⟩)
/-- where a static field lies, its class's statics cell in H -/
def vx_L (C n d : String) (A : Nat → Prop) (U : State) (H : Heap) : Prop := ∃ (c : ClassId) (k : Class) (i : Nat) (f : Field) (a : Nat) (cell : Cell), U.vm.findClass C = some c ∧ U.fieldFound? C n d = some (c, k, i, f) ∧ f.isStatic = true ∧ k.statics = some a ∧ H[a]? = some cell ∧ cell.vm.isStatics = true ∧ cell.cls = c ∧ f.slot < cell.slots.size ∧ k.staticTypes[f.slot]? = some f.type ∧ ¬ A a
theorem vx_L.moved {C n d : String} {A : Nat → Prop} {u U : State} {H : Heap} (hvm : u.vm.Alike U.vm) (h : vx_L C n d A u H) : vx_L C n d A U H := by
  obtain ⟨c, k, i, f, a, cell, h1, h2, h3, h4, h5, h6, h7, h8, h9, h10⟩ := h
  obtain ⟨k', hi', he⟩ := State.fieldFound?_setVm hvm h2
  exact ⟨c, k', i, f, a, cell, by rw [hvm.findClass]; exact h1, hi', h3, by rw [he]; exact h4, h5, h6, h7, h8, by rw [he]; exact h9, h10⟩
theorem vx_L.kept {C n d : String} {A : Nat → Prop} {U : State} {H H1 : Heap} (h : vx_L C n d A U H) (hq : ∀ a : Nat, a < H.size → ¬ A a → H1[a]? = H[a]?) : vx_L C n d A U H1 := by
  obtain ⟨c, k, i, f, a, cell, h1, h2, h3, h4, h5, h6, h7, h8, h9, h10⟩ := h
  exact ⟨c, k, i, f, a, cell, h1, h2, h3, h4, by rw [hq a (Array.getElem?_eq_some_iff.mp h5).1 h10]; exact h5, h6, h7, h8, h9, h10⟩
theorem vx_L.narrow {C n d : String} {A B : Nat → Prop} {U : State} {H : Heap} (h : vx_L C n d A U H) (hAB : ∀ q, B q → A q) : vx_L C n d B U H := by
  obtain ⟨c, k, i, f, a, cell, h1, h2, h3, h4, h5, h6, h7, h8, h9, h10⟩ := h
  exact ⟨c, k, i, f, a, cell, h1, h2, h3, h4, h5, h6, h7, h8, h9, fun z => h10 (hAB _ z)⟩
theorem vx_L.word {C n d : String} {A : Nat → Prop} {s : State} {args : Array Value} (h : vx_L C n d A s s.heap) : (Cond.laysStatic C n d).before args s = true := by
  obtain ⟨c, k, i, f, a, cell, h1, h2, h3, h4, h5, h6, h7, h8, h9, -⟩ := h
  show (Cond.laysStatic C n d).holds args s none s [] = true
  exact Cond.laysStatic_of h1 h2 h3 h4 h5 h6 h7 h8 h9
/-- .. and what it holds: null or some reference -/
def vx_Zq (C n d : String) (A : Nat → Prop) (U : State) (H : Heap) : Prop := va_Zq C n d A U H ∧ vx_L C n d A U H
theorem vx_Zq.moved {C n d : String} {A : Nat → Prop} {u U : State} {H : Heap} (hvm : u.vm.Alike U.vm) (h : vx_Zq C n d A u H) : vx_Zq C n d A U H := ⟨va_Zq.moved hvm h.1, vx_L.moved hvm h.2⟩
theorem vx_Zq.kept {C n d : String} {A : Nat → Prop} {U : State} {H H1 : Heap} (h : vx_Zq C n d A U H) (hq : ∀ a : Nat, a < H.size → ¬ A a → H1[a]? = H[a]?) : vx_Zq C n d A U H1 := ⟨va_Zq.kept h.1 hq, vx_L.kept h.2 hq⟩
theorem vx_Zq.narrow {C n d : String} {A B : Nat → Prop} {U : State} {H : Heap} (h : vx_Zq C n d A U H) (hAB : ∀ q, B q → A q) : vx_Zq C n d B U H := ⟨va_Zq.narrow h.1 hAB, vx_L.narrow h.2 hAB⟩
theorem vx_Zqof {args : Array Value} {s : State} {C n d : String} {A : Nat → Prop} (hl : (Cond.laysStatic C n d).before args s = true) (hini : (Cond.initialized C).before args s = true) (h : (Cond.isRef (.static C n d)).before args s = true) (hA : ∀ a : Nat, a < s.heap.size → ¬ A a) : vx_Zq C n d A s s.heap := by
  refine ⟨va_Zqof hl hini h hA, ?_⟩
  obtain ⟨c, k, i, f, a, cell, h1, h2, h3, h4, h5, h6, h7, h8, h9⟩ := Cond.laysStatic_spec hl
  exact ⟨c, k, i, f, a, cell, h1, h2, h3, h4, h5, h6, h7, h8, h9, hA a (Array.getElem?_eq_some_iff.mp h5).1⟩
theorem vx_isRef {C n d : String} {v : Value} {A : Nat → Prop} {s : State} {args : Array Value} (h : va_Z C n d v A s s.heap) (hv : v.isRef = true) : (Cond.isRef (.static C n d)).before args s = true := by
  obtain ⟨cf, kf, fi, f, a, cell, h1, h2, h3, h4, h5, h6, h7, -⟩ := h
  have he : (Term.static C n d).eval args s none [] s = some v := by
    simp [Term.eval, State.fieldNamed?, h1, h2, h4, h5, h6, h7]
  simp only [Cond.before, Cond.holds, Cond.value, he]
  cases v <;> simp_all [Value.isRef]
theorem vx_isRefq {C n d : String} {A : Nat → Prop} {s : State} {args : Array Value} (h : va_Zq C n d A s s.heap) : (Cond.isRef (.static C n d)).before args s = true := by
  rcases h with h | ⟨t, h⟩
  · exact vx_isRef h rfl
  · exact vx_isRef h rfl
/-- the same frame, seen from here: as if the method were called anew in this heap -/
theorem vx_rebase {T : State} (X : Stand p l e R s m args below meth c T locs cells slots) {R' : Room} (hf : R'.frames ≤ R.frames) (hl : R'.locals ≤ R.locals) (hc : cells + R'.cells ≤ R.cells) (hs : slots + R'.slots ≤ R.slots) :
    Stand p l e R' ((T.setVm s.vm).setFrames (.invoking m args :: below)) m args below meth c T [] 0 0 := by
  have htop : (T.setVm s.vm).topJava?.isSome := X.here.top
  have hF : ((T.setVm s.vm).setFrames (.invoking m args :: below)).frames = .invoking m args :: below := State.frames_setFrames _ (State.cur_lt_of_top htop)
  obtain ⟨g₀, hg0⟩ := Option.isSome_iff_exists.mp htop
  obtain ⟨r, hr⟩ := State.topJava?_eq_some.mp hg0
  have hl9 : e.platform.stackLimits (T.setVm s.vm).me = e.platform.stackLimits s.me := X.limits
  have hb9 : (T.setVm s.vm).me.stackBytes = s.me.stackBytes := X.bytes
  refine ⟨X.admits, X.cas, X.clock, hF, ?_, X.hears, X.method, X.code, X.here, X.tail, X.warmed, ?_, ?_, ?_⟩
  · have h := X.room
    have hU : ((T.setVm s.vm).setFrames (.invoking m args :: below)).localsInUse = s.localsInUse := by
      rw [State.localsInUse_invoking hF (meth := meth) (c := c) X.method X.code, State.localsInUse_invoking X.frames X.method X.code]
    simp only [State.hasRoom, Bool.and_eq_true, decide_eq_true_eq] at h ⊢
    obtain ⟨⟨⟨⟨h1, h2, h3, h4, h5, h6⟩, h7⟩, h8⟩, h9⟩ := h
    rw [X.frames, List.length_cons] at h2 h3
    have q1 := X.heapSize
    have q2 := X.used
    simp only [hF, hU, List.length_cons, State.stackLimits_setFrames, State.stackBytes_setFrames, hl9, hb9]
    refine ⟨⟨⟨⟨by omega, by omega, by omega, by omega, by omega, h6⟩, ?_⟩, ?_⟩, X.book⟩
    · show T.heap.size + R'.cells ≤ e.platform.maxCells
      omega
    · show T.slotsUsed + R'.slots ≤ e.platform.maxSlots
      omega
  · rw [State.stackLimits_setFrames]; rfl
  · rw [State.stackBytes_setFrames]; rfl
  · refine ⟨?_, Nat.le_refl _, Nat.le_refl _, ?_, ?_, fun a c9 h9 => ⟨c9, h9, rfl, rfl, fun _ _ => rfl⟩⟩
    · obtain ⟨t, ht, -⟩ := State.frames_cons hr
      show T.setVm s.vm = { ((T.setVm s.vm).setFrames (.invoking m args :: below)).setFrames (T.setVm s.vm).frames with heap := T.heap, slotsUsed := T.slotsUsed }
      rw [State.setFrames_setFrames, State.setFrames_self ht]
      rfl
    · show T.slotsUsed = T.slotsUsed + ((T.heap.toList.drop T.heap.size).map (·.slots.size)).sum
      rw [List.drop_eq_nil_of_le (Nat.le_of_eq Array.length_toList)]
      rfl
    · show ((T.heap.toList.drop T.heap.size).map (·.slots.size)).sum ≤ 0
      rw [List.drop_eq_nil_of_le (Nat.le_of_eq Array.length_toList)]
      exact Nat.le_refl _
/-- 'throw new E()': new; dup; invokespecial; athrow -/
theorem vx_throw0 {cc : ByteArray} {pc : Nat} (hexec : p.tables.exec = Jvm.exec) (hb : c.code = cc) (hl : l.stackTraces = false) {own cls : String} {names : List String} {ik ic mc ms : Nat} {A : Nat → Prop}
    (hown : s.vm.findClass own = some m.cls) (hcls : Bundle.fit cls = true) (hnames : ∀ n ∈ names, Bundle.fit n = true)
    (hk : (Cond.classLink own ik cls).before args s = true) (hini : (Cond.initialized cls).before args s = true) (hat : ∀ w ∈ vx_at0 own ic cls names, w.before args s = true)
    (hgood : ∀ w ∈ Cond.classLink own ik cls :: Cond.initialized cls :: vx_at0 own ic cls names, vx_ot w = true)
    (hU : vx_Zq Bundle.tN "UNASSIGNED_STACK" Bundle.steD A s s.heap) (hN : vx_Zq Bundle.tN "SUPPRESSED_SENTINEL" Bundle.listD A s s.heap) (hS : va_S A s.heap H locs) (hsize : ls.size = c.maxLocals)
    (d0 : decode cc pc = .ok (.new ik, 3)) (d3 : decode cc (pc + 3) = .ok (.dup, 1)) (d4 : decode cc (pc + 4) = .ok (.invokespecial ic, 3)) (d7 : decode cc (pc + 7) = .ok (.athrow, 1))
    (hout : ∀ x ∈ c.exceptionTable.toList, covers x (pc + 7) = false)
    (hRframes : names.length + 3 < R.frames) (hRlocals : (rest.map fun v => v.category).sum + (13 * (names.length + 1) + 42) ≤ R.locals) (hRcells : cells + 1 ≤ R.cells) (hRslots : slots + 6 ≤ R.slots) (hlocks : meth.locks = false)
    (hx : ∀ t : State, s.vm.Alike t.vm → H.size ≤ t.heap.size → (∀ q : Nat, q < H.size → t.heap[q]? = H[q]?) → XC cls s t)
    (hf : ∀ z ∈ locs, free z.base) (hc : cells + 1 ≤ mc) (hs : slots + 6 ≤ ms) :
    W p l e R s m args below meth c H locs cells slots (vx_MQ below Qc XC args s mc ms free) (F0 m pc ls rest) := by
  intro T hT X
  have htr : e.platform.stackTraces = false := (show e.platform.stackTraces = l.stackTraces by rw [X.admits.platform]).trans hl
  have Y := vx_rebase X (R' := { frames := R.frames, locals := R.locals, cells := 1, slots := 6 }) (Nat.le_refl _) (Nat.le_refl _) hRcells hRslots
  obtain ⟨s', hA⟩ : ∃ z, z = (T.setVm s.vm).setFrames (.invoking m args :: below) := ⟨_, rfl⟩
  rw [← hA] at Y
  have hvm : s'.vm = s.vm := by rw [hA]; rfl
  have hhp : s'.heap = H := by rw [hA]; exact hT
  have hW0 : s.WarmedH s'.vm := by rw [hvm]; exact State.WarmedH.refl s
  have hat' : ∀ w ∈ vx_at0 own ic cls names, w.before args s' = true := fun w hw => vx_ot_at hW0 hvm.symm (hgood w (List.mem_cons_of_mem _ (List.mem_cons_of_mem _ hw))) (hat w hw)
  have hk' : (Cond.classLink own ik cls).before args s' = true := vx_ot_at hW0 hvm.symm (hgood _ List.mem_cons_self) hk
  have hini' : (Cond.initialized cls).before args s' = true := vx_ot_at hW0 hvm.symm (hgood _ (List.mem_cons_of_mem _ List.mem_cons_self)) hini
  have hU' : vx_Zq Bundle.tN "UNASSIGNED_STACK" Bundle.steD A s' s'.heap := by rw [hhp]; exact vx_Zq.moved hW0.alike (hU.kept hS.2.1)
  have hN' : vx_Zq Bundle.tN "SUPPRESSED_SENTINEL" Bundle.listD A s' s'.heap := by rw [hhp]; exact vx_Zq.moved hW0.alike (hN.kept hS.2.1)
  have h : ∀ w ∈ Bundle.ownAtoms0 own ic cls names, w.before args s' = true := vx_own hat' (vx_isRefq hU'.1) (vx_isRefq hN'.1) hU'.2.word hN'.2.word
  have hown' : s'.vm.findClass own = some m.cls := by rw [hvm]; exact hown
  have hins : (Cond.instantiable cls 6).before args s' = true := h _ (by simp [Bundle.ownAtoms0])
  obtain ⟨vm₁, cX, kX, hfX, hkX, -, -, X₁, st1⟩ := Y.newCold hexec (own := own) (C := cls) (index := ik) (n := 6) hown' hk' hins hini'
    (g := F0 m pc ls rest) rfl (by rw [hb]; exact d0) (Nat.le_refl _) (Nat.le_refl _)
  generalize hT1 : (T.setVm vm₁).pushCell { cls := cX, slots := kX.instanceTypes.map defaultValue, vm := .none } = T1 at X₁ st1
  have hcat : (Value.ref T.heap.size).category = 1 := rfl
  have hcellA : T1.heap[T.heap.size]? = some (freshCell cX kX) := by rw [← hT1]; exact State.heap_pushCell_size _ _
  have d3' : decode c.code (pc + 3) = .ok (.dup, 1) := by rw [hb]; exact d3
  obtain ⟨U, hsteps, hrun, hend, hW, hsame, ce, hce, hO⟩ := X₁.ctorThrow0 hexec htr (own := own) (cls := cls) (names := names) (ic := ic) hown' hcls hnames h (fun x hx => nomatch hx) hfX hkX hcellA (by rw [hhp, hT]; exact Nat.le_refl _)
    (g := { method := m, pc := pc + 4, locals := ls, stack := .ref T.heap.size :: .ref T.heap.size :: rest, locked := none }) rfl hsize rfl rfl (rest := rest) rfl
    (by rw [hb]; exact d4) (by rw [hb]; exact d7) hout hRframes (by simp only [List.map_cons, List.sum_cons, hcat]; omega) hlocks
  obtain ⟨f1, f2⟩ := vx_frame hsame
  rw [hhp] at f1 f2
  have hWs : s.WarmedH U.vm := State.WarmedH.trans hW0 hW
  have hcl : s.vm.findClass cls = some ce.cls := by
    have h9 := hO.cls
    rw [hvm] at h9
    exact h9
  have hall : s.sameButNew ({ U with vm := s.vm } : State) locs mc ms := by
    subst hA
    obtain ⟨e1, e2⟩ := hsame
    rw [State.setFrames_setFrames] at e1
    have h2 : (T.setVm s.vm).sameButNew ({ U with vm := s.vm } : State) [] (0 + 1) (0 + 6) := ⟨e1, e2⟩
    have h3 := X.same.trans h2
    rw [List.append_nil] at h3
    exact h3.mono hc hs
  refine ⟨U, ?_, .threw T.heap.size, hrun, hend, Or.inr ⟨T.heap.size, rfl, cls, ce, locs, hx U hWs.alike f1 (fun q hq => f2 q hq (fun z hz => nomatch hz)), hce, hO.vm, hcl, hWs, hall, hf⟩⟩
  refine st1 _ ?_
  show Steps p.tables e below (T1.setTop { method := m, pc := pc + 3, locals := ls, stack := .ref T.heap.size :: rest, locked := none }) _
  jvm_step X₁.here [X₁.here.top, hexec, d3', Value.category]
  exact hsteps
/-- 'throw new E("text")': new; dup; ldc; invokespecial; athrow -/
theorem vx_throwS {cc : ByteArray} {pc : Nat} (hexec : p.tables.exec = Jvm.exec) (hb : c.code = cc) (hl : l.stackTraces = false) {own cls text : String} {names : List String} {ik is ic mc ms sa : Nat} {A : Nat → Prop}
    (hown : s.vm.findClass own = some m.cls) (hcls : Bundle.fit cls = true) (hnames : ∀ n ∈ names, Bundle.fit n = true)
    (hk : (Cond.classLink own ik cls).before args s = true) (hini : (Cond.initialized cls).before args s = true) (hstr : vk_R own is text sa s) (hat : ∀ w ∈ vx_atS own ic cls names, w.before args s = true)
    (hgood : ∀ w ∈ Cond.classLink own ik cls :: Cond.initialized cls :: vx_atS own ic cls names, vx_ot w = true)
    (hU : vx_Zq Bundle.tN "UNASSIGNED_STACK" Bundle.steD A s s.heap) (hN : vx_Zq Bundle.tN "SUPPRESSED_SENTINEL" Bundle.listD A s s.heap) (hS : va_S A s.heap H locs) (hsize : ls.size = c.maxLocals)
    (d0 : decode cc pc = .ok (.new ik, 3)) (d3 : decode cc (pc + 3) = .ok (.dup, 1)) (d4 : decode cc (pc + 4) = .ok (.ldc is, 2)) (d6 : decode cc (pc + 6) = .ok (.invokespecial ic, 3)) (d9 : decode cc (pc + 9) = .ok (.athrow, 1))
    (hout : ∀ x ∈ c.exceptionTable.toList, covers x (pc + 9) = false)
    (hRframes : names.length + 3 < R.frames) (hRlocals : (rest.map fun v => v.category).sum + (13 * (names.length + 1) + 43) ≤ R.locals) (hRcells : cells + 1 ≤ R.cells) (hRslots : slots + 6 ≤ R.slots) (hlocks : meth.locks = false)
    (hx : ∀ t : State, s.vm.Alike t.vm → H.size ≤ t.heap.size → (∀ q : Nat, q < H.size → t.heap[q]? = H[q]?) → XC cls s t)
    (hf : ∀ z ∈ locs, free z.base) (hc : cells + 1 ≤ mc) (hs : slots + 6 ≤ ms) :
    W p l e R s m args below meth c H locs cells slots (vx_MQ below Qc XC args s mc ms free) (F0 m pc ls rest) := by
  intro T hT X
  have htr : e.platform.stackTraces = false := (show e.platform.stackTraces = l.stackTraces by rw [X.admits.platform]).trans hl
  have Y := vx_rebase X (R' := { frames := R.frames, locals := R.locals, cells := 1, slots := 6 }) (Nat.le_refl _) (Nat.le_refl _) hRcells hRslots
  obtain ⟨s', hA⟩ : ∃ z, z = (T.setVm s.vm).setFrames (.invoking m args :: below) := ⟨_, rfl⟩
  rw [← hA] at Y
  have hvm : s'.vm = s.vm := by rw [hA]; rfl
  have hhp : s'.heap = H := by rw [hA]; exact hT
  have hW0 : s.WarmedH s'.vm := by rw [hvm]; exact State.WarmedH.refl s
  have hat' : ∀ w ∈ vx_atS own ic cls names, w.before args s' = true := fun w hw => vx_ot_at hW0 hvm.symm (hgood w (List.mem_cons_of_mem _ (List.mem_cons_of_mem _ hw))) (hat w hw)
  have hk' : (Cond.classLink own ik cls).before args s' = true := vx_ot_at hW0 hvm.symm (hgood _ List.mem_cons_self) hk
  have hini' : (Cond.initialized cls).before args s' = true := vx_ot_at hW0 hvm.symm (hgood _ (List.mem_cons_of_mem _ List.mem_cons_self)) hini
  have hU' : vx_Zq Bundle.tN "UNASSIGNED_STACK" Bundle.steD A s' s'.heap := by rw [hhp]; exact vx_Zq.moved hW0.alike (hU.kept hS.2.1)
  have hN' : vx_Zq Bundle.tN "SUPPRESSED_SENTINEL" Bundle.listD A s' s'.heap := by rw [hhp]; exact vx_Zq.moved hW0.alike (hN.kept hS.2.1)
  have h : ∀ w ∈ Bundle.ownAtoms own ic cls names, w.before args s' = true := vx_own hat' (vx_isRefq hU'.1) (vx_isRefq hN'.1) hU'.2.word hN'.2.word
  have hown' : s'.vm.findClass own = some m.cls := by rw [hvm]; exact hown
  have hins : (Cond.instantiable cls 6).before args s' = true := h _ (by simp [Bundle.ownAtoms])
  obtain ⟨vm₁, cX, kX, hfX, hkX, -, -, X₁, st1⟩ := Y.newCold hexec (own := own) (C := cls) (index := ik) (n := 6) hown' hk' hins hini'
    (g := F0 m pc ls rest) rfl (by rw [hb]; exact d0) (Nat.le_refl _) (Nat.le_refl _)
  generalize hT1 : (T.setVm vm₁).pushCell { cls := cX, slots := kX.instanceTypes.map defaultValue, vm := .none } = T1 at X₁ st1
  have hcat : (Value.ref T.heap.size).category = 1 := rfl
  have hcellA : T1.heap[T.heap.size]? = some (freshCell cX kX) := by rw [← hT1]; exact State.heap_pushCell_size _ _
  have d3' : decode c.code (pc + 3) = .ok (.dup, 1) := by rw [hb]; exact d3
  have d4' : decode c.code (pc + 4) = .ok (.ldc is, 2) := by rw [hb]; exact d4
  have hstr' : vk_R own is text sa s' := vk_R.warm hW0 hstr
  obtain ⟨U, hsteps, hrun, hend, hW, hsame, ce, hce, hO⟩ := X₁.ctorThrowS hexec htr (own := own) (cls := cls) (names := names) (ic := ic) hown' hcls hnames h (fun x hx => nomatch hx) hfX hkX hcellA (by rw [hhp, hT]; exact Nat.le_refl _) (msg := .ref sa) rfl
    (g := { method := m, pc := pc + 6, locals := ls, stack := .ref sa :: .ref T.heap.size :: .ref T.heap.size :: rest, locked := none }) rfl hsize rfl rfl (rest := rest) rfl
    (by rw [hb]; exact d6) (by rw [hb]; exact d9) hout hRframes (by simp only [List.map_cons, List.sum_cons, hcat]; omega) hlocks
  obtain ⟨f1, f2⟩ := vx_frame hsame
  rw [hhp] at f1 f2
  have hWs : s.WarmedH U.vm := State.WarmedH.trans hW0 hW
  have hcl : s.vm.findClass cls = some ce.cls := by
    have h9 := hO.cls
    rw [hvm] at h9
    exact h9
  have hall : s.sameButNew ({ U with vm := s.vm } : State) locs mc ms := by
    subst hA
    obtain ⟨e1, e2⟩ := hsame
    rw [State.setFrames_setFrames] at e1
    have h2 : (T.setVm s.vm).sameButNew ({ U with vm := s.vm } : State) [] (0 + 1) (0 + 6) := ⟨e1, e2⟩
    have h3 := X.same.trans h2
    rw [List.append_nil] at h3
    exact h3.mono hc hs
  refine ⟨U, ?_, .threw T.heap.size, hrun, hend, Or.inr ⟨T.heap.size, rfl, cls, ce, locs, hx U hWs.alike f1 (fun q hq => f2 q hq (fun z hz => nomatch hz)), hce, hO.vm, hcl, hWs, hall, hf⟩⟩
  refine st1 _ ?_
  show Steps p.tables e below (T1.setTop { method := m, pc := pc + 3, locals := ls, stack := .ref T.heap.size :: rest, locked := none }) _
  jvm_step X₁.here [X₁.here.top, hexec, d3', Value.category]
  exact X₁.ldcString hexec (own := own) (text := text) (index := is) (a := sa) hown' hstr'.1 hstr'.2
    (g := { method := m, pc := pc + 4, locals := ls, stack := .ref T.heap.size :: .ref T.heap.size :: rest, locked := none }) rfl d4' _ hsteps
/-- 'throw new E("text")', the text by a wide index -/
theorem vx_throwSW {cc : ByteArray} {pc : Nat} (hexec : p.tables.exec = Jvm.exec) (hb : c.code = cc) (hl : l.stackTraces = false) {own cls text : String} {names : List String} {ik is ic mc ms sa : Nat} {A : Nat → Prop}
    (hown : s.vm.findClass own = some m.cls) (hcls : Bundle.fit cls = true) (hnames : ∀ n ∈ names, Bundle.fit n = true)
    (hk : (Cond.classLink own ik cls).before args s = true) (hini : (Cond.initialized cls).before args s = true) (hstr : vk_R own is text sa s) (hat : ∀ w ∈ vx_atS own ic cls names, w.before args s = true)
    (hgood : ∀ w ∈ Cond.classLink own ik cls :: Cond.initialized cls :: vx_atS own ic cls names, vx_ot w = true)
    (hU : vx_Zq Bundle.tN "UNASSIGNED_STACK" Bundle.steD A s s.heap) (hN : vx_Zq Bundle.tN "SUPPRESSED_SENTINEL" Bundle.listD A s s.heap) (hS : va_S A s.heap H locs) (hsize : ls.size = c.maxLocals)
    (d0 : decode cc pc = .ok (.new ik, 3)) (d3 : decode cc (pc + 3) = .ok (.dup, 1)) (d4 : decode cc (pc + 4) = .ok (.ldc_w is, 3)) (d7 : decode cc (pc + 7) = .ok (.invokespecial ic, 3)) (d10 : decode cc (pc + 10) = .ok (.athrow, 1))
    (hout : ∀ x ∈ c.exceptionTable.toList, covers x (pc + 10) = false)
    (hRframes : names.length + 3 < R.frames) (hRlocals : (rest.map fun v => v.category).sum + (13 * (names.length + 1) + 43) ≤ R.locals) (hRcells : cells + 1 ≤ R.cells) (hRslots : slots + 6 ≤ R.slots) (hlocks : meth.locks = false)
    (hx : ∀ t : State, s.vm.Alike t.vm → H.size ≤ t.heap.size → (∀ q : Nat, q < H.size → t.heap[q]? = H[q]?) → XC cls s t)
    (hf : ∀ z ∈ locs, free z.base) (hc : cells + 1 ≤ mc) (hs : slots + 6 ≤ ms) :
    W p l e R s m args below meth c H locs cells slots (vx_MQ below Qc XC args s mc ms free) (F0 m pc ls rest) := by
  intro T hT X
  have htr : e.platform.stackTraces = false := (show e.platform.stackTraces = l.stackTraces by rw [X.admits.platform]).trans hl
  have Y := vx_rebase X (R' := { frames := R.frames, locals := R.locals, cells := 1, slots := 6 }) (Nat.le_refl _) (Nat.le_refl _) hRcells hRslots
  obtain ⟨s', hA⟩ : ∃ z, z = (T.setVm s.vm).setFrames (.invoking m args :: below) := ⟨_, rfl⟩
  rw [← hA] at Y
  have hvm : s'.vm = s.vm := by rw [hA]; rfl
  have hhp : s'.heap = H := by rw [hA]; exact hT
  have hW0 : s.WarmedH s'.vm := by rw [hvm]; exact State.WarmedH.refl s
  have hat' : ∀ w ∈ vx_atS own ic cls names, w.before args s' = true := fun w hw => vx_ot_at hW0 hvm.symm (hgood w (List.mem_cons_of_mem _ (List.mem_cons_of_mem _ hw))) (hat w hw)
  have hk' : (Cond.classLink own ik cls).before args s' = true := vx_ot_at hW0 hvm.symm (hgood _ List.mem_cons_self) hk
  have hini' : (Cond.initialized cls).before args s' = true := vx_ot_at hW0 hvm.symm (hgood _ (List.mem_cons_of_mem _ List.mem_cons_self)) hini
  have hU' : vx_Zq Bundle.tN "UNASSIGNED_STACK" Bundle.steD A s' s'.heap := by rw [hhp]; exact vx_Zq.moved hW0.alike (hU.kept hS.2.1)
  have hN' : vx_Zq Bundle.tN "SUPPRESSED_SENTINEL" Bundle.listD A s' s'.heap := by rw [hhp]; exact vx_Zq.moved hW0.alike (hN.kept hS.2.1)
  have h : ∀ w ∈ Bundle.ownAtoms own ic cls names, w.before args s' = true := vx_own hat' (vx_isRefq hU'.1) (vx_isRefq hN'.1) hU'.2.word hN'.2.word
  have hown' : s'.vm.findClass own = some m.cls := by rw [hvm]; exact hown
  have hins : (Cond.instantiable cls 6).before args s' = true := h _ (by simp [Bundle.ownAtoms])
  obtain ⟨vm₁, cX, kX, hfX, hkX, -, -, X₁, st1⟩ := Y.newCold hexec (own := own) (C := cls) (index := ik) (n := 6) hown' hk' hins hini'
    (g := F0 m pc ls rest) rfl (by rw [hb]; exact d0) (Nat.le_refl _) (Nat.le_refl _)
  generalize hT1 : (T.setVm vm₁).pushCell { cls := cX, slots := kX.instanceTypes.map defaultValue, vm := .none } = T1 at X₁ st1
  have hcat : (Value.ref T.heap.size).category = 1 := rfl
  have hcellA : T1.heap[T.heap.size]? = some (freshCell cX kX) := by rw [← hT1]; exact State.heap_pushCell_size _ _
  have d3' : decode c.code (pc + 3) = .ok (.dup, 1) := by rw [hb]; exact d3
  have d4' : decode c.code (pc + 4) = .ok (.ldc_w is, 3) := by rw [hb]; exact d4
  have hstr' : vk_R own is text sa s' := vk_R.warm hW0 hstr
  obtain ⟨U, hsteps, hrun, hend, hW, hsame, ce, hce, hO⟩ := X₁.ctorThrowS hexec htr (own := own) (cls := cls) (names := names) (ic := ic) hown' hcls hnames h (fun x hx => nomatch hx) hfX hkX hcellA (by rw [hhp, hT]; exact Nat.le_refl _) (msg := .ref sa) rfl
    (g := { method := m, pc := pc + 7, locals := ls, stack := .ref sa :: .ref T.heap.size :: .ref T.heap.size :: rest, locked := none }) rfl hsize rfl rfl (rest := rest) rfl
    (by rw [hb]; exact d7) (by rw [hb]; exact d10) hout hRframes (by simp only [List.map_cons, List.sum_cons, hcat]; omega) hlocks
  obtain ⟨f1, f2⟩ := vx_frame hsame
  rw [hhp] at f1 f2
  have hWs : s.WarmedH U.vm := State.WarmedH.trans hW0 hW
  have hcl : s.vm.findClass cls = some ce.cls := by
    have h9 := hO.cls
    rw [hvm] at h9
    exact h9
  have hall : s.sameButNew ({ U with vm := s.vm } : State) locs mc ms := by
    subst hA
    obtain ⟨e1, e2⟩ := hsame
    rw [State.setFrames_setFrames] at e1
    have h2 : (T.setVm s.vm).sameButNew ({ U with vm := s.vm } : State) [] (0 + 1) (0 + 6) := ⟨e1, e2⟩
    have h3 := X.same.trans h2
    rw [List.append_nil] at h3
    exact h3.mono hc hs
  refine ⟨U, ?_, .threw T.heap.size, hrun, hend, Or.inr ⟨T.heap.size, rfl, cls, ce, locs, hx U hWs.alike f1 (fun q hq => f2 q hq (fun z hz => nomatch hz)), hce, hO.vm, hcl, hWs, hall, hf⟩⟩
  refine st1 _ ?_
  show Steps p.tables e below (T1.setTop { method := m, pc := pc + 3, locals := ls, stack := .ref T.heap.size :: rest, locked := none }) _
  jvm_step X₁.here [X₁.here.top, hexec, d3', Value.category]
  exact X₁.ldcStringW hexec (own := own) (text := text) (index := is) (a := sa) hown' hstr'.1 hstr'.2
    (g := { method := m, pc := pc + 4, locals := ls, stack := .ref T.heap.size :: .ref T.heap.size :: rest, locked := none }) rfl d4' _ hsteps
end Ends
section Bodies
variable {l : Launch}
theorem vx_ofW {y : MethodName} {ws ws' : List Cond} {rm : Room} {Pc : Array Value → State → Prop} {Qc : Array Value → State → Outcome → State → Prop} {XC : String → State → State → Prop} {mc ms : Nat} {free : Addr → Prop} {cc : ByteArray} {maxL : Nat} {ret : Option FieldType}
    (hy : plainName y.cls = true) (hw : ws = Cond.code y cc maxL ret :: ws')
    (body : ∀ p e s m args below meth c s₁, BodyLoose p l y (headSpec ws rm) cc maxL ret e s m args below meth c s₁ → c.maxLocals = maxL → (∀ x ∈ c.exceptionTable.toList, False) → Pc args s →
      W p l e (headSpec ws rm).room s m args below meth c s.heap [] 0 0 (vx_MQ below Qc XC args s mc ms free) (entryFrame m args maxL)) : vx_Met l y ws rm Pc Qc XC mc ms free := by
  refine MetFree.of_bodyS (code := cc) (maxLocals := maxL) (ret := ret) hy ?_ ?_
  · intro args s m h hn
    obtain ⟨meth, c, h1, h2, h3, h4, h5, h6, -, -⟩ := Cond.code_spec hn (atoms_spec (ws := ws) h _ (by rw [hw]; exact List.mem_cons_self))
    exact ⟨meth, c, h1, h2, h3, h4, h5, h6⟩
  · intro p e s m args below meth c s₁ B hml hP _
    have hh0 : s₁.heap = s.heap := by rw [B.state]; rfl
    have ht : ∀ x ∈ c.exceptionTable.toList, False := by
      obtain ⟨meth9, c9, h1, h2, -, -, -, -, h7, -⟩ := Cond.code_spec B.named (atoms_spec (ws := ws) B.pre _ (by rw [hw]; exact List.mem_cons_self))
      cases Option.some.inj (h1.symm.trans B.method)
      cases Option.some.inj (h2.symm.trans (Stand.of_body B).code)
      intro x hx
      rw [Array.isEmpty_iff.mp h7] at hx
      cases hx
    obtain ⟨t, a1, o, b1, b2, b3⟩ := body p e s m args below meth c s₁ B hml ht hP s₁ hh0 (Stand.of_body B)
    exact ⟨t, o, a1, b1, b2, b3⟩
/-- the table of a body with handlers -/
theorem vx_table {p : Program} {x y : MethodName} {S : Spec} {cc bytes : ByteArray} {maxL maxL' : Nat} {ret ret' : Option FieldType} {e : Env} {s s₁ : State} {m : MethodId} {args : Array Value} {below : List Frame} {meth : Method} {c : Code} {hh : List (Nat × Nat × Nat × Nat)}
    (B : BodyLoose p l y S cc maxL ret e s m args below meth c s₁) (h : (Cond.codeWith y bytes maxL' ret' hh).before args s = true) : c.exceptionTable.toList = tableOf hh := by
  obtain ⟨m9, meth9, c9, hn9, h1, h2, -, -, h6, -⟩ := Cond.codeWith_spec h
  cases Option.some.inj (hn9.symm.trans B.named)
  cases Option.some.inj (h1.symm.trans B.method)
  cases Option.some.inj (h2.symm.trans (Stand.of_body B).code)
  rw [← h6, table_eq]
end Bodies
end VXA
/-! ===== END ===== -/
/-! ===== BEGIN a static call of a method with an exception table ===== -/
section VXS
variable {p : Program} {l : Launch} {e : Env} {R : Room} {s : State} {m : MethodId} {args : Array Value} {below : List Frame} {meth : Method} {c : Code} {T : State} {H : Heap} {locs : List Loc} {cells slots : Nat}
abbrev vx_CSW (R : Room) (s : State) (args : Array Value) (own : String) (index : Nat) (y : MethodName) (bytes : ByteArray) (maxL : Nat) (ret : Option FieldType) (hh : List (Nat × Nat × Nat × Nat)) (ws : List Cond) (rm : Room) (mc ms n : Nat) : Prop :=
  (rm.cells = mc ∧ rm.slots = ms ∧ rm.frames + 1 ≤ R.frames ∧ 8 + (maxL + 11) + rm.locals ≤ R.locals ∧ (∀ w ∈ ws, ∀ (a' : Array Value) (U : State), s.WarmedH U.vm → w.before a' U = true) ∧ Cond.codeWith y bytes maxL ret hh ∈ ws) ∧
  (Cond.codeWith y bytes maxL ret hh).before args s = true ∧ (Cond.initialized y.cls).before args s = true ∧ (y.cls ≠ "java/lang/invoke/MethodHandle" ∧ y.cls ≠ "java/lang/invoke/VarHandle") ∧
  (∀ sig, parseMethodDescriptor y.desc = some sig → n = sig.parameters.length) ∧ (Cond.methodLink own index y).before args s = true ∧ (Cond.static y).before args s = true
theorem vx_cwSW {own : String} {index maxL mc ms : Nat} {y : MethodName} {bytes : ByteArray} {ret : Option FieldType} {hh : List (Nat × Nat × Nat × Nat)} {Ts ws ws' : List Cond} {rm : Room} (n : Nat) (ht : ∀ w ∈ Ts, w.before args s = true) (hT : GoodIn Ts (va_wsS own index y ws)) (hw : ws = Cond.codeWith y bytes maxL ret hh :: ws') (hrc : rm.cells = mc) (hrs : rm.slots = ms)
    (hd : y.cls ≠ "java/lang/invoke/MethodHandle" ∧ y.cls ≠ "java/lang/invoke/VarHandle" ∧ (parseMethodDescriptor y.desc).map (fun d => d.parameters.length) = some n) (hR : rm.frames + 1 ≤ R.frames ∧ 8 + (maxL + 11) + rm.locals ≤ R.locals) :
    vx_CSW R s args own index y bytes maxL ret hh ws rm mc ms n := by
  have ok : ∀ w ∈ va_wsS own index y ws, w.before args s = true := fun w h => ht w (hT w h).1
  have hG : GoodIn Ts ws := fun w h => hT w (by unfold va_wsS; exact List.mem_append_right _ h)
  have hc : Cond.codeWith y bytes maxL ret hh ∈ ws := by rw [hw]; exact List.mem_cons_self
  refine ⟨⟨hrc, hrs, hR.1, hR.2, pay_in ht hG, hc⟩, ht _ (hG _ hc).1, ok _ (by simp [va_wsS]), ⟨hd.1, hd.2.1⟩, fun sig h => ?_, ok _ (by simp [va_wsS]), ok _ (by simp [va_wsS])⟩
  have h2 := hd.2.2
  rw [h] at h2
  exact (Option.some.inj h2).symm
theorem vx_callSW (X : Stand p l e R s m args below meth c T locs cells slots) (hexec : p.tables.exec = Jvm.exec) {own : String} {index : Nat} {y : MethodName} {bytes : ByteArray} {maxL : Nat} {ret : Option FieldType} {hh : List (Nat × Nat × Nat × Nat)}
    (hown : s.vm.findClass own = some m.cls) (hlink : (Cond.methodLink own index y).before args s = true) (hstat : (Cond.static y).before args s = true) (hinit : (Cond.initialized y.cls).before args s = true)
    (hcode : (Cond.codeWith y bytes maxL ret hh).before args s = true) (hy : y.cls ≠ "java/lang/invoke/MethodHandle" ∧ y.cls ≠ "java/lang/invoke/VarHandle")
    {W9 : Nat} {Pre : Pt → Array Value → Prop} {Post : Pt → Array Value → Option Value → Pt → Prop} (hK : Back l R p e below s args y 3 W9 Pre Post)
    {g : JFrame} (hg : g.method = m) (hsize : g.locals.size = c.maxLocals) {argsL rest : List Value} (hlen : ∀ sig, parseMethodDescriptor y.desc = some sig → argsL.length = sig.parameters.length)
    (hstack : g.stack = argsL.reverse ++ rest) (hW : 2 * g.monitorRoom + (rest.map fun v => v.category).sum ≤ W9) (hdg : decode c.code g.pc = .ok (.invokestatic index, 3))
    (hpre : ∀ vm₁, s.WarmedH vm₁ → Pre ⟨T.setVm vm₁, locs, cells, slots⟩ argsL.toArray) :
    ∃ (v : Option Value) (vm₁ : Vm) (B : Pt), s.WarmedH vm₁ ∧ Stand p l e R s m args below meth c B.U B.locs B.cells B.slots ∧ Post ⟨T.setVm vm₁, locs, cells, slots⟩ argsL.toArray v B ∧
      ∀ target, Steps p.tables e below (B.U.setTop { g with pc := g.pc + 3, stack := v.toList ++ rest }) target → Steps p.tables e below (T.setTop g) target := by
  obtain ⟨mk, methM, cM, hnamed, hmethM, -, -, -, -, -, -, hsigM⟩ := Cond.codeWith_spec hcode
  have hstatic : methM.isStatic = true := Cond.static_spec hnamed hmethM hstat
  obtain ⟨kP, hkP, -⟩ := className_of_methodNamed hnamed
  have hinitP : kP.init = .initialized := Cond.initialized_spec (findClass_of_methodNamed hnamed) hkP hinit
  obtain ⟨vm₁, X₁, hstep₁⟩ := X.invokestatic hexec hown hlink hnamed hmethM hstatic hkP hinitP hy (g := g) hg (argsL := argsL) (rest := rest) (hlen _ hsigM) hstack hdg
  obtain ⟨v, B, X', hpost, hsteps⟩ := hK m meth c ⟨T.setVm vm₁, locs, cells, slots⟩ { g with stack := rest } (.invokestatic index) mk argsL.toArray X₁ hg hsize hdg hW (X₁.named hnamed) (hpre vm₁ X₁.warmed)
  exact ⟨v, vm₁, B, X₁.warmed, X', hpost, fun target h => hstep₁ _ fun acts => by rw [doInvoke_state]; exact hsteps.trans h⟩
theorem vx_runSW {y : MethodName} {bytes cc : ByteArray} {maxL nL mc ms n index : Nat} {ret : Option FieldType} {hh : List (Nat × Nat × Nat × Nat)} {ws : List Cond} {rm : Room} {Pc : Array Value → State → Prop} {Qc : Array Value → State → Outcome → State → Prop} {free : Addr → Prop} {Ts : List Cond} {own : String} {As rest : List Value} {g : JFrame}
    (S : CallFix p m c cc nL s args Ts own) (hM : Met l y ws rm Pc Qc mc ms free) (cw : vx_CSW R s args own index y bytes maxL ret hh ws rm mc ms n) (hp : PreS s H Pc As)
    (hg : g.method = m) (hn : As.length = n) (hsize : g.locals.size = nL) (hstack : g.stack = As.reverse ++ rest) (hW : 2 * g.monitorRoom + (rest.map fun v => v.category).sum ≤ 8) (hdg : decode cc g.pc = .ok (.invokestatic index, 3)) (hf : cells + mc ≤ R.cells ∧ slots + ms ≤ R.slots) :
    va_Run p l e R s m args below meth c H locs cells slots mc ms g rest (Qc As.toArray) (free) := by
  obtain ⟨⟨hrc, hrs, hfr, hlo, hws, hcw⟩, hcode, hini, hy, hlen, hl, hstt⟩ := cw
  have hK : Back l R p e below s args y 3 8 (PreOf R mc ms Pc) (PostOf Qc mc ms free) := va_backW (hh := hh) (bytes := bytes) (maxL := maxL) (ret := ret) hM hp.1 hrc hrs hfr hlo hws hcw (fun a' U hW => word_at hW (Or.inl (by first | rfl | simp [Cond.onTables, Cond.keeps, Cond.steady])) hini)
  obtain ⟨hx, hb, hml, ho, -⟩ := S
  intro T hT X
  obtain ⟨v, vm₁, ⟨U', l2, c2, s2⟩, hW₁, X', ⟨g', mk, t, L, e1, e2, hq, h1, hL, h2, h3⟩, st⟩ := vx_callSW X hx (hh := hh) (bytes := bytes) (maxL := maxL) (ret := ret) ho hl hstt hini hcode hy hK hg (hsize.trans hml.symm) (argsL := As) (rest := rest) (fun sig h => hn.trans (hlen sig h)) hstack hW (by rw [hb]; exact hdg)
    (fun vm₁ hW₁ => ⟨hf.1, hf.2, hp.2 (T.setVm vm₁) hT hW₁⟩)
  dsimp only [Pt.U, Pt.locs, Pt.cells, Pt.slots] at X' e1 e2 h1 h2 h3 st
  subst h1; subst h2; subst h3
  exact ⟨v, (T.setVm vm₁).calling g' mk As.toArray, t, U', L, hT, X', hL, e1, e2, hq, st⟩
/-- not caught here, past rows that name other classes: it goes on to the caller -/
theorem vx_outP {p : Program} {l : Launch} {e : Env} {R : Room} {s : State} {m : MethodId} {args : Array Value} {below : List Frame} {meth : Method} {c : Code} {H : Heap} {locs : List Loc} {cells slots : Nat} {free : Addr → Prop} {ls : Array Slot} {rest : List Value} {Qc : Array Value → State → Outcome → State → Prop} {XC : String → State → State → Prop}
    {pc : Nat} {own E : String} {ce : Cell} {q : Addr} {mc ms : Nat} (hown : s.vm.findClass own = some m.cls) (hlocks : meth.locks = false)
    (hpass : ∀ z ∈ c.exceptionTable.toList, covers z pc = false ∨ (z.catchType ≠ 0 ∧ ∃ nm : String, (Cond.classLink own z.catchType nm).before args s = true ∧ va_Nc E nm s)) (hcell : H[q]? = some ce) (hv : ce.vm = .none) (hcl : s.vm.findClass E = some ce.cls)
    (hx : ∀ t : State, t.heap = H → s.vm.Alike t.vm → XC E s t) (hf : ∀ z ∈ locs, free z.base) (hc : cells ≤ mc) (hs : slots ≤ ms) :
    vx_W p l e R s m args below meth c H locs cells slots (vx_MQ below Qc XC args s mc ms free) (F0 m pc ls rest) q := by
  intro T hT X
  have hpl : e.platform.magicAccessors = ({} : Platform).magicAccessors := by rw [X.admits.platform]
  obtain ⟨vm', hW', X', st⟩ := X.outThrough hlocks q (g := F0 m pc ls rest) rfl rfl rfl (cell := ce) (by rw [hT]; exact hcell) (by rw [hv]; rfl)
    (by obtain ⟨k9, h9, -⟩ := Vm.findClass_spec hcl; exact ⟨k9, h9⟩) (fun z hz => by
      rcases hpass z hz with h | ⟨hz0, nm, hl1, hn1⟩
      · exact Or.inl h
      · obtain ⟨c6, hc6, hcl6⟩ := Cond.classLink_spec hown hl1 e.platform hpl
        obtain ⟨a8, b8, h1, h2, h3⟩ := hn1
        cases Option.some.inj (h1.symm.trans hcl)
        cases Option.some.inj (h2.symm.trans hc6)
        exact Or.inr ⟨hz0, _, hcl6, h3⟩)
  obtain ⟨g₀, hfr⟩ := X'.frames_eq
  have hcell9 : ((T.setVm vm').setFrames (.throwing q :: below)).heap[q]? = some ce := by
    show T.heap[q]? = some ce
    rw [hT]; exact hcell
  have hend : Ended ((T.setVm vm').setFrames (.throwing q :: below)) below (.threw q) := State.frames_setFrames _ (State.cur_lt_of_frames hfr)
  refine ⟨(T.setVm vm').setFrames (.throwing q :: below), ?_, .threw q, X'.here.running, hend, Or.inr ⟨q, rfl, E, ce, locs, hx _ hT (X'.ends _).1.alike, hcell9, hv, hcl, (X'.ends _).1, (X'.ends _).2.mono hc hs, hf⟩⟩
  rw [X.pushThrowing_eq]
  exact st
/-- a thing of a world lies in the heap -/
theorem vx_lt {D : va_G} {cl : List vw_C} {ws : va_W} {H1 : Heap} (h : va_P D cl ws H1) {k : Nat} {q : Nat × va_E} (hk : ws[k]? = some q) : q.1 < H1.size := (h k q hk).lt
end VXS
/-! ===== END ===== -/
/-! ===== BEGIN methods with a table of their own: called by a name, returning or throwing ===== -/
section VXH
/-! vx_backW, vx_callVX, vx_callSX, vx_callVW, vx_runVW, vx_runVX, vx_runSX, vx_ofWH follow the same proofs as their sisters above (Free/Laws.lean, Shelf42/LK1.lean); vx_outP calls Shelf42/NT130.lean (outThrough). -/
section
variable {l : Launch} {R : Room} {p : Program} {e : Env} {below : List Frame} {s : State} {sargs : Array Value} {y : MethodName} {len W9 : Nat}
theorem vx_backW {ws : List Cond} {rm : Room} {Pc : Array Value → State → Prop} {Qc : Array Value → State → Outcome → State → Prop} {XC : String → State → State → Prop} {mc ms : Nat} {free : Addr → Prop} {bytes : ByteArray} {maxL : Nat} {ret : Option FieldType} {hh : List (Nat × Nat × Nat × Nat)}
    (hM : vx_Met l y ws rm Pc Qc XC mc ms free) (hblind : FrameBlind Pc) (hrc : rm.cells = mc) (hrs : rm.slots = ms)
    (hframes : rm.frames + 1 ≤ R.frames) (hlocals : W9 + (maxL + 11) + rm.locals ≤ R.locals)
    (hws : ∀ w ∈ ws, ∀ a' U, s.WarmedH U.vm → w.before a' U = true) (hcode : Cond.codeWith y bytes maxL ret hh ∈ ws) (hinit : ∀ a' U, s.WarmedH U.vm → (Cond.initialized y.cls).before a' U = true) :
    vx_Back l R p e below s sargs y len W9 (PreOf R mc ms Pc) (PostOf Qc mc ms free) (vx_Post XC mc ms free) := by
  intro m meth c A g ig mk a X hg hsize hdg hW hn hp
  have h1 : (headSpec ws rm).pre.before a A.U = true := atoms_intro fun w hw => hws w hw _ _ X.warmed
  have h2 : (Cond.codeWith y bytes maxL ret hh).before a A.U = true := hws _ hcode _ _ X.warmed
  have h3 : (Cond.initialized y.cls).before a A.U = true := hinit _ _ X.warmed
  have h4 : A.cells + (headSpec ws rm).room.cells ≤ R.cells := by rw [show (headSpec ws rm).room.cells = mc from hrc]; exact hp.1
  have h5 : A.slots + (headSpec ws rm).room.slots ≤ R.slots := by rw [show (headSpec ws rm).room.slots = ms from hrs]; exact hp.2.1
  have hPc : Pc a (A.U.calling g mk a) := hblind _ _ _ _ hp.2.2
  obtain ⟨U, Ls, c0, s0⟩ := A
  dsimp only [Pt.U, Pt.locs, Pt.cells, Pt.slots] at h1 h2 h3 h4 h5 X hn hPc ⊢
  obtain ⟨m9, methY, cY, hn9, hmY, hcY, -, hlY, -⟩ := Cond.codeWith_spec h2
  cases Option.some.inj (hn9.symm.trans hn)
  obtain ⟨kY, hkY, -⟩ := className_of_methodNamed hn
  have hinitY : kY.init = .initialized := Cond.initialized_spec (findClass_of_methodNamed hn) hkY h3
  have h : At U g.method c below := by rw [hg]; exact X.here
  have hlocals9 : W9 + (maxL + 11) + (headSpec ws rm).room.locals ≤ R.locals := hlocals
  have happ : (headSpec ws rm).appliesLoose y e.platform (U.calling g mk a) = true :=
    Spec.appliesLoose_calling (g := g) h hdg hn hkY hinitY
      (X.room_calling (g := g) (R' := (headSpec ws rm).room) hsize hmY hcY hframes (by rw [hlY]; omega) h4 h5) h1
  obtain ⟨mid, hmid⟩ := h.above
  have hfr : (U.setTop g).frames = (.java g :: mid) ++ below := by rw [State.frames_setTop' g h.top, hmid]; rfl
  obtain ⟨o, s₂, hsteps, -, hend, hq⟩ := Steps.callFree hM p X.admits X.cas X.clock (acts := []) hfr happ hPc trivial
  have hq' : vx_Q Qc XC mc ms free a (U.calling g mk a) o s₂ := hq
  rw [State.frames_setTop' g h.top] at hend
  obtain ⟨g₀, hg0⟩ := Option.isSome_iff_exists.mp h.top
  obtain ⟨r, hr⟩ := State.topJava?_eq_some.mp hg0
  have hr' : (({ U with heap := s₂.heap, slotsUsed := s₂.slotsUsed } : State).setVm s₂.vm).frames = .java g₀ :: r := hr
  rcases hq' with ⟨hqc, L, hfe, hL⟩ | ⟨q, rfl, E, ce, L, hx, hce, hcv, hcl, hW₂, hsm, hL⟩
  · obtain ⟨⟨v, rfl⟩, hW₂, e2, q2, q3, q4, q5, q6⟩ := id hfe
    have e3 : s₂ = ({ (U.calling g mk a).setFrames s₂.frames with heap := s₂.heap, slotsUsed := s₂.slotsUsed } : State).setVm s₂.vm := by
      have : s₂ = ({ s₂ with vm := (U.calling g mk a).vm } : State).setVm s₂.vm := rfl
      rw [e2] at this
      exact this
    obtain ⟨c₂, i₂, len₂, hc₂, hd₂, hf₂⟩ := hend
    have hW' : U.WarmedH s₂.vm := hW₂
    have hcc : c₂ = c := by
      have h1 : s₂.code? g.method = U.code? g.method := by
        rw [State.code?_eq, State.code?_eq, hW'.alike.method?]
      exact Option.some.inj (hc₂.symm.trans (h1.trans h.code))
    subst hcc
    have hlen : len₂ = len := by rw [hdg] at hd₂; cases hd₂; rfl
    subst hlen
    have hs₂ : s₂ = (({ U with heap := s₂.heap, slotsUsed := s₂.slotsUsed } : State).setVm s₂.vm).setTop { g with pc := g.pc + len₂, stack := v.toList ++ g.stack } := by
      refine e3.trans ?_
      rw [hf₂, State.calling_eq h.top, State.setFrames_setFrames, State.setTop_of_frames _ hr', hr]
      rfl
    have hsame : U.sameButNew ({ U with heap := s₂.heap, slotsUsed := s₂.slotsUsed } : State) L mc ms := by
      refine ⟨?_, q2, q3, q4, q5, q6⟩
      obtain ⟨t, ht, -⟩ := State.frames_cons hr
      show ({ U with heap := s₂.heap, slotsUsed := s₂.slotsUsed } : State) = { U.setFrames U.frames with heap := s₂.heap, slotsUsed := s₂.slotsUsed }
      rw [State.setFrames_self ht]
    subst hg
    refine Or.inl ⟨v, ⟨(({ U with heap := s₂.heap, slotsUsed := s₂.slotsUsed } : State).setVm s₂.vm), Ls ++ L, c0 + mc, s0 + ms⟩,
      ⟨X.admits, X.cas, X.clock, X.frames, X.room, X.hears, X.method, X.code, (X.here.setHeapUsed s₂.heap s₂.slotsUsed).setVm hW'.alike, X.tail, State.WarmedH.trans X.warmed hW', X.limits, X.bytes, X.same.trans (hsame.setVm s.vm)⟩,
      ⟨g, mk, s₂, L, rfl, rfl, hqc, rfl, hL, rfl, rfl⟩, ?_⟩
    show Steps p.tables e below _ ((({ U with heap := s₂.heap, slotsUsed := s₂.slotsUsed } : State).setVm s₂.vm).setTop { g with pc := g.pc + len₂, stack := v.toList ++ g.stack })
    rw [← hs₂]
    exact hsteps
  · obtain ⟨e2, q2, q3, q4, q5, q6⟩ := id hsm
    have e3 : s₂ = ({ (U.calling g mk a).setFrames s₂.frames with heap := s₂.heap, slotsUsed := s₂.slotsUsed } : State).setVm s₂.vm := by
      have : s₂ = ({ s₂ with vm := (U.calling g mk a).vm } : State).setVm s₂.vm := rfl
      rw [e2] at this
      exact this
    have hf₂ : s₂.frames = .throwing q :: .java g :: U.frames.tail := hend
    have hW' : U.WarmedH s₂.vm := hW₂
    have hs₂ : s₂ = ((({ U with heap := s₂.heap, slotsUsed := s₂.slotsUsed } : State).setVm s₂.vm).setTop g).pushFrame (.throwing q) := by
      refine e3.trans ?_
      rw [hf₂, State.calling_eq h.top, State.setFrames_setFrames, State.pushFrame, State.frames_setTop _ hr', State.setTop_of_frames _ hr', State.setFrames_setFrames, hr]
      rfl
    have hsame : U.sameButNew ({ U with heap := s₂.heap, slotsUsed := s₂.slotsUsed } : State) L mc ms := by
      refine ⟨?_, q2, q3, q4, q5, q6⟩
      obtain ⟨t, ht, -⟩ := State.frames_cons hr
      show ({ U with heap := s₂.heap, slotsUsed := s₂.slotsUsed } : State) = { U.setFrames U.frames with heap := s₂.heap, slotsUsed := s₂.slotsUsed }
      rw [State.setFrames_self ht]
    subst hg
    refine Or.inr ⟨q, ⟨(({ U with heap := s₂.heap, slotsUsed := s₂.slotsUsed } : State).setVm s₂.vm), Ls ++ L, c0 + mc, s0 + ms⟩,
      ⟨X.admits, X.cas, X.clock, X.frames, X.room, X.hears, X.method, X.code, (X.here.setHeapUsed s₂.heap s₂.slotsUsed).setVm hW'.alike, X.tail, State.WarmedH.trans X.warmed hW', X.limits, X.bytes, X.same.trans (hsame.setVm s.vm)⟩,
      ⟨g, mk, s₂, L, E, ce, rfl, rfl, hx, hce, hcv, hcl, rfl, hL, rfl, rfl⟩, ?_⟩
    show Steps p.tables e below _ (((({ U with heap := s₂.heap, slotsUsed := s₂.slotsUsed } : State).setVm s₂.vm).setTop g).pushFrame (.throwing q))
    rw [← hs₂]
    exact hsteps
end
variable {p : Program} {l : Launch} {e : Env} {R : Room} {s : State} {m : MethodId} {args : Array Value} {below : List Frame} {meth : Method} {c : Code} {T : State} {H : Heap} {locs : List Loc} {cells slots : Nat}
theorem vx_callVX (X : Stand p l e R s m args below meth c T locs cells slots) (hexec : p.tables.exec = Jvm.exec) {own C : String} {index : Nat} {y : MethodName} {bytes : ByteArray} {maxL : Nat} {ret : Option FieldType} {hh : List (Nat × Nat × Nat × Nat)}
    (hown : s.vm.findClass own = some m.cls) (hlink : (Cond.methodLink own index y).before args s = true) (hinst : (Cond.instanceMethod y).before args s = true) (hsel : (Cond.selects C y y).before args s = true)
    (hcode : (Cond.codeWith y bytes maxL ret hh).before args s = true) (hy : y.cls ≠ "java/lang/invoke/MethodHandle" ∧ y.cls ≠ "java/lang/invoke/VarHandle")
    {W9 : Nat} {Pre : Pt → Array Value → Prop} {Post : Pt → Array Value → Option Value → Pt → Prop} {PostX : Pt → Array Value → Addr → Pt → Prop} (hK : vx_Back l R p e below s args y 3 W9 Pre Post PostX)
    {b : Addr} {cellB : Cell} (hcell : T.heap[b]? = some cellB) (hobj : cellB.vm.isStatics = false) (hcls : s.vm.findClass C = some cellB.cls)
    {g : JFrame} (hg : g.method = m) (hsize : g.locals.size = c.maxLocals) {argsL rest : List Value} (hlen : ∀ sig, parseMethodDescriptor y.desc = some sig → argsL.length = sig.parameters.length)
    (hstack : g.stack = argsL.reverse ++ .ref b :: rest) (hW : 2 * g.monitorRoom + (rest.map fun v => v.category).sum ≤ W9) (hdg : decode c.code g.pc = .ok (.invokevirtual index, 3))
    (hpre : ∀ vm₁, s.WarmedH vm₁ → Pre ⟨T.setVm vm₁, locs, cells, slots⟩ (Value.ref b :: argsL).toArray) :
    (∃ (v : Option Value) (vm₁ : Vm) (B : Pt), s.WarmedH vm₁ ∧ Stand p l e R s m args below meth c B.U B.locs B.cells B.slots ∧ Post ⟨T.setVm vm₁, locs, cells, slots⟩ (Value.ref b :: argsL).toArray v B ∧
      ∀ target, Steps p.tables e below (B.U.setTop { g with pc := g.pc + 3, stack := v.toList ++ rest }) target → Steps p.tables e below (T.setTop g) target) ∨
    (∃ (q : Addr) (vm₁ : Vm) (B : Pt), s.WarmedH vm₁ ∧ Stand p l e R s m args below meth c B.U B.locs B.cells B.slots ∧ PostX ⟨T.setVm vm₁, locs, cells, slots⟩ (Value.ref b :: argsL).toArray q B ∧
      Steps p.tables e below (T.setTop g) ((B.U.setTop { g with stack := rest }).pushFrame (.throwing q))) := by
  obtain ⟨mk, methM, hnamed, hmethM, hstM, habM⟩ := Cond.instanceMethod_spec hinst
  obtain ⟨m8, methM', cM, hn8, hmethM', -, -, -, -, -, -, hsigM⟩ := Cond.codeWith_spec hcode
  cases Option.some.inj (hn8.symm.trans hnamed)
  cases hmethM.symm.trans hmethM'
  obtain ⟨c2, r2, m2, q1, q2, q3, q4, kP, hkP, hkPi⟩ := Cond.selects_spec hsel
  cases hcls.symm.trans q1
  cases (State.methodFound?_of_named hnamed hy).symm.trans q2
  cases hnamed.symm.trans q3
  have hselP : selectMethod e.platform s.vm cellB.cls mk = .method mk := by rw [Launch.admits_selectMethod X.admits]; exact q4
  obtain ⟨vm₁, X₁, hstep₁⟩ := X.invokevirtual hexec hown hlink hnamed hmethM hstM hkP hkPi hy (a := b) (cell := cellB) hcell
    (fun z h => by rw [h] at hobj; cases hobj) hselP hmethM habM hkP hkPi (g := g) hg (argsL := argsL) (rest := rest) (hlen _ hsigM) hstack hdg
  rcases hK m meth c ⟨T.setVm vm₁, locs, cells, slots⟩ { g with stack := rest } (.invokevirtual index) mk (Value.ref b :: argsL).toArray X₁ hg hsize hdg hW (X₁.named hnamed) (hpre vm₁ X₁.warmed) with ⟨v, B, X', hpost, hsteps⟩ | ⟨q, B, X', hpost, hsteps⟩
  · exact Or.inl ⟨v, vm₁, B, X₁.warmed, X', hpost, fun target h => hstep₁ _ fun acts => by rw [doInvoke_state]; exact hsteps.trans h⟩
  · exact Or.inr ⟨q, vm₁, B, X₁.warmed, X', hpost, hstep₁ _ fun acts => by rw [doInvoke_state]; exact hsteps⟩
theorem vx_callSX (X : Stand p l e R s m args below meth c T locs cells slots) (hexec : p.tables.exec = Jvm.exec) {own : String} {index : Nat} {y : MethodName} {bytes : ByteArray} {maxL : Nat} {ret : Option FieldType} {hh : List (Nat × Nat × Nat × Nat)}
    (hown : s.vm.findClass own = some m.cls) (hlink : (Cond.methodLink own index y).before args s = true) (hstat : (Cond.static y).before args s = true) (hinit : (Cond.initialized y.cls).before args s = true)
    (hcode : (Cond.codeWith y bytes maxL ret hh).before args s = true) (hy : y.cls ≠ "java/lang/invoke/MethodHandle" ∧ y.cls ≠ "java/lang/invoke/VarHandle")
    {W9 : Nat} {Pre : Pt → Array Value → Prop} {Post : Pt → Array Value → Option Value → Pt → Prop} {PostX : Pt → Array Value → Addr → Pt → Prop} (hK : vx_Back l R p e below s args y 3 W9 Pre Post PostX)
    {g : JFrame} (hg : g.method = m) (hsize : g.locals.size = c.maxLocals) {argsL rest : List Value} (hlen : ∀ sig, parseMethodDescriptor y.desc = some sig → argsL.length = sig.parameters.length)
    (hstack : g.stack = argsL.reverse ++ rest) (hW : 2 * g.monitorRoom + (rest.map fun v => v.category).sum ≤ W9) (hdg : decode c.code g.pc = .ok (.invokestatic index, 3))
    (hpre : ∀ vm₁, s.WarmedH vm₁ → Pre ⟨T.setVm vm₁, locs, cells, slots⟩ argsL.toArray) :
    (∃ (v : Option Value) (vm₁ : Vm) (B : Pt), s.WarmedH vm₁ ∧ Stand p l e R s m args below meth c B.U B.locs B.cells B.slots ∧ Post ⟨T.setVm vm₁, locs, cells, slots⟩ argsL.toArray v B ∧
      ∀ target, Steps p.tables e below (B.U.setTop { g with pc := g.pc + 3, stack := v.toList ++ rest }) target → Steps p.tables e below (T.setTop g) target) ∨
    (∃ (q : Addr) (vm₁ : Vm) (B : Pt), s.WarmedH vm₁ ∧ Stand p l e R s m args below meth c B.U B.locs B.cells B.slots ∧ PostX ⟨T.setVm vm₁, locs, cells, slots⟩ argsL.toArray q B ∧
      Steps p.tables e below (T.setTop g) ((B.U.setTop { g with stack := rest }).pushFrame (.throwing q))) := by
  obtain ⟨mk, methM, cM, hnamed, hmethM, -, -, -, -, -, -, hsigM⟩ := Cond.codeWith_spec hcode
  have hstatic : methM.isStatic = true := Cond.static_spec hnamed hmethM hstat
  obtain ⟨kP, hkP, -⟩ := className_of_methodNamed hnamed
  have hinitP : kP.init = .initialized := Cond.initialized_spec (findClass_of_methodNamed hnamed) hkP hinit
  obtain ⟨vm₁, X₁, hstep₁⟩ := X.invokestatic hexec hown hlink hnamed hmethM hstatic hkP hinitP hy (g := g) hg (argsL := argsL) (rest := rest) (hlen _ hsigM) hstack hdg
  rcases hK m meth c ⟨T.setVm vm₁, locs, cells, slots⟩ { g with stack := rest } (.invokestatic index) mk argsL.toArray X₁ hg hsize hdg hW (X₁.named hnamed) (hpre vm₁ X₁.warmed) with ⟨v, B, X', hpost, hsteps⟩ | ⟨q, B, X', hpost, hsteps⟩
  · exact Or.inl ⟨v, vm₁, B, X₁.warmed, X', hpost, fun target h => hstep₁ _ fun acts => by rw [doInvoke_state]; exact hsteps.trans h⟩
  · exact Or.inr ⟨q, vm₁, B, X₁.warmed, X', hpost, hstep₁ _ fun acts => by rw [doInvoke_state]; exact hsteps⟩
theorem vx_callVW (X : Stand p l e R s m args below meth c T locs cells slots) (hexec : p.tables.exec = Jvm.exec) {own C : String} {index : Nat} {y : MethodName} {bytes : ByteArray} {maxL : Nat} {ret : Option FieldType} {hh : List (Nat × Nat × Nat × Nat)}
    (hown : s.vm.findClass own = some m.cls) (hlink : (Cond.methodLink own index y).before args s = true) (hinst : (Cond.instanceMethod y).before args s = true) (hsel : (Cond.selects C y y).before args s = true)
    (hcode : (Cond.codeWith y bytes maxL ret hh).before args s = true) (hy : y.cls ≠ "java/lang/invoke/MethodHandle" ∧ y.cls ≠ "java/lang/invoke/VarHandle")
    {W9 : Nat} {Pre : Pt → Array Value → Prop} {Post : Pt → Array Value → Option Value → Pt → Prop} (hK : Back l R p e below s args y 3 W9 Pre Post)
    {b : Addr} {cellB : Cell} (hcell : T.heap[b]? = some cellB) (hobj : cellB.vm.isStatics = false) (hcls : s.vm.findClass C = some cellB.cls)
    {g : JFrame} (hg : g.method = m) (hsize : g.locals.size = c.maxLocals) {argsL rest : List Value} (hlen : ∀ sig, parseMethodDescriptor y.desc = some sig → argsL.length = sig.parameters.length)
    (hstack : g.stack = argsL.reverse ++ .ref b :: rest) (hW : 2 * g.monitorRoom + (rest.map fun v => v.category).sum ≤ W9) (hdg : decode c.code g.pc = .ok (.invokevirtual index, 3))
    (hpre : ∀ vm₁, s.WarmedH vm₁ → Pre ⟨T.setVm vm₁, locs, cells, slots⟩ (Value.ref b :: argsL).toArray) :
    ∃ (v : Option Value) (vm₁ : Vm) (B : Pt), s.WarmedH vm₁ ∧ Stand p l e R s m args below meth c B.U B.locs B.cells B.slots ∧ Post ⟨T.setVm vm₁, locs, cells, slots⟩ (Value.ref b :: argsL).toArray v B ∧
      ∀ target, Steps p.tables e below (B.U.setTop { g with pc := g.pc + 3, stack := v.toList ++ rest }) target → Steps p.tables e below (T.setTop g) target := by
  obtain ⟨mk, methM, hnamed, hmethM, hstM, habM⟩ := Cond.instanceMethod_spec hinst
  obtain ⟨m8, methM', cM, hn8, hmethM', -, -, -, -, -, -, hsigM⟩ := Cond.codeWith_spec hcode
  cases Option.some.inj (hn8.symm.trans hnamed)
  cases hmethM.symm.trans hmethM'
  obtain ⟨c2, r2, m2, q1, q2, q3, q4, kP, hkP, hkPi⟩ := Cond.selects_spec hsel
  cases hcls.symm.trans q1
  cases (State.methodFound?_of_named hnamed hy).symm.trans q2
  cases hnamed.symm.trans q3
  have hselP : selectMethod e.platform s.vm cellB.cls mk = .method mk := by rw [Launch.admits_selectMethod X.admits]; exact q4
  obtain ⟨vm₁, X₁, hstep₁⟩ := X.invokevirtual hexec hown hlink hnamed hmethM hstM hkP hkPi hy (a := b) (cell := cellB) hcell
    (fun z h => by rw [h] at hobj; cases hobj) hselP hmethM habM hkP hkPi (g := g) hg (argsL := argsL) (rest := rest) (hlen _ hsigM) hstack hdg
  obtain ⟨v, B, X', hpost, hsteps⟩ := hK m meth c ⟨T.setVm vm₁, locs, cells, slots⟩ { g with stack := rest } (.invokevirtual index) mk (Value.ref b :: argsL).toArray X₁ hg hsize hdg hW (X₁.named hnamed) (hpre vm₁ X₁.warmed)
  exact ⟨v, vm₁, B, X₁.warmed, X', hpost, fun target h => hstep₁ _ fun acts => by rw [doInvoke_state]; exact hsteps.trans h⟩
abbrev vx_CVW (R : Room) (s : State) (args : Array Value) (own C : String) (index : Nat) (y : MethodName) (bytes : ByteArray) (maxL : Nat) (ret : Option FieldType) (hh : List (Nat × Nat × Nat × Nat)) (ws : List Cond) (rm : Room) (mc ms n : Nat) : Prop :=
  (rm.cells = mc ∧ rm.slots = ms ∧ rm.frames + 1 ≤ R.frames ∧ 8 + (maxL + 11) + rm.locals ≤ R.locals ∧ (∀ w ∈ ws, ∀ (a' : Array Value) (U : State), s.WarmedH U.vm → w.before a' U = true) ∧ Cond.codeWith y bytes maxL ret hh ∈ ws) ∧
  (Cond.codeWith y bytes maxL ret hh).before args s = true ∧ (Cond.initialized y.cls).before args s = true ∧ (y.cls ≠ "java/lang/invoke/MethodHandle" ∧ y.cls ≠ "java/lang/invoke/VarHandle") ∧
  (∀ sig, parseMethodDescriptor y.desc = some sig → n = sig.parameters.length) ∧ (Cond.methodLink own index y).before args s = true ∧ (Cond.instanceMethod y).before args s = true ∧ (Cond.selects C y y).before args s = true
theorem vx_cwVW {own C : String} {index maxL mc ms : Nat} {y : MethodName} {bytes : ByteArray} {ret : Option FieldType} {hh : List (Nat × Nat × Nat × Nat)} {Ts ws ws' : List Cond} {rm : Room} (n : Nat) (ht : ∀ w ∈ Ts, w.before args s = true) (hT : GoodIn Ts (wsV own index C y ws)) (hw : ws = Cond.codeWith y bytes maxL ret hh :: ws') (hrc : rm.cells = mc) (hrs : rm.slots = ms)
    (hd : y.cls = C ∧ y.cls ≠ "java/lang/invoke/MethodHandle" ∧ y.cls ≠ "java/lang/invoke/VarHandle" ∧ (parseMethodDescriptor y.desc).map (fun d => d.parameters.length) = some n) (hR : rm.frames + 1 ≤ R.frames ∧ 8 + (maxL + 11) + rm.locals ≤ R.locals) :
    vx_CVW R s args own C index y bytes maxL ret hh ws rm mc ms n := by
  obtain ⟨hC, hd⟩ := hd
  subst hC
  have ok : ∀ w ∈ wsV own index y.cls y ws, w.before args s = true := fun w h => ht w (hT w h).1
  have hG : GoodIn Ts ws := fun w h => hT w (by unfold wsV; exact List.mem_append_right _ h)
  have hc : Cond.codeWith y bytes maxL ret hh ∈ ws := by rw [hw]; exact List.mem_cons_self
  refine ⟨⟨hrc, hrs, hR.1, hR.2, pay_in ht hG, hc⟩, ht _ (hG _ hc).1, ok _ (by simp [wsV]), ⟨hd.1, hd.2.1⟩, fun sig h => ?_, ok _ (by simp [wsV]), ok _ (by simp [wsV]), ok _ (by simp [wsV])⟩
  have h2 := hd.2.2
  rw [h] at h2
  exact (Option.some.inj h2).symm
theorem vx_runVW {y : MethodName} {bytes cc : ByteArray} {maxL nL mc ms n index : Nat} {ret : Option FieldType} {hh : List (Nat × Nat × Nat × Nat)} {ws : List Cond} {rm : Room} {Pc : Array Value → State → Prop} {Qc : Array Value → State → Outcome → State → Prop} {free : Addr → Prop} {Ts : List Cond} {own C : String} {b : Addr} {As rest : List Value} {g : JFrame}
    (S : CallFix p m c cc nL s args Ts own) (hM : Met l y ws rm Pc Qc mc ms free) (cw : vx_CVW R s args own C index y bytes maxL ret hh ws rm mc ms n) (hp : PreV s H C b Pc As)
    (hg : g.method = m) (hn : As.length = n) (hsize : g.locals.size = nL) (hstack : g.stack = As.reverse ++ .ref b :: rest) (hW : 2 * g.monitorRoom + (rest.map fun v => v.category).sum ≤ 8) (hdg : decode cc g.pc = .ok (.invokevirtual index, 3)) (hf : cells + mc ≤ R.cells ∧ slots + ms ≤ R.slots) :
    va_Run p l e R s m args below meth c H locs cells slots mc ms g rest (Qc (Value.ref b :: As).toArray) free := by
  obtain ⟨⟨hrc, hrs, hfr, hlo, hws, hcw⟩, hcode, hini, hy, hlen, hl, hin, hse⟩ := cw
  have hK : Back l R p e below s args y 3 8 (PreOf R mc ms Pc) (PostOf Qc mc ms free) := va_backW (hh := hh) (bytes := bytes) (maxL := maxL) (ret := ret) hM hp.1 hrc hrs hfr hlo hws hcw (fun a' U hW => word_at hW (Or.inl (by first | rfl | simp [Cond.onTables, Cond.keeps, Cond.steady])) hini)
  obtain ⟨hx, hb, hml, ho, -⟩ := S
  obtain ⟨-, ⟨cellB, hcB, hoB, hclB⟩, hPc⟩ := hp
  intro T hT X
  obtain ⟨v, vm₁, ⟨U', l2, c2, s2⟩, hW₁, X', ⟨g', mk, t, L, e1, e2, hq, h1, hL, h2, h3⟩, st⟩ := vx_callVW X hx (C := C) (hh := hh) (bytes := bytes) (maxL := maxL) (ret := ret) ho hl hin hse hcode hy hK (by rw [hT]; exact hcB) hoB hclB hg (hsize.trans hml.symm) (argsL := As) (rest := rest) (fun sig h => hn.trans (hlen sig h)) hstack hW (by rw [hb]; exact hdg)
    (fun vm₁ hW₁ => ⟨hf.1, hf.2, hPc (T.setVm vm₁) hT hW₁⟩)
  dsimp only [Pt.U, Pt.locs, Pt.cells, Pt.slots] at X' e1 e2 h1 h2 h3 st
  subst h1; subst h2; subst h3
  exact ⟨v, (T.setVm vm₁).calling g' mk (Value.ref b :: As).toArray, t, U', L, hT, X', hL, e1, e2, hq, st⟩
section
variable {y : MethodName} {bytes cc : ByteArray} {maxL nL mc ms n index : Nat} {ret : Option FieldType} {ws : List Cond} {rm : Room} {Pc : Array Value → State → Prop} {Qc : Array Value → State → Outcome → State → Prop} {XC : String → State → State → Prop} {free : Addr → Prop} {Ts : List Cond} {own C : String} {b : Addr} {As rest : List Value} {g : JFrame}
theorem vx_runVX {hh : List (Nat × Nat × Nat × Nat)} (S : CallFix p m c cc nL s args Ts own) (hM : vx_Met l y ws rm Pc Qc XC mc ms free) (cw : vx_CVW R s args own C index y bytes maxL ret hh ws rm mc ms n) (hp : PreV s H C b Pc As)
    (hg : g.method = m) (hn : As.length = n) (hsize : g.locals.size = nL) (hstack : g.stack = As.reverse ++ .ref b :: rest) (hW : 2 * g.monitorRoom + (rest.map fun v => v.category).sum ≤ 8) (hdg : decode cc g.pc = .ok (.invokevirtual index, 3)) (hf : cells + mc ≤ R.cells ∧ slots + ms ≤ R.slots) :
    vx_Run p l e R s m args below meth c H locs cells slots mc ms g rest (Qc (Value.ref b :: As).toArray) XC free := by
  obtain ⟨⟨hrc, hrs, hfr, hlo, hws, hcw⟩, hcode, hini, hy, hlen, hl, hin, hse⟩ := cw
  have hK : vx_Back l R p e below s args y 3 8 (PreOf R mc ms Pc) (PostOf Qc mc ms free) (vx_Post XC mc ms free) := vx_backW (hh := hh) (bytes := bytes) (maxL := maxL) (ret := ret) hM hp.1 hrc hrs hfr hlo hws hcw (fun a' U hW => word_at hW (Or.inl (by first | rfl | simp [Cond.onTables, Cond.keeps, Cond.steady])) hini)
  obtain ⟨hx, hb, hml, ho, -⟩ := S
  obtain ⟨-, ⟨cellB, hcB, hoB, hclB⟩, hPc⟩ := hp
  intro T hT X
  rcases vx_callVX X hx (C := C) (hh := hh) (bytes := bytes) (maxL := maxL) (ret := ret) ho hl hin hse hcode hy hK (by rw [hT]; exact hcB) hoB hclB hg (hsize.trans hml.symm) (argsL := As) (rest := rest) (fun sig h => hn.trans (hlen sig h)) hstack hW (by rw [hb]; exact hdg)
    (fun vm₁ hW₁ => ⟨hf.1, hf.2, hPc (T.setVm vm₁) hT hW₁⟩) with ⟨v, vm₁, ⟨U', l2, c2, s2⟩, hW₁, X', ⟨g', mk, t, L, e1, e2, hq, h1, hL, h2, h3⟩, st⟩ | ⟨q, vm₁, ⟨U', l2, c2, s2⟩, hW₁, X', ⟨g', mk, t, L, E, ce, e1, e2, hq, hce, hcv, hcl, h1, hL, h2, h3⟩, st⟩
  · dsimp only [Pt.U, Pt.locs, Pt.cells, Pt.slots] at X' e1 e2 h1 h2 h3 st
    subst h1; subst h2; subst h3
    exact Or.inl ⟨v, (T.setVm vm₁).calling g' mk (Value.ref b :: As).toArray, t, U', L, hT, X', hL, e1, e2, hq, st⟩
  · dsimp only [Pt.U, Pt.locs, Pt.cells, Pt.slots] at X' e1 e2 h1 h2 h3 st hcl
    subst h1; subst h2; subst h3
    exact Or.inr ⟨q, (T.setVm vm₁).calling g' mk (Value.ref b :: As).toArray, t, U', L, E, ce, hT, X', hL, e1, e2, hq, hce, hcv, vx_cls hW₁ hcl, st⟩
theorem vx_runSX {hh : List (Nat × Nat × Nat × Nat)} (S : CallFix p m c cc nL s args Ts own) (hM : vx_Met l y ws rm Pc Qc XC mc ms free) (cw : vx_CSW R s args own index y bytes maxL ret hh ws rm mc ms n) (hp : PreS s H Pc As)
    (hg : g.method = m) (hn : As.length = n) (hsize : g.locals.size = nL) (hstack : g.stack = As.reverse ++ rest) (hW : 2 * g.monitorRoom + (rest.map fun v => v.category).sum ≤ 8) (hdg : decode cc g.pc = .ok (.invokestatic index, 3)) (hf : cells + mc ≤ R.cells ∧ slots + ms ≤ R.slots) :
    vx_Run p l e R s m args below meth c H locs cells slots mc ms g rest (Qc As.toArray) XC free := by
  obtain ⟨⟨hrc, hrs, hfr, hlo, hws, hcw⟩, hcode, hini, hy, hlen, hl, hstt⟩ := cw
  have hK : vx_Back l R p e below s args y 3 8 (PreOf R mc ms Pc) (PostOf Qc mc ms free) (vx_Post XC mc ms free) := vx_backW (hh := hh) (bytes := bytes) (maxL := maxL) (ret := ret) hM hp.1 hrc hrs hfr hlo hws hcw (fun a' U hW => word_at hW (Or.inl (by first | rfl | simp [Cond.onTables, Cond.keeps, Cond.steady])) hini)
  obtain ⟨hx, hb, hml, ho, -⟩ := S
  intro T hT X
  rcases vx_callSX X hx (hh := hh) (bytes := bytes) (maxL := maxL) (ret := ret) ho hl hstt hini hcode hy hK hg (hsize.trans hml.symm) (argsL := As) (rest := rest) (fun sig h => hn.trans (hlen sig h)) hstack hW (by rw [hb]; exact hdg)
    (fun vm₁ hW₁ => ⟨hf.1, hf.2, hp.2 (T.setVm vm₁) hT hW₁⟩) with ⟨v, vm₁, ⟨U', l2, c2, s2⟩, hW₁, X', ⟨g', mk, t, L, e1, e2, hq, h1, hL, h2, h3⟩, st⟩ | ⟨q, vm₁, ⟨U', l2, c2, s2⟩, hW₁, X', ⟨g', mk, t, L, E, ce, e1, e2, hq, hce, hcv, hcl, h1, hL, h2, h3⟩, st⟩
  · dsimp only [Pt.U, Pt.locs, Pt.cells, Pt.slots] at X' e1 e2 h1 h2 h3 st
    subst h1; subst h2; subst h3
    exact Or.inl ⟨v, (T.setVm vm₁).calling g' mk As.toArray, t, U', L, hT, X', hL, e1, e2, hq, st⟩
  · dsimp only [Pt.U, Pt.locs, Pt.cells, Pt.slots] at X' e1 e2 h1 h2 h3 st hcl
    subst h1; subst h2; subst h3
    exact Or.inr ⟨q, (T.setVm vm₁).calling g' mk As.toArray, t, U', L, E, ce, hT, X', hL, e1, e2, hq, hce, hcv, vx_cls hW₁ hcl, st⟩
end
end VXH
theorem vx_ofWH {l : Launch} {y : MethodName} {ws ws' : List Cond} {rm : Room} {Pc : Array Value → State → Prop} {Qc : Array Value → State → Outcome → State → Prop} {XC : String → State → State → Prop} {mc ms : Nat} {free : Addr → Prop} {cc : ByteArray} {maxL : Nat} {ret : Option FieldType} {hh : List (Nat × Nat × Nat × Nat)}
    (hy : plainName y.cls = true) (hw : ws = Cond.codeWith y cc maxL ret hh :: ws')
    (body : ∀ p e s m args below meth c s₁, BodyLoose p l y (headSpec ws rm) cc maxL ret e s m args below meth c s₁ → c.maxLocals = maxL → Pc args s →
      W p l e (headSpec ws rm).room s m args below meth c s.heap [] 0 0 (vx_MQ below Qc XC args s mc ms free) (entryFrame m args maxL)) : vx_Met l y ws rm Pc Qc XC mc ms free := by
  refine MetFree.of_bodyS (code := cc) (maxLocals := maxL) (ret := ret) hy ?_ ?_
  · intro args s m h hn
    obtain ⟨m9, meth, c, hn9, h1, h2, h3, h4, -, h5, h6, -⟩ := Cond.codeWith_spec (atoms_spec (ws := ws) h _ (by rw [hw]; exact List.mem_cons_self))
    cases hn.symm.trans hn9
    exact ⟨meth, c, h1, h2, h3, h4, h5, h6⟩
  · intro p e s m args below meth c s₁ B hml hP _
    have hh0 : s₁.heap = s.heap := by rw [B.state]; rfl
    obtain ⟨t, a1, o, b1, b2, b3⟩ := body p e s m args below meth c s₁ B hml hP s₁ hh0 (Stand.of_body B)
    exact ⟨t, o, a1, b1, b2, b3⟩
/-! ===== END ===== -/
/-! ===== BEGIN what the machine throws by itself, no traces kept ===== -/
section VXM
set_option maxHeartbeats 1000000 in
/-- the machine throws cls with the message text, no traces kept: from its note over the frame g to 'throwing' over the same frame (follows the proofs of Stand.vmThrowsMessage, Shelf/KitTracedVmS.lean, and Stand.throwsMessageColdBareV, StandMessageColdV.lean, without the step out of the frame) -/
theorem vx_vmAt {p : Program} {l : Launch} {e : Env} {R : Room} {s : State} {m₀ : MethodId} {args : Array Value} {below : List Frame} {meth : Method} {c : Code} {W : State} {locs : List Loc} {cells slots : Nat}
    (X : Stand p l e R s m₀ args below meth c W locs cells slots) (hexec : p.tables.exec = Jvm.exec) (htr : e.platform.stackTraces = false) {cls : String} {names : List String} {text : String}
    (hcls : Bundle.fit cls = true) (hnames : ∀ n ∈ names, Bundle.fit n = true) (hsoe : (cls == "java/lang/StackOverflowError") = false) (hoom : (cls == "java/lang/OutOfMemoryError") = false)
    (h : ∀ a ∈ Bundle.messageArmAtoms cls names, a.before args s = true)
    (hlocs : ∀ x ∈ locs, ∀ cell, s.heap[x.base]? = some cell → cell.vm.isStatics = false)
    (htext : (text == notModelled) = false) (hlimit : ¬ (stringBytes (stringToUtf16 text)).size > e.platform.arrayLengthLimit) (hheap : ¬ (stringBytes (stringToUtf16 text)).size * componentBytes .byte > e.platform.maxHeapBytes)
    {g : JFrame} (hg : g.method = m₀) (hsize : g.locals.size = c.maxLocals)
    (hRframes : names.length + 4 < R.frames) (hRlocals : 2 * g.monitorRoom + (g.stack.map fun v => v.category).sum + 10240 ≤ R.locals) (hshort : 13 * names.length + 55 ≤ 10240)
    (hRcells : cells + 3 ≤ R.cells) (hRslots : slots + ((stringBytes (stringToUtf16 text)).size + 4 + 6) ≤ R.slots) (hlocks : meth.locks = false) :
    ∃ (S : State) (q : Addr) (ce : Cell), (∀ target, Steps p.tables e below ((S.setTop g).pushFrame (.throwing q)) target → Steps p.tables e below ((W.setTop g).pushFrame (.throwNew cls (some text) none)) target) ∧
      Stand p l e R s m₀ args below meth c S locs (cells + 3) (slots + ((stringBytes (stringToUtf16 text)).size + 4 + 6)) ∧ S.heap[q]? = some ce ∧ s.vm.findClass cls = some ce.cls ∧ ce.vm = .none := by
  have howns : e.platform.frameOwnsMonitors = true := by rw [X.admits.platform]
  have hfin : e.platform.finalization = false := by rw [X.admits.platform]
  have hpl : e.platform.magicAccessors = ({} : Platform).magicAccessors := by rw [X.admits.platform]
  have a : ∀ x, x ∈ Bundle.messageArmAtoms cls names → x.holds args s none s [] = true := fun x hx => h x hx
  obtain ⟨T, Z0, L, -, Y⟩ := ThrowableC.of_atoms (args := args) howns hfin hpl (fun x hx => h x (by simp [Bundle.messageArmAtoms, hx]))
  obtain ⟨Z, M, LZ, LM, hnZ⟩ := Init0T.ofS_atoms (args := args) hpl L Y (fun x hx => h x (by simp [Bundle.messageArmAtoms, hx]))
  obtain ⟨P1, Ps, hlen, L1, hL, hP1m, hlink1, hlink⟩ := Bundle.chainS (args := args) hpl hnZ names cls hcls hnames (fun x hx => h x (by simp [Bundle.messageArmAtoms, hx]))
  obtain ⟨Zs, LZs, hn4, hfitv, hfitc⟩ := StringT.of_atoms (args := args) (fun x hx => h x (by simp [Bundle.messageArmAtoms, hx]))
  have hfound : s.vm.findClass cls = some P1.m.cls := findClass_of_methodNamed hP1m
  obtain ⟨c1, kX, hc1, hk, hord, -, -, hn6⟩ := Cond.instantiable_spec (a (.instantiable cls 6) (by simp [Bundle.messageArmAtoms]))
  cases Option.some.inj (hc1.symm.trans hfound)
  have hinit := Cond.initialized_spec hfound hk (a (.initialized cls) (by simp [Bundle.messageArmAtoms]))
  have hctor : kX.findMethod "<init>" "(Ljava/lang/String;)V" = some P1.m.idx := findMethod_of_methodNamed hP1m hk
  have hsel0 : selectMethod e.platform s.vm P1.m.cls T.fill0 = .method T.fill0 := by
    obtain ⟨c2, r2, m2, q1, q2, q3, q4, -⟩ := Cond.selects_spec (a (.selects cls Bundle.tFill0 Bundle.tFill0) (by simp [Bundle.messageArmAtoms]))
    cases Option.some.inj (q1.symm.trans hfound)
    cases Option.some.inj (q2.symm.trans (State.methodFound?_of_named Y.fill0 (by decide)))
    cases Option.some.inj (q3.symm.trans Y.fill0)
    rw [Launch.admits_selectMethod X.admits]; exact q4
  have hselF : selectMethod e.platform s.vm P1.m.cls T.fill = .method T.fill := by
    obtain ⟨c2, r2, m2, q1, q2, q3, q4, -⟩ := Cond.selects_spec (a (.selects cls Bundle.tFill Bundle.tFill) (by simp [Bundle.messageArmAtoms]))
    cases Option.some.inj (q1.symm.trans hfound)
    cases Option.some.inj (q2.symm.trans (State.methodFound?_of_named Y.fill (by decide)))
    cases Option.some.inj (q3.symm.trans Y.fill)
    rw [Launch.admits_selectMethod X.admits]; exact q4
  obtain ⟨cellS0, hcS0, hiss⟩ := Y.statics
  obtain ⟨u0, hu0⟩ := Cond.staticRefV Y.unassigned L.unassignedStatic L.statics hcS0 hiss (a (.isRef (.static Bundle.tN "UNASSIGNED_STACK" Bundle.steD)) (by simp [Bundle.messageArmAtoms]))
  obtain ⟨sen, hsen⟩ := Cond.staticRefV Y.sentinel L.sentinelStatic L.statics hcS0 hiss (a (.isRef (.static Bundle.tN "SUPPRESSED_SENTINEL" Bundle.listD)) (by simp [Bundle.messageArmAtoms]))
  obtain ⟨ci198, i198, fB, hk198, hg198, ha198, hsB, -, hnB, htB, hffB⟩ := Cond.ownField (t := .object "java/lang/Object") Y.found L.cls (by decide +kernel) (a (.fieldLink Bundle.tN 198 Bundle.tN "backtrace" "Ljava/lang/Object;") (by simp [Bundle.messageArmAtoms])) (a (.lays Bundle.tN Bundle.tN "backtrace" "Ljava/lang/Object;") (by simp [Bundle.messageArmAtoms])) e.platform hpl
  obtain ⟨cellS, hcS', heS, -, hkeep⟩ := X.same.2.2.2.2.2 T.aS cellS0 hcS0
  have hcellS : W.heap[T.aS]? = some cellS := hcS'
  have hout' : ∀ i, (⟨T.aS, i⟩ : Loc) ∉ locs := fun i hmem => by
    have := hlocs _ hmem cellS0 hcS0
    rw [hiss] at this; cases this
  have hknownS : cellS.vm ≠ .unknown := by
    rw [heS]; intro hu
    rw [show cellS0.vm = .unknown from hu] at hiss
    cases hiss
  have hvU : cellS.slots[T.fUnassigned.slot]? = some u0.v := by rw [hkeep _ (hout' _)]; exact hu0
  have hvSen : cellS.slots[T.fSentinel.slot]? = some sen.v := by rw [hkeep _ (hout' _)]; exact hsen
  obtain ⟨iM, hffM⟩ := Y.msg
  obtain ⟨tyC, dC, hdC, hdnC⟩ := Cond.laysAt hfound hk Y.cause (a (.lays cls Bundle.tN "cause" "Ljava/lang/Throwable;") (by simp [Bundle.messageArmAtoms]))
  obtain ⟨tyS, dS, hdS, hdnS⟩ := Cond.laysAt hfound hk Y.stack (a (.lays cls Bundle.tN "stackTrace" Bundle.steD) (by simp [Bundle.messageArmAtoms]))
  obtain ⟨tyP, dP, hdP, hdnP⟩ := Cond.laysAt hfound hk Y.supp (a (.lays cls Bundle.tN "suppressedExceptions" Bundle.listD) (by simp [Bundle.messageArmAtoms]))
  obtain ⟨tyM, dM, hdM, hdnM⟩ := Cond.laysAt hfound hk hffM (a (.lays cls Bundle.tN "detailMessage" "Ljava/lang/String;") (by simp [Bundle.messageArmAtoms]))
  obtain ⟨tyB, dB, hdB, hdnB⟩ := Cond.laysAt hfound hk hffB (a (.lays cls Bundle.tN "backtrace" "Ljava/lang/Object;") (by simp [Bundle.messageArmAtoms]))
  have bC := Cond.laysApart hdB hdC hdnB hdnC (by rw [hnB, Y.causeName]; decide)
  have bS := Cond.laysApart hdB hdS hdnB hdnS (by rw [hnB, Y.stackName]; decide)
  have bP := Cond.laysApart hdB hdP hdnB hdnP (by rw [hnB, Y.suppName]; decide)
  have hbk : ((preparedCellV T.toThrowableT (freshCell P1.m.cls kX) (W.heap.size + 2) u0 sen).withEntry W.cur).slots[fB.slot]? = some .null := by
    have := fresh_default (c := P1.m.cls) tyB
    rw [htB] at this
    simpa [preparedCellV, Cell.setSlot, Cell.withEntry, Array.getElem?_setIfInBounds, bC, bS, bP, bC.symm, bS.symm, bP.symm, defaultValue] using this
  have tkC := Takes.of_laid (v := .ref (W.heap.size + 2)) hk hord tyC (by rw [Y.causeType]; rfl)
  have tkS := Takes.of_laid (v := u0.v) hk hord tyS (by rw [Y.stackType]; exact fits_refV_array _ u0)
  have tkP := Takes.of_laid (v := sen.v) hk hord tyP (by rw [Y.suppType]; exact fits_refV_object _ sen)
  have tkM := Takes.of_laid (v := .ref (W.heap.size + 1)) hk hord tyM (by rw [Y.msgType]; rfl)
  have hskip : SkipFacts T e.platform s (fun u => u) u0 ((preparedCellV T.toThrowableT (freshCell P1.m.cls kX) (W.heap.size + 2) u0 sen).withEntry W.cur) := ⟨{ ci198 := ci198, i198 := i198, fBack := fB }, ⟨hk198, hg198, ha198, hsB⟩, hbk, fun _ _ => rfl⟩
  have h0 : At W g.method c below := by rw [hg]; exact X.here
  obtain ⟨hbeyond, hfreeW⟩ := X.vmMayThrow hsize (.throwNew cls (some text) none) (fun f hf => by cases hf) rfl hRlocals
  have hfr' : W.frames.length + Ps.length + 4 < (e.platform.stackLimits W.me).1 := by have := X.framesAbove hRframes; omega
  have hwd' : (stackUse (.java g :: W.frames.tail)).2 + 13 * Ps.length + 55 ≤ (e.platform.stackLimits W.me).2 := by have := X.stackAbove hsize (K := 13 * Ps.length + 55) (by omega); omega
  have hslots : W.slotsUsed + (stringBytes (stringToUtf16 text)).size + Zs.kS.instanceTypes.size + kX.instanceTypes.size ≤ e.platform.maxSlots := by
    have := X.slotsAbove hRslots
    rw [hn4, hn6]
    omega
  obtain ⟨vm', hW', st⟩ := Steps.vmThrowsMessageColdByV p (s₀ := s) (S := W) (g := g) h0 hexec T L Z LZ M LM X.warmed (t := W.cur) rfl Zs LZs P1 L1 Ps hL hlink1 hlink hsoe hoom hfound hk hinit hord hctor
    (Launch.admits_hotImplicitExceptions X.admits) hbeyond hfreeW htext hlimit hheap (X.cellsAbove hRcells) hslots (hfitv _) (hfitc _)
    (Nn := fun u => u) heapOnly_id (fun _ _ => rfl) (fun _ => rfl) (fun u x y => setCell_twice _ _ _ _) (fun _ => Nat.le_refl _) (cN := ((preparedCellV T.toThrowableT (freshCell P1.m.cls kX) (W.heap.size + 2) u0 sen).withEntry W.cur))
    hsel0 hcellS hknownS hvU tkS (fun _ hu => hu) (fun _ hu => hu) rfl rfl rfl (by simp [preparedCellV, Cell.setSlot, Cell.withEntry]) hskip (fun _ _ hA hW _ hroom _ hrest => L.nativeOff p htr hA hW hroom hrest) hselF hvSen tkC tkP tkM Y.objLocals rfl hfr' hwd'
  rw [plainBareV_eq T.toThrowableT (W.heap.size + 2) u0 sen (.ref (W.heap.size + 1)) W.cur rfl rfl] at st
  obtain ⟨-, -, w3, w4, -, -, -⟩ := withThrown_facts e.platform W Zs text P1.m.cls kX
  have X3 := ((X.pushed (bytesOf Zs.cB (stringToUtf16 text))).pushed (stringAt Zs.cS Zs.kS Zs.fv Zs.fc (stringToUtf16 text) W.heap.size)).pushed (freshCell P1.m.cls kX)
  rw [← withString_eq] at X3
  have X4 := X3.noted hW'
  have ha : (W.heap.size + 2) < ((withThrown W Zs text P1.m.cls kX).setVm vm').heap.size := by show _ < (withThrown W Zs text P1.m.cls kX).heap.size; rw [w3]; omega
  have hcell : ((withThrown W Zs text P1.m.cls kX).setVm vm').heap[(W.heap.size + 2)]? = some (freshCell P1.m.cls kX) := w4
  have X5 := ((((X4.stored hcell T.fCause.slot (.ref (W.heap.size + 2))).storedAgain ha T.fStack.slot u0.v).storedAgain ha T.fSupp.slot sen.v).storedAgain ha T.fStack.slot u0.v).storedAgain ha T.fMsg.slot (.ref (W.heap.size + 1))
  obtain ⟨g₁, hfrM⟩ := X5.frames_eq
  have hU : ((((withThrown W Zs text P1.m.cls kX).setVm vm').setCell (W.heap.size + 2) (plainBareV T.toThrowableT (freshCell P1.m.cls kX) (W.heap.size + 2) u0 sen (.ref (W.heap.size + 1)))).setTop g).pushFrame (.throwing (W.heap.size + 2)) = (((withThrown W Zs text P1.m.cls kX).setVm vm').setCell (W.heap.size + 2) (plainBareV T.toThrowableT (freshCell P1.m.cls kX) (W.heap.size + 2) u0 sen (.ref (W.heap.size + 1)))).setFrames (.throwing (W.heap.size + 2) :: .java g :: below) := by
    rw [State.pushFrame, State.frames_setTop _ hfrM, State.setTop_of_frames _ hfrM, State.setFrames_setFrames]
  have b1 : (bytesOf Zs.cB (stringToUtf16 text)).slots.size = (stringBytes (stringToUtf16 text)).size := by
    rw [(Cell.writeAll_facts _ _).2.2]; simp [bytes0]
  have b2 : (stringAt Zs.cS Zs.kS Zs.fv Zs.fc (stringToUtf16 text) W.heap.size).slots.size = 4 := by simp [string0, Cell.setSlot, hn4]
  have b3 : (freshCell P1.m.cls kX).slots.size = 6 := by simp [hn6]
  rw [b1, b2, b3] at X5
  have e9 : slots + (stringBytes (stringToUtf16 text)).size + 4 + 6 = slots + ((stringBytes (stringToUtf16 text)).size + 4 + 6) := by omega
  rw [e9] at X5
  simp only [List.append_assoc, List.cons_append, List.nil_append] at X5
  refine ⟨((withThrown W Zs text P1.m.cls kX).setVm vm').setCell (W.heap.size + 2) (plainBareV T.toThrowableT (freshCell P1.m.cls kX) (W.heap.size + 2) u0 sen (.ref (W.heap.size + 1))), W.heap.size + 2, _, fun target ht => st _ (by rw [X.tail, ← hU]; exact ht),
    X5.forget (fun y hy => ?_), heapAt_setCell_self _ ha, hfound, rfl⟩
  simp only [List.mem_cons, List.not_mem_nil, or_false] at hy
  have hge : s.heap.size ≤ W.heap.size := X.same.2.1
  rcases hy with rfl | rfl | rfl | rfl | rfl <;> exact Nat.le_trans hge (Nat.le_add_right _ 2)
set_option maxHeartbeats 1000000 in
/-- the machine throws NullPointerException, no traces kept: from its note over the frame g to 'throwing' over the same frame (follows the proof of Stand.vmThrowsNpe, Shelf42/KT2.lean; throwsNpeColdBareVAt, Shelf42/NT91.lean, called) -/
theorem vx_npeAt {p : Program} {l : Launch} {e : Env} {R : Room} {s : State} {m₀ : MethodId} {args : Array Value} {below : List Frame} {meth : Method} {c : Code} {W : State} {locs : List Loc} {cells slots : Nat}
    (X : Stand p l e R s m₀ args below meth c W locs cells slots) (hexec : p.tables.exec = Jvm.exec) (htr : e.platform.stackTraces = false) {n : Nat}
    (h : ∀ a ∈ Bundle.npeArmAtoms n, a.before args s = true)
    (hlocs : ∀ x ∈ locs, ∀ cell, s.heap[x.base]? = some cell → cell.vm.isStatics = false)
    {g : JFrame} (hg : g.method = m₀) (hsize : g.locals.size = c.maxLocals)
    (hRframes : 7 < R.frames) (hRlocals : 2 * g.monitorRoom + (g.stack.map fun v => v.category).sum + 10240 ≤ R.locals)
    (hRcells : cells + 1 ≤ R.cells) (hRslots : slots + n ≤ R.slots) (hlocks : meth.locks = false) :
    ∃ (S : State) (q : Addr) (ce : Cell), (∀ target, Steps p.tables e below ((S.setTop g).pushFrame (.throwing q)) target → Steps p.tables e below ((W.setTop g).pushFrame (.throwNew "java/lang/NullPointerException" none none)) target) ∧
      Stand p l e R s m₀ args below meth c S locs (cells + 1) (slots + n) ∧ S.heap[q]? = some ce ∧ s.vm.findClass "java/lang/NullPointerException" = some ce.cls ∧ ce.vm = .none := by
  have howns : e.platform.frameOwnsMonitors = true := by rw [X.admits.platform]
  have hfin : e.platform.finalization = false := by rw [X.admits.platform]
  have hpl : e.platform.magicAccessors = ({} : Platform).magicAccessors := by rw [X.admits.platform]
  have hpl2 : e.platform.arrayCloneIsPublic = true := by rw [X.admits.platform]
  have a' : ∀ x, x ∈ Bundle.npeArmAtoms n → x.holds args s none s [] = true := fun x hx => h x hx
  obtain ⟨T, Z, L, LZ, Y⟩ := ThrowableC.of_atoms (args := args) howns hfin hpl (fun x hx => h x (by simp [Bundle.npeArmAtoms, hx]))
  obtain ⟨N, LN, hcN, hnNF, hordN, hffS⟩ := NpeC.of_atoms (args := args) hpl hpl2 L Y (fun x hx => h x (by simp [Bundle.npeArmAtoms, hx]))
  obtain ⟨P1, L1, hP1m, hP1s⟩ := PassC.of_atoms (args := args) (s := s) hpl (X := Bundle.nN) (Y := Bundle.rN) (by decide) (by decide) LibCode.NullPointerException.Init0.at_0 LibCode.NullPointerException.Init0.at_1 LibCode.NullPointerException.Init0.at_4 (fun x hx => h x (by simp [Bundle.npeArmAtoms, hx]))
  obtain ⟨PR, LR, hPRm, hPRs⟩ := PassC.of_atoms (args := args) (s := s) hpl (X := Bundle.rN) (Y := Bundle.eN) (by decide) (by decide) LibCode.RuntimeException.Init0.at_0 LibCode.RuntimeException.Init0.at_1 LibCode.RuntimeException.Init0.at_4 (fun x hx => h x (by simp [Bundle.npeArmAtoms, hx]))
  obtain ⟨PE, LEx, hPEm, hPEs⟩ := PassC.of_atoms (args := args) (s := s) hpl (X := Bundle.eN) (Y := Bundle.tN) (by decide) (by decide) LibCode.Exception.Init0.at_0 LibCode.Exception.Init0.at_1 LibCode.Exception.Init0.at_4 (fun x hx => h x (by simp [Bundle.npeArmAtoms, hx]))
  have hfound : s.vm.findClass Bundle.nN = some P1.m.cls := findClass_of_methodNamed hP1m
  have ecls : N.cN = P1.m.cls := Option.some.inj (hcN.symm.trans hfound)
  have hk : s.vm.classes[P1.m.cls]? = some N.kN := by rw [← ecls]; exact LN.cls
  have hinit := Cond.initialized_spec hfound hk (a' (.initialized Bundle.nN) (by simp [Bundle.npeArmAtoms]))
  have hctor : N.kN.findMethod "<init>" "()V" = some P1.m.idx := findMethod_of_methodNamed hP1m hk
  obtain ⟨c1, k1, hc1, hk1, -, -, -, hn⟩ := Cond.instantiable_spec (a' (.instantiable Bundle.nN n) (by simp [Bundle.npeArmAtoms]))
  cases Option.some.inj (hc1.symm.trans hfound)
  cases Option.some.inj (hk1.symm.trans hk)
  have hfsz : (freshCell P1.m.cls N.kN).slots.size = n := by simp [hn]
  have hlink1 : P1.sup = PR.m := Option.some.inj (hP1s.symm.trans hPRm)
  have hlinkR : PR.sup = PE.m := Option.some.inj (hPRs.symm.trans hPEm)
  have hlinkE : PE.sup = Z.m T.toThrowableT := Option.some.inj (hPEs.symm.trans Y.init0)
  have hLs : ∀ P, P ∈ [PR, PE] → P.Links0 e.platform s := fun P hP => by
    simp only [List.mem_cons, List.not_mem_nil, or_false] at hP
    rcases hP with rfl | rfl
    · exact LR
    · exact LEx
  have hsel0 : selectMethod e.platform s.vm P1.m.cls T.fill0 = .method T.fill0 := by
    obtain ⟨c2, r2, m2, q1, q2, q3, q4, -⟩ := Cond.selects_spec (a' (.selects Bundle.nN Bundle.tFill0 Bundle.tFill0) (by simp [Bundle.npeArmAtoms]))
    cases Option.some.inj (q1.symm.trans hfound)
    cases Option.some.inj (q2.symm.trans (State.methodFound?_of_named Y.fill0 (by decide)))
    cases Option.some.inj (q3.symm.trans Y.fill0)
    rw [Launch.admits_selectMethod X.admits]; exact q4
  have hselF : selectMethod e.platform s.vm P1.m.cls T.fill = .method N.fill := by
    obtain ⟨c2, r2, m2, q1, q2, q3, q4, -⟩ := Cond.selects_spec (a' (.selects Bundle.nN Bundle.tFill Bundle.nFill) (by simp [Bundle.npeArmAtoms]))
    cases Option.some.inj (q1.symm.trans hfound)
    cases Option.some.inj (q2.symm.trans (State.methodFound?_of_named Y.fill (by decide)))
    cases Option.some.inj (q3.symm.trans hnNF)
    rw [Launch.admits_selectMethod X.admits]; exact q4
  obtain ⟨cellS0, hcS0, hiss⟩ := Y.statics
  obtain ⟨u0, hu0⟩ := Cond.staticRefV Y.unassigned L.unassignedStatic L.statics hcS0 hiss (a' (.isRef (.static Bundle.tN "UNASSIGNED_STACK" Bundle.steD)) (by simp [Bundle.npeArmAtoms]))
  obtain ⟨sen, hsen⟩ := Cond.staticRefV Y.sentinel L.sentinelStatic L.statics hcS0 hiss (a' (.isRef (.static Bundle.tN "SUPPRESSED_SENTINEL" Bundle.listD)) (by simp [Bundle.npeArmAtoms]))
  obtain ⟨ci198, i198, fB, hk198, hg198, ha198, hsB, -, hnB, htB, hffB⟩ := Cond.ownField (t := .object "java/lang/Object") Y.found L.cls (by decide +kernel) (a' (.fieldLink Bundle.tN 198 Bundle.tN "backtrace" Bundle.objD) (by simp [Bundle.npeArmAtoms])) (a' (.lays Bundle.tN Bundle.tN "backtrace" Bundle.objD) (by simp [Bundle.npeArmAtoms])) e.platform hpl
  obtain ⟨cellS, hcS', heS, -, hkeep⟩ := X.same.2.2.2.2.2 T.aS cellS0 hcS0
  have hcellS : W.heap[T.aS]? = some cellS := hcS'
  have hout' : ∀ i, (⟨T.aS, i⟩ : Loc) ∉ locs := fun i hmem => by
    have := hlocs _ hmem cellS0 hcS0
    rw [hiss] at this; cases this
  have hknownS : cellS.vm ≠ .unknown := by
    rw [heS]; intro hu
    rw [show cellS0.vm = .unknown from hu] at hiss
    cases hiss
  have hvU : cellS.slots[T.fUnassigned.slot]? = some u0.v := by rw [hkeep _ (hout' _)]; exact hu0
  have hvSen : cellS.slots[T.fSentinel.slot]? = some sen.v := by rw [hkeep _ (hout' _)]; exact hsen
  obtain ⟨tyC, dC, hdC, hdnC⟩ := Cond.laysAt hfound hk Y.cause (a' (.lays Bundle.nN Bundle.tN "cause" "Ljava/lang/Throwable;") (by simp [Bundle.npeArmAtoms]))
  obtain ⟨tyS, dS, hdS, hdnS⟩ := Cond.laysAt hfound hk Y.stack (a' (.lays Bundle.nN Bundle.tN "stackTrace" Bundle.steD) (by simp [Bundle.npeArmAtoms]))
  obtain ⟨tyP, dP, hdP, hdnP⟩ := Cond.laysAt hfound hk Y.supp (a' (.lays Bundle.nN Bundle.tN "suppressedExceptions" Bundle.listD) (by simp [Bundle.npeArmAtoms]))
  obtain ⟨tyX, dX, hdX, hdnX⟩ := Cond.laysAt hfound hk hffS (a' (.lays Bundle.nN Bundle.nN "extendedMessageState" "I") (by simp [Bundle.npeArmAtoms, Bundle.npeAtoms]))
  obtain ⟨hnX, htX⟩ := State.fieldFound?_type hffS (t := .int) (by decide +kernel)
  have xC := Cond.laysApart hdC hdX hdnC hdnX (by rw [hnX, Y.causeName]; decide)
  have xS := Cond.laysApart hdS hdX hdnS hdnX (by rw [hnX, Y.stackName]; decide)
  have xP := Cond.laysApart hdP hdX hdnP hdnX (by rw [hnX, Y.suppName]; decide)
  have hv0 : (freshCell P1.m.cls N.kN).slots[N.fState.slot]? = some (.int 0) := by
    have := fresh_default (c := P1.m.cls) tyX
    rw [htX] at this; exact this
  obtain ⟨tyB, dB, hdB, hdnB⟩ := Cond.laysAt hfound hk hffB (a' (.lays Bundle.nN Bundle.tN "backtrace" Bundle.objD) (by simp [Bundle.npeArmAtoms]))
  have bC := Cond.laysApart hdB hdC hdnB hdnC (by rw [hnB, Y.causeName]; decide)
  have bS := Cond.laysApart hdB hdS hdnB hdnS (by rw [hnB, Y.stackName]; decide)
  have bP := Cond.laysApart hdB hdP hdnB hdnP (by rw [hnB, Y.suppName]; decide)
  have bX := Cond.laysApart hdB hdX hdnB hdnX (by rw [hnB, hnX]; decide)
  have hbk : ((npeCell N.toNpeT (preparedCellV T.toThrowableT (freshCell P1.m.cls N.kN) W.heap.size u0 sen) W.cur).withEntry W.cur).slots[fB.slot]? = some .null := by
    have := fresh_default (c := P1.m.cls) tyB
    rw [htB] at this
    simpa [npeCell, preparedCellV, Cell.setSlot, Cell.withEntry, Array.getElem?_setIfInBounds, bC, bS, bP, bX, bC.symm, bS.symm, bP.symm, bX.symm, defaultValue] using this
  have tkC := Takes.of_laid (v := .ref W.heap.size) hk hordN tyC (by rw [Y.causeType]; rfl)
  have tkS := Takes.of_laid (v := u0.v) hk hordN tyS (by rw [Y.stackType]; exact fits_refV_array _ u0)
  have tkP := Takes.of_laid (v := sen.v) hk hordN tyP (by rw [Y.suppType]; exact fits_refV_object _ sen)
  have tkX := Takes.of_laid (v := .int 1) hk hordN tyX (by rw [htX]; rfl)
  have hskip : SkipFacts T e.platform s (fun u => u) u0 ((npeCell N.toNpeT (preparedCellV T.toThrowableT (freshCell P1.m.cls N.kN) W.heap.size u0 sen) W.cur).withEntry W.cur) := ⟨{ ci198 := ci198, i198 := i198, fBack := fB }, ⟨hk198, hg198, ha198, hsB⟩, hbk, fun _ _ => rfl⟩
  obtain ⟨vm', X3, st, -⟩ := X.throwsNpeColdBareVAt hexec hg hsize T L Z LZ N LN P1 L1 [PR, PE] hLs hlink1 ⟨hlinkR, hlinkE, trivial⟩ hfound hk hinit hordN hctor hsel0 hselF hcellS hknownS hvU hvSen
    hv0 xC xS xP tkC tkS tkP tkX Y.objLocals hskip (fun _ _ hA hW _ hroom _ hrest => L.nativeOff p htr hA hW hroom hrest) (by simpa using hRframes) hRlocals (by simp) hRcells (by rw [hn]; exact hRslots)
  have hlt : W.heap.size < ((W.pushCell (freshCell P1.m.cls N.kN)).setVm vm').heap.size := by
    show W.heap.size < (W.pushCell (freshCell P1.m.cls N.kN)).heap.size
    rw [State.heap_size_pushCell]; omega
  rw [hfsz] at X3
  obtain ⟨g₁, hfrM⟩ := X3.frames_eq
  have hU : ((((W.pushCell (freshCell P1.m.cls N.kN)).setVm vm').setCell W.heap.size (npeBareV T.toThrowableT N.toNpeT (freshCell P1.m.cls N.kN) W.heap.size u0 sen)).setTop g).pushFrame (.throwing W.heap.size) = (((W.pushCell (freshCell P1.m.cls N.kN)).setVm vm').setCell W.heap.size (npeBareV T.toThrowableT N.toNpeT (freshCell P1.m.cls N.kN) W.heap.size u0 sen)).setFrames (.throwing W.heap.size :: .java g :: below) := by
    rw [State.pushFrame, State.frames_setTop _ hfrM, State.setTop_of_frames _ hfrM, State.setFrames_setFrames]
  refine ⟨_, W.heap.size, _, fun target ht => st.trans (by rw [← hU]; exact ht), X3.forget (fun y hy => ?_), heapAt_setCell_self _ hlt, hfound, rfl⟩
  simp only [List.mem_cons, List.not_mem_nil, or_false] at hy
  have hge : s.heap.size ≤ W.heap.size := X.same.2.1
  rcases hy with rfl | rfl | rfl | rfl | rfl <;> exact hge
/-- the words of a machine's NullPointerException, but the four that speak of the heap -/
def vx_atN (n : Nat) : List Cond := (Bundle.npeArmAtoms n).filter vx_no
/-- the words of a machine's throw with a message, but the four that speak of the heap -/
def vx_atM (X : String) (names : List String) : List Cond := (Bundle.messageArmAtoms X names).filter vx_no
section
variable {p : Program} {l : Launch} {e : Env} {R : Room} {s : State} {m : MethodId} {args : Array Value} {below : List Frame} {meth : Method} {c : Code} {H : Heap} {locs : List Loc} {cells slots : Nat}
/-- a frame seen from a rebased start, seen from the first start again -/
theorem vx_back9 {T S : State} {R' : Room} {k n : Nat} (X : Stand p l e R s m args below meth c T locs cells slots) (Y : Stand p l e R' ((T.setVm s.vm).setFrames (.invoking m args :: below)) m args below meth c T [] 0 0) (Z : Stand p l e R' ((T.setVm s.vm).setFrames (.invoking m args :: below)) m args below meth c S [] k n) :
    Stand p l e R s m args below meth c S locs (cells + k) (slots + n) := by
  have hW0 : s.WarmedH ((T.setVm s.vm).setFrames (.invoking m args :: below)).vm := State.WarmedH.refl s
  refine { admits := X.admits, cas := X.cas, clock := X.clock, frames := X.frames, room := X.room, hears := X.hears, method := X.method, code := X.code, here := Z.here, tail := Z.tail, warmed := State.WarmedH.trans hW0 Z.warmed, limits := Z.limits.trans (Y.limits.symm.trans X.limits), bytes := Z.bytes.trans (Y.bytes.symm.trans X.bytes), same := ?_ }
  obtain ⟨e1, e2⟩ := Z.same
  rw [State.setFrames_setFrames] at e1
  have h2 : (T.setVm s.vm).sameButNew (S.setVm s.vm) [] k n := ⟨e1, e2⟩
  have h3 := X.same.trans h2
  rw [List.append_nil] at h3
  exact h3
/-- from the machine's note that E is thrown here with this text -/
def vx_Note (p : Program) (l : Launch) (e : Env) (R : Room) (s : State) (m : MethodId) (args : Array Value) (below : List Frame) (meth : Method) (c : Code) (H : Heap) (locs : List Loc) (cells slots : Nat) (Q : State → Prop) (g : JFrame) (E text : String) : Prop :=
  ∀ T : State, T.heap = H → Stand p l e R s m args below meth c T locs cells slots → ∃ t, Steps p.tables e below ((T.setTop g).pushFrame (.throwNew E (some text) none)) t ∧ Q t
theorem vx_vm {pc : Nat} {ls : Array Slot} {rest : List Value} {Q : State → Prop} (hexec : p.tables.exec = Jvm.exec) (hl : l.stackTraces = false) {cls text : String} {names : List String} {nb : Nat} {A : Nat → Prop}
    (hcls : Bundle.fit cls = true) (hnames : ∀ n ∈ names, Bundle.fit n = true) (hsoe : (cls == "java/lang/StackOverflowError") = false) (hoom : (cls == "java/lang/OutOfMemoryError") = false)
    (hat : ∀ w ∈ vx_atM cls names, w.before args s = true) (hgood : ∀ w ∈ vx_atM cls names, vx_ot w = true)
    (hU : vx_Zq Bundle.tN "UNASSIGNED_STACK" Bundle.steD A s s.heap) (hN : vx_Zq Bundle.tN "SUPPRESSED_SENTINEL" Bundle.listD A s s.heap) (hS : va_S A s.heap H locs) (hsize : ls.size = c.maxLocals)
    (htext : (text == notModelled) = false) (hnb : (stringBytes (stringToUtf16 text)).size ≤ nb) (hnb1 : nb ≤ 1000)
    (hRframes : names.length + 4 < R.frames) (hRlocals : (rest.map fun v => v.category).sum + 10240 ≤ R.locals) (hshort : 13 * names.length + 55 ≤ 10240) (hRcells : cells + 3 ≤ R.cells) (hRslots : slots + (nb + 10) ≤ R.slots) (hlocks : meth.locks = false)
    (k : ∀ (H1 : Heap) (q9 : Addr) (ce : Cell), H.size ≤ H1.size → (∀ q : Nat, q < H.size → H1[q]? = H[q]?) → va_S A s.heap H1 locs → H1[q9]? = some ce → ce.vm = .none → s.vm.findClass cls = some ce.cls → vx_W p l e R s m args below meth c H1 locs (cells + 3) (slots + (nb + 10)) Q (F0 m pc ls rest) q9) :
    vx_Note p l e R s m args below meth c H locs cells slots Q (F0 m pc ls rest) cls text := by
  intro T hT X
  have htr : e.platform.stackTraces = false := (show e.platform.stackTraces = l.stackTraces by rw [X.admits.platform]).trans hl
  have Y := vx_rebase X (R' := { frames := R.frames, locals := R.locals, cells := 3, slots := nb + 10 }) (Nat.le_refl _) (Nat.le_refl _) hRcells hRslots
  have hhp : ((T.setVm s.vm).setFrames (.invoking m args :: below)).heap = H := hT
  have hW0 : s.WarmedH ((T.setVm s.vm).setFrames (.invoking m args :: below)).vm := State.WarmedH.refl s
  have hat' : ∀ w ∈ vx_atM cls names, w.before args ((T.setVm s.vm).setFrames (.invoking m args :: below)) = true := fun w hw => vx_ot_at hW0 rfl (hgood w hw) (hat w hw)
  have hU' : vx_Zq Bundle.tN "UNASSIGNED_STACK" Bundle.steD A ((T.setVm s.vm).setFrames (.invoking m args :: below)) ((T.setVm s.vm).setFrames (.invoking m args :: below)).heap := by rw [hhp]; exact vx_Zq.moved hW0.alike (hU.kept hS.2.1)
  have hN' : vx_Zq Bundle.tN "SUPPRESSED_SENTINEL" Bundle.listD A ((T.setVm s.vm).setFrames (.invoking m args :: below)) ((T.setVm s.vm).setFrames (.invoking m args :: below)).heap := by rw [hhp]; exact vx_Zq.moved hW0.alike (hN.kept hS.2.1)
  obtain ⟨S, q, ce, st, Z, hce, hcl', hv⟩ := vx_vmAt Y hexec htr (cls := cls) (names := names) (text := text) hcls hnames hsoe hoom (vx_own hat' (vx_isRefq hU'.1) (vx_isRefq hN'.1) hU'.2.word hN'.2.word) (fun x hx => nomatch hx) htext
    (by rw [Launch.admits_arrayLengthLimit X.admits]; omega) (by rw [Launch.admits_maxHeapBytes X.admits]; simp only [componentBytes]; omega)
    (g := F0 m pc ls rest) rfl hsize hRframes (by show 2 * 0 + (rest.map fun v => v.category).sum + 10240 ≤ R.locals; omega) hshort (by show 0 + 3 ≤ 3; omega) (by show 0 + (_ + 4 + 6) ≤ nb + 10; omega) hlocks
  obtain ⟨f1, f2⟩ := vx_frame Z.same
  have f1' : H.size ≤ S.heap.size := by rw [← hT]; exact f1
  have f2' : ∀ q : Nat, q < H.size → S.heap[q]? = H[q]? := fun q hq => by
    rw [← hT]
    exact f2 q (by rw [← hT] at hq; exact hq) (fun z hz => nomatch hz)
  have X5 := vx_back9 X Y Z
  have X6 : Stand p l e R s m args below meth c S locs (cells + 3) (slots + (nb + 10)) := { X5 with same := X5.same.mono (by omega) (by omega) }
  obtain ⟨t, a1, b1⟩ := k S.heap q ce f1' f2' ⟨Nat.le_trans hS.1 f1', fun q h1 h2 => (f2' q (Nat.lt_of_lt_of_le h1 hS.1)).trans (hS.2.1 q h1 h2), hS.2.2⟩ hce hv hcl' S rfl X6
  exact ⟨t, st t a1, b1⟩
/-- from the machine's note that NullPointerException is thrown here -/
def vx_NoteN (p : Program) (l : Launch) (e : Env) (R : Room) (s : State) (m : MethodId) (args : Array Value) (below : List Frame) (meth : Method) (c : Code) (H : Heap) (locs : List Loc) (cells slots : Nat) (Q : State → Prop) (g : JFrame) : Prop :=
  ∀ T : State, T.heap = H → Stand p l e R s m args below meth c T locs cells slots → ∃ t, Steps p.tables e below ((T.setTop g).pushFrame (.throwNew "java/lang/NullPointerException" none none)) t ∧ Q t
theorem vx_npe {pc : Nat} {ls : Array Slot} {rest : List Value} {Q : State → Prop} (hexec : p.tables.exec = Jvm.exec) (hl : l.stackTraces = false) {nb : Nat} {A : Nat → Prop}
    (hat : ∀ w ∈ vx_atN nb, w.before args s = true) (hgood : ∀ w ∈ vx_atN nb, vx_ot w = true)
    (hU : vx_Zq Bundle.tN "UNASSIGNED_STACK" Bundle.steD A s s.heap) (hN : vx_Zq Bundle.tN "SUPPRESSED_SENTINEL" Bundle.listD A s s.heap) (hS : va_S A s.heap H locs) (hsize : ls.size = c.maxLocals)
    (hRframes : 7 < R.frames) (hRlocals : (rest.map fun v => v.category).sum + 10240 ≤ R.locals) (hRcells : cells + 1 ≤ R.cells) (hRslots : slots + nb ≤ R.slots) (hlocks : meth.locks = false)
    (k : ∀ (H1 : Heap) (q9 : Addr) (ce : Cell), H.size ≤ H1.size → (∀ q : Nat, q < H.size → H1[q]? = H[q]?) → va_S A s.heap H1 locs → H1[q9]? = some ce → ce.vm = .none → s.vm.findClass "java/lang/NullPointerException" = some ce.cls → vx_W p l e R s m args below meth c H1 locs (cells + 1) (slots + nb) Q (F0 m pc ls rest) q9) :
    vx_NoteN p l e R s m args below meth c H locs cells slots Q (F0 m pc ls rest) := by
  intro T hT X
  have htr : e.platform.stackTraces = false := (show e.platform.stackTraces = l.stackTraces by rw [X.admits.platform]).trans hl
  have Y := vx_rebase X (R' := { frames := R.frames, locals := R.locals, cells := 1, slots := nb }) (Nat.le_refl _) (Nat.le_refl _) hRcells hRslots
  have hhp : ((T.setVm s.vm).setFrames (.invoking m args :: below)).heap = H := hT
  have hW0 : s.WarmedH ((T.setVm s.vm).setFrames (.invoking m args :: below)).vm := State.WarmedH.refl s
  have hat' : ∀ w ∈ vx_atN nb, w.before args ((T.setVm s.vm).setFrames (.invoking m args :: below)) = true := fun w hw => vx_ot_at hW0 rfl (hgood w hw) (hat w hw)
  have hU' : vx_Zq Bundle.tN "UNASSIGNED_STACK" Bundle.steD A ((T.setVm s.vm).setFrames (.invoking m args :: below)) ((T.setVm s.vm).setFrames (.invoking m args :: below)).heap := by rw [hhp]; exact vx_Zq.moved hW0.alike (hU.kept hS.2.1)
  have hN' : vx_Zq Bundle.tN "SUPPRESSED_SENTINEL" Bundle.listD A ((T.setVm s.vm).setFrames (.invoking m args :: below)) ((T.setVm s.vm).setFrames (.invoking m args :: below)).heap := by rw [hhp]; exact vx_Zq.moved hW0.alike (hN.kept hS.2.1)
  obtain ⟨S, q, ce, st, Z, hce, hcl', hv⟩ := vx_npeAt Y hexec htr (n := nb) (vx_own hat' (vx_isRefq hU'.1) (vx_isRefq hN'.1) hU'.2.word hN'.2.word) (fun x hx => nomatch hx)
    (g := F0 m pc ls rest) rfl hsize hRframes (by show 2 * 0 + (rest.map fun v => v.category).sum + 10240 ≤ R.locals; omega) (by show 0 + 1 ≤ 1; omega) (by show 0 + nb ≤ nb; omega) hlocks
  obtain ⟨f1, f2⟩ := vx_frame Z.same
  have f1' : H.size ≤ S.heap.size := by rw [← hT]; exact f1
  have f2' : ∀ q : Nat, q < H.size → S.heap[q]? = H[q]? := fun q hq => by
    rw [← hT]
    exact f2 q (by rw [← hT] at hq; exact hq) (fun z hz => nomatch hz)
  have X5 := vx_back9 X Y Z
  have X6 : Stand p l e R s m args below meth c S locs (cells + 1) (slots + nb) := { X5 with same := X5.same.mono (by omega) (by omega) }
  obtain ⟨t, a1, b1⟩ := k S.heap q ce f1' f2' ⟨Nat.le_trans hS.1 f1', fun q h1 h2 => (f2' q (Nat.lt_of_lt_of_le h1 hS.1)).trans (hS.2.1 q h1 h2), hS.2.2⟩ hce hv hcl' S rfl X6
  exact ⟨t, st t a1, b1⟩
variable {Q : State → Prop} {cc : ByteArray} {pc : Nat} {ls : Array Slot} {rest : List Value}
theorem vx_idivZ (hexec : p.tables.exec = Jvm.exec) (hb : c.code = cc) {a b : Int32} (h0 : b = 0) (d : decode cc pc = .ok (.idiv, 1)) (k : vx_Note p l e R s m args below meth c H locs cells slots Q (F0 m pc ls rest) "java/lang/ArithmeticException" "/ by zero") :
    W p l e R s m args below meth c H locs cells slots Q (F0 m pc ls (.int b :: .int a :: rest)) := by
  intro T hT X
  obtain ⟨t, st, q⟩ := k T hT X
  exact ⟨t, X.idivZero hexec (g := F0 m pc ls (.int b :: .int a :: rest)) rfl (a := a) (rest := rest) (by rw [h0]) (by rw [hb]; exact d) t st, q⟩
theorem vx_iremZ (hexec : p.tables.exec = Jvm.exec) (hb : c.code = cc) {a b : Int32} (h0 : b = 0) (d : decode cc pc = .ok (.irem, 1)) (k : vx_Note p l e R s m args below meth c H locs cells slots Q (F0 m pc ls rest) "java/lang/ArithmeticException" "/ by zero") :
    W p l e R s m args below meth c H locs cells slots Q (F0 m pc ls (.int b :: .int a :: rest)) := by
  intro T hT X
  obtain ⟨t, st, q⟩ := k T hT X
  exact ⟨t, X.iremZero hexec (g := F0 m pc ls (.int b :: .int a :: rest)) rfl (a := a) (rest := rest) (by rw [h0]) (by rw [hb]; exact d) t st, q⟩
theorem vx_ldivZ (hexec : p.tables.exec = Jvm.exec) (hb : c.code = cc) {a b : Int64} (h0 : b = 0) (d : decode cc pc = .ok (.ldiv, 1)) (k : vx_Note p l e R s m args below meth c H locs cells slots Q (F0 m pc ls rest) "java/lang/ArithmeticException" "/ by zero") :
    W p l e R s m args below meth c H locs cells slots Q (F0 m pc ls (.long b :: .long a :: rest)) := by
  intro T hT X
  obtain ⟨t, st, q⟩ := k T hT X
  exact ⟨t, X.ldivZero hexec (g := F0 m pc ls (.long b :: .long a :: rest)) rfl (a := a) (rest := rest) (by rw [h0]) (by rw [hb]; exact d) t st, q⟩
theorem vx_lremZ (hexec : p.tables.exec = Jvm.exec) (hb : c.code = cc) {a b : Int64} (h0 : b = 0) (d : decode cc pc = .ok (.lrem, 1)) (k : vx_Note p l e R s m args below meth c H locs cells slots Q (F0 m pc ls rest) "java/lang/ArithmeticException" "/ by zero") :
    W p l e R s m args below meth c H locs cells slots Q (F0 m pc ls (.long b :: .long a :: rest)) := by
  intro T hT X
  obtain ⟨t, st, q⟩ := k T hT X
  exact ⟨t, X.lremZero hexec (g := F0 m pc ls (.long b :: .long a :: rest)) rfl (a := a) (rest := rest) (by rw [h0]) (by rw [hb]; exact d) t st, q⟩
theorem vx_ialdZ {D : va_G} {cl : List vw_C} {ws : va_W} {tys : List (ClassId × FieldType)} {a : Nat} (hexec : p.tables.exec = Jvm.exec) (hb : c.code = cc) (hK : va_K D cl tys s) (hP : va_P D cl ws H) (q0 t0 : Nat) {cA : ClassId} {n : Nat} {f : Nat → Int32} (ha : ws[q0]? = some (a, .inl (cA, n, .inl f))) (ht : tys[t0]? = some (cA, .int)) {i : Int32} (hout : ¬ vp_in i n) (hdg : decode cc pc = .ok (.iaload, 1))
    (k : ∀ tx : String, tx = (toString "Index " ++ toString i ++ toString " out of bounds for length " ++ toString n : String) → vx_Note p l e R s m args below meth c H locs cells slots Q (F0 m pc ls rest) "java/lang/ArrayIndexOutOfBoundsException" tx) : W p l e R s m args below meth c H locs cells slots Q (F0 m pc ls (.int i :: .ref a :: rest)) := by
  intro T hT X
  obtain ⟨t, st, q⟩ := k _ rfl T hT X
  refine ⟨t, ?_, q⟩
  have h1 := X.ialoadOut hexec (by rw [hT]; exact hP q0 _ ha) ((hK.2 t0 _ ht).1 n (fun j => .int (f j))) (j := i) (by show (i < 0 ∨ (arrV _ _ _).slots.size ≤ _); rw [arrV_size]; exact Classical.byContradiction hout) (g := F0 m pc ls (.int i :: .ref a :: rest)) rfl (rest := rest) rfl (by rw [hb]; exact hdg) t
  simp only [arrV_size] at h1
  exact h1 st
theorem vx_iastZ {D : va_G} {cl : List vw_C} {ws : va_W} {tys : List (ClassId × FieldType)} {a : Nat} (hexec : p.tables.exec = Jvm.exec) (hb : c.code = cc) (hK : va_K D cl tys s) (hP : va_P D cl ws H) (q0 t0 : Nat) {cA : ClassId} {n : Nat} {f : Nat → Int32} (ha : ws[q0]? = some (a, .inl (cA, n, .inl f))) (ht : tys[t0]? = some (cA, .int)) {i : Int32} {x : Int32} (hout : ¬ vp_in i n) (hdg : decode cc pc = .ok (.iastore, 1))
    (k : ∀ tx : String, tx = (toString "Index " ++ toString i ++ toString " out of bounds for length " ++ toString n : String) → vx_Note p l e R s m args below meth c H locs cells slots Q (F0 m pc ls rest) "java/lang/ArrayIndexOutOfBoundsException" tx) : W p l e R s m args below meth c H locs cells slots Q (F0 m pc ls (.int x :: .int i :: .ref a :: rest)) := by
  intro T hT X
  obtain ⟨t, st, q⟩ := k _ rfl T hT X
  refine ⟨t, ?_, q⟩
  have h1 := X.iastoreOut hexec (by rw [hT]; exact hP q0 _ ha) ((hK.2 t0 _ ht).1 n (fun j => .int (f j))) (j := i) (by show (i < 0 ∨ (arrV _ _ _).slots.size ≤ _); rw [arrV_size]; exact Classical.byContradiction hout) (g := F0 m pc ls (.int x :: .int i :: .ref a :: rest)) rfl (rest := rest) rfl (by rw [hb]; exact hdg) t
  simp only [arrV_size] at h1
  exact h1 st
theorem vx_baldZ {D : va_G} {cl : List vw_C} {ws : va_W} {tys : List (ClassId × FieldType)} {a : Nat} (hexec : p.tables.exec = Jvm.exec) (hb : c.code = cc) (hK : va_K D cl tys s) (hP : va_P D cl ws H) (q0 t0 : Nat) {cA : ClassId} {n : Nat} {f : Nat → Int32} (ha : ws[q0]? = some (a, .inl (cA, n, .inl f))) (ht : tys[t0]? = some (cA, .byte)) {i : Int32} (hout : ¬ vp_in i n) (hdg : decode cc pc = .ok (.baload, 1))
    (k : ∀ tx : String, tx = (toString "Index " ++ toString i ++ toString " out of bounds for length " ++ toString n : String) → vx_Note p l e R s m args below meth c H locs cells slots Q (F0 m pc ls rest) "java/lang/ArrayIndexOutOfBoundsException" tx) : W p l e R s m args below meth c H locs cells slots Q (F0 m pc ls (.int i :: .ref a :: rest)) := by
  intro T hT X
  obtain ⟨t, st, q⟩ := k _ rfl T hT X
  refine ⟨t, ?_, q⟩
  have h1 := X.baloadOut hexec (by rw [hT]; exact hP q0 _ ha) ((hK.2 t0 _ ht).1 n (fun j => .int (f j))) (j := i) (by show (i < 0 ∨ (arrV _ _ _).slots.size ≤ _); rw [arrV_size]; exact Classical.byContradiction hout) (g := F0 m pc ls (.int i :: .ref a :: rest)) rfl (rest := rest) rfl (by rw [hb]; exact hdg) t
  simp only [arrV_size] at h1
  exact h1 st
theorem vx_bastZ {D : va_G} {cl : List vw_C} {ws : va_W} {tys : List (ClassId × FieldType)} {a : Nat} (hexec : p.tables.exec = Jvm.exec) (hb : c.code = cc) (hK : va_K D cl tys s) (hP : va_P D cl ws H) (q0 t0 : Nat) {cA : ClassId} {n : Nat} {f : Nat → Int32} (ha : ws[q0]? = some (a, .inl (cA, n, .inl f))) (ht : tys[t0]? = some (cA, .byte)) {i : Int32} {x : Int32} (hout : ¬ vp_in i n) (hdg : decode cc pc = .ok (.bastore, 1))
    (k : ∀ tx : String, tx = (toString "Index " ++ toString i ++ toString " out of bounds for length " ++ toString n : String) → vx_Note p l e R s m args below meth c H locs cells slots Q (F0 m pc ls rest) "java/lang/ArrayIndexOutOfBoundsException" tx) : W p l e R s m args below meth c H locs cells slots Q (F0 m pc ls (.int x :: .int i :: .ref a :: rest)) := by
  intro T hT X
  obtain ⟨t, st, q⟩ := k _ rfl T hT X
  refine ⟨t, ?_, q⟩
  have h1 := X.bastoreOut hexec (by rw [hT]; exact hP q0 _ ha) ((hK.2 t0 _ ht).1 n (fun j => .int (f j))) (j := i) (by show (i < 0 ∨ (arrV _ _ _).slots.size ≤ _); rw [arrV_size]; exact Classical.byContradiction hout) (g := F0 m pc ls (.int x :: .int i :: .ref a :: rest)) rfl (rest := rest) rfl (by rw [hb]; exact hdg) t
  simp only [arrV_size] at h1
  exact h1 st
theorem vx_zaldZ {D : va_G} {cl : List vw_C} {ws : va_W} {tys : List (ClassId × FieldType)} {a : Nat} (hexec : p.tables.exec = Jvm.exec) (hb : c.code = cc) (hK : va_K D cl tys s) (hP : va_P D cl ws H) (q0 t0 : Nat) {cA : ClassId} {n : Nat} {f : Nat → Int32} (ha : ws[q0]? = some (a, .inl (cA, n, .inl f))) (ht : tys[t0]? = some (cA, .boolean)) {i : Int32} (hout : ¬ vp_in i n) (hdg : decode cc pc = .ok (.baload, 1))
    (k : ∀ tx : String, tx = (toString "Index " ++ toString i ++ toString " out of bounds for length " ++ toString n : String) → vx_Note p l e R s m args below meth c H locs cells slots Q (F0 m pc ls rest) "java/lang/ArrayIndexOutOfBoundsException" tx) : W p l e R s m args below meth c H locs cells slots Q (F0 m pc ls (.int i :: .ref a :: rest)) := by
  intro T hT X
  obtain ⟨t, st, q⟩ := k _ rfl T hT X
  refine ⟨t, ?_, q⟩
  have h1 := X.baloadOut hexec (by rw [hT]; exact hP q0 _ ha) ((hK.2 t0 _ ht).1 n (fun j => .int (f j))) (j := i) (by show (i < 0 ∨ (arrV _ _ _).slots.size ≤ _); rw [arrV_size]; exact Classical.byContradiction hout) (g := F0 m pc ls (.int i :: .ref a :: rest)) rfl (rest := rest) rfl (by rw [hb]; exact hdg) t
  simp only [arrV_size] at h1
  exact h1 st
theorem vx_zastZ {D : va_G} {cl : List vw_C} {ws : va_W} {tys : List (ClassId × FieldType)} {a : Nat} (hexec : p.tables.exec = Jvm.exec) (hb : c.code = cc) (hK : va_K D cl tys s) (hP : va_P D cl ws H) (q0 t0 : Nat) {cA : ClassId} {n : Nat} {f : Nat → Int32} (ha : ws[q0]? = some (a, .inl (cA, n, .inl f))) (ht : tys[t0]? = some (cA, .boolean)) {i : Int32} {x : Int32} (hout : ¬ vp_in i n) (hdg : decode cc pc = .ok (.bastore, 1))
    (k : ∀ tx : String, tx = (toString "Index " ++ toString i ++ toString " out of bounds for length " ++ toString n : String) → vx_Note p l e R s m args below meth c H locs cells slots Q (F0 m pc ls rest) "java/lang/ArrayIndexOutOfBoundsException" tx) : W p l e R s m args below meth c H locs cells slots Q (F0 m pc ls (.int x :: .int i :: .ref a :: rest)) := by
  intro T hT X
  obtain ⟨t, st, q⟩ := k _ rfl T hT X
  refine ⟨t, ?_, q⟩
  have h1 := X.bastoreOut hexec (by rw [hT]; exact hP q0 _ ha) ((hK.2 t0 _ ht).1 n (fun j => .int (f j))) (j := i) (by show (i < 0 ∨ (arrV _ _ _).slots.size ≤ _); rw [arrV_size]; exact Classical.byContradiction hout) (g := F0 m pc ls (.int x :: .int i :: .ref a :: rest)) rfl (rest := rest) rfl (by rw [hb]; exact hdg) t
  simp only [arrV_size] at h1
  exact h1 st
theorem vx_caldZ {D : va_G} {cl : List vw_C} {ws : va_W} {tys : List (ClassId × FieldType)} {a : Nat} (hexec : p.tables.exec = Jvm.exec) (hb : c.code = cc) (hK : va_K D cl tys s) (hP : va_P D cl ws H) (q0 t0 : Nat) {cA : ClassId} {n : Nat} {f : Nat → Int32} (ha : ws[q0]? = some (a, .inl (cA, n, .inl f))) (ht : tys[t0]? = some (cA, .char)) {i : Int32} (hout : ¬ vp_in i n) (hdg : decode cc pc = .ok (.caload, 1))
    (k : ∀ tx : String, tx = (toString "Index " ++ toString i ++ toString " out of bounds for length " ++ toString n : String) → vx_Note p l e R s m args below meth c H locs cells slots Q (F0 m pc ls rest) "java/lang/ArrayIndexOutOfBoundsException" tx) : W p l e R s m args below meth c H locs cells slots Q (F0 m pc ls (.int i :: .ref a :: rest)) := by
  intro T hT X
  obtain ⟨t, st, q⟩ := k _ rfl T hT X
  refine ⟨t, ?_, q⟩
  have h1 := X.caloadOut hexec (by rw [hT]; exact hP q0 _ ha) ((hK.2 t0 _ ht).1 n (fun j => .int (f j))) (j := i) (by show (i < 0 ∨ (arrV _ _ _).slots.size ≤ _); rw [arrV_size]; exact Classical.byContradiction hout) (g := F0 m pc ls (.int i :: .ref a :: rest)) rfl (rest := rest) rfl (by rw [hb]; exact hdg) t
  simp only [arrV_size] at h1
  exact h1 st
theorem vx_castZ {D : va_G} {cl : List vw_C} {ws : va_W} {tys : List (ClassId × FieldType)} {a : Nat} (hexec : p.tables.exec = Jvm.exec) (hb : c.code = cc) (hK : va_K D cl tys s) (hP : va_P D cl ws H) (q0 t0 : Nat) {cA : ClassId} {n : Nat} {f : Nat → Int32} (ha : ws[q0]? = some (a, .inl (cA, n, .inl f))) (ht : tys[t0]? = some (cA, .char)) {i : Int32} {x : Int32} (hout : ¬ vp_in i n) (hdg : decode cc pc = .ok (.castore, 1))
    (k : ∀ tx : String, tx = (toString "Index " ++ toString i ++ toString " out of bounds for length " ++ toString n : String) → vx_Note p l e R s m args below meth c H locs cells slots Q (F0 m pc ls rest) "java/lang/ArrayIndexOutOfBoundsException" tx) : W p l e R s m args below meth c H locs cells slots Q (F0 m pc ls (.int x :: .int i :: .ref a :: rest)) := by
  intro T hT X
  obtain ⟨t, st, q⟩ := k _ rfl T hT X
  refine ⟨t, ?_, q⟩
  have h1 := X.castoreOut hexec (by rw [hT]; exact hP q0 _ ha) ((hK.2 t0 _ ht).1 n (fun j => .int (f j))) (j := i) (by show (i < 0 ∨ (arrV _ _ _).slots.size ≤ _); rw [arrV_size]; exact Classical.byContradiction hout) (g := F0 m pc ls (.int x :: .int i :: .ref a :: rest)) rfl (rest := rest) rfl (by rw [hb]; exact hdg) t
  simp only [arrV_size] at h1
  exact h1 st
theorem vx_saldZ {D : va_G} {cl : List vw_C} {ws : va_W} {tys : List (ClassId × FieldType)} {a : Nat} (hexec : p.tables.exec = Jvm.exec) (hb : c.code = cc) (hK : va_K D cl tys s) (hP : va_P D cl ws H) (q0 t0 : Nat) {cA : ClassId} {n : Nat} {f : Nat → Int32} (ha : ws[q0]? = some (a, .inl (cA, n, .inl f))) (ht : tys[t0]? = some (cA, .short)) {i : Int32} (hout : ¬ vp_in i n) (hdg : decode cc pc = .ok (.saload, 1))
    (k : ∀ tx : String, tx = (toString "Index " ++ toString i ++ toString " out of bounds for length " ++ toString n : String) → vx_Note p l e R s m args below meth c H locs cells slots Q (F0 m pc ls rest) "java/lang/ArrayIndexOutOfBoundsException" tx) : W p l e R s m args below meth c H locs cells slots Q (F0 m pc ls (.int i :: .ref a :: rest)) := by
  intro T hT X
  obtain ⟨t, st, q⟩ := k _ rfl T hT X
  refine ⟨t, ?_, q⟩
  have h1 := X.saloadOut hexec (by rw [hT]; exact hP q0 _ ha) ((hK.2 t0 _ ht).1 n (fun j => .int (f j))) (j := i) (by show (i < 0 ∨ (arrV _ _ _).slots.size ≤ _); rw [arrV_size]; exact Classical.byContradiction hout) (g := F0 m pc ls (.int i :: .ref a :: rest)) rfl (rest := rest) rfl (by rw [hb]; exact hdg) t
  simp only [arrV_size] at h1
  exact h1 st
theorem vx_sastZ {D : va_G} {cl : List vw_C} {ws : va_W} {tys : List (ClassId × FieldType)} {a : Nat} (hexec : p.tables.exec = Jvm.exec) (hb : c.code = cc) (hK : va_K D cl tys s) (hP : va_P D cl ws H) (q0 t0 : Nat) {cA : ClassId} {n : Nat} {f : Nat → Int32} (ha : ws[q0]? = some (a, .inl (cA, n, .inl f))) (ht : tys[t0]? = some (cA, .short)) {i : Int32} {x : Int32} (hout : ¬ vp_in i n) (hdg : decode cc pc = .ok (.sastore, 1))
    (k : ∀ tx : String, tx = (toString "Index " ++ toString i ++ toString " out of bounds for length " ++ toString n : String) → vx_Note p l e R s m args below meth c H locs cells slots Q (F0 m pc ls rest) "java/lang/ArrayIndexOutOfBoundsException" tx) : W p l e R s m args below meth c H locs cells slots Q (F0 m pc ls (.int x :: .int i :: .ref a :: rest)) := by
  intro T hT X
  obtain ⟨t, st, q⟩ := k _ rfl T hT X
  refine ⟨t, ?_, q⟩
  have h1 := X.sastoreOut hexec (by rw [hT]; exact hP q0 _ ha) ((hK.2 t0 _ ht).1 n (fun j => .int (f j))) (j := i) (by show (i < 0 ∨ (arrV _ _ _).slots.size ≤ _); rw [arrV_size]; exact Classical.byContradiction hout) (g := F0 m pc ls (.int x :: .int i :: .ref a :: rest)) rfl (rest := rest) rfl (by rw [hb]; exact hdg) t
  simp only [arrV_size] at h1
  exact h1 st
theorem vx_laldZ {D : va_G} {cl : List vw_C} {ws : va_W} {tys : List (ClassId × FieldType)} {a : Nat} (hexec : p.tables.exec = Jvm.exec) (hb : c.code = cc) (hK : va_K D cl tys s) (hP : va_P D cl ws H) (q0 t0 : Nat) {cA : ClassId} {n : Nat} {f : Nat → Int64} (ha : ws[q0]? = some (a, .inl (cA, n, .inr (.inl f)))) (ht : tys[t0]? = some (cA, .long)) {i : Int32} (hout : ¬ vp_in i n) (hdg : decode cc pc = .ok (.laload, 1))
    (k : ∀ tx : String, tx = (toString "Index " ++ toString i ++ toString " out of bounds for length " ++ toString n : String) → vx_Note p l e R s m args below meth c H locs cells slots Q (F0 m pc ls rest) "java/lang/ArrayIndexOutOfBoundsException" tx) : W p l e R s m args below meth c H locs cells slots Q (F0 m pc ls (.int i :: .ref a :: rest)) := by
  intro T hT X
  obtain ⟨t, st, q⟩ := k _ rfl T hT X
  refine ⟨t, ?_, q⟩
  have h1 := X.laloadOut hexec (by rw [hT]; exact hP q0 _ ha) ((hK.2 t0 _ ht).1 n (fun j => .long (f j))) (j := i) (by show (i < 0 ∨ (arrV _ _ _).slots.size ≤ _); rw [arrV_size]; exact Classical.byContradiction hout) (g := F0 m pc ls (.int i :: .ref a :: rest)) rfl (rest := rest) rfl (by rw [hb]; exact hdg) t
  simp only [arrV_size] at h1
  exact h1 st
theorem vx_lastZ {D : va_G} {cl : List vw_C} {ws : va_W} {tys : List (ClassId × FieldType)} {a : Nat} (hexec : p.tables.exec = Jvm.exec) (hb : c.code = cc) (hK : va_K D cl tys s) (hP : va_P D cl ws H) (q0 t0 : Nat) {cA : ClassId} {n : Nat} {f : Nat → Int64} (ha : ws[q0]? = some (a, .inl (cA, n, .inr (.inl f)))) (ht : tys[t0]? = some (cA, .long)) {i : Int32} {x : Int64} (hout : ¬ vp_in i n) (hdg : decode cc pc = .ok (.lastore, 1))
    (k : ∀ tx : String, tx = (toString "Index " ++ toString i ++ toString " out of bounds for length " ++ toString n : String) → vx_Note p l e R s m args below meth c H locs cells slots Q (F0 m pc ls rest) "java/lang/ArrayIndexOutOfBoundsException" tx) : W p l e R s m args below meth c H locs cells slots Q (F0 m pc ls (.long x :: .int i :: .ref a :: rest)) := by
  intro T hT X
  obtain ⟨t, st, q⟩ := k _ rfl T hT X
  refine ⟨t, ?_, q⟩
  have h1 := X.lastoreOut hexec (by rw [hT]; exact hP q0 _ ha) ((hK.2 t0 _ ht).1 n (fun j => .long (f j))) (j := i) (by show (i < 0 ∨ (arrV _ _ _).slots.size ≤ _); rw [arrV_size]; exact Classical.byContradiction hout) (g := F0 m pc ls (.long x :: .int i :: .ref a :: rest)) rfl (rest := rest) rfl (by rw [hb]; exact hdg) t
  simp only [arrV_size] at h1
  exact h1 st
theorem vx_faldZ {D : va_G} {cl : List vw_C} {ws : va_W} {tys : List (ClassId × FieldType)} {a : Nat} (hexec : p.tables.exec = Jvm.exec) (hb : c.code = cc) (hK : va_K D cl tys s) (hP : va_P D cl ws H) (q0 t0 : Nat) {cA : ClassId} {n : Nat} {f : Nat → UInt32} (ha : ws[q0]? = some (a, .inl (cA, n, .inr (.inr (.inl f))))) (ht : tys[t0]? = some (cA, .float)) {i : Int32} (hout : ¬ vp_in i n) (hdg : decode cc pc = .ok (.faload, 1))
    (k : ∀ tx : String, tx = (toString "Index " ++ toString i ++ toString " out of bounds for length " ++ toString n : String) → vx_Note p l e R s m args below meth c H locs cells slots Q (F0 m pc ls rest) "java/lang/ArrayIndexOutOfBoundsException" tx) : W p l e R s m args below meth c H locs cells slots Q (F0 m pc ls (.int i :: .ref a :: rest)) := by
  intro T hT X
  obtain ⟨t, st, q⟩ := k _ rfl T hT X
  refine ⟨t, ?_, q⟩
  have h1 := X.faloadOut hexec (by rw [hT]; exact hP q0 _ ha) ((hK.2 t0 _ ht).1 n (fun j => .float (f j))) (j := i) (by show (i < 0 ∨ (arrV _ _ _).slots.size ≤ _); rw [arrV_size]; exact Classical.byContradiction hout) (g := F0 m pc ls (.int i :: .ref a :: rest)) rfl (rest := rest) rfl (by rw [hb]; exact hdg) t
  simp only [arrV_size] at h1
  exact h1 st
theorem vx_fastZ {D : va_G} {cl : List vw_C} {ws : va_W} {tys : List (ClassId × FieldType)} {a : Nat} (hexec : p.tables.exec = Jvm.exec) (hb : c.code = cc) (hK : va_K D cl tys s) (hP : va_P D cl ws H) (q0 t0 : Nat) {cA : ClassId} {n : Nat} {f : Nat → UInt32} (ha : ws[q0]? = some (a, .inl (cA, n, .inr (.inr (.inl f))))) (ht : tys[t0]? = some (cA, .float)) {i : Int32} {x : UInt32} (hout : ¬ vp_in i n) (hdg : decode cc pc = .ok (.fastore, 1))
    (k : ∀ tx : String, tx = (toString "Index " ++ toString i ++ toString " out of bounds for length " ++ toString n : String) → vx_Note p l e R s m args below meth c H locs cells slots Q (F0 m pc ls rest) "java/lang/ArrayIndexOutOfBoundsException" tx) : W p l e R s m args below meth c H locs cells slots Q (F0 m pc ls (.float x :: .int i :: .ref a :: rest)) := by
  intro T hT X
  obtain ⟨t, st, q⟩ := k _ rfl T hT X
  refine ⟨t, ?_, q⟩
  have h1 := X.fastoreOut hexec (by rw [hT]; exact hP q0 _ ha) ((hK.2 t0 _ ht).1 n (fun j => .float (f j))) (j := i) (by show (i < 0 ∨ (arrV _ _ _).slots.size ≤ _); rw [arrV_size]; exact Classical.byContradiction hout) (g := F0 m pc ls (.float x :: .int i :: .ref a :: rest)) rfl (rest := rest) rfl (by rw [hb]; exact hdg) t
  simp only [arrV_size] at h1
  exact h1 st
theorem vx_daldZ {D : va_G} {cl : List vw_C} {ws : va_W} {tys : List (ClassId × FieldType)} {a : Nat} (hexec : p.tables.exec = Jvm.exec) (hb : c.code = cc) (hK : va_K D cl tys s) (hP : va_P D cl ws H) (q0 t0 : Nat) {cA : ClassId} {n : Nat} {f : Nat → UInt64} (ha : ws[q0]? = some (a, .inl (cA, n, .inr (.inr (.inr (.inl f)))))) (ht : tys[t0]? = some (cA, .double)) {i : Int32} (hout : ¬ vp_in i n) (hdg : decode cc pc = .ok (.daload, 1))
    (k : ∀ tx : String, tx = (toString "Index " ++ toString i ++ toString " out of bounds for length " ++ toString n : String) → vx_Note p l e R s m args below meth c H locs cells slots Q (F0 m pc ls rest) "java/lang/ArrayIndexOutOfBoundsException" tx) : W p l e R s m args below meth c H locs cells slots Q (F0 m pc ls (.int i :: .ref a :: rest)) := by
  intro T hT X
  obtain ⟨t, st, q⟩ := k _ rfl T hT X
  refine ⟨t, ?_, q⟩
  have h1 := X.daloadOut hexec (by rw [hT]; exact hP q0 _ ha) ((hK.2 t0 _ ht).1 n (fun j => .double (f j))) (j := i) (by show (i < 0 ∨ (arrV _ _ _).slots.size ≤ _); rw [arrV_size]; exact Classical.byContradiction hout) (g := F0 m pc ls (.int i :: .ref a :: rest)) rfl (rest := rest) rfl (by rw [hb]; exact hdg) t
  simp only [arrV_size] at h1
  exact h1 st
theorem vx_dastZ {D : va_G} {cl : List vw_C} {ws : va_W} {tys : List (ClassId × FieldType)} {a : Nat} (hexec : p.tables.exec = Jvm.exec) (hb : c.code = cc) (hK : va_K D cl tys s) (hP : va_P D cl ws H) (q0 t0 : Nat) {cA : ClassId} {n : Nat} {f : Nat → UInt64} (ha : ws[q0]? = some (a, .inl (cA, n, .inr (.inr (.inr (.inl f)))))) (ht : tys[t0]? = some (cA, .double)) {i : Int32} {x : UInt64} (hout : ¬ vp_in i n) (hdg : decode cc pc = .ok (.dastore, 1))
    (k : ∀ tx : String, tx = (toString "Index " ++ toString i ++ toString " out of bounds for length " ++ toString n : String) → vx_Note p l e R s m args below meth c H locs cells slots Q (F0 m pc ls rest) "java/lang/ArrayIndexOutOfBoundsException" tx) : W p l e R s m args below meth c H locs cells slots Q (F0 m pc ls (.double x :: .int i :: .ref a :: rest)) := by
  intro T hT X
  obtain ⟨t, st, q⟩ := k _ rfl T hT X
  refine ⟨t, ?_, q⟩
  have h1 := X.dastoreOut hexec (by rw [hT]; exact hP q0 _ ha) ((hK.2 t0 _ ht).1 n (fun j => .double (f j))) (j := i) (by show (i < 0 ∨ (arrV _ _ _).slots.size ≤ _); rw [arrV_size]; exact Classical.byContradiction hout) (g := F0 m pc ls (.double x :: .int i :: .ref a :: rest)) rfl (rest := rest) rfl (by rw [hb]; exact hdg) t
  simp only [arrV_size] at h1
  exact h1 st
theorem vx_arraylengthN (hexec : p.tables.exec = Jvm.exec) (hb : c.code = cc) (hdg : decode cc pc = .ok (.arraylength, 1)) (k : vx_NoteN p l e R s m args below meth c H locs cells slots Q (F0 m pc ls rest)) : W p l e R s m args below meth c H locs cells slots Q (F0 m pc ls (.null :: rest)) := by
  intro T hT X
  obtain ⟨t, st, q⟩ := k T hT X
  exact ⟨t, X.arraylengthNull hexec (g := F0 m pc ls (.null :: rest)) rfl (rest := rest) rfl (by rw [hb]; exact hdg) t st, q⟩
theorem vx_ialoadN (hexec : p.tables.exec = Jvm.exec) (hb : c.code = cc) {i : Int32} (hdg : decode cc pc = .ok (.iaload, 1)) (k : vx_NoteN p l e R s m args below meth c H locs cells slots Q (F0 m pc ls rest)) : W p l e R s m args below meth c H locs cells slots Q (F0 m pc ls (.int i :: .null :: rest)) := by
  intro T hT X
  obtain ⟨t, st, q⟩ := k T hT X
  exact ⟨t, X.ialoadNull hexec (g := F0 m pc ls (.int i :: .null :: rest)) rfl (rest := rest) rfl (by rw [hb]; exact hdg) t st, q⟩
theorem vx_laloadN (hexec : p.tables.exec = Jvm.exec) (hb : c.code = cc) {i : Int32} (hdg : decode cc pc = .ok (.laload, 1)) (k : vx_NoteN p l e R s m args below meth c H locs cells slots Q (F0 m pc ls rest)) : W p l e R s m args below meth c H locs cells slots Q (F0 m pc ls (.int i :: .null :: rest)) := by
  intro T hT X
  obtain ⟨t, st, q⟩ := k T hT X
  exact ⟨t, X.laloadNull hexec (g := F0 m pc ls (.int i :: .null :: rest)) rfl (rest := rest) rfl (by rw [hb]; exact hdg) t st, q⟩
theorem vx_faloadN (hexec : p.tables.exec = Jvm.exec) (hb : c.code = cc) {i : Int32} (hdg : decode cc pc = .ok (.faload, 1)) (k : vx_NoteN p l e R s m args below meth c H locs cells slots Q (F0 m pc ls rest)) : W p l e R s m args below meth c H locs cells slots Q (F0 m pc ls (.int i :: .null :: rest)) := by
  intro T hT X
  obtain ⟨t, st, q⟩ := k T hT X
  exact ⟨t, X.faloadNull hexec (g := F0 m pc ls (.int i :: .null :: rest)) rfl (rest := rest) rfl (by rw [hb]; exact hdg) t st, q⟩
theorem vx_daloadN (hexec : p.tables.exec = Jvm.exec) (hb : c.code = cc) {i : Int32} (hdg : decode cc pc = .ok (.daload, 1)) (k : vx_NoteN p l e R s m args below meth c H locs cells slots Q (F0 m pc ls rest)) : W p l e R s m args below meth c H locs cells slots Q (F0 m pc ls (.int i :: .null :: rest)) := by
  intro T hT X
  obtain ⟨t, st, q⟩ := k T hT X
  exact ⟨t, X.daloadNull hexec (g := F0 m pc ls (.int i :: .null :: rest)) rfl (rest := rest) rfl (by rw [hb]; exact hdg) t st, q⟩
theorem vx_aaloadN (hexec : p.tables.exec = Jvm.exec) (hb : c.code = cc) {i : Int32} (hdg : decode cc pc = .ok (.aaload, 1)) (k : vx_NoteN p l e R s m args below meth c H locs cells slots Q (F0 m pc ls rest)) : W p l e R s m args below meth c H locs cells slots Q (F0 m pc ls (.int i :: .null :: rest)) := by
  intro T hT X
  obtain ⟨t, st, q⟩ := k T hT X
  exact ⟨t, X.aaloadNull hexec (g := F0 m pc ls (.int i :: .null :: rest)) rfl (rest := rest) rfl (by rw [hb]; exact hdg) t st, q⟩
theorem vx_baloadN (hexec : p.tables.exec = Jvm.exec) (hb : c.code = cc) {i : Int32} (hdg : decode cc pc = .ok (.baload, 1)) (k : vx_NoteN p l e R s m args below meth c H locs cells slots Q (F0 m pc ls rest)) : W p l e R s m args below meth c H locs cells slots Q (F0 m pc ls (.int i :: .null :: rest)) := by
  intro T hT X
  obtain ⟨t, st, q⟩ := k T hT X
  exact ⟨t, X.baloadNull hexec (g := F0 m pc ls (.int i :: .null :: rest)) rfl (rest := rest) rfl (by rw [hb]; exact hdg) t st, q⟩
theorem vx_caloadN (hexec : p.tables.exec = Jvm.exec) (hb : c.code = cc) {i : Int32} (hdg : decode cc pc = .ok (.caload, 1)) (k : vx_NoteN p l e R s m args below meth c H locs cells slots Q (F0 m pc ls rest)) : W p l e R s m args below meth c H locs cells slots Q (F0 m pc ls (.int i :: .null :: rest)) := by
  intro T hT X
  obtain ⟨t, st, q⟩ := k T hT X
  exact ⟨t, X.caloadNull hexec (g := F0 m pc ls (.int i :: .null :: rest)) rfl (rest := rest) rfl (by rw [hb]; exact hdg) t st, q⟩
theorem vx_saloadN (hexec : p.tables.exec = Jvm.exec) (hb : c.code = cc) {i : Int32} (hdg : decode cc pc = .ok (.saload, 1)) (k : vx_NoteN p l e R s m args below meth c H locs cells slots Q (F0 m pc ls rest)) : W p l e R s m args below meth c H locs cells slots Q (F0 m pc ls (.int i :: .null :: rest)) := by
  intro T hT X
  obtain ⟨t, st, q⟩ := k T hT X
  exact ⟨t, X.saloadNull hexec (g := F0 m pc ls (.int i :: .null :: rest)) rfl (rest := rest) rfl (by rw [hb]; exact hdg) t st, q⟩
theorem vx_iastoreN (hexec : p.tables.exec = Jvm.exec) (hb : c.code = cc) {x : Int32} {i : Int32} (hdg : decode cc pc = .ok (.iastore, 1)) (k : vx_NoteN p l e R s m args below meth c H locs cells slots Q (F0 m pc ls rest)) : W p l e R s m args below meth c H locs cells slots Q (F0 m pc ls (.int x :: .int i :: .null :: rest)) := by
  intro T hT X
  obtain ⟨t, st, q⟩ := k T hT X
  exact ⟨t, X.iastoreNull hexec (g := F0 m pc ls (.int x :: .int i :: .null :: rest)) rfl (rest := rest) rfl (by rw [hb]; exact hdg) t st, q⟩
theorem vx_lastoreN (hexec : p.tables.exec = Jvm.exec) (hb : c.code = cc) {x : Int64} {i : Int32} (hdg : decode cc pc = .ok (.lastore, 1)) (k : vx_NoteN p l e R s m args below meth c H locs cells slots Q (F0 m pc ls rest)) : W p l e R s m args below meth c H locs cells slots Q (F0 m pc ls (.long x :: .int i :: .null :: rest)) := by
  intro T hT X
  obtain ⟨t, st, q⟩ := k T hT X
  exact ⟨t, X.lastoreNull hexec (g := F0 m pc ls (.long x :: .int i :: .null :: rest)) rfl (rest := rest) rfl (by rw [hb]; exact hdg) t st, q⟩
theorem vx_fastoreN (hexec : p.tables.exec = Jvm.exec) (hb : c.code = cc) {x : UInt32} {i : Int32} (hdg : decode cc pc = .ok (.fastore, 1)) (k : vx_NoteN p l e R s m args below meth c H locs cells slots Q (F0 m pc ls rest)) : W p l e R s m args below meth c H locs cells slots Q (F0 m pc ls (.float x :: .int i :: .null :: rest)) := by
  intro T hT X
  obtain ⟨t, st, q⟩ := k T hT X
  exact ⟨t, X.fastoreNull hexec (g := F0 m pc ls (.float x :: .int i :: .null :: rest)) rfl (rest := rest) rfl (by rw [hb]; exact hdg) t st, q⟩
theorem vx_dastoreN (hexec : p.tables.exec = Jvm.exec) (hb : c.code = cc) {x : UInt64} {i : Int32} (hdg : decode cc pc = .ok (.dastore, 1)) (k : vx_NoteN p l e R s m args below meth c H locs cells slots Q (F0 m pc ls rest)) : W p l e R s m args below meth c H locs cells slots Q (F0 m pc ls (.double x :: .int i :: .null :: rest)) := by
  intro T hT X
  obtain ⟨t, st, q⟩ := k T hT X
  exact ⟨t, X.dastoreNull hexec (g := F0 m pc ls (.double x :: .int i :: .null :: rest)) rfl (rest := rest) rfl (by rw [hb]; exact hdg) t st, q⟩
theorem vx_bastoreN (hexec : p.tables.exec = Jvm.exec) (hb : c.code = cc) {x : Int32} {i : Int32} (hdg : decode cc pc = .ok (.bastore, 1)) (k : vx_NoteN p l e R s m args below meth c H locs cells slots Q (F0 m pc ls rest)) : W p l e R s m args below meth c H locs cells slots Q (F0 m pc ls (.int x :: .int i :: .null :: rest)) := by
  intro T hT X
  obtain ⟨t, st, q⟩ := k T hT X
  exact ⟨t, X.bastoreNull hexec (g := F0 m pc ls (.int x :: .int i :: .null :: rest)) rfl (rest := rest) rfl (by rw [hb]; exact hdg) t st, q⟩
theorem vx_castoreN (hexec : p.tables.exec = Jvm.exec) (hb : c.code = cc) {x : Int32} {i : Int32} (hdg : decode cc pc = .ok (.castore, 1)) (k : vx_NoteN p l e R s m args below meth c H locs cells slots Q (F0 m pc ls rest)) : W p l e R s m args below meth c H locs cells slots Q (F0 m pc ls (.int x :: .int i :: .null :: rest)) := by
  intro T hT X
  obtain ⟨t, st, q⟩ := k T hT X
  exact ⟨t, X.castoreNull hexec (g := F0 m pc ls (.int x :: .int i :: .null :: rest)) rfl (rest := rest) rfl (by rw [hb]; exact hdg) t st, q⟩
theorem vx_sastoreN (hexec : p.tables.exec = Jvm.exec) (hb : c.code = cc) {x : Int32} {i : Int32} (hdg : decode cc pc = .ok (.sastore, 1)) (k : vx_NoteN p l e R s m args below meth c H locs cells slots Q (F0 m pc ls rest)) : W p l e R s m args below meth c H locs cells slots Q (F0 m pc ls (.int x :: .int i :: .null :: rest)) := by
  intro T hT X
  obtain ⟨t, st, q⟩ := k T hT X
  exact ⟨t, X.sastoreNull hexec (g := F0 m pc ls (.int x :: .int i :: .null :: rest)) rfl (rest := rest) rfl (by rw [hb]; exact hdg) t st, q⟩
theorem vx_invokeN {own C : String} {index maxL : Nat} {y : MethodName} {bytes : ByteArray} {ret : Option FieldType} (hexec : p.tables.exec = Jvm.exec) (hb : c.code = cc) (hown : s.vm.findClass own = some m.cls) (hlink : (Cond.methodLink own index y).before args s = true) (hinst : (Cond.instanceMethod y).before args s = true) (hcode : (Cond.code y bytes maxL ret).before args s = true) (hsel : (Cond.selects C y y).before args s = true)
    (hx : y.cls ≠ "java/lang/invoke/MethodHandle" ∧ y.cls ≠ "java/lang/invoke/VarHandle") {As : List Value} (hlen : (parseMethodDescriptor y.desc).map (fun d => d.parameters.length) = some As.length) (hdg : decode cc pc = .ok (.invokevirtual index, 3))
    (k : vx_NoteN p l e R s m args below meth c H locs cells slots Q (F0 m pc ls rest)) {st0 : List Value} (hst : st0 = As.reverse ++ .null :: rest) : W p l e R s m args below meth c H locs cells slots Q (F0 m pc ls st0) := by
  intro T hT X
  obtain ⟨r0, r, hn, hrm, hstR, hsigR⟩ := va_Decl.of hinst hcode
  obtain ⟨c2, r2, m2, q1, q2, q3, q4, kP, hkP, hkPi⟩ := Cond.selects_spec hsel
  cases hn.symm.trans q3
  have hl9 : As.length = r.sig.parameters.length := by
    rw [hsigR] at hlen
    exact (Option.some.inj hlen).symm
  obtain ⟨vm', X1, st1⟩ := X.invokevirtualNull hexec hown hlink hn hrm hstR hkP hkPi hx (g := F0 m pc ls st0) rfl (argsL := As) (rest := rest) hl9 hst (by rw [hb]; exact hdg)
  obtain ⟨t, st, q⟩ := k (T.setVm vm') hT X1
  exact ⟨t, st1 t st, q⟩
theorem vx_newarrayZ {atype : ArrayType} (hexec : p.tables.exec = Jvm.exec) (hb : c.code = cc) {n : Int32} (h0 : n < 0) (hdg : decode cc pc = .ok (.newarray atype, 2)) (k : ∀ tx : String, tx = toString n → vx_Note p l e R s m args below meth c H locs cells slots Q (F0 m pc ls rest) "java/lang/NegativeArraySizeException" tx) : W p l e R s m args below meth c H locs cells slots Q (F0 m pc ls (.int n :: rest)) := by
  intro T hT X
  obtain ⟨t, st, q⟩ := k _ rfl T hT X
  exact ⟨t, X.newarrayNegative hexec (g := F0 m pc ls (.int n :: rest)) rfl h0 (rest := rest) rfl (by rw [hb]; exact hdg) t st, q⟩
end
end VXM
/-! ===== END ===== -/
/-! ===== BEGIN an exception as an object: made, kept, thrown later (no traces kept) ===== -/
section VXK
variable {p : Program} {l : Launch} {e : Env} {R : Room} {s : State} {m₀ : MethodId} {args : Array Value} {below : List Frame} {meth : Method} {c : Code} {W : State} {locs : List Loc} {cells slots : Nat}
set_option maxHeartbeats 1000000 in
theorem vx_ctorMadeS (X : Stand p l e R s m₀ args below meth c W locs cells slots) (hexec : p.tables.exec = Jvm.exec) (htr : e.platform.stackTraces = false) {own cls : String} {names : List String} {ic : Nat}
    (hown : s.vm.findClass own = some m₀.cls) (hcls : Bundle.fit cls = true) (hnames : ∀ n ∈ names, Bundle.fit n = true)
    (h : ∀ a ∈ Bundle.ownAtoms own ic cls names, a.before args s = true)
    (hlocs : ∀ x ∈ locs, ∀ cell, s.heap[x.base]? = some cell → cell.vm.isStatics = false)
    {a : Addr} {cX : ClassId} {kX : Class} (hfoundX : s.vm.findClass cls = some cX) (hkX : s.vm.classes[cX]? = some kX) (hcell : W.heap[a]? = some (freshCell cX kX)) (hnew : s.heap.size ≤ a)
    {msg : Value} (hmsg : msg.isRef = true)
    {g : JFrame} (hg : g.method = m₀) (hsize : g.locals.size = c.maxLocals) {rest : List Value} (hstack : g.stack = msg :: .ref a :: .ref a :: rest)
    (hd6 : decode c.code g.pc = .ok (.invokespecial ic, 3))
    (hRframes : names.length + 3 < R.frames) (hRlocals : 2 * g.monitorRoom + ((Value.ref a :: rest).map fun v => v.category).sum + (13 * (names.length + 1) + 42) ≤ R.locals) :
    ∃ (V : State) (ce : Cell) (L : List Loc), Stand p l e R s m₀ args below meth c (V.setCell a ce) (locs ++ L) cells slots ∧ (∀ y ∈ L, y.base = a) ∧ a < V.heap.size ∧ ce.cls = cX ∧ ce.vm = .none ∧
      ∀ target, Steps p.tables e below ((V.setCell a ce).setTop { g with stack := .ref a :: rest, pc := g.pc + 3 }) target → Steps p.tables e below (W.setTop g) target := by
  have howns : e.platform.frameOwnsMonitors = true := by rw [X.admits.platform]
  have hfin : e.platform.finalization = false := by rw [X.admits.platform]
  have hpl : e.platform.magicAccessors = ({} : Platform).magicAccessors := by rw [X.admits.platform]
  have a' : ∀ x, x ∈ Bundle.ownAtoms own ic cls names → x.holds args s none s [] = true := fun x hx => h x hx
  obtain ⟨T, Z0, L, -, Y⟩ := ThrowableC.of_atoms (args := args) howns hfin hpl (fun x hx => h x (by simp [Bundle.ownAtoms, hx]))
  obtain ⟨Z, M, LZ, LM, hnZ⟩ := Init0T.ofS_atoms (args := args) hpl L Y (fun x hx => h x (by simp [Bundle.ownAtoms, hx]))
  obtain ⟨P1, Ps, hlen, L1, hL, hP1m, hlink1, hlink⟩ := Bundle.chainS (args := args) hpl hnZ names cls hcls hnames (fun x hx => h x (by simp [Bundle.ownAtoms, hx]))
  have hfound : s.vm.findClass cls = some P1.m.cls := findClass_of_methodNamed hP1m
  cases Option.some.inj (hfoundX.symm.trans hfound)
  obtain ⟨c1, kX', hc1, hk, hord, -, -, hn6⟩ := Cond.instantiable_spec (a' (.instantiable cls 6) (by simp [Bundle.ownAtoms]))
  cases Option.some.inj (hc1.symm.trans hfound)
  cases Option.some.inj (hkX.symm.trans hk)
  have hsel0 : selectMethod e.platform s.vm P1.m.cls T.fill0 = .method T.fill0 := by
    obtain ⟨c2, r2, m2, q1, q2, q3, q4, -⟩ := Cond.selects_spec (a' (.selects cls Bundle.tFill0 Bundle.tFill0) (by simp [Bundle.ownAtoms]))
    cases Option.some.inj (q1.symm.trans hfound)
    cases Option.some.inj (q2.symm.trans (State.methodFound?_of_named Y.fill0 (by decide)))
    cases Option.some.inj (q3.symm.trans Y.fill0)
    rw [Launch.admits_selectMethod X.admits]; exact q4
  have hselF : selectMethod e.platform s.vm P1.m.cls T.fill = .method T.fill := by
    obtain ⟨c2, r2, m2, q1, q2, q3, q4, -⟩ := Cond.selects_spec (a' (.selects cls Bundle.tFill Bundle.tFill) (by simp [Bundle.ownAtoms]))
    cases Option.some.inj (q1.symm.trans hfound)
    cases Option.some.inj (q2.symm.trans (State.methodFound?_of_named Y.fill (by decide)))
    cases Option.some.inj (q3.symm.trans Y.fill)
    rw [Launch.admits_selectMethod X.admits]; exact q4
  obtain ⟨cellS0, hcS0, hiss⟩ := Y.statics
  obtain ⟨u0, hu0⟩ := Cond.staticRefV Y.unassigned L.unassignedStatic L.statics hcS0 hiss (a' (.isRef (.static Bundle.tN "UNASSIGNED_STACK" Bundle.steD)) (by simp [Bundle.ownAtoms]))
  obtain ⟨sen, hsen⟩ := Cond.staticRefV Y.sentinel L.sentinelStatic L.statics hcS0 hiss (a' (.isRef (.static Bundle.tN "SUPPRESSED_SENTINEL" Bundle.listD)) (by simp [Bundle.ownAtoms]))
  obtain ⟨ci198, i198, fB, hk198, hg198, ha198, hsB, -, hnB, htB, hffB⟩ := Cond.ownField (t := .object "java/lang/Object") Y.found L.cls (by decide +kernel) (a' (.fieldLink Bundle.tN 198 Bundle.tN "backtrace" "Ljava/lang/Object;") (by simp [Bundle.ownAtoms])) (a' (.lays Bundle.tN Bundle.tN "backtrace" "Ljava/lang/Object;") (by simp [Bundle.ownAtoms])) e.platform hpl
  obtain ⟨cellS, hcS', heS, -, hkeep⟩ := X.same.2.2.2.2.2 T.aS cellS0 hcS0
  have hcellS : W.heap[T.aS]? = some cellS := hcS'
  have hout' : ∀ i, (⟨T.aS, i⟩ : Loc) ∉ locs := fun i hmem => by
    have := hlocs _ hmem cellS0 hcS0
    rw [hiss] at this; cases this
  have hknownS : cellS.vm ≠ .unknown := by
    rw [heS]; intro hu
    rw [show cellS0.vm = .unknown from hu] at hiss
    cases hiss
  have hneS : T.aS ≠ a := Nat.ne_of_lt (Nat.lt_of_lt_of_le (Array.getElem?_eq_some_iff.mp hcS0).1 hnew)
  obtain ⟨iM, hffM⟩ := Y.msg
  obtain ⟨tyC, dC, hdC, hdnC⟩ := Cond.laysAt hfound hk Y.cause (a' (.lays cls Bundle.tN "cause" "Ljava/lang/Throwable;") (by simp [Bundle.ownAtoms]))
  obtain ⟨tyS, dS, hdS, hdnS⟩ := Cond.laysAt hfound hk Y.stack (a' (.lays cls Bundle.tN "stackTrace" Bundle.steD) (by simp [Bundle.ownAtoms]))
  obtain ⟨tyP, dP, hdP, hdnP⟩ := Cond.laysAt hfound hk Y.supp (a' (.lays cls Bundle.tN "suppressedExceptions" Bundle.listD) (by simp [Bundle.ownAtoms]))
  obtain ⟨tyM, dM, hdM, hdnM⟩ := Cond.laysAt hfound hk hffM (a' (.lays cls Bundle.tN "detailMessage" "Ljava/lang/String;") (by simp [Bundle.ownAtoms]))
  obtain ⟨tyB, dB, hdB, hdnB⟩ := Cond.laysAt hfound hk hffB (a' (.lays cls Bundle.tN "backtrace" "Ljava/lang/Object;") (by simp [Bundle.ownAtoms]))
  have bC := Cond.laysApart hdB hdC hdnB hdnC (by rw [hnB, Y.causeName]; decide)
  have bS := Cond.laysApart hdB hdS hdnB hdnS (by rw [hnB, Y.stackName]; decide)
  have bP := Cond.laysApart hdB hdP hdnB hdnP (by rw [hnB, Y.suppName]; decide)
  have hskip : SkipFacts T e.platform s (fun u => u) u0 ((preparedCellV T.toThrowableT (freshCell P1.m.cls kX) a u0 sen).withEntry W.cur) :=
    ⟨{ ci198 := ci198, i198 := i198, fBack := fB }, ⟨hk198, hg198, ha198, hsB⟩, by
      have := fresh_default (c := P1.m.cls) tyB
      rw [htB] at this
      simpa [preparedCellV, Cell.setSlot, Cell.withEntry, Array.getElem?_setIfInBounds, bC, bS, bP, bC.symm, bS.symm, bP.symm, defaultValue] using this, fun _ _ => rfl⟩
  obtain ⟨tm, methC, cdC, kC, vm₁, hnC, -, -, -, -, -, -, -, hW₁, st1⟩ := Steps.initColdS (tb := p.tables) (e := e) (below := below) (s := s) (U := W) X.here hexec X.warmed hpl hown (t := Bundle.initS cls) rfl rfl (Bundle.fit_spec hcls).2
    (a' (.methodLink own ic (Bundle.initS cls)) (by simp [Bundle.ownAtoms])) (h (.instanceMethod (Bundle.initS cls)) (by cases names <;> simp [Bundle.ownAtoms, Bundle.chainSAtoms, Bundle.passSAtoms])) (bytes := Bundle.six) (maxL := 2) (h (.code (Bundle.initS cls) Bundle.six 2 none) (by cases names <;> simp [Bundle.ownAtoms, Bundle.chainSAtoms, Bundle.passSAtoms]))
    (f := g) hg (a := a) (msg := msg) (rest := .ref a :: rest) hstack hd6
  cases Option.some.inj (hnC.symm.trans hP1m)
  have X₁ := X.noted hW₁
  obtain ⟨vm₂, X₂, st2⟩ := X₁.ctorMessageOffV hexec (g := { g with stack := .ref a :: rest }) hg hsize T L Z LZ M LM (P1 :: Ps)
    (fun P hP => by rcases List.mem_cons.mp hP with rfl | hP; exact L1; exact hL P hP) ⟨hlink1, hlink⟩ (u0 := u0) (sen := sen) (self := a) hmsg (cell := freshCell P1.m.cls kX) (cellS := cellS)
    hcell (fun _ => by simp) (by simp) rfl rfl hsel0 hselF hcellS hneS hknownS (by rw [hkeep _ (hout' _)]; exact hu0) (by rw [hkeep _ (hout' _)]; exact hsen)
    (Takes.of_laid hk hord tyC (by rw [Y.causeType]; rfl)) (Takes.of_laid hk hord tyS (by rw [Y.stackType]; exact fits_refV_array _ u0)) (Takes.of_laid hk hord tyP (by rw [Y.suppType]; exact fits_refV_object _ sen))
    (Takes.of_laid hk hord tyM (by rw [Y.msgType]; exact fits_refV_object _ ⟨msg, hmsg⟩)) Y.objLocals hskip htr [] hd6
    (by simp only [List.length_cons, hlen]; omega) (by simp only [List.length_cons, hlen]; exact hRlocals)
  have hlt : a < ((W.setVm vm₁).setVm vm₂).heap.size := (Array.getElem?_eq_some_iff.mp hcell).1
  refine ⟨(W.setVm vm₁).setVm vm₂, _, _, X₂, fun y hy => ?_, hlt, rfl, rfl, fun target hwalk => st1 _ (fun acts => ?_)⟩
  · simp only [List.mem_cons, List.not_mem_nil, or_false] at hy
    rcases hy with rfl | rfl | rfl | rfl | rfl <;> rfl
  · rw [doInvoke_state]
    exact st2 _ hwalk
set_option maxHeartbeats 1000000 in
theorem vx_ctorMade0 (X : Stand p l e R s m₀ args below meth c W locs cells slots) (hexec : p.tables.exec = Jvm.exec) (htr : e.platform.stackTraces = false) {own cls : String} {names : List String} {ic : Nat}
    (hown : s.vm.findClass own = some m₀.cls) (hcls : Bundle.fit cls = true) (hnames : ∀ n ∈ names, Bundle.fit n = true)
    (h : ∀ a ∈ Bundle.ownAtoms0 own ic cls names, a.before args s = true)
    (hlocs : ∀ x ∈ locs, ∀ cell, s.heap[x.base]? = some cell → cell.vm.isStatics = false)
    {a : Addr} {cX : ClassId} {kX : Class} (hfoundX : s.vm.findClass cls = some cX) (hkX : s.vm.classes[cX]? = some kX) (hcell : W.heap[a]? = some (freshCell cX kX)) (hnew : s.heap.size ≤ a)
    {g : JFrame} (hg : g.method = m₀) (hsize : g.locals.size = c.maxLocals) {rest : List Value} (hstack : g.stack = .ref a :: .ref a :: rest)
    (hd6 : decode c.code g.pc = .ok (.invokespecial ic, 3))
    (hRframes : names.length + 3 < R.frames) (hRlocals : 2 * g.monitorRoom + ((Value.ref a :: rest).map fun v => v.category).sum + (13 * (names.length + 1) + 41) ≤ R.locals) :
    ∃ (V : State) (ce : Cell) (L : List Loc), Stand p l e R s m₀ args below meth c (V.setCell a ce) (locs ++ L) cells slots ∧ (∀ y ∈ L, y.base = a) ∧ a < V.heap.size ∧ ce.cls = cX ∧ ce.vm = .none ∧
      ∀ target, Steps p.tables e below ((V.setCell a ce).setTop { g with stack := .ref a :: rest, pc := g.pc + 3 }) target → Steps p.tables e below (W.setTop g) target := by
  have howns : e.platform.frameOwnsMonitors = true := by rw [X.admits.platform]
  have hfin : e.platform.finalization = false := by rw [X.admits.platform]
  have hpl : e.platform.magicAccessors = ({} : Platform).magicAccessors := by rw [X.admits.platform]
  have a' : ∀ x, x ∈ Bundle.ownAtoms0 own ic cls names → x.holds args s none s [] = true := fun x hx => h x hx
  obtain ⟨T, Z, L, LZ, Y⟩ := ThrowableC.of_atoms (args := args) howns hfin hpl (fun x hx => h x (by simp [Bundle.ownAtoms0, hx]))
  obtain ⟨P1, Ps, hlen, L1, hL, hP1m, hlink1, hlink⟩ := Bundle.chain0 (args := args) hpl Y.init0 names cls hcls hnames (fun x hx => h x (by simp [Bundle.ownAtoms0, hx]))
  have hfound : s.vm.findClass cls = some P1.m.cls := findClass_of_methodNamed hP1m
  cases Option.some.inj (hfoundX.symm.trans hfound)
  obtain ⟨c1, kX', hc1, hk, hord, -, -, hn6⟩ := Cond.instantiable_spec (a' (.instantiable cls 6) (by simp [Bundle.ownAtoms0]))
  cases Option.some.inj (hc1.symm.trans hfound)
  cases Option.some.inj (hkX.symm.trans hk)
  have hsel0 : selectMethod e.platform s.vm P1.m.cls T.fill0 = .method T.fill0 := by
    obtain ⟨c2, r2, m2, q1, q2, q3, q4, -⟩ := Cond.selects_spec (a' (.selects cls Bundle.tFill0 Bundle.tFill0) (by simp [Bundle.ownAtoms0]))
    cases Option.some.inj (q1.symm.trans hfound)
    cases Option.some.inj (q2.symm.trans (State.methodFound?_of_named Y.fill0 (by decide)))
    cases Option.some.inj (q3.symm.trans Y.fill0)
    rw [Launch.admits_selectMethod X.admits]; exact q4
  have hselF : selectMethod e.platform s.vm P1.m.cls T.fill = .method T.fill := by
    obtain ⟨c2, r2, m2, q1, q2, q3, q4, -⟩ := Cond.selects_spec (a' (.selects cls Bundle.tFill Bundle.tFill) (by simp [Bundle.ownAtoms0]))
    cases Option.some.inj (q1.symm.trans hfound)
    cases Option.some.inj (q2.symm.trans (State.methodFound?_of_named Y.fill (by decide)))
    cases Option.some.inj (q3.symm.trans Y.fill)
    rw [Launch.admits_selectMethod X.admits]; exact q4
  obtain ⟨cellS0, hcS0, hiss⟩ := Y.statics
  obtain ⟨u0, hu0⟩ := Cond.staticRefV Y.unassigned L.unassignedStatic L.statics hcS0 hiss (a' (.isRef (.static Bundle.tN "UNASSIGNED_STACK" Bundle.steD)) (by simp [Bundle.ownAtoms0]))
  obtain ⟨sen, hsen⟩ := Cond.staticRefV Y.sentinel L.sentinelStatic L.statics hcS0 hiss (a' (.isRef (.static Bundle.tN "SUPPRESSED_SENTINEL" Bundle.listD)) (by simp [Bundle.ownAtoms0]))
  obtain ⟨ci198, i198, fB, hk198, hg198, ha198, hsB, -, hnB, htB, hffB⟩ := Cond.ownField (t := .object "java/lang/Object") Y.found L.cls (by decide +kernel) (a' (.fieldLink Bundle.tN 198 Bundle.tN "backtrace" "Ljava/lang/Object;") (by simp [Bundle.ownAtoms0])) (a' (.lays Bundle.tN Bundle.tN "backtrace" "Ljava/lang/Object;") (by simp [Bundle.ownAtoms0])) e.platform hpl
  obtain ⟨cellS, hcS', heS, -, hkeep⟩ := X.same.2.2.2.2.2 T.aS cellS0 hcS0
  have hcellS : W.heap[T.aS]? = some cellS := hcS'
  have hout' : ∀ i, (⟨T.aS, i⟩ : Loc) ∉ locs := fun i hmem => by
    have := hlocs _ hmem cellS0 hcS0
    rw [hiss] at this; cases this
  have hknownS : cellS.vm ≠ .unknown := by
    rw [heS]; intro hu
    rw [show cellS0.vm = .unknown from hu] at hiss
    cases hiss
  have hneS : T.aS ≠ a := Nat.ne_of_lt (Nat.lt_of_lt_of_le (Array.getElem?_eq_some_iff.mp hcS0).1 hnew)
  obtain ⟨iM, hffM⟩ := Y.msg
  obtain ⟨tyC, dC, hdC, hdnC⟩ := Cond.laysAt hfound hk Y.cause (a' (.lays cls Bundle.tN "cause" "Ljava/lang/Throwable;") (by simp [Bundle.ownAtoms0]))
  obtain ⟨tyS, dS, hdS, hdnS⟩ := Cond.laysAt hfound hk Y.stack (a' (.lays cls Bundle.tN "stackTrace" Bundle.steD) (by simp [Bundle.ownAtoms0]))
  obtain ⟨tyP, dP, hdP, hdnP⟩ := Cond.laysAt hfound hk Y.supp (a' (.lays cls Bundle.tN "suppressedExceptions" Bundle.listD) (by simp [Bundle.ownAtoms0]))
  obtain ⟨tyM, dM, hdM, hdnM⟩ := Cond.laysAt hfound hk hffM (a' (.lays cls Bundle.tN "detailMessage" "Ljava/lang/String;") (by simp [Bundle.ownAtoms0]))
  obtain ⟨tyB, dB, hdB, hdnB⟩ := Cond.laysAt hfound hk hffB (a' (.lays cls Bundle.tN "backtrace" "Ljava/lang/Object;") (by simp [Bundle.ownAtoms0]))
  have bC := Cond.laysApart hdB hdC hdnB hdnC (by rw [hnB, Y.causeName]; decide)
  have bS := Cond.laysApart hdB hdS hdnB hdnS (by rw [hnB, Y.stackName]; decide)
  have bP := Cond.laysApart hdB hdP hdnB hdnP (by rw [hnB, Y.suppName]; decide)
  have hskip : SkipFacts T e.platform s (fun u => u) u0 ((preparedCellV T.toThrowableT (freshCell P1.m.cls kX) a u0 sen).withEntry W.cur) :=
    ⟨{ ci198 := ci198, i198 := i198, fBack := fB }, ⟨hk198, hg198, ha198, hsB⟩, by
      have := fresh_default (c := P1.m.cls) tyB
      rw [htB] at this
      simpa [preparedCellV, Cell.setSlot, Cell.withEntry, Array.getElem?_setIfInBounds, bC, bS, bP, bC.symm, bS.symm, bP.symm, defaultValue] using this, fun _ _ => rfl⟩
  obtain ⟨tm, methC, cdC, kC, vm₁, hnC, -, -, -, -, -, -, -, hW₁, st1⟩ := Steps.initCold (tb := p.tables) (e := e) (below := below) (s := s) (U := W) X.here hexec X.warmed hpl hown (t := Bundle.init0 cls) rfl rfl (Bundle.fit_spec hcls).2
    (a' (.methodLink own ic (Bundle.init0 cls)) (by simp [Bundle.ownAtoms0])) (h (.instanceMethod (Bundle.init0 cls)) (by cases names <;> simp [Bundle.ownAtoms0, Bundle.chain0Atoms, Bundle.passAtoms])) (bytes := Bundle.five) (maxL := 1) (h (.code (Bundle.init0 cls) Bundle.five 1 none) (by cases names <;> simp [Bundle.ownAtoms0, Bundle.chain0Atoms, Bundle.passAtoms]))
    (f := g) hg (a := a) (rest := .ref a :: rest) hstack hd6
  cases Option.some.inj (hnC.symm.trans hP1m)
  have X₁ := X.noted hW₁
  obtain ⟨vm₂, X₂, st2⟩ := X₁.ctorPlainOffV hexec (g := { g with stack := .ref a :: rest }) hg hsize T L Z LZ (P1 :: Ps)
    (fun P hP => by rcases List.mem_cons.mp hP with rfl | hP; exact L1; exact hL P hP) ⟨hlink1, hlink⟩ (u0 := u0) (sen := sen) (self := a) (cell := freshCell P1.m.cls kX) (cellS := cellS)
    hcell (fun _ => by simp) (by simp) rfl rfl hsel0 hselF hcellS hneS hknownS (by rw [hkeep _ (hout' _)]; exact hu0) (by rw [hkeep _ (hout' _)]; exact hsen)
    (Takes.of_laid hk hord tyC (by rw [Y.causeType]; rfl)) (Takes.of_laid hk hord tyS (by rw [Y.stackType]; exact fits_refV_array _ u0)) (Takes.of_laid hk hord tyP (by rw [Y.suppType]; exact fits_refV_object _ sen)) Y.objLocals hskip htr [] hd6
    (by simp only [List.length_cons, hlen]; omega) (by simp only [List.length_cons, hlen]; exact hRlocals)
  have hlt : a < ((W.setVm vm₁).setVm vm₂).heap.size := (Array.getElem?_eq_some_iff.mp hcell).1
  refine ⟨(W.setVm vm₁).setVm vm₂, _, _, X₂, fun y hy => ?_, hlt, rfl, rfl, fun target hwalk => st1 _ (fun acts => ?_)⟩
  · simp only [List.mem_cons, List.not_mem_nil, or_false] at hy
    rcases hy with rfl | rfl | rfl | rfl <;> rfl
  · rw [doInvoke_state]
    exact st2 _ hwalk
end VXK
section VXK2
variable {p : Program} {l : Launch} {e : Env} {R : Room} {s : State} {m : MethodId} {args : Array Value} {below : List Frame} {meth : Method} {c : Code} {H : Heap} {locs : List Loc} {cells slots : Nat} {Q : State → Prop}
variable {ls : Array Slot} {rest : List Value} {D : va_G} {cl : List vw_C} {tys : List (ClassId × FieldType)} {ws : va_W}
/-- 'new E("text")' that isn't thrown at once: the object goes on the stack -/
theorem vx_makeS {cc : ByteArray} {pc : Nat} (hexec : p.tables.exec = Jvm.exec) (hb : c.code = cc) (hl : l.stackTraces = false) {own cls text : String} {names : List String} {ik is ic sa ci : Nat} {A : Nat → Prop} {T0 : u_T}
    (hown : s.vm.findClass own = some m.cls) (hcls : Bundle.fit cls = true) (hnames : ∀ n ∈ names, Bundle.fit n = true)
    (hk : (Cond.classLink own ik cls).before args s = true) (hini : (Cond.initialized cls).before args s = true) (hstr : vk_R own is text sa s) (hat : ∀ w ∈ vx_atS own ic cls names, w.before args s = true)
    (hgood : ∀ w ∈ Cond.classLink own ik cls :: Cond.initialized cls :: vx_atS own ic cls names, vx_ot w = true)
    (hU : vx_Zq Bundle.tN "UNASSIGNED_STACK" Bundle.steD A s s.heap) (hN : vx_Zq Bundle.tN "SUPPRESSED_SENTINEL" Bundle.listD A s s.heap) (hS : va_S A s.heap H locs) (hsize : ls.size = c.maxLocals)
    (d0 : decode cc pc = .ok (.new ik, 3)) (d3 : decode cc (pc + 3) = .ok (.dup, 1)) (d4 : decode cc (pc + 4) = .ok (.ldc is, 2)) (d6 : decode cc (pc + 6) = .ok (.invokespecial ic, 3))
    (hK : va_K D cl tys s) (hP : va_P D cl ws H) (hD : va_D A ws) (hA : ∀ q, s.heap.size ≤ q → A q) (hc : cl[ci]? = some (cls, T0, 0))
    (hRframes : names.length + 3 < R.frames) (hRlocals : (rest.map fun v => v.category).sum + (13 * (names.length + 1) + 43) ≤ R.locals) (hRcells : cells + 1 ≤ R.cells) (hRslots : slots + 6 ≤ R.slots)
    (kk : ∀ (q : Nat) (H1 : Heap), va_P D cl (ws ++ [(q, .inr (ci, []))]) H1 → va_D A (ws ++ [(q, .inr (ci, []))]) → va_S A s.heap H1 locs → W p l e R s m args below meth c H1 locs (cells + 1) (slots + 6) Q (F0 m (pc + 9) ls (.ref q :: rest))) :
    W p l e R s m args below meth c H locs cells slots Q (F0 m pc ls rest) := by
  intro T hT X
  subst hT
  have htr : e.platform.stackTraces = false := (show e.platform.stackTraces = l.stackTraces by rw [X.admits.platform]).trans hl
  have Y := vx_rebase X (R' := { frames := R.frames, locals := R.locals, cells := 1, slots := 6 }) (Nat.le_refl _) (Nat.le_refl _) hRcells hRslots
  obtain ⟨s', hA'⟩ : ∃ z, z = (T.setVm s.vm).setFrames (.invoking m args :: below) := ⟨_, rfl⟩
  rw [← hA'] at Y
  have hvm : s'.vm = s.vm := by rw [hA']; rfl
  have hhp : s'.heap = T.heap := by rw [hA']; rfl
  have hW0 : s.WarmedH s'.vm := by rw [hvm]; exact State.WarmedH.refl s
  have hat' : ∀ w ∈ vx_atS own ic cls names, w.before args s' = true := fun w hw => vx_ot_at hW0 hvm.symm (hgood w (List.mem_cons_of_mem _ (List.mem_cons_of_mem _ hw))) (hat w hw)
  have hk' : (Cond.classLink own ik cls).before args s' = true := vx_ot_at hW0 hvm.symm (hgood _ List.mem_cons_self) hk
  have hini' : (Cond.initialized cls).before args s' = true := vx_ot_at hW0 hvm.symm (hgood _ (List.mem_cons_of_mem _ List.mem_cons_self)) hini
  have hU' : vx_Zq Bundle.tN "UNASSIGNED_STACK" Bundle.steD A s' s'.heap := by rw [hhp]; exact vx_Zq.moved hW0.alike (hU.kept hS.2.1)
  have hN' : vx_Zq Bundle.tN "SUPPRESSED_SENTINEL" Bundle.listD A s' s'.heap := by rw [hhp]; exact vx_Zq.moved hW0.alike (hN.kept hS.2.1)
  have h : ∀ w ∈ Bundle.ownAtoms own ic cls names, w.before args s' = true := vx_own hat' (vx_isRefq hU'.1) (vx_isRefq hN'.1) hU'.2.word hN'.2.word
  have hown' : s'.vm.findClass own = some m.cls := by rw [hvm]; exact hown
  have hins : (Cond.instantiable cls 6).before args s' = true := h _ (by simp [Bundle.ownAtoms])
  obtain ⟨vm₁, cX, kX, hfX, hkX, -, -, X₁, st1⟩ := Y.newCold hexec (own := own) (C := cls) (index := ik) (n := 6) hown' hk' hins hini'
    (g := F0 m pc ls rest) rfl (by rw [hb]; exact d0) (Nat.le_refl _) (Nat.le_refl _)
  generalize hT1 : (T.setVm vm₁).pushCell { cls := cX, slots := kX.instanceTypes.map defaultValue, vm := .none } = T1 at X₁ st1
  have hcat : (Value.ref T.heap.size).category = 1 := rfl
  have hcellA : T1.heap[T.heap.size]? = some (freshCell cX kX) := by rw [← hT1]; exact State.heap_pushCell_size _ _
  have d3' : decode c.code (pc + 3) = .ok (.dup, 1) := by rw [hb]; exact d3
  have d4' : decode c.code (pc + 4) = .ok (.ldc is, 2) := by rw [hb]; exact d4
  have hstr' : vk_R own is text sa s' := vk_R.warm hW0 hstr
  obtain ⟨V, ce, L, Z, hL, hlt, hcl9, hvm9, st⟩ := vx_ctorMadeS X₁ hexec htr (own := own) (cls := cls) (names := names) (ic := ic) hown' hcls hnames h (fun x hx => nomatch hx) hfX hkX hcellA (by rw [hhp]; exact Nat.le_refl _) (msg := .ref sa) rfl
    (g := { method := m, pc := pc + 6, locals := ls, stack := .ref sa :: .ref T.heap.size :: .ref T.heap.size :: rest, locked := none }) rfl hsize (rest := rest) rfl
    (by rw [hb]; exact d6) hRframes (by simp only [List.map_cons, List.sum_cons, hcat]; omega)
  have Z0 := Stand.forget (locs := []) Z (fun y hy => by rw [hL y hy, hhp]; exact Nat.le_refl _)
  obtain ⟨f1, f2⟩ := vx_frame Z0.same
  rw [hhp] at f1 f2
  have hcid : ce.cls = D.1 ci := by
    rw [hcl9]
    have h1 := (hK.1 ci _ hc).2.1
    rw [hvm] at hfX
    exact Option.some.inj (hfX.symm.trans h1)
  have hh : (V.setCell T.heap.size ce).heap[T.heap.size]? = some ce := heapAt_setCell_self (s := V) ce hlt
  subst hA'
  have X5 := vx_back9 X Y Z0
  have X6 : Stand p l e R s m args below meth c (V.setCell T.heap.size ce) locs (cells + 1) (slots + 6) := { X5 with same := X5.same.mono (by omega) (by omega) }
  have hk9 : ∀ (k : Nat) (x : Nat × va_E), ws[k]? = some x → (V.setCell T.heap.size ce).heap[x.1]? = T.heap[x.1]? := fun k x hx => f2 x.1 ((hP k x hx).lt) (fun z hz => nomatch hz)
  obtain ⟨t, a1, b1⟩ := kk T.heap.size (V.setCell T.heap.size ce).heap ((hP.kept hk9).app (fun k x hx => by
      have hz : k < 1 := (List.getElem?_eq_some_iff.mp hx).1
      rw [show k = 0 by omega] at hx
      cases hx
      exact ⟨_, hc, ce, hh, hcid, hvm9, fun k hk => absurd hk (Nat.not_lt_zero k)⟩)) (hD.push hP rfl (hA _ hS.1)) ⟨Nat.le_trans hS.1 f1, fun q h1 h2 => (f2 q (Nat.lt_of_lt_of_le h1 hS.1) (fun z hz => nomatch hz)).trans (hS.2.1 q h1 h2), hS.2.2⟩ _ rfl X6
  refine ⟨t, st1 _ ?_, b1⟩
  show Steps p.tables e below (T1.setTop { method := m, pc := pc + 3, locals := ls, stack := .ref T.heap.size :: rest, locked := none }) _
  jvm_step X₁.here [X₁.here.top, hexec, d3', Value.category]
  exact X₁.ldcString hexec (own := own) (text := text) (index := is) (a := sa) hown' hstr'.1 hstr'.2
    (g := { method := m, pc := pc + 4, locals := ls, stack := .ref T.heap.size :: .ref T.heap.size :: rest, locked := none }) rfl d4' _ (st _ a1)
/-- 'new E()' that isn't thrown at once: the object goes on the stack -/
theorem vx_make0 {cc : ByteArray} {pc : Nat} (hexec : p.tables.exec = Jvm.exec) (hb : c.code = cc) (hl : l.stackTraces = false) {own cls : String} {names : List String} {ik ic ci : Nat} {A : Nat → Prop} {T0 : u_T}
    (hown : s.vm.findClass own = some m.cls) (hcls : Bundle.fit cls = true) (hnames : ∀ n ∈ names, Bundle.fit n = true)
    (hk : (Cond.classLink own ik cls).before args s = true) (hini : (Cond.initialized cls).before args s = true) (hat : ∀ w ∈ vx_at0 own ic cls names, w.before args s = true)
    (hgood : ∀ w ∈ Cond.classLink own ik cls :: Cond.initialized cls :: vx_at0 own ic cls names, vx_ot w = true)
    (hU : vx_Zq Bundle.tN "UNASSIGNED_STACK" Bundle.steD A s s.heap) (hN : vx_Zq Bundle.tN "SUPPRESSED_SENTINEL" Bundle.listD A s s.heap) (hS : va_S A s.heap H locs) (hsize : ls.size = c.maxLocals)
    (d0 : decode cc pc = .ok (.new ik, 3)) (d3 : decode cc (pc + 3) = .ok (.dup, 1)) (d4 : decode cc (pc + 4) = .ok (.invokespecial ic, 3))
    (hK : va_K D cl tys s) (hP : va_P D cl ws H) (hD : va_D A ws) (hA : ∀ q, s.heap.size ≤ q → A q) (hc : cl[ci]? = some (cls, T0, 0))
    (hRframes : names.length + 3 < R.frames) (hRlocals : (rest.map fun v => v.category).sum + (13 * (names.length + 1) + 42) ≤ R.locals) (hRcells : cells + 1 ≤ R.cells) (hRslots : slots + 6 ≤ R.slots)
    (kk : ∀ (q : Nat) (H1 : Heap), va_P D cl (ws ++ [(q, .inr (ci, []))]) H1 → va_D A (ws ++ [(q, .inr (ci, []))]) → va_S A s.heap H1 locs → W p l e R s m args below meth c H1 locs (cells + 1) (slots + 6) Q (F0 m (pc + 7) ls (.ref q :: rest))) :
    W p l e R s m args below meth c H locs cells slots Q (F0 m pc ls rest) := by
  intro T hT X
  subst hT
  have htr : e.platform.stackTraces = false := (show e.platform.stackTraces = l.stackTraces by rw [X.admits.platform]).trans hl
  have Y := vx_rebase X (R' := { frames := R.frames, locals := R.locals, cells := 1, slots := 6 }) (Nat.le_refl _) (Nat.le_refl _) hRcells hRslots
  obtain ⟨s', hA'⟩ : ∃ z, z = (T.setVm s.vm).setFrames (.invoking m args :: below) := ⟨_, rfl⟩
  rw [← hA'] at Y
  have hvm : s'.vm = s.vm := by rw [hA']; rfl
  have hhp : s'.heap = T.heap := by rw [hA']; rfl
  have hW0 : s.WarmedH s'.vm := by rw [hvm]; exact State.WarmedH.refl s
  have hat' : ∀ w ∈ vx_at0 own ic cls names, w.before args s' = true := fun w hw => vx_ot_at hW0 hvm.symm (hgood w (List.mem_cons_of_mem _ (List.mem_cons_of_mem _ hw))) (hat w hw)
  have hk' : (Cond.classLink own ik cls).before args s' = true := vx_ot_at hW0 hvm.symm (hgood _ List.mem_cons_self) hk
  have hini' : (Cond.initialized cls).before args s' = true := vx_ot_at hW0 hvm.symm (hgood _ (List.mem_cons_of_mem _ List.mem_cons_self)) hini
  have hU' : vx_Zq Bundle.tN "UNASSIGNED_STACK" Bundle.steD A s' s'.heap := by rw [hhp]; exact vx_Zq.moved hW0.alike (hU.kept hS.2.1)
  have hN' : vx_Zq Bundle.tN "SUPPRESSED_SENTINEL" Bundle.listD A s' s'.heap := by rw [hhp]; exact vx_Zq.moved hW0.alike (hN.kept hS.2.1)
  have h : ∀ w ∈ Bundle.ownAtoms0 own ic cls names, w.before args s' = true := vx_own hat' (vx_isRefq hU'.1) (vx_isRefq hN'.1) hU'.2.word hN'.2.word
  have hown' : s'.vm.findClass own = some m.cls := by rw [hvm]; exact hown
  have hins : (Cond.instantiable cls 6).before args s' = true := h _ (by simp [Bundle.ownAtoms0])
  obtain ⟨vm₁, cX, kX, hfX, hkX, -, -, X₁, st1⟩ := Y.newCold hexec (own := own) (C := cls) (index := ik) (n := 6) hown' hk' hins hini'
    (g := F0 m pc ls rest) rfl (by rw [hb]; exact d0) (Nat.le_refl _) (Nat.le_refl _)
  generalize hT1 : (T.setVm vm₁).pushCell { cls := cX, slots := kX.instanceTypes.map defaultValue, vm := .none } = T1 at X₁ st1
  have hcat : (Value.ref T.heap.size).category = 1 := rfl
  have hcellA : T1.heap[T.heap.size]? = some (freshCell cX kX) := by rw [← hT1]; exact State.heap_pushCell_size _ _
  have d3' : decode c.code (pc + 3) = .ok (.dup, 1) := by rw [hb]; exact d3
  obtain ⟨V, ce, L, Z, hL, hlt, hcl9, hvm9, st⟩ := vx_ctorMade0 X₁ hexec htr (own := own) (cls := cls) (names := names) (ic := ic) hown' hcls hnames h (fun x hx => nomatch hx) hfX hkX hcellA (by rw [hhp]; exact Nat.le_refl _)
    (g := { method := m, pc := pc + 4, locals := ls, stack := .ref T.heap.size :: .ref T.heap.size :: rest, locked := none }) rfl hsize (rest := rest) rfl
    (by rw [hb]; exact d4) hRframes (by simp only [List.map_cons, List.sum_cons, hcat]; omega)
  have Z0 := Stand.forget (locs := []) Z (fun y hy => by rw [hL y hy, hhp]; exact Nat.le_refl _)
  obtain ⟨f1, f2⟩ := vx_frame Z0.same
  rw [hhp] at f1 f2
  have hcid : ce.cls = D.1 ci := by
    rw [hcl9]
    have h1 := (hK.1 ci _ hc).2.1
    rw [hvm] at hfX
    exact Option.some.inj (hfX.symm.trans h1)
  have hh : (V.setCell T.heap.size ce).heap[T.heap.size]? = some ce := heapAt_setCell_self (s := V) ce hlt
  subst hA'
  have X5 := vx_back9 X Y Z0
  have X6 : Stand p l e R s m args below meth c (V.setCell T.heap.size ce) locs (cells + 1) (slots + 6) := { X5 with same := X5.same.mono (by omega) (by omega) }
  have hk9 : ∀ (k : Nat) (x : Nat × va_E), ws[k]? = some x → (V.setCell T.heap.size ce).heap[x.1]? = T.heap[x.1]? := fun k x hx => f2 x.1 ((hP k x hx).lt) (fun z hz => nomatch hz)
  obtain ⟨t, a1, b1⟩ := kk T.heap.size (V.setCell T.heap.size ce).heap ((hP.kept hk9).app (fun k x hx => by
      have hz : k < 1 := (List.getElem?_eq_some_iff.mp hx).1
      rw [show k = 0 by omega] at hx
      cases hx
      exact ⟨_, hc, ce, hh, hcid, hvm9, fun k hk => absurd hk (Nat.not_lt_zero k)⟩)) (hD.push hP rfl (hA _ hS.1)) ⟨Nat.le_trans hS.1 f1, fun q h1 h2 => (f2 q (Nat.lt_of_lt_of_le h1 hS.1) (fun z hz => nomatch hz)).trans (hS.2.1 q h1 h2), hS.2.2⟩ _ rfl X6
  refine ⟨t, st1 _ ?_, b1⟩
  show Steps p.tables e below (T1.setTop { method := m, pc := pc + 3, locals := ls, stack := .ref T.heap.size :: rest, locked := none }) _
  jvm_step X₁.here [X₁.here.top, hexec, d3', Value.category]
  exact st _ a1
/-- 'throw x' of an object that was made before -/
theorem vx_athrow {cc : ByteArray} {pc : Nat} (hexec : p.tables.exec = Jvm.exec) (hb : c.code = cc) {q : Addr} (hdg : decode cc pc = .ok (.athrow, 1)) (k : vx_W p l e R s m args below meth c H locs cells slots Q (F0 m pc ls rest) q) : W p l e R s m args below meth c H locs cells slots Q (F0 m pc ls (.ref q :: rest)) := by
  intro T hT X
  obtain ⟨t, st, hq⟩ := k T hT X
  refine ⟨t, ?_, hq⟩
  have hdg' : decode c.code pc = .ok (.athrow, 1) := by rw [hb]; exact hdg
  jvm_step X.here [X.here.top, hexec, hdg', athrow.wp_sem]
  exact st
end VXK2
/-! ===== END ===== -/
/-! ===== BEGIN a constructor that throws (launches without stack traces) ===== -/
section VXIA
variable {p : Program} {l : Launch} {e : Env} {R : Room} {s : State} {m : MethodId} {args : Array Value} {below : List Frame} {meth : Method} {c : Code} {T : State} {locs : List Loc} {cells slots : Nat}
theorem vx_callI (X : Stand p l e R s m args below meth c T locs cells slots) (hexec : p.tables.exec = Jvm.exec) {own : String} {index : Nat} {y : MethodName} {bytes : ByteArray} {maxL : Nat}
    (hown : s.vm.findClass own = some m.cls) (hy1 : y.name = "<init>") (hlink : (Cond.methodLink own index y).before args s = true) (hinst : (Cond.instanceMethod y).before args s = true)
    (hcode : (Cond.code y bytes maxL none).before args s = true) (hy : y.cls ≠ "java/lang/invoke/MethodHandle" ∧ y.cls ≠ "java/lang/invoke/VarHandle")
    {W9 : Nat} {Pre : Pt → Array Value → Prop} {Post : Pt → Array Value → Option Value → Pt → Prop} {PostX : Pt → Array Value → Addr → Pt → Prop} (hK : vx_Back l R p e below s args y 3 W9 Pre Post PostX)
    {g : JFrame} (hg : g.method = m) (hsize : g.locals.size = c.maxLocals) {a : Addr} {argsL rest : List Value} (hlen : ∀ sig, parseMethodDescriptor y.desc = some sig → argsL.length = sig.parameters.length)
    (hstack : g.stack = argsL.reverse ++ .ref a :: rest) (hW : 2 * g.monitorRoom + (rest.map fun v => v.category).sum ≤ W9) (hdg : decode c.code g.pc = .ok (.invokespecial index, 3))
    (hpre : ∀ vm₁, s.WarmedH vm₁ → Pre ⟨T.setVm vm₁, locs, cells, slots⟩ (Value.ref a :: argsL).toArray) :
    (∃ (v : Option Value) (vm₁ : Vm) (B : Pt), s.WarmedH vm₁ ∧ Stand p l e R s m args below meth c B.U B.locs B.cells B.slots ∧ Post ⟨T.setVm vm₁, locs, cells, slots⟩ (Value.ref a :: argsL).toArray v B ∧
      ∀ target, Steps p.tables e below (B.U.setTop { g with pc := g.pc + 3, stack := v.toList ++ rest }) target → Steps p.tables e below (T.setTop g) target) ∨
    (∃ (q : Addr) (vm₁ : Vm) (B : Pt), s.WarmedH vm₁ ∧ Stand p l e R s m args below meth c B.U B.locs B.cells B.slots ∧ PostX ⟨T.setVm vm₁, locs, cells, slots⟩ (Value.ref a :: argsL).toArray q B ∧
      Steps p.tables e below (T.setTop g) ((B.U.setTop { g with stack := rest }).pushFrame (.throwing q))) := by
  subst hg
  have hpl : e.platform.magicAccessors = ({} : Platform).magicAccessors := by rw [X.admits.platform]
  obtain ⟨mk, methM, cM, kP, vm₁, hnamed, hmethM, hcodeM, -, hlocalsM, -, hkP, -, hW₁, hstep₁⟩ := Steps.initColdArgs (e := e) X.here hexec X.warmed hpl hown hy1 hy hlink hinst hcode (f := g) rfl hlen hstack hdg
  have X₁ := X.noted hW₁
  rcases hK g.method meth c ⟨T.setVm vm₁, locs, cells, slots⟩ { g with stack := rest } (.invokespecial index) mk (Value.ref a :: argsL).toArray X₁ rfl hsize hdg hW (X₁.named hnamed) (hpre vm₁ X₁.warmed) with ⟨v, B, X', hpost, hsteps⟩ | ⟨q, B, X', hpost, hsteps⟩
  · exact Or.inl ⟨v, vm₁, B, X₁.warmed, X', hpost, fun target h => hstep₁ _ fun acts => by rw [doInvoke_state]; exact hsteps.trans h⟩
  · exact Or.inr ⟨q, vm₁, B, X₁.warmed, X', hpost, hstep₁ _ fun acts => by rw [doInvoke_state]; exact hsteps⟩
end VXIA
section VXIB
variable {p : Program} {l : Launch} {e : Env} {R : Room} {s : State} {m : MethodId} {args : Array Value} {below : List Frame} {meth : Method} {c : Code} {H : Heap} {locs : List Loc} {cells slots : Nat}
variable {y : MethodName} {bytes cc : ByteArray} {maxL nL mc ms n index : Nat} {ret : Option FieldType} {ws : List Cond} {rm : Room} {Pc : Array Value → State → Prop} {Qc : Array Value → State → Outcome → State → Prop} {XC : String → State → State → Prop} {free : Addr → Prop} {Ts : List Cond} {own C : String} {b : Addr} {As rest : List Value} {g : JFrame}
theorem vx_runI (S : CallFix p m c cc nL s args Ts own) (hM : vx_Met l y ws rm Pc Qc XC mc ms free) (cw : CallB R s args own index y bytes maxL none ws rm mc ms n ∧ y.name = "<init>" ∧ (Cond.instanceMethod y).before args s = true) (hp : PreS s H Pc (.ref b :: As))
    (hg : g.method = m) (hn : As.length = n) (hsize : g.locals.size = nL) (hstack : g.stack = As.reverse ++ .ref b :: rest) (hW : 2 * g.monitorRoom + (rest.map fun v => v.category).sum ≤ 8) (hdg : decode cc g.pc = .ok (.invokespecial index, 3)) (hf : cells + mc ≤ R.cells ∧ slots + ms ≤ R.slots) :
    vx_Run p l e R s m args below meth c H locs cells slots mc ms g rest (Qc (Value.ref b :: As).toArray) XC free := by
  have hK : vx_Back l R p e below s args y 3 8 (PreOf R mc ms Pc) (PostOf Qc mc ms free) (vx_Post XC mc ms free) := vx_callBack cw.1 hM hp.1
  obtain ⟨⟨-, -, -, -, -, -, hcode, -, hy, hlen, hl⟩, hy1, hin⟩ := cw
  obtain ⟨hx, hb, hml, ho, -⟩ := S
  have hPc := hp.2
  intro T hT X
  rcases vx_callI X hx (bytes := bytes) (maxL := maxL) ho hy1 hl hin hcode hy hK hg (hsize.trans hml.symm) (a := b) (argsL := As) (rest := rest) (fun sig h => hn.trans (hlen sig h)) hstack hW (by rw [hb]; exact hdg)
    (fun vm₁ hW₁ => ⟨hf.1, hf.2, hPc (T.setVm vm₁) hT hW₁⟩) with ⟨v, vm₁, ⟨U', l2, c2, s2⟩, hW₁, X', ⟨g', mk, t, L, e1, e2, hq, h1, hL, h2, h3⟩, st⟩ | ⟨q, vm₁, ⟨U', l2, c2, s2⟩, hW₁, X', ⟨g', mk, t, L, E, ce, e1, e2, hq, hce, hcv, hcl, h1, hL, h2, h3⟩, st⟩
  · dsimp only [Pt.U, Pt.locs, Pt.cells, Pt.slots] at X' e1 e2 h1 h2 h3 st
    subst h1; subst h2; subst h3
    exact Or.inl ⟨v, (T.setVm vm₁).calling g' mk (Value.ref b :: As).toArray, t, U', L, hT, X', hL, e1, e2, hq, st⟩
  · dsimp only [Pt.U, Pt.locs, Pt.cells, Pt.slots] at X' e1 e2 h1 h2 h3 st hcl
    subst h1; subst h2; subst h3
    exact Or.inr ⟨q, (T.setVm vm₁).calling g' mk (Value.ref b :: As).toArray, t, U', L, E, ce, hT, X', hL, e1, e2, hq, hce, hcv, vx_cls hW₁ hcl, st⟩
end VXIB
/-! ===== END ===== -/
/-! ===== BEGIN a private constructor of a nest mate that throws ===== -/
section VXIC
variable {p : Program} {l : Launch} {e : Env} {R : Room} {s : State} {m : MethodId} {args : Array Value} {below : List Frame} {meth : Method} {c : Code} {T : State} {locs : List Loc} {cells slots : Nat}
theorem vx_callIN (X : Stand p l e R s m args below meth c T locs cells slots) (hexec : p.tables.exec = Jvm.exec) {own : String} {index : Nat} {host : String} {y : MethodName} {bytes : ByteArray} {maxL : Nat}
    (hown : s.vm.findClass own = some m.cls) (hy1 : y.name = "<init>") (hlink : (Cond.methodLinkNest own index y host).before args s = true) (hinst : (Cond.instanceMethod y).before args s = true)
    (hcode : (Cond.code y bytes maxL none).before args s = true) (hy : y.cls ≠ "java/lang/invoke/MethodHandle" ∧ y.cls ≠ "java/lang/invoke/VarHandle")
    {W9 : Nat} {Pre : Pt → Array Value → Prop} {Post : Pt → Array Value → Option Value → Pt → Prop} {PostX : Pt → Array Value → Addr → Pt → Prop} (hK : vx_Back l R p e below s args y 3 W9 Pre Post PostX)
    {g : JFrame} (hg : g.method = m) (hsize : g.locals.size = c.maxLocals) {a : Addr} {argsL rest : List Value} (hlen : ∀ sig, parseMethodDescriptor y.desc = some sig → argsL.length = sig.parameters.length)
    (hstack : g.stack = argsL.reverse ++ .ref a :: rest) (hW : 2 * g.monitorRoom + (rest.map fun v => v.category).sum ≤ W9) (hdg : decode c.code g.pc = .ok (.invokespecial index, 3))
    (hpre : ∀ vm₁, s.WarmedH vm₁ → Pre ⟨T.setVm vm₁, locs, cells, slots⟩ (Value.ref a :: argsL).toArray) :
    (∃ (v : Option Value) (vm₁ : Vm) (B : Pt), s.WarmedH vm₁ ∧ Stand p l e R s m args below meth c B.U B.locs B.cells B.slots ∧ Post ⟨T.setVm vm₁, locs, cells, slots⟩ (Value.ref a :: argsL).toArray v B ∧
      ∀ target, Steps p.tables e below (B.U.setTop { g with pc := g.pc + 3, stack := v.toList ++ rest }) target → Steps p.tables e below (T.setTop g) target) ∨
    (∃ (q : Addr) (vm₁ : Vm) (B : Pt), s.WarmedH vm₁ ∧ Stand p l e R s m args below meth c B.U B.locs B.cells B.slots ∧ PostX ⟨T.setVm vm₁, locs, cells, slots⟩ (Value.ref a :: argsL).toArray q B ∧
      Steps p.tables e below (T.setTop g) ((B.U.setTop { g with stack := rest }).pushFrame (.throwing q))) := by
  subst hg
  have hpl : e.platform.magicAccessors = ({} : Platform).magicAccessors := by rw [X.admits.platform]
  obtain ⟨mk, methM, cM, kP, vm₁, hnamed, hmethM, hcodeM, -, hlocalsM, -, hkP, -, hW₁, hstep₁⟩ := Steps.initColdArgsNest (e := e) X.here hexec X.warmed hpl hown hy1 hy hlink hinst hcode (f := g) rfl hlen hstack hdg
  have X₁ := X.noted hW₁
  rcases hK g.method meth c ⟨T.setVm vm₁, locs, cells, slots⟩ { g with stack := rest } (.invokespecial index) mk (Value.ref a :: argsL).toArray X₁ rfl hsize hdg hW (X₁.named hnamed) (hpre vm₁ X₁.warmed) with ⟨v, B, X', hpost, hsteps⟩ | ⟨q, B, X', hpost, hsteps⟩
  · exact Or.inl ⟨v, vm₁, B, X₁.warmed, X', hpost, fun target h => hstep₁ _ fun acts => by rw [doInvoke_state]; exact hsteps.trans h⟩
  · exact Or.inr ⟨q, vm₁, B, X₁.warmed, X', hpost, hstep₁ _ fun acts => by rw [doInvoke_state]; exact hsteps⟩
end VXIC
section VXID
variable {p : Program} {l : Launch} {e : Env} {R : Room} {s : State} {m : MethodId} {args : Array Value} {below : List Frame} {meth : Method} {c : Code} {H : Heap} {locs : List Loc} {cells slots : Nat}
theorem vx_runIN {y : MethodName} {bytes cc : ByteArray} {maxL nL mc ms n index : Nat} {ws : List Cond} {rm : Room} {Pc : Array Value → State → Prop} {Qc : Array Value → State → Outcome → State → Prop} {XC : String → State → State → Prop} {free : Addr → Prop} {Ts : List Cond} {own host : String} {b : Addr} {As rest : List Value} {g : JFrame}
    (S : CallFix p m c cc nL s args Ts own) (hM : vx_Met l y ws rm Pc Qc XC mc ms free) (cw : va_CN R s args own index y host bytes maxL none ws rm mc ms n ∧ y.name = "<init>" ∧ (Cond.instanceMethod y).before args s = true) (hp : PreS s H Pc (.ref b :: As))
    (hg : g.method = m) (hn : As.length = n) (hsize : g.locals.size = nL) (hstack : g.stack = As.reverse ++ .ref b :: rest) (hW : 2 * g.monitorRoom + (rest.map fun v => v.category).sum ≤ 8) (hdg : decode cc g.pc = .ok (.invokespecial index, 3)) (hf : cells + mc ≤ R.cells ∧ slots + ms ≤ R.slots) :
    vx_Run p l e R s m args below meth c H locs cells slots mc ms g rest (Qc (Value.ref b :: As).toArray) XC free := by
  obtain ⟨⟨⟨hrc, hrs, hfr, hlo, hws, hcw⟩, hcode, hini, hy, hlen, hl⟩, hx1, hx2⟩ := cw
  have hK : vx_Back l R p e below s args y 3 8 (PreOf R mc ms Pc) (PostOf Qc mc ms free) (vx_Post XC mc ms free) := vx_back (bytes := bytes) (maxL := maxL) (ret := none) hM hp.1 hrc hrs hfr hlo hws hcw (fun a' U hW => word_at hW (Or.inl (by first | rfl | simp [Cond.onTables, Cond.keeps, Cond.steady])) hini)
  obtain ⟨hx, hb, hml, ho, -⟩ := S
  have hPc := hp.2
  intro T hT X
  rcases vx_callIN X hx (bytes := bytes) (maxL := maxL) ho hx1 hl hx2 hcode hy hK hg (hsize.trans hml.symm) (a := b) (argsL := As) (rest := rest) (fun sig h => hn.trans (hlen sig h)) hstack hW (by rw [hb]; exact hdg)
    (fun vm₁ hW₁ => ⟨hf.1, hf.2, hPc (T.setVm vm₁) hT hW₁⟩) with ⟨v, vm₁, ⟨U', l2, c2, s2⟩, hW₁, X', ⟨g', mk, t, L, e1, e2, hq, h1, hL, h2, h3⟩, st⟩ | ⟨q, vm₁, ⟨U', l2, c2, s2⟩, hW₁, X', ⟨g', mk, t, L, E, ce, e1, e2, hq, hce, hcv, hcl, h1, hL, h2, h3⟩, st⟩
  · dsimp only [Pt.U, Pt.locs, Pt.cells, Pt.slots] at X' e1 e2 h1 h2 h3 st
    subst h1; subst h2; subst h3
    exact Or.inl ⟨v, (T.setVm vm₁).calling g' mk (Value.ref b :: As).toArray, t, U', L, hT, X', hL, e1, e2, hq, st⟩
  · dsimp only [Pt.U, Pt.locs, Pt.cells, Pt.slots] at X' e1 e2 h1 h2 h3 st hcl
    subst h1; subst h2; subst h3
    exact Or.inr ⟨q, (T.setVm vm₁).calling g' mk (Value.ref b :: As).toArray, t, U', L, E, ce, hT, X', hL, e1, e2, hq, hce, hcv, vx_cls hW₁ hcl, st⟩
end VXID
/-! ===== END ===== -/
/-! ===== BEGIN a method of a class above, found by the receiver, that may throw (follows va_callVU, va_runU of this kit) ===== -/
section
variable {p : Program} {l : Launch} {e : Env} {R : Room} {s : State} {m : MethodId} {args : Array Value} {below : List Frame} {meth : Method} {c : Code} {H : Heap} {locs : List Loc} {cells slots : Nat}
theorem vx_callVU {T : State} {locs : List Loc} {cells slots : Nat} (X : Stand p l e R s m args below meth c T locs cells slots) (hexec : p.tables.exec = Jvm.exec) {own C owner : String} {index : Nat} {x y : MethodName} {bytes : ByteArray} {maxL : Nat} {ret : Option FieldType}
    (hown : s.vm.findClass own = some m.cls) (hlink : (Cond.methodLink own index x).before args s = true) (hsame : (Cond.sameMethod x.cls owner x.name x.desc).before args s = true)
    (hd0 : va_Decl s ⟨owner, x.name, x.desc⟩) (howner : owner ≠ "java/lang/invoke/MethodHandle" ∧ owner ≠ "java/lang/invoke/VarHandle")
    (hsel : (Cond.selects C x y).before args s = true) (hinst : (Cond.instanceMethod y).before args s = true) (hcode : (Cond.code y bytes maxL ret).before args s = true)
    {W : Nat} {Pre : Pt → Array Value → Prop} {Post : Pt → Array Value → Option Value → Pt → Prop} {PostX : Pt → Array Value → Addr → Pt → Prop} (hK : vx_Back l R p e below s args y 3 W Pre Post PostX)
    {b : Addr} {cellB : Cell} (hcell : T.heap[b]? = some cellB) (hobj : cellB.vm.isStatics = false) (hcls : s.vm.findClass C = some cellB.cls)
    {g : JFrame} (hg : g.method = m) (hsize : g.locals.size = c.maxLocals) {argsL rest : List Value} (hlen : ∀ sig, parseMethodDescriptor x.desc = some sig → argsL.length = sig.parameters.length)
    (hstack : g.stack = argsL.reverse ++ .ref b :: rest) (hW : 2 * g.monitorRoom + (rest.map fun v => v.category).sum ≤ W) (hdg : decode c.code g.pc = .ok (.invokevirtual index, 3))
    (hpre : ∀ vm₁, s.WarmedH vm₁ → Pre ⟨T.setVm vm₁, locs, cells, slots⟩ (Value.ref b :: argsL).toArray) :
    (∃ (v : Option Value) (vm₁ : Vm) (B : Pt), s.WarmedH vm₁ ∧ Stand p l e R s m args below meth c B.U B.locs B.cells B.slots ∧ Post ⟨T.setVm vm₁, locs, cells, slots⟩ (Value.ref b :: argsL).toArray v B ∧
      ∀ target, Steps p.tables e below (B.U.setTop { g with pc := g.pc + 3, stack := v.toList ++ rest }) target → Steps p.tables e below (T.setTop g) target) ∨
    (∃ (q : Addr) (vm₁ : Vm) (B : Pt), s.WarmedH vm₁ ∧ Stand p l e R s m args below meth c B.U B.locs B.cells B.slots ∧ PostX ⟨T.setVm vm₁, locs, cells, slots⟩ (Value.ref b :: argsL).toArray q B ∧
      Steps p.tables e below (T.setTop g) ((B.U.setTop { g with stack := rest }).pushFrame (.throwing q))) := by
  obtain ⟨r0, r, hn, hrm, hstR, hsigR⟩ := hd0
  obtain ⟨cn, ck, r1, hcn, hck, hni, hf, hn1⟩ := Cond.sameMethod_found hsame
  cases hn.symm.trans hn1
  obtain ⟨mk, methM, hnamed, hmethM, -, habM⟩ := Cond.instanceMethod_spec hinst
  obtain ⟨c2, r2, m2, q1, q2, q3, q4, kP, hkP, hkPi⟩ := Cond.selects_spec hsel
  cases hcls.symm.trans q1
  cases hf.symm.trans q2
  cases hnamed.symm.trans q3
  have hselP : selectMethod e.platform s.vm cellB.cls r0 = .method mk := by rw [Launch.admits_selectMethod X.admits]; exact q4
  obtain ⟨vm₁, X₁, hstep₁⟩ := X.invokevirtualUp hexec hown hlink hsame howner hn hrm hstR (a := b) (cell := cellB) hcell
    (fun z h => by rw [h] at hobj; cases hobj) hselP hmethM habM hkP hkPi (g := g) hg (argsL := argsL) (rest := rest) (hlen _ hsigR) hstack hdg
  rcases hK m meth c ⟨T.setVm vm₁, locs, cells, slots⟩ { g with stack := rest } (.invokevirtual index) mk (Value.ref b :: argsL).toArray X₁ hg hsize hdg hW (X₁.named hnamed) (hpre vm₁ X₁.warmed) with ⟨v, B, X', hpost, hsteps⟩ | ⟨q, B, X', hpost, hsteps⟩
  · exact Or.inl ⟨v, vm₁, B, X₁.warmed, X', hpost, fun target h => hstep₁ _ fun acts => by rw [doInvoke_state]; exact hsteps.trans h⟩
  · exact Or.inr ⟨q, vm₁, B, X₁.warmed, X', hpost, hstep₁ _ fun acts => by rw [doInvoke_state]; exact hsteps⟩
theorem vx_runU {x y : MethodName} {bytes cc : ByteArray} {maxL nL mc ms n index : Nat} {ret : Option FieldType} {ws : List Cond} {rm : Room} {Pc : Array Value → State → Prop} {Qc : Array Value → State → Outcome → State → Prop} {XC : String → State → State → Prop} {free : Addr → Prop} {Ts : List Cond} {own C owner : String} {b : Addr} {As rest : List Value} {g : JFrame}
    (S : CallFix p m c cc nL s args Ts own) (hM : vx_Met l y ws rm Pc Qc XC mc ms free) (cw : va_CU R s args own C owner index x y bytes maxL ret ws rm mc ms n) (hp : PreV s H C b Pc As)
    (hg : g.method = m) (hn : As.length = n) (hsize : g.locals.size = nL) (hstack : g.stack = As.reverse ++ .ref b :: rest) (hW : 2 * g.monitorRoom + (rest.map fun v => v.category).sum ≤ 8) (hdg : decode cc g.pc = .ok (.invokevirtual index, 3)) (hf : cells + mc ≤ R.cells ∧ slots + ms ≤ R.slots) :
    vx_Run p l e R s m args below meth c H locs cells slots mc ms g rest (Qc (Value.ref b :: As).toArray) XC free := by
  obtain ⟨hrc, hrs, hfr, hlo, hws, hcw⟩ := cw.back
  have hini := cw.init
  have hK : vx_Back l R p e below s args y 3 8 (PreOf R mc ms Pc) (PostOf Qc mc ms free) (vx_Post XC mc ms free) := vx_back (bytes := bytes) (maxL := maxL) (ret := ret) hM hp.1 hrc hrs hfr hlo hws hcw (fun a' U hW => word_at hW (Or.inl (by first | rfl | simp [Cond.onTables, Cond.keeps, Cond.steady])) hini)
  obtain ⟨hx, hb, hml, ho, -⟩ := S
  obtain ⟨-, ⟨cellB, hcB, hoB, hclB⟩, hPc⟩ := hp
  intro T hT X
  rcases vx_callVU X hx (C := C) (owner := owner) (bytes := bytes) (maxL := maxL) (ret := ret) ho cw.link cw.same cw.decl cw.notMH cw.sel cw.inst cw.code hK (by rw [hT]; exact hcB) hoB hclB hg (hsize.trans hml.symm) (argsL := As) (rest := rest) (fun sig h => hn.trans (cw.len sig h)) hstack hW (by rw [hb]; exact hdg)
    (fun vm₁ hW₁ => ⟨hf.1, hf.2, hPc (T.setVm vm₁) hT hW₁⟩) with ⟨v, vm₁, ⟨U', l2, c2, s2⟩, hW₁, X', ⟨g', mk, t, L, e1, e2, hq, h1, hL, h2, h3⟩, st⟩ | ⟨q, vm₁, ⟨U', l2, c2, s2⟩, hW₁, X', ⟨g', mk, t, L, E, ce, e1, e2, hq, hce, hcv, hcl, h1, hL, h2, h3⟩, st⟩
  · dsimp only [Pt.U, Pt.locs, Pt.cells, Pt.slots] at X' e1 e2 h1 h2 h3 st
    subst h1; subst h2; subst h3
    exact Or.inl ⟨v, (T.setVm vm₁).calling g' mk (Value.ref b :: As).toArray, t, U', L, hT, X', hL, e1, e2, hq, st⟩
  · dsimp only [Pt.U, Pt.locs, Pt.cells, Pt.slots] at X' e1 e2 h1 h2 h3 st hcl
    subst h1; subst h2; subst h3
    exact Or.inr ⟨q, (T.setVm vm₁).calling g' mk (Value.ref b :: As).toArray, t, U', L, E, ce, hT, X', hL, e1, e2, hq, hce, hcv, vx_cls hW₁ hcl, st⟩
end
/-! ===== END ===== -/
/-! ===== BEGIN super.m(..) that may throw (follows va_callSU, va_runSU) ===== -/
section
variable {p : Program} {l : Launch} {e : Env} {R : Room} {s : State} {m : MethodId} {args : Array Value} {below : List Frame} {meth : Method} {c : Code} {H : Heap} {locs : List Loc} {cells slots : Nat}
theorem vx_callSU {T : State} {locs : List Loc} {cells slots : Nat} (X : Stand p l e R s m args below meth c T locs cells slots) (hexec : p.tables.exec = Jvm.exec) {own : String} {index : Nat} {y : MethodName} {bytes : ByteArray} {maxL : Nat} {ret : Option FieldType}
    (hown : s.vm.findClass own = some m.cls) (hlink : (Cond.methodLink own index y).before args s = true) (hsame : (Cond.sameMethod y.cls y.cls y.name y.desc).before args s = true) (hsup : (Cond.superclass own y.cls).before args s = true)
    (hinst : (Cond.instanceMethod y).before args s = true) (hcode : (Cond.code y bytes maxL ret).before args s = true) (hno : y.name ≠ "<init>")
    {W : Nat} {Pre : Pt → Array Value → Prop} {Post : Pt → Array Value → Option Value → Pt → Prop} {PostX : Pt → Array Value → Addr → Pt → Prop} (hK : vx_Back l R p e below s args y 3 W Pre Post PostX)
    {b : Addr} {cellB : Cell} {kB : Class} (hcell : T.heap[b]? = some cellB) (hobj : cellB.vm.isStatics = false) (hkB : s.vm.classes[cellB.cls]? = some kB)
    {g : JFrame} (hg : g.method = m) (hsize : g.locals.size = c.maxLocals) {argsL rest : List Value} (hlen : ∀ sig, parseMethodDescriptor y.desc = some sig → argsL.length = sig.parameters.length)
    (hstack : g.stack = argsL.reverse ++ .ref b :: rest) (hW : 2 * g.monitorRoom + (rest.map fun v => v.category).sum ≤ W) (hdg : decode c.code g.pc = .ok (.invokespecial index, 3))
    (hpre : ∀ vm₁, s.WarmedH vm₁ → Pre ⟨T.setVm vm₁, locs, cells, slots⟩ (Value.ref b :: argsL).toArray) :
    (∃ (v : Option Value) (vm₁ : Vm) (B : Pt), s.WarmedH vm₁ ∧ Stand p l e R s m args below meth c B.U B.locs B.cells B.slots ∧ Post ⟨T.setVm vm₁, locs, cells, slots⟩ (Value.ref b :: argsL).toArray v B ∧
      ∀ target, Steps p.tables e below (B.U.setTop { g with pc := g.pc + 3, stack := v.toList ++ rest }) target → Steps p.tables e below (T.setTop g) target) ∨
    (∃ (q : Addr) (vm₁ : Vm) (B : Pt), s.WarmedH vm₁ ∧ Stand p l e R s m args below meth c B.U B.locs B.cells B.slots ∧ PostX ⟨T.setVm vm₁, locs, cells, slots⟩ (Value.ref b :: argsL).toArray q B ∧
      Steps p.tables e below (T.setTop g) ((B.U.setTop { g with stack := rest }).pushFrame (.throwing q))) := by
  obtain ⟨mk, methM, hnamed, hmethM, hstM, habM⟩ := Cond.instanceMethod_spec hinst
  obtain ⟨methM', cM, hmethM', -, -, -, -, -, -, hsigM⟩ := Cond.code_spec hnamed hcode
  cases hmethM.symm.trans hmethM'
  obtain ⟨ps, dk, kp, hps, hdk, hkp, hsuper, -, -, hnid⟩ := Cond.superclass_spec hown hsup
  have hn : s.methodNamed? ⟨y.cls, y.name, y.desc⟩ = some mk := hnamed
  have hpm : ps = mk.cls := Option.some.inj (hps.symm.trans (findClass_of_methodNamed hnamed))
  have hsub : s.vm.isSubclass ps mk.cls = true := by rw [hpm]; simp [Vm.isSubclass, Vm.isSubclassAux]
  obtain ⟨vm₁, X₁, hstep₁⟩ := X.invokespecialUp hexec hown hlink hsame hn hmethM hstM habM hno hdk hnid hps hsuper hsub (a := b) (cell := cellB) hcell
    (fun z h => by rw [h] at hobj; cases hobj) hkB (g := g) hg (argsL := argsL) (rest := rest) (hlen _ hsigM) hstack hdg
  rcases hK m meth c ⟨T.setVm vm₁, locs, cells, slots⟩ { g with stack := rest } (.invokespecial index) mk (Value.ref b :: argsL).toArray X₁ hg hsize hdg hW (X₁.named hnamed) (hpre vm₁ X₁.warmed) with ⟨v, B, X', hpost, hsteps⟩ | ⟨q, B, X', hpost, hsteps⟩
  · exact Or.inl ⟨v, vm₁, B, X₁.warmed, X', hpost, fun target h => hstep₁ _ (by rw [doInvoke_state]; exact hsteps.trans h)⟩
  · exact Or.inr ⟨q, vm₁, B, X₁.warmed, X', hpost, hstep₁ _ (by rw [doInvoke_state]; exact hsteps)⟩
theorem vx_runSU {y : MethodName} {bytes cc : ByteArray} {maxL nL mc ms n index : Nat} {ret : Option FieldType} {ws : List Cond} {rm : Room} {Pc : Array Value → State → Prop} {Qc : Array Value → State → Outcome → State → Prop} {XC : String → State → State → Prop} {free : Addr → Prop} {Ts : List Cond} {own C : String} {cC : ClassId} {b : Addr} {As rest : List Value} {g : JFrame}
    (hat : ClassAt s C cC) (S : CallFix p m c cc nL s args Ts own) (hM : vx_Met l y ws rm Pc Qc XC mc ms free) (cw : va_CS R s args own index y bytes maxL ret ws rm mc ms n) (hp : PreV s H C b Pc As)
    (hg : g.method = m) (hn : As.length = n) (hsize : g.locals.size = nL) (hstack : g.stack = As.reverse ++ .ref b :: rest) (hW : 2 * g.monitorRoom + (rest.map fun v => v.category).sum ≤ 8) (hdg : decode cc g.pc = .ok (.invokespecial index, 3)) (hf : cells + mc ≤ R.cells ∧ slots + ms ≤ R.slots) :
    vx_Run p l e R s m args below meth c H locs cells slots mc ms g rest (Qc (Value.ref b :: As).toArray) XC free := by
  obtain ⟨⟨hrc, hrs, hfr, hlo, hws, hcw⟩, hl1, hl2, hl3, hl4, hini, hcode, hno, hlen⟩ := cw
  have hK : vx_Back l R p e below s args y 3 8 (PreOf R mc ms Pc) (PostOf Qc mc ms free) (vx_Post XC mc ms free) := vx_back (bytes := bytes) (maxL := maxL) (ret := ret) hM hp.1 hrc hrs hfr hlo hws hcw (fun a' U hW => word_at hW (Or.inl (by first | rfl | simp [Cond.onTables, Cond.keeps, Cond.steady])) hini)
  obtain ⟨hx, hb, hml, ho, -⟩ := S
  obtain ⟨-, ⟨cellB, hcB, hoB, hclB⟩, hPc⟩ := hp
  obtain ⟨hfc, kB, hkB, -⟩ := hat
  cases hfc.symm.trans hclB
  intro T hT X
  rcases vx_callSU X hx (bytes := bytes) (maxL := maxL) (ret := ret) ho hl1 hl2 hl3 hl4 hcode hno hK (by rw [hT]; exact hcB) hoB hkB hg (hsize.trans hml.symm) (argsL := As) (rest := rest) (fun sig h => hn.trans (hlen sig h)) hstack hW (by rw [hb]; exact hdg)
    (fun vm₁ hW₁ => ⟨hf.1, hf.2, hPc (T.setVm vm₁) hT hW₁⟩) with ⟨v, vm₁, ⟨U', l2, c2, s2⟩, hW₁, X', ⟨g', mk, t, L, e1, e2, hq, h1, hL, h2, h3⟩, st⟩ | ⟨q, vm₁, ⟨U', l2, c2, s2⟩, hW₁, X', ⟨g', mk, t, L, E, ce, e1, e2, hq, hce, hcv, hcl, h1, hL, h2, h3⟩, st⟩
  · dsimp only [Pt.U, Pt.locs, Pt.cells, Pt.slots] at X' e1 e2 h1 h2 h3 st
    subst h1; subst h2; subst h3
    exact Or.inl ⟨v, (T.setVm vm₁).calling g' mk (Value.ref b :: As).toArray, t, U', L, hT, X', hL, e1, e2, hq, st⟩
  · dsimp only [Pt.U, Pt.locs, Pt.cells, Pt.slots] at X' e1 e2 h1 h2 h3 st hcl
    subst h1; subst h2; subst h3
    exact Or.inr ⟨q, (T.setVm vm₁).calling g' mk (Value.ref b :: As).toArray, t, U', L, E, ce, hT, X', hL, e1, e2, hq, hce, hcv, vx_cls hW₁ hcl, st⟩
end
/-! ===== END ===== -/
/-! ===== BEGIN a private method of a nest mate that may throw (follows va_callVN, va_callSN, va_runVN, va_runSN) ===== -/
section
variable {p : Program} {l : Launch} {e : Env} {R : Room} {s : State} {m : MethodId} {args : Array Value} {below : List Frame} {meth : Method} {c : Code} {H : Heap} {locs : List Loc} {cells slots : Nat}
variable {T : State}
theorem vx_callVN (X : Stand p l e R s m args below meth c T locs cells slots) (hexec : p.tables.exec = Jvm.exec) {own C : String} {index : Nat} {host : String} {y : MethodName} {bytes : ByteArray} {maxL : Nat} {ret : Option FieldType}
    (hown : s.vm.findClass own = some m.cls) (hlink : (Cond.methodLinkNest own index y host).before args s = true) (hinst : (Cond.instanceMethod y).before args s = true) (hsel : (Cond.selects C y y).before args s = true)
    (hcode : (Cond.code y bytes maxL ret).before args s = true) (hy : y.cls ≠ "java/lang/invoke/MethodHandle" ∧ y.cls ≠ "java/lang/invoke/VarHandle")
    {W : Nat} {Pre : Pt → Array Value → Prop} {Post : Pt → Array Value → Option Value → Pt → Prop} {PostX : Pt → Array Value → Addr → Pt → Prop} (hK : vx_Back l R p e below s args y 3 W Pre Post PostX)
    {b : Addr} {cellB : Cell} (hcell : T.heap[b]? = some cellB) (hobj : cellB.vm.isStatics = false) (hcls : s.vm.findClass C = some cellB.cls)
    {g : JFrame} (hg : g.method = m) (hsize : g.locals.size = c.maxLocals) {argsL rest : List Value} (hlen : ∀ sig, parseMethodDescriptor y.desc = some sig → argsL.length = sig.parameters.length)
    (hstack : g.stack = argsL.reverse ++ .ref b :: rest) (hW : 2 * g.monitorRoom + (rest.map fun v => v.category).sum ≤ W) (hdg : decode c.code g.pc = .ok (.invokevirtual index, 3))
    (hpre : ∀ vm₁, s.WarmedH vm₁ → Pre ⟨T.setVm vm₁, locs, cells, slots⟩ (Value.ref b :: argsL).toArray) :
    (∃ (v : Option Value) (vm₁ : Vm) (B : Pt), s.WarmedH vm₁ ∧ Stand p l e R s m args below meth c B.U B.locs B.cells B.slots ∧ Post ⟨T.setVm vm₁, locs, cells, slots⟩ (Value.ref b :: argsL).toArray v B ∧
      ∀ target, Steps p.tables e below (B.U.setTop { g with pc := g.pc + 3, stack := v.toList ++ rest }) target → Steps p.tables e below (T.setTop g) target) ∨
    (∃ (q : Addr) (vm₁ : Vm) (B : Pt), s.WarmedH vm₁ ∧ Stand p l e R s m args below meth c B.U B.locs B.cells B.slots ∧ PostX ⟨T.setVm vm₁, locs, cells, slots⟩ (Value.ref b :: argsL).toArray q B ∧
      Steps p.tables e below (T.setTop g) ((B.U.setTop { g with stack := rest }).pushFrame (.throwing q))) := by
  obtain ⟨mk, methM, hnamed, hmethM, hstM, habM⟩ := Cond.instanceMethod_spec hinst
  obtain ⟨methM', cM, hmethM', -, -, -, -, -, -, hsigM⟩ := Cond.code_spec hnamed hcode
  cases hmethM.symm.trans hmethM'
  obtain ⟨c2, r2, m2, q1, q2, q3, q4, kP, hkP, hkPi⟩ := Cond.selects_spec hsel
  cases hcls.symm.trans q1
  cases (State.methodFound?_of_named hnamed hy).symm.trans q2
  cases hnamed.symm.trans q3
  have hselP : selectMethod e.platform s.vm cellB.cls mk = .method mk := by rw [Launch.admits_selectMethod X.admits]; exact q4
  obtain ⟨vm₁, X₁, hstep₁⟩ := X.invokevirtualNest hexec hown hlink hnamed hmethM hstM hkP hkPi hy (a := b) (cell := cellB) hcell
    (fun z h => by rw [h] at hobj; cases hobj) hselP hmethM habM hkP hkPi (g := g) hg (argsL := argsL) (rest := rest) (hlen _ hsigM) hstack hdg
  rcases hK m meth c ⟨T.setVm vm₁, locs, cells, slots⟩ { g with stack := rest } (.invokevirtual index) mk (Value.ref b :: argsL).toArray X₁ hg hsize hdg hW (X₁.named hnamed) (hpre vm₁ X₁.warmed) with ⟨v, B, X', hpost, hsteps⟩ | ⟨q, B, X', hpost, hsteps⟩
  · exact Or.inl ⟨v, vm₁, B, X₁.warmed, X', hpost, fun target h => hstep₁ _ fun acts => by rw [doInvoke_state]; exact hsteps.trans h⟩
  · exact Or.inr ⟨q, vm₁, B, X₁.warmed, X', hpost, hstep₁ _ fun acts => by rw [doInvoke_state]; exact hsteps⟩
theorem vx_callSN (X : Stand p l e R s m args below meth c T locs cells slots) (hexec : p.tables.exec = Jvm.exec) {own : String} {index : Nat} {host : String} {y : MethodName} {bytes : ByteArray} {maxL : Nat} {ret : Option FieldType}
    (hown : s.vm.findClass own = some m.cls) (hlink : (Cond.methodLinkNest own index y host).before args s = true) (hstat : (Cond.static y).before args s = true) (hinit : (Cond.initialized y.cls).before args s = true)
    (hcode : (Cond.code y bytes maxL ret).before args s = true) (hy : y.cls ≠ "java/lang/invoke/MethodHandle" ∧ y.cls ≠ "java/lang/invoke/VarHandle")
    {W : Nat} {Pre : Pt → Array Value → Prop} {Post : Pt → Array Value → Option Value → Pt → Prop} {PostX : Pt → Array Value → Addr → Pt → Prop} (hK : vx_Back l R p e below s args y 3 W Pre Post PostX)
    {g : JFrame} (hg : g.method = m) (hsize : g.locals.size = c.maxLocals) {argsL rest : List Value} (hlen : ∀ sig, parseMethodDescriptor y.desc = some sig → argsL.length = sig.parameters.length)
    (hstack : g.stack = argsL.reverse ++ rest) (hW : 2 * g.monitorRoom + (rest.map fun v => v.category).sum ≤ W) (hdg : decode c.code g.pc = .ok (.invokestatic index, 3))
    (hpre : ∀ vm₁, s.WarmedH vm₁ → Pre ⟨T.setVm vm₁, locs, cells, slots⟩ argsL.toArray) :
    (∃ (v : Option Value) (vm₁ : Vm) (B : Pt), s.WarmedH vm₁ ∧ Stand p l e R s m args below meth c B.U B.locs B.cells B.slots ∧ Post ⟨T.setVm vm₁, locs, cells, slots⟩ argsL.toArray v B ∧
      ∀ target, Steps p.tables e below (B.U.setTop { g with pc := g.pc + 3, stack := v.toList ++ rest }) target → Steps p.tables e below (T.setTop g) target) ∨
    (∃ (q : Addr) (vm₁ : Vm) (B : Pt), s.WarmedH vm₁ ∧ Stand p l e R s m args below meth c B.U B.locs B.cells B.slots ∧ PostX ⟨T.setVm vm₁, locs, cells, slots⟩ argsL.toArray q B ∧
      Steps p.tables e below (T.setTop g) ((B.U.setTop { g with stack := rest }).pushFrame (.throwing q))) := by
  obtain ⟨mk, hnamed⟩ := Cond.code_named hcode
  obtain ⟨methM, cM, hmethM, -, -, -, -, -, -, hsigM⟩ := Cond.code_spec hnamed hcode
  have hstatic : methM.isStatic = true := Cond.static_spec hnamed hmethM hstat
  obtain ⟨kP, hkP, -⟩ := className_of_methodNamed hnamed
  have hinitP : kP.init = .initialized := Cond.initialized_spec (findClass_of_methodNamed hnamed) hkP hinit
  obtain ⟨vm₁, X₁, hstep₁⟩ := X.invokestaticNest hexec hown hlink hnamed hmethM hstatic hkP hinitP hy (g := g) hg (argsL := argsL) (rest := rest) (hlen _ hsigM) hstack hdg
  rcases hK m meth c ⟨T.setVm vm₁, locs, cells, slots⟩ { g with stack := rest } (.invokestatic index) mk argsL.toArray X₁ hg hsize hdg hW (X₁.named hnamed) (hpre vm₁ X₁.warmed) with ⟨v, B, X', hpost, hsteps⟩ | ⟨q, B, X', hpost, hsteps⟩
  · exact Or.inl ⟨v, vm₁, B, X₁.warmed, X', hpost, fun target h => hstep₁ _ fun acts => by rw [doInvoke_state]; exact hsteps.trans h⟩
  · exact Or.inr ⟨q, vm₁, B, X₁.warmed, X', hpost, hstep₁ _ fun acts => by rw [doInvoke_state]; exact hsteps⟩
theorem vx_runVN {y : MethodName} {bytes cc : ByteArray} {maxL nL mc ms n index : Nat} {ret : Option FieldType} {ws : List Cond} {rm : Room} {Pc : Array Value → State → Prop} {Qc : Array Value → State → Outcome → State → Prop} {XC : String → State → State → Prop} {free : Addr → Prop} {Ts : List Cond} {own C host : String} {b : Addr} {As rest : List Value} {g : JFrame}
    (S : CallFix p m c cc nL s args Ts own) (hM : vx_Met l y ws rm Pc Qc XC mc ms free) (cw : va_CN R s args own index y host bytes maxL ret ws rm mc ms n ∧ (Cond.instanceMethod y).before args s = true ∧ (Cond.selects C y y).before args s = true) (hp : PreV s H C b Pc As)
    (hg : g.method = m) (hn : As.length = n) (hsize : g.locals.size = nL) (hstack : g.stack = As.reverse ++ .ref b :: rest) (hW : 2 * g.monitorRoom + (rest.map fun v => v.category).sum ≤ 8) (hdg : decode cc g.pc = .ok (.invokevirtual index, 3)) (hf : cells + mc ≤ R.cells ∧ slots + ms ≤ R.slots) :
    vx_Run p l e R s m args below meth c H locs cells slots mc ms g rest (Qc (Value.ref b :: As).toArray) XC free := by
  obtain ⟨⟨⟨hrc, hrs, hfr, hlo, hws, hcw⟩, hcode, hini, hy, hlen, hl⟩, hx1, hx2⟩ := cw
  have hK : vx_Back l R p e below s args y 3 8 (PreOf R mc ms Pc) (PostOf Qc mc ms free) (vx_Post XC mc ms free) := vx_back (bytes := bytes) (maxL := maxL) (ret := ret) hM hp.1 hrc hrs hfr hlo hws hcw (fun a' U hW => word_at hW (Or.inl (by first | rfl | simp [Cond.onTables, Cond.keeps, Cond.steady])) hini)
  obtain ⟨hx, hb, hml, ho, -⟩ := S
  obtain ⟨-, ⟨cellB, hcB, hoB, hclB⟩, hPc⟩ := hp
  intro T hT X
  rcases vx_callVN X hx (C := C) (bytes := bytes) (maxL := maxL) (ret := ret) ho hl hx1 hx2 hcode hy hK (by rw [hT]; exact hcB) hoB hclB hg (hsize.trans hml.symm) (argsL := As) (rest := rest) (fun sig h => hn.trans (hlen sig h)) hstack hW (by rw [hb]; exact hdg)
    (fun vm₁ hW₁ => ⟨hf.1, hf.2, hPc (T.setVm vm₁) hT hW₁⟩) with ⟨v, vm₁, ⟨U', l2, c2, s2⟩, hW₁, X', ⟨g', mk, t, L, e1, e2, hq, h1, hL, h2, h3⟩, st⟩ | ⟨q, vm₁, ⟨U', l2, c2, s2⟩, hW₁, X', ⟨g', mk, t, L, E, ce, e1, e2, hq, hce, hcv, hcl, h1, hL, h2, h3⟩, st⟩
  · dsimp only [Pt.U, Pt.locs, Pt.cells, Pt.slots] at X' e1 e2 h1 h2 h3 st
    subst h1; subst h2; subst h3
    exact Or.inl ⟨v, (T.setVm vm₁).calling g' mk (Value.ref b :: As).toArray, t, U', L, hT, X', hL, e1, e2, hq, st⟩
  · dsimp only [Pt.U, Pt.locs, Pt.cells, Pt.slots] at X' e1 e2 h1 h2 h3 st hcl
    subst h1; subst h2; subst h3
    exact Or.inr ⟨q, (T.setVm vm₁).calling g' mk (Value.ref b :: As).toArray, t, U', L, E, ce, hT, X', hL, e1, e2, hq, hce, hcv, vx_cls hW₁ hcl, st⟩
theorem vx_runSN {y : MethodName} {bytes cc : ByteArray} {maxL nL mc ms n index : Nat} {ret : Option FieldType} {ws : List Cond} {rm : Room} {Pc : Array Value → State → Prop} {Qc : Array Value → State → Outcome → State → Prop} {XC : String → State → State → Prop} {free : Addr → Prop} {Ts : List Cond} {own host : String} {As rest : List Value} {g : JFrame}
    (S : CallFix p m c cc nL s args Ts own) (hM : vx_Met l y ws rm Pc Qc XC mc ms free) (cw : va_CN R s args own index y host bytes maxL ret ws rm mc ms n ∧ (Cond.static y).before args s = true ∧ True) (hp : PreS s H Pc As)
    (hg : g.method = m) (hn : As.length = n) (hsize : g.locals.size = nL) (hstack : g.stack = As.reverse ++ rest) (hW : 2 * g.monitorRoom + (rest.map fun v => v.category).sum ≤ 8) (hdg : decode cc g.pc = .ok (.invokestatic index, 3)) (hf : cells + mc ≤ R.cells ∧ slots + ms ≤ R.slots) :
    vx_Run p l e R s m args below meth c H locs cells slots mc ms g rest (Qc As.toArray) XC free := by
  obtain ⟨⟨⟨hrc, hrs, hfr, hlo, hws, hcw⟩, hcode, hini, hy, hlen, hl⟩, hx1, hx2⟩ := cw
  have hK : vx_Back l R p e below s args y 3 8 (PreOf R mc ms Pc) (PostOf Qc mc ms free) (vx_Post XC mc ms free) := vx_back (bytes := bytes) (maxL := maxL) (ret := ret) hM hp.1 hrc hrs hfr hlo hws hcw (fun a' U hW => word_at hW (Or.inl (by first | rfl | simp [Cond.onTables, Cond.keeps, Cond.steady])) hini)
  obtain ⟨hx, hb, hml, ho, -⟩ := S
  have hPc := hp.2
  intro T hT X
  rcases vx_callSN X hx (bytes := bytes) (maxL := maxL) (ret := ret) ho hl hx1 hini hcode hy hK hg (hsize.trans hml.symm) (argsL := As) (rest := rest) (fun sig h => hn.trans (hlen sig h)) hstack hW (by rw [hb]; exact hdg)
    (fun vm₁ hW₁ => ⟨hf.1, hf.2, hPc (T.setVm vm₁) hT hW₁⟩) with ⟨v, vm₁, ⟨U', l2, c2, s2⟩, hW₁, X', ⟨g', mk, t, L, e1, e2, hq, h1, hL, h2, h3⟩, st⟩ | ⟨q, vm₁, ⟨U', l2, c2, s2⟩, hW₁, X', ⟨g', mk, t, L, E, ce, e1, e2, hq, hce, hcv, hcl, h1, hL, h2, h3⟩, st⟩
  · dsimp only [Pt.U, Pt.locs, Pt.cells, Pt.slots] at X' e1 e2 h1 h2 h3 st
    subst h1; subst h2; subst h3
    exact Or.inl ⟨v, (T.setVm vm₁).calling g' mk As.toArray, t, U', L, hT, X', hL, e1, e2, hq, st⟩
  · dsimp only [Pt.U, Pt.locs, Pt.cells, Pt.slots] at X' e1 e2 h1 h2 h3 st hcl
    subst h1; subst h2; subst h3
    exact Or.inr ⟨q, (T.setVm vm₁).calling g' mk As.toArray, t, U', L, E, ce, hT, X', hL, e1, e2, hq, hce, hcv, vx_cls hW₁ hcl, st⟩
end
/-! ===== END ===== -/
/-! ===== BEGIN calls by an interface of methods that may throw (vx_callIF, vx_runF follow va_callIF, va_runF of this kit) ===== -/
section
variable {p : Program} {l : Launch} {e : Env} {R : Room} {s : State} {m : MethodId} {args : Array Value} {below : List Frame} {meth : Method} {c : Code} {H : Heap} {locs : List Loc} {cells slots : Nat} {Q : State → Prop}
variable {mc ms : Nat} {free : Addr → Prop} {A0 A1 : Nat → Prop} {H0 : Heap} {a : Array Value} {pc : Nat} {ls : Array Slot} {st0 rest : List Value}
def vx_Run5 (p : Program) (l : Launch) (e : Env) (R : Room) (s : State) (m : MethodId) (args : Array Value) (below : List Frame) (meth : Method) (c : Code) (H : Heap) (locs : List Loc) (cells slots mc ms : Nat) (g : JFrame) (rest : List Value) (Qa : State → Outcome → State → Prop) (XC : String → State → State → Prop) (free : Addr → Prop) : Prop :=
  ∀ T : State, T.heap = H → Stand p l e R s m args below meth c T locs cells slots →
    (∃ (v : Option Value) (st₀ t T' : State) (L : List Loc), st₀.heap = H ∧ Stand p l e R s m args below meth c T' (locs ++ L) (cells + mc) (slots + ms) ∧ (∀ q ∈ L, free q.base) ∧ T'.heap = t.heap ∧ T'.vm = t.vm ∧ Qa st₀ (.returned v) t ∧
      Goes p e below T g T' { g with pc := g.pc + 5, stack := v.toList ++ rest }) ∨
    (∃ (q : Addr) (st₀ t T' : State) (L : List Loc) (E : String) (ce : Cell), st₀.heap = H ∧ Stand p l e R s m args below meth c T' (locs ++ L) (cells + mc) (slots + ms) ∧ (∀ z ∈ L, free z.base) ∧ T'.heap = t.heap ∧ T'.vm = t.vm ∧ XC E st₀ t ∧ t.heap[q]? = some ce ∧ ce.vm = .none ∧ s.vm.findClass E = some ce.cls ∧
      Steps p.tables e below (T.setTop g) ((T'.setTop { g with stack := rest }).pushFrame (.throwing q)))
theorem vx_callIF {T : State} (X : Stand p l e R s m args below meth c T locs cells slots) (hexec : p.tables.exec = Jvm.exec) {own C : String} {index count : Nat} {x y : MethodName} {bytes : ByteArray} {maxL : Nat} {ret : Option FieldType}
    (hown : s.vm.findClass own = some m.cls) (hlink : (Cond.methodLink own index x).before args s = true) (hdecl : (Cond.declares x).before args s = true) (hface : (Cond.interfaceMethod x.cls x.cls x.name x.desc).before args s = true)
    (hsel : (Cond.selects C x y).before args s = true) (hinst : (Cond.instanceMethod y).before args s = true) (hpub : (Cond.publicMethod y).before args s = true) (hunh : (Cond.unhidden C x.name x.desc).before args s = true)
    (hcast : (Cond.castable C x.cls).before args s = true) (hcode : (Cond.code y bytes maxL ret).before args s = true) (hx : x.cls ≠ "java/lang/invoke/MethodHandle" ∧ x.cls ≠ "java/lang/invoke/VarHandle")
    {W9 : Nat} {Pre : Pt → Array Value → Prop} {Post : Pt → Array Value → Option Value → Pt → Prop} {PostX : Pt → Array Value → Addr → Pt → Prop} (hK : vx_Back l R p e below s args y 5 W9 Pre Post PostX)
    {b : Addr} {cellB : Cell} {kB : Class} (hcell : T.heap[b]? = some cellB) (hobj : cellB.vm.isStatics = false) (hcls : s.vm.findClass C = some cellB.cls) (hkB : s.vm.classes[cellB.cls]? = some kB)
    {g : JFrame} (hg : g.method = m) (hsize : g.locals.size = c.maxLocals) {argsL rest : List Value} (hlen : ∀ sig, parseMethodDescriptor x.desc = some sig → argsL.length = sig.parameters.length)
    (hstack : g.stack = argsL.reverse ++ .ref b :: rest) (hW : 2 * g.monitorRoom + (rest.map fun v => v.category).sum ≤ W9) (hdg : decode c.code g.pc = .ok (.invokeinterface index count, 5))
    (hpre : ∀ vm₁, s.WarmedH vm₁ → Pre ⟨T.setVm vm₁, locs, cells, slots⟩ (Value.ref b :: argsL).toArray) :
    (∃ (v : Option Value) (vm₁ : Vm) (B : Pt), s.WarmedH vm₁ ∧ Stand p l e R s m args below meth c B.U B.locs B.cells B.slots ∧ Post ⟨T.setVm vm₁, locs, cells, slots⟩ (Value.ref b :: argsL).toArray v B ∧
      ∀ target, Steps p.tables e below (B.U.setTop { g with pc := g.pc + 5, stack := v.toList ++ rest }) target → Steps p.tables e below (T.setTop g) target) ∨
    (∃ (q : Addr) (vm₁ : Vm) (B : Pt), s.WarmedH vm₁ ∧ Stand p l e R s m args below meth c B.U B.locs B.cells B.slots ∧ PostX ⟨T.setVm vm₁, locs, cells, slots⟩ (Value.ref b :: argsL).toArray q B ∧
      Steps p.tables e below (T.setTop g) ((B.U.setTop { g with stack := rest }).pushFrame (.throwing q))) := by
  obtain ⟨r0, r, hn, hrm, hstR, hsigR⟩ := Cond.declares_spec hdecl
  obtain ⟨cL, kL, r1, hcL, hkL, hiL, hfoundL, hn1⟩ := Cond.interfaceMethod_spec hface
  cases hn.symm.trans hn1
  have hr0cls : r0.cls = cL := Option.some.inj ((findClass_of_methodNamed hn).symm.trans hcL)
  obtain ⟨hnameR, hdescR⟩ := name_of_methodNamed hn hrm
  obtain ⟨mk, methM, hnamed, hmethM, -, habM⟩ := Cond.instanceMethod_spec hinst
  obtain ⟨c2, r2, m2, q1, q2, q3, q4, -⟩ := Cond.selects_spec hsel
  cases hcls.symm.trans q1
  cases hfoundL.symm.trans q2
  cases hnamed.symm.trans q3
  have hselP : selectMethod e.platform s.vm cellB.cls r0 = .method mk := by rw [Launch.admits_selectMethod X.admits]; exact q4
  have hpubM : hasFlag methM.accessFlags Acc.public_ = true := Cond.publicMethod_spec hnamed hmethM hpub
  have hway : ((cellB.cls :: s.vm.superclasses cellB.cls).any fun k => (declaredIn s.vm r.name r.desc k).any fun (_, z) => z.isPrivate || z.isStatic) = false := by
    rw [hnameR, hdescR]; exact Cond.unhidden_spec hcls hunh
  obtain ⟨c3, t3, w1, w2, w3⟩ := Cond.castable_spec hcast
  cases hcls.symm.trans w1
  cases hcL.symm.trans w2
  obtain ⟨vm₁, X₁, hstep₁⟩ := X.invokeinterface hexec hown hlink hn hrm hstR (by rw [hr0cls]; exact hkL) hiL hx (a := b) (cell := cellB) (kcell := kB) hcell
    (fun z h => by rw [h] at hobj; cases hobj) hkB (by rw [hr0cls]; exact w3) hselP hmethM hway hpubM habM (g := g) hg (argsL := argsL) (rest := rest) (hlen _ hsigR) hstack hdg
  rcases hK m meth c ⟨T.setVm vm₁, locs, cells, slots⟩ { g with stack := rest } (.invokeinterface index count) mk (Value.ref b :: argsL).toArray X₁ hg hsize hdg hW (X₁.named hnamed) (hpre vm₁ X₁.warmed) with ⟨v, B, X', hpost, hsteps⟩ | ⟨q, B, X', hpost, hsteps⟩
  · exact Or.inl ⟨v, vm₁, B, X₁.warmed, X', hpost, fun target h => hstep₁ _ fun acts => by rw [doInvoke_state]; exact hsteps.trans h⟩
  · exact Or.inr ⟨q, vm₁, B, X₁.warmed, X', hpost, hstep₁ _ fun acts => by rw [doInvoke_state]; exact hsteps⟩
theorem vx_runF {x y : MethodName} {bytes cc : ByteArray} {maxL nL mc ms n index count : Nat} {ret : Option FieldType} {ws : List Cond} {rm : Room} {Pc : Array Value → State → Prop} {Qc : Array Value → State → Outcome → State → Prop} {XC : String → State → State → Prop} {free : Addr → Prop} {Ts : List Cond} {own C : String} {cC : ClassId} {b : Addr} {As rest : List Value} {g : JFrame}
    (hat : ClassAt s C cC) (S : CallFix p m c cc nL s args Ts own) (hM : vx_Met l y ws rm Pc Qc XC mc ms free) (cw : va_CI R s args own C index x y bytes maxL ret ws rm mc ms n) (hp : PreV s H C b Pc As)
    (hg : g.method = m) (hn : As.length = n) (hsize : g.locals.size = nL) (hstack : g.stack = As.reverse ++ .ref b :: rest) (hW : 2 * g.monitorRoom + (rest.map fun v => v.category).sum ≤ 8) (hdg : decode cc g.pc = .ok (.invokeinterface index count, 5)) (hf : cells + mc ≤ R.cells ∧ slots + ms ≤ R.slots) :
    vx_Run5 p l e R s m args below meth c H locs cells slots mc ms g rest (Qc (Value.ref b :: As).toArray) XC free := by
  obtain ⟨hrc, hrs, hfr, hlo, hws, hcw⟩ := cw.back
  have hini := cw.init
  have hK : vx_Back l R p e below s args y 5 8 (PreOf R mc ms Pc) (PostOf Qc mc ms free) (vx_Post XC mc ms free) := vx_back (bytes := bytes) (maxL := maxL) (ret := ret) hM hp.1 hrc hrs hfr hlo hws hcw (fun a' U hW => word_at hW (Or.inl (by first | rfl | simp [Cond.onTables, Cond.keeps, Cond.steady])) hini)
  obtain ⟨hx, hb, hml, ho, -⟩ := S
  obtain ⟨-, ⟨cellB, hcB, hoB, hclB⟩, hPc⟩ := hp
  obtain ⟨hfc, kB, hkB, -⟩ := hat
  cases hfc.symm.trans hclB
  intro T hT X
  rcases vx_callIF X hx (C := C) (bytes := bytes) (maxL := maxL) (ret := ret) ho cw.link cw.decl cw.face cw.sel cw.inst cw.pub cw.unh cw.cast cw.code cw.notMH hK (by rw [hT]; exact hcB) hoB hclB hkB hg (hsize.trans hml.symm) (argsL := As) (rest := rest) (fun sig h => hn.trans (cw.len sig h)) hstack hW (by rw [hb]; exact hdg)
    (fun vm₁ hW₁ => ⟨hf.1, hf.2, hPc (T.setVm vm₁) hT hW₁⟩) with ⟨v, vm₁, ⟨U', l2, c2, s2⟩, hW₁, X', ⟨g', mk, t, L, e1, e2, hq, h1, hL, h2, h3⟩, st⟩ | ⟨q, vm₁, ⟨U', l2, c2, s2⟩, hW₁, X', ⟨g', mk, t, L, E, ce, e1, e2, hq, hce, hcv, hcl, h1, hL, h2, h3⟩, st⟩
  · dsimp only [Pt.U, Pt.locs, Pt.cells, Pt.slots] at X' e1 e2 h1 h2 h3 st
    subst h1; subst h2; subst h3
    exact Or.inl ⟨v, (T.setVm vm₁).calling g' mk (Value.ref b :: As).toArray, t, U', L, hT, X', hL, e1, e2, hq, st⟩
  · dsimp only [Pt.U, Pt.locs, Pt.cells, Pt.slots] at X' e1 e2 h1 h2 h3 st hcl
    subst h1; subst h2; subst h3
    exact Or.inr ⟨q, (T.setVm vm₁).calling g' mk (Value.ref b :: As).toArray, t, U', L, E, ce, hT, X', hL, e1, e2, hq, hce, hcv, vx_cls hW₁ hcl, st⟩
theorem vx_callFv {S SX : Type} {post : S → Prop} {px : SX → Prop} {B : S → State → Prop} {BX : String → SX → State → Prop} {AX : Nat → Prop} (hr : vx_Run5 p l e R s m args below meth c H locs cells slots mc ms (F0 m pc ls st0) rest (va_Qv post B A1 a) (vx_X px BX AX) free) (hS : va_S A0 H0 H locs) (hA : ∀ q, q < H.size → A1 q → A0 q) (hf : ∀ q, free q → A0 q) (hAX : ∀ q, q < H.size → AX q → A0 q)
    (kx : ∀ (E : String) (ce : Cell) (q9 : Addr) (u : SX) (t : State) (H1 : Heap) (locs1 : List Loc), t.heap = H1 → s.vm.Alike t.vm → px u → BX E u t → H.size ≤ H1.size → (∀ q : Nat, q < H.size → ¬ AX q → H1[q]? = H[q]?) → va_S A0 H0 H1 locs1 → H1[q9]? = some ce → ce.vm = .none → s.vm.findClass E = some ce.cls → vx_W p l e R s m args below meth c H1 locs1 (cells + mc) (slots + ms) Q (F0 m pc ls rest) q9)
    (kk : ∀ (u : S) (t : State) (H1 : Heap) (locs1 : List Loc), t.heap = H1 → s.vm.Alike t.vm → post u → B u t → H.size ≤ H1.size → (∀ q : Nat, q < H.size → ¬ A1 q → H1[q]? = H[q]?) → va_S A0 H0 H1 locs1 → W p l e R s m args below meth c H1 locs1 (cells + mc) (slots + ms) Q (F0 m (pc + 5) ls (rest))) : W p l e R s m args below meth c H locs cells slots Q (F0 m pc ls st0) := by
  intro T hT X
  rcases hr T hT X with ⟨v, st₀, t, T', L, h0, X', hL, e1, e2, ⟨⟨u, hv, hp, hb⟩, hF⟩, st⟩ | ⟨q, st₀, t, T', L, E, ce, h0, X', hL, e1, e2, ⟨u, hp, hb, hF⟩, hce, hcv, hcl, st⟩
  · cases hv
    obtain ⟨k1, k2, k3⟩ := vx_keep h0 e1 hS hA hf hL hF
    obtain ⟨t2, a1, b1⟩ := kk u t T'.heap (locs ++ L) e1.symm (by rw [← e2]; exact X'.warmed.alike) hp hb k1 k2 k3 T' rfl X'
    exact ⟨t2, st t2 a1, b1⟩
  · obtain ⟨k1, k2, k3⟩ := vx_keep h0 e1 hS hAX hf hL hF
    obtain ⟨t2, a1, b1⟩ := kx E ce q u t T'.heap (locs ++ L) e1.symm (by rw [← e2]; exact X'.warmed.alike) hp hb k1 k2 k3 (by rw [e1]; exact hce) hcv hcl T' rfl X'
    exact ⟨t2, st.trans a1, b1⟩
theorem vx_callFi {S SX : Type} {post : Int32 → S → Prop} {px : SX → Prop} {B : S → State → Prop} {BX : String → SX → State → Prop} {AX : Nat → Prop} (hr : vx_Run5 p l e R s m args below meth c H locs cells slots mc ms (F0 m pc ls st0) rest (va_Qi post B A1 a) (vx_X px BX AX) free) (hS : va_S A0 H0 H locs) (hA : ∀ q, q < H.size → A1 q → A0 q) (hf : ∀ q, free q → A0 q) (hAX : ∀ q, q < H.size → AX q → A0 q)
    (kx : ∀ (E : String) (ce : Cell) (q9 : Addr) (u : SX) (t : State) (H1 : Heap) (locs1 : List Loc), t.heap = H1 → s.vm.Alike t.vm → px u → BX E u t → H.size ≤ H1.size → (∀ q : Nat, q < H.size → ¬ AX q → H1[q]? = H[q]?) → va_S A0 H0 H1 locs1 → H1[q9]? = some ce → ce.vm = .none → s.vm.findClass E = some ce.cls → vx_W p l e R s m args below meth c H1 locs1 (cells + mc) (slots + ms) Q (F0 m pc ls rest) q9)
    (kk : ∀ (r : Int32) (u : S) (t : State) (H1 : Heap) (locs1 : List Loc), t.heap = H1 → s.vm.Alike t.vm → post r u → B u t → H.size ≤ H1.size → (∀ q : Nat, q < H.size → ¬ A1 q → H1[q]? = H[q]?) → va_S A0 H0 H1 locs1 → W p l e R s m args below meth c H1 locs1 (cells + mc) (slots + ms) Q (F0 m (pc + 5) ls (.int r :: rest))) : W p l e R s m args below meth c H locs cells slots Q (F0 m pc ls st0) := by
  intro T hT X
  rcases hr T hT X with ⟨v, st₀, t, T', L, h0, X', hL, e1, e2, ⟨⟨r, u, hv, hp, hb⟩, hF⟩, st⟩ | ⟨q, st₀, t, T', L, E, ce, h0, X', hL, e1, e2, ⟨u, hp, hb, hF⟩, hce, hcv, hcl, st⟩
  · cases hv
    obtain ⟨k1, k2, k3⟩ := vx_keep h0 e1 hS hA hf hL hF
    obtain ⟨t2, a1, b1⟩ := kk r u t T'.heap (locs ++ L) e1.symm (by rw [← e2]; exact X'.warmed.alike) hp hb k1 k2 k3 T' rfl X'
    exact ⟨t2, st t2 a1, b1⟩
  · obtain ⟨k1, k2, k3⟩ := vx_keep h0 e1 hS hAX hf hL hF
    obtain ⟨t2, a1, b1⟩ := kx E ce q u t T'.heap (locs ++ L) e1.symm (by rw [← e2]; exact X'.warmed.alike) hp hb k1 k2 k3 (by rw [e1]; exact hce) hcv hcl T' rfl X'
    exact ⟨t2, st.trans a1, b1⟩
theorem vx_callFl {S SX : Type} {post : Int64 → S → Prop} {px : SX → Prop} {B : S → State → Prop} {BX : String → SX → State → Prop} {AX : Nat → Prop} (hr : vx_Run5 p l e R s m args below meth c H locs cells slots mc ms (F0 m pc ls st0) rest (va_Ql post B A1 a) (vx_X px BX AX) free) (hS : va_S A0 H0 H locs) (hA : ∀ q, q < H.size → A1 q → A0 q) (hf : ∀ q, free q → A0 q) (hAX : ∀ q, q < H.size → AX q → A0 q)
    (kx : ∀ (E : String) (ce : Cell) (q9 : Addr) (u : SX) (t : State) (H1 : Heap) (locs1 : List Loc), t.heap = H1 → s.vm.Alike t.vm → px u → BX E u t → H.size ≤ H1.size → (∀ q : Nat, q < H.size → ¬ AX q → H1[q]? = H[q]?) → va_S A0 H0 H1 locs1 → H1[q9]? = some ce → ce.vm = .none → s.vm.findClass E = some ce.cls → vx_W p l e R s m args below meth c H1 locs1 (cells + mc) (slots + ms) Q (F0 m pc ls rest) q9)
    (kk : ∀ (r : Int64) (u : S) (t : State) (H1 : Heap) (locs1 : List Loc), t.heap = H1 → s.vm.Alike t.vm → post r u → B u t → H.size ≤ H1.size → (∀ q : Nat, q < H.size → ¬ A1 q → H1[q]? = H[q]?) → va_S A0 H0 H1 locs1 → W p l e R s m args below meth c H1 locs1 (cells + mc) (slots + ms) Q (F0 m (pc + 5) ls (.long r :: rest))) : W p l e R s m args below meth c H locs cells slots Q (F0 m pc ls st0) := by
  intro T hT X
  rcases hr T hT X with ⟨v, st₀, t, T', L, h0, X', hL, e1, e2, ⟨⟨r, u, hv, hp, hb⟩, hF⟩, st⟩ | ⟨q, st₀, t, T', L, E, ce, h0, X', hL, e1, e2, ⟨u, hp, hb, hF⟩, hce, hcv, hcl, st⟩
  · cases hv
    obtain ⟨k1, k2, k3⟩ := vx_keep h0 e1 hS hA hf hL hF
    obtain ⟨t2, a1, b1⟩ := kk r u t T'.heap (locs ++ L) e1.symm (by rw [← e2]; exact X'.warmed.alike) hp hb k1 k2 k3 T' rfl X'
    exact ⟨t2, st t2 a1, b1⟩
  · obtain ⟨k1, k2, k3⟩ := vx_keep h0 e1 hS hAX hf hL hF
    obtain ⟨t2, a1, b1⟩ := kx E ce q u t T'.heap (locs ++ L) e1.symm (by rw [← e2]; exact X'.warmed.alike) hp hb k1 k2 k3 (by rw [e1]; exact hce) hcv hcl T' rfl X'
    exact ⟨t2, st.trans a1, b1⟩
theorem vx_callFf {S SX : Type} {post : UInt32 → S → Prop} {px : SX → Prop} {B : S → State → Prop} {BX : String → SX → State → Prop} {AX : Nat → Prop} (hr : vx_Run5 p l e R s m args below meth c H locs cells slots mc ms (F0 m pc ls st0) rest (va_Qf post B A1 a) (vx_X px BX AX) free) (hS : va_S A0 H0 H locs) (hA : ∀ q, q < H.size → A1 q → A0 q) (hf : ∀ q, free q → A0 q) (hAX : ∀ q, q < H.size → AX q → A0 q)
    (kx : ∀ (E : String) (ce : Cell) (q9 : Addr) (u : SX) (t : State) (H1 : Heap) (locs1 : List Loc), t.heap = H1 → s.vm.Alike t.vm → px u → BX E u t → H.size ≤ H1.size → (∀ q : Nat, q < H.size → ¬ AX q → H1[q]? = H[q]?) → va_S A0 H0 H1 locs1 → H1[q9]? = some ce → ce.vm = .none → s.vm.findClass E = some ce.cls → vx_W p l e R s m args below meth c H1 locs1 (cells + mc) (slots + ms) Q (F0 m pc ls rest) q9)
    (kk : ∀ (r : UInt32) (u : S) (t : State) (H1 : Heap) (locs1 : List Loc), t.heap = H1 → s.vm.Alike t.vm → post r u → B u t → H.size ≤ H1.size → (∀ q : Nat, q < H.size → ¬ A1 q → H1[q]? = H[q]?) → va_S A0 H0 H1 locs1 → W p l e R s m args below meth c H1 locs1 (cells + mc) (slots + ms) Q (F0 m (pc + 5) ls (.float r :: rest))) : W p l e R s m args below meth c H locs cells slots Q (F0 m pc ls st0) := by
  intro T hT X
  rcases hr T hT X with ⟨v, st₀, t, T', L, h0, X', hL, e1, e2, ⟨⟨r, u, hv, hp, hb⟩, hF⟩, st⟩ | ⟨q, st₀, t, T', L, E, ce, h0, X', hL, e1, e2, ⟨u, hp, hb, hF⟩, hce, hcv, hcl, st⟩
  · cases hv
    obtain ⟨k1, k2, k3⟩ := vx_keep h0 e1 hS hA hf hL hF
    obtain ⟨t2, a1, b1⟩ := kk r u t T'.heap (locs ++ L) e1.symm (by rw [← e2]; exact X'.warmed.alike) hp hb k1 k2 k3 T' rfl X'
    exact ⟨t2, st t2 a1, b1⟩
  · obtain ⟨k1, k2, k3⟩ := vx_keep h0 e1 hS hAX hf hL hF
    obtain ⟨t2, a1, b1⟩ := kx E ce q u t T'.heap (locs ++ L) e1.symm (by rw [← e2]; exact X'.warmed.alike) hp hb k1 k2 k3 (by rw [e1]; exact hce) hcv hcl T' rfl X'
    exact ⟨t2, st.trans a1, b1⟩
theorem vx_callFd {S SX : Type} {post : UInt64 → S → Prop} {px : SX → Prop} {B : S → State → Prop} {BX : String → SX → State → Prop} {AX : Nat → Prop} (hr : vx_Run5 p l e R s m args below meth c H locs cells slots mc ms (F0 m pc ls st0) rest (va_Qd post B A1 a) (vx_X px BX AX) free) (hS : va_S A0 H0 H locs) (hA : ∀ q, q < H.size → A1 q → A0 q) (hf : ∀ q, free q → A0 q) (hAX : ∀ q, q < H.size → AX q → A0 q)
    (kx : ∀ (E : String) (ce : Cell) (q9 : Addr) (u : SX) (t : State) (H1 : Heap) (locs1 : List Loc), t.heap = H1 → s.vm.Alike t.vm → px u → BX E u t → H.size ≤ H1.size → (∀ q : Nat, q < H.size → ¬ AX q → H1[q]? = H[q]?) → va_S A0 H0 H1 locs1 → H1[q9]? = some ce → ce.vm = .none → s.vm.findClass E = some ce.cls → vx_W p l e R s m args below meth c H1 locs1 (cells + mc) (slots + ms) Q (F0 m pc ls rest) q9)
    (kk : ∀ (r : UInt64) (u : S) (t : State) (H1 : Heap) (locs1 : List Loc), t.heap = H1 → s.vm.Alike t.vm → post r u → B u t → H.size ≤ H1.size → (∀ q : Nat, q < H.size → ¬ A1 q → H1[q]? = H[q]?) → va_S A0 H0 H1 locs1 → W p l e R s m args below meth c H1 locs1 (cells + mc) (slots + ms) Q (F0 m (pc + 5) ls (.double r :: rest))) : W p l e R s m args below meth c H locs cells slots Q (F0 m pc ls st0) := by
  intro T hT X
  rcases hr T hT X with ⟨v, st₀, t, T', L, h0, X', hL, e1, e2, ⟨⟨r, u, hv, hp, hb⟩, hF⟩, st⟩ | ⟨q, st₀, t, T', L, E, ce, h0, X', hL, e1, e2, ⟨u, hp, hb, hF⟩, hce, hcv, hcl, st⟩
  · cases hv
    obtain ⟨k1, k2, k3⟩ := vx_keep h0 e1 hS hA hf hL hF
    obtain ⟨t2, a1, b1⟩ := kk r u t T'.heap (locs ++ L) e1.symm (by rw [← e2]; exact X'.warmed.alike) hp hb k1 k2 k3 T' rfl X'
    exact ⟨t2, st t2 a1, b1⟩
  · obtain ⟨k1, k2, k3⟩ := vx_keep h0 e1 hS hAX hf hL hF
    obtain ⟨t2, a1, b1⟩ := kx E ce q u t T'.heap (locs ++ L) e1.symm (by rw [← e2]; exact X'.warmed.alike) hp hb k1 k2 k3 (by rw [e1]; exact hce) hcv hcl T' rfl X'
    exact ⟨t2, st.trans a1, b1⟩
end
/-! ===== END ===== -/
/-! ===== BEGIN by an interface, a method with a table of its own that may throw (follows va_callIFW, va_runFW) ===== -/
section
variable {p : Program} {l : Launch} {e : Env} {R : Room} {s : State} {m : MethodId} {args : Array Value} {below : List Frame} {meth : Method} {c : Code} {H : Heap} {locs : List Loc} {cells slots : Nat}
theorem vx_callIFW {T : State} (X : Stand p l e R s m args below meth c T locs cells slots) (hexec : p.tables.exec = Jvm.exec) {own C : String} {index count : Nat} {x y : MethodName} {bytes : ByteArray} {maxL : Nat} {ret : Option FieldType} {hh : List (Nat × Nat × Nat × Nat)}
    (hown : s.vm.findClass own = some m.cls) (hlink : (Cond.methodLink own index x).before args s = true) (hdecl : (Cond.declares x).before args s = true) (hface : (Cond.interfaceMethod x.cls x.cls x.name x.desc).before args s = true)
    (hsel : (Cond.selects C x y).before args s = true) (hinst : (Cond.instanceMethod y).before args s = true) (hpub : (Cond.publicMethod y).before args s = true) (hunh : (Cond.unhidden C x.name x.desc).before args s = true)
    (hcast : (Cond.castable C x.cls).before args s = true) (hcode : (Cond.codeWith y bytes maxL ret hh).before args s = true) (hx : x.cls ≠ "java/lang/invoke/MethodHandle" ∧ x.cls ≠ "java/lang/invoke/VarHandle")
    {W : Nat} {Pre : Pt → Array Value → Prop} {Post : Pt → Array Value → Option Value → Pt → Prop} {PostX : Pt → Array Value → Addr → Pt → Prop} (hK : vx_Back l R p e below s args y 5 W Pre Post PostX)
    {b : Addr} {cellB : Cell} {kB : Class} (hcell : T.heap[b]? = some cellB) (hobj : cellB.vm.isStatics = false) (hcls : s.vm.findClass C = some cellB.cls) (hkB : s.vm.classes[cellB.cls]? = some kB)
    {g : JFrame} (hg : g.method = m) (hsize : g.locals.size = c.maxLocals) {argsL rest : List Value} (hlen : ∀ sig, parseMethodDescriptor x.desc = some sig → argsL.length = sig.parameters.length)
    (hstack : g.stack = argsL.reverse ++ .ref b :: rest) (hW : 2 * g.monitorRoom + (rest.map fun v => v.category).sum ≤ W) (hdg : decode c.code g.pc = .ok (.invokeinterface index count, 5))
    (hpre : ∀ vm₁, s.WarmedH vm₁ → Pre ⟨T.setVm vm₁, locs, cells, slots⟩ (Value.ref b :: argsL).toArray) :
    (∃ (v : Option Value) (vm₁ : Vm) (B : Pt), s.WarmedH vm₁ ∧ Stand p l e R s m args below meth c B.U B.locs B.cells B.slots ∧ Post ⟨T.setVm vm₁, locs, cells, slots⟩ (Value.ref b :: argsL).toArray v B ∧
      ∀ target, Steps p.tables e below (B.U.setTop { g with pc := g.pc + 5, stack := v.toList ++ rest }) target → Steps p.tables e below (T.setTop g) target) ∨
    (∃ (q : Addr) (vm₁ : Vm) (B : Pt), s.WarmedH vm₁ ∧ Stand p l e R s m args below meth c B.U B.locs B.cells B.slots ∧ PostX ⟨T.setVm vm₁, locs, cells, slots⟩ (Value.ref b :: argsL).toArray q B ∧
      Steps p.tables e below (T.setTop g) ((B.U.setTop { g with stack := rest }).pushFrame (.throwing q))) := by
  obtain ⟨r0, r, hn, hrm, hstR, hsigR⟩ := Cond.declares_spec hdecl
  obtain ⟨cL, kL, r1, hcL, hkL, hiL, hfoundL, hn1⟩ := Cond.interfaceMethod_spec hface
  cases hn.symm.trans hn1
  have hr0cls : r0.cls = cL := Option.some.inj ((findClass_of_methodNamed hn).symm.trans hcL)
  obtain ⟨hnameR, hdescR⟩ := name_of_methodNamed hn hrm
  obtain ⟨mk, methM, hnamed, hmethM, -, habM⟩ := Cond.instanceMethod_spec hinst
  obtain ⟨c2, r2, m2, q1, q2, q3, q4, -⟩ := Cond.selects_spec hsel
  cases hcls.symm.trans q1
  cases hfoundL.symm.trans q2
  cases hnamed.symm.trans q3
  have hselP : selectMethod e.platform s.vm cellB.cls r0 = .method mk := by rw [Launch.admits_selectMethod X.admits]; exact q4
  have hpubM : hasFlag methM.accessFlags Acc.public_ = true := Cond.publicMethod_spec hnamed hmethM hpub
  have hway : ((cellB.cls :: s.vm.superclasses cellB.cls).any fun k => (declaredIn s.vm r.name r.desc k).any fun (_, z) => z.isPrivate || z.isStatic) = false := by
    rw [hnameR, hdescR]; exact Cond.unhidden_spec hcls hunh
  obtain ⟨c3, t3, w1, w2, w3⟩ := Cond.castable_spec hcast
  cases hcls.symm.trans w1
  cases hcL.symm.trans w2
  obtain ⟨vm₁, X₁, hstep₁⟩ := X.invokeinterface hexec hown hlink hn hrm hstR (by rw [hr0cls]; exact hkL) hiL hx (a := b) (cell := cellB) (kcell := kB) hcell
    (fun z h => by rw [h] at hobj; cases hobj) hkB (by rw [hr0cls]; exact w3) hselP hmethM hway hpubM habM (g := g) hg (argsL := argsL) (rest := rest) (hlen _ hsigR) hstack hdg
  rcases hK m meth c ⟨T.setVm vm₁, locs, cells, slots⟩ { g with stack := rest } (.invokeinterface index count) mk (Value.ref b :: argsL).toArray X₁ hg hsize hdg hW (X₁.named hnamed) (hpre vm₁ X₁.warmed) with ⟨v, B, X', hpost, hsteps⟩ | ⟨q, B, X', hpost, hsteps⟩
  · exact Or.inl ⟨v, vm₁, B, X₁.warmed, X', hpost, fun target h => hstep₁ _ fun acts => by rw [doInvoke_state]; exact hsteps.trans h⟩
  · exact Or.inr ⟨q, vm₁, B, X₁.warmed, X', hpost, hstep₁ _ fun acts => by rw [doInvoke_state]; exact hsteps⟩
theorem vx_runFW {x y : MethodName} {bytes cc : ByteArray} {maxL nL mc ms n index count : Nat} {ret : Option FieldType} {hh : List (Nat × Nat × Nat × Nat)} {ws : List Cond} {rm : Room} {Pc : Array Value → State → Prop} {Qc : Array Value → State → Outcome → State → Prop} {XC : String → State → State → Prop} {free : Addr → Prop} {Ts : List Cond} {own C : String} {cC : ClassId} {b : Addr} {As rest : List Value} {g : JFrame}
    (hat : ClassAt s C cC) (S : CallFix p m c cc nL s args Ts own) (hM : vx_Met l y ws rm Pc Qc XC mc ms free) (cw : va_CIW R s args own C index x y bytes maxL ret hh ws rm mc ms n) (hp : PreV s H C b Pc As)
    (hg : g.method = m) (hn : As.length = n) (hsize : g.locals.size = nL) (hstack : g.stack = As.reverse ++ .ref b :: rest) (hW : 2 * g.monitorRoom + (rest.map fun v => v.category).sum ≤ 8) (hdg : decode cc g.pc = .ok (.invokeinterface index count, 5)) (hf : cells + mc ≤ R.cells ∧ slots + ms ≤ R.slots) :
    vx_Run5 p l e R s m args below meth c H locs cells slots mc ms g rest (Qc (Value.ref b :: As).toArray) XC free := by
  obtain ⟨hrc, hrs, hfr, hlo, hws, hcw⟩ := cw.back
  have hini := cw.init
  have hK : vx_Back l R p e below s args y 5 8 (PreOf R mc ms Pc) (PostOf Qc mc ms free) (vx_Post XC mc ms free) := vx_backW (hh := hh) (bytes := bytes) (maxL := maxL) (ret := ret) hM hp.1 hrc hrs hfr hlo hws hcw (fun a' U hW => word_at hW (Or.inl (by first | rfl | simp [Cond.onTables, Cond.keeps, Cond.steady])) hini)
  obtain ⟨hx, hb, hml, ho, -⟩ := S
  obtain ⟨-, ⟨cellB, hcB, hoB, hclB⟩, hPc⟩ := hp
  obtain ⟨hfc, kB, hkB, -⟩ := hat
  cases hfc.symm.trans hclB
  intro T hT X
  rcases vx_callIFW X hx (C := C) (hh := hh) (bytes := bytes) (maxL := maxL) (ret := ret) ho cw.link cw.decl cw.face cw.sel cw.inst cw.pub cw.unh cw.cast cw.code cw.notMH hK (by rw [hT]; exact hcB) hoB hclB hkB hg (hsize.trans hml.symm) (argsL := As) (rest := rest) (fun sig h => hn.trans (cw.len sig h)) hstack hW (by rw [hb]; exact hdg)
    (fun vm₁ hW₁ => ⟨hf.1, hf.2, hPc (T.setVm vm₁) hT hW₁⟩) with ⟨v, vm₁, ⟨U', l2, c2, s2⟩, hW₁, X', ⟨g', mk, t, L, e1, e2, hq, h1, hL, h2, h3⟩, st⟩ | ⟨q, vm₁, ⟨U', l2, c2, s2⟩, hW₁, X', ⟨g', mk, t, L, E, ce, e1, e2, hq, hce, hcv, hcl, h1, hL, h2, h3⟩, st⟩
  · dsimp only [Pt.U, Pt.locs, Pt.cells, Pt.slots] at X' e1 e2 h1 h2 h3 st
    subst h1; subst h2; subst h3
    exact Or.inl ⟨v, (T.setVm vm₁).calling g' mk (Value.ref b :: As).toArray, t, U', L, hT, X', hL, e1, e2, hq, st⟩
  · dsimp only [Pt.U, Pt.locs, Pt.cells, Pt.slots] at X' e1 e2 h1 h2 h3 st hcl
    subst h1; subst h2; subst h3
    exact Or.inr ⟨q, (T.setVm vm₁).calling g' mk (Value.ref b :: As).toArray, t, U', L, E, ce, hT, X', hL, e1, e2, hq, hce, hcv, vx_cls hW₁ hcl, st⟩
end
/-! ===== END ===== -/
/-! ===== BEGIN .. of methods that hand back an object of the pool ===== -/
section
variable {p : Program} {l : Launch} {e : Env} {R : Room} {s : State} {m : MethodId} {args : Array Value} {below : List Frame} {meth : Method} {c : Code} {H : Heap} {locs : List Loc} {cells slots : Nat} {Q : State → Prop}
variable {mc ms : Nat} {free : Addr → Prop} {A0 A1 : Nat → Prop} {H0 : Heap} {a : Array Value} {pc : Nat} {ls : Array Slot} {st0 rest : List Value}
theorem vx_callq {S SX : Type} {post : Option Nat → S → Prop} {px : SX → Prop} {B : S → State → Prop} {BX : String → SX → State → Prop} {AX : Nat → Prop} (hr : vx_Run p l e R s m args below meth c H locs cells slots mc ms (F0 m pc ls st0) rest (va_Qq post B A1 a) (vx_X px BX AX) free) (hS : va_S A0 H0 H locs) (hA : ∀ q, q < H.size → A1 q → A0 q) (hf : ∀ q, free q → A0 q) (hAX : ∀ q, q < H.size → AX q → A0 q)
    (kx : ∀ (E : String) (ce : Cell) (q9 : Addr) (u : SX) (t : State) (H1 : Heap) (locs1 : List Loc), t.heap = H1 → s.vm.Alike t.vm → px u → BX E u t → H.size ≤ H1.size → (∀ q : Nat, q < H.size → ¬ AX q → H1[q]? = H[q]?) → va_S A0 H0 H1 locs1 → H1[q9]? = some ce → ce.vm = .none → s.vm.findClass E = some ce.cls → vx_W p l e R s m args below meth c H1 locs1 (cells + mc) (slots + ms) Q (F0 m pc ls rest) q9)
    (kk : ∀ (r : Option Nat) (u : S) (t : State) (H1 : Heap) (locs1 : List Loc), t.heap = H1 → s.vm.Alike t.vm → post r u → B u t → H.size ≤ H1.size → (∀ q : Nat, q < H.size → ¬ A1 q → H1[q]? = H[q]?) → va_S A0 H0 H1 locs1 → W p l e R s m args below meth c H1 locs1 (cells + mc) (slots + ms) Q (F0 m (pc + 3) ls (va_rf r :: rest))) : W p l e R s m args below meth c H locs cells slots Q (F0 m pc ls st0) := by
  intro T hT X
  rcases hr T hT X with ⟨v, st₀, t, T', L, h0, X', hL, e1, e2, ⟨⟨r, u, hv, hp, hb⟩, hF⟩, st⟩ | ⟨q, st₀, t, T', L, E, ce, h0, X', hL, e1, e2, ⟨u, hp, hb, hF⟩, hce, hcv, hcl, st⟩
  · cases hv
    obtain ⟨k1, k2, k3⟩ := vx_keep h0 e1 hS hA hf hL hF
    obtain ⟨t2, a1, b1⟩ := kk r u t T'.heap (locs ++ L) e1.symm (by rw [← e2]; exact X'.warmed.alike) hp hb k1 k2 k3 T' rfl X'
    exact ⟨t2, st t2 a1, b1⟩
  · obtain ⟨k1, k2, k3⟩ := vx_keep h0 e1 hS hAX hf hL hF
    obtain ⟨t2, a1, b1⟩ := kx E ce q u t T'.heap (locs ++ L) e1.symm (by rw [← e2]; exact X'.warmed.alike) hp hb k1 k2 k3 (by rw [e1]; exact hce) hcv hcl T' rfl X'
    exact ⟨t2, st.trans a1, b1⟩
end
/-! ===== END ===== -/
/-! ===== BEGIN .. a constant ===== -/
section
variable {p : Program} {l : Launch} {e : Env} {R : Room} {s : State} {m : MethodId} {args : Array Value} {below : List Frame} {meth : Method} {c : Code} {H : Heap} {locs : List Loc} {cells slots : Nat} {Q : State → Prop}
variable {mc ms : Nat} {free : Addr → Prop} {A0 A1 : Nat → Prop} {H0 : Heap} {a : Array Value} {pc : Nat} {ls : Array Slot} {st0 rest : List Value}
theorem vx_calle {ad : Nat → Nat} {S SX : Type} {post : Option Nat → S → Prop} {px : SX → Prop} {B : S → State → Prop} {BX : String → SX → State → Prop} {AX : Nat → Prop} (hr : vx_Run p l e R s m args below meth c H locs cells slots mc ms (F0 m pc ls st0) rest (va_Qe ad post B A1 a) (vx_X px BX AX) free) (hS : va_S A0 H0 H locs) (hA : ∀ q, q < H.size → A1 q → A0 q) (hf : ∀ q, free q → A0 q) (hAX : ∀ q, q < H.size → AX q → A0 q)
    (kx : ∀ (E : String) (ce : Cell) (q9 : Addr) (u : SX) (t : State) (H1 : Heap) (locs1 : List Loc), t.heap = H1 → s.vm.Alike t.vm → px u → BX E u t → H.size ≤ H1.size → (∀ q : Nat, q < H.size → ¬ AX q → H1[q]? = H[q]?) → va_S A0 H0 H1 locs1 → H1[q9]? = some ce → ce.vm = .none → s.vm.findClass E = some ce.cls → vx_W p l e R s m args below meth c H1 locs1 (cells + mc) (slots + ms) Q (F0 m pc ls rest) q9)
    (kk : ∀ (r : Option Nat) (u : S) (t : State) (H1 : Heap) (locs1 : List Loc), t.heap = H1 → s.vm.Alike t.vm → post r u → B u t → H.size ≤ H1.size → (∀ q : Nat, q < H.size → ¬ A1 q → H1[q]? = H[q]?) → va_S A0 H0 H1 locs1 → W p l e R s m args below meth c H1 locs1 (cells + mc) (slots + ms) Q (F0 m (pc + 3) ls (va_re ad r :: rest))) : W p l e R s m args below meth c H locs cells slots Q (F0 m pc ls st0) := by
  intro T hT X
  rcases hr T hT X with ⟨v, st₀, t, T', L, h0, X', hL, e1, e2, ⟨⟨r, u, hv, hp, hb⟩, hF⟩, st⟩ | ⟨q, st₀, t, T', L, E, ce, h0, X', hL, e1, e2, ⟨u, hp, hb, hF⟩, hce, hcv, hcl, st⟩
  · cases hv
    obtain ⟨k1, k2, k3⟩ := vx_keep h0 e1 hS hA hf hL hF
    obtain ⟨t2, a1, b1⟩ := kk r u t T'.heap (locs ++ L) e1.symm (by rw [← e2]; exact X'.warmed.alike) hp hb k1 k2 k3 T' rfl X'
    exact ⟨t2, st t2 a1, b1⟩
  · obtain ⟨k1, k2, k3⟩ := vx_keep h0 e1 hS hAX hf hL hF
    obtain ⟨t2, a1, b1⟩ := kx E ce q u t T'.heap (locs ++ L) e1.symm (by rw [← e2]; exact X'.warmed.alike) hp hb k1 k2 k3 (by rw [e1]; exact hce) hcv hcl T' rfl X'
    exact ⟨t2, st.trans a1, b1⟩
end
/-! ===== END ===== -/
/-! ===== BEGIN .. by an interface, an object ===== -/
section
variable {p : Program} {l : Launch} {e : Env} {R : Room} {s : State} {m : MethodId} {args : Array Value} {below : List Frame} {meth : Method} {c : Code} {H : Heap} {locs : List Loc} {cells slots : Nat} {Q : State → Prop}
variable {mc ms : Nat} {free : Addr → Prop} {A0 A1 : Nat → Prop} {H0 : Heap} {a : Array Value} {pc : Nat} {ls : Array Slot} {st0 rest : List Value}
theorem vx_callFq {S SX : Type} {post : Option Nat → S → Prop} {px : SX → Prop} {B : S → State → Prop} {BX : String → SX → State → Prop} {AX : Nat → Prop} (hr : vx_Run5 p l e R s m args below meth c H locs cells slots mc ms (F0 m pc ls st0) rest (va_Qq post B A1 a) (vx_X px BX AX) free) (hS : va_S A0 H0 H locs) (hA : ∀ q, q < H.size → A1 q → A0 q) (hf : ∀ q, free q → A0 q) (hAX : ∀ q, q < H.size → AX q → A0 q)
    (kx : ∀ (E : String) (ce : Cell) (q9 : Addr) (u : SX) (t : State) (H1 : Heap) (locs1 : List Loc), t.heap = H1 → s.vm.Alike t.vm → px u → BX E u t → H.size ≤ H1.size → (∀ q : Nat, q < H.size → ¬ AX q → H1[q]? = H[q]?) → va_S A0 H0 H1 locs1 → H1[q9]? = some ce → ce.vm = .none → s.vm.findClass E = some ce.cls → vx_W p l e R s m args below meth c H1 locs1 (cells + mc) (slots + ms) Q (F0 m pc ls rest) q9)
    (kk : ∀ (r : Option Nat) (u : S) (t : State) (H1 : Heap) (locs1 : List Loc), t.heap = H1 → s.vm.Alike t.vm → post r u → B u t → H.size ≤ H1.size → (∀ q : Nat, q < H.size → ¬ A1 q → H1[q]? = H[q]?) → va_S A0 H0 H1 locs1 → W p l e R s m args below meth c H1 locs1 (cells + mc) (slots + ms) Q (F0 m (pc + 5) ls (va_rf r :: rest))) : W p l e R s m args below meth c H locs cells slots Q (F0 m pc ls st0) := by
  intro T hT X
  rcases hr T hT X with ⟨v, st₀, t, T', L, h0, X', hL, e1, e2, ⟨⟨r, u, hv, hp, hb⟩, hF⟩, st⟩ | ⟨q, st₀, t, T', L, E, ce, h0, X', hL, e1, e2, ⟨u, hp, hb, hF⟩, hce, hcv, hcl, st⟩
  · cases hv
    obtain ⟨k1, k2, k3⟩ := vx_keep h0 e1 hS hA hf hL hF
    obtain ⟨t2, a1, b1⟩ := kk r u t T'.heap (locs ++ L) e1.symm (by rw [← e2]; exact X'.warmed.alike) hp hb k1 k2 k3 T' rfl X'
    exact ⟨t2, st t2 a1, b1⟩
  · obtain ⟨k1, k2, k3⟩ := vx_keep h0 e1 hS hAX hf hL hF
    obtain ⟨t2, a1, b1⟩ := kx E ce q u t T'.heap (locs ++ L) e1.symm (by rw [← e2]; exact X'.warmed.alike) hp hb k1 k2 k3 (by rw [e1]; exact hce) hcv hcl T' rfl X'
    exact ⟨t2, st.trans a1, b1⟩
end
/-! ===== END ===== -/
/-! ===== BEGIN .. by an interface, a constant ===== -/
section
variable {p : Program} {l : Launch} {e : Env} {R : Room} {s : State} {m : MethodId} {args : Array Value} {below : List Frame} {meth : Method} {c : Code} {H : Heap} {locs : List Loc} {cells slots : Nat} {Q : State → Prop}
variable {mc ms : Nat} {free : Addr → Prop} {A0 A1 : Nat → Prop} {H0 : Heap} {a : Array Value} {pc : Nat} {ls : Array Slot} {st0 rest : List Value}
theorem vx_callFe {ad : Nat → Nat} {S SX : Type} {post : Option Nat → S → Prop} {px : SX → Prop} {B : S → State → Prop} {BX : String → SX → State → Prop} {AX : Nat → Prop} (hr : vx_Run5 p l e R s m args below meth c H locs cells slots mc ms (F0 m pc ls st0) rest (va_Qe ad post B A1 a) (vx_X px BX AX) free) (hS : va_S A0 H0 H locs) (hA : ∀ q, q < H.size → A1 q → A0 q) (hf : ∀ q, free q → A0 q) (hAX : ∀ q, q < H.size → AX q → A0 q)
    (kx : ∀ (E : String) (ce : Cell) (q9 : Addr) (u : SX) (t : State) (H1 : Heap) (locs1 : List Loc), t.heap = H1 → s.vm.Alike t.vm → px u → BX E u t → H.size ≤ H1.size → (∀ q : Nat, q < H.size → ¬ AX q → H1[q]? = H[q]?) → va_S A0 H0 H1 locs1 → H1[q9]? = some ce → ce.vm = .none → s.vm.findClass E = some ce.cls → vx_W p l e R s m args below meth c H1 locs1 (cells + mc) (slots + ms) Q (F0 m pc ls rest) q9)
    (kk : ∀ (r : Option Nat) (u : S) (t : State) (H1 : Heap) (locs1 : List Loc), t.heap = H1 → s.vm.Alike t.vm → post r u → B u t → H.size ≤ H1.size → (∀ q : Nat, q < H.size → ¬ A1 q → H1[q]? = H[q]?) → va_S A0 H0 H1 locs1 → W p l e R s m args below meth c H1 locs1 (cells + mc) (slots + ms) Q (F0 m (pc + 5) ls (va_re ad r :: rest))) : W p l e R s m args below meth c H locs cells slots Q (F0 m pc ls st0) := by
  intro T hT X
  rcases hr T hT X with ⟨v, st₀, t, T', L, h0, X', hL, e1, e2, ⟨⟨r, u, hv, hp, hb⟩, hF⟩, st⟩ | ⟨q, st₀, t, T', L, E, ce, h0, X', hL, e1, e2, ⟨u, hp, hb, hF⟩, hce, hcv, hcl, st⟩
  · cases hv
    obtain ⟨k1, k2, k3⟩ := vx_keep h0 e1 hS hA hf hL hF
    obtain ⟨t2, a1, b1⟩ := kk r u t T'.heap (locs ++ L) e1.symm (by rw [← e2]; exact X'.warmed.alike) hp hb k1 k2 k3 T' rfl X'
    exact ⟨t2, st t2 a1, b1⟩
  · obtain ⟨k1, k2, k3⟩ := vx_keep h0 e1 hS hAX hf hL hF
    obtain ⟨t2, a1, b1⟩ := kx E ce q u t T'.heap (locs ++ L) e1.symm (by rw [← e2]; exact X'.warmed.alike) hp hb k1 k2 k3 (by rw [e1]; exact hce) hcv hcl T' rfl X'
    exact ⟨t2, st.trans a1, b1⟩
end
/-! ===== END ===== -/
/-! ===== BEGIN what the machine throws by itself: null at a field, at athrow ===== -/
section VXM2
variable {p : Program} {l : Launch} {e : Env} {R : Room} {s : State} {m : MethodId} {args : Array Value} {below : List Frame} {meth : Method} {c : Code} {H : Heap} {locs : List Loc} {cells slots : Nat}
variable {Q : State → Prop} {cc : ByteArray} {pc : Nat} {ls : Array Slot} {rest : List Value}
theorem vx_getfN {D cl tys} {own ref C : String} {T : u_T} {N ci index : Nat} {Ts : List Cond} (hexec : p.tables.exec = Jvm.exec) (hb : c.code = cc) (hts : ∀ w ∈ Ts, w.before args s = true) (hin : ∀ w ∈ u_ws C T N, w ∈ Ts) (hown : s.vm.findClass own = some m.cls) (hK : va_K D cl tys s) (hc : cl[ci]? = some (C, T, N)) (k : Nat) (hk : k < N) (hlink : (Cond.fieldLink own index ref (T k).2.1 (T k).2.2.1).before args s = true) (hsame : ∀ x, s.fieldFound? (T k).1 (T k).2.1 (T k).2.2.1 = some x → s.fieldFound? ref (T k).2.1 (T k).2.2.1 = some x) (hdg : decode cc pc = .ok (.getfield index, 3)) (kk : vx_NoteN p l e R s m args below meth c H locs cells slots Q (F0 m pc ls rest)) : W p l e R s m args below meth c H locs cells slots Q (F0 m pc ls (.null :: rest)) := by
  obtain ⟨hS, hfc, kC, hkC, -⟩ := hK.1 ci _ hc
  obtain ⟨cf, kf, fi, f, hi, -⟩ := hS k hk
  intro U hU X
  obtain ⟨vm', X1, st1⟩ := X.getfieldNull hexec hown hlink (hsame _ hi) (u_facts hfc hkC (u_lays hts hin hk) hi).1 (g := F0 m pc ls (.null :: rest)) rfl (rest := rest) rfl (by rw [hb]; exact hdg)
  obtain ⟨t, st, q⟩ := kk (U.setVm vm') hU X1
  exact ⟨t, st1 t st, q⟩
theorem vx_getfNN {D cl tys} {own ref C host : String} {T : u_T} {N ci index : Nat} {Ts : List Cond} (hexec : p.tables.exec = Jvm.exec) (hb : c.code = cc) (hts : ∀ w ∈ Ts, w.before args s = true) (hin : ∀ w ∈ u_ws C T N, w ∈ Ts) (hown : s.vm.findClass own = some m.cls) (hK : va_K D cl tys s) (hc : cl[ci]? = some (C, T, N)) (k : Nat) (hk : k < N) (hlink : (Cond.fieldLinkNest own index ref (T k).2.1 (T k).2.2.1 host).before args s = true) (hsame : ∀ x, s.fieldFound? (T k).1 (T k).2.1 (T k).2.2.1 = some x → s.fieldFound? ref (T k).2.1 (T k).2.2.1 = some x) (hdg : decode cc pc = .ok (.getfield index, 3)) (kk : vx_NoteN p l e R s m args below meth c H locs cells slots Q (F0 m pc ls rest)) : W p l e R s m args below meth c H locs cells slots Q (F0 m pc ls (.null :: rest)) := by
  obtain ⟨hS, hfc, kC, hkC, -⟩ := hK.1 ci _ hc
  obtain ⟨cf, kf, fi, f, hi, -⟩ := hS k hk
  intro U hU X
  obtain ⟨vm', X1, st1⟩ := X.getfieldNullNest hexec hown hlink (hsame _ hi) (u_facts hfc hkC (u_lays hts hin hk) hi).1 (g := F0 m pc ls (.null :: rest)) rfl (rest := rest) rfl (by rw [hb]; exact hdg)
  obtain ⟨t, st, q⟩ := kk (U.setVm vm') hU X1
  exact ⟨t, st1 t st, q⟩
theorem vx_putfN {D cl tys} {own ref C : String} {T : u_T} {N ci index : Nat} {Ts : List Cond} (hexec : p.tables.exec = Jvm.exec) (hb : c.code = cc) (hts : ∀ w ∈ Ts, w.before args s = true) (hin : ∀ w ∈ u_ws C T N, w ∈ Ts) (hown : s.vm.findClass own = some m.cls) (hK : va_K D cl tys s) (hc : cl[ci]? = some (C, T, N)) (k : Nat) (hk : k < N) (hlink : (Cond.fieldLink own index ref (T k).2.1 (T k).2.2.1).before args s = true) (hsame : ∀ x, s.fieldFound? (T k).1 (T k).2.1 (T k).2.2.1 = some x → s.fieldFound? ref (T k).2.1 (T k).2.2.1 = some x) (hfin : (T k).2.2.2 = false) {v : Value} (hdg : decode cc pc = .ok (.putfield index, 3)) (kk : vx_NoteN p l e R s m args below meth c H locs cells slots Q (F0 m pc ls rest)) : W p l e R s m args below meth c H locs cells slots Q (F0 m pc ls (v :: .null :: rest)) := by
  obtain ⟨hS, hfc, kC, hkC, -⟩ := hK.1 ci _ hc
  obtain ⟨cf, kf, fi, f, hi, -⟩ := hS k hk
  have hlay := hts _ (hin _ (u_in_lay hk))
  unfold u_lay at hlay
  rw [if_neg (by rw [hfin]; decide)] at hlay
  obtain ⟨c9, k9, cf9, kf9, fi9, f9, -, -, hi9, hst9, hnf9, -⟩ := Cond.lays_spec hlay
  cases hi.symm.trans hi9
  intro U hU X
  obtain ⟨vm', X1, st1⟩ := X.putfieldNull hexec hown hlink (hsame _ hi) hst9 hnf9 (g := F0 m pc ls (v :: .null :: rest)) rfl (v := v) (rest := rest) rfl (by rw [hb]; exact hdg)
  obtain ⟨t, st, q⟩ := kk (U.setVm vm') hU X1
  exact ⟨t, st1 t st, q⟩
theorem vx_putfNN {D cl tys} {own ref C host : String} {T : u_T} {N ci index : Nat} {Ts : List Cond} (hexec : p.tables.exec = Jvm.exec) (hb : c.code = cc) (hts : ∀ w ∈ Ts, w.before args s = true) (hin : ∀ w ∈ u_ws C T N, w ∈ Ts) (hown : s.vm.findClass own = some m.cls) (hK : va_K D cl tys s) (hc : cl[ci]? = some (C, T, N)) (k : Nat) (hk : k < N) (hlink : (Cond.fieldLinkNest own index ref (T k).2.1 (T k).2.2.1 host).before args s = true) (hsame : ∀ x, s.fieldFound? (T k).1 (T k).2.1 (T k).2.2.1 = some x → s.fieldFound? ref (T k).2.1 (T k).2.2.1 = some x) (hfin : (T k).2.2.2 = false) {v : Value} (hdg : decode cc pc = .ok (.putfield index, 3)) (kk : vx_NoteN p l e R s m args below meth c H locs cells slots Q (F0 m pc ls rest)) : W p l e R s m args below meth c H locs cells slots Q (F0 m pc ls (v :: .null :: rest)) := by
  obtain ⟨hS, hfc, kC, hkC, -⟩ := hK.1 ci _ hc
  obtain ⟨cf, kf, fi, f, hi, -⟩ := hS k hk
  have hlay := hts _ (hin _ (u_in_lay hk))
  unfold u_lay at hlay
  rw [if_neg (by rw [hfin]; decide)] at hlay
  obtain ⟨c9, k9, cf9, kf9, fi9, f9, -, -, hi9, hst9, hnf9, -⟩ := Cond.lays_spec hlay
  cases hi.symm.trans hi9
  intro U hU X
  obtain ⟨vm', X1, st1⟩ := X.putfieldNullNest hexec hown hlink (hsame _ hi) hst9 hnf9 (g := F0 m pc ls (v :: .null :: rest)) rfl (v := v) (rest := rest) rfl (by rw [hb]; exact hdg)
  obtain ⟨t, st, q⟩ := kk (U.setVm vm') hU X1
  exact ⟨t, st1 t st, q⟩
theorem vx_athrowN (hexec : p.tables.exec = Jvm.exec) (hb : c.code = cc) (hdg : decode cc pc = .ok (.athrow, 1)) (k : vx_NoteN p l e R s m args below meth c H locs cells slots Q (F0 m pc ls rest)) : W p l e R s m args below meth c H locs cells slots Q (F0 m pc ls (.null :: rest)) := by
  intro T hT X
  obtain ⟨t, st, q⟩ := k T hT X
  exact ⟨t, X.athrowNull hexec (g := F0 m pc ls (.null :: rest)) rfl (rest := rest) rfl (by rw [hb]; exact hdg) t st, q⟩
end VXM2
/-! ===== END ===== -/
end
section
-- ===== PART A: goes FIRST, ahead of the names: the tables' words, and 'selects' of the private methods out of them =====
/-- a private method of a class that the tables say can be made, by its rows of tables_1 -/
def lw_okq (q : MethodName × Nat) : Prop := (q.1.cls ≠ "java/lang/invoke/MethodHandle" ∧ q.1.cls ≠ "java/lang/invoke/VarHandle") ∧ Cond.instantiable q.1.cls q.2 ∈ tables_1 ∧ Cond.privateMethod q.1 ∈ tables_1 ∧ Cond.instanceMethod q.1 ∈ tables_1
theorem lw_p0 : lw_okq (⟨"CuttingRoom$Cloth", "spoilRows", "()V"⟩, 7) := ⟨⟨by decide +kernel, by decide +kernel⟩, List.mem_of_getElem? (i := 31) (by decide +kernel), List.mem_of_getElem? (i := 186) (by decide +kernel), List.mem_of_getElem? (i := 187) (by decide +kernel)⟩
theorem lw_p1 : lw_okq (⟨"CuttingRoom$Cloth", "reversed", "(I)I"⟩, 7) := ⟨⟨by decide +kernel, by decide +kernel⟩, List.mem_of_getElem? (i := 31) (by decide +kernel), List.mem_of_getElem? (i := 193) (by decide +kernel), List.mem_of_getElem? (i := 194) (by decide +kernel)⟩
theorem lw_p2 : lw_okq (⟨"CuttingRoom$Marker", "pieceIn", "(I)LCuttingRoom$Piece;"⟩, 8) := ⟨⟨by decide +kernel, by decide +kernel⟩, List.mem_of_getElem? (i := 67) (by decide +kernel), List.mem_of_getElem? (i := 236) (by decide +kernel), List.mem_of_getElem? (i := 237) (by decide +kernel)⟩
theorem lw_p3 : lw_okq (⟨"CuttingRoom", "shapeNumbered", "(I)LCuttingRoom$Shape;"⟩, 11) := ⟨⟨by decide +kernel, by decide +kernel⟩, List.mem_of_getElem? (i := 23) (by decide +kernel), List.mem_of_getElem? (i := 248) (by decide +kernel), List.mem_of_getElem? (i := 249) (by decide +kernel)⟩
theorem lw_p4 : lw_okq (⟨"CuttingRoom$Marker", "meetsAnew", "(LCuttingRoom$Piece;)Z"⟩, 8) := ⟨⟨by decide +kernel, by decide +kernel⟩, List.mem_of_getElem? (i := 67) (by decide +kernel), List.mem_of_getElem? (i := 260) (by decide +kernel), List.mem_of_getElem? (i := 261) (by decide +kernel)⟩
theorem lw_p5 : lw_okq (⟨"CuttingRoom", "inGarments", "(I)J"⟩, 11) := ⟨⟨by decide +kernel, by decide +kernel⟩, List.mem_of_getElem? (i := 23) (by decide +kernel), List.mem_of_getElem? (i := 265) (by decide +kernel), List.mem_of_getElem? (i := 266) (by decide +kernel)⟩
theorem lw_p6 : lw_okq (⟨"CuttingRoom", "piecesOfPart", "(LCuttingRoom$Style;I)I"⟩, 11) := ⟨⟨by decide +kernel, by decide +kernel⟩, List.mem_of_getElem? (i := 23) (by decide +kernel), List.mem_of_getElem? (i := 269) (by decide +kernel), List.mem_of_getElem? (i := 270) (by decide +kernel)⟩
theorem lw_p7 : lw_okq (⟨"java/lang/Throwable", "fillInStackTrace", "(I)Ljava/lang/Throwable;"⟩, 6) := ⟨⟨by decide +kernel, by decide +kernel⟩, List.mem_of_getElem? (i := 328) (by decide +kernel), List.mem_of_getElem? (i := 326) (by decide +kernel), List.mem_of_getElem? (i := 327) (by decide +kernel)⟩
theorem lw_p8 : lw_okq (⟨"CuttingRoom", "isUnderPiece", "(II)Z"⟩, 11) := ⟨⟨by decide +kernel, by decide +kernel⟩, List.mem_of_getElem? (i := 23) (by decide +kernel), List.mem_of_getElem? (i := 395) (by decide +kernel), List.mem_of_getElem? (i := 396) (by decide +kernel)⟩
theorem lw_p9 : lw_okq (⟨"CuttingRoom", "shapeOrThrow", "(I)LCuttingRoom$Shape;"⟩, 11) := ⟨⟨by decide +kernel, by decide +kernel⟩, List.mem_of_getElem? (i := 23) (by decide +kernel), List.mem_of_getElem? (i := 547) (by decide +kernel), List.mem_of_getElem? (i := 548) (by decide +kernel)⟩
theorem lw_p10 : lw_okq (⟨"CuttingRoom$Shape", "traceAll", "()V"⟩, 11) := ⟨⟨by decide +kernel, by decide +kernel⟩, List.mem_of_getElem? (i := 437) (by decide +kernel), List.mem_of_getElem? (i := 586) (by decide +kernel), List.mem_of_getElem? (i := 587) (by decide +kernel)⟩
theorem lw_p11 : lw_okq (⟨"CuttingRoom$Outline", "turnedRow", "(II)I"⟩, 6) := ⟨⟨by decide +kernel, by decide +kernel⟩, List.mem_of_getElem? (i := 444) (by decide +kernel), List.mem_of_getElem? (i := 597) (by decide +kernel), List.mem_of_getElem? (i := 598) (by decide +kernel)⟩
theorem lw_p12 : lw_okq (⟨"CuttingRoom$Outline", "turnedColumn", "(II)I"⟩, 6) := ⟨⟨by decide +kernel, by decide +kernel⟩, List.mem_of_getElem? (i := 444) (by decide +kernel), List.mem_of_getElem? (i := 601) (by decide +kernel), List.mem_of_getElem? (i := 602) (by decide +kernel)⟩
theorem lw_p13 : lw_okq (⟨"CuttingRoom$Marker", "stripesMeet", "(II)Z"⟩, 8) := ⟨⟨by decide +kernel, by decide +kernel⟩, List.mem_of_getElem? (i := 67) (by decide +kernel), List.mem_of_getElem? (i := 679) (by decide +kernel), List.mem_of_getElem? (i := 680) (by decide +kernel)⟩
theorem lw_p14 : lw_okq (⟨"CuttingRoom$Marker", "cover", "(LCuttingRoom$Outline;III)V"⟩, 8) := ⟨⟨by decide +kernel, by decide +kernel⟩, List.mem_of_getElem? (i := 67) (by decide +kernel), List.mem_of_getElem? (i := 693) (by decide +kernel), List.mem_of_getElem? (i := 694) (by decide +kernel)⟩
theorem lw_p15 : lw_okq (⟨"CuttingRoom$Marker", "join", "(II)V"⟩, 8) := ⟨⟨by decide +kernel, by decide +kernel⟩, List.mem_of_getElem? (i := 67) (by decide +kernel), List.mem_of_getElem? (i := 698) (by decide +kernel), List.mem_of_getElem? (i := 699) (by decide +kernel)⟩
def lw_privs_1 : List (MethodName × Nat) := [(⟨"CuttingRoom$Cloth", "spoilRows", "()V"⟩, 7), (⟨"CuttingRoom$Cloth", "reversed", "(I)I"⟩, 7), (⟨"CuttingRoom$Marker", "pieceIn", "(I)LCuttingRoom$Piece;"⟩, 8), (⟨"CuttingRoom", "shapeNumbered", "(I)LCuttingRoom$Shape;"⟩, 11), (⟨"CuttingRoom$Marker", "meetsAnew", "(LCuttingRoom$Piece;)Z"⟩, 8), (⟨"CuttingRoom", "inGarments", "(I)J"⟩, 11), (⟨"CuttingRoom", "piecesOfPart", "(LCuttingRoom$Style;I)I"⟩, 11), (⟨"java/lang/Throwable", "fillInStackTrace", "(I)Ljava/lang/Throwable;"⟩, 6), (⟨"CuttingRoom", "isUnderPiece", "(II)Z"⟩, 11), (⟨"CuttingRoom", "shapeOrThrow", "(I)LCuttingRoom$Shape;"⟩, 11), (⟨"CuttingRoom$Shape", "traceAll", "()V"⟩, 11), (⟨"CuttingRoom$Outline", "turnedRow", "(II)I"⟩, 6), (⟨"CuttingRoom$Outline", "turnedColumn", "(II)I"⟩, 6), (⟨"CuttingRoom$Marker", "stripesMeet", "(II)Z"⟩, 8), (⟨"CuttingRoom$Marker", "cover", "(LCuttingRoom$Outline;III)V"⟩, 8), (⟨"CuttingRoom$Marker", "join", "(II)V"⟩, 8)]
theorem lw_r1 : ∀ q ∈ lw_privs_1, lw_okq q := List.forall_mem_cons.mpr ⟨lw_p0, List.forall_mem_cons.mpr ⟨lw_p1, List.forall_mem_cons.mpr ⟨lw_p2, List.forall_mem_cons.mpr ⟨lw_p3, List.forall_mem_cons.mpr ⟨lw_p4, List.forall_mem_cons.mpr ⟨lw_p5, List.forall_mem_cons.mpr ⟨lw_p6, List.forall_mem_cons.mpr ⟨lw_p7, List.forall_mem_cons.mpr ⟨lw_p8, List.forall_mem_cons.mpr ⟨lw_p9, List.forall_mem_cons.mpr ⟨lw_p10, List.forall_mem_cons.mpr ⟨lw_p11, List.forall_mem_cons.mpr ⟨lw_p12, List.forall_mem_cons.mpr ⟨lw_p13, List.forall_mem_cons.mpr ⟨lw_p14, List.forall_mem_cons.mpr ⟨lw_p15, fun _ h => absurd h List.not_mem_nil⟩⟩⟩⟩⟩⟩⟩⟩⟩⟩⟩⟩⟩⟩⟩⟩
theorem lw_p16 : lw_okq (⟨"CuttingRoom", "pieceOrThrow", "(I)LCuttingRoom$Piece;"⟩, 11) := ⟨⟨by decide +kernel, by decide +kernel⟩, List.mem_of_getElem? (i := 23) (by decide +kernel), List.mem_of_getElem? (i := 751) (by decide +kernel), List.mem_of_getElem? (i := 752) (by decide +kernel)⟩
theorem lw_p17 : lw_okq (⟨"CuttingRoom$Marker", "slotOf", "(I)I"⟩, 8) := ⟨⟨by decide +kernel, by decide +kernel⟩, List.mem_of_getElem? (i := 67) (by decide +kernel), List.mem_of_getElem? (i := 759) (by decide +kernel), List.mem_of_getElem? (i := 760) (by decide +kernel)⟩
theorem lw_p18 : lw_okq (⟨"CuttingRoom$Marker", "leave", "(I)V"⟩, 8) := ⟨⟨by decide +kernel, by decide +kernel⟩, List.mem_of_getElem? (i := 67) (by decide +kernel), List.mem_of_getElem? (i := 768) (by decide +kernel), List.mem_of_getElem? (i := 769) (by decide +kernel)⟩
theorem lw_p19 : lw_okq (⟨"CuttingRoom$Marker", "moveToEnd", "(I)V"⟩, 8) := ⟨⟨by decide +kernel, by decide +kernel⟩, List.mem_of_getElem? (i := 67) (by decide +kernel), List.mem_of_getElem? (i := 772) (by decide +kernel), List.mem_of_getElem? (i := 773) (by decide +kernel)⟩
theorem lw_p20 : lw_okq (⟨"CuttingRoom", "styleOrThrow", "(I)LCuttingRoom$Style;"⟩, 11) := ⟨⟨by decide +kernel, by decide +kernel⟩, List.mem_of_getElem? (i := 23) (by decide +kernel), List.mem_of_getElem? (i := 875) (by decide +kernel), List.mem_of_getElem? (i := 876) (by decide +kernel)⟩
theorem lw_p21 : lw_okq (⟨"CuttingRoom", "piecesOfGarment", "(LCuttingRoom$Style;)I"⟩, 11) := ⟨⟨by decide +kernel, by decide +kernel⟩, List.mem_of_getElem? (i := 23) (by decide +kernel), List.mem_of_getElem? (i := 883) (by decide +kernel), List.mem_of_getElem? (i := 884) (by decide +kernel)⟩
theorem lw_p22 : lw_okq (⟨"CuttingRoom", "wantPieces", "(LCuttingRoom$Style;)I"⟩, 11) := ⟨⟨by decide +kernel, by decide +kernel⟩, List.mem_of_getElem? (i := 23) (by decide +kernel), List.mem_of_getElem? (i := 901) (by decide +kernel), List.mem_of_getElem? (i := 902) (by decide +kernel)⟩
theorem lw_p23 : lw_okq (⟨"CuttingRoom", "plainToNest", "(LCuttingRoom$Style;I)I"⟩, 11) := ⟨⟨by decide +kernel, by decide +kernel⟩, List.mem_of_getElem? (i := 23) (by decide +kernel), List.mem_of_getElem? (i := 905) (by decide +kernel), List.mem_of_getElem? (i := 906) (by decide +kernel)⟩
theorem lw_p24 : lw_okq (⟨"CuttingRoom", "mirroredToNest", "(LCuttingRoom$Style;I)I"⟩, 11) := ⟨⟨by decide +kernel, by decide +kernel⟩, List.mem_of_getElem? (i := 23) (by decide +kernel), List.mem_of_getElem? (i := 909) (by decide +kernel), List.mem_of_getElem? (i := 910) (by decide +kernel)⟩
theorem lw_p25 : lw_okq (⟨"CuttingRoom", "shortest", "(II)I"⟩, 11) := ⟨⟨by decide +kernel, by decide +kernel⟩, List.mem_of_getElem? (i := 23) (by decide +kernel), List.mem_of_getElem? (i := 917) (by decide +kernel), List.mem_of_getElem? (i := 918) (by decide +kernel)⟩
theorem lw_p26 : lw_okq (⟨"CuttingRoom", "shortestWith", "(III)I"⟩, 11) := ⟨⟨by decide +kernel, by decide +kernel⟩, List.mem_of_getElem? (i := 23) (by decide +kernel), List.mem_of_getElem? (i := 924) (by decide +kernel), List.mem_of_getElem? (i := 925) (by decide +kernel)⟩
theorem lw_p27 : lw_okq (⟨"CuttingRoom", "nestInTrial", "(I)I"⟩, 11) := ⟨⟨by decide +kernel, by decide +kernel⟩, List.mem_of_getElem? (i := 23) (by decide +kernel), List.mem_of_getElem? (i := 928) (by decide +kernel), List.mem_of_getElem? (i := 929) (by decide +kernel)⟩
theorem lw_p28 : lw_okq (⟨"CuttingRoom", "lengthInOrder", "(II)I"⟩, 11) := ⟨⟨by decide +kernel, by decide +kernel⟩, List.mem_of_getElem? (i := 23) (by decide +kernel), List.mem_of_getElem? (i := 943) (by decide +kernel), List.mem_of_getElem? (i := 944) (by decide +kernel)⟩
theorem lw_p29 : lw_okq (⟨"CuttingRoom", "fillQueue", "()V"⟩, 11) := ⟨⟨by decide +kernel, by decide +kernel⟩, List.mem_of_getElem? (i := 23) (by decide +kernel), List.mem_of_getElem? (i := 947) (by decide +kernel), List.mem_of_getElem? (i := 948) (by decide +kernel)⟩
theorem lw_p30 : lw_okq (⟨"CuttingRoom", "stockHolds", "(I)Z"⟩, 11) := ⟨⟨by decide +kernel, by decide +kernel⟩, List.mem_of_getElem? (i := 23) (by decide +kernel), List.mem_of_getElem? (i := 969) (by decide +kernel), List.mem_of_getElem? (i := 970) (by decide +kernel)⟩
theorem lw_p31 : lw_okq (⟨"CuttingRoom", "perPly", "(LCuttingRoom$Shape;Z)I"⟩, 11) := ⟨⟨by decide +kernel, by decide +kernel⟩, List.mem_of_getElem? (i := 23) (by decide +kernel), List.mem_of_getElem? (i := 973) (by decide +kernel), List.mem_of_getElem? (i := 974) (by decide +kernel)⟩
def lw_privs_2 : List (MethodName × Nat) := [(⟨"CuttingRoom", "pieceOrThrow", "(I)LCuttingRoom$Piece;"⟩, 11), (⟨"CuttingRoom$Marker", "slotOf", "(I)I"⟩, 8), (⟨"CuttingRoom$Marker", "leave", "(I)V"⟩, 8), (⟨"CuttingRoom$Marker", "moveToEnd", "(I)V"⟩, 8), (⟨"CuttingRoom", "styleOrThrow", "(I)LCuttingRoom$Style;"⟩, 11), (⟨"CuttingRoom", "piecesOfGarment", "(LCuttingRoom$Style;)I"⟩, 11), (⟨"CuttingRoom", "wantPieces", "(LCuttingRoom$Style;)I"⟩, 11), (⟨"CuttingRoom", "plainToNest", "(LCuttingRoom$Style;I)I"⟩, 11), (⟨"CuttingRoom", "mirroredToNest", "(LCuttingRoom$Style;I)I"⟩, 11), (⟨"CuttingRoom", "shortest", "(II)I"⟩, 11), (⟨"CuttingRoom", "shortestWith", "(III)I"⟩, 11), (⟨"CuttingRoom", "nestInTrial", "(I)I"⟩, 11), (⟨"CuttingRoom", "lengthInOrder", "(II)I"⟩, 11), (⟨"CuttingRoom", "fillQueue", "()V"⟩, 11), (⟨"CuttingRoom", "stockHolds", "(I)Z"⟩, 11), (⟨"CuttingRoom", "perPly", "(LCuttingRoom$Shape;Z)I"⟩, 11)]
theorem lw_r2 : ∀ q ∈ lw_privs_2, lw_okq q := List.forall_mem_cons.mpr ⟨lw_p16, List.forall_mem_cons.mpr ⟨lw_p17, List.forall_mem_cons.mpr ⟨lw_p18, List.forall_mem_cons.mpr ⟨lw_p19, List.forall_mem_cons.mpr ⟨lw_p20, List.forall_mem_cons.mpr ⟨lw_p21, List.forall_mem_cons.mpr ⟨lw_p22, List.forall_mem_cons.mpr ⟨lw_p23, List.forall_mem_cons.mpr ⟨lw_p24, List.forall_mem_cons.mpr ⟨lw_p25, List.forall_mem_cons.mpr ⟨lw_p26, List.forall_mem_cons.mpr ⟨lw_p27, List.forall_mem_cons.mpr ⟨lw_p28, List.forall_mem_cons.mpr ⟨lw_p29, List.forall_mem_cons.mpr ⟨lw_p30, List.forall_mem_cons.mpr ⟨lw_p31, fun _ h => absurd h List.not_mem_nil⟩⟩⟩⟩⟩⟩⟩⟩⟩⟩⟩⟩⟩⟩⟩⟩
theorem lw_p32 : lw_okq (⟨"CuttingRoom", "cutPlies", "(LCuttingRoom$Shape;I)V"⟩, 11) := ⟨⟨by decide +kernel, by decide +kernel⟩, List.mem_of_getElem? (i := 23) (by decide +kernel), List.mem_of_getElem? (i := 979) (by decide +kernel), List.mem_of_getElem? (i := 980) (by decide +kernel)⟩
theorem lw_p33 : lw_okq (⟨"CuttingRoom", "styleWithPartsOrThrow", "(I)LCuttingRoom$Style;"⟩, 11) := ⟨⟨by decide +kernel, by decide +kernel⟩, List.mem_of_getElem? (i := 23) (by decide +kernel), List.mem_of_getElem? (i := 1002) (by decide +kernel), List.mem_of_getElem? (i := 1003) (by decide +kernel)⟩
theorem lw_p34 : lw_okq (⟨"CuttingRoom", "garmentsInStock", "(LCuttingRoom$Style;)I"⟩, 11) := ⟨⟨by decide +kernel, by decide +kernel⟩, List.mem_of_getElem? (i := 23) (by decide +kernel), List.mem_of_getElem? (i := 1011) (by decide +kernel), List.mem_of_getElem? (i := 1012) (by decide +kernel)⟩
theorem lw_p35 : lw_okq (⟨"CuttingRoom", "takesGarment", "(LCuttingRoom$Style;)Z"⟩, 11) := ⟨⟨by decide +kernel, by decide +kernel⟩, List.mem_of_getElem? (i := 23) (by decide +kernel), List.mem_of_getElem? (i := 1027) (by decide +kernel), List.mem_of_getElem? (i := 1028) (by decide +kernel)⟩
theorem lw_p36 : lw_okq (⟨"CuttingRoom", "takesPart", "(IZI)Z"⟩, 11) := ⟨⟨by decide +kernel, by decide +kernel⟩, List.mem_of_getElem? (i := 23) (by decide +kernel), List.mem_of_getElem? (i := 1031) (by decide +kernel), List.mem_of_getElem? (i := 1032) (by decide +kernel)⟩
theorem lw_p37 : lw_okq (⟨"CuttingRoom", "takesKind", "(II)Z"⟩, 11) := ⟨⟨by decide +kernel, by decide +kernel⟩, List.mem_of_getElem? (i := 23) (by decide +kernel), List.mem_of_getElem? (i := 1035) (by decide +kernel), List.mem_of_getElem? (i := 1036) (by decide +kernel)⟩
theorem lw_p38 : lw_okq (⟨"CuttingRoom", "pliesForPart", "(LCuttingRoom$Shape;I)I"⟩, 11) := ⟨⟨by decide +kernel, by decide +kernel⟩, List.mem_of_getElem? (i := 23) (by decide +kernel), List.mem_of_getElem? (i := 1069) (by decide +kernel), List.mem_of_getElem? (i := 1070) (by decide +kernel)⟩
theorem lw_p39 : lw_okq (⟨"CuttingRoomModel", "empties", "()V"⟩, 49) := ⟨⟨by decide +kernel, by decide +kernel⟩, List.mem_of_getElem? (i := 1109) (by decide +kernel), List.mem_of_getElem? (i := 1115) (by decide +kernel), List.mem_of_getElem? (i := 1116) (by decide +kernel)⟩
theorem lw_p40 : lw_okq (⟨"CuttingRoomModel", "fails", "(I)Z"⟩, 49) := ⟨⟨by decide +kernel, by decide +kernel⟩, List.mem_of_getElem? (i := 1109) (by decide +kernel), List.mem_of_getElem? (i := 1280) (by decide +kernel), List.mem_of_getElem? (i := 1281) (by decide +kernel)⟩
theorem lw_p41 : lw_okq (⟨"CuttingRoomModel", "isUnderPiece", "(II)Z"⟩, 49) := ⟨⟨by decide +kernel, by decide +kernel⟩, List.mem_of_getElem? (i := 1109) (by decide +kernel), List.mem_of_getElem? (i := 1292) (by decide +kernel), List.mem_of_getElem? (i := 1293) (by decide +kernel)⟩
theorem lw_p42 : lw_okq (⟨"CuttingRoomModel", "isShape", "(I)Z"⟩, 49) := ⟨⟨by decide +kernel, by decide +kernel⟩, List.mem_of_getElem? (i := 1109) (by decide +kernel), List.mem_of_getElem? (i := 1308) (by decide +kernel), List.mem_of_getElem? (i := 1309) (by decide +kernel)⟩
theorem lw_p43 : lw_okq (⟨"CuttingRoomModel", "isLaid", "(I)Z"⟩, 49) := ⟨⟨by decide +kernel, by decide +kernel⟩, List.mem_of_getElem? (i := 1109) (by decide +kernel), List.mem_of_getElem? (i := 1312) (by decide +kernel), List.mem_of_getElem? (i := 1313) (by decide +kernel)⟩
theorem lw_p44 : lw_okq (⟨"CuttingRoomModel", "reasonFor", "(IIIIZ)C"⟩, 49) := ⟨⟨by decide +kernel, by decide +kernel⟩, List.mem_of_getElem? (i := 1109) (by decide +kernel), List.mem_of_getElem? (i := 1328) (by decide +kernel), List.mem_of_getElem? (i := 1329) (by decide +kernel)⟩
theorem lw_p45 : lw_okq (⟨"CuttingRoomModel", "mayTurn", "(II)Z"⟩, 49) := ⟨⟨by decide +kernel, by decide +kernel⟩, List.mem_of_getElem? (i := 1109) (by decide +kernel), List.mem_of_getElem? (i := 1332) (by decide +kernel), List.mem_of_getElem? (i := 1333) (by decide +kernel)⟩
theorem lw_p46 : lw_okq (⟨"CuttingRoomModel", "turns", "(IIZ)V"⟩, 49) := ⟨⟨by decide +kernel, by decide +kernel⟩, List.mem_of_getElem? (i := 1109) (by decide +kernel), List.mem_of_getElem? (i := 1336) (by decide +kernel), List.mem_of_getElem? (i := 1337) (by decide +kernel)⟩
theorem lw_p47 : lw_okq (⟨"CuttingRoomModel", "worst", "(II)I"⟩, 49) := ⟨⟨by decide +kernel, by decide +kernel⟩, List.mem_of_getElem? (i := 1109) (by decide +kernel), List.mem_of_getElem? (i := 1346) (by decide +kernel), List.mem_of_getElem? (i := 1347) (by decide +kernel)⟩
def lw_privs_3 : List (MethodName × Nat) := [(⟨"CuttingRoom", "cutPlies", "(LCuttingRoom$Shape;I)V"⟩, 11), (⟨"CuttingRoom", "styleWithPartsOrThrow", "(I)LCuttingRoom$Style;"⟩, 11), (⟨"CuttingRoom", "garmentsInStock", "(LCuttingRoom$Style;)I"⟩, 11), (⟨"CuttingRoom", "takesGarment", "(LCuttingRoom$Style;)Z"⟩, 11), (⟨"CuttingRoom", "takesPart", "(IZI)Z"⟩, 11), (⟨"CuttingRoom", "takesKind", "(II)Z"⟩, 11), (⟨"CuttingRoom", "pliesForPart", "(LCuttingRoom$Shape;I)I"⟩, 11), (⟨"CuttingRoomModel", "empties", "()V"⟩, 49), (⟨"CuttingRoomModel", "fails", "(I)Z"⟩, 49), (⟨"CuttingRoomModel", "isUnderPiece", "(II)Z"⟩, 49), (⟨"CuttingRoomModel", "isShape", "(I)Z"⟩, 49), (⟨"CuttingRoomModel", "isLaid", "(I)Z"⟩, 49), (⟨"CuttingRoomModel", "reasonFor", "(IIIIZ)C"⟩, 49), (⟨"CuttingRoomModel", "mayTurn", "(II)Z"⟩, 49), (⟨"CuttingRoomModel", "turns", "(IIZ)V"⟩, 49), (⟨"CuttingRoomModel", "worst", "(II)I"⟩, 49)]
theorem lw_r3 : ∀ q ∈ lw_privs_3, lw_okq q := List.forall_mem_cons.mpr ⟨lw_p32, List.forall_mem_cons.mpr ⟨lw_p33, List.forall_mem_cons.mpr ⟨lw_p34, List.forall_mem_cons.mpr ⟨lw_p35, List.forall_mem_cons.mpr ⟨lw_p36, List.forall_mem_cons.mpr ⟨lw_p37, List.forall_mem_cons.mpr ⟨lw_p38, List.forall_mem_cons.mpr ⟨lw_p39, List.forall_mem_cons.mpr ⟨lw_p40, List.forall_mem_cons.mpr ⟨lw_p41, List.forall_mem_cons.mpr ⟨lw_p42, List.forall_mem_cons.mpr ⟨lw_p43, List.forall_mem_cons.mpr ⟨lw_p44, List.forall_mem_cons.mpr ⟨lw_p45, List.forall_mem_cons.mpr ⟨lw_p46, List.forall_mem_cons.mpr ⟨lw_p47, fun _ h => absurd h List.not_mem_nil⟩⟩⟩⟩⟩⟩⟩⟩⟩⟩⟩⟩⟩⟩⟩⟩
theorem lw_p48 : lw_okq (⟨"CuttingRoomModel", "columns", "()I"⟩, 49) := ⟨⟨by decide +kernel, by decide +kernel⟩, List.mem_of_getElem? (i := 1109) (by decide +kernel), List.mem_of_getElem? (i := 1350) (by decide +kernel), List.mem_of_getElem? (i := 1351) (by decide +kernel)⟩
theorem lw_p49 : lw_okq (⟨"CuttingRoomModel", "isBad", "(II)Z"⟩, 49) := ⟨⟨by decide +kernel, by decide +kernel⟩, List.mem_of_getElem? (i := 1109) (by decide +kernel), List.mem_of_getElem? (i := 1354) (by decide +kernel), List.mem_of_getElem? (i := 1355) (by decide +kernel)⟩
theorem lw_p50 : lw_okq (⟨"CuttingRoomModel", "isMarked", "(I)Z"⟩, 49) := ⟨⟨by decide +kernel, by decide +kernel⟩, List.mem_of_getElem? (i := 1109) (by decide +kernel), List.mem_of_getElem? (i := 1358) (by decide +kernel), List.mem_of_getElem? (i := 1359) (by decide +kernel)⟩
theorem lw_p51 : lw_okq (⟨"CuttingRoomModel", "remainder", "(I)I"⟩, 49) := ⟨⟨by decide +kernel, by decide +kernel⟩, List.mem_of_getElem? (i := 1109) (by decide +kernel), List.mem_of_getElem? (i := 1362) (by decide +kernel), List.mem_of_getElem? (i := 1363) (by decide +kernel)⟩
theorem lw_p52 : lw_okq (⟨"CuttingRoomModel", "puts", "(IIIIZ)I"⟩, 49) := ⟨⟨by decide +kernel, by decide +kernel⟩, List.mem_of_getElem? (i := 1109) (by decide +kernel), List.mem_of_getElem? (i := 1366) (by decide +kernel), List.mem_of_getElem? (i := 1367) (by decide +kernel)⟩
theorem lw_p53 : lw_okq (⟨"CuttingRoomModel", "isNested", "(IZ)Z"⟩, 49) := ⟨⟨by decide +kernel, by decide +kernel⟩, List.mem_of_getElem? (i := 1109) (by decide +kernel), List.mem_of_getElem? (i := 1378) (by decide +kernel), List.mem_of_getElem? (i := 1379) (by decide +kernel)⟩
theorem lw_p54 : lw_okq (⟨"CuttingRoomModel", "placeOf", "(I)I"⟩, 49) := ⟨⟨by decide +kernel, by decide +kernel⟩, List.mem_of_getElem? (i := 1109) (by decide +kernel), List.mem_of_getElem? (i := 1386) (by decide +kernel), List.mem_of_getElem? (i := 1387) (by decide +kernel)⟩
theorem lw_p55 : lw_okq (⟨"CuttingRoomModel", "takes", "(I)V"⟩, 49) := ⟨⟨by decide +kernel, by decide +kernel⟩, List.mem_of_getElem? (i := 1109) (by decide +kernel), List.mem_of_getElem? (i := 1390) (by decide +kernel), List.mem_of_getElem? (i := 1391) (by decide +kernel)⟩
theorem lw_p56 : lw_okq (⟨"CuttingRoomModel", "longest", "()I"⟩, 49) := ⟨⟨by decide +kernel, by decide +kernel⟩, List.mem_of_getElem? (i := 1109) (by decide +kernel), List.mem_of_getElem? (i := 1394) (by decide +kernel), List.mem_of_getElem? (i := 1395) (by decide +kernel)⟩
theorem lw_p57 : lw_okq (⟨"CuttingRoomModel", "cellsUsed", "()I"⟩, 49) := ⟨⟨by decide +kernel, by decide +kernel⟩, List.mem_of_getElem? (i := 1109) (by decide +kernel), List.mem_of_getElem? (i := 1435) (by decide +kernel), List.mem_of_getElem? (i := 1436) (by decide +kernel)⟩
theorem lw_p58 : lw_okq (⟨"CuttingRoomModel", "isStyle", "(I)Z"⟩, 49) := ⟨⟨by decide +kernel, by decide +kernel⟩, List.mem_of_getElem? (i := 1109) (by decide +kernel), List.mem_of_getElem? (i := 1451) (by decide +kernel), List.mem_of_getElem? (i := 1452) (by decide +kernel)⟩
theorem lw_p59 : lw_okq (⟨"CuttingRoomModel", "takenBy", "(I)I"⟩, 49) := ⟨⟨by decide +kernel, by decide +kernel⟩, List.mem_of_getElem? (i := 1109) (by decide +kernel), List.mem_of_getElem? (i := 1455) (by decide +kernel), List.mem_of_getElem? (i := 1456) (by decide +kernel)⟩
theorem lw_p60 : lw_okq (⟨"CuttingRoomModel", "queues", "(I)Z"⟩, 49) := ⟨⟨by decide +kernel, by decide +kernel⟩, List.mem_of_getElem? (i := 1109) (by decide +kernel), List.mem_of_getElem? (i := 1467) (by decide +kernel), List.mem_of_getElem? (i := 1468) (by decide +kernel)⟩
theorem lw_p61 : lw_okq (⟨"CuttingRoomModel", "leastLength", "()I"⟩, 49) := ⟨⟨by decide +kernel, by decide +kernel⟩, List.mem_of_getElem? (i := 1109) (by decide +kernel), List.mem_of_getElem? (i := 1471) (by decide +kernel), List.mem_of_getElem? (i := 1472) (by decide +kernel)⟩
theorem lw_p62 : lw_okq (⟨"CuttingRoomModel", "tries", "(I)V"⟩, 49) := ⟨⟨by decide +kernel, by decide +kernel⟩, List.mem_of_getElem? (i := 1109) (by decide +kernel), List.mem_of_getElem? (i := 1475) (by decide +kernel), List.mem_of_getElem? (i := 1476) (by decide +kernel)⟩
theorem lw_p63 : lw_okq (⟨"CuttingRoomModel", "takenFromRoll", "(I)I"⟩, 49) := ⟨⟨by decide +kernel, by decide +kernel⟩, List.mem_of_getElem? (i := 1109) (by decide +kernel), List.mem_of_getElem? (i := 1497) (by decide +kernel), List.mem_of_getElem? (i := 1498) (by decide +kernel)⟩
def lw_privs_4 : List (MethodName × Nat) := [(⟨"CuttingRoomModel", "columns", "()I"⟩, 49), (⟨"CuttingRoomModel", "isBad", "(II)Z"⟩, 49), (⟨"CuttingRoomModel", "isMarked", "(I)Z"⟩, 49), (⟨"CuttingRoomModel", "remainder", "(I)I"⟩, 49), (⟨"CuttingRoomModel", "puts", "(IIIIZ)I"⟩, 49), (⟨"CuttingRoomModel", "isNested", "(IZ)Z"⟩, 49), (⟨"CuttingRoomModel", "placeOf", "(I)I"⟩, 49), (⟨"CuttingRoomModel", "takes", "(I)V"⟩, 49), (⟨"CuttingRoomModel", "longest", "()I"⟩, 49), (⟨"CuttingRoomModel", "cellsUsed", "()I"⟩, 49), (⟨"CuttingRoomModel", "isStyle", "(I)Z"⟩, 49), (⟨"CuttingRoomModel", "takenBy", "(I)I"⟩, 49), (⟨"CuttingRoomModel", "queues", "(I)Z"⟩, 49), (⟨"CuttingRoomModel", "leastLength", "()I"⟩, 49), (⟨"CuttingRoomModel", "tries", "(I)V"⟩, 49), (⟨"CuttingRoomModel", "takenFromRoll", "(I)I"⟩, 49)]
theorem lw_r4 : ∀ q ∈ lw_privs_4, lw_okq q := List.forall_mem_cons.mpr ⟨lw_p48, List.forall_mem_cons.mpr ⟨lw_p49, List.forall_mem_cons.mpr ⟨lw_p50, List.forall_mem_cons.mpr ⟨lw_p51, List.forall_mem_cons.mpr ⟨lw_p52, List.forall_mem_cons.mpr ⟨lw_p53, List.forall_mem_cons.mpr ⟨lw_p54, List.forall_mem_cons.mpr ⟨lw_p55, List.forall_mem_cons.mpr ⟨lw_p56, List.forall_mem_cons.mpr ⟨lw_p57, List.forall_mem_cons.mpr ⟨lw_p58, List.forall_mem_cons.mpr ⟨lw_p59, List.forall_mem_cons.mpr ⟨lw_p60, List.forall_mem_cons.mpr ⟨lw_p61, List.forall_mem_cons.mpr ⟨lw_p62, List.forall_mem_cons.mpr ⟨lw_p63, fun _ h => absurd h List.not_mem_nil⟩⟩⟩⟩⟩⟩⟩⟩⟩⟩⟩⟩⟩⟩⟩⟩
theorem lw_p64 : lw_okq (⟨"CuttingRoomModel", "isMuch", "(I)Z"⟩, 49) := ⟨⟨by decide +kernel, by decide +kernel⟩, List.mem_of_getElem? (i := 1109) (by decide +kernel), List.mem_of_getElem? (i := 1501) (by decide +kernel), List.mem_of_getElem? (i := 1502) (by decide +kernel)⟩
theorem lw_p65 : lw_okq (⟨"CuttingRoomModel", "givenBy", "(IZ)I"⟩, 49) := ⟨⟨by decide +kernel, by decide +kernel⟩, List.mem_of_getElem? (i := 1109) (by decide +kernel), List.mem_of_getElem? (i := 1505) (by decide +kernel), List.mem_of_getElem? (i := 1506) (by decide +kernel)⟩
theorem lw_p66 : lw_okq (⟨"CuttingRoomModel", "makes", "(II)I"⟩, 49) := ⟨⟨by decide +kernel, by decide +kernel⟩, List.mem_of_getElem? (i := 1109) (by decide +kernel), List.mem_of_getElem? (i := 1517) (by decide +kernel), List.mem_of_getElem? (i := 1518) (by decide +kernel)⟩
def lw_privs_5 : List (MethodName × Nat) := [(⟨"CuttingRoomModel", "isMuch", "(I)Z"⟩, 49), (⟨"CuttingRoomModel", "givenBy", "(IZ)I"⟩, 49), (⟨"CuttingRoomModel", "makes", "(II)I"⟩, 49)]
theorem lw_r5 : ∀ q ∈ lw_privs_5, lw_okq q := List.forall_mem_cons.mpr ⟨lw_p64, List.forall_mem_cons.mpr ⟨lw_p65, List.forall_mem_cons.mpr ⟨lw_p66, fun _ h => absurd h List.not_mem_nil⟩⟩⟩
def lw_privs : List (MethodName × Nat) := lw_privs_1 ++ (lw_privs_2 ++ (lw_privs_3 ++ (lw_privs_4 ++ (lw_privs_5))))
def lw_tbl : List Cond := k2_sels lw_privs ++ tables_1
theorem lw_privs_ok : ∀ q ∈ lw_privs, lw_okq q := by
  show ∀ q ∈ lw_privs_1 ++ (lw_privs_2 ++ (lw_privs_3 ++ (lw_privs_4 ++ (lw_privs_5)))), lw_okq q
  exact List.forall_mem_append.mpr ⟨lw_r1, List.forall_mem_append.mpr ⟨lw_r2, List.forall_mem_append.mpr ⟨lw_r3, List.forall_mem_append.mpr ⟨lw_r4, lw_r5⟩⟩⟩⟩
/-- the streams that the claim lets the run draw from -/
abbrev lw_cs : List Choice := [Jvm.Choice.named "NaN.bits"]
theorem lw_bits : nanBits ∈ lw_cs := by first | decide | exact List.mem_cons_self | simp [lw_cs, nanBits]
end
section
def RX0 : String := "CuttingRoom$Cloth"
def TX0 : u_T := fun k => match k with
  | 0 => ("CuttingRoom$Cloth", "width", "I", false)
  | 1 => ("CuttingRoom$Cloth", "hasNap", "Z", false)
  | 2 => ("CuttingRoom$Cloth", "isFolded", "Z", false)
  | 3 => ("CuttingRoom$Cloth", "stripes", "I", false)
  | 4 => ("CuttingRoom$Cloth", "flaws", "I", false)
  | 5 => ("CuttingRoom$Cloth", "told", "[I", true)
  | _ => ("CuttingRoom$Cloth", "spoiled", "[I", true)
def tyX0 : Nat → FieldType := fun k => match k with
  | 0 => .int
  | 1 => .boolean
  | 2 => .boolean
  | 3 => .int
  | 4 => .int
  | 5 => .array .int
  | _ => .array .int
theorem nmX0 : ∀ a, a < 7 → ∀ b, b < 7 → a ≠ b → (TX0 a).2.1 ≠ (TX0 b).2.1 := by decide +kernel
theorem tyX0_ok : ∀ k, k < 7 → parseFieldDescriptor (TX0 k).2.2.1 = some (tyX0 k) := by decide +kernel
abbrev cX0_init : ByteArray := prog_2_method_1_code
def yX0_init : MethodName := ⟨RX0, "<init>", "()V"⟩
abbrev cX0_openColumns : ByteArray := prog_2_method_2_code
def yX0_openColumns : MethodName := ⟨RX0, "openColumns", "()I"⟩
abbrev cX0_isStriped : ByteArray := prog_2_method_3_code
def yX0_isStriped : MethodName := ⟨RX0, "isStriped", "()Z"⟩
abbrev cX0_remainder : ByteArray := prog_2_method_4_code
def yX0_remainder : MethodName := ⟨RX0, "remainder", "(I)I"⟩
abbrev cX0_opposite : ByteArray := prog_2_method_5_code
def yX0_opposite : MethodName := ⟨RX0, "opposite", "(I)I"⟩
abbrev cX0_foldOrOpen : ByteArray := prog_2_method_6_code
def yX0_foldOrOpen : MethodName := ⟨RX0, "foldOrOpen", "(Z)V"⟩
abbrev cX0_isTold : ByteArray := prog_2_method_7_code
def yX0_isTold : MethodName := ⟨RX0, "isTold", "(II)Z"⟩
abbrev cX0_tell : ByteArray := prog_2_method_8_code
def yX0_tell : MethodName := ⟨RX0, "tell", "(II)V"⟩
abbrev cX0_forgetFlaws : ByteArray := prog_2_method_9_code
def yX0_forgetFlaws : MethodName := ⟨RX0, "forgetFlaws", "()V"⟩
abbrev cX0_spoilRows : ByteArray := prog_2_method_10_code
def yX0_spoilRows : MethodName := ⟨RX0, "spoilRows", "()V"⟩
abbrev cX0_reversed : ByteArray := prog_2_method_11_code
def yX0_reversed : MethodName := ⟨RX0, "reversed", "(I)I"⟩
abbrev cX0_reaches : ByteArray := prog_2_method_12_code
def yX0_reaches : MethodName := ⟨RX0, "reaches", "(LCuttingRoom$Outline;II)Z"⟩
def RX1 : String := "CuttingRoom$Marker"
def TX1 : u_T := fun k => match k with
  | 0 => ("CuttingRoom$Marker", "pieces", "[LCuttingRoom$Piece;", true)
  | 1 => ("CuttingRoom$Marker", "count", "I", false)
  | 2 => ("CuttingRoom$Marker", "nextNumber", "I", false)
  | 3 => ("CuttingRoom$Marker", "owners", "[I", true)
  | 4 => ("CuttingRoom$Marker", "taken", "[I", true)
  | 5 => ("CuttingRoom$Marker", "members", "[I", true)
  | 6 => ("CuttingRoom$Marker", "phases", "[I", true)
  | _ => ("CuttingRoom$Marker", "met", "[I", true)
def tyX1 : Nat → FieldType := fun k => match k with
  | 0 => .array (.object "CuttingRoom$Piece")
  | 1 => .int
  | 2 => .int
  | 3 => .array .int
  | 4 => .array .int
  | 5 => .array .int
  | 6 => .array .int
  | _ => .array .int
theorem nmX1 : ∀ a, a < 8 → ∀ b, b < 8 → a ≠ b → (TX1 a).2.1 ≠ (TX1 b).2.1 := by decide +kernel
theorem tyX1_ok : ∀ k, k < 8 → parseFieldDescriptor (TX1 k).2.2.1 = some (tyX1 k) := by decide +kernel
abbrev cX1_init : ByteArray := prog_3_method_1_code
def yX1_init : MethodName := ⟨RX1, "<init>", "()V"⟩
abbrev cX1_isFull : ByteArray := prog_3_method_2_code
def yX1_isFull : MethodName := ⟨RX1, "isFull", "()Z"⟩
abbrev cX1_pieceIn : ByteArray := prog_3_method_3_code
def yX1_pieceIn : MethodName := ⟨RX1, "pieceIn", "(I)LCuttingRoom$Piece;"⟩
abbrev cX1_slotOf : ByteArray := prog_3_method_4_code
def yX1_slotOf : MethodName := ⟨RX1, "slotOf", "(I)I"⟩
abbrev cX1_pieceNumbered : ByteArray := prog_3_method_5_code
def yX1_pieceNumbered : MethodName := ⟨RX1, "pieceNumbered", "(I)LCuttingRoom$Piece;"⟩
abbrev cX1_obstacle : ByteArray := prog_3_method_6_code
def yX1_obstacle : MethodName := ⟨RX1, "obstacle", "(LCuttingRoom$Cloth;LCuttingRoom$Shape;IIIZ)C"⟩
abbrev cX1_meetsAny : ByteArray := prog_3_method_7_code
def yX1_meetsAny : MethodName := ⟨RX1, "meetsAny", "([ILCuttingRoom$Outline;II)Z"⟩
abbrev cX1_stripesMeet : ByteArray := prog_3_method_8_code
def yX1_stripesMeet : MethodName := ⟨RX1, "stripesMeet", "(II)Z"⟩
abbrev cX1_firstSpot : ByteArray := prog_3_method_9_code
def yX1_firstSpot : MethodName := ⟨RX1, "firstSpot", "(LCuttingRoom$Cloth;LCuttingRoom$Shape;Z)I"⟩
abbrev cX1_putAtSpot : ByteArray := prog_3_method_10_code
def yX1_putAtSpot : MethodName := ⟨RX1, "putAtSpot", "(LCuttingRoom$Cloth;LCuttingRoom$Shape;IZ)I"⟩
abbrev cX1_put : ByteArray := prog_3_method_11_code
def yX1_put : MethodName := ⟨RX1, "put", "(LCuttingRoom$Cloth;LCuttingRoom$Shape;IIIZ)I"⟩
abbrev cX1_cover : ByteArray := prog_3_method_12_code
def yX1_cover : MethodName := ⟨RX1, "cover", "(LCuttingRoom$Outline;III)V"⟩
abbrev cX1_join : ByteArray := prog_3_method_13_code
def yX1_join : MethodName := ⟨RX1, "join", "(II)V"⟩
abbrev cX1_leave : ByteArray := prog_3_method_14_code
def yX1_leave : MethodName := ⟨RX1, "leave", "(I)V"⟩
abbrev cX1_remove : ByteArray := prog_3_method_15_code
def yX1_remove : MethodName := ⟨RX1, "remove", "(I)V"⟩
abbrev cX1_moveToEnd : ByteArray := prog_3_method_16_code
def yX1_moveToEnd : MethodName := ⟨RX1, "moveToEnd", "(I)V"⟩
abbrev cX1_empty : ByteArray := prog_3_method_17_code
def yX1_empty : MethodName := ⟨RX1, "empty", "()V"⟩
abbrev cX1_ownerOf : ByteArray := prog_3_method_18_code
def yX1_ownerOf : MethodName := ⟨RX1, "ownerOf", "(II)I"⟩
abbrev cX1_ownerByPieces : ByteArray := prog_3_method_19_code
def yX1_ownerByPieces : MethodName := ⟨RX1, "ownerByPieces", "(II)I"⟩
abbrev cX1_holds : ByteArray := prog_3_method_20_code
def yX1_holds : MethodName := ⟨RX1, "holds", "(LCuttingRoom$Shape;)Z"⟩
abbrev cX1_countOf : ByteArray := prog_3_method_21_code
def yX1_countOf : MethodName := ⟨RX1, "countOf", "(LCuttingRoom$Shape;Z)I"⟩
abbrev cX1_rowsUsed : ByteArray := prog_3_method_22_code
def yX1_rowsUsed : MethodName := ⟨RX1, "rowsUsed", "()I"⟩
abbrev cX1_cellsUsed : ByteArray := prog_3_method_23_code
def yX1_cellsUsed : MethodName := ⟨RX1, "cellsUsed", "()I"⟩
abbrev cX1_hasNoOverlap : ByteArray := prog_3_method_24_code
def yX1_hasNoOverlap : MethodName := ⟨RX1, "hasNoOverlap", "()Z"⟩
abbrev cX1_meetsAnew : ByteArray := prog_3_method_25_code
def yX1_meetsAnew : MethodName := ⟨RX1, "meetsAnew", "(LCuttingRoom$Piece;)Z"⟩
def RX2 : String := "CuttingRoom$Outline"
def TX2 : u_T := fun k => match k with
  | 0 => ("CuttingRoom$Outline", "turns", "I", true)
  | 1 => ("CuttingRoom$Outline", "isMirrored", "Z", true)
  | 2 => ("CuttingRoom$Outline", "rows", "[I", true)
  | 3 => ("CuttingRoom$Outline", "height", "I", false)
  | 4 => ("CuttingRoom$Outline", "width", "I", false)
  | _ => ("CuttingRoom$Outline", "markRow", "I", false)
def tyX2 : Nat → FieldType := fun k => match k with
  | 0 => .int
  | 1 => .boolean
  | 2 => .array .int
  | 3 => .int
  | 4 => .int
  | _ => .int
theorem nmX2 : ∀ a, a < 6 → ∀ b, b < 6 → a ≠ b → (TX2 a).2.1 ≠ (TX2 b).2.1 := by decide +kernel
theorem tyX2_ok : ∀ k, k < 6 → parseFieldDescriptor (TX2 k).2.2.1 = some (tyX2 k) := by decide +kernel
abbrev cX2_init : ByteArray := prog_4_method_1_code
def yX2_init : MethodName := ⟨RX2, "<init>", "(IZ)V"⟩
abbrev cX2_trace : ByteArray := prog_4_method_2_code
def yX2_trace : MethodName := ⟨RX2, "trace", "([III)V"⟩
abbrev cX2_turnedRow : ByteArray := prog_4_method_3_code
def yX2_turnedRow : MethodName := ⟨RX2, "turnedRow", "(II)I"⟩
abbrev cX2_turnedColumn : ByteArray := prog_4_method_4_code
def yX2_turnedColumn : MethodName := ⟨RX2, "turnedColumn", "(II)I"⟩
abbrev cX2_hasCell : ByteArray := prog_4_method_5_code
def yX2_hasCell : MethodName := ⟨RX2, "hasCell", "(II)Z"⟩
def RX3 : String := "CuttingRoom$Piece"
def TX3 : u_T := fun k => match k with
  | 0 => ("CuttingRoom$Piece", "number", "I", false)
  | 1 => ("CuttingRoom$Piece", "shape", "LCuttingRoom$Shape;", false)
  | 2 => ("CuttingRoom$Piece", "outline", "LCuttingRoom$Outline;", false)
  | 3 => ("CuttingRoom$Piece", "turns", "I", false)
  | 4 => ("CuttingRoom$Piece", "row", "I", false)
  | 5 => ("CuttingRoom$Piece", "column", "I", false)
  | _ => ("CuttingRoom$Piece", "isMirrored", "Z", false)
def tyX3 : Nat → FieldType := fun k => match k with
  | 0 => .int
  | 1 => .object "CuttingRoom$Shape"
  | 2 => .object "CuttingRoom$Outline"
  | 3 => .int
  | 4 => .int
  | 5 => .int
  | _ => .boolean
theorem nmX3 : ∀ a, a < 7 → ∀ b, b < 7 → a ≠ b → (TX3 a).2.1 ≠ (TX3 b).2.1 := by decide +kernel
theorem tyX3_ok : ∀ k, k < 7 → parseFieldDescriptor (TX3 k).2.2.1 = some (tyX3 k) := by decide +kernel
abbrev cX3_init : ByteArray := prog_5_method_1_code
def yX3_init : MethodName := ⟨RX3, "<init>", "()V"⟩
abbrev cX3_covers : ByteArray := prog_5_method_2_code
def yX3_covers : MethodName := ⟨RX3, "covers", "(II)Z"⟩
def RX4 : String := "CuttingRoom$Shape"
def TX4 : u_T := fun k => match k with
  | 0 => ("CuttingRoom$Shape", "rule", "C", true)
  | 1 => ("CuttingRoom$Shape", "isPaired", "Z", true)
  | 2 => ("CuttingRoom$Shape", "drawing", "[I", true)
  | 3 => ("CuttingRoom$Shape", "outlines", "[LCuttingRoom$Outline;", true)
  | 4 => ("CuttingRoom$Shape", "cells", "I", false)
  | 5 => ("CuttingRoom$Shape", "group", "I", false)
  | 6 => ("CuttingRoom$Shape", "markRow", "I", false)
  | 7 => ("CuttingRoom$Shape", "markColumn", "I", false)
  | 8 => ("CuttingRoom$Shape", "plain", "I", false)
  | 9 => ("CuttingRoom$Shape", "mirrored", "I", false)
  | _ => ("CuttingRoom$Shape", "everCut", "J", false)
def tyX4 : Nat → FieldType := fun k => match k with
  | 0 => .char
  | 1 => .boolean
  | 2 => .array .int
  | 3 => .array (.object "CuttingRoom$Outline")
  | 4 => .int
  | 5 => .int
  | 6 => .int
  | 7 => .int
  | 8 => .int
  | 9 => .int
  | _ => .long
theorem nmX4 : ∀ a, a < 11 → ∀ b, b < 11 → a ≠ b → (TX4 a).2.1 ≠ (TX4 b).2.1 := by decide +kernel
theorem tyX4_ok : ∀ k, k < 11 → parseFieldDescriptor (TX4 k).2.2.1 = some (tyX4 k) := by decide +kernel
abbrev cX4_init : ByteArray := prog_6_method_1_code
def yX4_init : MethodName := ⟨RX4, "<init>", "(CZ)V"⟩
abbrev cX4_hasCell : ByteArray := prog_6_method_2_code
def yX4_hasCell : MethodName := ⟨RX4, "hasCell", "(II)Z"⟩
abbrev cX4_draw : ByteArray := prog_6_method_3_code
def yX4_draw : MethodName := ⟨RX4, "draw", "(II)V"⟩
abbrev cX4_mark : ByteArray := prog_6_method_4_code
def yX4_mark : MethodName := ⟨RX4, "mark", "(III)V"⟩
abbrev cX4_traceAll : ByteArray := prog_6_method_5_code
def yX4_traceAll : MethodName := ⟨RX4, "traceAll", "()V"⟩
abbrev cX4_outlineFor : ByteArray := prog_6_method_6_code
def yX4_outlineFor : MethodName := ⟨RX4, "outlineFor", "(IZ)LCuttingRoom$Outline;"⟩
abbrev cX4_canTurn : ByteArray := prog_6_method_7_code
def yX4_canTurn : MethodName := ⟨RX4, "canTurn", "(IZ)Z"⟩
abbrev cX4_canMirror : ByteArray := prog_6_method_8_code
def yX4_canMirror : MethodName := ⟨RX4, "canMirror", "(Z)Z"⟩
abbrev cX4_whole : ByteArray := prog_6_method_9_code
def yX4_whole : MethodName := ⟨RX4, "whole", "()I"⟩
abbrev cX4_receive : ByteArray := prog_6_method_10_code
def yX4_receive : MethodName := ⟨RX4, "receive", "(II)V"⟩
abbrev cX4_giveAway : ByteArray := prog_6_method_11_code
def yX4_giveAway : MethodName := ⟨RX4, "giveAway", "(I)V"⟩
def RX5 : String := "CuttingRoom$Style"
def TX5 : u_T := fun k => match k with
  | 0 => ("CuttingRoom$Style", "counts", "[I", true)
  | _ => ("CuttingRoom$Style", "garments", "I", false)
def tyX5 : Nat → FieldType := fun k => match k with
  | 0 => .array .int
  | _ => .int
theorem nmX5 : ∀ a, a < 2 → ∀ b, b < 2 → a ≠ b → (TX5 a).2.1 ≠ (TX5 b).2.1 := by decide +kernel
theorem tyX5_ok : ∀ k, k < 2 → parseFieldDescriptor (TX5 k).2.2.1 = some (tyX5 k) := by decide +kernel
abbrev cX5_init : ByteArray := prog_7_method_1_code
def yX5_init : MethodName := ⟨RX5, "<init>", "()V"⟩
abbrev cX5_hasParts : ByteArray := prog_7_method_2_code
def yX5_hasParts : MethodName := ⟨RX5, "hasParts", "()Z"⟩
def RX6 : String := "CuttingRoom"
def TX6 : u_T := fun k => match k with
  | 0 => ("CuttingRoom", "cloth", "LCuttingRoom$Cloth;", true)
  | 1 => ("CuttingRoom", "marker", "LCuttingRoom$Marker;", true)
  | 2 => ("CuttingRoom", "shapes", "[LCuttingRoom$Shape;", true)
  | 3 => ("CuttingRoom", "shapeCount", "I", false)
  | 4 => ("CuttingRoom", "styles", "[LCuttingRoom$Style;", true)
  | 5 => ("CuttingRoom", "styleCount", "I", false)
  | 6 => ("CuttingRoom", "rollRows", "I", false)
  | 7 => ("CuttingRoom", "trial", "LCuttingRoom$Marker;", true)
  | 8 => ("CuttingRoom", "wanted", "[I", true)
  | 9 => ("CuttingRoom", "queue", "[I", true)
  | _ => ("CuttingRoom", "untaken", "[I", true)
def tyX6 : Nat → FieldType := fun k => match k with
  | 0 => .object "CuttingRoom$Cloth"
  | 1 => .object "CuttingRoom$Marker"
  | 2 => .array (.object "CuttingRoom$Shape")
  | 3 => .int
  | 4 => .array (.object "CuttingRoom$Style")
  | 5 => .int
  | 6 => .int
  | 7 => .object "CuttingRoom$Marker"
  | 8 => .array .int
  | 9 => .array .int
  | _ => .array .int
theorem nmX6 : ∀ a, a < 11 → ∀ b, b < 11 → a ≠ b → (TX6 a).2.1 ≠ (TX6 b).2.1 := by decide +kernel
theorem tyX6_ok : ∀ k, k < 11 → parseFieldDescriptor (TX6 k).2.2.1 = some (tyX6 k) := by decide +kernel
abbrev cX6_init : ByteArray := prog_1_method_1_code
def yX6_init : MethodName := ⟨RX6, "<init>", "()V"⟩
abbrev cX6_setCloth : ByteArray := prog_1_method_2_code
def yX6_setCloth : MethodName := ⟨RX6, "setCloth", "(IZI)I"⟩
abbrev cX6_fold : ByteArray := prog_1_method_3_code
def yX6_fold : MethodName := ⟨RX6, "fold", "(Z)Z"⟩
abbrev cX6_addFlaw : ByteArray := prog_1_method_4_code
def yX6_addFlaw : MethodName := ⟨RX6, "addFlaw", "(II)I"⟩
abbrev cX6_isUnderPiece : ByteArray := prog_1_method_5_code
def yX6_isUnderPiece : MethodName := ⟨RX6, "isUnderPiece", "(II)Z"⟩
abbrev cX6_clearFlaws : ByteArray := prog_1_method_6_code
def yX6_clearFlaws : MethodName := ⟨RX6, "clearFlaws", "()I"⟩
abbrev cX6_addShape : ByteArray := prog_1_method_7_code
def yX6_addShape : MethodName := ⟨RX6, "addShape", "(CZ)I"⟩
abbrev cX6_addCell : ByteArray := prog_1_method_8_code
def yX6_addCell : MethodName := ⟨RX6, "addCell", "(III)I"⟩
abbrev cX6_setMark : ByteArray := prog_1_method_9_code
def yX6_setMark : MethodName := ⟨RX6, "setMark", "(IIII)I"⟩
abbrev cX6_cellsOf : ByteArray := prog_1_method_10_code
def yX6_cellsOf : MethodName := ⟨RX6, "cellsOf", "(I)I"⟩
abbrev cX6_shapeOrThrow : ByteArray := prog_1_method_11_code
def yX6_shapeOrThrow : MethodName := ⟨RX6, "shapeOrThrow", "(I)LCuttingRoom$Shape;"⟩
abbrev cX6_shapeNumbered : ByteArray := prog_1_method_12_code
def yX6_shapeNumbered : MethodName := ⟨RX6, "shapeNumbered", "(I)LCuttingRoom$Shape;"⟩
abbrev cX6_lay : ByteArray := prog_1_method_13_code
def yX6_lay : MethodName := ⟨RX6, "lay", "(IIIIZ)I"⟩
abbrev cX6_reason : ByteArray := prog_1_method_14_code
def yX6_reason : MethodName := ⟨RX6, "reason", "(IIIIZ)C"⟩
abbrev cX6_checkTurns : ByteArray := prog_1_method_15_code
def yX6_checkTurns : MethodName := ⟨RX6, "checkTurns", "(I)V"⟩
abbrev cX6_nest : ByteArray := prog_1_method_16_code
def yX6_nest : MethodName := ⟨RX6, "nest", "(IZ)I"⟩
abbrev cX6_takeOff : ByteArray := prog_1_method_17_code
def yX6_takeOff : MethodName := ⟨RX6, "takeOff", "(I)I"⟩
abbrev cX6_clear : ByteArray := prog_1_method_18_code
def yX6_clear : MethodName := ⟨RX6, "clear", "()I"⟩
abbrev cX6_inMarker : ByteArray := prog_1_method_19_code
def yX6_inMarker : MethodName := ⟨RX6, "inMarker", "()I"⟩
abbrev cX6_rowOf : ByteArray := prog_1_method_20_code
def yX6_rowOf : MethodName := ⟨RX6, "rowOf", "(I)I"⟩
abbrev cX6_columnOf : ByteArray := prog_1_method_21_code
def yX6_columnOf : MethodName := ⟨RX6, "columnOf", "(I)I"⟩
abbrev cX6_turnsOf : ByteArray := prog_1_method_22_code
def yX6_turnsOf : MethodName := ⟨RX6, "turnsOf", "(I)I"⟩
abbrev cX6_pieceOrThrow : ByteArray := prog_1_method_23_code
def yX6_pieceOrThrow : MethodName := ⟨RX6, "pieceOrThrow", "(I)LCuttingRoom$Piece;"⟩
abbrev cX6_pieceAt : ByteArray := prog_1_method_24_code
def yX6_pieceAt : MethodName := ⟨RX6, "pieceAt", "(II)I"⟩
abbrev cX6_pieceByPieces : ByteArray := prog_1_method_25_code
def yX6_pieceByPieces : MethodName := ⟨RX6, "pieceByPieces", "(II)I"⟩
abbrev cX6_checkCell : ByteArray := prog_1_method_26_code
def yX6_checkCell : MethodName := ⟨RX6, "checkCell", "(II)V"⟩
abbrev cX6_numberOrThrow : ByteArray := prog_1_method_27_code
def yX6_numberOrThrow : MethodName := ⟨RX6, "numberOrThrow", "(I)I"⟩
abbrev cX6_length : ByteArray := prog_1_method_28_code
def yX6_length : MethodName := ⟨RX6, "length", "()I"⟩
abbrev cX6_used : ByteArray := prog_1_method_29_code
def yX6_used : MethodName := ⟨RX6, "used", "()I"⟩
abbrev cX6_phase : ByteArray := prog_1_method_30_code
def yX6_phase : MethodName := ⟨RX6, "phase", "(I)I"⟩
abbrev cX6_addStyle : ByteArray := prog_1_method_31_code
def yX6_addStyle : MethodName := ⟨RX6, "addStyle", "()I"⟩
abbrev cX6_addPart : ByteArray := prog_1_method_32_code
def yX6_addPart : MethodName := ⟨RX6, "addPart", "(III)I"⟩
abbrev cX6_piecesFor : ByteArray := prog_1_method_33_code
def yX6_piecesFor : MethodName := ⟨RX6, "piecesFor", "(I)I"⟩
abbrev cX6_styleOrThrow : ByteArray := prog_1_method_34_code
def yX6_styleOrThrow : MethodName := ⟨RX6, "styleOrThrow", "(I)LCuttingRoom$Style;"⟩
abbrev cX6_styleWithPartsOrThrow : ByteArray := prog_1_method_35_code
def yX6_styleWithPartsOrThrow : MethodName := ⟨RX6, "styleWithPartsOrThrow", "(I)LCuttingRoom$Style;"⟩
abbrev cX6_piecesOfGarment : ByteArray := prog_1_method_36_code
def yX6_piecesOfGarment : MethodName := ⟨RX6, "piecesOfGarment", "(LCuttingRoom$Style;)I"⟩
abbrev cX6_piecesOfPart : ByteArray := prog_1_method_37_code
def yX6_piecesOfPart : MethodName := ⟨RX6, "piecesOfPart", "(LCuttingRoom$Style;I)I"⟩
abbrev cX6_nestedLength : ByteArray := prog_1_method_38_code
def yX6_nestedLength : MethodName := ⟨RX6, "nestedLength", "(I)I"⟩
abbrev cX6_nestedByTrying : ByteArray := prog_1_method_39_code
def yX6_nestedByTrying : MethodName := ⟨RX6, "nestedByTrying", "(I)I"⟩
abbrev cX6_lengthOrThrow : ByteArray := prog_1_method_40_code
def yX6_lengthOrThrow : MethodName := ⟨RX6, "lengthOrThrow", "(I)I"⟩
abbrev cX6_wantPieces : ByteArray := prog_1_method_41_code
def yX6_wantPieces : MethodName := ⟨RX6, "wantPieces", "(LCuttingRoom$Style;)I"⟩
abbrev cX6_plainToNest : ByteArray := prog_1_method_42_code
def yX6_plainToNest : MethodName := ⟨RX6, "plainToNest", "(LCuttingRoom$Style;I)I"⟩
abbrev cX6_mirroredToNest : ByteArray := prog_1_method_43_code
def yX6_mirroredToNest : MethodName := ⟨RX6, "mirroredToNest", "(LCuttingRoom$Style;I)I"⟩
abbrev cX6_shortest : ByteArray := prog_1_method_44_code
def yX6_shortest : MethodName := ⟨RX6, "shortest", "(II)I"⟩
abbrev cX6_shortestWith : ByteArray := prog_1_method_45_code
def yX6_shortestWith : MethodName := ⟨RX6, "shortestWith", "(III)I"⟩
abbrev cX6_lengthInOrder : ByteArray := prog_1_method_46_code
def yX6_lengthInOrder : MethodName := ⟨RX6, "lengthInOrder", "(II)I"⟩
abbrev cX6_fillQueue : ByteArray := prog_1_method_47_code
def yX6_fillQueue : MethodName := ⟨RX6, "fillQueue", "()V"⟩
abbrev cX6_nestInTrial : ByteArray := prog_1_method_48_code
def yX6_nestInTrial : MethodName := ⟨RX6, "nestInTrial", "(I)I"⟩
abbrev cX6_kindOf : ByteArray := prog_1_method_49_code
def yX6_kindOf : MethodName := ⟨RX6, "kindOf", "(IZ)I"⟩
abbrev cX6_addCloth : ByteArray := prog_1_method_50_code
def yX6_addCloth : MethodName := ⟨RX6, "addCloth", "(I)I"⟩
abbrev cX6_roll : ByteArray := prog_1_method_51_code
def yX6_roll : MethodName := ⟨RX6, "roll", "()I"⟩
abbrev cX6_spread : ByteArray := prog_1_method_52_code
def yX6_spread : MethodName := ⟨RX6, "spread", "(I)I"⟩
abbrev cX6_stockHolds : ByteArray := prog_1_method_53_code
def yX6_stockHolds : MethodName := ⟨RX6, "stockHolds", "(I)Z"⟩
abbrev cX6_cutPlies : ByteArray := prog_1_method_54_code
def yX6_cutPlies : MethodName := ⟨RX6, "cutPlies", "(LCuttingRoom$Shape;I)V"⟩
abbrev cX6_perPly : ByteArray := prog_1_method_55_code
def yX6_perPly : MethodName := ⟨RX6, "perPly", "(LCuttingRoom$Shape;Z)I"⟩
abbrev cX6_pieces : ByteArray := prog_1_method_56_code
def yX6_pieces : MethodName := ⟨RX6, "pieces", "(IZ)I"⟩
abbrev cX6_cut : ByteArray := prog_1_method_57_code
def yX6_cut : MethodName := ⟨RX6, "cut", "()J"⟩
abbrev cX6_canMake : ByteArray := prog_1_method_58_code
def yX6_canMake : MethodName := ⟨RX6, "canMake", "(I)I"⟩
abbrev cX6_garmentsInStock : ByteArray := prog_1_method_59_code
def yX6_garmentsInStock : MethodName := ⟨RX6, "garmentsInStock", "(LCuttingRoom$Style;)I"⟩
abbrev cX6_canMakeByTaking : ByteArray := prog_1_method_60_code
def yX6_canMakeByTaking : MethodName := ⟨RX6, "canMakeByTaking", "(I)I"⟩
abbrev cX6_takesGarment : ByteArray := prog_1_method_61_code
def yX6_takesGarment : MethodName := ⟨RX6, "takesGarment", "(LCuttingRoom$Style;)Z"⟩
abbrev cX6_takesPart : ByteArray := prog_1_method_62_code
def yX6_takesPart : MethodName := ⟨RX6, "takesPart", "(IZI)Z"⟩
abbrev cX6_takesKind : ByteArray := prog_1_method_63_code
def yX6_takesKind : MethodName := ⟨RX6, "takesKind", "(II)Z"⟩
abbrev cX6_make : ByteArray := prog_1_method_64_code
def yX6_make : MethodName := ⟨RX6, "make", "(II)I"⟩
abbrev cX6_checkGarments : ByteArray := prog_1_method_65_code
def yX6_checkGarments : MethodName := ⟨RX6, "checkGarments", "(I)V"⟩
abbrev cX6_made : ByteArray := prog_1_method_66_code
def yX6_made : MethodName := ⟨RX6, "made", "(I)I"⟩
abbrev cX6_pliesFor : ByteArray := prog_1_method_67_code
def yX6_pliesFor : MethodName := ⟨RX6, "pliesFor", "(II)I"⟩
abbrev cX6_pliesForPart : ByteArray := prog_1_method_68_code
def yX6_pliesForPart : MethodName := ⟨RX6, "pliesForPart", "(LCuttingRoom$Shape;I)I"⟩
abbrev cX6_pliesForSort : ByteArray := prog_1_method_69_code
def yX6_pliesForSort : MethodName := ⟨RX6, "pliesForSort", "(II)I"⟩
abbrev cX6_density : ByteArray := prog_1_method_70_code
def yX6_density : MethodName := ⟨RX6, "density", "()F"⟩
abbrev cX6_meanCells : ByteArray := prog_1_method_71_code
def yX6_meanCells : MethodName := ⟨RX6, "meanCells", "()D"⟩
abbrev cX6_isSound : ByteArray := prog_1_method_72_code
def yX6_isSound : MethodName := ⟨RX6, "isSound", "()Z"⟩
abbrev cX6_inGarments : ByteArray := prog_1_method_73_code
def yX6_inGarments : MethodName := ⟨RX6, "inGarments", "(I)J"⟩
abbrev cX6_isWithin : ByteArray := prog_1_method_74_code
def yX6_isWithin : MethodName := ⟨RX6, "isWithin", "(III)Z"⟩
abbrev cX6_entry : ByteArray := prog_1_method_75_code
def yX6_entry : MethodName := ⟨RX6, "entry", "([II)I"⟩
abbrev cX6_store : ByteArray := prog_1_method_76_code
def yX6_store : MethodName := ⟨RX6, "store", "([III)V"⟩
abbrev cX6_hasBit : ByteArray := prog_1_method_77_code
def yX6_hasBit : MethodName := ⟨RX6, "hasBit", "(II)Z"⟩
abbrev cX6_firstBit : ByteArray := prog_1_method_78_code
def yX6_firstBit : MethodName := ⟨RX6, "firstBit", "(I)I"⟩
abbrev cX6_endOfBits : ByteArray := prog_1_method_79_code
def yX6_endOfBits : MethodName := ⟨RX6, "endOfBits", "(I)I"⟩
def RX7 : String := "CuttingRoomModel"
def TX7 : u_T := fun k => match k with
  | 0 => ("CuttingRoomModel", "thrown", "I", false)
  | 1 => ("CuttingRoomModel", "width", "I", false)
  | 2 => ("CuttingRoomModel", "nap", "Z", false)
  | 3 => ("CuttingRoomModel", "folded", "Z", false)
  | 4 => ("CuttingRoomModel", "stripes", "I", false)
  | 5 => ("CuttingRoomModel", "flaws", "I", false)
  | 6 => ("CuttingRoomModel", "flaw", "[Z", true)
  | 7 => ("CuttingRoomModel", "shapes", "I", false)
  | 8 => ("CuttingRoomModel", "rule", "[C", true)
  | 9 => ("CuttingRoomModel", "paired", "[Z", true)
  | 10 => ("CuttingRoomModel", "drawn", "[Z", true)
  | 11 => ("CuttingRoomModel", "size", "[I", true)
  | 12 => ("CuttingRoomModel", "group", "[I", true)
  | 13 => ("CuttingRoomModel", "markRow", "[I", true)
  | 14 => ("CuttingRoomModel", "markColumn", "[I", true)
  | 15 => ("CuttingRoomModel", "everCut", "[Z", true)
  | 16 => ("CuttingRoomModel", "stock", "[I", true)
  | 17 => ("CuttingRoomModel", "many", "I", false)
  | 18 => ("CuttingRoomModel", "next", "I", false)
  | 19 => ("CuttingRoomModel", "number", "[I", true)
  | 20 => ("CuttingRoomModel", "shapeOf", "[I", true)
  | 21 => ("CuttingRoomModel", "rowAt", "[I", true)
  | 22 => ("CuttingRoomModel", "columnAt", "[I", true)
  | 23 => ("CuttingRoomModel", "turned", "[I", true)
  | 24 => ("CuttingRoomModel", "mirrored", "[Z", true)
  | 25 => ("CuttingRoomModel", "cloth", "[I", true)
  | 26 => ("CuttingRoomModel", "phase", "[I", true)
  | 27 => ("CuttingRoomModel", "ofGroup", "[I", true)
  | 28 => ("CuttingRoomModel", "styles", "I", false)
  | 29 => ("CuttingRoomModel", "count", "[I", true)
  | 30 => ("CuttingRoomModel", "made", "[I", true)
  | 31 => ("CuttingRoomModel", "roll", "I", false)
  | 32 => ("CuttingRoomModel", "cutAll", "J", false)
  | 33 => ("CuttingRoomModel", "cellMany", "I", false)
  | 34 => ("CuttingRoomModel", "cellRow", "[I", true)
  | 35 => ("CuttingRoomModel", "cellColumn", "[I", true)
  | 36 => ("CuttingRoomModel", "markBehind", "I", false)
  | 37 => ("CuttingRoomModel", "nestRow", "I", false)
  | 38 => ("CuttingRoomModel", "nestColumn", "I", false)
  | 39 => ("CuttingRoomModel", "nestTurns", "I", false)
  | 40 => ("CuttingRoomModel", "queue", "[I", true)
  | 41 => ("CuttingRoomModel", "queued", "I", false)
  | 42 => ("CuttingRoomModel", "keptNumber", "[I", true)
  | 43 => ("CuttingRoomModel", "keptShape", "[I", true)
  | 44 => ("CuttingRoomModel", "keptRow", "[I", true)
  | 45 => ("CuttingRoomModel", "keptColumn", "[I", true)
  | 46 => ("CuttingRoomModel", "keptTurns", "[I", true)
  | 47 => ("CuttingRoomModel", "keptMirror", "[Z", true)
  | _ => ("CuttingRoomModel", "least", "I", false)
def tyX7 : Nat → FieldType := fun k => match k with
  | 0 => .int
  | 1 => .int
  | 2 => .boolean
  | 3 => .boolean
  | 4 => .int
  | 5 => .int
  | 6 => .array .boolean
  | 7 => .int
  | 8 => .array .char
  | 9 => .array .boolean
  | 10 => .array .boolean
  | 11 => .array .int
  | 12 => .array .int
  | 13 => .array .int
  | 14 => .array .int
  | 15 => .array .boolean
  | 16 => .array .int
  | 17 => .int
  | 18 => .int
  | 19 => .array .int
  | 20 => .array .int
  | 21 => .array .int
  | 22 => .array .int
  | 23 => .array .int
  | 24 => .array .boolean
  | 25 => .array .int
  | 26 => .array .int
  | 27 => .array .int
  | 28 => .int
  | 29 => .array .int
  | 30 => .array .int
  | 31 => .int
  | 32 => .long
  | 33 => .int
  | 34 => .array .int
  | 35 => .array .int
  | 36 => .int
  | 37 => .int
  | 38 => .int
  | 39 => .int
  | 40 => .array .int
  | 41 => .int
  | 42 => .array .int
  | 43 => .array .int
  | 44 => .array .int
  | 45 => .array .int
  | 46 => .array .int
  | 47 => .array .boolean
  | _ => .int
theorem nmX7 : ∀ a, a < 49 → ∀ b, b < 49 → a ≠ b → (TX7 a).2.1 ≠ (TX7 b).2.1 := by decide +kernel
theorem tyX7_ok : ∀ k, k < 49 → parseFieldDescriptor (TX7 k).2.2.1 = some (tyX7 k) := by decide +kernel
abbrev cX7_init : ByteArray := prog_9_method_1_code
def yX7_init : MethodName := ⟨RX7, "<init>", "()V"⟩
abbrev cX7_thrown : ByteArray := prog_9_method_2_code
def yX7_thrown : MethodName := ⟨RX7, "thrown", "()I"⟩
abbrev cX7_fails : ByteArray := prog_9_method_3_code
def yX7_fails : MethodName := ⟨RX7, "fails", "(I)Z"⟩
abbrev cX7_in : ByteArray := prog_9_method_4_code
def yX7_in : MethodName := ⟨RX7, "in", "(III)Z"⟩
abbrev cX7_empties : ByteArray := prog_9_method_5_code
def yX7_empties : MethodName := ⟨RX7, "empties", "()V"⟩
abbrev cX7_columns : ByteArray := prog_9_method_6_code
def yX7_columns : MethodName := ⟨RX7, "columns", "()I"⟩
abbrev cX7_isBad : ByteArray := prog_9_method_7_code
def yX7_isBad : MethodName := ⟨RX7, "isBad", "(II)Z"⟩
abbrev cX7_setCloth : ByteArray := prog_9_method_8_code
def yX7_setCloth : MethodName := ⟨RX7, "setCloth", "(IZI)I"⟩
abbrev cX7_fold : ByteArray := prog_9_method_9_code
def yX7_fold : MethodName := ⟨RX7, "fold", "(Z)Z"⟩
abbrev cX7_isUnderPiece : ByteArray := prog_9_method_10_code
def yX7_isUnderPiece : MethodName := ⟨RX7, "isUnderPiece", "(II)Z"⟩
abbrev cX7_addFlaw : ByteArray := prog_9_method_11_code
def yX7_addFlaw : MethodName := ⟨RX7, "addFlaw", "(II)I"⟩
abbrev cX7_clearFlaws : ByteArray := prog_9_method_12_code
def yX7_clearFlaws : MethodName := ⟨RX7, "clearFlaws", "()I"⟩
abbrev cX7_isShape : ByteArray := prog_9_method_13_code
def yX7_isShape : MethodName := ⟨RX7, "isShape", "(I)Z"⟩
abbrev cX7_addShape : ByteArray := prog_9_method_14_code
def yX7_addShape : MethodName := ⟨RX7, "addShape", "(CZ)I"⟩
abbrev cX7_isLaid : ByteArray := prog_9_method_15_code
def yX7_isLaid : MethodName := ⟨RX7, "isLaid", "(I)Z"⟩
abbrev cX7_addCell : ByteArray := prog_9_method_16_code
def yX7_addCell : MethodName := ⟨RX7, "addCell", "(III)I"⟩
abbrev cX7_setMark : ByteArray := prog_9_method_17_code
def yX7_setMark : MethodName := ⟨RX7, "setMark", "(IIII)I"⟩
abbrev cX7_cellsOf : ByteArray := prog_9_method_18_code
def yX7_cellsOf : MethodName := ⟨RX7, "cellsOf", "(I)I"⟩
abbrev cX7_turnedRow : ByteArray := prog_9_method_19_code
def yX7_turnedRow : MethodName := ⟨RX7, "turnedRow", "(III)I"⟩
abbrev cX7_turnedColumn : ByteArray := prog_9_method_20_code
def yX7_turnedColumn : MethodName := ⟨RX7, "turnedColumn", "(III)I"⟩
abbrev cX7_turns : ByteArray := prog_9_method_21_code
def yX7_turns : MethodName := ⟨RX7, "turns", "(IIZ)V"⟩
abbrev cX7_mayTurn : ByteArray := prog_9_method_22_code
def yX7_mayTurn : MethodName := ⟨RX7, "mayTurn", "(II)Z"⟩
abbrev cX7_isMarked : ByteArray := prog_9_method_23_code
def yX7_isMarked : MethodName := ⟨RX7, "isMarked", "(I)Z"⟩
abbrev cX7_remainder : ByteArray := prog_9_method_24_code
def yX7_remainder : MethodName := ⟨RX7, "remainder", "(I)I"⟩
abbrev cX7_worst : ByteArray := prog_9_method_25_code
def yX7_worst : MethodName := ⟨RX7, "worst", "(II)I"⟩
abbrev cX7_reasonFor : ByteArray := prog_9_method_26_code
def yX7_reasonFor : MethodName := ⟨RX7, "reasonFor", "(IIIIZ)C"⟩
abbrev cX7_puts : ByteArray := prog_9_method_27_code
def yX7_puts : MethodName := ⟨RX7, "puts", "(IIIIZ)I"⟩
abbrev cX7_takes : ByteArray := prog_9_method_28_code
def yX7_takes : MethodName := ⟨RX7, "takes", "(I)V"⟩
abbrev cX7_lay : ByteArray := prog_9_method_29_code
def yX7_lay : MethodName := ⟨RX7, "lay", "(IIIIZ)I"⟩
abbrev cX7_reason : ByteArray := prog_9_method_30_code
def yX7_reason : MethodName := ⟨RX7, "reason", "(IIIIZ)C"⟩
abbrev cX7_isNested : ByteArray := prog_9_method_31_code
def yX7_isNested : MethodName := ⟨RX7, "isNested", "(IZ)Z"⟩
abbrev cX7_nest : ByteArray := prog_9_method_32_code
def yX7_nest : MethodName := ⟨RX7, "nest", "(IZ)I"⟩
abbrev cX7_placeOf : ByteArray := prog_9_method_33_code
def yX7_placeOf : MethodName := ⟨RX7, "placeOf", "(I)I"⟩
abbrev cX7_longest : ByteArray := prog_9_method_34_code
def yX7_longest : MethodName := ⟨RX7, "longest", "()I"⟩
abbrev cX7_takeOff : ByteArray := prog_9_method_35_code
def yX7_takeOff : MethodName := ⟨RX7, "takeOff", "(I)I"⟩
abbrev cX7_clear : ByteArray := prog_9_method_36_code
def yX7_clear : MethodName := ⟨RX7, "clear", "()I"⟩
abbrev cX7_inMarker : ByteArray := prog_9_method_37_code
def yX7_inMarker : MethodName := ⟨RX7, "inMarker", "()I"⟩
abbrev cX7_rowOf : ByteArray := prog_9_method_38_code
def yX7_rowOf : MethodName := ⟨RX7, "rowOf", "(I)I"⟩
abbrev cX7_columnOf : ByteArray := prog_9_method_39_code
def yX7_columnOf : MethodName := ⟨RX7, "columnOf", "(I)I"⟩
abbrev cX7_turnsOf : ByteArray := prog_9_method_40_code
def yX7_turnsOf : MethodName := ⟨RX7, "turnsOf", "(I)I"⟩
abbrev cX7_pieceAt : ByteArray := prog_9_method_41_code
def yX7_pieceAt : MethodName := ⟨RX7, "pieceAt", "(II)I"⟩
abbrev cX7_pieceByPieces : ByteArray := prog_9_method_42_code
def yX7_pieceByPieces : MethodName := ⟨RX7, "pieceByPieces", "(II)I"⟩
abbrev cX7_length : ByteArray := prog_9_method_43_code
def yX7_length : MethodName := ⟨RX7, "length", "()I"⟩
abbrev cX7_cellsUsed : ByteArray := prog_9_method_44_code
def yX7_cellsUsed : MethodName := ⟨RX7, "cellsUsed", "()I"⟩
abbrev cX7_used : ByteArray := prog_9_method_45_code
def yX7_used : MethodName := ⟨RX7, "used", "()I"⟩
abbrev cX7_phase : ByteArray := prog_9_method_46_code
def yX7_phase : MethodName := ⟨RX7, "phase", "(I)I"⟩
abbrev cX7_isStyle : ByteArray := prog_9_method_47_code
def yX7_isStyle : MethodName := ⟨RX7, "isStyle", "(I)Z"⟩
abbrev cX7_addStyle : ByteArray := prog_9_method_48_code
def yX7_addStyle : MethodName := ⟨RX7, "addStyle", "()I"⟩
abbrev cX7_takenBy : ByteArray := prog_9_method_49_code
def yX7_takenBy : MethodName := ⟨RX7, "takenBy", "(I)I"⟩
abbrev cX7_addPart : ByteArray := prog_9_method_50_code
def yX7_addPart : MethodName := ⟨RX7, "addPart", "(III)I"⟩
abbrev cX7_piecesFor : ByteArray := prog_9_method_51_code
def yX7_piecesFor : MethodName := ⟨RX7, "piecesFor", "(I)I"⟩
abbrev cX7_queues : ByteArray := prog_9_method_52_code
def yX7_queues : MethodName := ⟨RX7, "queues", "(I)Z"⟩
abbrev cX7_tries : ByteArray := prog_9_method_53_code
def yX7_tries : MethodName := ⟨RX7, "tries", "(I)V"⟩
abbrev cX7_leastLength : ByteArray := prog_9_method_54_code
def yX7_leastLength : MethodName := ⟨RX7, "leastLength", "()I"⟩
abbrev cX7_nestedLength : ByteArray := prog_9_method_55_code
def yX7_nestedLength : MethodName := ⟨RX7, "nestedLength", "(I)I"⟩
abbrev cX7_nestedByTrying : ByteArray := prog_9_method_56_code
def yX7_nestedByTrying : MethodName := ⟨RX7, "nestedByTrying", "(I)I"⟩
abbrev cX7_addCloth : ByteArray := prog_9_method_57_code
def yX7_addCloth : MethodName := ⟨RX7, "addCloth", "(I)I"⟩
abbrev cX7_roll : ByteArray := prog_9_method_58_code
def yX7_roll : MethodName := ⟨RX7, "roll", "()I"⟩
abbrev cX7_givenBy : ByteArray := prog_9_method_59_code
def yX7_givenBy : MethodName := ⟨RX7, "givenBy", "(IZ)I"⟩
abbrev cX7_isMuch : ByteArray := prog_9_method_60_code
def yX7_isMuch : MethodName := ⟨RX7, "isMuch", "(I)Z"⟩
abbrev cX7_takenFromRoll : ByteArray := prog_9_method_61_code
def yX7_takenFromRoll : MethodName := ⟨RX7, "takenFromRoll", "(I)I"⟩
abbrev cX7_spread : ByteArray := prog_9_method_62_code
def yX7_spread : MethodName := ⟨RX7, "spread", "(I)I"⟩
abbrev cX7_pieces : ByteArray := prog_9_method_63_code
def yX7_pieces : MethodName := ⟨RX7, "pieces", "(IZ)I"⟩
abbrev cX7_makes : ByteArray := prog_9_method_64_code
def yX7_makes : MethodName := ⟨RX7, "makes", "(II)I"⟩
abbrev cX7_canMake : ByteArray := prog_9_method_65_code
def yX7_canMake : MethodName := ⟨RX7, "canMake", "(I)I"⟩
abbrev cX7_canMakeByTaking : ByteArray := prog_9_method_66_code
def yX7_canMakeByTaking : MethodName := ⟨RX7, "canMakeByTaking", "(I)I"⟩
abbrev cX7_make : ByteArray := prog_9_method_67_code
def yX7_make : MethodName := ⟨RX7, "make", "(II)I"⟩
abbrev cX7_made : ByteArray := prog_9_method_68_code
def yX7_made : MethodName := ⟨RX7, "made", "(I)I"⟩
abbrev cX7_pliesFor : ByteArray := prog_9_method_69_code
def yX7_pliesFor : MethodName := ⟨RX7, "pliesFor", "(II)I"⟩
abbrev cX7_cut : ByteArray := prog_9_method_70_code
def yX7_cut : MethodName := ⟨RX7, "cut", "()J"⟩
abbrev cX7_density : ByteArray := prog_9_method_71_code
def yX7_density : MethodName := ⟨RX7, "density", "()F"⟩
abbrev cX7_meanCells : ByteArray := prog_9_method_72_code
def yX7_meanCells : MethodName := ⟨RX7, "meanCells", "()D"⟩
abbrev cX7_isSound : ByteArray := prog_9_method_73_code
def yX7_isSound : MethodName := ⟨RX7, "isSound", "()Z"⟩
def RJ9 : String := "java/lang/Math"
abbrev cJ9_floorMod_7cf53 : ByteArray := prog_17_method_50_code
def yJ9_floorMod_7cf53 : MethodName := ⟨RJ9, "floorMod", "(II)I"⟩
abbrev cJ9_max_7cf53 : ByteArray := prog_17_method_65_code
def yJ9_max_7cf53 : MethodName := ⟨RJ9, "max", "(II)I"⟩
abbrev cJ9_min_7cf53 : ByteArray := prog_17_method_69_code
def yJ9_min_7cf53 : MethodName := ⟨RJ9, "min", "(II)I"⟩
def RJ7 : String := "java/util/Arrays"
abbrev cJ7_fill_53178 : ByteArray := prog_22_method_103_code
def yJ7_fill_53178 : MethodName := ⟨RJ7, "fill", "([II)V"⟩
def RL : String := "CuttingRoomLaw"
abbrev cL_setCloth : ByteArray := method_3_code
def yL_setCloth : MethodName := ⟨RL, "setCloth", "(LCuttingRoom;IZI[J)I"⟩
abbrev cL_fold : ByteArray := method_4_code
def yL_fold : MethodName := ⟨RL, "fold", "(LCuttingRoom;Z[J)I"⟩
abbrev cL_addFlaw : ByteArray := method_5_code
def yL_addFlaw : MethodName := ⟨RL, "addFlaw", "(LCuttingRoom;II[J)I"⟩
abbrev cL_addShape : ByteArray := method_6_code
def yL_addShape : MethodName := ⟨RL, "addShape", "(LCuttingRoom;CZ[J)I"⟩
abbrev cL_addCell : ByteArray := method_7_code
def yL_addCell : MethodName := ⟨RL, "addCell", "(LCuttingRoom;III[J)I"⟩
abbrev cL_setMark : ByteArray := method_8_code
def yL_setMark : MethodName := ⟨RL, "setMark", "(LCuttingRoom;IIII[J)I"⟩
abbrev cL_cellsOf : ByteArray := method_9_code
def yL_cellsOf : MethodName := ⟨RL, "cellsOf", "(LCuttingRoom;I[J)I"⟩
abbrev cL_lay : ByteArray := method_10_code
def yL_lay : MethodName := ⟨RL, "lay", "(LCuttingRoom;IIIIZ[J)I"⟩
abbrev cL_reason : ByteArray := method_11_code
def yL_reason : MethodName := ⟨RL, "reason", "(LCuttingRoom;IIIIZ[J)I"⟩
abbrev cL_nest : ByteArray := method_12_code
def yL_nest : MethodName := ⟨RL, "nest", "(LCuttingRoom;IZ[J)I"⟩
abbrev cL_takeOff : ByteArray := method_13_code
def yL_takeOff : MethodName := ⟨RL, "takeOff", "(LCuttingRoom;I[J)I"⟩
abbrev cL_rowOf : ByteArray := method_14_code
def yL_rowOf : MethodName := ⟨RL, "rowOf", "(LCuttingRoom;I[J)I"⟩
abbrev cL_columnOf : ByteArray := method_15_code
def yL_columnOf : MethodName := ⟨RL, "columnOf", "(LCuttingRoom;I[J)I"⟩
abbrev cL_turnsOf : ByteArray := method_16_code
def yL_turnsOf : MethodName := ⟨RL, "turnsOf", "(LCuttingRoom;I[J)I"⟩
abbrev cL_pieceAt : ByteArray := method_17_code
def yL_pieceAt : MethodName := ⟨RL, "pieceAt", "(LCuttingRoom;II[J)I"⟩
abbrev cL_pieceByPieces : ByteArray := method_18_code
def yL_pieceByPieces : MethodName := ⟨RL, "pieceByPieces", "(LCuttingRoom;II[J)I"⟩
abbrev cL_phase : ByteArray := method_19_code
def yL_phase : MethodName := ⟨RL, "phase", "(LCuttingRoom;I[J)I"⟩
abbrev cL_addStyle : ByteArray := method_20_code
def yL_addStyle : MethodName := ⟨RL, "addStyle", "(LCuttingRoom;[J)I"⟩
abbrev cL_addPart : ByteArray := method_21_code
def yL_addPart : MethodName := ⟨RL, "addPart", "(LCuttingRoom;III[J)I"⟩
abbrev cL_piecesFor : ByteArray := method_22_code
def yL_piecesFor : MethodName := ⟨RL, "piecesFor", "(LCuttingRoom;I[J)I"⟩
abbrev cL_nestedLength : ByteArray := method_23_code
def yL_nestedLength : MethodName := ⟨RL, "nestedLength", "(LCuttingRoom;I[J)I"⟩
abbrev cL_nestedByTrying : ByteArray := method_24_code
def yL_nestedByTrying : MethodName := ⟨RL, "nestedByTrying", "(LCuttingRoom;I[J)I"⟩
abbrev cL_addCloth : ByteArray := method_25_code
def yL_addCloth : MethodName := ⟨RL, "addCloth", "(LCuttingRoom;I[J)I"⟩
abbrev cL_spread : ByteArray := method_26_code
def yL_spread : MethodName := ⟨RL, "spread", "(LCuttingRoom;I[J)I"⟩
abbrev cL_pieces : ByteArray := method_27_code
def yL_pieces : MethodName := ⟨RL, "pieces", "(LCuttingRoom;IZ[J)I"⟩
abbrev cL_canMake : ByteArray := method_28_code
def yL_canMake : MethodName := ⟨RL, "canMake", "(LCuttingRoom;I[J)I"⟩
abbrev cL_canMakeByTaking : ByteArray := method_29_code
def yL_canMakeByTaking : MethodName := ⟨RL, "canMakeByTaking", "(LCuttingRoom;I[J)I"⟩
abbrev cL_make : ByteArray := method_30_code
def yL_make : MethodName := ⟨RL, "make", "(LCuttingRoom;II[J)I"⟩
abbrev cL_made : ByteArray := method_31_code
def yL_made : MethodName := ⟨RL, "made", "(LCuttingRoom;I[J)I"⟩
abbrev cL_pliesFor : ByteArray := method_32_code
def yL_pliesFor : MethodName := ⟨RL, "pliesFor", "(LCuttingRoom;II[J)I"⟩
abbrev cL_density : ByteArray := method_33_code
def yL_density : MethodName := ⟨RL, "density", "(LCuttingRoom;[D)I"⟩
abbrev cL_meanCells : ByteArray := method_34_code
def yL_meanCells : MethodName := ⟨RL, "meanCells", "(LCuttingRoom;[D)I"⟩
abbrev cL_law : ByteArray := code
def yL_law : MethodName := ⟨RL, "law", "([I)Z"⟩
end
section
def DI (cc : ByteArray) (pc : Nat) (i : Instr) (n pc' : Nat) : Prop := decode cc pc = .ok (i, n) ∧ pc + n = pc'
def DJ (cc : ByteArray) (pc : Nat) (i : Instr) (off : Int) (tgt pc' : Nat) : Prop := decode cc pc = .ok (i, 3) ∧ (pc : Int) + off = (tgt : Int) ∧ pc + 3 = pc'
theorem dJ7_fill_53178_0 : DI cJ7_fill_53178 0 (.iconst 0) 1 1 := ⟨by decide +kernel, rfl⟩
theorem dJ7_fill_53178_1 : DI cJ7_fill_53178 1 (.istore_n 2) 1 2 := ⟨by decide +kernel, rfl⟩
theorem dJ7_fill_53178_2 : DI cJ7_fill_53178 2 (.aload_n 0) 1 3 := ⟨by decide +kernel, rfl⟩
theorem dJ7_fill_53178_3 : DI cJ7_fill_53178 3 (.arraylength) 1 4 := ⟨by decide +kernel, rfl⟩
theorem dJ7_fill_53178_4 : DI cJ7_fill_53178 4 (.istore_n 3) 1 5 := ⟨by decide +kernel, rfl⟩
theorem dJ7_fill_53178_5 : DI cJ7_fill_53178 5 (.iload_n 2) 1 6 := ⟨by decide +kernel, rfl⟩
theorem dJ7_fill_53178_6 : DI cJ7_fill_53178 6 (.iload_n 3) 1 7 := ⟨by decide +kernel, rfl⟩
theorem dJ7_fill_53178_7 : DJ cJ7_fill_53178 7 (.if_icmp .ge 13) 13 20 10 := ⟨by decide +kernel, by decide, rfl⟩
theorem dJ7_fill_53178_10 : DI cJ7_fill_53178 10 (.aload_n 0) 1 11 := ⟨by decide +kernel, rfl⟩
theorem dJ7_fill_53178_11 : DI cJ7_fill_53178 11 (.iload_n 2) 1 12 := ⟨by decide +kernel, rfl⟩
theorem dJ7_fill_53178_12 : DI cJ7_fill_53178 12 (.iload_n 1) 1 13 := ⟨by decide +kernel, rfl⟩
theorem dJ7_fill_53178_13 : DI cJ7_fill_53178 13 (.iastore) 1 14 := ⟨by decide +kernel, rfl⟩
theorem dJ7_fill_53178_14 : DI cJ7_fill_53178 14 (.iinc 2 1) 3 17 := ⟨by decide +kernel, rfl⟩
theorem dJ7_fill_53178_17 : DJ cJ7_fill_53178 17 (.goto (-12)) (-12) 5 20 := ⟨by decide +kernel, by decide, rfl⟩
theorem dJ7_fill_53178_20 : DI cJ7_fill_53178 20 (.return_) 1 21 := ⟨by decide +kernel, rfl⟩
theorem dJ9_floorMod_7cf53_0 : DI cJ9_floorMod_7cf53 0 (.iload_n 0) 1 1 := ⟨by decide +kernel, rfl⟩
theorem dJ9_floorMod_7cf53_1 : DI cJ9_floorMod_7cf53 1 (.iload_n 1) 1 2 := ⟨by decide +kernel, rfl⟩
theorem dJ9_floorMod_7cf53_2 : DI cJ9_floorMod_7cf53 2 (.irem) 1 3 := ⟨by decide +kernel, rfl⟩
theorem dJ9_floorMod_7cf53_3 : DI cJ9_floorMod_7cf53 3 (.istore_n 2) 1 4 := ⟨by decide +kernel, rfl⟩
theorem dJ9_floorMod_7cf53_4 : DI cJ9_floorMod_7cf53 4 (.iload_n 0) 1 5 := ⟨by decide +kernel, rfl⟩
theorem dJ9_floorMod_7cf53_5 : DI cJ9_floorMod_7cf53 5 (.iload_n 1) 1 6 := ⟨by decide +kernel, rfl⟩
theorem dJ9_floorMod_7cf53_6 : DI cJ9_floorMod_7cf53 6 (.ixor) 1 7 := ⟨by decide +kernel, rfl⟩
theorem dJ9_floorMod_7cf53_7 : DJ cJ9_floorMod_7cf53 7 (.ifCond .ge 11) 11 18 10 := ⟨by decide +kernel, by decide, rfl⟩
theorem dJ9_floorMod_7cf53_10 : DI cJ9_floorMod_7cf53 10 (.iload_n 2) 1 11 := ⟨by decide +kernel, rfl⟩
theorem dJ9_floorMod_7cf53_11 : DJ cJ9_floorMod_7cf53 11 (.ifCond .eq 7) 7 18 14 := ⟨by decide +kernel, by decide, rfl⟩
theorem dJ9_floorMod_7cf53_14 : DI cJ9_floorMod_7cf53 14 (.iload_n 2) 1 15 := ⟨by decide +kernel, rfl⟩
theorem dJ9_floorMod_7cf53_15 : DI cJ9_floorMod_7cf53 15 (.iload_n 1) 1 16 := ⟨by decide +kernel, rfl⟩
theorem dJ9_floorMod_7cf53_16 : DI cJ9_floorMod_7cf53 16 (.iadd) 1 17 := ⟨by decide +kernel, rfl⟩
theorem dJ9_floorMod_7cf53_17 : DI cJ9_floorMod_7cf53 17 (.ireturn) 1 18 := ⟨by decide +kernel, rfl⟩
theorem dJ9_floorMod_7cf53_18 : DI cJ9_floorMod_7cf53 18 (.iload_n 2) 1 19 := ⟨by decide +kernel, rfl⟩
theorem dJ9_floorMod_7cf53_19 : DI cJ9_floorMod_7cf53 19 (.ireturn) 1 20 := ⟨by decide +kernel, rfl⟩
theorem dJ9_max_7cf53_0 : DI cJ9_max_7cf53 0 (.iload_n 0) 1 1 := ⟨by decide +kernel, rfl⟩
theorem dJ9_max_7cf53_1 : DI cJ9_max_7cf53 1 (.iload_n 1) 1 2 := ⟨by decide +kernel, rfl⟩
theorem dJ9_max_7cf53_2 : DJ cJ9_max_7cf53 2 (.if_icmp .lt 7) 7 9 5 := ⟨by decide +kernel, by decide, rfl⟩
theorem dJ9_max_7cf53_5 : DI cJ9_max_7cf53 5 (.iload_n 0) 1 6 := ⟨by decide +kernel, rfl⟩
theorem dJ9_max_7cf53_6 : DJ cJ9_max_7cf53 6 (.goto 4) 4 10 9 := ⟨by decide +kernel, by decide, rfl⟩
theorem dJ9_max_7cf53_9 : DI cJ9_max_7cf53 9 (.iload_n 1) 1 10 := ⟨by decide +kernel, rfl⟩
theorem dJ9_max_7cf53_10 : DI cJ9_max_7cf53 10 (.ireturn) 1 11 := ⟨by decide +kernel, rfl⟩
theorem dJ9_min_7cf53_0 : DI cJ9_min_7cf53 0 (.iload_n 0) 1 1 := ⟨by decide +kernel, rfl⟩
theorem dJ9_min_7cf53_1 : DI cJ9_min_7cf53 1 (.iload_n 1) 1 2 := ⟨by decide +kernel, rfl⟩
theorem dJ9_min_7cf53_2 : DJ cJ9_min_7cf53 2 (.if_icmp .gt 7) 7 9 5 := ⟨by decide +kernel, by decide, rfl⟩
theorem dJ9_min_7cf53_5 : DI cJ9_min_7cf53 5 (.iload_n 0) 1 6 := ⟨by decide +kernel, rfl⟩
theorem dJ9_min_7cf53_6 : DJ cJ9_min_7cf53 6 (.goto 4) 4 10 9 := ⟨by decide +kernel, by decide, rfl⟩
theorem dJ9_min_7cf53_9 : DI cJ9_min_7cf53 9 (.iload_n 1) 1 10 := ⟨by decide +kernel, rfl⟩
theorem dJ9_min_7cf53_10 : DI cJ9_min_7cf53 10 (.ireturn) 1 11 := ⟨by decide +kernel, rfl⟩
theorem dX0_init_0 : DI cX0_init 0 (.aload_n 0) 1 1 := ⟨by decide +kernel, rfl⟩
theorem dX0_init_1 : DI cX0_init 1 (.invokespecial 3) 3 4 := ⟨by decide +kernel, rfl⟩
theorem dX0_init_4 : DI cX0_init 4 (.aload_n 0) 1 5 := ⟨by decide +kernel, rfl⟩
theorem dX0_init_5 : DI cX0_init 5 (.bipush 12) 2 7 := ⟨by decide +kernel, rfl⟩
theorem dX0_init_7 : DI cX0_init 7 (.putfield 9) 3 10 := ⟨by decide +kernel, rfl⟩
theorem dX0_init_10 : DI cX0_init 10 (.aload_n 0) 1 11 := ⟨by decide +kernel, rfl⟩
theorem dX0_init_11 : DI cX0_init 11 (.bipush 60) 2 13 := ⟨by decide +kernel, rfl⟩
theorem dX0_init_13 : DI cX0_init 13 (.newarray .int) 2 15 := ⟨by decide +kernel, rfl⟩
theorem dX0_init_15 : DI cX0_init 15 (.putfield 15) 3 18 := ⟨by decide +kernel, rfl⟩
theorem dX0_init_18 : DI cX0_init 18 (.aload_n 0) 1 19 := ⟨by decide +kernel, rfl⟩
theorem dX0_init_19 : DI cX0_init 19 (.bipush 60) 2 21 := ⟨by decide +kernel, rfl⟩
theorem dX0_init_21 : DI cX0_init 21 (.newarray .int) 2 23 := ⟨by decide +kernel, rfl⟩
theorem dX0_init_23 : DI cX0_init 23 (.putfield 19) 3 26 := ⟨by decide +kernel, rfl⟩
theorem dX0_init_26 : DI cX0_init 26 (.return_) 1 27 := ⟨by decide +kernel, rfl⟩
theorem dX0_openColumns_0 : DI cX0_openColumns 0 (.aload_n 0) 1 1 := ⟨by decide +kernel, rfl⟩
theorem dX0_openColumns_1 : DI cX0_openColumns 1 (.getfield 22) 3 4 := ⟨by decide +kernel, rfl⟩
theorem dX0_openColumns_4 : DJ cX0_openColumns 4 (.ifCond .eq 12) 12 16 7 := ⟨by decide +kernel, by decide, rfl⟩
theorem dX0_openColumns_7 : DI cX0_openColumns 7 (.aload_n 0) 1 8 := ⟨by decide +kernel, rfl⟩
theorem dX0_openColumns_8 : DI cX0_openColumns 8 (.getfield 9) 3 11 := ⟨by decide +kernel, rfl⟩
theorem dX0_openColumns_11 : DI cX0_openColumns 11 (.iconst 2) 1 12 := ⟨by decide +kernel, rfl⟩
theorem dX0_openColumns_12 : DI cX0_openColumns 12 (.idiv) 1 13 := ⟨by decide +kernel, rfl⟩
theorem dX0_openColumns_13 : DJ cX0_openColumns 13 (.goto 7) 7 20 16 := ⟨by decide +kernel, by decide, rfl⟩
theorem dX0_openColumns_16 : DI cX0_openColumns 16 (.aload_n 0) 1 17 := ⟨by decide +kernel, rfl⟩
theorem dX0_openColumns_17 : DI cX0_openColumns 17 (.getfield 9) 3 20 := ⟨by decide +kernel, rfl⟩
theorem dX0_openColumns_20 : DI cX0_openColumns 20 (.ireturn) 1 21 := ⟨by decide +kernel, rfl⟩
theorem dX0_isStriped_0 : DI cX0_isStriped 0 (.aload_n 0) 1 1 := ⟨by decide +kernel, rfl⟩
theorem dX0_isStriped_1 : DI cX0_isStriped 1 (.getfield 26) 3 4 := ⟨by decide +kernel, rfl⟩
theorem dX0_isStriped_4 : DI cX0_isStriped 4 (.iconst 2) 1 5 := ⟨by decide +kernel, rfl⟩
theorem dX0_isStriped_5 : DJ cX0_isStriped 5 (.if_icmp .lt 7) 7 12 8 := ⟨by decide +kernel, by decide, rfl⟩
theorem dX0_isStriped_8 : DI cX0_isStriped 8 (.iconst 1) 1 9 := ⟨by decide +kernel, rfl⟩
theorem dX0_isStriped_9 : DJ cX0_isStriped 9 (.goto 4) 4 13 12 := ⟨by decide +kernel, by decide, rfl⟩
theorem dX0_isStriped_12 : DI cX0_isStriped 12 (.iconst 0) 1 13 := ⟨by decide +kernel, rfl⟩
theorem dX0_isStriped_13 : DI cX0_isStriped 13 (.ireturn) 1 14 := ⟨by decide +kernel, rfl⟩
theorem dX0_remainder_0 : DI cX0_remainder 0 (.aload_n 0) 1 1 := ⟨by decide +kernel, rfl⟩
theorem dX0_remainder_1 : DI cX0_remainder 1 (.getfield 26) 3 4 := ⟨by decide +kernel, rfl⟩
theorem dX0_remainder_4 : DI cX0_remainder 4 (.iconst 2) 1 5 := ⟨by decide +kernel, rfl⟩
theorem dX0_remainder_5 : DJ cX0_remainder 5 (.if_icmp .lt 14) 14 19 8 := ⟨by decide +kernel, by decide, rfl⟩
theorem dX0_remainder_8 : DI cX0_remainder 8 (.iload_n 1) 1 9 := ⟨by decide +kernel, rfl⟩
theorem dX0_remainder_9 : DI cX0_remainder 9 (.aload_n 0) 1 10 := ⟨by decide +kernel, rfl⟩
theorem dX0_remainder_10 : DI cX0_remainder 10 (.getfield 26) 3 13 := ⟨by decide +kernel, rfl⟩
theorem dX0_remainder_13 : DI cX0_remainder 13 (.invokestatic 29) 3 16 := ⟨by decide +kernel, rfl⟩
theorem dX0_remainder_16 : DJ cX0_remainder 16 (.goto 4) 4 20 19 := ⟨by decide +kernel, by decide, rfl⟩
theorem dX0_remainder_19 : DI cX0_remainder 19 (.iconst 0) 1 20 := ⟨by decide +kernel, rfl⟩
theorem dX0_remainder_20 : DI cX0_remainder 20 (.ireturn) 1 21 := ⟨by decide +kernel, rfl⟩
theorem dX0_opposite_0 : DI cX0_opposite 0 (.aload_n 0) 1 1 := ⟨by decide +kernel, rfl⟩
theorem dX0_opposite_1 : DI cX0_opposite 1 (.getfield 9) 3 4 := ⟨by decide +kernel, rfl⟩
theorem dX0_opposite_4 : DI cX0_opposite 4 (.iconst 1) 1 5 := ⟨by decide +kernel, rfl⟩
theorem dX0_opposite_5 : DI cX0_opposite 5 (.isub) 1 6 := ⟨by decide +kernel, rfl⟩
theorem dX0_opposite_6 : DI cX0_opposite 6 (.iload_n 1) 1 7 := ⟨by decide +kernel, rfl⟩
theorem dX0_opposite_7 : DI cX0_opposite 7 (.isub) 1 8 := ⟨by decide +kernel, rfl⟩
theorem dX0_opposite_8 : DI cX0_opposite 8 (.ireturn) 1 9 := ⟨by decide +kernel, rfl⟩
theorem dX0_foldOrOpen_0 : DI cX0_foldOrOpen 0 (.aload_n 0) 1 1 := ⟨by decide +kernel, rfl⟩
theorem dX0_foldOrOpen_1 : DI cX0_foldOrOpen 1 (.iload_n 1) 1 2 := ⟨by decide +kernel, rfl⟩
theorem dX0_foldOrOpen_2 : DI cX0_foldOrOpen 2 (.putfield 22) 3 5 := ⟨by decide +kernel, rfl⟩
theorem dX0_foldOrOpen_5 : DI cX0_foldOrOpen 5 (.aload_n 0) 1 6 := ⟨by decide +kernel, rfl⟩
theorem dX0_foldOrOpen_6 : DI cX0_foldOrOpen 6 (.invokevirtual 35) 3 9 := ⟨by decide +kernel, rfl⟩
theorem dX0_foldOrOpen_9 : DI cX0_foldOrOpen 9 (.return_) 1 10 := ⟨by decide +kernel, rfl⟩
theorem dX0_isTold_0 : DI cX0_isTold 0 (.aload_n 0) 1 1 := ⟨by decide +kernel, rfl⟩
theorem dX0_isTold_1 : DI cX0_isTold 1 (.getfield 15) 3 4 := ⟨by decide +kernel, rfl⟩
theorem dX0_isTold_4 : DI cX0_isTold 4 (.iload_n 1) 1 5 := ⟨by decide +kernel, rfl⟩
theorem dX0_isTold_5 : DI cX0_isTold 5 (.invokestatic 38) 3 8 := ⟨by decide +kernel, rfl⟩
theorem dX0_isTold_8 : DI cX0_isTold 8 (.iload_n 2) 1 9 := ⟨by decide +kernel, rfl⟩
theorem dX0_isTold_9 : DI cX0_isTold 9 (.invokestatic 42) 3 12 := ⟨by decide +kernel, rfl⟩
theorem dX0_isTold_12 : DI cX0_isTold 12 (.ireturn) 1 13 := ⟨by decide +kernel, rfl⟩
theorem dX0_tell_0 : DI cX0_tell 0 (.aload_n 0) 1 1 := ⟨by decide +kernel, rfl⟩
theorem dX0_tell_1 : DI cX0_tell 1 (.getfield 15) 3 4 := ⟨by decide +kernel, rfl⟩
theorem dX0_tell_4 : DI cX0_tell 4 (.iload_n 1) 1 5 := ⟨by decide +kernel, rfl⟩
theorem dX0_tell_5 : DI cX0_tell 5 (.aload_n 0) 1 6 := ⟨by decide +kernel, rfl⟩
theorem dX0_tell_6 : DI cX0_tell 6 (.getfield 15) 3 9 := ⟨by decide +kernel, rfl⟩
theorem dX0_tell_9 : DI cX0_tell 9 (.iload_n 1) 1 10 := ⟨by decide +kernel, rfl⟩
theorem dX0_tell_10 : DI cX0_tell 10 (.invokestatic 38) 3 13 := ⟨by decide +kernel, rfl⟩
theorem dX0_tell_13 : DI cX0_tell 13 (.iconst 1) 1 14 := ⟨by decide +kernel, rfl⟩
theorem dX0_tell_14 : DI cX0_tell 14 (.iload_n 2) 1 15 := ⟨by decide +kernel, rfl⟩
theorem dX0_tell_15 : DI cX0_tell 15 (.ishl) 1 16 := ⟨by decide +kernel, rfl⟩
theorem dX0_tell_16 : DI cX0_tell 16 (.ior) 1 17 := ⟨by decide +kernel, rfl⟩
theorem dX0_tell_17 : DI cX0_tell 17 (.invokestatic 46) 3 20 := ⟨by decide +kernel, rfl⟩
theorem dX0_tell_20 : DI cX0_tell 20 (.aload_n 0) 1 21 := ⟨by decide +kernel, rfl⟩
theorem dX0_tell_21 : DI cX0_tell 21 (.dup) 1 22 := ⟨by decide +kernel, rfl⟩
theorem dX0_tell_22 : DI cX0_tell 22 (.getfield 50) 3 25 := ⟨by decide +kernel, rfl⟩
theorem dX0_tell_25 : DI cX0_tell 25 (.iconst 1) 1 26 := ⟨by decide +kernel, rfl⟩
theorem dX0_tell_26 : DI cX0_tell 26 (.iadd) 1 27 := ⟨by decide +kernel, rfl⟩
theorem dX0_tell_27 : DI cX0_tell 27 (.putfield 50) 3 30 := ⟨by decide +kernel, rfl⟩
theorem dX0_tell_30 : DI cX0_tell 30 (.aload_n 0) 1 31 := ⟨by decide +kernel, rfl⟩
theorem dX0_tell_31 : DI cX0_tell 31 (.invokevirtual 35) 3 34 := ⟨by decide +kernel, rfl⟩
theorem dX0_tell_34 : DI cX0_tell 34 (.return_) 1 35 := ⟨by decide +kernel, rfl⟩
theorem dX0_forgetFlaws_0 : DI cX0_forgetFlaws 0 (.aload_n 0) 1 1 := ⟨by decide +kernel, rfl⟩
theorem dX0_forgetFlaws_1 : DI cX0_forgetFlaws 1 (.getfield 15) 3 4 := ⟨by decide +kernel, rfl⟩
theorem dX0_forgetFlaws_4 : DI cX0_forgetFlaws 4 (.iconst 0) 1 5 := ⟨by decide +kernel, rfl⟩
theorem dX0_forgetFlaws_5 : DI cX0_forgetFlaws 5 (.invokestatic 53) 3 8 := ⟨by decide +kernel, rfl⟩
theorem dX0_forgetFlaws_8 : DI cX0_forgetFlaws 8 (.aload_n 0) 1 9 := ⟨by decide +kernel, rfl⟩
theorem dX0_forgetFlaws_9 : DI cX0_forgetFlaws 9 (.iconst 0) 1 10 := ⟨by decide +kernel, rfl⟩
theorem dX0_forgetFlaws_10 : DI cX0_forgetFlaws 10 (.putfield 50) 3 13 := ⟨by decide +kernel, rfl⟩
theorem dX0_forgetFlaws_13 : DI cX0_forgetFlaws 13 (.aload_n 0) 1 14 := ⟨by decide +kernel, rfl⟩
theorem dX0_forgetFlaws_14 : DI cX0_forgetFlaws 14 (.invokevirtual 35) 3 17 := ⟨by decide +kernel, rfl⟩
theorem dX0_forgetFlaws_17 : DI cX0_forgetFlaws 17 (.return_) 1 18 := ⟨by decide +kernel, rfl⟩
theorem dX0_spoilRows_0 : DI cX0_spoilRows 0 (.iconst 0) 1 1 := ⟨by decide +kernel, rfl⟩
theorem dX0_spoilRows_1 : DI cX0_spoilRows 1 (.istore_n 1) 1 2 := ⟨by decide +kernel, rfl⟩
theorem dX0_spoilRows_2 : DI cX0_spoilRows 2 (.iload_n 1) 1 3 := ⟨by decide +kernel, rfl⟩
theorem dX0_spoilRows_3 : DI cX0_spoilRows 3 (.bipush 60) 2 5 := ⟨by decide +kernel, rfl⟩
theorem dX0_spoilRows_5 : DJ cX0_spoilRows 5 (.if_icmp .ge 44) 44 49 8 := ⟨by decide +kernel, by decide, rfl⟩
theorem dX0_spoilRows_8 : DI cX0_spoilRows 8 (.aload_n 0) 1 9 := ⟨by decide +kernel, rfl⟩
theorem dX0_spoilRows_9 : DI cX0_spoilRows 9 (.getfield 15) 3 12 := ⟨by decide +kernel, rfl⟩
theorem dX0_spoilRows_12 : DI cX0_spoilRows 12 (.iload_n 1) 1 13 := ⟨by decide +kernel, rfl⟩
theorem dX0_spoilRows_13 : DI cX0_spoilRows 13 (.invokestatic 38) 3 16 := ⟨by decide +kernel, rfl⟩
theorem dX0_spoilRows_16 : DI cX0_spoilRows 16 (.istore_n 2) 1 17 := ⟨by decide +kernel, rfl⟩
theorem dX0_spoilRows_17 : DI cX0_spoilRows 17 (.aload_n 0) 1 18 := ⟨by decide +kernel, rfl⟩
theorem dX0_spoilRows_18 : DI cX0_spoilRows 18 (.getfield 19) 3 21 := ⟨by decide +kernel, rfl⟩
theorem dX0_spoilRows_21 : DI cX0_spoilRows 21 (.iload_n 1) 1 22 := ⟨by decide +kernel, rfl⟩
theorem dX0_spoilRows_22 : DI cX0_spoilRows 22 (.aload_n 0) 1 23 := ⟨by decide +kernel, rfl⟩
theorem dX0_spoilRows_23 : DI cX0_spoilRows 23 (.getfield 22) 3 26 := ⟨by decide +kernel, rfl⟩
theorem dX0_spoilRows_26 : DJ cX0_spoilRows 26 (.ifCond .eq 13) 13 39 29 := ⟨by decide +kernel, by decide, rfl⟩
theorem dX0_spoilRows_29 : DI cX0_spoilRows 29 (.iload_n 2) 1 30 := ⟨by decide +kernel, rfl⟩
theorem dX0_spoilRows_30 : DI cX0_spoilRows 30 (.aload_n 0) 1 31 := ⟨by decide +kernel, rfl⟩
theorem dX0_spoilRows_31 : DI cX0_spoilRows 31 (.iload_n 2) 1 32 := ⟨by decide +kernel, rfl⟩
theorem dX0_spoilRows_32 : DI cX0_spoilRows 32 (.invokevirtual 59) 3 35 := ⟨by decide +kernel, rfl⟩
theorem dX0_spoilRows_35 : DI cX0_spoilRows 35 (.ior) 1 36 := ⟨by decide +kernel, rfl⟩
theorem dX0_spoilRows_36 : DJ cX0_spoilRows 36 (.goto 4) 4 40 39 := ⟨by decide +kernel, by decide, rfl⟩
theorem dX0_spoilRows_39 : DI cX0_spoilRows 39 (.iload_n 2) 1 40 := ⟨by decide +kernel, rfl⟩
theorem dX0_spoilRows_40 : DI cX0_spoilRows 40 (.invokestatic 46) 3 43 := ⟨by decide +kernel, rfl⟩
theorem dX0_spoilRows_43 : DI cX0_spoilRows 43 (.iinc 1 1) 3 46 := ⟨by decide +kernel, rfl⟩
theorem dX0_spoilRows_46 : DJ cX0_spoilRows 46 (.goto (-44)) (-44) 2 49 := ⟨by decide +kernel, by decide, rfl⟩
theorem dX0_spoilRows_49 : DI cX0_spoilRows 49 (.return_) 1 50 := ⟨by decide +kernel, rfl⟩
theorem dX0_reversed_0 : DI cX0_reversed 0 (.iconst 0) 1 1 := ⟨by decide +kernel, rfl⟩
theorem dX0_reversed_1 : DI cX0_reversed 1 (.istore_n 2) 1 2 := ⟨by decide +kernel, rfl⟩
theorem dX0_reversed_2 : DI cX0_reversed 2 (.iconst 0) 1 3 := ⟨by decide +kernel, rfl⟩
theorem dX0_reversed_3 : DI cX0_reversed 3 (.istore_n 3) 1 4 := ⟨by decide +kernel, rfl⟩
theorem dX0_reversed_4 : DI cX0_reversed 4 (.iload_n 3) 1 5 := ⟨by decide +kernel, rfl⟩
theorem dX0_reversed_5 : DI cX0_reversed 5 (.aload_n 0) 1 6 := ⟨by decide +kernel, rfl⟩
theorem dX0_reversed_6 : DI cX0_reversed 6 (.getfield 9) 3 9 := ⟨by decide +kernel, rfl⟩
theorem dX0_reversed_9 : DJ cX0_reversed 9 (.if_icmp .ge 27) 27 36 12 := ⟨by decide +kernel, by decide, rfl⟩
theorem dX0_reversed_12 : DI cX0_reversed 12 (.iload_n 1) 1 13 := ⟨by decide +kernel, rfl⟩
theorem dX0_reversed_13 : DI cX0_reversed 13 (.iload_n 3) 1 14 := ⟨by decide +kernel, rfl⟩
theorem dX0_reversed_14 : DI cX0_reversed 14 (.invokestatic 42) 3 17 := ⟨by decide +kernel, rfl⟩
theorem dX0_reversed_17 : DJ cX0_reversed 17 (.ifCond .eq 13) 13 30 20 := ⟨by decide +kernel, by decide, rfl⟩
theorem dX0_reversed_20 : DI cX0_reversed 20 (.iload_n 2) 1 21 := ⟨by decide +kernel, rfl⟩
theorem dX0_reversed_21 : DI cX0_reversed 21 (.iconst 1) 1 22 := ⟨by decide +kernel, rfl⟩
theorem dX0_reversed_22 : DI cX0_reversed 22 (.aload_n 0) 1 23 := ⟨by decide +kernel, rfl⟩
theorem dX0_reversed_23 : DI cX0_reversed 23 (.iload_n 3) 1 24 := ⟨by decide +kernel, rfl⟩
theorem dX0_reversed_24 : DI cX0_reversed 24 (.invokevirtual 63) 3 27 := ⟨by decide +kernel, rfl⟩
theorem dX0_reversed_27 : DI cX0_reversed 27 (.ishl) 1 28 := ⟨by decide +kernel, rfl⟩
theorem dX0_reversed_28 : DI cX0_reversed 28 (.ior) 1 29 := ⟨by decide +kernel, rfl⟩
theorem dX0_reversed_29 : DI cX0_reversed 29 (.istore_n 2) 1 30 := ⟨by decide +kernel, rfl⟩
theorem dX0_reversed_30 : DI cX0_reversed 30 (.iinc 3 1) 3 33 := ⟨by decide +kernel, rfl⟩
theorem dX0_reversed_33 : DJ cX0_reversed 33 (.goto (-29)) (-29) 4 36 := ⟨by decide +kernel, by decide, rfl⟩
theorem dX0_reversed_36 : DI cX0_reversed 36 (.iload_n 2) 1 37 := ⟨by decide +kernel, rfl⟩
theorem dX0_reversed_37 : DI cX0_reversed 37 (.ireturn) 1 38 := ⟨by decide +kernel, rfl⟩
theorem dX0_reaches_0 : DI cX0_reaches 0 (.iload_n 2) 1 1 := ⟨by decide +kernel, rfl⟩
theorem dX0_reaches_1 : DI cX0_reaches 1 (.iconst 0) 1 2 := ⟨by decide +kernel, rfl⟩
theorem dX0_reaches_2 : DI cX0_reaches 2 (.bipush 60) 2 4 := ⟨by decide +kernel, rfl⟩
theorem dX0_reaches_4 : DI cX0_reaches 4 (.aload_n 1) 1 5 := ⟨by decide +kernel, rfl⟩
theorem dX0_reaches_5 : DI cX0_reaches 5 (.getfield 66) 3 8 := ⟨by decide +kernel, rfl⟩
theorem dX0_reaches_8 : DI cX0_reaches 8 (.isub) 1 9 := ⟨by decide +kernel, rfl⟩
theorem dX0_reaches_9 : DI cX0_reaches 9 (.invokestatic 71) 3 12 := ⟨by decide +kernel, rfl⟩
theorem dX0_reaches_12 : DJ cX0_reaches 12 (.ifCond .eq 24) 24 36 15 := ⟨by decide +kernel, by decide, rfl⟩
theorem dX0_reaches_15 : DI cX0_reaches 15 (.iload_n 3) 1 16 := ⟨by decide +kernel, rfl⟩
theorem dX0_reaches_16 : DI cX0_reaches 16 (.iconst 0) 1 17 := ⟨by decide +kernel, rfl⟩
theorem dX0_reaches_17 : DI cX0_reaches 17 (.aload_n 0) 1 18 := ⟨by decide +kernel, rfl⟩
theorem dX0_reaches_18 : DI cX0_reaches 18 (.invokevirtual 75) 3 21 := ⟨by decide +kernel, rfl⟩
theorem dX0_reaches_21 : DI cX0_reaches 21 (.aload_n 1) 1 22 := ⟨by decide +kernel, rfl⟩
theorem dX0_reaches_22 : DI cX0_reaches 22 (.getfield 79) 3 25 := ⟨by decide +kernel, rfl⟩
theorem dX0_reaches_25 : DI cX0_reaches 25 (.isub) 1 26 := ⟨by decide +kernel, rfl⟩
theorem dX0_reaches_26 : DI cX0_reaches 26 (.invokestatic 71) 3 29 := ⟨by decide +kernel, rfl⟩
theorem dX0_reaches_29 : DJ cX0_reaches 29 (.ifCond .eq 7) 7 36 32 := ⟨by decide +kernel, by decide, rfl⟩
theorem dX0_reaches_32 : DI cX0_reaches 32 (.iconst 1) 1 33 := ⟨by decide +kernel, rfl⟩
theorem dX0_reaches_33 : DJ cX0_reaches 33 (.goto 4) 4 37 36 := ⟨by decide +kernel, by decide, rfl⟩
theorem dX0_reaches_36 : DI cX0_reaches 36 (.iconst 0) 1 37 := ⟨by decide +kernel, rfl⟩
theorem dX0_reaches_37 : DI cX0_reaches 37 (.ireturn) 1 38 := ⟨by decide +kernel, rfl⟩
theorem dX2_init_0 : DI cX2_init 0 (.aload_n 0) 1 1 := ⟨by decide +kernel, rfl⟩
theorem dX2_init_1 : DI cX2_init 1 (.invokespecial 3) 3 4 := ⟨by decide +kernel, rfl⟩
theorem dX2_init_4 : DI cX2_init 4 (.aload_n 0) 1 5 := ⟨by decide +kernel, rfl⟩
theorem dX2_init_5 : DI cX2_init 5 (.iload_n 1) 1 6 := ⟨by decide +kernel, rfl⟩
theorem dX2_init_6 : DI cX2_init 6 (.putfield 9) 3 9 := ⟨by decide +kernel, rfl⟩
theorem dX2_init_9 : DI cX2_init 9 (.aload_n 0) 1 10 := ⟨by decide +kernel, rfl⟩
theorem dX2_init_10 : DI cX2_init 10 (.iload_n 2) 1 11 := ⟨by decide +kernel, rfl⟩
theorem dX2_init_11 : DI cX2_init 11 (.putfield 15) 3 14 := ⟨by decide +kernel, rfl⟩
theorem dX2_init_14 : DI cX2_init 14 (.aload_n 0) 1 15 := ⟨by decide +kernel, rfl⟩
theorem dX2_init_15 : DI cX2_init 15 (.iconst 5) 1 16 := ⟨by decide +kernel, rfl⟩
theorem dX2_init_16 : DI cX2_init 16 (.newarray .int) 2 18 := ⟨by decide +kernel, rfl⟩
theorem dX2_init_18 : DI cX2_init 18 (.putfield 19) 3 21 := ⟨by decide +kernel, rfl⟩
theorem dX2_init_21 : DI cX2_init 21 (.return_) 1 22 := ⟨by decide +kernel, rfl⟩
theorem dX2_trace_0 : DI cX2_trace 0 (.aload_n 0) 1 1 := ⟨by decide +kernel, rfl⟩
theorem dX2_trace_1 : DI cX2_trace 1 (.getfield 19) 3 4 := ⟨by decide +kernel, rfl⟩
theorem dX2_trace_4 : DI cX2_trace 4 (.iconst 0) 1 5 := ⟨by decide +kernel, rfl⟩
theorem dX2_trace_5 : DI cX2_trace 5 (.invokestatic 23) 3 8 := ⟨by decide +kernel, rfl⟩
theorem dX2_trace_8 : DI cX2_trace 8 (.iconst 0) 1 9 := ⟨by decide +kernel, rfl⟩
theorem dX2_trace_9 : DI cX2_trace 9 (.istore 4) 2 11 := ⟨by decide +kernel, rfl⟩
theorem dX2_trace_11 : DI cX2_trace 11 (.iconst 0) 1 12 := ⟨by decide +kernel, rfl⟩
theorem dX2_trace_12 : DI cX2_trace 12 (.istore 5) 2 14 := ⟨by decide +kernel, rfl⟩
theorem dX2_trace_14 : DI cX2_trace 14 (.iconst 0) 1 15 := ⟨by decide +kernel, rfl⟩
theorem dX2_trace_15 : DI cX2_trace 15 (.istore 6) 2 17 := ⟨by decide +kernel, rfl⟩
theorem dX2_trace_17 : DI cX2_trace 17 (.iload 6) 2 19 := ⟨by decide +kernel, rfl⟩
theorem dX2_trace_19 : DI cX2_trace 19 (.iconst 5) 1 20 := ⟨by decide +kernel, rfl⟩
theorem dX2_trace_20 : DJ cX2_trace 20 (.if_icmp .ge 99) 99 119 23 := ⟨by decide +kernel, by decide, rfl⟩
theorem dX2_trace_23 : DI cX2_trace 23 (.iconst 0) 1 24 := ⟨by decide +kernel, rfl⟩
theorem dX2_trace_24 : DI cX2_trace 24 (.istore 7) 2 26 := ⟨by decide +kernel, rfl⟩
theorem dX2_trace_26 : DI cX2_trace 26 (.iload 7) 2 28 := ⟨by decide +kernel, rfl⟩
theorem dX2_trace_28 : DI cX2_trace 28 (.iconst 5) 1 29 := ⟨by decide +kernel, rfl⟩
theorem dX2_trace_29 : DJ cX2_trace 29 (.if_icmp .ge 84) 84 113 32 := ⟨by decide +kernel, by decide, rfl⟩
theorem dX2_trace_32 : DI cX2_trace 32 (.aload_n 1) 1 33 := ⟨by decide +kernel, rfl⟩
theorem dX2_trace_33 : DI cX2_trace 33 (.iload 6) 2 35 := ⟨by decide +kernel, rfl⟩
theorem dX2_trace_35 : DI cX2_trace 35 (.invokestatic 29) 3 38 := ⟨by decide +kernel, rfl⟩
theorem dX2_trace_38 : DI cX2_trace 38 (.iload 7) 2 40 := ⟨by decide +kernel, rfl⟩
theorem dX2_trace_40 : DI cX2_trace 40 (.invokestatic 33) 3 43 := ⟨by decide +kernel, rfl⟩
theorem dX2_trace_43 : DJ cX2_trace 43 (.ifCond .eq 64) 64 107 46 := ⟨by decide +kernel, by decide, rfl⟩
theorem dX2_trace_46 : DI cX2_trace 46 (.aload_n 0) 1 47 := ⟨by decide +kernel, rfl⟩
theorem dX2_trace_47 : DI cX2_trace 47 (.iload 6) 2 49 := ⟨by decide +kernel, rfl⟩
theorem dX2_trace_49 : DI cX2_trace 49 (.iload 7) 2 51 := ⟨by decide +kernel, rfl⟩
theorem dX2_trace_51 : DI cX2_trace 51 (.invokevirtual 37) 3 54 := ⟨by decide +kernel, rfl⟩
theorem dX2_trace_54 : DI cX2_trace 54 (.istore 8) 2 56 := ⟨by decide +kernel, rfl⟩
theorem dX2_trace_56 : DI cX2_trace 56 (.aload_n 0) 1 57 := ⟨by decide +kernel, rfl⟩
theorem dX2_trace_57 : DI cX2_trace 57 (.iload 6) 2 59 := ⟨by decide +kernel, rfl⟩
theorem dX2_trace_59 : DI cX2_trace 59 (.iload 7) 2 61 := ⟨by decide +kernel, rfl⟩
theorem dX2_trace_61 : DI cX2_trace 61 (.invokevirtual 41) 3 64 := ⟨by decide +kernel, rfl⟩
theorem dX2_trace_64 : DI cX2_trace 64 (.istore 9) 2 66 := ⟨by decide +kernel, rfl⟩
theorem dX2_trace_66 : DI cX2_trace 66 (.aload_n 0) 1 67 := ⟨by decide +kernel, rfl⟩
theorem dX2_trace_67 : DI cX2_trace 67 (.getfield 19) 3 70 := ⟨by decide +kernel, rfl⟩
theorem dX2_trace_70 : DI cX2_trace 70 (.iload 8) 2 72 := ⟨by decide +kernel, rfl⟩
theorem dX2_trace_72 : DI cX2_trace 72 (.aload_n 0) 1 73 := ⟨by decide +kernel, rfl⟩
theorem dX2_trace_73 : DI cX2_trace 73 (.getfield 19) 3 76 := ⟨by decide +kernel, rfl⟩
theorem dX2_trace_76 : DI cX2_trace 76 (.iload 8) 2 78 := ⟨by decide +kernel, rfl⟩
theorem dX2_trace_78 : DI cX2_trace 78 (.invokestatic 29) 3 81 := ⟨by decide +kernel, rfl⟩
theorem dX2_trace_81 : DI cX2_trace 81 (.iconst 1) 1 82 := ⟨by decide +kernel, rfl⟩
theorem dX2_trace_82 : DI cX2_trace 82 (.iload 9) 2 84 := ⟨by decide +kernel, rfl⟩
theorem dX2_trace_84 : DI cX2_trace 84 (.ishl) 1 85 := ⟨by decide +kernel, rfl⟩
theorem dX2_trace_85 : DI cX2_trace 85 (.ior) 1 86 := ⟨by decide +kernel, rfl⟩
theorem dX2_trace_86 : DI cX2_trace 86 (.invokestatic 44) 3 89 := ⟨by decide +kernel, rfl⟩
theorem dX2_trace_89 : DI cX2_trace 89 (.iload 4) 2 91 := ⟨by decide +kernel, rfl⟩
theorem dX2_trace_91 : DI cX2_trace 91 (.iconst 1) 1 92 := ⟨by decide +kernel, rfl⟩
theorem dX2_trace_92 : DI cX2_trace 92 (.iload 8) 2 94 := ⟨by decide +kernel, rfl⟩
theorem dX2_trace_94 : DI cX2_trace 94 (.ishl) 1 95 := ⟨by decide +kernel, rfl⟩
theorem dX2_trace_95 : DI cX2_trace 95 (.ior) 1 96 := ⟨by decide +kernel, rfl⟩
theorem dX2_trace_96 : DI cX2_trace 96 (.istore 4) 2 98 := ⟨by decide +kernel, rfl⟩
theorem dX2_trace_98 : DI cX2_trace 98 (.iload 5) 2 100 := ⟨by decide +kernel, rfl⟩
theorem dX2_trace_100 : DI cX2_trace 100 (.iconst 1) 1 101 := ⟨by decide +kernel, rfl⟩
theorem dX2_trace_101 : DI cX2_trace 101 (.iload 9) 2 103 := ⟨by decide +kernel, rfl⟩
theorem dX2_trace_103 : DI cX2_trace 103 (.ishl) 1 104 := ⟨by decide +kernel, rfl⟩
theorem dX2_trace_104 : DI cX2_trace 104 (.ior) 1 105 := ⟨by decide +kernel, rfl⟩
theorem dX2_trace_105 : DI cX2_trace 105 (.istore 5) 2 107 := ⟨by decide +kernel, rfl⟩
theorem dX2_trace_107 : DI cX2_trace 107 (.iinc 7 1) 3 110 := ⟨by decide +kernel, rfl⟩
theorem dX2_trace_110 : DJ cX2_trace 110 (.goto (-84)) (-84) 26 113 := ⟨by decide +kernel, by decide, rfl⟩
theorem dX2_trace_113 : DI cX2_trace 113 (.iinc 6 1) 3 116 := ⟨by decide +kernel, rfl⟩
theorem dX2_trace_116 : DJ cX2_trace 116 (.goto (-99)) (-99) 17 119 := ⟨by decide +kernel, by decide, rfl⟩
theorem dX2_trace_119 : DI cX2_trace 119 (.iload 4) 2 121 := ⟨by decide +kernel, rfl⟩
theorem dX2_trace_121 : DI cX2_trace 121 (.invokestatic 48) 3 124 := ⟨by decide +kernel, rfl⟩
theorem dX2_trace_124 : DI cX2_trace 124 (.istore 6) 2 126 := ⟨by decide +kernel, rfl⟩
theorem dX2_trace_126 : DI cX2_trace 126 (.iload 5) 2 128 := ⟨by decide +kernel, rfl⟩
theorem dX2_trace_128 : DI cX2_trace 128 (.invokestatic 48) 3 131 := ⟨by decide +kernel, rfl⟩
theorem dX2_trace_131 : DI cX2_trace 131 (.istore 7) 2 133 := ⟨by decide +kernel, rfl⟩
theorem dX2_trace_133 : DI cX2_trace 133 (.iconst 0) 1 134 := ⟨by decide +kernel, rfl⟩
theorem dX2_trace_134 : DI cX2_trace 134 (.istore 8) 2 136 := ⟨by decide +kernel, rfl⟩
theorem dX2_trace_136 : DI cX2_trace 136 (.iload 8) 2 138 := ⟨by decide +kernel, rfl⟩
theorem dX2_trace_138 : DI cX2_trace 138 (.iconst 5) 1 139 := ⟨by decide +kernel, rfl⟩
theorem dX2_trace_139 : DJ cX2_trace 139 (.if_icmp .ge 33) 33 172 142 := ⟨by decide +kernel, by decide, rfl⟩
theorem dX2_trace_142 : DI cX2_trace 142 (.aload_n 0) 1 143 := ⟨by decide +kernel, rfl⟩
theorem dX2_trace_143 : DI cX2_trace 143 (.getfield 19) 3 146 := ⟨by decide +kernel, rfl⟩
theorem dX2_trace_146 : DI cX2_trace 146 (.iload 8) 2 148 := ⟨by decide +kernel, rfl⟩
theorem dX2_trace_148 : DI cX2_trace 148 (.aload_n 0) 1 149 := ⟨by decide +kernel, rfl⟩
theorem dX2_trace_149 : DI cX2_trace 149 (.getfield 19) 3 152 := ⟨by decide +kernel, rfl⟩
theorem dX2_trace_152 : DI cX2_trace 152 (.iload 8) 2 154 := ⟨by decide +kernel, rfl⟩
theorem dX2_trace_154 : DI cX2_trace 154 (.iload 6) 2 156 := ⟨by decide +kernel, rfl⟩
theorem dX2_trace_156 : DI cX2_trace 156 (.iadd) 1 157 := ⟨by decide +kernel, rfl⟩
theorem dX2_trace_157 : DI cX2_trace 157 (.invokestatic 29) 3 160 := ⟨by decide +kernel, rfl⟩
theorem dX2_trace_160 : DI cX2_trace 160 (.iload 7) 2 162 := ⟨by decide +kernel, rfl⟩
theorem dX2_trace_162 : DI cX2_trace 162 (.ishr) 1 163 := ⟨by decide +kernel, rfl⟩
theorem dX2_trace_163 : DI cX2_trace 163 (.invokestatic 44) 3 166 := ⟨by decide +kernel, rfl⟩
theorem dX2_trace_166 : DI cX2_trace 166 (.iinc 8 1) 3 169 := ⟨by decide +kernel, rfl⟩
theorem dX2_trace_169 : DJ cX2_trace 169 (.goto (-33)) (-33) 136 172 := ⟨by decide +kernel, by decide, rfl⟩
theorem dX2_trace_172 : DI cX2_trace 172 (.aload_n 0) 1 173 := ⟨by decide +kernel, rfl⟩
theorem dX2_trace_173 : DI cX2_trace 173 (.iload 4) 2 175 := ⟨by decide +kernel, rfl⟩
theorem dX2_trace_175 : DI cX2_trace 175 (.invokestatic 52) 3 178 := ⟨by decide +kernel, rfl⟩
theorem dX2_trace_178 : DI cX2_trace 178 (.iload 6) 2 180 := ⟨by decide +kernel, rfl⟩
theorem dX2_trace_180 : DI cX2_trace 180 (.isub) 1 181 := ⟨by decide +kernel, rfl⟩
theorem dX2_trace_181 : DI cX2_trace 181 (.putfield 55) 3 184 := ⟨by decide +kernel, rfl⟩
theorem dX2_trace_184 : DI cX2_trace 184 (.aload_n 0) 1 185 := ⟨by decide +kernel, rfl⟩
theorem dX2_trace_185 : DI cX2_trace 185 (.iload 5) 2 187 := ⟨by decide +kernel, rfl⟩
theorem dX2_trace_187 : DI cX2_trace 187 (.invokestatic 52) 3 190 := ⟨by decide +kernel, rfl⟩
theorem dX2_trace_190 : DI cX2_trace 190 (.iload 7) 2 192 := ⟨by decide +kernel, rfl⟩
theorem dX2_trace_192 : DI cX2_trace 192 (.isub) 1 193 := ⟨by decide +kernel, rfl⟩
theorem dX2_trace_193 : DI cX2_trace 193 (.putfield 58) 3 196 := ⟨by decide +kernel, rfl⟩
theorem dX2_trace_196 : DI cX2_trace 196 (.aload_n 0) 1 197 := ⟨by decide +kernel, rfl⟩
theorem dX2_trace_197 : DI cX2_trace 197 (.aload_n 0) 1 198 := ⟨by decide +kernel, rfl⟩
theorem dX2_trace_198 : DI cX2_trace 198 (.iload_n 2) 1 199 := ⟨by decide +kernel, rfl⟩
theorem dX2_trace_199 : DI cX2_trace 199 (.iload_n 3) 1 200 := ⟨by decide +kernel, rfl⟩
theorem dX2_trace_200 : DI cX2_trace 200 (.invokevirtual 37) 3 203 := ⟨by decide +kernel, rfl⟩
theorem dX2_trace_203 : DI cX2_trace 203 (.iload 6) 2 205 := ⟨by decide +kernel, rfl⟩
theorem dX2_trace_205 : DI cX2_trace 205 (.isub) 1 206 := ⟨by decide +kernel, rfl⟩
theorem dX2_trace_206 : DI cX2_trace 206 (.putfield 61) 3 209 := ⟨by decide +kernel, rfl⟩
theorem dX2_trace_209 : DI cX2_trace 209 (.return_) 1 210 := ⟨by decide +kernel, rfl⟩
theorem dX2_turnedRow_0 : DI cX2_turnedRow 0 (.aload_n 0) 1 1 := ⟨by decide +kernel, rfl⟩
theorem dX2_turnedRow_1 : DI cX2_turnedRow 1 (.getfield 15) 3 4 := ⟨by decide +kernel, rfl⟩
theorem dX2_turnedRow_4 : DJ cX2_turnedRow 4 (.ifCond .eq 9) 9 13 7 := ⟨by decide +kernel, by decide, rfl⟩
theorem dX2_turnedRow_7 : DI cX2_turnedRow 7 (.iconst 4) 1 8 := ⟨by decide +kernel, rfl⟩
theorem dX2_turnedRow_8 : DI cX2_turnedRow 8 (.iload_n 2) 1 9 := ⟨by decide +kernel, rfl⟩
theorem dX2_turnedRow_9 : DI cX2_turnedRow 9 (.isub) 1 10 := ⟨by decide +kernel, rfl⟩
theorem dX2_turnedRow_10 : DJ cX2_turnedRow 10 (.goto 4) 4 14 13 := ⟨by decide +kernel, by decide, rfl⟩
theorem dX2_turnedRow_13 : DI cX2_turnedRow 13 (.iload_n 2) 1 14 := ⟨by decide +kernel, rfl⟩
theorem dX2_turnedRow_14 : DI cX2_turnedRow 14 (.istore_n 3) 1 15 := ⟨by decide +kernel, rfl⟩
theorem dX2_turnedRow_15 : DI cX2_turnedRow 15 (.aload_n 0) 1 16 := ⟨by decide +kernel, rfl⟩
theorem dX2_turnedRow_16 : DI cX2_turnedRow 16 (.getfield 9) 3 19 := ⟨by decide +kernel, rfl⟩
theorem dX2_turnedRow_19 : DI cX2_turnedRow 19 (.tableswitch 33 0 2 #[25, 27, 29]) 25 44 := ⟨by decide +kernel, rfl⟩
theorem dX2_turnedRow_44 : DI cX2_turnedRow 44 (.iload_n 1) 1 45 := ⟨by decide +kernel, rfl⟩
theorem dX2_turnedRow_45 : DI cX2_turnedRow 45 (.ireturn) 1 46 := ⟨by decide +kernel, rfl⟩
theorem dX2_turnedRow_46 : DI cX2_turnedRow 46 (.iload_n 3) 1 47 := ⟨by decide +kernel, rfl⟩
theorem dX2_turnedRow_47 : DI cX2_turnedRow 47 (.ireturn) 1 48 := ⟨by decide +kernel, rfl⟩
theorem dX2_turnedRow_48 : DI cX2_turnedRow 48 (.iconst 4) 1 49 := ⟨by decide +kernel, rfl⟩
theorem dX2_turnedRow_49 : DI cX2_turnedRow 49 (.iload_n 1) 1 50 := ⟨by decide +kernel, rfl⟩
theorem dX2_turnedRow_50 : DI cX2_turnedRow 50 (.isub) 1 51 := ⟨by decide +kernel, rfl⟩
theorem dX2_turnedRow_51 : DI cX2_turnedRow 51 (.ireturn) 1 52 := ⟨by decide +kernel, rfl⟩
theorem dX2_turnedRow_52 : DI cX2_turnedRow 52 (.iconst 4) 1 53 := ⟨by decide +kernel, rfl⟩
theorem dX2_turnedRow_53 : DI cX2_turnedRow 53 (.iload_n 3) 1 54 := ⟨by decide +kernel, rfl⟩
theorem dX2_turnedRow_54 : DI cX2_turnedRow 54 (.isub) 1 55 := ⟨by decide +kernel, rfl⟩
theorem dX2_turnedRow_55 : DI cX2_turnedRow 55 (.ireturn) 1 56 := ⟨by decide +kernel, rfl⟩
theorem dX2_turnedColumn_0 : DI cX2_turnedColumn 0 (.aload_n 0) 1 1 := ⟨by decide +kernel, rfl⟩
theorem dX2_turnedColumn_1 : DI cX2_turnedColumn 1 (.getfield 15) 3 4 := ⟨by decide +kernel, rfl⟩
theorem dX2_turnedColumn_4 : DJ cX2_turnedColumn 4 (.ifCond .eq 9) 9 13 7 := ⟨by decide +kernel, by decide, rfl⟩
theorem dX2_turnedColumn_7 : DI cX2_turnedColumn 7 (.iconst 4) 1 8 := ⟨by decide +kernel, rfl⟩
theorem dX2_turnedColumn_8 : DI cX2_turnedColumn 8 (.iload_n 2) 1 9 := ⟨by decide +kernel, rfl⟩
theorem dX2_turnedColumn_9 : DI cX2_turnedColumn 9 (.isub) 1 10 := ⟨by decide +kernel, rfl⟩
theorem dX2_turnedColumn_10 : DJ cX2_turnedColumn 10 (.goto 4) 4 14 13 := ⟨by decide +kernel, by decide, rfl⟩
theorem dX2_turnedColumn_13 : DI cX2_turnedColumn 13 (.iload_n 2) 1 14 := ⟨by decide +kernel, rfl⟩
theorem dX2_turnedColumn_14 : DI cX2_turnedColumn 14 (.istore_n 3) 1 15 := ⟨by decide +kernel, rfl⟩
theorem dX2_turnedColumn_15 : DI cX2_turnedColumn 15 (.aload_n 0) 1 16 := ⟨by decide +kernel, rfl⟩
theorem dX2_turnedColumn_16 : DI cX2_turnedColumn 16 (.getfield 9) 3 19 := ⟨by decide +kernel, rfl⟩
theorem dX2_turnedColumn_19 : DI cX2_turnedColumn 19 (.tableswitch 35 0 2 #[25, 27, 31]) 25 44 := ⟨by decide +kernel, rfl⟩
theorem dX2_turnedColumn_44 : DI cX2_turnedColumn 44 (.iload_n 3) 1 45 := ⟨by decide +kernel, rfl⟩
theorem dX2_turnedColumn_45 : DI cX2_turnedColumn 45 (.ireturn) 1 46 := ⟨by decide +kernel, rfl⟩
theorem dX2_turnedColumn_46 : DI cX2_turnedColumn 46 (.iconst 4) 1 47 := ⟨by decide +kernel, rfl⟩
theorem dX2_turnedColumn_47 : DI cX2_turnedColumn 47 (.iload_n 1) 1 48 := ⟨by decide +kernel, rfl⟩
theorem dX2_turnedColumn_48 : DI cX2_turnedColumn 48 (.isub) 1 49 := ⟨by decide +kernel, rfl⟩
theorem dX2_turnedColumn_49 : DI cX2_turnedColumn 49 (.ireturn) 1 50 := ⟨by decide +kernel, rfl⟩
theorem dX2_turnedColumn_50 : DI cX2_turnedColumn 50 (.iconst 4) 1 51 := ⟨by decide +kernel, rfl⟩
theorem dX2_turnedColumn_51 : DI cX2_turnedColumn 51 (.iload_n 3) 1 52 := ⟨by decide +kernel, rfl⟩
theorem dX2_turnedColumn_52 : DI cX2_turnedColumn 52 (.isub) 1 53 := ⟨by decide +kernel, rfl⟩
theorem dX2_turnedColumn_53 : DI cX2_turnedColumn 53 (.ireturn) 1 54 := ⟨by decide +kernel, rfl⟩
theorem dX2_turnedColumn_54 : DI cX2_turnedColumn 54 (.iload_n 1) 1 55 := ⟨by decide +kernel, rfl⟩
theorem dX2_turnedColumn_55 : DI cX2_turnedColumn 55 (.ireturn) 1 56 := ⟨by decide +kernel, rfl⟩
theorem dX2_hasCell_0 : DI cX2_hasCell 0 (.iload_n 2) 1 1 := ⟨by decide +kernel, rfl⟩
theorem dX2_hasCell_1 : DI cX2_hasCell 1 (.iconst 0) 1 2 := ⟨by decide +kernel, rfl⟩
theorem dX2_hasCell_2 : DI cX2_hasCell 2 (.iconst 4) 1 3 := ⟨by decide +kernel, rfl⟩
theorem dX2_hasCell_3 : DI cX2_hasCell 3 (.invokestatic 64) 3 6 := ⟨by decide +kernel, rfl⟩
theorem dX2_hasCell_6 : DJ cX2_hasCell 6 (.ifCond .eq 22) 22 28 9 := ⟨by decide +kernel, by decide, rfl⟩
theorem dX2_hasCell_9 : DI cX2_hasCell 9 (.aload_n 0) 1 10 := ⟨by decide +kernel, rfl⟩
theorem dX2_hasCell_10 : DI cX2_hasCell 10 (.getfield 19) 3 13 := ⟨by decide +kernel, rfl⟩
theorem dX2_hasCell_13 : DI cX2_hasCell 13 (.iload_n 1) 1 14 := ⟨by decide +kernel, rfl⟩
theorem dX2_hasCell_14 : DI cX2_hasCell 14 (.invokestatic 29) 3 17 := ⟨by decide +kernel, rfl⟩
theorem dX2_hasCell_17 : DI cX2_hasCell 17 (.iload_n 2) 1 18 := ⟨by decide +kernel, rfl⟩
theorem dX2_hasCell_18 : DI cX2_hasCell 18 (.invokestatic 33) 3 21 := ⟨by decide +kernel, rfl⟩
theorem dX2_hasCell_21 : DJ cX2_hasCell 21 (.ifCond .eq 7) 7 28 24 := ⟨by decide +kernel, by decide, rfl⟩
theorem dX2_hasCell_24 : DI cX2_hasCell 24 (.iconst 1) 1 25 := ⟨by decide +kernel, rfl⟩
theorem dX2_hasCell_25 : DJ cX2_hasCell 25 (.goto 4) 4 29 28 := ⟨by decide +kernel, by decide, rfl⟩
theorem dX2_hasCell_28 : DI cX2_hasCell 28 (.iconst 0) 1 29 := ⟨by decide +kernel, rfl⟩
theorem dX2_hasCell_29 : DI cX2_hasCell 29 (.ireturn) 1 30 := ⟨by decide +kernel, rfl⟩
theorem dX3_init_0 : DI cX3_init 0 (.aload_n 0) 1 1 := ⟨by decide +kernel, rfl⟩
theorem dX3_init_1 : DI cX3_init 1 (.invokespecial 1) 3 4 := ⟨by decide +kernel, rfl⟩
theorem dX3_init_4 : DI cX3_init 4 (.return_) 1 5 := ⟨by decide +kernel, rfl⟩
theorem dX3_covers_0 : DI cX3_covers 0 (.aload_n 0) 1 1 := ⟨by decide +kernel, rfl⟩
theorem dX3_covers_1 : DI cX3_covers 1 (.getfield 7) 3 4 := ⟨by decide +kernel, rfl⟩
theorem dX3_covers_4 : DJ cX3_covers 4 (.ifnull 29) 29 33 7 := ⟨by decide +kernel, by decide, rfl⟩
theorem dX3_covers_7 : DI cX3_covers 7 (.aload_n 0) 1 8 := ⟨by decide +kernel, rfl⟩
theorem dX3_covers_8 : DI cX3_covers 8 (.getfield 7) 3 11 := ⟨by decide +kernel, rfl⟩
theorem dX3_covers_11 : DI cX3_covers 11 (.iload_n 1) 1 12 := ⟨by decide +kernel, rfl⟩
theorem dX3_covers_12 : DI cX3_covers 12 (.aload_n 0) 1 13 := ⟨by decide +kernel, rfl⟩
theorem dX3_covers_13 : DI cX3_covers 13 (.getfield 13) 3 16 := ⟨by decide +kernel, rfl⟩
theorem dX3_covers_16 : DI cX3_covers 16 (.isub) 1 17 := ⟨by decide +kernel, rfl⟩
theorem dX3_covers_17 : DI cX3_covers 17 (.iload_n 2) 1 18 := ⟨by decide +kernel, rfl⟩
theorem dX3_covers_18 : DI cX3_covers 18 (.aload_n 0) 1 19 := ⟨by decide +kernel, rfl⟩
theorem dX3_covers_19 : DI cX3_covers 19 (.getfield 17) 3 22 := ⟨by decide +kernel, rfl⟩
theorem dX3_covers_22 : DI cX3_covers 22 (.isub) 1 23 := ⟨by decide +kernel, rfl⟩
theorem dX3_covers_23 : DI cX3_covers 23 (.invokevirtual 20) 3 26 := ⟨by decide +kernel, rfl⟩
theorem dX3_covers_26 : DJ cX3_covers 26 (.ifCond .eq 7) 7 33 29 := ⟨by decide +kernel, by decide, rfl⟩
theorem dX3_covers_29 : DI cX3_covers 29 (.iconst 1) 1 30 := ⟨by decide +kernel, rfl⟩
theorem dX3_covers_30 : DJ cX3_covers 30 (.goto 4) 4 34 33 := ⟨by decide +kernel, by decide, rfl⟩
theorem dX3_covers_33 : DI cX3_covers 33 (.iconst 0) 1 34 := ⟨by decide +kernel, rfl⟩
theorem dX3_covers_34 : DI cX3_covers 34 (.ireturn) 1 35 := ⟨by decide +kernel, rfl⟩
theorem dX4_init_0 : DI cX4_init 0 (.aload_n 0) 1 1 := ⟨by decide +kernel, rfl⟩
theorem dX4_init_1 : DI cX4_init 1 (.invokespecial 3) 3 4 := ⟨by decide +kernel, rfl⟩
theorem dX4_init_4 : DI cX4_init 4 (.aload_n 0) 1 5 := ⟨by decide +kernel, rfl⟩
theorem dX4_init_5 : DI cX4_init 5 (.iload_n 1) 1 6 := ⟨by decide +kernel, rfl⟩
theorem dX4_init_6 : DI cX4_init 6 (.putfield 9) 3 9 := ⟨by decide +kernel, rfl⟩
theorem dX4_init_9 : DI cX4_init 9 (.aload_n 0) 1 10 := ⟨by decide +kernel, rfl⟩
theorem dX4_init_10 : DI cX4_init 10 (.iload_n 2) 1 11 := ⟨by decide +kernel, rfl⟩
theorem dX4_init_11 : DI cX4_init 11 (.putfield 15) 3 14 := ⟨by decide +kernel, rfl⟩
theorem dX4_init_14 : DI cX4_init 14 (.aload_n 0) 1 15 := ⟨by decide +kernel, rfl⟩
theorem dX4_init_15 : DI cX4_init 15 (.iconst 5) 1 16 := ⟨by decide +kernel, rfl⟩
theorem dX4_init_16 : DI cX4_init 16 (.newarray .int) 2 18 := ⟨by decide +kernel, rfl⟩
theorem dX4_init_18 : DI cX4_init 18 (.putfield 19) 3 21 := ⟨by decide +kernel, rfl⟩
theorem dX4_init_21 : DI cX4_init 21 (.aload_n 0) 1 22 := ⟨by decide +kernel, rfl⟩
theorem dX4_init_22 : DI cX4_init 22 (.iconst (-1)) 1 23 := ⟨by decide +kernel, rfl⟩
theorem dX4_init_23 : DI cX4_init 23 (.putfield 23) 3 26 := ⟨by decide +kernel, rfl⟩
theorem dX4_init_26 : DI cX4_init 26 (.aload_n 0) 1 27 := ⟨by decide +kernel, rfl⟩
theorem dX4_init_27 : DI cX4_init 27 (.bipush 8) 2 29 := ⟨by decide +kernel, rfl⟩
theorem dX4_init_29 : DI cX4_init 29 (.anewarray 27) 3 32 := ⟨by decide +kernel, rfl⟩
theorem dX4_init_32 : DI cX4_init 32 (.putfield 29) 3 35 := ⟨by decide +kernel, rfl⟩
theorem dX4_init_35 : DI cX4_init 35 (.iconst 0) 1 36 := ⟨by decide +kernel, rfl⟩
theorem dX4_init_36 : DI cX4_init 36 (.istore_n 3) 1 37 := ⟨by decide +kernel, rfl⟩
theorem dX4_init_37 : DI cX4_init 37 (.iload_n 3) 1 38 := ⟨by decide +kernel, rfl⟩
theorem dX4_init_38 : DI cX4_init 38 (.aload_n 0) 1 39 := ⟨by decide +kernel, rfl⟩
theorem dX4_init_39 : DI cX4_init 39 (.getfield 29) 3 42 := ⟨by decide +kernel, rfl⟩
theorem dX4_init_42 : DI cX4_init 42 (.arraylength) 1 43 := ⟨by decide +kernel, rfl⟩
theorem dX4_init_43 : DJ cX4_init 43 (.if_icmp .ge 35) 35 78 46 := ⟨by decide +kernel, by decide, rfl⟩
theorem dX4_init_46 : DI cX4_init 46 (.aload_n 0) 1 47 := ⟨by decide +kernel, rfl⟩
theorem dX4_init_47 : DI cX4_init 47 (.getfield 29) 3 50 := ⟨by decide +kernel, rfl⟩
theorem dX4_init_50 : DI cX4_init 50 (.iload_n 3) 1 51 := ⟨by decide +kernel, rfl⟩
theorem dX4_init_51 : DI cX4_init 51 (.new 27) 3 54 := ⟨by decide +kernel, rfl⟩
theorem dX4_init_54 : DI cX4_init 54 (.dup) 1 55 := ⟨by decide +kernel, rfl⟩
theorem dX4_init_55 : DI cX4_init 55 (.iload_n 3) 1 56 := ⟨by decide +kernel, rfl⟩
theorem dX4_init_56 : DI cX4_init 56 (.iconst 4) 1 57 := ⟨by decide +kernel, rfl⟩
theorem dX4_init_57 : DI cX4_init 57 (.irem) 1 58 := ⟨by decide +kernel, rfl⟩
theorem dX4_init_58 : DI cX4_init 58 (.iload_n 3) 1 59 := ⟨by decide +kernel, rfl⟩
theorem dX4_init_59 : DI cX4_init 59 (.iconst 4) 1 60 := ⟨by decide +kernel, rfl⟩
theorem dX4_init_60 : DJ cX4_init 60 (.if_icmp .lt 7) 7 67 63 := ⟨by decide +kernel, by decide, rfl⟩
theorem dX4_init_63 : DI cX4_init 63 (.iconst 1) 1 64 := ⟨by decide +kernel, rfl⟩
theorem dX4_init_64 : DJ cX4_init 64 (.goto 4) 4 68 67 := ⟨by decide +kernel, by decide, rfl⟩
theorem dX4_init_67 : DI cX4_init 67 (.iconst 0) 1 68 := ⟨by decide +kernel, rfl⟩
theorem dX4_init_68 : DI cX4_init 68 (.invokespecial 33) 3 71 := ⟨by decide +kernel, rfl⟩
theorem dX4_init_71 : DI cX4_init 71 (.aastore) 1 72 := ⟨by decide +kernel, rfl⟩
theorem dX4_init_72 : DI cX4_init 72 (.iinc 3 1) 3 75 := ⟨by decide +kernel, rfl⟩
theorem dX4_init_75 : DJ cX4_init 75 (.goto (-38)) (-38) 37 78 := ⟨by decide +kernel, by decide, rfl⟩
theorem dX4_init_78 : DI cX4_init 78 (.return_) 1 79 := ⟨by decide +kernel, rfl⟩
theorem dX4_hasCell_0 : DI cX4_hasCell 0 (.aload_n 0) 1 1 := ⟨by decide +kernel, rfl⟩
theorem dX4_hasCell_1 : DI cX4_hasCell 1 (.getfield 19) 3 4 := ⟨by decide +kernel, rfl⟩
theorem dX4_hasCell_4 : DI cX4_hasCell 4 (.iload_n 1) 1 5 := ⟨by decide +kernel, rfl⟩
theorem dX4_hasCell_5 : DI cX4_hasCell 5 (.invokestatic 36) 3 8 := ⟨by decide +kernel, rfl⟩
theorem dX4_hasCell_8 : DI cX4_hasCell 8 (.iload_n 2) 1 9 := ⟨by decide +kernel, rfl⟩
theorem dX4_hasCell_9 : DI cX4_hasCell 9 (.invokestatic 40) 3 12 := ⟨by decide +kernel, rfl⟩
theorem dX4_hasCell_12 : DI cX4_hasCell 12 (.ireturn) 1 13 := ⟨by decide +kernel, rfl⟩
theorem dX4_draw_0 : DI cX4_draw 0 (.aload_n 0) 1 1 := ⟨by decide +kernel, rfl⟩
theorem dX4_draw_1 : DI cX4_draw 1 (.getfield 19) 3 4 := ⟨by decide +kernel, rfl⟩
theorem dX4_draw_4 : DI cX4_draw 4 (.iload_n 1) 1 5 := ⟨by decide +kernel, rfl⟩
theorem dX4_draw_5 : DI cX4_draw 5 (.aload_n 0) 1 6 := ⟨by decide +kernel, rfl⟩
theorem dX4_draw_6 : DI cX4_draw 6 (.getfield 19) 3 9 := ⟨by decide +kernel, rfl⟩
theorem dX4_draw_9 : DI cX4_draw 9 (.iload_n 1) 1 10 := ⟨by decide +kernel, rfl⟩
theorem dX4_draw_10 : DI cX4_draw 10 (.invokestatic 36) 3 13 := ⟨by decide +kernel, rfl⟩
theorem dX4_draw_13 : DI cX4_draw 13 (.iconst 1) 1 14 := ⟨by decide +kernel, rfl⟩
theorem dX4_draw_14 : DI cX4_draw 14 (.iload_n 2) 1 15 := ⟨by decide +kernel, rfl⟩
theorem dX4_draw_15 : DI cX4_draw 15 (.ishl) 1 16 := ⟨by decide +kernel, rfl⟩
theorem dX4_draw_16 : DI cX4_draw 16 (.ior) 1 17 := ⟨by decide +kernel, rfl⟩
theorem dX4_draw_17 : DI cX4_draw 17 (.invokestatic 44) 3 20 := ⟨by decide +kernel, rfl⟩
theorem dX4_draw_20 : DI cX4_draw 20 (.aload_n 0) 1 21 := ⟨by decide +kernel, rfl⟩
theorem dX4_draw_21 : DI cX4_draw 21 (.dup) 1 22 := ⟨by decide +kernel, rfl⟩
theorem dX4_draw_22 : DI cX4_draw 22 (.getfield 48) 3 25 := ⟨by decide +kernel, rfl⟩
theorem dX4_draw_25 : DI cX4_draw 25 (.iconst 1) 1 26 := ⟨by decide +kernel, rfl⟩
theorem dX4_draw_26 : DI cX4_draw 26 (.iadd) 1 27 := ⟨by decide +kernel, rfl⟩
theorem dX4_draw_27 : DI cX4_draw 27 (.putfield 48) 3 30 := ⟨by decide +kernel, rfl⟩
theorem dX4_draw_30 : DI cX4_draw 30 (.aload_n 0) 1 31 := ⟨by decide +kernel, rfl⟩
theorem dX4_draw_31 : DI cX4_draw 31 (.invokevirtual 51) 3 34 := ⟨by decide +kernel, rfl⟩
theorem dX4_draw_34 : DI cX4_draw 34 (.return_) 1 35 := ⟨by decide +kernel, rfl⟩
theorem dX4_mark_0 : DI cX4_mark 0 (.aload_n 0) 1 1 := ⟨by decide +kernel, rfl⟩
theorem dX4_mark_1 : DI cX4_mark 1 (.iload_n 1) 1 2 := ⟨by decide +kernel, rfl⟩
theorem dX4_mark_2 : DI cX4_mark 2 (.putfield 23) 3 5 := ⟨by decide +kernel, rfl⟩
theorem dX4_mark_5 : DI cX4_mark 5 (.aload_n 0) 1 6 := ⟨by decide +kernel, rfl⟩
theorem dX4_mark_6 : DI cX4_mark 6 (.iload_n 2) 1 7 := ⟨by decide +kernel, rfl⟩
theorem dX4_mark_7 : DI cX4_mark 7 (.putfield 54) 3 10 := ⟨by decide +kernel, rfl⟩
theorem dX4_mark_10 : DI cX4_mark 10 (.aload_n 0) 1 11 := ⟨by decide +kernel, rfl⟩
theorem dX4_mark_11 : DI cX4_mark 11 (.iload_n 3) 1 12 := ⟨by decide +kernel, rfl⟩
theorem dX4_mark_12 : DI cX4_mark 12 (.putfield 57) 3 15 := ⟨by decide +kernel, rfl⟩
theorem dX4_mark_15 : DI cX4_mark 15 (.aload_n 0) 1 16 := ⟨by decide +kernel, rfl⟩
theorem dX4_mark_16 : DI cX4_mark 16 (.invokevirtual 51) 3 19 := ⟨by decide +kernel, rfl⟩
theorem dX4_mark_19 : DI cX4_mark 19 (.return_) 1 20 := ⟨by decide +kernel, rfl⟩
theorem dX4_traceAll_0 : DI cX4_traceAll 0 (.iconst 0) 1 1 := ⟨by decide +kernel, rfl⟩
theorem dX4_traceAll_1 : DI cX4_traceAll 1 (.istore_n 1) 1 2 := ⟨by decide +kernel, rfl⟩
theorem dX4_traceAll_2 : DI cX4_traceAll 2 (.iload_n 1) 1 3 := ⟨by decide +kernel, rfl⟩
theorem dX4_traceAll_3 : DI cX4_traceAll 3 (.aload_n 0) 1 4 := ⟨by decide +kernel, rfl⟩
theorem dX4_traceAll_4 : DI cX4_traceAll 4 (.getfield 29) 3 7 := ⟨by decide +kernel, rfl⟩
theorem dX4_traceAll_7 : DI cX4_traceAll 7 (.arraylength) 1 8 := ⟨by decide +kernel, rfl⟩
theorem dX4_traceAll_8 : DJ cX4_traceAll 8 (.if_icmp .ge 36) 36 44 11 := ⟨by decide +kernel, by decide, rfl⟩
theorem dX4_traceAll_11 : DI cX4_traceAll 11 (.aload_n 0) 1 12 := ⟨by decide +kernel, rfl⟩
theorem dX4_traceAll_12 : DI cX4_traceAll 12 (.getfield 29) 3 15 := ⟨by decide +kernel, rfl⟩
theorem dX4_traceAll_15 : DI cX4_traceAll 15 (.iload_n 1) 1 16 := ⟨by decide +kernel, rfl⟩
theorem dX4_traceAll_16 : DI cX4_traceAll 16 (.aaload) 1 17 := ⟨by decide +kernel, rfl⟩
theorem dX4_traceAll_17 : DI cX4_traceAll 17 (.astore_n 2) 1 18 := ⟨by decide +kernel, rfl⟩
theorem dX4_traceAll_18 : DI cX4_traceAll 18 (.aload_n 2) 1 19 := ⟨by decide +kernel, rfl⟩
theorem dX4_traceAll_19 : DJ cX4_traceAll 19 (.ifnull 19) 19 38 22 := ⟨by decide +kernel, by decide, rfl⟩
theorem dX4_traceAll_22 : DI cX4_traceAll 22 (.aload_n 2) 1 23 := ⟨by decide +kernel, rfl⟩
theorem dX4_traceAll_23 : DI cX4_traceAll 23 (.aload_n 0) 1 24 := ⟨by decide +kernel, rfl⟩
theorem dX4_traceAll_24 : DI cX4_traceAll 24 (.getfield 19) 3 27 := ⟨by decide +kernel, rfl⟩
theorem dX4_traceAll_27 : DI cX4_traceAll 27 (.aload_n 0) 1 28 := ⟨by decide +kernel, rfl⟩
theorem dX4_traceAll_28 : DI cX4_traceAll 28 (.getfield 54) 3 31 := ⟨by decide +kernel, rfl⟩
theorem dX4_traceAll_31 : DI cX4_traceAll 31 (.aload_n 0) 1 32 := ⟨by decide +kernel, rfl⟩
theorem dX4_traceAll_32 : DI cX4_traceAll 32 (.getfield 57) 3 35 := ⟨by decide +kernel, rfl⟩
theorem dX4_traceAll_35 : DI cX4_traceAll 35 (.invokevirtual 60) 3 38 := ⟨by decide +kernel, rfl⟩
theorem dX4_traceAll_38 : DI cX4_traceAll 38 (.iinc 1 1) 3 41 := ⟨by decide +kernel, rfl⟩
theorem dX4_traceAll_41 : DJ cX4_traceAll 41 (.goto (-39)) (-39) 2 44 := ⟨by decide +kernel, by decide, rfl⟩
theorem dX4_traceAll_44 : DI cX4_traceAll 44 (.return_) 1 45 := ⟨by decide +kernel, rfl⟩
theorem dX4_outlineFor_0 : DI cX4_outlineFor 0 (.iload_n 2) 1 1 := ⟨by decide +kernel, rfl⟩
theorem dX4_outlineFor_1 : DJ cX4_outlineFor 1 (.ifCond .eq 9) 9 10 4 := ⟨by decide +kernel, by decide, rfl⟩
theorem dX4_outlineFor_4 : DI cX4_outlineFor 4 (.iload_n 1) 1 5 := ⟨by decide +kernel, rfl⟩
theorem dX4_outlineFor_5 : DI cX4_outlineFor 5 (.iconst 4) 1 6 := ⟨by decide +kernel, rfl⟩
theorem dX4_outlineFor_6 : DI cX4_outlineFor 6 (.iadd) 1 7 := ⟨by decide +kernel, rfl⟩
theorem dX4_outlineFor_7 : DJ cX4_outlineFor 7 (.goto 4) 4 11 10 := ⟨by decide +kernel, by decide, rfl⟩
theorem dX4_outlineFor_10 : DI cX4_outlineFor 10 (.iload_n 1) 1 11 := ⟨by decide +kernel, rfl⟩
theorem dX4_outlineFor_11 : DI cX4_outlineFor 11 (.istore_n 3) 1 12 := ⟨by decide +kernel, rfl⟩
theorem dX4_outlineFor_12 : DI cX4_outlineFor 12 (.iload_n 3) 1 13 := ⟨by decide +kernel, rfl⟩
theorem dX4_outlineFor_13 : DJ cX4_outlineFor 13 (.ifCond .lt 21) 21 34 16 := ⟨by decide +kernel, by decide, rfl⟩
theorem dX4_outlineFor_16 : DI cX4_outlineFor 16 (.iload_n 3) 1 17 := ⟨by decide +kernel, rfl⟩
theorem dX4_outlineFor_17 : DI cX4_outlineFor 17 (.aload_n 0) 1 18 := ⟨by decide +kernel, rfl⟩
theorem dX4_outlineFor_18 : DI cX4_outlineFor 18 (.getfield 29) 3 21 := ⟨by decide +kernel, rfl⟩
theorem dX4_outlineFor_21 : DI cX4_outlineFor 21 (.arraylength) 1 22 := ⟨by decide +kernel, rfl⟩
theorem dX4_outlineFor_22 : DJ cX4_outlineFor 22 (.if_icmp .ge 12) 12 34 25 := ⟨by decide +kernel, by decide, rfl⟩
theorem dX4_outlineFor_25 : DI cX4_outlineFor 25 (.aload_n 0) 1 26 := ⟨by decide +kernel, rfl⟩
theorem dX4_outlineFor_26 : DI cX4_outlineFor 26 (.getfield 29) 3 29 := ⟨by decide +kernel, rfl⟩
theorem dX4_outlineFor_29 : DI cX4_outlineFor 29 (.iload_n 3) 1 30 := ⟨by decide +kernel, rfl⟩
theorem dX4_outlineFor_30 : DI cX4_outlineFor 30 (.aaload) 1 31 := ⟨by decide +kernel, rfl⟩
theorem dX4_outlineFor_31 : DJ cX4_outlineFor 31 (.goto 4) 4 35 34 := ⟨by decide +kernel, by decide, rfl⟩
theorem dX4_outlineFor_34 : DI cX4_outlineFor 34 (.aconst_null) 1 35 := ⟨by decide +kernel, rfl⟩
theorem dX4_outlineFor_35 : DI cX4_outlineFor 35 (.areturn) 1 36 := ⟨by decide +kernel, rfl⟩
theorem dX4_canTurn_0 : DI cX4_canTurn 0 (.iload_n 1) 1 1 := ⟨by decide +kernel, rfl⟩
theorem dX4_canTurn_1 : DJ cX4_canTurn 1 (.ifCond .ne 5) 5 6 4 := ⟨by decide +kernel, by decide, rfl⟩
theorem dX4_canTurn_4 : DI cX4_canTurn 4 (.iconst 1) 1 5 := ⟨by decide +kernel, rfl⟩
theorem dX4_canTurn_5 : DI cX4_canTurn 5 (.ireturn) 1 6 := ⟨by decide +kernel, rfl⟩
theorem dX4_canTurn_6 : DI cX4_canTurn 6 (.iload_n 2) 1 7 := ⟨by decide +kernel, rfl⟩
theorem dX4_canTurn_7 : DJ cX4_canTurn 7 (.ifCond .ne 30) 30 37 10 := ⟨by decide +kernel, by decide, rfl⟩
theorem dX4_canTurn_10 : DI cX4_canTurn 10 (.aload_n 0) 1 11 := ⟨by decide +kernel, rfl⟩
theorem dX4_canTurn_11 : DI cX4_canTurn 11 (.getfield 9) 3 14 := ⟨by decide +kernel, rfl⟩
theorem dX4_canTurn_14 : DI cX4_canTurn 14 (.bipush 113) 2 16 := ⟨by decide +kernel, rfl⟩
theorem dX4_canTurn_16 : DJ cX4_canTurn 16 (.if_icmp .eq 17) 17 33 19 := ⟨by decide +kernel, by decide, rfl⟩
theorem dX4_canTurn_19 : DI cX4_canTurn 19 (.aload_n 0) 1 20 := ⟨by decide +kernel, rfl⟩
theorem dX4_canTurn_20 : DI cX4_canTurn 20 (.getfield 9) 3 23 := ⟨by decide +kernel, rfl⟩
theorem dX4_canTurn_23 : DI cX4_canTurn 23 (.bipush 104) 2 25 := ⟨by decide +kernel, rfl⟩
theorem dX4_canTurn_25 : DJ cX4_canTurn 25 (.if_icmp .ne 12) 12 37 28 := ⟨by decide +kernel, by decide, rfl⟩
theorem dX4_canTurn_28 : DI cX4_canTurn 28 (.iload_n 1) 1 29 := ⟨by decide +kernel, rfl⟩
theorem dX4_canTurn_29 : DI cX4_canTurn 29 (.iconst 2) 1 30 := ⟨by decide +kernel, rfl⟩
theorem dX4_canTurn_30 : DJ cX4_canTurn 30 (.if_icmp .ne 7) 7 37 33 := ⟨by decide +kernel, by decide, rfl⟩
theorem dX4_canTurn_33 : DI cX4_canTurn 33 (.iconst 1) 1 34 := ⟨by decide +kernel, rfl⟩
theorem dX4_canTurn_34 : DJ cX4_canTurn 34 (.goto 4) 4 38 37 := ⟨by decide +kernel, by decide, rfl⟩
theorem dX4_canTurn_37 : DI cX4_canTurn 37 (.iconst 0) 1 38 := ⟨by decide +kernel, rfl⟩
theorem dX4_canTurn_38 : DI cX4_canTurn 38 (.ireturn) 1 39 := ⟨by decide +kernel, rfl⟩
theorem dX4_canMirror_0 : DI cX4_canMirror 0 (.aload_n 0) 1 1 := ⟨by decide +kernel, rfl⟩
theorem dX4_canMirror_1 : DI cX4_canMirror 1 (.getfield 15) 3 4 := ⟨by decide +kernel, rfl⟩
theorem dX4_canMirror_4 : DJ cX4_canMirror 4 (.ifCond .eq 11) 11 15 7 := ⟨by decide +kernel, by decide, rfl⟩
theorem dX4_canMirror_7 : DI cX4_canMirror 7 (.iload_n 1) 1 8 := ⟨by decide +kernel, rfl⟩
theorem dX4_canMirror_8 : DJ cX4_canMirror 8 (.ifCond .ne 7) 7 15 11 := ⟨by decide +kernel, by decide, rfl⟩
theorem dX4_canMirror_11 : DI cX4_canMirror 11 (.iconst 1) 1 12 := ⟨by decide +kernel, rfl⟩
theorem dX4_canMirror_12 : DJ cX4_canMirror 12 (.goto 4) 4 16 15 := ⟨by decide +kernel, by decide, rfl⟩
theorem dX4_canMirror_15 : DI cX4_canMirror 15 (.iconst 0) 1 16 := ⟨by decide +kernel, rfl⟩
theorem dX4_canMirror_16 : DI cX4_canMirror 16 (.ireturn) 1 17 := ⟨by decide +kernel, rfl⟩
theorem dX4_whole_0 : DI cX4_whole 0 (.aload_n 0) 1 1 := ⟨by decide +kernel, rfl⟩
theorem dX4_whole_1 : DI cX4_whole 1 (.getfield 15) 3 4 := ⟨by decide +kernel, rfl⟩
theorem dX4_whole_4 : DJ cX4_whole 4 (.ifCond .eq 17) 17 21 7 := ⟨by decide +kernel, by decide, rfl⟩
theorem dX4_whole_7 : DI cX4_whole 7 (.aload_n 0) 1 8 := ⟨by decide +kernel, rfl⟩
theorem dX4_whole_8 : DI cX4_whole 8 (.getfield 63) 3 11 := ⟨by decide +kernel, rfl⟩
theorem dX4_whole_11 : DI cX4_whole 11 (.aload_n 0) 1 12 := ⟨by decide +kernel, rfl⟩
theorem dX4_whole_12 : DI cX4_whole 12 (.getfield 66) 3 15 := ⟨by decide +kernel, rfl⟩
theorem dX4_whole_15 : DI cX4_whole 15 (.invokestatic 69) 3 18 := ⟨by decide +kernel, rfl⟩
theorem dX4_whole_18 : DJ cX4_whole 18 (.goto 7) 7 25 21 := ⟨by decide +kernel, by decide, rfl⟩
theorem dX4_whole_21 : DI cX4_whole 21 (.aload_n 0) 1 22 := ⟨by decide +kernel, rfl⟩
theorem dX4_whole_22 : DI cX4_whole 22 (.getfield 63) 3 25 := ⟨by decide +kernel, rfl⟩
theorem dX4_whole_25 : DI cX4_whole 25 (.ireturn) 1 26 := ⟨by decide +kernel, rfl⟩
theorem dX4_receive_0 : DI cX4_receive 0 (.aload_n 0) 1 1 := ⟨by decide +kernel, rfl⟩
theorem dX4_receive_1 : DI cX4_receive 1 (.dup) 1 2 := ⟨by decide +kernel, rfl⟩
theorem dX4_receive_2 : DI cX4_receive 2 (.getfield 63) 3 5 := ⟨by decide +kernel, rfl⟩
theorem dX4_receive_5 : DI cX4_receive 5 (.iload_n 1) 1 6 := ⟨by decide +kernel, rfl⟩
theorem dX4_receive_6 : DI cX4_receive 6 (.iadd) 1 7 := ⟨by decide +kernel, rfl⟩
theorem dX4_receive_7 : DI cX4_receive 7 (.putfield 63) 3 10 := ⟨by decide +kernel, rfl⟩
theorem dX4_receive_10 : DI cX4_receive 10 (.aload_n 0) 1 11 := ⟨by decide +kernel, rfl⟩
theorem dX4_receive_11 : DI cX4_receive 11 (.dup) 1 12 := ⟨by decide +kernel, rfl⟩
theorem dX4_receive_12 : DI cX4_receive 12 (.getfield 66) 3 15 := ⟨by decide +kernel, rfl⟩
theorem dX4_receive_15 : DI cX4_receive 15 (.iload_n 2) 1 16 := ⟨by decide +kernel, rfl⟩
theorem dX4_receive_16 : DI cX4_receive 16 (.iadd) 1 17 := ⟨by decide +kernel, rfl⟩
theorem dX4_receive_17 : DI cX4_receive 17 (.putfield 66) 3 20 := ⟨by decide +kernel, rfl⟩
theorem dX4_receive_20 : DI cX4_receive 20 (.aload_n 0) 1 21 := ⟨by decide +kernel, rfl⟩
theorem dX4_receive_21 : DI cX4_receive 21 (.dup) 1 22 := ⟨by decide +kernel, rfl⟩
theorem dX4_receive_22 : DI cX4_receive 22 (.getfield 75) 3 25 := ⟨by decide +kernel, rfl⟩
theorem dX4_receive_25 : DI cX4_receive 25 (.iload_n 1) 1 26 := ⟨by decide +kernel, rfl⟩
theorem dX4_receive_26 : DI cX4_receive 26 (.iload_n 2) 1 27 := ⟨by decide +kernel, rfl⟩
theorem dX4_receive_27 : DI cX4_receive 27 (.iadd) 1 28 := ⟨by decide +kernel, rfl⟩
theorem dX4_receive_28 : DI cX4_receive 28 (.i2l) 1 29 := ⟨by decide +kernel, rfl⟩
theorem dX4_receive_29 : DI cX4_receive 29 (.ladd) 1 30 := ⟨by decide +kernel, rfl⟩
theorem dX4_receive_30 : DI cX4_receive 30 (.putfield 75) 3 33 := ⟨by decide +kernel, rfl⟩
theorem dX4_receive_33 : DI cX4_receive 33 (.return_) 1 34 := ⟨by decide +kernel, rfl⟩
theorem dX4_giveAway_0 : DI cX4_giveAway 0 (.aload_n 0) 1 1 := ⟨by decide +kernel, rfl⟩
theorem dX4_giveAway_1 : DI cX4_giveAway 1 (.dup) 1 2 := ⟨by decide +kernel, rfl⟩
theorem dX4_giveAway_2 : DI cX4_giveAway 2 (.getfield 63) 3 5 := ⟨by decide +kernel, rfl⟩
theorem dX4_giveAway_5 : DI cX4_giveAway 5 (.iload_n 1) 1 6 := ⟨by decide +kernel, rfl⟩
theorem dX4_giveAway_6 : DI cX4_giveAway 6 (.isub) 1 7 := ⟨by decide +kernel, rfl⟩
theorem dX4_giveAway_7 : DI cX4_giveAway 7 (.putfield 63) 3 10 := ⟨by decide +kernel, rfl⟩
theorem dX4_giveAway_10 : DI cX4_giveAway 10 (.aload_n 0) 1 11 := ⟨by decide +kernel, rfl⟩
theorem dX4_giveAway_11 : DI cX4_giveAway 11 (.getfield 15) 3 14 := ⟨by decide +kernel, rfl⟩
theorem dX4_giveAway_14 : DJ cX4_giveAway 14 (.ifCond .eq 13) 13 27 17 := ⟨by decide +kernel, by decide, rfl⟩
theorem dX4_giveAway_17 : DI cX4_giveAway 17 (.aload_n 0) 1 18 := ⟨by decide +kernel, rfl⟩
theorem dX4_giveAway_18 : DI cX4_giveAway 18 (.dup) 1 19 := ⟨by decide +kernel, rfl⟩
theorem dX4_giveAway_19 : DI cX4_giveAway 19 (.getfield 66) 3 22 := ⟨by decide +kernel, rfl⟩
theorem dX4_giveAway_22 : DI cX4_giveAway 22 (.iload_n 1) 1 23 := ⟨by decide +kernel, rfl⟩
theorem dX4_giveAway_23 : DI cX4_giveAway 23 (.isub) 1 24 := ⟨by decide +kernel, rfl⟩
theorem dX4_giveAway_24 : DI cX4_giveAway 24 (.putfield 66) 3 27 := ⟨by decide +kernel, rfl⟩
theorem dX4_giveAway_27 : DI cX4_giveAway 27 (.return_) 1 28 := ⟨by decide +kernel, rfl⟩
theorem dX5_init_0 : DI cX5_init 0 (.aload_n 0) 1 1 := ⟨by decide +kernel, rfl⟩
theorem dX5_init_1 : DI cX5_init 1 (.invokespecial 3) 3 4 := ⟨by decide +kernel, rfl⟩
theorem dX5_init_4 : DI cX5_init 4 (.aload_n 0) 1 5 := ⟨by decide +kernel, rfl⟩
theorem dX5_init_5 : DI cX5_init 5 (.bipush 8) 2 7 := ⟨by decide +kernel, rfl⟩
theorem dX5_init_7 : DI cX5_init 7 (.newarray .int) 2 9 := ⟨by decide +kernel, rfl⟩
theorem dX5_init_9 : DI cX5_init 9 (.putfield 9) 3 12 := ⟨by decide +kernel, rfl⟩
theorem dX5_init_12 : DI cX5_init 12 (.return_) 1 13 := ⟨by decide +kernel, rfl⟩
theorem dX5_hasParts_0 : DI cX5_hasParts 0 (.iconst 0) 1 1 := ⟨by decide +kernel, rfl⟩
theorem dX5_hasParts_1 : DI cX5_hasParts 1 (.istore_n 1) 1 2 := ⟨by decide +kernel, rfl⟩
theorem dX5_hasParts_2 : DI cX5_hasParts 2 (.iload_n 1) 1 3 := ⟨by decide +kernel, rfl⟩
theorem dX5_hasParts_3 : DI cX5_hasParts 3 (.aload_n 0) 1 4 := ⟨by decide +kernel, rfl⟩
theorem dX5_hasParts_4 : DI cX5_hasParts 4 (.getfield 9) 3 7 := ⟨by decide +kernel, rfl⟩
theorem dX5_hasParts_7 : DI cX5_hasParts 7 (.arraylength) 1 8 := ⟨by decide +kernel, rfl⟩
theorem dX5_hasParts_8 : DJ cX5_hasParts 8 (.if_icmp .ge 20) 20 28 11 := ⟨by decide +kernel, by decide, rfl⟩
theorem dX5_hasParts_11 : DI cX5_hasParts 11 (.aload_n 0) 1 12 := ⟨by decide +kernel, rfl⟩
theorem dX5_hasParts_12 : DI cX5_hasParts 12 (.getfield 9) 3 15 := ⟨by decide +kernel, rfl⟩
theorem dX5_hasParts_15 : DI cX5_hasParts 15 (.iload_n 1) 1 16 := ⟨by decide +kernel, rfl⟩
theorem dX5_hasParts_16 : DI cX5_hasParts 16 (.iaload) 1 17 := ⟨by decide +kernel, rfl⟩
theorem dX5_hasParts_17 : DJ cX5_hasParts 17 (.ifCond .le 5) 5 22 20 := ⟨by decide +kernel, by decide, rfl⟩
theorem dX5_hasParts_20 : DI cX5_hasParts 20 (.iconst 1) 1 21 := ⟨by decide +kernel, rfl⟩
theorem dX5_hasParts_21 : DI cX5_hasParts 21 (.ireturn) 1 22 := ⟨by decide +kernel, rfl⟩
theorem dX5_hasParts_22 : DI cX5_hasParts 22 (.iinc 1 1) 3 25 := ⟨by decide +kernel, rfl⟩
theorem dX5_hasParts_25 : DJ cX5_hasParts 25 (.goto (-23)) (-23) 2 28 := ⟨by decide +kernel, by decide, rfl⟩
theorem dX5_hasParts_28 : DI cX5_hasParts 28 (.iconst 0) 1 29 := ⟨by decide +kernel, rfl⟩
theorem dX5_hasParts_29 : DI cX5_hasParts 29 (.ireturn) 1 30 := ⟨by decide +kernel, rfl⟩
end
section
theorem dX6_init_0 : DI cX6_init 0 (.aload_n 0) 1 1 := ⟨by decide +kernel, rfl⟩
theorem dX6_init_1 : DI cX6_init 1 (.invokespecial 3) 3 4 := ⟨by decide +kernel, rfl⟩
theorem dX6_init_4 : DI cX6_init 4 (.aload_n 0) 1 5 := ⟨by decide +kernel, rfl⟩
theorem dX6_init_5 : DI cX6_init 5 (.new 9) 3 8 := ⟨by decide +kernel, rfl⟩
theorem dX6_init_8 : DI cX6_init 8 (.dup) 1 9 := ⟨by decide +kernel, rfl⟩
theorem dX6_init_9 : DI cX6_init 9 (.invokespecial 11) 3 12 := ⟨by decide +kernel, rfl⟩
theorem dX6_init_12 : DI cX6_init 12 (.putfield 12) 3 15 := ⟨by decide +kernel, rfl⟩
theorem dX6_init_15 : DI cX6_init 15 (.aload_n 0) 1 16 := ⟨by decide +kernel, rfl⟩
theorem dX6_init_16 : DI cX6_init 16 (.new 16) 3 19 := ⟨by decide +kernel, rfl⟩
theorem dX6_init_19 : DI cX6_init 19 (.dup) 1 20 := ⟨by decide +kernel, rfl⟩
theorem dX6_init_20 : DI cX6_init 20 (.invokespecial 18) 3 23 := ⟨by decide +kernel, rfl⟩
theorem dX6_init_23 : DI cX6_init 23 (.putfield 19) 3 26 := ⟨by decide +kernel, rfl⟩
theorem dX6_init_26 : DI cX6_init 26 (.aload_n 0) 1 27 := ⟨by decide +kernel, rfl⟩
theorem dX6_init_27 : DI cX6_init 27 (.bipush 8) 2 29 := ⟨by decide +kernel, rfl⟩
theorem dX6_init_29 : DI cX6_init 29 (.anewarray 23) 3 32 := ⟨by decide +kernel, rfl⟩
theorem dX6_init_32 : DI cX6_init 32 (.putfield 25) 3 35 := ⟨by decide +kernel, rfl⟩
theorem dX6_init_35 : DI cX6_init 35 (.aload_n 0) 1 36 := ⟨by decide +kernel, rfl⟩
theorem dX6_init_36 : DI cX6_init 36 (.iconst 4) 1 37 := ⟨by decide +kernel, rfl⟩
theorem dX6_init_37 : DI cX6_init 37 (.anewarray 29) 3 40 := ⟨by decide +kernel, rfl⟩
theorem dX6_init_40 : DI cX6_init 40 (.putfield 31) 3 43 := ⟨by decide +kernel, rfl⟩
theorem dX6_init_43 : DI cX6_init 43 (.aload_n 0) 1 44 := ⟨by decide +kernel, rfl⟩
theorem dX6_init_44 : DI cX6_init 44 (.new 16) 3 47 := ⟨by decide +kernel, rfl⟩
theorem dX6_init_47 : DI cX6_init 47 (.dup) 1 48 := ⟨by decide +kernel, rfl⟩
theorem dX6_init_48 : DI cX6_init 48 (.invokespecial 18) 3 51 := ⟨by decide +kernel, rfl⟩
theorem dX6_init_51 : DI cX6_init 51 (.putfield 35) 3 54 := ⟨by decide +kernel, rfl⟩
theorem dX6_init_54 : DI cX6_init 54 (.aload_n 0) 1 55 := ⟨by decide +kernel, rfl⟩
theorem dX6_init_55 : DI cX6_init 55 (.bipush 16) 2 57 := ⟨by decide +kernel, rfl⟩
theorem dX6_init_57 : DI cX6_init 57 (.newarray .int) 2 59 := ⟨by decide +kernel, rfl⟩
theorem dX6_init_59 : DI cX6_init 59 (.putfield 38) 3 62 := ⟨by decide +kernel, rfl⟩
theorem dX6_init_62 : DI cX6_init 62 (.aload_n 0) 1 63 := ⟨by decide +kernel, rfl⟩
theorem dX6_init_63 : DI cX6_init 63 (.iconst 4) 1 64 := ⟨by decide +kernel, rfl⟩
theorem dX6_init_64 : DI cX6_init 64 (.newarray .int) 2 66 := ⟨by decide +kernel, rfl⟩
theorem dX6_init_66 : DI cX6_init 66 (.putfield 42) 3 69 := ⟨by decide +kernel, rfl⟩
theorem dX6_init_69 : DI cX6_init 69 (.aload_n 0) 1 70 := ⟨by decide +kernel, rfl⟩
theorem dX6_init_70 : DI cX6_init 70 (.bipush 16) 2 72 := ⟨by decide +kernel, rfl⟩
theorem dX6_init_72 : DI cX6_init 72 (.newarray .int) 2 74 := ⟨by decide +kernel, rfl⟩
theorem dX6_init_74 : DI cX6_init 74 (.putfield 45) 3 77 := ⟨by decide +kernel, rfl⟩
theorem dX6_init_77 : DI cX6_init 77 (.return_) 1 78 := ⟨by decide +kernel, rfl⟩
theorem dX6_setCloth_0 : DI cX6_setCloth 0 (.iload_n 1) 1 1 := ⟨by decide +kernel, rfl⟩
theorem dX6_setCloth_1 : DI cX6_setCloth 1 (.iconst 2) 1 2 := ⟨by decide +kernel, rfl⟩
theorem dX6_setCloth_2 : DI cX6_setCloth 2 (.bipush 12) 2 4 := ⟨by decide +kernel, rfl⟩
theorem dX6_setCloth_4 : DI cX6_setCloth 4 (.invokestatic 48) 3 7 := ⟨by decide +kernel, rfl⟩
theorem dX6_setCloth_7 : DJ cX6_setCloth 7 (.ifCond .eq 13) 13 20 10 := ⟨by decide +kernel, by decide, rfl⟩
theorem dX6_setCloth_10 : DI cX6_setCloth 10 (.iload_n 3) 1 11 := ⟨by decide +kernel, rfl⟩
theorem dX6_setCloth_11 : DI cX6_setCloth 11 (.iconst 0) 1 12 := ⟨by decide +kernel, rfl⟩
theorem dX6_setCloth_12 : DI cX6_setCloth 12 (.bipush 6) 2 14 := ⟨by decide +kernel, rfl⟩
theorem dX6_setCloth_14 : DI cX6_setCloth 14 (.invokestatic 48) 3 17 := ⟨by decide +kernel, rfl⟩
theorem dX6_setCloth_17 : DJ cX6_setCloth 17 (.ifCond .ne 13) 13 30 20 := ⟨by decide +kernel, by decide, rfl⟩
theorem dX6_setCloth_20 : DI cX6_setCloth 20 (.new 52) 3 23 := ⟨by decide +kernel, rfl⟩
theorem dX6_setCloth_23 : DI cX6_setCloth 23 (.dup) 1 24 := ⟨by decide +kernel, rfl⟩
theorem dX6_setCloth_24 : DI cX6_setCloth 24 (.ldc 54) 2 26 := ⟨by decide +kernel, rfl⟩
theorem dX6_setCloth_26 : DI cX6_setCloth 26 (.invokespecial 56) 3 29 := ⟨by decide +kernel, rfl⟩
theorem dX6_setCloth_29 : DI cX6_setCloth 29 (.athrow) 1 30 := ⟨by decide +kernel, rfl⟩
theorem dX6_setCloth_30 : DI cX6_setCloth 30 (.aload_n 0) 1 31 := ⟨by decide +kernel, rfl⟩
theorem dX6_setCloth_31 : DI cX6_setCloth 31 (.getfield 19) 3 34 := ⟨by decide +kernel, rfl⟩
theorem dX6_setCloth_34 : DI cX6_setCloth 34 (.getfield 59) 3 37 := ⟨by decide +kernel, rfl⟩
theorem dX6_setCloth_37 : DJ cX6_setCloth 37 (.ifCond .gt 13) 13 50 40 := ⟨by decide +kernel, by decide, rfl⟩
theorem dX6_setCloth_40 : DI cX6_setCloth 40 (.aload_n 0) 1 41 := ⟨by decide +kernel, rfl⟩
theorem dX6_setCloth_41 : DI cX6_setCloth 41 (.getfield 12) 3 44 := ⟨by decide +kernel, rfl⟩
theorem dX6_setCloth_44 : DI cX6_setCloth 44 (.getfield 63) 3 47 := ⟨by decide +kernel, rfl⟩
theorem dX6_setCloth_47 : DJ cX6_setCloth 47 (.ifCond .le 13) 13 60 50 := ⟨by decide +kernel, by decide, rfl⟩
theorem dX6_setCloth_50 : DI cX6_setCloth 50 (.new 66) 3 53 := ⟨by decide +kernel, rfl⟩
theorem dX6_setCloth_53 : DI cX6_setCloth 53 (.dup) 1 54 := ⟨by decide +kernel, rfl⟩
theorem dX6_setCloth_54 : DI cX6_setCloth 54 (.ldc 68) 2 56 := ⟨by decide +kernel, rfl⟩
theorem dX6_setCloth_56 : DI cX6_setCloth 56 (.invokespecial 70) 3 59 := ⟨by decide +kernel, rfl⟩
theorem dX6_setCloth_59 : DI cX6_setCloth 59 (.athrow) 1 60 := ⟨by decide +kernel, rfl⟩
theorem dX6_setCloth_60 : DI cX6_setCloth 60 (.aload_n 0) 1 61 := ⟨by decide +kernel, rfl⟩
theorem dX6_setCloth_61 : DI cX6_setCloth 61 (.getfield 12) 3 64 := ⟨by decide +kernel, rfl⟩
theorem dX6_setCloth_64 : DI cX6_setCloth 64 (.getfield 71) 3 67 := ⟨by decide +kernel, rfl⟩
theorem dX6_setCloth_67 : DI cX6_setCloth 67 (.istore 4) 2 69 := ⟨by decide +kernel, rfl⟩
theorem dX6_setCloth_69 : DI cX6_setCloth 69 (.aload_n 0) 1 70 := ⟨by decide +kernel, rfl⟩
theorem dX6_setCloth_70 : DI cX6_setCloth 70 (.getfield 12) 3 73 := ⟨by decide +kernel, rfl⟩
theorem dX6_setCloth_73 : DI cX6_setCloth 73 (.iload_n 1) 1 74 := ⟨by decide +kernel, rfl⟩
theorem dX6_setCloth_74 : DI cX6_setCloth 74 (.putfield 71) 3 77 := ⟨by decide +kernel, rfl⟩
theorem dX6_setCloth_77 : DI cX6_setCloth 77 (.aload_n 0) 1 78 := ⟨by decide +kernel, rfl⟩
theorem dX6_setCloth_78 : DI cX6_setCloth 78 (.getfield 12) 3 81 := ⟨by decide +kernel, rfl⟩
theorem dX6_setCloth_81 : DI cX6_setCloth 81 (.iload_n 2) 1 82 := ⟨by decide +kernel, rfl⟩
theorem dX6_setCloth_82 : DI cX6_setCloth 82 (.putfield 74) 3 85 := ⟨by decide +kernel, rfl⟩
theorem dX6_setCloth_85 : DI cX6_setCloth 85 (.aload_n 0) 1 86 := ⟨by decide +kernel, rfl⟩
theorem dX6_setCloth_86 : DI cX6_setCloth 86 (.getfield 12) 3 89 := ⟨by decide +kernel, rfl⟩
theorem dX6_setCloth_89 : DI cX6_setCloth 89 (.iload_n 3) 1 90 := ⟨by decide +kernel, rfl⟩
theorem dX6_setCloth_90 : DI cX6_setCloth 90 (.putfield 78) 3 93 := ⟨by decide +kernel, rfl⟩
theorem dX6_setCloth_93 : DI cX6_setCloth 93 (.iload 4) 2 95 := ⟨by decide +kernel, rfl⟩
theorem dX6_setCloth_95 : DI cX6_setCloth 95 (.ireturn) 1 96 := ⟨by decide +kernel, rfl⟩
theorem dX6_fold_0 : DI cX6_fold 0 (.aload_n 0) 1 1 := ⟨by decide +kernel, rfl⟩
theorem dX6_fold_1 : DI cX6_fold 1 (.getfield 19) 3 4 := ⟨by decide +kernel, rfl⟩
theorem dX6_fold_4 : DI cX6_fold 4 (.getfield 59) 3 7 := ⟨by decide +kernel, rfl⟩
theorem dX6_fold_7 : DJ cX6_fold 7 (.ifCond .le 13) 13 20 10 := ⟨by decide +kernel, by decide, rfl⟩
theorem dX6_fold_10 : DI cX6_fold 10 (.new 66) 3 13 := ⟨by decide +kernel, rfl⟩
theorem dX6_fold_13 : DI cX6_fold 13 (.dup) 1 14 := ⟨by decide +kernel, rfl⟩
theorem dX6_fold_14 : DI cX6_fold 14 (.ldc 81) 2 16 := ⟨by decide +kernel, rfl⟩
theorem dX6_fold_16 : DI cX6_fold 16 (.invokespecial 70) 3 19 := ⟨by decide +kernel, rfl⟩
theorem dX6_fold_19 : DI cX6_fold 19 (.athrow) 1 20 := ⟨by decide +kernel, rfl⟩
theorem dX6_fold_20 : DI cX6_fold 20 (.aload_n 0) 1 21 := ⟨by decide +kernel, rfl⟩
theorem dX6_fold_21 : DI cX6_fold 21 (.getfield 12) 3 24 := ⟨by decide +kernel, rfl⟩
theorem dX6_fold_24 : DI cX6_fold 24 (.getfield 83) 3 27 := ⟨by decide +kernel, rfl⟩
theorem dX6_fold_27 : DI cX6_fold 27 (.istore_n 2) 1 28 := ⟨by decide +kernel, rfl⟩
theorem dX6_fold_28 : DI cX6_fold 28 (.aload_n 0) 1 29 := ⟨by decide +kernel, rfl⟩
theorem dX6_fold_29 : DI cX6_fold 29 (.getfield 12) 3 32 := ⟨by decide +kernel, rfl⟩
theorem dX6_fold_32 : DI cX6_fold 32 (.iload_n 1) 1 33 := ⟨by decide +kernel, rfl⟩
theorem dX6_fold_33 : DI cX6_fold 33 (.invokevirtual 86) 3 36 := ⟨by decide +kernel, rfl⟩
theorem dX6_fold_36 : DI cX6_fold 36 (.iload_n 2) 1 37 := ⟨by decide +kernel, rfl⟩
theorem dX6_fold_37 : DI cX6_fold 37 (.ireturn) 1 38 := ⟨by decide +kernel, rfl⟩
theorem dX6_addFlaw_0 : DI cX6_addFlaw 0 (.iload_n 1) 1 1 := ⟨by decide +kernel, rfl⟩
theorem dX6_addFlaw_1 : DI cX6_addFlaw 1 (.iconst 0) 1 2 := ⟨by decide +kernel, rfl⟩
theorem dX6_addFlaw_2 : DI cX6_addFlaw 2 (.bipush 59) 2 4 := ⟨by decide +kernel, rfl⟩
theorem dX6_addFlaw_4 : DI cX6_addFlaw 4 (.invokestatic 48) 3 7 := ⟨by decide +kernel, rfl⟩
theorem dX6_addFlaw_7 : DJ cX6_addFlaw 7 (.ifCond .eq 20) 20 27 10 := ⟨by decide +kernel, by decide, rfl⟩
theorem dX6_addFlaw_10 : DI cX6_addFlaw 10 (.iload_n 2) 1 11 := ⟨by decide +kernel, rfl⟩
theorem dX6_addFlaw_11 : DI cX6_addFlaw 11 (.iconst 0) 1 12 := ⟨by decide +kernel, rfl⟩
theorem dX6_addFlaw_12 : DI cX6_addFlaw 12 (.aload_n 0) 1 13 := ⟨by decide +kernel, rfl⟩
theorem dX6_addFlaw_13 : DI cX6_addFlaw 13 (.getfield 12) 3 16 := ⟨by decide +kernel, rfl⟩
theorem dX6_addFlaw_16 : DI cX6_addFlaw 16 (.getfield 71) 3 19 := ⟨by decide +kernel, rfl⟩
theorem dX6_addFlaw_19 : DI cX6_addFlaw 19 (.iconst 1) 1 20 := ⟨by decide +kernel, rfl⟩
theorem dX6_addFlaw_20 : DI cX6_addFlaw 20 (.isub) 1 21 := ⟨by decide +kernel, rfl⟩
theorem dX6_addFlaw_21 : DI cX6_addFlaw 21 (.invokestatic 48) 3 24 := ⟨by decide +kernel, rfl⟩
theorem dX6_addFlaw_24 : DJ cX6_addFlaw 24 (.ifCond .ne 13) 13 37 27 := ⟨by decide +kernel, by decide, rfl⟩
theorem dX6_addFlaw_27 : DI cX6_addFlaw 27 (.new 52) 3 30 := ⟨by decide +kernel, rfl⟩
theorem dX6_addFlaw_30 : DI cX6_addFlaw 30 (.dup) 1 31 := ⟨by decide +kernel, rfl⟩
theorem dX6_addFlaw_31 : DI cX6_addFlaw 31 (.ldc 90) 2 33 := ⟨by decide +kernel, rfl⟩
theorem dX6_addFlaw_33 : DI cX6_addFlaw 33 (.invokespecial 56) 3 36 := ⟨by decide +kernel, rfl⟩
theorem dX6_addFlaw_36 : DI cX6_addFlaw 36 (.athrow) 1 37 := ⟨by decide +kernel, rfl⟩
theorem dX6_addFlaw_37 : DI cX6_addFlaw 37 (.aload_n 0) 1 38 := ⟨by decide +kernel, rfl⟩
theorem dX6_addFlaw_38 : DI cX6_addFlaw 38 (.iload_n 1) 1 39 := ⟨by decide +kernel, rfl⟩
theorem dX6_addFlaw_39 : DI cX6_addFlaw 39 (.iload_n 2) 1 40 := ⟨by decide +kernel, rfl⟩
theorem dX6_addFlaw_40 : DI cX6_addFlaw 40 (.invokevirtual 92) 3 43 := ⟨by decide +kernel, rfl⟩
theorem dX6_addFlaw_43 : DJ cX6_addFlaw 43 (.ifCond .eq 13) 13 56 46 := ⟨by decide +kernel, by decide, rfl⟩
theorem dX6_addFlaw_46 : DI cX6_addFlaw 46 (.new 96) 3 49 := ⟨by decide +kernel, rfl⟩
theorem dX6_addFlaw_49 : DI cX6_addFlaw 49 (.dup) 1 50 := ⟨by decide +kernel, rfl⟩
theorem dX6_addFlaw_50 : DI cX6_addFlaw 50 (.ldc 98) 2 52 := ⟨by decide +kernel, rfl⟩
theorem dX6_addFlaw_52 : DI cX6_addFlaw 52 (.invokespecial 100) 3 55 := ⟨by decide +kernel, rfl⟩
theorem dX6_addFlaw_55 : DI cX6_addFlaw 55 (.athrow) 1 56 := ⟨by decide +kernel, rfl⟩
theorem dX6_addFlaw_56 : DI cX6_addFlaw 56 (.aload_n 0) 1 57 := ⟨by decide +kernel, rfl⟩
theorem dX6_addFlaw_57 : DI cX6_addFlaw 57 (.getfield 12) 3 60 := ⟨by decide +kernel, rfl⟩
theorem dX6_addFlaw_60 : DI cX6_addFlaw 60 (.iload_n 1) 1 61 := ⟨by decide +kernel, rfl⟩
theorem dX6_addFlaw_61 : DI cX6_addFlaw 61 (.iload_n 2) 1 62 := ⟨by decide +kernel, rfl⟩
theorem dX6_addFlaw_62 : DI cX6_addFlaw 62 (.invokevirtual 101) 3 65 := ⟨by decide +kernel, rfl⟩
theorem dX6_addFlaw_65 : DJ cX6_addFlaw 65 (.ifCond .ne 34) 34 99 68 := ⟨by decide +kernel, by decide, rfl⟩
theorem dX6_addFlaw_68 : DI cX6_addFlaw 68 (.aload_n 0) 1 69 := ⟨by decide +kernel, rfl⟩
theorem dX6_addFlaw_69 : DI cX6_addFlaw 69 (.getfield 12) 3 72 := ⟨by decide +kernel, rfl⟩
theorem dX6_addFlaw_72 : DI cX6_addFlaw 72 (.getfield 63) 3 75 := ⟨by decide +kernel, rfl⟩
theorem dX6_addFlaw_75 : DI cX6_addFlaw 75 (.bipush 12) 2 77 := ⟨by decide +kernel, rfl⟩
theorem dX6_addFlaw_77 : DJ cX6_addFlaw 77 (.if_icmp .lt 13) 13 90 80 := ⟨by decide +kernel, by decide, rfl⟩
theorem dX6_addFlaw_80 : DI cX6_addFlaw 80 (.new 66) 3 83 := ⟨by decide +kernel, rfl⟩
theorem dX6_addFlaw_83 : DI cX6_addFlaw 83 (.dup) 1 84 := ⟨by decide +kernel, rfl⟩
theorem dX6_addFlaw_84 : DI cX6_addFlaw 84 (.ldc 104) 2 86 := ⟨by decide +kernel, rfl⟩
theorem dX6_addFlaw_86 : DI cX6_addFlaw 86 (.invokespecial 70) 3 89 := ⟨by decide +kernel, rfl⟩
theorem dX6_addFlaw_89 : DI cX6_addFlaw 89 (.athrow) 1 90 := ⟨by decide +kernel, rfl⟩
theorem dX6_addFlaw_90 : DI cX6_addFlaw 90 (.aload_n 0) 1 91 := ⟨by decide +kernel, rfl⟩
theorem dX6_addFlaw_91 : DI cX6_addFlaw 91 (.getfield 12) 3 94 := ⟨by decide +kernel, rfl⟩
theorem dX6_addFlaw_94 : DI cX6_addFlaw 94 (.iload_n 1) 1 95 := ⟨by decide +kernel, rfl⟩
theorem dX6_addFlaw_95 : DI cX6_addFlaw 95 (.iload_n 2) 1 96 := ⟨by decide +kernel, rfl⟩
theorem dX6_addFlaw_96 : DI cX6_addFlaw 96 (.invokevirtual 106) 3 99 := ⟨by decide +kernel, rfl⟩
theorem dX6_addFlaw_99 : DI cX6_addFlaw 99 (.aload_n 0) 1 100 := ⟨by decide +kernel, rfl⟩
theorem dX6_addFlaw_100 : DI cX6_addFlaw 100 (.getfield 12) 3 103 := ⟨by decide +kernel, rfl⟩
theorem dX6_addFlaw_103 : DI cX6_addFlaw 103 (.getfield 63) 3 106 := ⟨by decide +kernel, rfl⟩
theorem dX6_addFlaw_106 : DI cX6_addFlaw 106 (.ireturn) 1 107 := ⟨by decide +kernel, rfl⟩
theorem dX6_isUnderPiece_0 : DI cX6_isUnderPiece 0 (.aload_n 0) 1 1 := ⟨by decide +kernel, rfl⟩
theorem dX6_isUnderPiece_1 : DI cX6_isUnderPiece 1 (.getfield 19) 3 4 := ⟨by decide +kernel, rfl⟩
theorem dX6_isUnderPiece_4 : DI cX6_isUnderPiece 4 (.iload_n 1) 1 5 := ⟨by decide +kernel, rfl⟩
theorem dX6_isUnderPiece_5 : DI cX6_isUnderPiece 5 (.iload_n 2) 1 6 := ⟨by decide +kernel, rfl⟩
theorem dX6_isUnderPiece_6 : DI cX6_isUnderPiece 6 (.invokevirtual 110) 3 9 := ⟨by decide +kernel, rfl⟩
theorem dX6_isUnderPiece_9 : DI cX6_isUnderPiece 9 (.iconst (-1)) 1 10 := ⟨by decide +kernel, rfl⟩
theorem dX6_isUnderPiece_10 : DJ cX6_isUnderPiece 10 (.if_icmp .ne 33) 33 43 13 := ⟨by decide +kernel, by decide, rfl⟩
theorem dX6_isUnderPiece_13 : DI cX6_isUnderPiece 13 (.aload_n 0) 1 14 := ⟨by decide +kernel, rfl⟩
theorem dX6_isUnderPiece_14 : DI cX6_isUnderPiece 14 (.getfield 12) 3 17 := ⟨by decide +kernel, rfl⟩
theorem dX6_isUnderPiece_17 : DI cX6_isUnderPiece 17 (.getfield 83) 3 20 := ⟨by decide +kernel, rfl⟩
theorem dX6_isUnderPiece_20 : DJ cX6_isUnderPiece 20 (.ifCond .eq 27) 27 47 23 := ⟨by decide +kernel, by decide, rfl⟩
theorem dX6_isUnderPiece_23 : DI cX6_isUnderPiece 23 (.aload_n 0) 1 24 := ⟨by decide +kernel, rfl⟩
theorem dX6_isUnderPiece_24 : DI cX6_isUnderPiece 24 (.getfield 19) 3 27 := ⟨by decide +kernel, rfl⟩
theorem dX6_isUnderPiece_27 : DI cX6_isUnderPiece 27 (.iload_n 1) 1 28 := ⟨by decide +kernel, rfl⟩
theorem dX6_isUnderPiece_28 : DI cX6_isUnderPiece 28 (.aload_n 0) 1 29 := ⟨by decide +kernel, rfl⟩
theorem dX6_isUnderPiece_29 : DI cX6_isUnderPiece 29 (.getfield 12) 3 32 := ⟨by decide +kernel, rfl⟩
theorem dX6_isUnderPiece_32 : DI cX6_isUnderPiece 32 (.iload_n 2) 1 33 := ⟨by decide +kernel, rfl⟩
theorem dX6_isUnderPiece_33 : DI cX6_isUnderPiece 33 (.invokevirtual 114) 3 36 := ⟨by decide +kernel, rfl⟩
theorem dX6_isUnderPiece_36 : DI cX6_isUnderPiece 36 (.invokevirtual 110) 3 39 := ⟨by decide +kernel, rfl⟩
theorem dX6_isUnderPiece_39 : DI cX6_isUnderPiece 39 (.iconst (-1)) 1 40 := ⟨by decide +kernel, rfl⟩
theorem dX6_isUnderPiece_40 : DJ cX6_isUnderPiece 40 (.if_icmp .eq 7) 7 47 43 := ⟨by decide +kernel, by decide, rfl⟩
theorem dX6_isUnderPiece_43 : DI cX6_isUnderPiece 43 (.iconst 1) 1 44 := ⟨by decide +kernel, rfl⟩
theorem dX6_isUnderPiece_44 : DJ cX6_isUnderPiece 44 (.goto 4) 4 48 47 := ⟨by decide +kernel, by decide, rfl⟩
theorem dX6_isUnderPiece_47 : DI cX6_isUnderPiece 47 (.iconst 0) 1 48 := ⟨by decide +kernel, rfl⟩
theorem dX6_isUnderPiece_48 : DI cX6_isUnderPiece 48 (.ireturn) 1 49 := ⟨by decide +kernel, rfl⟩
theorem dX6_clearFlaws_0 : DI cX6_clearFlaws 0 (.aload_n 0) 1 1 := ⟨by decide +kernel, rfl⟩
theorem dX6_clearFlaws_1 : DI cX6_clearFlaws 1 (.getfield 12) 3 4 := ⟨by decide +kernel, rfl⟩
theorem dX6_clearFlaws_4 : DI cX6_clearFlaws 4 (.getfield 63) 3 7 := ⟨by decide +kernel, rfl⟩
theorem dX6_clearFlaws_7 : DI cX6_clearFlaws 7 (.istore_n 1) 1 8 := ⟨by decide +kernel, rfl⟩
theorem dX6_clearFlaws_8 : DI cX6_clearFlaws 8 (.aload_n 0) 1 9 := ⟨by decide +kernel, rfl⟩
theorem dX6_clearFlaws_9 : DI cX6_clearFlaws 9 (.getfield 12) 3 12 := ⟨by decide +kernel, rfl⟩
theorem dX6_clearFlaws_12 : DI cX6_clearFlaws 12 (.invokevirtual 118) 3 15 := ⟨by decide +kernel, rfl⟩
theorem dX6_clearFlaws_15 : DI cX6_clearFlaws 15 (.iload_n 1) 1 16 := ⟨by decide +kernel, rfl⟩
theorem dX6_clearFlaws_16 : DI cX6_clearFlaws 16 (.ireturn) 1 17 := ⟨by decide +kernel, rfl⟩
theorem dX6_addShape_0 : DI cX6_addShape 0 (.iload_n 1) 1 1 := ⟨by decide +kernel, rfl⟩
theorem dX6_addShape_1 : DI cX6_addShape 1 (.bipush 110) 2 3 := ⟨by decide +kernel, rfl⟩
theorem dX6_addShape_3 : DJ cX6_addShape 3 (.if_icmp .eq 25) 25 28 6 := ⟨by decide +kernel, by decide, rfl⟩
theorem dX6_addShape_6 : DI cX6_addShape 6 (.iload_n 1) 1 7 := ⟨by decide +kernel, rfl⟩
theorem dX6_addShape_7 : DI cX6_addShape 7 (.bipush 104) 2 9 := ⟨by decide +kernel, rfl⟩
theorem dX6_addShape_9 : DJ cX6_addShape 9 (.if_icmp .eq 19) 19 28 12 := ⟨by decide +kernel, by decide, rfl⟩
theorem dX6_addShape_12 : DI cX6_addShape 12 (.iload_n 1) 1 13 := ⟨by decide +kernel, rfl⟩
theorem dX6_addShape_13 : DI cX6_addShape 13 (.bipush 113) 2 15 := ⟨by decide +kernel, rfl⟩
theorem dX6_addShape_15 : DJ cX6_addShape 15 (.if_icmp .eq 13) 13 28 18 := ⟨by decide +kernel, by decide, rfl⟩
theorem dX6_addShape_18 : DI cX6_addShape 18 (.new 52) 3 21 := ⟨by decide +kernel, rfl⟩
theorem dX6_addShape_21 : DI cX6_addShape 21 (.dup) 1 22 := ⟨by decide +kernel, rfl⟩
theorem dX6_addShape_22 : DI cX6_addShape 22 (.ldc 121) 2 24 := ⟨by decide +kernel, rfl⟩
theorem dX6_addShape_24 : DI cX6_addShape 24 (.invokespecial 56) 3 27 := ⟨by decide +kernel, rfl⟩
theorem dX6_addShape_27 : DI cX6_addShape 27 (.athrow) 1 28 := ⟨by decide +kernel, rfl⟩
theorem dX6_addShape_28 : DI cX6_addShape 28 (.aload_n 0) 1 29 := ⟨by decide +kernel, rfl⟩
theorem dX6_addShape_29 : DI cX6_addShape 29 (.getfield 123) 3 32 := ⟨by decide +kernel, rfl⟩
theorem dX6_addShape_32 : DI cX6_addShape 32 (.istore_n 3) 1 33 := ⟨by decide +kernel, rfl⟩
theorem dX6_addShape_33 : DI cX6_addShape 33 (.iload_n 3) 1 34 := ⟨by decide +kernel, rfl⟩
theorem dX6_addShape_34 : DJ cX6_addShape 34 (.ifCond .lt 12) 12 46 37 := ⟨by decide +kernel, by decide, rfl⟩
theorem dX6_addShape_37 : DI cX6_addShape 37 (.iload_n 3) 1 38 := ⟨by decide +kernel, rfl⟩
theorem dX6_addShape_38 : DI cX6_addShape 38 (.aload_n 0) 1 39 := ⟨by decide +kernel, rfl⟩
theorem dX6_addShape_39 : DI cX6_addShape 39 (.getfield 25) 3 42 := ⟨by decide +kernel, rfl⟩
theorem dX6_addShape_42 : DI cX6_addShape 42 (.arraylength) 1 43 := ⟨by decide +kernel, rfl⟩
theorem dX6_addShape_43 : DJ cX6_addShape 43 (.if_icmp .lt 13) 13 56 46 := ⟨by decide +kernel, by decide, rfl⟩
theorem dX6_addShape_46 : DI cX6_addShape 46 (.new 66) 3 49 := ⟨by decide +kernel, rfl⟩
theorem dX6_addShape_49 : DI cX6_addShape 49 (.dup) 1 50 := ⟨by decide +kernel, rfl⟩
theorem dX6_addShape_50 : DI cX6_addShape 50 (.ldc 126) 2 52 := ⟨by decide +kernel, rfl⟩
theorem dX6_addShape_52 : DI cX6_addShape 52 (.invokespecial 70) 3 55 := ⟨by decide +kernel, rfl⟩
theorem dX6_addShape_55 : DI cX6_addShape 55 (.athrow) 1 56 := ⟨by decide +kernel, rfl⟩
theorem dX6_addShape_56 : DI cX6_addShape 56 (.aload_n 0) 1 57 := ⟨by decide +kernel, rfl⟩
theorem dX6_addShape_57 : DI cX6_addShape 57 (.getfield 25) 3 60 := ⟨by decide +kernel, rfl⟩
theorem dX6_addShape_60 : DI cX6_addShape 60 (.iload_n 3) 1 61 := ⟨by decide +kernel, rfl⟩
theorem dX6_addShape_61 : DI cX6_addShape 61 (.new 23) 3 64 := ⟨by decide +kernel, rfl⟩
theorem dX6_addShape_64 : DI cX6_addShape 64 (.dup) 1 65 := ⟨by decide +kernel, rfl⟩
theorem dX6_addShape_65 : DI cX6_addShape 65 (.iload_n 1) 1 66 := ⟨by decide +kernel, rfl⟩
theorem dX6_addShape_66 : DI cX6_addShape 66 (.iload_n 2) 1 67 := ⟨by decide +kernel, rfl⟩
theorem dX6_addShape_67 : DI cX6_addShape 67 (.invokespecial 128) 3 70 := ⟨by decide +kernel, rfl⟩
theorem dX6_addShape_70 : DI cX6_addShape 70 (.aastore) 1 71 := ⟨by decide +kernel, rfl⟩
theorem dX6_addShape_71 : DI cX6_addShape 71 (.aload_n 0) 1 72 := ⟨by decide +kernel, rfl⟩
theorem dX6_addShape_72 : DI cX6_addShape 72 (.dup) 1 73 := ⟨by decide +kernel, rfl⟩
theorem dX6_addShape_73 : DI cX6_addShape 73 (.getfield 123) 3 76 := ⟨by decide +kernel, rfl⟩
theorem dX6_addShape_76 : DI cX6_addShape 76 (.iconst 1) 1 77 := ⟨by decide +kernel, rfl⟩
theorem dX6_addShape_77 : DI cX6_addShape 77 (.iadd) 1 78 := ⟨by decide +kernel, rfl⟩
theorem dX6_addShape_78 : DI cX6_addShape 78 (.putfield 123) 3 81 := ⟨by decide +kernel, rfl⟩
theorem dX6_addShape_81 : DI cX6_addShape 81 (.iload_n 3) 1 82 := ⟨by decide +kernel, rfl⟩
theorem dX6_addShape_82 : DI cX6_addShape 82 (.ireturn) 1 83 := ⟨by decide +kernel, rfl⟩
theorem dX6_addCell_0 : DI cX6_addCell 0 (.aload_n 0) 1 1 := ⟨by decide +kernel, rfl⟩
theorem dX6_addCell_1 : DI cX6_addCell 1 (.iload_n 1) 1 2 := ⟨by decide +kernel, rfl⟩
theorem dX6_addCell_2 : DI cX6_addCell 2 (.invokevirtual 131) 3 5 := ⟨by decide +kernel, rfl⟩
theorem dX6_addCell_5 : DI cX6_addCell 5 (.astore 4) 2 7 := ⟨by decide +kernel, rfl⟩
theorem dX6_addCell_7 : DI cX6_addCell 7 (.iload_n 2) 1 8 := ⟨by decide +kernel, rfl⟩
theorem dX6_addCell_8 : DI cX6_addCell 8 (.iconst 0) 1 9 := ⟨by decide +kernel, rfl⟩
theorem dX6_addCell_9 : DI cX6_addCell 9 (.iconst 4) 1 10 := ⟨by decide +kernel, rfl⟩
theorem dX6_addCell_10 : DI cX6_addCell 10 (.invokestatic 48) 3 13 := ⟨by decide +kernel, rfl⟩
theorem dX6_addCell_13 : DJ cX6_addCell 13 (.ifCond .eq 12) 12 25 16 := ⟨by decide +kernel, by decide, rfl⟩
theorem dX6_addCell_16 : DI cX6_addCell 16 (.iload_n 3) 1 17 := ⟨by decide +kernel, rfl⟩
theorem dX6_addCell_17 : DI cX6_addCell 17 (.iconst 0) 1 18 := ⟨by decide +kernel, rfl⟩
theorem dX6_addCell_18 : DI cX6_addCell 18 (.iconst 4) 1 19 := ⟨by decide +kernel, rfl⟩
theorem dX6_addCell_19 : DI cX6_addCell 19 (.invokestatic 48) 3 22 := ⟨by decide +kernel, rfl⟩
theorem dX6_addCell_22 : DJ cX6_addCell 22 (.ifCond .ne 13) 13 35 25 := ⟨by decide +kernel, by decide, rfl⟩
theorem dX6_addCell_25 : DI cX6_addCell 25 (.new 52) 3 28 := ⟨by decide +kernel, rfl⟩
theorem dX6_addCell_28 : DI cX6_addCell 28 (.dup) 1 29 := ⟨by decide +kernel, rfl⟩
theorem dX6_addCell_29 : DI cX6_addCell 29 (.ldc 135) 2 31 := ⟨by decide +kernel, rfl⟩
theorem dX6_addCell_31 : DI cX6_addCell 31 (.invokespecial 56) 3 34 := ⟨by decide +kernel, rfl⟩
theorem dX6_addCell_34 : DI cX6_addCell 34 (.athrow) 1 35 := ⟨by decide +kernel, rfl⟩
theorem dX6_addCell_35 : DI cX6_addCell 35 (.aload 4) 2 37 := ⟨by decide +kernel, rfl⟩
theorem dX6_addCell_37 : DI cX6_addCell 37 (.iload_n 2) 1 38 := ⟨by decide +kernel, rfl⟩
theorem dX6_addCell_38 : DI cX6_addCell 38 (.iload_n 3) 1 39 := ⟨by decide +kernel, rfl⟩
theorem dX6_addCell_39 : DI cX6_addCell 39 (.invokevirtual 137) 3 42 := ⟨by decide +kernel, rfl⟩
theorem dX6_addCell_42 : DJ cX6_addCell 42 (.ifCond .eq 13) 13 55 45 := ⟨by decide +kernel, by decide, rfl⟩
theorem dX6_addCell_45 : DI cX6_addCell 45 (.new 96) 3 48 := ⟨by decide +kernel, rfl⟩
theorem dX6_addCell_48 : DI cX6_addCell 48 (.dup) 1 49 := ⟨by decide +kernel, rfl⟩
theorem dX6_addCell_49 : DI cX6_addCell 49 (.ldc 140) 2 51 := ⟨by decide +kernel, rfl⟩
theorem dX6_addCell_51 : DI cX6_addCell 51 (.invokespecial 100) 3 54 := ⟨by decide +kernel, rfl⟩
theorem dX6_addCell_54 : DI cX6_addCell 54 (.athrow) 1 55 := ⟨by decide +kernel, rfl⟩
theorem dX6_addCell_55 : DI cX6_addCell 55 (.aload_n 0) 1 56 := ⟨by decide +kernel, rfl⟩
theorem dX6_addCell_56 : DI cX6_addCell 56 (.getfield 19) 3 59 := ⟨by decide +kernel, rfl⟩
theorem dX6_addCell_59 : DI cX6_addCell 59 (.aload 4) 2 61 := ⟨by decide +kernel, rfl⟩
theorem dX6_addCell_61 : DI cX6_addCell 61 (.invokevirtual 142) 3 64 := ⟨by decide +kernel, rfl⟩
theorem dX6_addCell_64 : DJ cX6_addCell 64 (.ifCond .ne 13) 13 77 67 := ⟨by decide +kernel, by decide, rfl⟩
theorem dX6_addCell_67 : DI cX6_addCell 67 (.aload 4) 2 69 := ⟨by decide +kernel, rfl⟩
theorem dX6_addCell_69 : DI cX6_addCell 69 (.getfield 146) 3 72 := ⟨by decide +kernel, rfl⟩
theorem dX6_addCell_72 : DI cX6_addCell 72 (.lconst 0) 1 73 := ⟨by decide +kernel, rfl⟩
theorem dX6_addCell_73 : DI cX6_addCell 73 (.lcmp) 1 74 := ⟨by decide +kernel, rfl⟩
theorem dX6_addCell_74 : DJ cX6_addCell 74 (.ifCond .le 13) 13 87 77 := ⟨by decide +kernel, by decide, rfl⟩
theorem dX6_addCell_77 : DI cX6_addCell 77 (.new 66) 3 80 := ⟨by decide +kernel, rfl⟩
theorem dX6_addCell_80 : DI cX6_addCell 80 (.dup) 1 81 := ⟨by decide +kernel, rfl⟩
theorem dX6_addCell_81 : DI cX6_addCell 81 (.ldc 150) 2 83 := ⟨by decide +kernel, rfl⟩
theorem dX6_addCell_83 : DI cX6_addCell 83 (.invokespecial 70) 3 86 := ⟨by decide +kernel, rfl⟩
theorem dX6_addCell_86 : DI cX6_addCell 86 (.athrow) 1 87 := ⟨by decide +kernel, rfl⟩
theorem dX6_addCell_87 : DI cX6_addCell 87 (.aload 4) 2 89 := ⟨by decide +kernel, rfl⟩
theorem dX6_addCell_89 : DI cX6_addCell 89 (.iload_n 2) 1 90 := ⟨by decide +kernel, rfl⟩
theorem dX6_addCell_90 : DI cX6_addCell 90 (.iload_n 3) 1 91 := ⟨by decide +kernel, rfl⟩
theorem dX6_addCell_91 : DI cX6_addCell 91 (.invokevirtual 152) 3 94 := ⟨by decide +kernel, rfl⟩
theorem dX6_addCell_94 : DI cX6_addCell 94 (.aload 4) 2 96 := ⟨by decide +kernel, rfl⟩
theorem dX6_addCell_96 : DI cX6_addCell 96 (.getfield 155) 3 99 := ⟨by decide +kernel, rfl⟩
theorem dX6_addCell_99 : DI cX6_addCell 99 (.ireturn) 1 100 := ⟨by decide +kernel, rfl⟩
theorem dX6_setMark_0 : DI cX6_setMark 0 (.aload_n 0) 1 1 := ⟨by decide +kernel, rfl⟩
theorem dX6_setMark_1 : DI cX6_setMark 1 (.iload_n 1) 1 2 := ⟨by decide +kernel, rfl⟩
theorem dX6_setMark_2 : DI cX6_setMark 2 (.invokevirtual 131) 3 5 := ⟨by decide +kernel, rfl⟩
theorem dX6_setMark_5 : DI cX6_setMark 5 (.astore 5) 2 7 := ⟨by decide +kernel, rfl⟩
theorem dX6_setMark_7 : DI cX6_setMark 7 (.iload_n 2) 1 8 := ⟨by decide +kernel, rfl⟩
theorem dX6_setMark_8 : DI cX6_setMark 8 (.iconst (-1)) 1 9 := ⟨by decide +kernel, rfl⟩
theorem dX6_setMark_9 : DI cX6_setMark 9 (.iconst 3) 1 10 := ⟨by decide +kernel, rfl⟩
theorem dX6_setMark_10 : DI cX6_setMark 10 (.invokestatic 48) 3 13 := ⟨by decide +kernel, rfl⟩
theorem dX6_setMark_13 : DJ cX6_setMark 13 (.ifCond .eq 22) 22 35 16 := ⟨by decide +kernel, by decide, rfl⟩
theorem dX6_setMark_16 : DI cX6_setMark 16 (.iload_n 3) 1 17 := ⟨by decide +kernel, rfl⟩
theorem dX6_setMark_17 : DI cX6_setMark 17 (.iconst 0) 1 18 := ⟨by decide +kernel, rfl⟩
theorem dX6_setMark_18 : DI cX6_setMark 18 (.iconst 4) 1 19 := ⟨by decide +kernel, rfl⟩
theorem dX6_setMark_19 : DI cX6_setMark 19 (.invokestatic 48) 3 22 := ⟨by decide +kernel, rfl⟩
theorem dX6_setMark_22 : DJ cX6_setMark 22 (.ifCond .eq 13) 13 35 25 := ⟨by decide +kernel, by decide, rfl⟩
theorem dX6_setMark_25 : DI cX6_setMark 25 (.iload 4) 2 27 := ⟨by decide +kernel, rfl⟩
theorem dX6_setMark_27 : DI cX6_setMark 27 (.iconst 0) 1 28 := ⟨by decide +kernel, rfl⟩
theorem dX6_setMark_28 : DI cX6_setMark 28 (.iconst 4) 1 29 := ⟨by decide +kernel, rfl⟩
theorem dX6_setMark_29 : DI cX6_setMark 29 (.invokestatic 48) 3 32 := ⟨by decide +kernel, rfl⟩
theorem dX6_setMark_32 : DJ cX6_setMark 32 (.ifCond .ne 13) 13 45 35 := ⟨by decide +kernel, by decide, rfl⟩
theorem dX6_setMark_35 : DI cX6_setMark 35 (.new 52) 3 38 := ⟨by decide +kernel, rfl⟩
theorem dX6_setMark_38 : DI cX6_setMark 38 (.dup) 1 39 := ⟨by decide +kernel, rfl⟩
theorem dX6_setMark_39 : DI cX6_setMark 39 (.ldc 158) 2 41 := ⟨by decide +kernel, rfl⟩
theorem dX6_setMark_41 : DI cX6_setMark 41 (.invokespecial 56) 3 44 := ⟨by decide +kernel, rfl⟩
theorem dX6_setMark_44 : DI cX6_setMark 44 (.athrow) 1 45 := ⟨by decide +kernel, rfl⟩
theorem dX6_setMark_45 : DI cX6_setMark 45 (.aload_n 0) 1 46 := ⟨by decide +kernel, rfl⟩
theorem dX6_setMark_46 : DI cX6_setMark 46 (.getfield 19) 3 49 := ⟨by decide +kernel, rfl⟩
theorem dX6_setMark_49 : DI cX6_setMark 49 (.aload 5) 2 51 := ⟨by decide +kernel, rfl⟩
theorem dX6_setMark_51 : DI cX6_setMark 51 (.invokevirtual 142) 3 54 := ⟨by decide +kernel, rfl⟩
theorem dX6_setMark_54 : DJ cX6_setMark 54 (.ifCond .eq 13) 13 67 57 := ⟨by decide +kernel, by decide, rfl⟩
theorem dX6_setMark_57 : DI cX6_setMark 57 (.new 66) 3 60 := ⟨by decide +kernel, rfl⟩
theorem dX6_setMark_60 : DI cX6_setMark 60 (.dup) 1 61 := ⟨by decide +kernel, rfl⟩
theorem dX6_setMark_61 : DI cX6_setMark 61 (.ldc 160) 2 63 := ⟨by decide +kernel, rfl⟩
theorem dX6_setMark_63 : DI cX6_setMark 63 (.invokespecial 70) 3 66 := ⟨by decide +kernel, rfl⟩
theorem dX6_setMark_66 : DI cX6_setMark 66 (.athrow) 1 67 := ⟨by decide +kernel, rfl⟩
theorem dX6_setMark_67 : DI cX6_setMark 67 (.aload 5) 2 69 := ⟨by decide +kernel, rfl⟩
theorem dX6_setMark_69 : DI cX6_setMark 69 (.getfield 162) 3 72 := ⟨by decide +kernel, rfl⟩
theorem dX6_setMark_72 : DI cX6_setMark 72 (.istore 6) 2 74 := ⟨by decide +kernel, rfl⟩
theorem dX6_setMark_74 : DI cX6_setMark 74 (.aload 5) 2 76 := ⟨by decide +kernel, rfl⟩
theorem dX6_setMark_76 : DI cX6_setMark 76 (.iload_n 2) 1 77 := ⟨by decide +kernel, rfl⟩
theorem dX6_setMark_77 : DI cX6_setMark 77 (.iload_n 3) 1 78 := ⟨by decide +kernel, rfl⟩
theorem dX6_setMark_78 : DI cX6_setMark 78 (.iload 4) 2 80 := ⟨by decide +kernel, rfl⟩
theorem dX6_setMark_80 : DI cX6_setMark 80 (.invokevirtual 165) 3 83 := ⟨by decide +kernel, rfl⟩
theorem dX6_setMark_83 : DI cX6_setMark 83 (.iload 6) 2 85 := ⟨by decide +kernel, rfl⟩
theorem dX6_setMark_85 : DI cX6_setMark 85 (.ireturn) 1 86 := ⟨by decide +kernel, rfl⟩
theorem dX6_cellsOf_0 : DI cX6_cellsOf 0 (.aload_n 0) 1 1 := ⟨by decide +kernel, rfl⟩
theorem dX6_cellsOf_1 : DI cX6_cellsOf 1 (.iload_n 1) 1 2 := ⟨by decide +kernel, rfl⟩
theorem dX6_cellsOf_2 : DI cX6_cellsOf 2 (.invokevirtual 131) 3 5 := ⟨by decide +kernel, rfl⟩
theorem dX6_cellsOf_5 : DI cX6_cellsOf 5 (.getfield 155) 3 8 := ⟨by decide +kernel, rfl⟩
theorem dX6_cellsOf_8 : DI cX6_cellsOf 8 (.ireturn) 1 9 := ⟨by decide +kernel, rfl⟩
theorem dX6_shapeOrThrow_0 : DI cX6_shapeOrThrow 0 (.aload_n 0) 1 1 := ⟨by decide +kernel, rfl⟩
theorem dX6_shapeOrThrow_1 : DI cX6_shapeOrThrow 1 (.iload_n 1) 1 2 := ⟨by decide +kernel, rfl⟩
theorem dX6_shapeOrThrow_2 : DI cX6_shapeOrThrow 2 (.invokevirtual 169) 3 5 := ⟨by decide +kernel, rfl⟩
theorem dX6_shapeOrThrow_5 : DI cX6_shapeOrThrow 5 (.astore_n 2) 1 6 := ⟨by decide +kernel, rfl⟩
theorem dX6_shapeOrThrow_6 : DI cX6_shapeOrThrow 6 (.aload_n 2) 1 7 := ⟨by decide +kernel, rfl⟩
theorem dX6_shapeOrThrow_7 : DJ cX6_shapeOrThrow 7 (.ifnonnull 13) 13 20 10 := ⟨by decide +kernel, by decide, rfl⟩
theorem dX6_shapeOrThrow_10 : DI cX6_shapeOrThrow 10 (.new 172) 3 13 := ⟨by decide +kernel, rfl⟩
theorem dX6_shapeOrThrow_13 : DI cX6_shapeOrThrow 13 (.dup) 1 14 := ⟨by decide +kernel, rfl⟩
theorem dX6_shapeOrThrow_14 : DI cX6_shapeOrThrow 14 (.ldc 174) 2 16 := ⟨by decide +kernel, rfl⟩
theorem dX6_shapeOrThrow_16 : DI cX6_shapeOrThrow 16 (.invokespecial 176) 3 19 := ⟨by decide +kernel, rfl⟩
theorem dX6_shapeOrThrow_19 : DI cX6_shapeOrThrow 19 (.athrow) 1 20 := ⟨by decide +kernel, rfl⟩
theorem dX6_shapeOrThrow_20 : DI cX6_shapeOrThrow 20 (.aload_n 2) 1 21 := ⟨by decide +kernel, rfl⟩
theorem dX6_shapeOrThrow_21 : DI cX6_shapeOrThrow 21 (.areturn) 1 22 := ⟨by decide +kernel, rfl⟩
theorem dX6_shapeNumbered_0 : DI cX6_shapeNumbered 0 (.iload_n 1) 1 1 := ⟨by decide +kernel, rfl⟩
theorem dX6_shapeNumbered_1 : DJ cX6_shapeNumbered 1 (.ifCond .lt 21) 21 22 4 := ⟨by decide +kernel, by decide, rfl⟩
theorem dX6_shapeNumbered_4 : DI cX6_shapeNumbered 4 (.iload_n 1) 1 5 := ⟨by decide +kernel, rfl⟩
theorem dX6_shapeNumbered_5 : DI cX6_shapeNumbered 5 (.aload_n 0) 1 6 := ⟨by decide +kernel, rfl⟩
theorem dX6_shapeNumbered_6 : DI cX6_shapeNumbered 6 (.getfield 25) 3 9 := ⟨by decide +kernel, rfl⟩
theorem dX6_shapeNumbered_9 : DI cX6_shapeNumbered 9 (.arraylength) 1 10 := ⟨by decide +kernel, rfl⟩
theorem dX6_shapeNumbered_10 : DJ cX6_shapeNumbered 10 (.if_icmp .ge 12) 12 22 13 := ⟨by decide +kernel, by decide, rfl⟩
theorem dX6_shapeNumbered_13 : DI cX6_shapeNumbered 13 (.aload_n 0) 1 14 := ⟨by decide +kernel, rfl⟩
theorem dX6_shapeNumbered_14 : DI cX6_shapeNumbered 14 (.getfield 25) 3 17 := ⟨by decide +kernel, rfl⟩
theorem dX6_shapeNumbered_17 : DI cX6_shapeNumbered 17 (.iload_n 1) 1 18 := ⟨by decide +kernel, rfl⟩
theorem dX6_shapeNumbered_18 : DI cX6_shapeNumbered 18 (.aaload) 1 19 := ⟨by decide +kernel, rfl⟩
theorem dX6_shapeNumbered_19 : DJ cX6_shapeNumbered 19 (.goto 4) 4 23 22 := ⟨by decide +kernel, by decide, rfl⟩
theorem dX6_shapeNumbered_22 : DI cX6_shapeNumbered 22 (.aconst_null) 1 23 := ⟨by decide +kernel, rfl⟩
theorem dX6_shapeNumbered_23 : DI cX6_shapeNumbered 23 (.areturn) 1 24 := ⟨by decide +kernel, rfl⟩
theorem dX6_lay_0 : DI cX6_lay 0 (.aload_n 0) 1 1 := ⟨by decide +kernel, rfl⟩
theorem dX6_lay_1 : DI cX6_lay 1 (.iload_n 1) 1 2 := ⟨by decide +kernel, rfl⟩
theorem dX6_lay_2 : DI cX6_lay 2 (.invokevirtual 131) 3 5 := ⟨by decide +kernel, rfl⟩
theorem dX6_lay_5 : DI cX6_lay 5 (.astore 6) 2 7 := ⟨by decide +kernel, rfl⟩
theorem dX6_lay_7 : DI cX6_lay 7 (.iload_n 2) 1 8 := ⟨by decide +kernel, rfl⟩
theorem dX6_lay_8 : DI cX6_lay 8 (.invokestatic 177) 3 11 := ⟨by decide +kernel, rfl⟩
theorem dX6_lay_11 : DI cX6_lay 11 (.aload_n 0) 1 12 := ⟨by decide +kernel, rfl⟩
theorem dX6_lay_12 : DI cX6_lay 12 (.getfield 19) 3 15 := ⟨by decide +kernel, rfl⟩
theorem dX6_lay_15 : DI cX6_lay 15 (.aload_n 0) 1 16 := ⟨by decide +kernel, rfl⟩
theorem dX6_lay_16 : DI cX6_lay 16 (.getfield 12) 3 19 := ⟨by decide +kernel, rfl⟩
theorem dX6_lay_19 : DI cX6_lay 19 (.aload 6) 2 21 := ⟨by decide +kernel, rfl⟩
theorem dX6_lay_21 : DI cX6_lay 21 (.iload_n 2) 1 22 := ⟨by decide +kernel, rfl⟩
theorem dX6_lay_22 : DI cX6_lay 22 (.iload_n 3) 1 23 := ⟨by decide +kernel, rfl⟩
theorem dX6_lay_23 : DI cX6_lay 23 (.iload 4) 2 25 := ⟨by decide +kernel, rfl⟩
theorem dX6_lay_25 : DI cX6_lay 25 (.iload 5) 2 27 := ⟨by decide +kernel, rfl⟩
theorem dX6_lay_27 : DI cX6_lay 27 (.invokevirtual 181) 3 30 := ⟨by decide +kernel, rfl⟩
theorem dX6_lay_30 : DI cX6_lay 30 (.bipush 45) 2 32 := ⟨by decide +kernel, rfl⟩
theorem dX6_lay_32 : DJ cX6_lay 32 (.if_icmp .eq 13) 13 45 35 := ⟨by decide +kernel, by decide, rfl⟩
theorem dX6_lay_35 : DI cX6_lay 35 (.new 96) 3 38 := ⟨by decide +kernel, rfl⟩
theorem dX6_lay_38 : DI cX6_lay 38 (.dup) 1 39 := ⟨by decide +kernel, rfl⟩
theorem dX6_lay_39 : DI cX6_lay 39 (.ldc 185) 2 41 := ⟨by decide +kernel, rfl⟩
theorem dX6_lay_41 : DI cX6_lay 41 (.invokespecial 100) 3 44 := ⟨by decide +kernel, rfl⟩
theorem dX6_lay_44 : DI cX6_lay 44 (.athrow) 1 45 := ⟨by decide +kernel, rfl⟩
theorem dX6_lay_45 : DI cX6_lay 45 (.aload_n 0) 1 46 := ⟨by decide +kernel, rfl⟩
theorem dX6_lay_46 : DI cX6_lay 46 (.getfield 19) 3 49 := ⟨by decide +kernel, rfl⟩
theorem dX6_lay_49 : DI cX6_lay 49 (.invokevirtual 187) 3 52 := ⟨by decide +kernel, rfl⟩
theorem dX6_lay_52 : DJ cX6_lay 52 (.ifCond .eq 13) 13 65 55 := ⟨by decide +kernel, by decide, rfl⟩
theorem dX6_lay_55 : DI cX6_lay 55 (.new 66) 3 58 := ⟨by decide +kernel, rfl⟩
theorem dX6_lay_58 : DI cX6_lay 58 (.dup) 1 59 := ⟨by decide +kernel, rfl⟩
theorem dX6_lay_59 : DI cX6_lay 59 (.ldc 191) 2 61 := ⟨by decide +kernel, rfl⟩
theorem dX6_lay_61 : DI cX6_lay 61 (.invokespecial 70) 3 64 := ⟨by decide +kernel, rfl⟩
theorem dX6_lay_64 : DI cX6_lay 64 (.athrow) 1 65 := ⟨by decide +kernel, rfl⟩
theorem dX6_lay_65 : DI cX6_lay 65 (.aload_n 0) 1 66 := ⟨by decide +kernel, rfl⟩
theorem dX6_lay_66 : DI cX6_lay 66 (.getfield 19) 3 69 := ⟨by decide +kernel, rfl⟩
theorem dX6_lay_69 : DI cX6_lay 69 (.aload_n 0) 1 70 := ⟨by decide +kernel, rfl⟩
theorem dX6_lay_70 : DI cX6_lay 70 (.getfield 12) 3 73 := ⟨by decide +kernel, rfl⟩
theorem dX6_lay_73 : DI cX6_lay 73 (.aload 6) 2 75 := ⟨by decide +kernel, rfl⟩
theorem dX6_lay_75 : DI cX6_lay 75 (.iload_n 2) 1 76 := ⟨by decide +kernel, rfl⟩
theorem dX6_lay_76 : DI cX6_lay 76 (.iload_n 3) 1 77 := ⟨by decide +kernel, rfl⟩
theorem dX6_lay_77 : DI cX6_lay 77 (.iload 4) 2 79 := ⟨by decide +kernel, rfl⟩
theorem dX6_lay_79 : DI cX6_lay 79 (.iload 5) 2 81 := ⟨by decide +kernel, rfl⟩
theorem dX6_lay_81 : DI cX6_lay 81 (.invokevirtual 193) 3 84 := ⟨by decide +kernel, rfl⟩
theorem dX6_lay_84 : DI cX6_lay 84 (.ireturn) 1 85 := ⟨by decide +kernel, rfl⟩
theorem dX6_reason_0 : DI cX6_reason 0 (.aload_n 0) 1 1 := ⟨by decide +kernel, rfl⟩
theorem dX6_reason_1 : DI cX6_reason 1 (.iload_n 1) 1 2 := ⟨by decide +kernel, rfl⟩
theorem dX6_reason_2 : DI cX6_reason 2 (.invokevirtual 131) 3 5 := ⟨by decide +kernel, rfl⟩
theorem dX6_reason_5 : DI cX6_reason 5 (.astore 6) 2 7 := ⟨by decide +kernel, rfl⟩
theorem dX6_reason_7 : DI cX6_reason 7 (.iload_n 2) 1 8 := ⟨by decide +kernel, rfl⟩
theorem dX6_reason_8 : DI cX6_reason 8 (.invokestatic 177) 3 11 := ⟨by decide +kernel, rfl⟩
theorem dX6_reason_11 : DI cX6_reason 11 (.aload_n 0) 1 12 := ⟨by decide +kernel, rfl⟩
theorem dX6_reason_12 : DI cX6_reason 12 (.getfield 19) 3 15 := ⟨by decide +kernel, rfl⟩
theorem dX6_reason_15 : DI cX6_reason 15 (.aload_n 0) 1 16 := ⟨by decide +kernel, rfl⟩
theorem dX6_reason_16 : DI cX6_reason 16 (.getfield 12) 3 19 := ⟨by decide +kernel, rfl⟩
theorem dX6_reason_19 : DI cX6_reason 19 (.aload 6) 2 21 := ⟨by decide +kernel, rfl⟩
theorem dX6_reason_21 : DI cX6_reason 21 (.iload_n 2) 1 22 := ⟨by decide +kernel, rfl⟩
theorem dX6_reason_22 : DI cX6_reason 22 (.iload_n 3) 1 23 := ⟨by decide +kernel, rfl⟩
theorem dX6_reason_23 : DI cX6_reason 23 (.iload 4) 2 25 := ⟨by decide +kernel, rfl⟩
theorem dX6_reason_25 : DI cX6_reason 25 (.iload 5) 2 27 := ⟨by decide +kernel, rfl⟩
theorem dX6_reason_27 : DI cX6_reason 27 (.invokevirtual 181) 3 30 := ⟨by decide +kernel, rfl⟩
theorem dX6_reason_30 : DI cX6_reason 30 (.ireturn) 1 31 := ⟨by decide +kernel, rfl⟩
theorem dX6_checkTurns_0 : DI cX6_checkTurns 0 (.iload_n 0) 1 1 := ⟨by decide +kernel, rfl⟩
theorem dX6_checkTurns_1 : DI cX6_checkTurns 1 (.iconst 0) 1 2 := ⟨by decide +kernel, rfl⟩
theorem dX6_checkTurns_2 : DI cX6_checkTurns 2 (.iconst 3) 1 3 := ⟨by decide +kernel, rfl⟩
theorem dX6_checkTurns_3 : DI cX6_checkTurns 3 (.invokestatic 48) 3 6 := ⟨by decide +kernel, rfl⟩
theorem dX6_checkTurns_6 : DJ cX6_checkTurns 6 (.ifCond .ne 13) 13 19 9 := ⟨by decide +kernel, by decide, rfl⟩
theorem dX6_checkTurns_9 : DI cX6_checkTurns 9 (.new 52) 3 12 := ⟨by decide +kernel, rfl⟩
theorem dX6_checkTurns_12 : DI cX6_checkTurns 12 (.dup) 1 13 := ⟨by decide +kernel, rfl⟩
theorem dX6_checkTurns_13 : DI cX6_checkTurns 13 (.ldc 197) 2 15 := ⟨by decide +kernel, rfl⟩
theorem dX6_checkTurns_15 : DI cX6_checkTurns 15 (.invokespecial 56) 3 18 := ⟨by decide +kernel, rfl⟩
theorem dX6_checkTurns_18 : DI cX6_checkTurns 18 (.athrow) 1 19 := ⟨by decide +kernel, rfl⟩
theorem dX6_checkTurns_19 : DI cX6_checkTurns 19 (.return_) 1 20 := ⟨by decide +kernel, rfl⟩
theorem dX6_nest_0 : DI cX6_nest 0 (.aload_n 0) 1 1 := ⟨by decide +kernel, rfl⟩
theorem dX6_nest_1 : DI cX6_nest 1 (.iload_n 1) 1 2 := ⟨by decide +kernel, rfl⟩
theorem dX6_nest_2 : DI cX6_nest 2 (.invokevirtual 131) 3 5 := ⟨by decide +kernel, rfl⟩
theorem dX6_nest_5 : DI cX6_nest 5 (.astore_n 3) 1 6 := ⟨by decide +kernel, rfl⟩
theorem dX6_nest_6 : DI cX6_nest 6 (.aload_n 0) 1 7 := ⟨by decide +kernel, rfl⟩
theorem dX6_nest_7 : DI cX6_nest 7 (.getfield 19) 3 10 := ⟨by decide +kernel, rfl⟩
theorem dX6_nest_10 : DI cX6_nest 10 (.aload_n 0) 1 11 := ⟨by decide +kernel, rfl⟩
theorem dX6_nest_11 : DI cX6_nest 11 (.getfield 12) 3 14 := ⟨by decide +kernel, rfl⟩
theorem dX6_nest_14 : DI cX6_nest 14 (.aload_n 3) 1 15 := ⟨by decide +kernel, rfl⟩
theorem dX6_nest_15 : DI cX6_nest 15 (.iload_n 2) 1 16 := ⟨by decide +kernel, rfl⟩
theorem dX6_nest_16 : DI cX6_nest 16 (.invokevirtual 199) 3 19 := ⟨by decide +kernel, rfl⟩
theorem dX6_nest_19 : DI cX6_nest 19 (.istore 4) 2 21 := ⟨by decide +kernel, rfl⟩
theorem dX6_nest_21 : DI cX6_nest 21 (.iload 4) 2 23 := ⟨by decide +kernel, rfl⟩
theorem dX6_nest_23 : DI cX6_nest 23 (.iconst (-1)) 1 24 := ⟨by decide +kernel, rfl⟩
theorem dX6_nest_24 : DJ cX6_nest 24 (.if_icmp .ne 13) 13 37 27 := ⟨by decide +kernel, by decide, rfl⟩
theorem dX6_nest_27 : DI cX6_nest 27 (.new 203) 3 30 := ⟨by decide +kernel, rfl⟩
theorem dX6_nest_30 : DI cX6_nest 30 (.dup) 1 31 := ⟨by decide +kernel, rfl⟩
theorem dX6_nest_31 : DI cX6_nest 31 (.ldc 205) 2 33 := ⟨by decide +kernel, rfl⟩
theorem dX6_nest_33 : DI cX6_nest 33 (.invokespecial 207) 3 36 := ⟨by decide +kernel, rfl⟩
theorem dX6_nest_36 : DI cX6_nest 36 (.athrow) 1 37 := ⟨by decide +kernel, rfl⟩
theorem dX6_nest_37 : DI cX6_nest 37 (.aload_n 0) 1 38 := ⟨by decide +kernel, rfl⟩
theorem dX6_nest_38 : DI cX6_nest 38 (.getfield 19) 3 41 := ⟨by decide +kernel, rfl⟩
theorem dX6_nest_41 : DI cX6_nest 41 (.invokevirtual 187) 3 44 := ⟨by decide +kernel, rfl⟩
theorem dX6_nest_44 : DJ cX6_nest 44 (.ifCond .eq 13) 13 57 47 := ⟨by decide +kernel, by decide, rfl⟩
theorem dX6_nest_47 : DI cX6_nest 47 (.new 66) 3 50 := ⟨by decide +kernel, rfl⟩
theorem dX6_nest_50 : DI cX6_nest 50 (.dup) 1 51 := ⟨by decide +kernel, rfl⟩
theorem dX6_nest_51 : DI cX6_nest 51 (.ldc 191) 2 53 := ⟨by decide +kernel, rfl⟩
theorem dX6_nest_53 : DI cX6_nest 53 (.invokespecial 70) 3 56 := ⟨by decide +kernel, rfl⟩
theorem dX6_nest_56 : DI cX6_nest 56 (.athrow) 1 57 := ⟨by decide +kernel, rfl⟩
theorem dX6_nest_57 : DI cX6_nest 57 (.aload_n 0) 1 58 := ⟨by decide +kernel, rfl⟩
theorem dX6_nest_58 : DI cX6_nest 58 (.getfield 19) 3 61 := ⟨by decide +kernel, rfl⟩
theorem dX6_nest_61 : DI cX6_nest 61 (.aload_n 0) 1 62 := ⟨by decide +kernel, rfl⟩
theorem dX6_nest_62 : DI cX6_nest 62 (.getfield 12) 3 65 := ⟨by decide +kernel, rfl⟩
theorem dX6_nest_65 : DI cX6_nest 65 (.aload_n 3) 1 66 := ⟨by decide +kernel, rfl⟩
theorem dX6_nest_66 : DI cX6_nest 66 (.iload 4) 2 68 := ⟨by decide +kernel, rfl⟩
theorem dX6_nest_68 : DI cX6_nest 68 (.iload_n 2) 1 69 := ⟨by decide +kernel, rfl⟩
theorem dX6_nest_69 : DI cX6_nest 69 (.invokevirtual 208) 3 72 := ⟨by decide +kernel, rfl⟩
theorem dX6_nest_72 : DI cX6_nest 72 (.ireturn) 1 73 := ⟨by decide +kernel, rfl⟩
theorem dX6_takeOff_0 : DI cX6_takeOff 0 (.aload_n 0) 1 1 := ⟨by decide +kernel, rfl⟩
theorem dX6_takeOff_1 : DI cX6_takeOff 1 (.iload_n 1) 1 2 := ⟨by decide +kernel, rfl⟩
theorem dX6_takeOff_2 : DI cX6_takeOff 2 (.invokevirtual 212) 3 5 := ⟨by decide +kernel, rfl⟩
theorem dX6_takeOff_5 : DI cX6_takeOff 5 (.pop) 1 6 := ⟨by decide +kernel, rfl⟩
theorem dX6_takeOff_6 : DI cX6_takeOff 6 (.aload_n 0) 1 7 := ⟨by decide +kernel, rfl⟩
theorem dX6_takeOff_7 : DI cX6_takeOff 7 (.getfield 19) 3 10 := ⟨by decide +kernel, rfl⟩
theorem dX6_takeOff_10 : DI cX6_takeOff 10 (.iload_n 1) 1 11 := ⟨by decide +kernel, rfl⟩
theorem dX6_takeOff_11 : DI cX6_takeOff 11 (.invokevirtual 216) 3 14 := ⟨by decide +kernel, rfl⟩
theorem dX6_takeOff_14 : DI cX6_takeOff 14 (.aload_n 0) 1 15 := ⟨by decide +kernel, rfl⟩
theorem dX6_takeOff_15 : DI cX6_takeOff 15 (.getfield 19) 3 18 := ⟨by decide +kernel, rfl⟩
theorem dX6_takeOff_18 : DI cX6_takeOff 18 (.invokevirtual 219) 3 21 := ⟨by decide +kernel, rfl⟩
theorem dX6_takeOff_21 : DI cX6_takeOff 21 (.ireturn) 1 22 := ⟨by decide +kernel, rfl⟩
theorem dX6_clear_0 : DI cX6_clear 0 (.aload_n 0) 1 1 := ⟨by decide +kernel, rfl⟩
theorem dX6_clear_1 : DI cX6_clear 1 (.getfield 19) 3 4 := ⟨by decide +kernel, rfl⟩
theorem dX6_clear_4 : DI cX6_clear 4 (.getfield 59) 3 7 := ⟨by decide +kernel, rfl⟩
theorem dX6_clear_7 : DI cX6_clear 7 (.istore_n 1) 1 8 := ⟨by decide +kernel, rfl⟩
theorem dX6_clear_8 : DI cX6_clear 8 (.aload_n 0) 1 9 := ⟨by decide +kernel, rfl⟩
theorem dX6_clear_9 : DI cX6_clear 9 (.getfield 19) 3 12 := ⟨by decide +kernel, rfl⟩
theorem dX6_clear_12 : DI cX6_clear 12 (.invokevirtual 223) 3 15 := ⟨by decide +kernel, rfl⟩
theorem dX6_clear_15 : DI cX6_clear 15 (.iload_n 1) 1 16 := ⟨by decide +kernel, rfl⟩
theorem dX6_clear_16 : DI cX6_clear 16 (.ireturn) 1 17 := ⟨by decide +kernel, rfl⟩
theorem dX6_inMarker_0 : DI cX6_inMarker 0 (.aload_n 0) 1 1 := ⟨by decide +kernel, rfl⟩
theorem dX6_inMarker_1 : DI cX6_inMarker 1 (.getfield 19) 3 4 := ⟨by decide +kernel, rfl⟩
theorem dX6_inMarker_4 : DI cX6_inMarker 4 (.getfield 59) 3 7 := ⟨by decide +kernel, rfl⟩
theorem dX6_inMarker_7 : DI cX6_inMarker 7 (.ireturn) 1 8 := ⟨by decide +kernel, rfl⟩
theorem dX6_rowOf_0 : DI cX6_rowOf 0 (.aload_n 0) 1 1 := ⟨by decide +kernel, rfl⟩
theorem dX6_rowOf_1 : DI cX6_rowOf 1 (.iload_n 1) 1 2 := ⟨by decide +kernel, rfl⟩
theorem dX6_rowOf_2 : DI cX6_rowOf 2 (.invokevirtual 212) 3 5 := ⟨by decide +kernel, rfl⟩
theorem dX6_rowOf_5 : DI cX6_rowOf 5 (.getfield 226) 3 8 := ⟨by decide +kernel, rfl⟩
theorem dX6_rowOf_8 : DI cX6_rowOf 8 (.ireturn) 1 9 := ⟨by decide +kernel, rfl⟩
theorem dX6_columnOf_0 : DI cX6_columnOf 0 (.aload_n 0) 1 1 := ⟨by decide +kernel, rfl⟩
theorem dX6_columnOf_1 : DI cX6_columnOf 1 (.iload_n 1) 1 2 := ⟨by decide +kernel, rfl⟩
theorem dX6_columnOf_2 : DI cX6_columnOf 2 (.invokevirtual 212) 3 5 := ⟨by decide +kernel, rfl⟩
theorem dX6_columnOf_5 : DI cX6_columnOf 5 (.getfield 231) 3 8 := ⟨by decide +kernel, rfl⟩
theorem dX6_columnOf_8 : DI cX6_columnOf 8 (.ireturn) 1 9 := ⟨by decide +kernel, rfl⟩
theorem dX6_turnsOf_0 : DI cX6_turnsOf 0 (.aload_n 0) 1 1 := ⟨by decide +kernel, rfl⟩
theorem dX6_turnsOf_1 : DI cX6_turnsOf 1 (.iload_n 1) 1 2 := ⟨by decide +kernel, rfl⟩
theorem dX6_turnsOf_2 : DI cX6_turnsOf 2 (.invokevirtual 212) 3 5 := ⟨by decide +kernel, rfl⟩
theorem dX6_turnsOf_5 : DI cX6_turnsOf 5 (.getfield 234) 3 8 := ⟨by decide +kernel, rfl⟩
theorem dX6_turnsOf_8 : DI cX6_turnsOf 8 (.ireturn) 1 9 := ⟨by decide +kernel, rfl⟩
theorem dX6_pieceOrThrow_0 : DI cX6_pieceOrThrow 0 (.aload_n 0) 1 1 := ⟨by decide +kernel, rfl⟩
theorem dX6_pieceOrThrow_1 : DI cX6_pieceOrThrow 1 (.getfield 19) 3 4 := ⟨by decide +kernel, rfl⟩
theorem dX6_pieceOrThrow_4 : DI cX6_pieceOrThrow 4 (.iload_n 1) 1 5 := ⟨by decide +kernel, rfl⟩
theorem dX6_pieceOrThrow_5 : DI cX6_pieceOrThrow 5 (.invokevirtual 237) 3 8 := ⟨by decide +kernel, rfl⟩
theorem dX6_pieceOrThrow_8 : DI cX6_pieceOrThrow 8 (.astore_n 2) 1 9 := ⟨by decide +kernel, rfl⟩
theorem dX6_pieceOrThrow_9 : DI cX6_pieceOrThrow 9 (.aload_n 2) 1 10 := ⟨by decide +kernel, rfl⟩
theorem dX6_pieceOrThrow_10 : DJ cX6_pieceOrThrow 10 (.ifnonnull 13) 13 23 13 := ⟨by decide +kernel, by decide, rfl⟩
theorem dX6_pieceOrThrow_13 : DI cX6_pieceOrThrow 13 (.new 203) 3 16 := ⟨by decide +kernel, rfl⟩
theorem dX6_pieceOrThrow_16 : DI cX6_pieceOrThrow 16 (.dup) 1 17 := ⟨by decide +kernel, rfl⟩
theorem dX6_pieceOrThrow_17 : DI cX6_pieceOrThrow 17 (.ldc 240) 2 19 := ⟨by decide +kernel, rfl⟩
theorem dX6_pieceOrThrow_19 : DI cX6_pieceOrThrow 19 (.invokespecial 207) 3 22 := ⟨by decide +kernel, rfl⟩
theorem dX6_pieceOrThrow_22 : DI cX6_pieceOrThrow 22 (.athrow) 1 23 := ⟨by decide +kernel, rfl⟩
theorem dX6_pieceOrThrow_23 : DI cX6_pieceOrThrow 23 (.aload_n 2) 1 24 := ⟨by decide +kernel, rfl⟩
theorem dX6_pieceOrThrow_24 : DI cX6_pieceOrThrow 24 (.areturn) 1 25 := ⟨by decide +kernel, rfl⟩
theorem dX6_pieceAt_0 : DI cX6_pieceAt 0 (.iload_n 1) 1 1 := ⟨by decide +kernel, rfl⟩
theorem dX6_pieceAt_1 : DI cX6_pieceAt 1 (.iload_n 2) 1 2 := ⟨by decide +kernel, rfl⟩
theorem dX6_pieceAt_2 : DI cX6_pieceAt 2 (.invokestatic 242) 3 5 := ⟨by decide +kernel, rfl⟩
theorem dX6_pieceAt_5 : DI cX6_pieceAt 5 (.aload_n 0) 1 6 := ⟨by decide +kernel, rfl⟩
theorem dX6_pieceAt_6 : DI cX6_pieceAt 6 (.getfield 19) 3 9 := ⟨by decide +kernel, rfl⟩
theorem dX6_pieceAt_9 : DI cX6_pieceAt 9 (.iload_n 1) 1 10 := ⟨by decide +kernel, rfl⟩
theorem dX6_pieceAt_10 : DI cX6_pieceAt 10 (.iload_n 2) 1 11 := ⟨by decide +kernel, rfl⟩
theorem dX6_pieceAt_11 : DI cX6_pieceAt 11 (.invokevirtual 110) 3 14 := ⟨by decide +kernel, rfl⟩
theorem dX6_pieceAt_14 : DI cX6_pieceAt 14 (.invokestatic 245) 3 17 := ⟨by decide +kernel, rfl⟩
theorem dX6_pieceAt_17 : DI cX6_pieceAt 17 (.ireturn) 1 18 := ⟨by decide +kernel, rfl⟩
theorem dX6_pieceByPieces_0 : DI cX6_pieceByPieces 0 (.iload_n 1) 1 1 := ⟨by decide +kernel, rfl⟩
theorem dX6_pieceByPieces_1 : DI cX6_pieceByPieces 1 (.iload_n 2) 1 2 := ⟨by decide +kernel, rfl⟩
theorem dX6_pieceByPieces_2 : DI cX6_pieceByPieces 2 (.invokestatic 242) 3 5 := ⟨by decide +kernel, rfl⟩
theorem dX6_pieceByPieces_5 : DI cX6_pieceByPieces 5 (.aload_n 0) 1 6 := ⟨by decide +kernel, rfl⟩
theorem dX6_pieceByPieces_6 : DI cX6_pieceByPieces 6 (.getfield 19) 3 9 := ⟨by decide +kernel, rfl⟩
theorem dX6_pieceByPieces_9 : DI cX6_pieceByPieces 9 (.iload_n 1) 1 10 := ⟨by decide +kernel, rfl⟩
theorem dX6_pieceByPieces_10 : DI cX6_pieceByPieces 10 (.iload_n 2) 1 11 := ⟨by decide +kernel, rfl⟩
theorem dX6_pieceByPieces_11 : DI cX6_pieceByPieces 11 (.invokevirtual 248) 3 14 := ⟨by decide +kernel, rfl⟩
theorem dX6_pieceByPieces_14 : DI cX6_pieceByPieces 14 (.invokestatic 245) 3 17 := ⟨by decide +kernel, rfl⟩
theorem dX6_pieceByPieces_17 : DI cX6_pieceByPieces 17 (.ireturn) 1 18 := ⟨by decide +kernel, rfl⟩
theorem dX6_checkCell_0 : DI cX6_checkCell 0 (.iload_n 0) 1 1 := ⟨by decide +kernel, rfl⟩
theorem dX6_checkCell_1 : DI cX6_checkCell 1 (.iconst 0) 1 2 := ⟨by decide +kernel, rfl⟩
theorem dX6_checkCell_2 : DI cX6_checkCell 2 (.bipush 59) 2 4 := ⟨by decide +kernel, rfl⟩
theorem dX6_checkCell_4 : DI cX6_checkCell 4 (.invokestatic 48) 3 7 := ⟨by decide +kernel, rfl⟩
theorem dX6_checkCell_7 : DJ cX6_checkCell 7 (.ifCond .eq 13) 13 20 10 := ⟨by decide +kernel, by decide, rfl⟩
theorem dX6_checkCell_10 : DI cX6_checkCell 10 (.iload_n 1) 1 11 := ⟨by decide +kernel, rfl⟩
theorem dX6_checkCell_11 : DI cX6_checkCell 11 (.iconst 0) 1 12 := ⟨by decide +kernel, rfl⟩
theorem dX6_checkCell_12 : DI cX6_checkCell 12 (.bipush 11) 2 14 := ⟨by decide +kernel, rfl⟩
theorem dX6_checkCell_14 : DI cX6_checkCell 14 (.invokestatic 48) 3 17 := ⟨by decide +kernel, rfl⟩
theorem dX6_checkCell_17 : DJ cX6_checkCell 17 (.ifCond .ne 13) 13 30 20 := ⟨by decide +kernel, by decide, rfl⟩
theorem dX6_checkCell_20 : DI cX6_checkCell 20 (.new 52) 3 23 := ⟨by decide +kernel, rfl⟩
theorem dX6_checkCell_23 : DI cX6_checkCell 23 (.dup) 1 24 := ⟨by decide +kernel, rfl⟩
theorem dX6_checkCell_24 : DI cX6_checkCell 24 (.ldc 135) 2 26 := ⟨by decide +kernel, rfl⟩
theorem dX6_checkCell_26 : DI cX6_checkCell 26 (.invokespecial 56) 3 29 := ⟨by decide +kernel, rfl⟩
theorem dX6_checkCell_29 : DI cX6_checkCell 29 (.athrow) 1 30 := ⟨by decide +kernel, rfl⟩
theorem dX6_checkCell_30 : DI cX6_checkCell 30 (.return_) 1 31 := ⟨by decide +kernel, rfl⟩
theorem dX6_numberOrThrow_0 : DI cX6_numberOrThrow 0 (.iload_n 0) 1 1 := ⟨by decide +kernel, rfl⟩
theorem dX6_numberOrThrow_1 : DI cX6_numberOrThrow 1 (.iconst (-1)) 1 2 := ⟨by decide +kernel, rfl⟩
theorem dX6_numberOrThrow_2 : DJ cX6_numberOrThrow 2 (.if_icmp .ne 13) 13 15 5 := ⟨by decide +kernel, by decide, rfl⟩
theorem dX6_numberOrThrow_5 : DI cX6_numberOrThrow 5 (.new 66) 3 8 := ⟨by decide +kernel, rfl⟩
theorem dX6_numberOrThrow_8 : DI cX6_numberOrThrow 8 (.dup) 1 9 := ⟨by decide +kernel, rfl⟩
theorem dX6_numberOrThrow_9 : DI cX6_numberOrThrow 9 (.ldc 251) 2 11 := ⟨by decide +kernel, rfl⟩
theorem dX6_numberOrThrow_11 : DI cX6_numberOrThrow 11 (.invokespecial 70) 3 14 := ⟨by decide +kernel, rfl⟩
theorem dX6_numberOrThrow_14 : DI cX6_numberOrThrow 14 (.athrow) 1 15 := ⟨by decide +kernel, rfl⟩
theorem dX6_numberOrThrow_15 : DI cX6_numberOrThrow 15 (.iload_n 0) 1 16 := ⟨by decide +kernel, rfl⟩
theorem dX6_numberOrThrow_16 : DI cX6_numberOrThrow 16 (.ireturn) 1 17 := ⟨by decide +kernel, rfl⟩
theorem dX6_length_0 : DI cX6_length 0 (.aload_n 0) 1 1 := ⟨by decide +kernel, rfl⟩
theorem dX6_length_1 : DI cX6_length 1 (.getfield 19) 3 4 := ⟨by decide +kernel, rfl⟩
theorem dX6_length_4 : DI cX6_length 4 (.invokevirtual 219) 3 7 := ⟨by decide +kernel, rfl⟩
theorem dX6_length_7 : DI cX6_length 7 (.ireturn) 1 8 := ⟨by decide +kernel, rfl⟩
theorem dX6_used_0 : DI cX6_used 0 (.aload_n 0) 1 1 := ⟨by decide +kernel, rfl⟩
theorem dX6_used_1 : DI cX6_used 1 (.getfield 19) 3 4 := ⟨by decide +kernel, rfl⟩
theorem dX6_used_4 : DI cX6_used 4 (.invokevirtual 253) 3 7 := ⟨by decide +kernel, rfl⟩
theorem dX6_used_7 : DI cX6_used 7 (.ireturn) 1 8 := ⟨by decide +kernel, rfl⟩
theorem dX6_phase_0 : DI cX6_phase 0 (.iload_n 1) 1 1 := ⟨by decide +kernel, rfl⟩
theorem dX6_phase_1 : DI cX6_phase 1 (.iconst 0) 1 2 := ⟨by decide +kernel, rfl⟩
theorem dX6_phase_2 : DI cX6_phase 2 (.iconst 3) 1 3 := ⟨by decide +kernel, rfl⟩
theorem dX6_phase_3 : DI cX6_phase 3 (.invokestatic 48) 3 6 := ⟨by decide +kernel, rfl⟩
theorem dX6_phase_6 : DJ cX6_phase 6 (.ifCond .ne 14) 14 20 9 := ⟨by decide +kernel, by decide, rfl⟩
theorem dX6_phase_9 : DI cX6_phase 9 (.new 52) 3 12 := ⟨by decide +kernel, rfl⟩
theorem dX6_phase_12 : DI cX6_phase 12 (.dup) 1 13 := ⟨by decide +kernel, rfl⟩
theorem dX6_phase_13 : DI cX6_phase 13 (.ldc_w 256) 3 16 := ⟨by decide +kernel, rfl⟩
theorem dX6_phase_16 : DI cX6_phase 16 (.invokespecial 56) 3 19 := ⟨by decide +kernel, rfl⟩
theorem dX6_phase_19 : DI cX6_phase 19 (.athrow) 1 20 := ⟨by decide +kernel, rfl⟩
theorem dX6_phase_20 : DI cX6_phase 20 (.aload_n 0) 1 21 := ⟨by decide +kernel, rfl⟩
theorem dX6_phase_21 : DI cX6_phase 21 (.getfield 12) 3 24 := ⟨by decide +kernel, rfl⟩
theorem dX6_phase_24 : DI cX6_phase 24 (.invokevirtual 258) 3 27 := ⟨by decide +kernel, rfl⟩
theorem dX6_phase_27 : DJ cX6_phase 27 (.ifCond .eq 17) 17 44 30 := ⟨by decide +kernel, by decide, rfl⟩
theorem dX6_phase_30 : DI cX6_phase 30 (.aload_n 0) 1 31 := ⟨by decide +kernel, rfl⟩
theorem dX6_phase_31 : DI cX6_phase 31 (.getfield 19) 3 34 := ⟨by decide +kernel, rfl⟩
theorem dX6_phase_34 : DI cX6_phase 34 (.getfield 261) 3 37 := ⟨by decide +kernel, rfl⟩
theorem dX6_phase_37 : DI cX6_phase 37 (.iload_n 1) 1 38 := ⟨by decide +kernel, rfl⟩
theorem dX6_phase_38 : DI cX6_phase 38 (.invokestatic 264) 3 41 := ⟨by decide +kernel, rfl⟩
theorem dX6_phase_41 : DJ cX6_phase 41 (.ifCond .ne 14) 14 55 44 := ⟨by decide +kernel, by decide, rfl⟩
theorem dX6_phase_44 : DI cX6_phase 44 (.new 66) 3 47 := ⟨by decide +kernel, rfl⟩
theorem dX6_phase_47 : DI cX6_phase 47 (.dup) 1 48 := ⟨by decide +kernel, rfl⟩
theorem dX6_phase_48 : DI cX6_phase 48 (.ldc_w 268) 3 51 := ⟨by decide +kernel, rfl⟩
theorem dX6_phase_51 : DI cX6_phase 51 (.invokespecial 70) 3 54 := ⟨by decide +kernel, rfl⟩
theorem dX6_phase_54 : DI cX6_phase 54 (.athrow) 1 55 := ⟨by decide +kernel, rfl⟩
theorem dX6_phase_55 : DI cX6_phase 55 (.aload_n 0) 1 56 := ⟨by decide +kernel, rfl⟩
theorem dX6_phase_56 : DI cX6_phase 56 (.getfield 19) 3 59 := ⟨by decide +kernel, rfl⟩
theorem dX6_phase_59 : DI cX6_phase 59 (.getfield 270) 3 62 := ⟨by decide +kernel, rfl⟩
theorem dX6_phase_62 : DI cX6_phase 62 (.iload_n 1) 1 63 := ⟨by decide +kernel, rfl⟩
theorem dX6_phase_63 : DI cX6_phase 63 (.invokestatic 264) 3 66 := ⟨by decide +kernel, rfl⟩
theorem dX6_phase_66 : DI cX6_phase 66 (.ireturn) 1 67 := ⟨by decide +kernel, rfl⟩
theorem dX6_addStyle_0 : DI cX6_addStyle 0 (.aload_n 0) 1 1 := ⟨by decide +kernel, rfl⟩
theorem dX6_addStyle_1 : DI cX6_addStyle 1 (.getfield 273) 3 4 := ⟨by decide +kernel, rfl⟩
theorem dX6_addStyle_4 : DI cX6_addStyle 4 (.istore_n 1) 1 5 := ⟨by decide +kernel, rfl⟩
theorem dX6_addStyle_5 : DI cX6_addStyle 5 (.iload_n 1) 1 6 := ⟨by decide +kernel, rfl⟩
theorem dX6_addStyle_6 : DJ cX6_addStyle 6 (.ifCond .lt 12) 12 18 9 := ⟨by decide +kernel, by decide, rfl⟩
theorem dX6_addStyle_9 : DI cX6_addStyle 9 (.iload_n 1) 1 10 := ⟨by decide +kernel, rfl⟩
theorem dX6_addStyle_10 : DI cX6_addStyle 10 (.aload_n 0) 1 11 := ⟨by decide +kernel, rfl⟩
theorem dX6_addStyle_11 : DI cX6_addStyle 11 (.getfield 31) 3 14 := ⟨by decide +kernel, rfl⟩
theorem dX6_addStyle_14 : DI cX6_addStyle 14 (.arraylength) 1 15 := ⟨by decide +kernel, rfl⟩
theorem dX6_addStyle_15 : DJ cX6_addStyle 15 (.if_icmp .lt 14) 14 29 18 := ⟨by decide +kernel, by decide, rfl⟩
theorem dX6_addStyle_18 : DI cX6_addStyle 18 (.new 66) 3 21 := ⟨by decide +kernel, rfl⟩
theorem dX6_addStyle_21 : DI cX6_addStyle 21 (.dup) 1 22 := ⟨by decide +kernel, rfl⟩
theorem dX6_addStyle_22 : DI cX6_addStyle 22 (.ldc_w 276) 3 25 := ⟨by decide +kernel, rfl⟩
theorem dX6_addStyle_25 : DI cX6_addStyle 25 (.invokespecial 70) 3 28 := ⟨by decide +kernel, rfl⟩
theorem dX6_addStyle_28 : DI cX6_addStyle 28 (.athrow) 1 29 := ⟨by decide +kernel, rfl⟩
theorem dX6_addStyle_29 : DI cX6_addStyle 29 (.aload_n 0) 1 30 := ⟨by decide +kernel, rfl⟩
theorem dX6_addStyle_30 : DI cX6_addStyle 30 (.getfield 31) 3 33 := ⟨by decide +kernel, rfl⟩
theorem dX6_addStyle_33 : DI cX6_addStyle 33 (.iload_n 1) 1 34 := ⟨by decide +kernel, rfl⟩
theorem dX6_addStyle_34 : DI cX6_addStyle 34 (.new 29) 3 37 := ⟨by decide +kernel, rfl⟩
theorem dX6_addStyle_37 : DI cX6_addStyle 37 (.dup) 1 38 := ⟨by decide +kernel, rfl⟩
theorem dX6_addStyle_38 : DI cX6_addStyle 38 (.invokespecial 278) 3 41 := ⟨by decide +kernel, rfl⟩
theorem dX6_addStyle_41 : DI cX6_addStyle 41 (.aastore) 1 42 := ⟨by decide +kernel, rfl⟩
theorem dX6_addStyle_42 : DI cX6_addStyle 42 (.aload_n 0) 1 43 := ⟨by decide +kernel, rfl⟩
theorem dX6_addStyle_43 : DI cX6_addStyle 43 (.dup) 1 44 := ⟨by decide +kernel, rfl⟩
theorem dX6_addStyle_44 : DI cX6_addStyle 44 (.getfield 273) 3 47 := ⟨by decide +kernel, rfl⟩
theorem dX6_addStyle_47 : DI cX6_addStyle 47 (.iconst 1) 1 48 := ⟨by decide +kernel, rfl⟩
theorem dX6_addStyle_48 : DI cX6_addStyle 48 (.iadd) 1 49 := ⟨by decide +kernel, rfl⟩
theorem dX6_addStyle_49 : DI cX6_addStyle 49 (.putfield 273) 3 52 := ⟨by decide +kernel, rfl⟩
theorem dX6_addStyle_52 : DI cX6_addStyle 52 (.iload_n 1) 1 53 := ⟨by decide +kernel, rfl⟩
theorem dX6_addStyle_53 : DI cX6_addStyle 53 (.ireturn) 1 54 := ⟨by decide +kernel, rfl⟩
theorem dX6_addPart_0 : DI cX6_addPart 0 (.aload_n 0) 1 1 := ⟨by decide +kernel, rfl⟩
theorem dX6_addPart_1 : DI cX6_addPart 1 (.iload_n 1) 1 2 := ⟨by decide +kernel, rfl⟩
theorem dX6_addPart_2 : DI cX6_addPart 2 (.invokevirtual 279) 3 5 := ⟨by decide +kernel, rfl⟩
theorem dX6_addPart_5 : DI cX6_addPart 5 (.astore 4) 2 7 := ⟨by decide +kernel, rfl⟩
theorem dX6_addPart_7 : DI cX6_addPart 7 (.aload_n 0) 1 8 := ⟨by decide +kernel, rfl⟩
theorem dX6_addPart_8 : DI cX6_addPart 8 (.iload_n 2) 1 9 := ⟨by decide +kernel, rfl⟩
theorem dX6_addPart_9 : DI cX6_addPart 9 (.invokevirtual 131) 3 12 := ⟨by decide +kernel, rfl⟩
theorem dX6_addPart_12 : DI cX6_addPart 12 (.pop) 1 13 := ⟨by decide +kernel, rfl⟩
theorem dX6_addPart_13 : DI cX6_addPart 13 (.iload_n 3) 1 14 := ⟨by decide +kernel, rfl⟩
theorem dX6_addPart_14 : DI cX6_addPart 14 (.iconst 1) 1 15 := ⟨by decide +kernel, rfl⟩
theorem dX6_addPart_15 : DI cX6_addPart 15 (.iconst 4) 1 16 := ⟨by decide +kernel, rfl⟩
theorem dX6_addPart_16 : DI cX6_addPart 16 (.invokestatic 48) 3 19 := ⟨by decide +kernel, rfl⟩
theorem dX6_addPart_19 : DJ cX6_addPart 19 (.ifCond .ne 14) 14 33 22 := ⟨by decide +kernel, by decide, rfl⟩
theorem dX6_addPart_22 : DI cX6_addPart 22 (.new 52) 3 25 := ⟨by decide +kernel, rfl⟩
theorem dX6_addPart_25 : DI cX6_addPart 25 (.dup) 1 26 := ⟨by decide +kernel, rfl⟩
theorem dX6_addPart_26 : DI cX6_addPart 26 (.ldc_w 283) 3 29 := ⟨by decide +kernel, rfl⟩
theorem dX6_addPart_29 : DI cX6_addPart 29 (.invokespecial 56) 3 32 := ⟨by decide +kernel, rfl⟩
theorem dX6_addPart_32 : DI cX6_addPart 32 (.athrow) 1 33 := ⟨by decide +kernel, rfl⟩
theorem dX6_addPart_33 : DI cX6_addPart 33 (.aload 4) 2 35 := ⟨by decide +kernel, rfl⟩
theorem dX6_addPart_35 : DI cX6_addPart 35 (.getfield 285) 3 38 := ⟨by decide +kernel, rfl⟩
theorem dX6_addPart_38 : DI cX6_addPart 38 (.iload_n 2) 1 39 := ⟨by decide +kernel, rfl⟩
theorem dX6_addPart_39 : DI cX6_addPart 39 (.invokestatic 264) 3 42 := ⟨by decide +kernel, rfl⟩
theorem dX6_addPart_42 : DJ cX6_addPart 42 (.ifCond .gt 11) 11 53 45 := ⟨by decide +kernel, by decide, rfl⟩
theorem dX6_addPart_45 : DI cX6_addPart 45 (.aload 4) 2 47 := ⟨by decide +kernel, rfl⟩
theorem dX6_addPart_47 : DI cX6_addPart 47 (.getfield 288) 3 50 := ⟨by decide +kernel, rfl⟩
theorem dX6_addPart_50 : DJ cX6_addPart 50 (.ifCond .le 14) 14 64 53 := ⟨by decide +kernel, by decide, rfl⟩
theorem dX6_addPart_53 : DI cX6_addPart 53 (.new 96) 3 56 := ⟨by decide +kernel, rfl⟩
theorem dX6_addPart_56 : DI cX6_addPart 56 (.dup) 1 57 := ⟨by decide +kernel, rfl⟩
theorem dX6_addPart_57 : DI cX6_addPart 57 (.ldc_w 291) 3 60 := ⟨by decide +kernel, rfl⟩
theorem dX6_addPart_60 : DI cX6_addPart 60 (.invokespecial 100) 3 63 := ⟨by decide +kernel, rfl⟩
theorem dX6_addPart_63 : DI cX6_addPart 63 (.athrow) 1 64 := ⟨by decide +kernel, rfl⟩
theorem dX6_addPart_64 : DI cX6_addPart 64 (.aload 4) 2 66 := ⟨by decide +kernel, rfl⟩
theorem dX6_addPart_66 : DI cX6_addPart 66 (.getfield 285) 3 69 := ⟨by decide +kernel, rfl⟩
theorem dX6_addPart_69 : DI cX6_addPart 69 (.iload_n 2) 1 70 := ⟨by decide +kernel, rfl⟩
theorem dX6_addPart_70 : DI cX6_addPart 70 (.iload_n 3) 1 71 := ⟨by decide +kernel, rfl⟩
theorem dX6_addPart_71 : DI cX6_addPart 71 (.invokestatic 293) 3 74 := ⟨by decide +kernel, rfl⟩
theorem dX6_addPart_74 : DI cX6_addPart 74 (.aload_n 0) 1 75 := ⟨by decide +kernel, rfl⟩
theorem dX6_addPart_75 : DI cX6_addPart 75 (.aload 4) 2 77 := ⟨by decide +kernel, rfl⟩
theorem dX6_addPart_77 : DI cX6_addPart 77 (.invokevirtual 297) 3 80 := ⟨by decide +kernel, rfl⟩
theorem dX6_addPart_80 : DI cX6_addPart 80 (.ireturn) 1 81 := ⟨by decide +kernel, rfl⟩
theorem dX6_piecesFor_0 : DI cX6_piecesFor 0 (.aload_n 0) 1 1 := ⟨by decide +kernel, rfl⟩
theorem dX6_piecesFor_1 : DI cX6_piecesFor 1 (.aload_n 0) 1 2 := ⟨by decide +kernel, rfl⟩
theorem dX6_piecesFor_2 : DI cX6_piecesFor 2 (.iload_n 1) 1 3 := ⟨by decide +kernel, rfl⟩
theorem dX6_piecesFor_3 : DI cX6_piecesFor 3 (.invokevirtual 279) 3 6 := ⟨by decide +kernel, rfl⟩
theorem dX6_piecesFor_6 : DI cX6_piecesFor 6 (.invokevirtual 297) 3 9 := ⟨by decide +kernel, rfl⟩
theorem dX6_piecesFor_9 : DI cX6_piecesFor 9 (.ireturn) 1 10 := ⟨by decide +kernel, rfl⟩
theorem dX6_styleOrThrow_0 : DI cX6_styleOrThrow 0 (.iload_n 1) 1 1 := ⟨by decide +kernel, rfl⟩
theorem dX6_styleOrThrow_1 : DJ cX6_styleOrThrow 1 (.ifCond .lt 21) 21 22 4 := ⟨by decide +kernel, by decide, rfl⟩
theorem dX6_styleOrThrow_4 : DI cX6_styleOrThrow 4 (.iload_n 1) 1 5 := ⟨by decide +kernel, rfl⟩
theorem dX6_styleOrThrow_5 : DI cX6_styleOrThrow 5 (.aload_n 0) 1 6 := ⟨by decide +kernel, rfl⟩
theorem dX6_styleOrThrow_6 : DI cX6_styleOrThrow 6 (.getfield 31) 3 9 := ⟨by decide +kernel, rfl⟩
theorem dX6_styleOrThrow_9 : DI cX6_styleOrThrow 9 (.arraylength) 1 10 := ⟨by decide +kernel, rfl⟩
theorem dX6_styleOrThrow_10 : DJ cX6_styleOrThrow 10 (.if_icmp .ge 12) 12 22 13 := ⟨by decide +kernel, by decide, rfl⟩
theorem dX6_styleOrThrow_13 : DI cX6_styleOrThrow 13 (.aload_n 0) 1 14 := ⟨by decide +kernel, rfl⟩
theorem dX6_styleOrThrow_14 : DI cX6_styleOrThrow 14 (.getfield 31) 3 17 := ⟨by decide +kernel, rfl⟩
theorem dX6_styleOrThrow_17 : DI cX6_styleOrThrow 17 (.iload_n 1) 1 18 := ⟨by decide +kernel, rfl⟩
theorem dX6_styleOrThrow_18 : DI cX6_styleOrThrow 18 (.aaload) 1 19 := ⟨by decide +kernel, rfl⟩
theorem dX6_styleOrThrow_19 : DJ cX6_styleOrThrow 19 (.goto 4) 4 23 22 := ⟨by decide +kernel, by decide, rfl⟩
theorem dX6_styleOrThrow_22 : DI cX6_styleOrThrow 22 (.aconst_null) 1 23 := ⟨by decide +kernel, rfl⟩
theorem dX6_styleOrThrow_23 : DI cX6_styleOrThrow 23 (.astore_n 2) 1 24 := ⟨by decide +kernel, rfl⟩
theorem dX6_styleOrThrow_24 : DI cX6_styleOrThrow 24 (.aload_n 2) 1 25 := ⟨by decide +kernel, rfl⟩
theorem dX6_styleOrThrow_25 : DJ cX6_styleOrThrow 25 (.ifnonnull 14) 14 39 28 := ⟨by decide +kernel, by decide, rfl⟩
theorem dX6_styleOrThrow_28 : DI cX6_styleOrThrow 28 (.new 172) 3 31 := ⟨by decide +kernel, rfl⟩
theorem dX6_styleOrThrow_31 : DI cX6_styleOrThrow 31 (.dup) 1 32 := ⟨by decide +kernel, rfl⟩
theorem dX6_styleOrThrow_32 : DI cX6_styleOrThrow 32 (.ldc_w 301) 3 35 := ⟨by decide +kernel, rfl⟩
theorem dX6_styleOrThrow_35 : DI cX6_styleOrThrow 35 (.invokespecial 176) 3 38 := ⟨by decide +kernel, rfl⟩
theorem dX6_styleOrThrow_38 : DI cX6_styleOrThrow 38 (.athrow) 1 39 := ⟨by decide +kernel, rfl⟩
theorem dX6_styleOrThrow_39 : DI cX6_styleOrThrow 39 (.aload_n 2) 1 40 := ⟨by decide +kernel, rfl⟩
theorem dX6_styleOrThrow_40 : DI cX6_styleOrThrow 40 (.areturn) 1 41 := ⟨by decide +kernel, rfl⟩
theorem dX6_styleWithPartsOrThrow_0 : DI cX6_styleWithPartsOrThrow 0 (.aload_n 0) 1 1 := ⟨by decide +kernel, rfl⟩
theorem dX6_styleWithPartsOrThrow_1 : DI cX6_styleWithPartsOrThrow 1 (.iload_n 1) 1 2 := ⟨by decide +kernel, rfl⟩
theorem dX6_styleWithPartsOrThrow_2 : DI cX6_styleWithPartsOrThrow 2 (.invokevirtual 279) 3 5 := ⟨by decide +kernel, rfl⟩
theorem dX6_styleWithPartsOrThrow_5 : DI cX6_styleWithPartsOrThrow 5 (.astore_n 2) 1 6 := ⟨by decide +kernel, rfl⟩
theorem dX6_styleWithPartsOrThrow_6 : DI cX6_styleWithPartsOrThrow 6 (.aload_n 2) 1 7 := ⟨by decide +kernel, rfl⟩
theorem dX6_styleWithPartsOrThrow_7 : DI cX6_styleWithPartsOrThrow 7 (.invokevirtual 303) 3 10 := ⟨by decide +kernel, rfl⟩
theorem dX6_styleWithPartsOrThrow_10 : DJ cX6_styleWithPartsOrThrow 10 (.ifCond .ne 14) 14 24 13 := ⟨by decide +kernel, by decide, rfl⟩
theorem dX6_styleWithPartsOrThrow_13 : DI cX6_styleWithPartsOrThrow 13 (.new 96) 3 16 := ⟨by decide +kernel, rfl⟩
theorem dX6_styleWithPartsOrThrow_16 : DI cX6_styleWithPartsOrThrow 16 (.dup) 1 17 := ⟨by decide +kernel, rfl⟩
theorem dX6_styleWithPartsOrThrow_17 : DI cX6_styleWithPartsOrThrow 17 (.ldc_w 306) 3 20 := ⟨by decide +kernel, rfl⟩
theorem dX6_styleWithPartsOrThrow_20 : DI cX6_styleWithPartsOrThrow 20 (.invokespecial 100) 3 23 := ⟨by decide +kernel, rfl⟩
theorem dX6_styleWithPartsOrThrow_23 : DI cX6_styleWithPartsOrThrow 23 (.athrow) 1 24 := ⟨by decide +kernel, rfl⟩
theorem dX6_styleWithPartsOrThrow_24 : DI cX6_styleWithPartsOrThrow 24 (.aload_n 2) 1 25 := ⟨by decide +kernel, rfl⟩
theorem dX6_styleWithPartsOrThrow_25 : DI cX6_styleWithPartsOrThrow 25 (.areturn) 1 26 := ⟨by decide +kernel, rfl⟩
theorem dX6_piecesOfGarment_0 : DI cX6_piecesOfGarment 0 (.iconst 0) 1 1 := ⟨by decide +kernel, rfl⟩
theorem dX6_piecesOfGarment_1 : DI cX6_piecesOfGarment 1 (.istore_n 2) 1 2 := ⟨by decide +kernel, rfl⟩
theorem dX6_piecesOfGarment_2 : DI cX6_piecesOfGarment 2 (.iconst 0) 1 3 := ⟨by decide +kernel, rfl⟩
theorem dX6_piecesOfGarment_3 : DI cX6_piecesOfGarment 3 (.istore_n 3) 1 4 := ⟨by decide +kernel, rfl⟩
theorem dX6_piecesOfGarment_4 : DI cX6_piecesOfGarment 4 (.iload_n 3) 1 5 := ⟨by decide +kernel, rfl⟩
theorem dX6_piecesOfGarment_5 : DI cX6_piecesOfGarment 5 (.aload_n 0) 1 6 := ⟨by decide +kernel, rfl⟩
theorem dX6_piecesOfGarment_6 : DI cX6_piecesOfGarment 6 (.getfield 123) 3 9 := ⟨by decide +kernel, rfl⟩
theorem dX6_piecesOfGarment_9 : DJ cX6_piecesOfGarment 9 (.if_icmp .ge 18) 18 27 12 := ⟨by decide +kernel, by decide, rfl⟩
theorem dX6_piecesOfGarment_12 : DI cX6_piecesOfGarment 12 (.iload_n 2) 1 13 := ⟨by decide +kernel, rfl⟩
theorem dX6_piecesOfGarment_13 : DI cX6_piecesOfGarment 13 (.aload_n 0) 1 14 := ⟨by decide +kernel, rfl⟩
theorem dX6_piecesOfGarment_14 : DI cX6_piecesOfGarment 14 (.aload_n 1) 1 15 := ⟨by decide +kernel, rfl⟩
theorem dX6_piecesOfGarment_15 : DI cX6_piecesOfGarment 15 (.iload_n 3) 1 16 := ⟨by decide +kernel, rfl⟩
theorem dX6_piecesOfGarment_16 : DI cX6_piecesOfGarment 16 (.invokevirtual 308) 3 19 := ⟨by decide +kernel, rfl⟩
theorem dX6_piecesOfGarment_19 : DI cX6_piecesOfGarment 19 (.iadd) 1 20 := ⟨by decide +kernel, rfl⟩
theorem dX6_piecesOfGarment_20 : DI cX6_piecesOfGarment 20 (.istore_n 2) 1 21 := ⟨by decide +kernel, rfl⟩
theorem dX6_piecesOfGarment_21 : DI cX6_piecesOfGarment 21 (.iinc 3 1) 3 24 := ⟨by decide +kernel, rfl⟩
theorem dX6_piecesOfGarment_24 : DJ cX6_piecesOfGarment 24 (.goto (-20)) (-20) 4 27 := ⟨by decide +kernel, by decide, rfl⟩
theorem dX6_piecesOfGarment_27 : DI cX6_piecesOfGarment 27 (.iload_n 2) 1 28 := ⟨by decide +kernel, rfl⟩
theorem dX6_piecesOfGarment_28 : DI cX6_piecesOfGarment 28 (.ireturn) 1 29 := ⟨by decide +kernel, rfl⟩
theorem dX6_piecesOfPart_0 : DI cX6_piecesOfPart 0 (.aload_n 0) 1 1 := ⟨by decide +kernel, rfl⟩
theorem dX6_piecesOfPart_1 : DI cX6_piecesOfPart 1 (.iload_n 2) 1 2 := ⟨by decide +kernel, rfl⟩
theorem dX6_piecesOfPart_2 : DI cX6_piecesOfPart 2 (.invokevirtual 169) 3 5 := ⟨by decide +kernel, rfl⟩
theorem dX6_piecesOfPart_5 : DI cX6_piecesOfPart 5 (.astore_n 3) 1 6 := ⟨by decide +kernel, rfl⟩
theorem dX6_piecesOfPart_6 : DI cX6_piecesOfPart 6 (.aload_n 1) 1 7 := ⟨by decide +kernel, rfl⟩
theorem dX6_piecesOfPart_7 : DI cX6_piecesOfPart 7 (.getfield 285) 3 10 := ⟨by decide +kernel, rfl⟩
theorem dX6_piecesOfPart_10 : DI cX6_piecesOfPart 10 (.iload_n 2) 1 11 := ⟨by decide +kernel, rfl⟩
theorem dX6_piecesOfPart_11 : DI cX6_piecesOfPart 11 (.invokestatic 264) 3 14 := ⟨by decide +kernel, rfl⟩
theorem dX6_piecesOfPart_14 : DI cX6_piecesOfPart 14 (.istore 4) 2 16 := ⟨by decide +kernel, rfl⟩
theorem dX6_piecesOfPart_16 : DI cX6_piecesOfPart 16 (.aload_n 3) 1 17 := ⟨by decide +kernel, rfl⟩
theorem dX6_piecesOfPart_17 : DJ cX6_piecesOfPart 17 (.ifnull 17) 17 34 20 := ⟨by decide +kernel, by decide, rfl⟩
theorem dX6_piecesOfPart_20 : DI cX6_piecesOfPart 20 (.aload_n 3) 1 21 := ⟨by decide +kernel, rfl⟩
theorem dX6_piecesOfPart_21 : DI cX6_piecesOfPart 21 (.getfield 312) 3 24 := ⟨by decide +kernel, rfl⟩
theorem dX6_piecesOfPart_24 : DJ cX6_piecesOfPart 24 (.ifCond .eq 10) 10 34 27 := ⟨by decide +kernel, by decide, rfl⟩
theorem dX6_piecesOfPart_27 : DI cX6_piecesOfPart 27 (.iconst 2) 1 28 := ⟨by decide +kernel, rfl⟩
theorem dX6_piecesOfPart_28 : DI cX6_piecesOfPart 28 (.iload 4) 2 30 := ⟨by decide +kernel, rfl⟩
theorem dX6_piecesOfPart_30 : DI cX6_piecesOfPart 30 (.imul) 1 31 := ⟨by decide +kernel, rfl⟩
theorem dX6_piecesOfPart_31 : DJ cX6_piecesOfPart 31 (.goto 5) 5 36 34 := ⟨by decide +kernel, by decide, rfl⟩
theorem dX6_piecesOfPart_34 : DI cX6_piecesOfPart 34 (.iload 4) 2 36 := ⟨by decide +kernel, rfl⟩
theorem dX6_piecesOfPart_36 : DI cX6_piecesOfPart 36 (.ireturn) 1 37 := ⟨by decide +kernel, rfl⟩
theorem dX6_nestedLength_0 : DI cX6_nestedLength 0 (.aload_n 0) 1 1 := ⟨by decide +kernel, rfl⟩
theorem dX6_nestedLength_1 : DI cX6_nestedLength 1 (.aload_n 0) 1 2 := ⟨by decide +kernel, rfl⟩
theorem dX6_nestedLength_2 : DI cX6_nestedLength 2 (.iload_n 1) 1 3 := ⟨by decide +kernel, rfl⟩
theorem dX6_nestedLength_3 : DI cX6_nestedLength 3 (.invokevirtual 279) 3 6 := ⟨by decide +kernel, rfl⟩
theorem dX6_nestedLength_6 : DI cX6_nestedLength 6 (.invokevirtual 315) 3 9 := ⟨by decide +kernel, rfl⟩
theorem dX6_nestedLength_9 : DI cX6_nestedLength 9 (.istore_n 2) 1 10 := ⟨by decide +kernel, rfl⟩
theorem dX6_nestedLength_10 : DI cX6_nestedLength 10 (.aload_n 0) 1 11 := ⟨by decide +kernel, rfl⟩
theorem dX6_nestedLength_11 : DI cX6_nestedLength 11 (.getfield 35) 3 14 := ⟨by decide +kernel, rfl⟩
theorem dX6_nestedLength_14 : DI cX6_nestedLength 14 (.invokevirtual 223) 3 17 := ⟨by decide +kernel, rfl⟩
theorem dX6_nestedLength_17 : DI cX6_nestedLength 17 (.aload_n 0) 1 18 := ⟨by decide +kernel, rfl⟩
theorem dX6_nestedLength_18 : DI cX6_nestedLength 18 (.iload_n 2) 1 19 := ⟨by decide +kernel, rfl⟩
theorem dX6_nestedLength_19 : DI cX6_nestedLength 19 (.bipush 61) 2 21 := ⟨by decide +kernel, rfl⟩
theorem dX6_nestedLength_21 : DI cX6_nestedLength 21 (.invokevirtual 318) 3 24 := ⟨by decide +kernel, rfl⟩
theorem dX6_nestedLength_24 : DI cX6_nestedLength 24 (.invokestatic 321) 3 27 := ⟨by decide +kernel, rfl⟩
theorem dX6_nestedLength_27 : DI cX6_nestedLength 27 (.ireturn) 1 28 := ⟨by decide +kernel, rfl⟩
theorem dX6_nestedByTrying_0 : DI cX6_nestedByTrying 0 (.aload_n 0) 1 1 := ⟨by decide +kernel, rfl⟩
theorem dX6_nestedByTrying_1 : DI cX6_nestedByTrying 1 (.aload_n 0) 1 2 := ⟨by decide +kernel, rfl⟩
theorem dX6_nestedByTrying_2 : DI cX6_nestedByTrying 2 (.iload_n 1) 1 3 := ⟨by decide +kernel, rfl⟩
theorem dX6_nestedByTrying_3 : DI cX6_nestedByTrying 3 (.invokevirtual 279) 3 6 := ⟨by decide +kernel, rfl⟩
theorem dX6_nestedByTrying_6 : DI cX6_nestedByTrying 6 (.invokevirtual 315) 3 9 := ⟨by decide +kernel, rfl⟩
theorem dX6_nestedByTrying_9 : DI cX6_nestedByTrying 9 (.istore_n 2) 1 10 := ⟨by decide +kernel, rfl⟩
theorem dX6_nestedByTrying_10 : DI cX6_nestedByTrying 10 (.iconst 1) 1 11 := ⟨by decide +kernel, rfl⟩
theorem dX6_nestedByTrying_11 : DI cX6_nestedByTrying 11 (.istore_n 3) 1 12 := ⟨by decide +kernel, rfl⟩
theorem dX6_nestedByTrying_12 : DI cX6_nestedByTrying 12 (.iload_n 2) 1 13 := ⟨by decide +kernel, rfl⟩
theorem dX6_nestedByTrying_13 : DI cX6_nestedByTrying 13 (.istore 4) 2 15 := ⟨by decide +kernel, rfl⟩
theorem dX6_nestedByTrying_15 : DI cX6_nestedByTrying 15 (.iload 4) 2 17 := ⟨by decide +kernel, rfl⟩
theorem dX6_nestedByTrying_17 : DI cX6_nestedByTrying 17 (.iconst 1) 1 18 := ⟨by decide +kernel, rfl⟩
theorem dX6_nestedByTrying_18 : DJ cX6_nestedByTrying 18 (.if_icmp .le 14) 14 32 21 := ⟨by decide +kernel, by decide, rfl⟩
theorem dX6_nestedByTrying_21 : DI cX6_nestedByTrying 21 (.iload_n 3) 1 22 := ⟨by decide +kernel, rfl⟩
theorem dX6_nestedByTrying_22 : DI cX6_nestedByTrying 22 (.iload 4) 2 24 := ⟨by decide +kernel, rfl⟩
theorem dX6_nestedByTrying_24 : DI cX6_nestedByTrying 24 (.imul) 1 25 := ⟨by decide +kernel, rfl⟩
theorem dX6_nestedByTrying_25 : DI cX6_nestedByTrying 25 (.istore_n 3) 1 26 := ⟨by decide +kernel, rfl⟩
theorem dX6_nestedByTrying_26 : DI cX6_nestedByTrying 26 (.iinc 4 (-1)) 3 29 := ⟨by decide +kernel, rfl⟩
theorem dX6_nestedByTrying_29 : DJ cX6_nestedByTrying 29 (.goto (-14)) (-14) 15 32 := ⟨by decide +kernel, by decide, rfl⟩
theorem dX6_nestedByTrying_32 : DI cX6_nestedByTrying 32 (.bipush 61) 2 34 := ⟨by decide +kernel, rfl⟩
theorem dX6_nestedByTrying_34 : DI cX6_nestedByTrying 34 (.istore 4) 2 36 := ⟨by decide +kernel, rfl⟩
theorem dX6_nestedByTrying_36 : DI cX6_nestedByTrying 36 (.iconst 0) 1 37 := ⟨by decide +kernel, rfl⟩
theorem dX6_nestedByTrying_37 : DI cX6_nestedByTrying 37 (.istore 5) 2 39 := ⟨by decide +kernel, rfl⟩
theorem dX6_nestedByTrying_39 : DI cX6_nestedByTrying 39 (.iload 5) 2 41 := ⟨by decide +kernel, rfl⟩
theorem dX6_nestedByTrying_41 : DI cX6_nestedByTrying 41 (.iload_n 3) 1 42 := ⟨by decide +kernel, rfl⟩
theorem dX6_nestedByTrying_42 : DJ cX6_nestedByTrying 42 (.if_icmp .ge 23) 23 65 45 := ⟨by decide +kernel, by decide, rfl⟩
theorem dX6_nestedByTrying_45 : DI cX6_nestedByTrying 45 (.iload 4) 2 47 := ⟨by decide +kernel, rfl⟩
theorem dX6_nestedByTrying_47 : DI cX6_nestedByTrying 47 (.aload_n 0) 1 48 := ⟨by decide +kernel, rfl⟩
theorem dX6_nestedByTrying_48 : DI cX6_nestedByTrying 48 (.iload 5) 2 50 := ⟨by decide +kernel, rfl⟩
theorem dX6_nestedByTrying_50 : DI cX6_nestedByTrying 50 (.iload_n 2) 1 51 := ⟨by decide +kernel, rfl⟩
theorem dX6_nestedByTrying_51 : DI cX6_nestedByTrying 51 (.invokevirtual 324) 3 54 := ⟨by decide +kernel, rfl⟩
theorem dX6_nestedByTrying_54 : DI cX6_nestedByTrying 54 (.invokestatic 327) 3 57 := ⟨by decide +kernel, rfl⟩
theorem dX6_nestedByTrying_57 : DI cX6_nestedByTrying 57 (.istore 4) 2 59 := ⟨by decide +kernel, rfl⟩
theorem dX6_nestedByTrying_59 : DI cX6_nestedByTrying 59 (.iinc 5 1) 3 62 := ⟨by decide +kernel, rfl⟩
theorem dX6_nestedByTrying_62 : DJ cX6_nestedByTrying 62 (.goto (-23)) (-23) 39 65 := ⟨by decide +kernel, by decide, rfl⟩
theorem dX6_nestedByTrying_65 : DI cX6_nestedByTrying 65 (.iload 4) 2 67 := ⟨by decide +kernel, rfl⟩
theorem dX6_nestedByTrying_67 : DI cX6_nestedByTrying 67 (.invokestatic 321) 3 70 := ⟨by decide +kernel, rfl⟩
theorem dX6_nestedByTrying_70 : DI cX6_nestedByTrying 70 (.ireturn) 1 71 := ⟨by decide +kernel, rfl⟩
theorem dX6_lengthOrThrow_0 : DI cX6_lengthOrThrow 0 (.iload_n 0) 1 1 := ⟨by decide +kernel, rfl⟩
theorem dX6_lengthOrThrow_1 : DI cX6_lengthOrThrow 1 (.bipush 61) 2 3 := ⟨by decide +kernel, rfl⟩
theorem dX6_lengthOrThrow_3 : DJ cX6_lengthOrThrow 3 (.if_icmp .lt 14) 14 17 6 := ⟨by decide +kernel, by decide, rfl⟩
theorem dX6_lengthOrThrow_6 : DI cX6_lengthOrThrow 6 (.new 66) 3 9 := ⟨by decide +kernel, rfl⟩
theorem dX6_lengthOrThrow_9 : DI cX6_lengthOrThrow 9 (.dup) 1 10 := ⟨by decide +kernel, rfl⟩
theorem dX6_lengthOrThrow_10 : DI cX6_lengthOrThrow 10 (.ldc_w 332) 3 13 := ⟨by decide +kernel, rfl⟩
theorem dX6_lengthOrThrow_13 : DI cX6_lengthOrThrow 13 (.invokespecial 70) 3 16 := ⟨by decide +kernel, rfl⟩
theorem dX6_lengthOrThrow_16 : DI cX6_lengthOrThrow 16 (.athrow) 1 17 := ⟨by decide +kernel, rfl⟩
theorem dX6_lengthOrThrow_17 : DI cX6_lengthOrThrow 17 (.iload_n 0) 1 18 := ⟨by decide +kernel, rfl⟩
theorem dX6_lengthOrThrow_18 : DI cX6_lengthOrThrow 18 (.ireturn) 1 19 := ⟨by decide +kernel, rfl⟩
theorem dX6_wantPieces_0 : DI cX6_wantPieces 0 (.iconst 0) 1 1 := ⟨by decide +kernel, rfl⟩
theorem dX6_wantPieces_1 : DI cX6_wantPieces 1 (.istore_n 2) 1 2 := ⟨by decide +kernel, rfl⟩
theorem dX6_wantPieces_2 : DI cX6_wantPieces 2 (.iconst 0) 1 3 := ⟨by decide +kernel, rfl⟩
theorem dX6_wantPieces_3 : DI cX6_wantPieces 3 (.istore_n 3) 1 4 := ⟨by decide +kernel, rfl⟩
theorem dX6_wantPieces_4 : DI cX6_wantPieces 4 (.iload_n 3) 1 5 := ⟨by decide +kernel, rfl⟩
theorem dX6_wantPieces_5 : DI cX6_wantPieces 5 (.bipush 8) 2 7 := ⟨by decide +kernel, rfl⟩
theorem dX6_wantPieces_7 : DJ cX6_wantPieces 7 (.if_icmp .ge 61) 61 68 10 := ⟨by decide +kernel, by decide, rfl⟩
theorem dX6_wantPieces_10 : DI cX6_wantPieces 10 (.aload_n 0) 1 11 := ⟨by decide +kernel, rfl⟩
theorem dX6_wantPieces_11 : DI cX6_wantPieces 11 (.aload_n 1) 1 12 := ⟨by decide +kernel, rfl⟩
theorem dX6_wantPieces_12 : DI cX6_wantPieces 12 (.iload_n 3) 1 13 := ⟨by decide +kernel, rfl⟩
theorem dX6_wantPieces_13 : DI cX6_wantPieces 13 (.invokevirtual 334) 3 16 := ⟨by decide +kernel, rfl⟩
theorem dX6_wantPieces_16 : DI cX6_wantPieces 16 (.istore 4) 2 18 := ⟨by decide +kernel, rfl⟩
theorem dX6_wantPieces_18 : DI cX6_wantPieces 18 (.aload_n 0) 1 19 := ⟨by decide +kernel, rfl⟩
theorem dX6_wantPieces_19 : DI cX6_wantPieces 19 (.aload_n 1) 1 20 := ⟨by decide +kernel, rfl⟩
theorem dX6_wantPieces_20 : DI cX6_wantPieces 20 (.iload_n 3) 1 21 := ⟨by decide +kernel, rfl⟩
theorem dX6_wantPieces_21 : DI cX6_wantPieces 21 (.invokevirtual 337) 3 24 := ⟨by decide +kernel, rfl⟩
theorem dX6_wantPieces_24 : DI cX6_wantPieces 24 (.istore 5) 2 26 := ⟨by decide +kernel, rfl⟩
theorem dX6_wantPieces_26 : DI cX6_wantPieces 26 (.aload_n 0) 1 27 := ⟨by decide +kernel, rfl⟩
theorem dX6_wantPieces_27 : DI cX6_wantPieces 27 (.getfield 38) 3 30 := ⟨by decide +kernel, rfl⟩
theorem dX6_wantPieces_30 : DI cX6_wantPieces 30 (.iload_n 3) 1 31 := ⟨by decide +kernel, rfl⟩
theorem dX6_wantPieces_31 : DI cX6_wantPieces 31 (.iconst 0) 1 32 := ⟨by decide +kernel, rfl⟩
theorem dX6_wantPieces_32 : DI cX6_wantPieces 32 (.invokestatic 340) 3 35 := ⟨by decide +kernel, rfl⟩
theorem dX6_wantPieces_35 : DI cX6_wantPieces 35 (.iload 4) 2 37 := ⟨by decide +kernel, rfl⟩
theorem dX6_wantPieces_37 : DI cX6_wantPieces 37 (.invokestatic 293) 3 40 := ⟨by decide +kernel, rfl⟩
theorem dX6_wantPieces_40 : DI cX6_wantPieces 40 (.aload_n 0) 1 41 := ⟨by decide +kernel, rfl⟩
theorem dX6_wantPieces_41 : DI cX6_wantPieces 41 (.getfield 38) 3 44 := ⟨by decide +kernel, rfl⟩
theorem dX6_wantPieces_44 : DI cX6_wantPieces 44 (.iload_n 3) 1 45 := ⟨by decide +kernel, rfl⟩
theorem dX6_wantPieces_45 : DI cX6_wantPieces 45 (.iconst 1) 1 46 := ⟨by decide +kernel, rfl⟩
theorem dX6_wantPieces_46 : DI cX6_wantPieces 46 (.invokestatic 340) 3 49 := ⟨by decide +kernel, rfl⟩
theorem dX6_wantPieces_49 : DI cX6_wantPieces 49 (.iload 5) 2 51 := ⟨by decide +kernel, rfl⟩
theorem dX6_wantPieces_51 : DI cX6_wantPieces 51 (.invokestatic 293) 3 54 := ⟨by decide +kernel, rfl⟩
theorem dX6_wantPieces_54 : DI cX6_wantPieces 54 (.iload_n 2) 1 55 := ⟨by decide +kernel, rfl⟩
theorem dX6_wantPieces_55 : DI cX6_wantPieces 55 (.iload 4) 2 57 := ⟨by decide +kernel, rfl⟩
theorem dX6_wantPieces_57 : DI cX6_wantPieces 57 (.iload 5) 2 59 := ⟨by decide +kernel, rfl⟩
theorem dX6_wantPieces_59 : DI cX6_wantPieces 59 (.iadd) 1 60 := ⟨by decide +kernel, rfl⟩
theorem dX6_wantPieces_60 : DI cX6_wantPieces 60 (.iadd) 1 61 := ⟨by decide +kernel, rfl⟩
theorem dX6_wantPieces_61 : DI cX6_wantPieces 61 (.istore_n 2) 1 62 := ⟨by decide +kernel, rfl⟩
theorem dX6_wantPieces_62 : DI cX6_wantPieces 62 (.iinc 3 1) 3 65 := ⟨by decide +kernel, rfl⟩
theorem dX6_wantPieces_65 : DJ cX6_wantPieces 65 (.goto (-61)) (-61) 4 68 := ⟨by decide +kernel, by decide, rfl⟩
theorem dX6_wantPieces_68 : DI cX6_wantPieces 68 (.iload_n 2) 1 69 := ⟨by decide +kernel, rfl⟩
theorem dX6_wantPieces_69 : DI cX6_wantPieces 69 (.iconst 1) 1 70 := ⟨by decide +kernel, rfl⟩
theorem dX6_wantPieces_70 : DI cX6_wantPieces 70 (.iconst 4) 1 71 := ⟨by decide +kernel, rfl⟩
theorem dX6_wantPieces_71 : DI cX6_wantPieces 71 (.invokestatic 48) 3 74 := ⟨by decide +kernel, rfl⟩
theorem dX6_wantPieces_74 : DJ cX6_wantPieces 74 (.ifCond .ne 14) 14 88 77 := ⟨by decide +kernel, by decide, rfl⟩
theorem dX6_wantPieces_77 : DI cX6_wantPieces 77 (.new 96) 3 80 := ⟨by decide +kernel, rfl⟩
theorem dX6_wantPieces_80 : DI cX6_wantPieces 80 (.dup) 1 81 := ⟨by decide +kernel, rfl⟩
theorem dX6_wantPieces_81 : DI cX6_wantPieces 81 (.ldc_w 344) 3 84 := ⟨by decide +kernel, rfl⟩
theorem dX6_wantPieces_84 : DI cX6_wantPieces 84 (.invokespecial 100) 3 87 := ⟨by decide +kernel, rfl⟩
theorem dX6_wantPieces_87 : DI cX6_wantPieces 87 (.athrow) 1 88 := ⟨by decide +kernel, rfl⟩
theorem dX6_wantPieces_88 : DI cX6_wantPieces 88 (.iload_n 2) 1 89 := ⟨by decide +kernel, rfl⟩
theorem dX6_wantPieces_89 : DI cX6_wantPieces 89 (.ireturn) 1 90 := ⟨by decide +kernel, rfl⟩
theorem dX6_plainToNest_0 : DI cX6_plainToNest 0 (.aload_n 0) 1 1 := ⟨by decide +kernel, rfl⟩
theorem dX6_plainToNest_1 : DI cX6_plainToNest 1 (.iload_n 2) 1 2 := ⟨by decide +kernel, rfl⟩
theorem dX6_plainToNest_2 : DI cX6_plainToNest 2 (.invokevirtual 169) 3 5 := ⟨by decide +kernel, rfl⟩
theorem dX6_plainToNest_5 : DI cX6_plainToNest 5 (.astore_n 3) 1 6 := ⟨by decide +kernel, rfl⟩
theorem dX6_plainToNest_6 : DI cX6_plainToNest 6 (.aload_n 1) 1 7 := ⟨by decide +kernel, rfl⟩
theorem dX6_plainToNest_7 : DI cX6_plainToNest 7 (.getfield 285) 3 10 := ⟨by decide +kernel, rfl⟩
theorem dX6_plainToNest_10 : DI cX6_plainToNest 10 (.iload_n 2) 1 11 := ⟨by decide +kernel, rfl⟩
theorem dX6_plainToNest_11 : DI cX6_plainToNest 11 (.invokestatic 264) 3 14 := ⟨by decide +kernel, rfl⟩
theorem dX6_plainToNest_14 : DI cX6_plainToNest 14 (.istore 4) 2 16 := ⟨by decide +kernel, rfl⟩
theorem dX6_plainToNest_16 : DI cX6_plainToNest 16 (.aload_n 0) 1 17 := ⟨by decide +kernel, rfl⟩
theorem dX6_plainToNest_17 : DI cX6_plainToNest 17 (.getfield 12) 3 20 := ⟨by decide +kernel, rfl⟩
theorem dX6_plainToNest_20 : DI cX6_plainToNest 20 (.getfield 83) 3 23 := ⟨by decide +kernel, rfl⟩
theorem dX6_plainToNest_23 : DJ cX6_plainToNest 23 (.ifCond .eq 18) 18 41 26 := ⟨by decide +kernel, by decide, rfl⟩
theorem dX6_plainToNest_26 : DI cX6_plainToNest 26 (.aload_n 3) 1 27 := ⟨by decide +kernel, rfl⟩
theorem dX6_plainToNest_27 : DJ cX6_plainToNest 27 (.ifnull 14) 14 41 30 := ⟨by decide +kernel, by decide, rfl⟩
theorem dX6_plainToNest_30 : DI cX6_plainToNest 30 (.aload_n 3) 1 31 := ⟨by decide +kernel, rfl⟩
theorem dX6_plainToNest_31 : DI cX6_plainToNest 31 (.getfield 312) 3 34 := ⟨by decide +kernel, rfl⟩
theorem dX6_plainToNest_34 : DJ cX6_plainToNest 34 (.ifCond .ne 7) 7 41 37 := ⟨by decide +kernel, by decide, rfl⟩
theorem dX6_plainToNest_37 : DI cX6_plainToNest 37 (.iconst 1) 1 38 := ⟨by decide +kernel, rfl⟩
theorem dX6_plainToNest_38 : DJ cX6_plainToNest 38 (.goto 4) 4 42 41 := ⟨by decide +kernel, by decide, rfl⟩
theorem dX6_plainToNest_41 : DI cX6_plainToNest 41 (.iconst 0) 1 42 := ⟨by decide +kernel, rfl⟩
theorem dX6_plainToNest_42 : DI cX6_plainToNest 42 (.istore 5) 2 44 := ⟨by decide +kernel, rfl⟩
theorem dX6_plainToNest_44 : DI cX6_plainToNest 44 (.iload 5) 2 46 := ⟨by decide +kernel, rfl⟩
theorem dX6_plainToNest_46 : DJ cX6_plainToNest 46 (.ifCond .eq 12) 12 58 49 := ⟨by decide +kernel, by decide, rfl⟩
theorem dX6_plainToNest_49 : DI cX6_plainToNest 49 (.iload 4) 2 51 := ⟨by decide +kernel, rfl⟩
theorem dX6_plainToNest_51 : DI cX6_plainToNest 51 (.iconst 1) 1 52 := ⟨by decide +kernel, rfl⟩
theorem dX6_plainToNest_52 : DI cX6_plainToNest 52 (.iadd) 1 53 := ⟨by decide +kernel, rfl⟩
theorem dX6_plainToNest_53 : DI cX6_plainToNest 53 (.iconst 2) 1 54 := ⟨by decide +kernel, rfl⟩
theorem dX6_plainToNest_54 : DI cX6_plainToNest 54 (.idiv) 1 55 := ⟨by decide +kernel, rfl⟩
theorem dX6_plainToNest_55 : DJ cX6_plainToNest 55 (.goto 5) 5 60 58 := ⟨by decide +kernel, by decide, rfl⟩
theorem dX6_plainToNest_58 : DI cX6_plainToNest 58 (.iload 4) 2 60 := ⟨by decide +kernel, rfl⟩
theorem dX6_plainToNest_60 : DI cX6_plainToNest 60 (.ireturn) 1 61 := ⟨by decide +kernel, rfl⟩
theorem dX6_mirroredToNest_0 : DI cX6_mirroredToNest 0 (.aload_n 0) 1 1 := ⟨by decide +kernel, rfl⟩
theorem dX6_mirroredToNest_1 : DI cX6_mirroredToNest 1 (.iload_n 2) 1 2 := ⟨by decide +kernel, rfl⟩
theorem dX6_mirroredToNest_2 : DI cX6_mirroredToNest 2 (.invokevirtual 169) 3 5 := ⟨by decide +kernel, rfl⟩
theorem dX6_mirroredToNest_5 : DI cX6_mirroredToNest 5 (.astore_n 3) 1 6 := ⟨by decide +kernel, rfl⟩
theorem dX6_mirroredToNest_6 : DI cX6_mirroredToNest 6 (.aload_n 3) 1 7 := ⟨by decide +kernel, rfl⟩
theorem dX6_mirroredToNest_7 : DJ cX6_mirroredToNest 7 (.ifnull 31) 31 38 10 := ⟨by decide +kernel, by decide, rfl⟩
theorem dX6_mirroredToNest_10 : DI cX6_mirroredToNest 10 (.aload_n 3) 1 11 := ⟨by decide +kernel, rfl⟩
theorem dX6_mirroredToNest_11 : DI cX6_mirroredToNest 11 (.getfield 312) 3 14 := ⟨by decide +kernel, rfl⟩
theorem dX6_mirroredToNest_14 : DJ cX6_mirroredToNest 14 (.ifCond .eq 24) 24 38 17 := ⟨by decide +kernel, by decide, rfl⟩
theorem dX6_mirroredToNest_17 : DI cX6_mirroredToNest 17 (.aload_n 0) 1 18 := ⟨by decide +kernel, rfl⟩
theorem dX6_mirroredToNest_18 : DI cX6_mirroredToNest 18 (.getfield 12) 3 21 := ⟨by decide +kernel, rfl⟩
theorem dX6_mirroredToNest_21 : DI cX6_mirroredToNest 21 (.getfield 83) 3 24 := ⟨by decide +kernel, rfl⟩
theorem dX6_mirroredToNest_24 : DJ cX6_mirroredToNest 24 (.ifCond .ne 14) 14 38 27 := ⟨by decide +kernel, by decide, rfl⟩
theorem dX6_mirroredToNest_27 : DI cX6_mirroredToNest 27 (.aload_n 1) 1 28 := ⟨by decide +kernel, rfl⟩
theorem dX6_mirroredToNest_28 : DI cX6_mirroredToNest 28 (.getfield 285) 3 31 := ⟨by decide +kernel, rfl⟩
theorem dX6_mirroredToNest_31 : DI cX6_mirroredToNest 31 (.iload_n 2) 1 32 := ⟨by decide +kernel, rfl⟩
theorem dX6_mirroredToNest_32 : DI cX6_mirroredToNest 32 (.invokestatic 264) 3 35 := ⟨by decide +kernel, rfl⟩
theorem dX6_mirroredToNest_35 : DJ cX6_mirroredToNest 35 (.goto 4) 4 39 38 := ⟨by decide +kernel, by decide, rfl⟩
theorem dX6_mirroredToNest_38 : DI cX6_mirroredToNest 38 (.iconst 0) 1 39 := ⟨by decide +kernel, rfl⟩
theorem dX6_mirroredToNest_39 : DI cX6_mirroredToNest 39 (.ireturn) 1 40 := ⟨by decide +kernel, rfl⟩
theorem dX6_shortest_0 : DI cX6_shortest 0 (.iload_n 1) 1 1 := ⟨by decide +kernel, rfl⟩
theorem dX6_shortest_1 : DJ cX6_shortest 1 (.ifCond .gt 15) 15 16 4 := ⟨by decide +kernel, by decide, rfl⟩
theorem dX6_shortest_4 : DI cX6_shortest 4 (.iload_n 2) 1 5 := ⟨by decide +kernel, rfl⟩
theorem dX6_shortest_5 : DI cX6_shortest 5 (.aload_n 0) 1 6 := ⟨by decide +kernel, rfl⟩
theorem dX6_shortest_6 : DI cX6_shortest 6 (.getfield 35) 3 9 := ⟨by decide +kernel, rfl⟩
theorem dX6_shortest_9 : DI cX6_shortest 9 (.invokevirtual 219) 3 12 := ⟨by decide +kernel, rfl⟩
theorem dX6_shortest_12 : DI cX6_shortest 12 (.invokestatic 327) 3 15 := ⟨by decide +kernel, rfl⟩
theorem dX6_shortest_15 : DI cX6_shortest 15 (.ireturn) 1 16 := ⟨by decide +kernel, rfl⟩
theorem dX6_shortest_16 : DI cX6_shortest 16 (.iload_n 2) 1 17 := ⟨by decide +kernel, rfl⟩
theorem dX6_shortest_17 : DI cX6_shortest 17 (.istore_n 3) 1 18 := ⟨by decide +kernel, rfl⟩
theorem dX6_shortest_18 : DI cX6_shortest 18 (.iconst 0) 1 19 := ⟨by decide +kernel, rfl⟩
theorem dX6_shortest_19 : DI cX6_shortest 19 (.istore 4) 2 21 := ⟨by decide +kernel, rfl⟩
theorem dX6_shortest_21 : DI cX6_shortest 21 (.iload 4) 2 23 := ⟨by decide +kernel, rfl⟩
theorem dX6_shortest_23 : DI cX6_shortest 23 (.aload_n 0) 1 24 := ⟨by decide +kernel, rfl⟩
theorem dX6_shortest_24 : DI cX6_shortest 24 (.getfield 38) 3 27 := ⟨by decide +kernel, rfl⟩
theorem dX6_shortest_27 : DI cX6_shortest 27 (.arraylength) 1 28 := ⟨by decide +kernel, rfl⟩
theorem dX6_shortest_28 : DJ cX6_shortest 28 (.if_icmp .ge 28) 28 56 31 := ⟨by decide +kernel, by decide, rfl⟩
theorem dX6_shortest_31 : DI cX6_shortest 31 (.aload_n 0) 1 32 := ⟨by decide +kernel, rfl⟩
theorem dX6_shortest_32 : DI cX6_shortest 32 (.getfield 38) 3 35 := ⟨by decide +kernel, rfl⟩
theorem dX6_shortest_35 : DI cX6_shortest 35 (.iload 4) 2 37 := ⟨by decide +kernel, rfl⟩
theorem dX6_shortest_37 : DI cX6_shortest 37 (.iaload) 1 38 := ⟨by decide +kernel, rfl⟩
theorem dX6_shortest_38 : DJ cX6_shortest 38 (.ifCond .le 12) 12 50 41 := ⟨by decide +kernel, by decide, rfl⟩
theorem dX6_shortest_41 : DI cX6_shortest 41 (.aload_n 0) 1 42 := ⟨by decide +kernel, rfl⟩
theorem dX6_shortest_42 : DI cX6_shortest 42 (.iload 4) 2 44 := ⟨by decide +kernel, rfl⟩
theorem dX6_shortest_44 : DI cX6_shortest 44 (.iload_n 1) 1 45 := ⟨by decide +kernel, rfl⟩
theorem dX6_shortest_45 : DI cX6_shortest 45 (.iload_n 3) 1 46 := ⟨by decide +kernel, rfl⟩
theorem dX6_shortest_46 : DI cX6_shortest 46 (.invokevirtual 346) 3 49 := ⟨by decide +kernel, rfl⟩
theorem dX6_shortest_49 : DI cX6_shortest 49 (.istore_n 3) 1 50 := ⟨by decide +kernel, rfl⟩
theorem dX6_shortest_50 : DI cX6_shortest 50 (.iinc 4 1) 3 53 := ⟨by decide +kernel, rfl⟩
theorem dX6_shortest_53 : DJ cX6_shortest 53 (.goto (-32)) (-32) 21 56 := ⟨by decide +kernel, by decide, rfl⟩
theorem dX6_shortest_56 : DI cX6_shortest 56 (.iload_n 3) 1 57 := ⟨by decide +kernel, rfl⟩
theorem dX6_shortest_57 : DI cX6_shortest 57 (.ireturn) 1 58 := ⟨by decide +kernel, rfl⟩
theorem dX6_shortestWith_0 : DI cX6_shortestWith 0 (.aload_n 0) 1 1 := ⟨by decide +kernel, rfl⟩
theorem dX6_shortestWith_1 : DI cX6_shortestWith 1 (.iload_n 1) 1 2 := ⟨by decide +kernel, rfl⟩
theorem dX6_shortestWith_2 : DI cX6_shortestWith 2 (.invokevirtual 350) 3 5 := ⟨by decide +kernel, rfl⟩
theorem dX6_shortestWith_5 : DI cX6_shortestWith 5 (.istore 4) 2 7 := ⟨by decide +kernel, rfl⟩
theorem dX6_shortestWith_7 : DI cX6_shortestWith 7 (.iload 4) 2 9 := ⟨by decide +kernel, rfl⟩
theorem dX6_shortestWith_9 : DI cX6_shortestWith 9 (.iconst (-1)) 1 10 := ⟨by decide +kernel, rfl⟩
theorem dX6_shortestWith_10 : DJ cX6_shortestWith 10 (.if_icmp .ne 5) 5 15 13 := ⟨by decide +kernel, by decide, rfl⟩
theorem dX6_shortestWith_13 : DI cX6_shortestWith 13 (.iload_n 3) 1 14 := ⟨by decide +kernel, rfl⟩
theorem dX6_shortestWith_14 : DI cX6_shortestWith 14 (.ireturn) 1 15 := ⟨by decide +kernel, rfl⟩
theorem dX6_shortestWith_15 : DI cX6_shortestWith 15 (.iload_n 3) 1 16 := ⟨by decide +kernel, rfl⟩
theorem dX6_shortestWith_16 : DI cX6_shortestWith 16 (.istore 5) 2 18 := ⟨by decide +kernel, rfl⟩
theorem dX6_shortestWith_18 : DI cX6_shortestWith 18 (.aload_n 0) 1 19 := ⟨by decide +kernel, rfl⟩
theorem dX6_shortestWith_19 : DI cX6_shortestWith 19 (.getfield 35) 3 22 := ⟨by decide +kernel, rfl⟩
theorem dX6_shortestWith_22 : DI cX6_shortestWith 22 (.invokevirtual 219) 3 25 := ⟨by decide +kernel, rfl⟩
theorem dX6_shortestWith_25 : DI cX6_shortestWith 25 (.iload_n 3) 1 26 := ⟨by decide +kernel, rfl⟩
theorem dX6_shortestWith_26 : DJ cX6_shortestWith 26 (.if_icmp .ge 49) 49 75 29 := ⟨by decide +kernel, by decide, rfl⟩
theorem dX6_shortestWith_29 : DI cX6_shortestWith 29 (.aload_n 0) 1 30 := ⟨by decide +kernel, rfl⟩
theorem dX6_shortestWith_30 : DI cX6_shortestWith 30 (.getfield 38) 3 33 := ⟨by decide +kernel, rfl⟩
theorem dX6_shortestWith_33 : DI cX6_shortestWith 33 (.iload_n 1) 1 34 := ⟨by decide +kernel, rfl⟩
theorem dX6_shortestWith_34 : DI cX6_shortestWith 34 (.aload_n 0) 1 35 := ⟨by decide +kernel, rfl⟩
theorem dX6_shortestWith_35 : DI cX6_shortestWith 35 (.getfield 38) 3 38 := ⟨by decide +kernel, rfl⟩
theorem dX6_shortestWith_38 : DI cX6_shortestWith 38 (.iload_n 1) 1 39 := ⟨by decide +kernel, rfl⟩
theorem dX6_shortestWith_39 : DI cX6_shortestWith 39 (.invokestatic 264) 3 42 := ⟨by decide +kernel, rfl⟩
theorem dX6_shortestWith_42 : DI cX6_shortestWith 42 (.iconst 1) 1 43 := ⟨by decide +kernel, rfl⟩
theorem dX6_shortestWith_43 : DI cX6_shortestWith 43 (.isub) 1 44 := ⟨by decide +kernel, rfl⟩
theorem dX6_shortestWith_44 : DI cX6_shortestWith 44 (.invokestatic 293) 3 47 := ⟨by decide +kernel, rfl⟩
theorem dX6_shortestWith_47 : DI cX6_shortestWith 47 (.aload_n 0) 1 48 := ⟨by decide +kernel, rfl⟩
theorem dX6_shortestWith_48 : DI cX6_shortestWith 48 (.iload_n 2) 1 49 := ⟨by decide +kernel, rfl⟩
theorem dX6_shortestWith_49 : DI cX6_shortestWith 49 (.iconst 1) 1 50 := ⟨by decide +kernel, rfl⟩
theorem dX6_shortestWith_50 : DI cX6_shortestWith 50 (.isub) 1 51 := ⟨by decide +kernel, rfl⟩
theorem dX6_shortestWith_51 : DI cX6_shortestWith 51 (.iload_n 3) 1 52 := ⟨by decide +kernel, rfl⟩
theorem dX6_shortestWith_52 : DI cX6_shortestWith 52 (.invokevirtual 318) 3 55 := ⟨by decide +kernel, rfl⟩
theorem dX6_shortestWith_55 : DI cX6_shortestWith 55 (.istore 5) 2 57 := ⟨by decide +kernel, rfl⟩
theorem dX6_shortestWith_57 : DI cX6_shortestWith 57 (.aload_n 0) 1 58 := ⟨by decide +kernel, rfl⟩
theorem dX6_shortestWith_58 : DI cX6_shortestWith 58 (.getfield 38) 3 61 := ⟨by decide +kernel, rfl⟩
theorem dX6_shortestWith_61 : DI cX6_shortestWith 61 (.iload_n 1) 1 62 := ⟨by decide +kernel, rfl⟩
theorem dX6_shortestWith_62 : DI cX6_shortestWith 62 (.aload_n 0) 1 63 := ⟨by decide +kernel, rfl⟩
theorem dX6_shortestWith_63 : DI cX6_shortestWith 63 (.getfield 38) 3 66 := ⟨by decide +kernel, rfl⟩
theorem dX6_shortestWith_66 : DI cX6_shortestWith 66 (.iload_n 1) 1 67 := ⟨by decide +kernel, rfl⟩
theorem dX6_shortestWith_67 : DI cX6_shortestWith 67 (.invokestatic 264) 3 70 := ⟨by decide +kernel, rfl⟩
theorem dX6_shortestWith_70 : DI cX6_shortestWith 70 (.iconst 1) 1 71 := ⟨by decide +kernel, rfl⟩
theorem dX6_shortestWith_71 : DI cX6_shortestWith 71 (.iadd) 1 72 := ⟨by decide +kernel, rfl⟩
theorem dX6_shortestWith_72 : DI cX6_shortestWith 72 (.invokestatic 293) 3 75 := ⟨by decide +kernel, rfl⟩
theorem dX6_shortestWith_75 : DI cX6_shortestWith 75 (.aload_n 0) 1 76 := ⟨by decide +kernel, rfl⟩
theorem dX6_shortestWith_76 : DI cX6_shortestWith 76 (.getfield 35) 3 79 := ⟨by decide +kernel, rfl⟩
theorem dX6_shortestWith_79 : DI cX6_shortestWith 79 (.iload 4) 2 81 := ⟨by decide +kernel, rfl⟩
theorem dX6_shortestWith_81 : DI cX6_shortestWith 81 (.invokevirtual 216) 3 84 := ⟨by decide +kernel, rfl⟩
theorem dX6_shortestWith_84 : DI cX6_shortestWith 84 (.iload 5) 2 86 := ⟨by decide +kernel, rfl⟩
theorem dX6_shortestWith_86 : DI cX6_shortestWith 86 (.ireturn) 1 87 := ⟨by decide +kernel, rfl⟩
theorem dX6_lengthInOrder_0 : DI cX6_lengthInOrder 0 (.aload_n 0) 1 1 := ⟨by decide +kernel, rfl⟩
theorem dX6_lengthInOrder_1 : DI cX6_lengthInOrder 1 (.getfield 35) 3 4 := ⟨by decide +kernel, rfl⟩
theorem dX6_lengthInOrder_4 : DI cX6_lengthInOrder 4 (.invokevirtual 223) 3 7 := ⟨by decide +kernel, rfl⟩
theorem dX6_lengthInOrder_7 : DI cX6_lengthInOrder 7 (.aload_n 0) 1 8 := ⟨by decide +kernel, rfl⟩
theorem dX6_lengthInOrder_8 : DI cX6_lengthInOrder 8 (.invokevirtual 353) 3 11 := ⟨by decide +kernel, rfl⟩
theorem dX6_lengthInOrder_11 : DI cX6_lengthInOrder 11 (.iload_n 1) 1 12 := ⟨by decide +kernel, rfl⟩
theorem dX6_lengthInOrder_12 : DI cX6_lengthInOrder 12 (.istore_n 3) 1 13 := ⟨by decide +kernel, rfl⟩
theorem dX6_lengthInOrder_13 : DI cX6_lengthInOrder 13 (.iload_n 2) 1 14 := ⟨by decide +kernel, rfl⟩
theorem dX6_lengthInOrder_14 : DI cX6_lengthInOrder 14 (.istore 4) 2 16 := ⟨by decide +kernel, rfl⟩
theorem dX6_lengthInOrder_16 : DI cX6_lengthInOrder 16 (.iload 4) 2 18 := ⟨by decide +kernel, rfl⟩
theorem dX6_lengthInOrder_18 : DJ cX6_lengthInOrder 18 (.ifCond .le 64) 64 82 21 := ⟨by decide +kernel, by decide, rfl⟩
theorem dX6_lengthInOrder_21 : DI cX6_lengthInOrder 21 (.iload_n 3) 1 22 := ⟨by decide +kernel, rfl⟩
theorem dX6_lengthInOrder_22 : DI cX6_lengthInOrder 22 (.iload 4) 2 24 := ⟨by decide +kernel, rfl⟩
theorem dX6_lengthInOrder_24 : DI cX6_lengthInOrder 24 (.irem) 1 25 := ⟨by decide +kernel, rfl⟩
theorem dX6_lengthInOrder_25 : DI cX6_lengthInOrder 25 (.istore 5) 2 27 := ⟨by decide +kernel, rfl⟩
theorem dX6_lengthInOrder_27 : DI cX6_lengthInOrder 27 (.iload_n 3) 1 28 := ⟨by decide +kernel, rfl⟩
theorem dX6_lengthInOrder_28 : DI cX6_lengthInOrder 28 (.iload 4) 2 30 := ⟨by decide +kernel, rfl⟩
theorem dX6_lengthInOrder_30 : DI cX6_lengthInOrder 30 (.idiv) 1 31 := ⟨by decide +kernel, rfl⟩
theorem dX6_lengthInOrder_31 : DI cX6_lengthInOrder 31 (.istore_n 3) 1 32 := ⟨by decide +kernel, rfl⟩
theorem dX6_lengthInOrder_32 : DI cX6_lengthInOrder 32 (.aload_n 0) 1 33 := ⟨by decide +kernel, rfl⟩
theorem dX6_lengthInOrder_33 : DI cX6_lengthInOrder 33 (.getfield 42) 3 36 := ⟨by decide +kernel, rfl⟩
theorem dX6_lengthInOrder_36 : DI cX6_lengthInOrder 36 (.iload 5) 2 38 := ⟨by decide +kernel, rfl⟩
theorem dX6_lengthInOrder_38 : DI cX6_lengthInOrder 38 (.invokestatic 264) 3 41 := ⟨by decide +kernel, rfl⟩
theorem dX6_lengthInOrder_41 : DI cX6_lengthInOrder 41 (.istore 6) 2 43 := ⟨by decide +kernel, rfl⟩
theorem dX6_lengthInOrder_43 : DI cX6_lengthInOrder 43 (.aload_n 0) 1 44 := ⟨by decide +kernel, rfl⟩
theorem dX6_lengthInOrder_44 : DI cX6_lengthInOrder 44 (.getfield 42) 3 47 := ⟨by decide +kernel, rfl⟩
theorem dX6_lengthInOrder_47 : DI cX6_lengthInOrder 47 (.iload 5) 2 49 := ⟨by decide +kernel, rfl⟩
theorem dX6_lengthInOrder_49 : DI cX6_lengthInOrder 49 (.aload_n 0) 1 50 := ⟨by decide +kernel, rfl⟩
theorem dX6_lengthInOrder_50 : DI cX6_lengthInOrder 50 (.getfield 42) 3 53 := ⟨by decide +kernel, rfl⟩
theorem dX6_lengthInOrder_53 : DI cX6_lengthInOrder 53 (.iload 4) 2 55 := ⟨by decide +kernel, rfl⟩
theorem dX6_lengthInOrder_55 : DI cX6_lengthInOrder 55 (.iconst 1) 1 56 := ⟨by decide +kernel, rfl⟩
theorem dX6_lengthInOrder_56 : DI cX6_lengthInOrder 56 (.isub) 1 57 := ⟨by decide +kernel, rfl⟩
theorem dX6_lengthInOrder_57 : DI cX6_lengthInOrder 57 (.invokestatic 264) 3 60 := ⟨by decide +kernel, rfl⟩
theorem dX6_lengthInOrder_60 : DI cX6_lengthInOrder 60 (.invokestatic 293) 3 63 := ⟨by decide +kernel, rfl⟩
theorem dX6_lengthInOrder_63 : DI cX6_lengthInOrder 63 (.aload_n 0) 1 64 := ⟨by decide +kernel, rfl⟩
theorem dX6_lengthInOrder_64 : DI cX6_lengthInOrder 64 (.iload 6) 2 66 := ⟨by decide +kernel, rfl⟩
theorem dX6_lengthInOrder_66 : DI cX6_lengthInOrder 66 (.invokevirtual 350) 3 69 := ⟨by decide +kernel, rfl⟩
theorem dX6_lengthInOrder_69 : DI cX6_lengthInOrder 69 (.iconst (-1)) 1 70 := ⟨by decide +kernel, rfl⟩
theorem dX6_lengthInOrder_70 : DJ cX6_lengthInOrder 70 (.if_icmp .ne 6) 6 76 73 := ⟨by decide +kernel, by decide, rfl⟩
theorem dX6_lengthInOrder_73 : DI cX6_lengthInOrder 73 (.bipush 61) 2 75 := ⟨by decide +kernel, rfl⟩
theorem dX6_lengthInOrder_75 : DI cX6_lengthInOrder 75 (.ireturn) 1 76 := ⟨by decide +kernel, rfl⟩
theorem dX6_lengthInOrder_76 : DI cX6_lengthInOrder 76 (.iinc 4 (-1)) 3 79 := ⟨by decide +kernel, rfl⟩
theorem dX6_lengthInOrder_79 : DJ cX6_lengthInOrder 79 (.goto (-63)) (-63) 16 82 := ⟨by decide +kernel, by decide, rfl⟩
theorem dX6_lengthInOrder_82 : DI cX6_lengthInOrder 82 (.aload_n 0) 1 83 := ⟨by decide +kernel, rfl⟩
theorem dX6_lengthInOrder_83 : DI cX6_lengthInOrder 83 (.getfield 35) 3 86 := ⟨by decide +kernel, rfl⟩
theorem dX6_lengthInOrder_86 : DI cX6_lengthInOrder 86 (.invokevirtual 219) 3 89 := ⟨by decide +kernel, rfl⟩
theorem dX6_lengthInOrder_89 : DI cX6_lengthInOrder 89 (.ireturn) 1 90 := ⟨by decide +kernel, rfl⟩
theorem dX6_fillQueue_0 : DI cX6_fillQueue 0 (.iconst 0) 1 1 := ⟨by decide +kernel, rfl⟩
theorem dX6_fillQueue_1 : DI cX6_fillQueue 1 (.istore_n 1) 1 2 := ⟨by decide +kernel, rfl⟩
theorem dX6_fillQueue_2 : DI cX6_fillQueue 2 (.iconst 0) 1 3 := ⟨by decide +kernel, rfl⟩
theorem dX6_fillQueue_3 : DI cX6_fillQueue 3 (.istore_n 2) 1 4 := ⟨by decide +kernel, rfl⟩
theorem dX6_fillQueue_4 : DI cX6_fillQueue 4 (.iload_n 2) 1 5 := ⟨by decide +kernel, rfl⟩
theorem dX6_fillQueue_5 : DI cX6_fillQueue 5 (.aload_n 0) 1 6 := ⟨by decide +kernel, rfl⟩
theorem dX6_fillQueue_6 : DI cX6_fillQueue 6 (.getfield 38) 3 9 := ⟨by decide +kernel, rfl⟩
theorem dX6_fillQueue_9 : DI cX6_fillQueue 9 (.arraylength) 1 10 := ⟨by decide +kernel, rfl⟩
theorem dX6_fillQueue_10 : DJ cX6_fillQueue 10 (.if_icmp .ge 39) 39 49 13 := ⟨by decide +kernel, by decide, rfl⟩
theorem dX6_fillQueue_13 : DI cX6_fillQueue 13 (.iconst 0) 1 14 := ⟨by decide +kernel, rfl⟩
theorem dX6_fillQueue_14 : DI cX6_fillQueue 14 (.istore_n 3) 1 15 := ⟨by decide +kernel, rfl⟩
theorem dX6_fillQueue_15 : DI cX6_fillQueue 15 (.iload_n 3) 1 16 := ⟨by decide +kernel, rfl⟩
theorem dX6_fillQueue_16 : DI cX6_fillQueue 16 (.aload_n 0) 1 17 := ⟨by decide +kernel, rfl⟩
theorem dX6_fillQueue_17 : DI cX6_fillQueue 17 (.getfield 38) 3 20 := ⟨by decide +kernel, rfl⟩
theorem dX6_fillQueue_20 : DI cX6_fillQueue 20 (.iload_n 2) 1 21 := ⟨by decide +kernel, rfl⟩
theorem dX6_fillQueue_21 : DI cX6_fillQueue 21 (.iaload) 1 22 := ⟨by decide +kernel, rfl⟩
theorem dX6_fillQueue_22 : DJ cX6_fillQueue 22 (.if_icmp .ge 21) 21 43 25 := ⟨by decide +kernel, by decide, rfl⟩
theorem dX6_fillQueue_25 : DI cX6_fillQueue 25 (.aload_n 0) 1 26 := ⟨by decide +kernel, rfl⟩
theorem dX6_fillQueue_26 : DI cX6_fillQueue 26 (.getfield 42) 3 29 := ⟨by decide +kernel, rfl⟩
theorem dX6_fillQueue_29 : DI cX6_fillQueue 29 (.iload_n 1) 1 30 := ⟨by decide +kernel, rfl⟩
theorem dX6_fillQueue_30 : DI cX6_fillQueue 30 (.iload_n 2) 1 31 := ⟨by decide +kernel, rfl⟩
theorem dX6_fillQueue_31 : DI cX6_fillQueue 31 (.invokestatic 293) 3 34 := ⟨by decide +kernel, rfl⟩
theorem dX6_fillQueue_34 : DI cX6_fillQueue 34 (.iinc 1 1) 3 37 := ⟨by decide +kernel, rfl⟩
theorem dX6_fillQueue_37 : DI cX6_fillQueue 37 (.iinc 3 1) 3 40 := ⟨by decide +kernel, rfl⟩
theorem dX6_fillQueue_40 : DJ cX6_fillQueue 40 (.goto (-25)) (-25) 15 43 := ⟨by decide +kernel, by decide, rfl⟩
theorem dX6_fillQueue_43 : DI cX6_fillQueue 43 (.iinc 2 1) 3 46 := ⟨by decide +kernel, rfl⟩
theorem dX6_fillQueue_46 : DJ cX6_fillQueue 46 (.goto (-42)) (-42) 4 49 := ⟨by decide +kernel, by decide, rfl⟩
theorem dX6_fillQueue_49 : DI cX6_fillQueue 49 (.return_) 1 50 := ⟨by decide +kernel, rfl⟩
theorem dX6_nestInTrial_0 : DI cX6_nestInTrial 0 (.aload_n 0) 1 1 := ⟨by decide +kernel, rfl⟩
theorem dX6_nestInTrial_1 : DI cX6_nestInTrial 1 (.iload_n 1) 1 2 := ⟨by decide +kernel, rfl⟩
theorem dX6_nestInTrial_2 : DI cX6_nestInTrial 2 (.iconst 2) 1 3 := ⟨by decide +kernel, rfl⟩
theorem dX6_nestInTrial_3 : DI cX6_nestInTrial 3 (.idiv) 1 4 := ⟨by decide +kernel, rfl⟩
theorem dX6_nestInTrial_4 : DI cX6_nestInTrial 4 (.invokevirtual 169) 3 7 := ⟨by decide +kernel, rfl⟩
theorem dX6_nestInTrial_7 : DI cX6_nestInTrial 7 (.astore_n 2) 1 8 := ⟨by decide +kernel, rfl⟩
theorem dX6_nestInTrial_8 : DI cX6_nestInTrial 8 (.aload_n 2) 1 9 := ⟨by decide +kernel, rfl⟩
theorem dX6_nestInTrial_9 : DJ cX6_nestInTrial 9 (.ifnonnull 5) 5 14 12 := ⟨by decide +kernel, by decide, rfl⟩
theorem dX6_nestInTrial_12 : DI cX6_nestInTrial 12 (.iconst (-1)) 1 13 := ⟨by decide +kernel, rfl⟩
theorem dX6_nestInTrial_13 : DI cX6_nestInTrial 13 (.ireturn) 1 14 := ⟨by decide +kernel, rfl⟩
theorem dX6_nestInTrial_14 : DI cX6_nestInTrial 14 (.iload_n 1) 1 15 := ⟨by decide +kernel, rfl⟩
theorem dX6_nestInTrial_15 : DI cX6_nestInTrial 15 (.iconst 2) 1 16 := ⟨by decide +kernel, rfl⟩
theorem dX6_nestInTrial_16 : DI cX6_nestInTrial 16 (.irem) 1 17 := ⟨by decide +kernel, rfl⟩
theorem dX6_nestInTrial_17 : DI cX6_nestInTrial 17 (.iconst 1) 1 18 := ⟨by decide +kernel, rfl⟩
theorem dX6_nestInTrial_18 : DJ cX6_nestInTrial 18 (.if_icmp .ne 7) 7 25 21 := ⟨by decide +kernel, by decide, rfl⟩
theorem dX6_nestInTrial_21 : DI cX6_nestInTrial 21 (.iconst 1) 1 22 := ⟨by decide +kernel, rfl⟩
theorem dX6_nestInTrial_22 : DJ cX6_nestInTrial 22 (.goto 4) 4 26 25 := ⟨by decide +kernel, by decide, rfl⟩
theorem dX6_nestInTrial_25 : DI cX6_nestInTrial 25 (.iconst 0) 1 26 := ⟨by decide +kernel, rfl⟩
theorem dX6_nestInTrial_26 : DI cX6_nestInTrial 26 (.istore_n 3) 1 27 := ⟨by decide +kernel, rfl⟩
theorem dX6_nestInTrial_27 : DI cX6_nestInTrial 27 (.aload_n 0) 1 28 := ⟨by decide +kernel, rfl⟩
theorem dX6_nestInTrial_28 : DI cX6_nestInTrial 28 (.getfield 35) 3 31 := ⟨by decide +kernel, rfl⟩
theorem dX6_nestInTrial_31 : DI cX6_nestInTrial 31 (.aload_n 0) 1 32 := ⟨by decide +kernel, rfl⟩
theorem dX6_nestInTrial_32 : DI cX6_nestInTrial 32 (.getfield 12) 3 35 := ⟨by decide +kernel, rfl⟩
theorem dX6_nestInTrial_35 : DI cX6_nestInTrial 35 (.aload_n 2) 1 36 := ⟨by decide +kernel, rfl⟩
theorem dX6_nestInTrial_36 : DI cX6_nestInTrial 36 (.iload_n 3) 1 37 := ⟨by decide +kernel, rfl⟩
theorem dX6_nestInTrial_37 : DI cX6_nestInTrial 37 (.invokevirtual 199) 3 40 := ⟨by decide +kernel, rfl⟩
theorem dX6_nestInTrial_40 : DI cX6_nestInTrial 40 (.istore 4) 2 42 := ⟨by decide +kernel, rfl⟩
theorem dX6_nestInTrial_42 : DI cX6_nestInTrial 42 (.iload 4) 2 44 := ⟨by decide +kernel, rfl⟩
theorem dX6_nestInTrial_44 : DI cX6_nestInTrial 44 (.iconst (-1)) 1 45 := ⟨by decide +kernel, rfl⟩
theorem dX6_nestInTrial_45 : DJ cX6_nestInTrial 45 (.if_icmp .ne 7) 7 52 48 := ⟨by decide +kernel, by decide, rfl⟩
theorem dX6_nestInTrial_48 : DI cX6_nestInTrial 48 (.iconst (-1)) 1 49 := ⟨by decide +kernel, rfl⟩
theorem dX6_nestInTrial_49 : DJ cX6_nestInTrial 49 (.goto 18) 18 67 52 := ⟨by decide +kernel, by decide, rfl⟩
theorem dX6_nestInTrial_52 : DI cX6_nestInTrial 52 (.aload_n 0) 1 53 := ⟨by decide +kernel, rfl⟩
theorem dX6_nestInTrial_53 : DI cX6_nestInTrial 53 (.getfield 35) 3 56 := ⟨by decide +kernel, rfl⟩
theorem dX6_nestInTrial_56 : DI cX6_nestInTrial 56 (.aload_n 0) 1 57 := ⟨by decide +kernel, rfl⟩
theorem dX6_nestInTrial_57 : DI cX6_nestInTrial 57 (.getfield 12) 3 60 := ⟨by decide +kernel, rfl⟩
theorem dX6_nestInTrial_60 : DI cX6_nestInTrial 60 (.aload_n 2) 1 61 := ⟨by decide +kernel, rfl⟩
theorem dX6_nestInTrial_61 : DI cX6_nestInTrial 61 (.iload 4) 2 63 := ⟨by decide +kernel, rfl⟩
theorem dX6_nestInTrial_63 : DI cX6_nestInTrial 63 (.iload_n 3) 1 64 := ⟨by decide +kernel, rfl⟩
theorem dX6_nestInTrial_64 : DI cX6_nestInTrial 64 (.invokevirtual 208) 3 67 := ⟨by decide +kernel, rfl⟩
theorem dX6_nestInTrial_67 : DI cX6_nestInTrial 67 (.ireturn) 1 68 := ⟨by decide +kernel, rfl⟩
theorem dX6_kindOf_0 : DI cX6_kindOf 0 (.iload_n 0) 1 1 := ⟨by decide +kernel, rfl⟩
theorem dX6_kindOf_1 : DI cX6_kindOf 1 (.iconst 2) 1 2 := ⟨by decide +kernel, rfl⟩
theorem dX6_kindOf_2 : DI cX6_kindOf 2 (.imul) 1 3 := ⟨by decide +kernel, rfl⟩
theorem dX6_kindOf_3 : DI cX6_kindOf 3 (.iload_n 1) 1 4 := ⟨by decide +kernel, rfl⟩
theorem dX6_kindOf_4 : DJ cX6_kindOf 4 (.ifCond .eq 7) 7 11 7 := ⟨by decide +kernel, by decide, rfl⟩
theorem dX6_kindOf_7 : DI cX6_kindOf 7 (.iconst 1) 1 8 := ⟨by decide +kernel, rfl⟩
theorem dX6_kindOf_8 : DJ cX6_kindOf 8 (.goto 4) 4 12 11 := ⟨by decide +kernel, by decide, rfl⟩
theorem dX6_kindOf_11 : DI cX6_kindOf 11 (.iconst 0) 1 12 := ⟨by decide +kernel, rfl⟩
theorem dX6_kindOf_12 : DI cX6_kindOf 12 (.iadd) 1 13 := ⟨by decide +kernel, rfl⟩
theorem dX6_kindOf_13 : DI cX6_kindOf 13 (.ireturn) 1 14 := ⟨by decide +kernel, rfl⟩
theorem dX6_addCloth_0 : DI cX6_addCloth 0 (.iload_n 1) 1 1 := ⟨by decide +kernel, rfl⟩
theorem dX6_addCloth_1 : DI cX6_addCloth 1 (.iconst 1) 1 2 := ⟨by decide +kernel, rfl⟩
theorem dX6_addCloth_2 : DI cX6_addCloth 2 (.sipush 9999) 3 5 := ⟨by decide +kernel, rfl⟩
theorem dX6_addCloth_5 : DI cX6_addCloth 5 (.invokestatic 48) 3 8 := ⟨by decide +kernel, rfl⟩
theorem dX6_addCloth_8 : DJ cX6_addCloth 8 (.ifCond .eq 15) 15 23 11 := ⟨by decide +kernel, by decide, rfl⟩
theorem dX6_addCloth_11 : DI cX6_addCloth 11 (.aload_n 0) 1 12 := ⟨by decide +kernel, rfl⟩
theorem dX6_addCloth_12 : DI cX6_addCloth 12 (.getfield 356) 3 15 := ⟨by decide +kernel, rfl⟩
theorem dX6_addCloth_15 : DI cX6_addCloth 15 (.iload_n 1) 1 16 := ⟨by decide +kernel, rfl⟩
theorem dX6_addCloth_16 : DI cX6_addCloth 16 (.iadd) 1 17 := ⟨by decide +kernel, rfl⟩
theorem dX6_addCloth_17 : DI cX6_addCloth 17 (.ldc_w 359) 3 20 := ⟨by decide +kernel, rfl⟩
theorem dX6_addCloth_20 : DJ cX6_addCloth 20 (.if_icmp .le 14) 14 34 23 := ⟨by decide +kernel, by decide, rfl⟩
theorem dX6_addCloth_23 : DI cX6_addCloth 23 (.new 52) 3 26 := ⟨by decide +kernel, rfl⟩
theorem dX6_addCloth_26 : DI cX6_addCloth 26 (.dup) 1 27 := ⟨by decide +kernel, rfl⟩
theorem dX6_addCloth_27 : DI cX6_addCloth 27 (.ldc_w 360) 3 30 := ⟨by decide +kernel, rfl⟩
theorem dX6_addCloth_30 : DI cX6_addCloth 30 (.invokespecial 56) 3 33 := ⟨by decide +kernel, rfl⟩
theorem dX6_addCloth_33 : DI cX6_addCloth 33 (.athrow) 1 34 := ⟨by decide +kernel, rfl⟩
theorem dX6_addCloth_34 : DI cX6_addCloth 34 (.aload_n 0) 1 35 := ⟨by decide +kernel, rfl⟩
theorem dX6_addCloth_35 : DI cX6_addCloth 35 (.dup) 1 36 := ⟨by decide +kernel, rfl⟩
theorem dX6_addCloth_36 : DI cX6_addCloth 36 (.getfield 356) 3 39 := ⟨by decide +kernel, rfl⟩
theorem dX6_addCloth_39 : DI cX6_addCloth 39 (.iload_n 1) 1 40 := ⟨by decide +kernel, rfl⟩
theorem dX6_addCloth_40 : DI cX6_addCloth 40 (.iadd) 1 41 := ⟨by decide +kernel, rfl⟩
theorem dX6_addCloth_41 : DI cX6_addCloth 41 (.putfield 356) 3 44 := ⟨by decide +kernel, rfl⟩
theorem dX6_addCloth_44 : DI cX6_addCloth 44 (.aload_n 0) 1 45 := ⟨by decide +kernel, rfl⟩
theorem dX6_addCloth_45 : DI cX6_addCloth 45 (.getfield 356) 3 48 := ⟨by decide +kernel, rfl⟩
theorem dX6_addCloth_48 : DI cX6_addCloth 48 (.ireturn) 1 49 := ⟨by decide +kernel, rfl⟩
theorem dX6_roll_0 : DI cX6_roll 0 (.aload_n 0) 1 1 := ⟨by decide +kernel, rfl⟩
theorem dX6_roll_1 : DI cX6_roll 1 (.getfield 356) 3 4 := ⟨by decide +kernel, rfl⟩
theorem dX6_roll_4 : DI cX6_roll 4 (.ireturn) 1 5 := ⟨by decide +kernel, rfl⟩
theorem dX6_spread_0 : DI cX6_spread 0 (.iload_n 1) 1 1 := ⟨by decide +kernel, rfl⟩
theorem dX6_spread_1 : DI cX6_spread 1 (.iconst 1) 1 2 := ⟨by decide +kernel, rfl⟩
theorem dX6_spread_2 : DI cX6_spread 2 (.bipush 50) 2 4 := ⟨by decide +kernel, rfl⟩
theorem dX6_spread_4 : DI cX6_spread 4 (.invokestatic 48) 3 7 := ⟨by decide +kernel, rfl⟩
theorem dX6_spread_7 : DJ cX6_spread 7 (.ifCond .ne 14) 14 21 10 := ⟨by decide +kernel, by decide, rfl⟩
theorem dX6_spread_10 : DI cX6_spread 10 (.new 52) 3 13 := ⟨by decide +kernel, rfl⟩
theorem dX6_spread_13 : DI cX6_spread 13 (.dup) 1 14 := ⟨by decide +kernel, rfl⟩
theorem dX6_spread_14 : DI cX6_spread 14 (.ldc_w 362) 3 17 := ⟨by decide +kernel, rfl⟩
theorem dX6_spread_17 : DI cX6_spread 17 (.invokespecial 56) 3 20 := ⟨by decide +kernel, rfl⟩
theorem dX6_spread_20 : DI cX6_spread 20 (.athrow) 1 21 := ⟨by decide +kernel, rfl⟩
theorem dX6_spread_21 : DI cX6_spread 21 (.aload_n 0) 1 22 := ⟨by decide +kernel, rfl⟩
theorem dX6_spread_22 : DI cX6_spread 22 (.getfield 19) 3 25 := ⟨by decide +kernel, rfl⟩
theorem dX6_spread_25 : DI cX6_spread 25 (.getfield 59) 3 28 := ⟨by decide +kernel, rfl⟩
theorem dX6_spread_28 : DJ cX6_spread 28 (.ifCond .ne 14) 14 42 31 := ⟨by decide +kernel, by decide, rfl⟩
theorem dX6_spread_31 : DI cX6_spread 31 (.new 96) 3 34 := ⟨by decide +kernel, rfl⟩
theorem dX6_spread_34 : DI cX6_spread 34 (.dup) 1 35 := ⟨by decide +kernel, rfl⟩
theorem dX6_spread_35 : DI cX6_spread 35 (.ldc_w 364) 3 38 := ⟨by decide +kernel, rfl⟩
theorem dX6_spread_38 : DI cX6_spread 38 (.invokespecial 100) 3 41 := ⟨by decide +kernel, rfl⟩
theorem dX6_spread_41 : DI cX6_spread 41 (.athrow) 1 42 := ⟨by decide +kernel, rfl⟩
theorem dX6_spread_42 : DI cX6_spread 42 (.iload_n 1) 1 43 := ⟨by decide +kernel, rfl⟩
theorem dX6_spread_43 : DI cX6_spread 43 (.aload_n 0) 1 44 := ⟨by decide +kernel, rfl⟩
theorem dX6_spread_44 : DI cX6_spread 44 (.getfield 19) 3 47 := ⟨by decide +kernel, rfl⟩
theorem dX6_spread_47 : DI cX6_spread 47 (.invokevirtual 219) 3 50 := ⟨by decide +kernel, rfl⟩
theorem dX6_spread_50 : DI cX6_spread 50 (.imul) 1 51 := ⟨by decide +kernel, rfl⟩
theorem dX6_spread_51 : DI cX6_spread 51 (.aload_n 0) 1 52 := ⟨by decide +kernel, rfl⟩
theorem dX6_spread_52 : DI cX6_spread 52 (.getfield 12) 3 55 := ⟨by decide +kernel, rfl⟩
theorem dX6_spread_55 : DI cX6_spread 55 (.getfield 83) 3 58 := ⟨by decide +kernel, rfl⟩
theorem dX6_spread_58 : DJ cX6_spread 58 (.ifCond .eq 7) 7 65 61 := ⟨by decide +kernel, by decide, rfl⟩
theorem dX6_spread_61 : DI cX6_spread 61 (.iconst 2) 1 62 := ⟨by decide +kernel, rfl⟩
theorem dX6_spread_62 : DJ cX6_spread 62 (.goto 4) 4 66 65 := ⟨by decide +kernel, by decide, rfl⟩
theorem dX6_spread_65 : DI cX6_spread 65 (.iconst 1) 1 66 := ⟨by decide +kernel, rfl⟩
theorem dX6_spread_66 : DI cX6_spread 66 (.imul) 1 67 := ⟨by decide +kernel, rfl⟩
theorem dX6_spread_67 : DI cX6_spread 67 (.istore_n 2) 1 68 := ⟨by decide +kernel, rfl⟩
theorem dX6_spread_68 : DI cX6_spread 68 (.iload_n 2) 1 69 := ⟨by decide +kernel, rfl⟩
theorem dX6_spread_69 : DI cX6_spread 69 (.aload_n 0) 1 70 := ⟨by decide +kernel, rfl⟩
theorem dX6_spread_70 : DI cX6_spread 70 (.getfield 356) 3 73 := ⟨by decide +kernel, rfl⟩
theorem dX6_spread_73 : DJ cX6_spread 73 (.if_icmp .gt 11) 11 84 76 := ⟨by decide +kernel, by decide, rfl⟩
theorem dX6_spread_76 : DI cX6_spread 76 (.aload_n 0) 1 77 := ⟨by decide +kernel, rfl⟩
theorem dX6_spread_77 : DI cX6_spread 77 (.iload_n 1) 1 78 := ⟨by decide +kernel, rfl⟩
theorem dX6_spread_78 : DI cX6_spread 78 (.invokevirtual 366) 3 81 := ⟨by decide +kernel, rfl⟩
theorem dX6_spread_81 : DJ cX6_spread 81 (.ifCond .ne 14) 14 95 84 := ⟨by decide +kernel, by decide, rfl⟩
theorem dX6_spread_84 : DI cX6_spread 84 (.new 66) 3 87 := ⟨by decide +kernel, rfl⟩
theorem dX6_spread_87 : DI cX6_spread 87 (.dup) 1 88 := ⟨by decide +kernel, rfl⟩
theorem dX6_spread_88 : DI cX6_spread 88 (.ldc_w 370) 3 91 := ⟨by decide +kernel, rfl⟩
theorem dX6_spread_91 : DI cX6_spread 91 (.invokespecial 70) 3 94 := ⟨by decide +kernel, rfl⟩
theorem dX6_spread_94 : DI cX6_spread 94 (.athrow) 1 95 := ⟨by decide +kernel, rfl⟩
theorem dX6_spread_95 : DI cX6_spread 95 (.aload_n 0) 1 96 := ⟨by decide +kernel, rfl⟩
theorem dX6_spread_96 : DI cX6_spread 96 (.dup) 1 97 := ⟨by decide +kernel, rfl⟩
theorem dX6_spread_97 : DI cX6_spread 97 (.getfield 356) 3 100 := ⟨by decide +kernel, rfl⟩
theorem dX6_spread_100 : DI cX6_spread 100 (.iload_n 2) 1 101 := ⟨by decide +kernel, rfl⟩
theorem dX6_spread_101 : DI cX6_spread 101 (.isub) 1 102 := ⟨by decide +kernel, rfl⟩
theorem dX6_spread_102 : DI cX6_spread 102 (.putfield 356) 3 105 := ⟨by decide +kernel, rfl⟩
theorem dX6_spread_105 : DI cX6_spread 105 (.iconst 0) 1 106 := ⟨by decide +kernel, rfl⟩
theorem dX6_spread_106 : DI cX6_spread 106 (.istore_n 3) 1 107 := ⟨by decide +kernel, rfl⟩
theorem dX6_spread_107 : DI cX6_spread 107 (.iload_n 3) 1 108 := ⟨by decide +kernel, rfl⟩
theorem dX6_spread_108 : DI cX6_spread 108 (.aload_n 0) 1 109 := ⟨by decide +kernel, rfl⟩
theorem dX6_spread_109 : DI cX6_spread 109 (.getfield 123) 3 112 := ⟨by decide +kernel, rfl⟩
theorem dX6_spread_112 : DJ cX6_spread 112 (.if_icmp .ge 19) 19 131 115 := ⟨by decide +kernel, by decide, rfl⟩
theorem dX6_spread_115 : DI cX6_spread 115 (.aload_n 0) 1 116 := ⟨by decide +kernel, rfl⟩
theorem dX6_spread_116 : DI cX6_spread 116 (.aload_n 0) 1 117 := ⟨by decide +kernel, rfl⟩
theorem dX6_spread_117 : DI cX6_spread 117 (.iload_n 3) 1 118 := ⟨by decide +kernel, rfl⟩
theorem dX6_spread_118 : DI cX6_spread 118 (.invokevirtual 169) 3 121 := ⟨by decide +kernel, rfl⟩
theorem dX6_spread_121 : DI cX6_spread 121 (.iload_n 1) 1 122 := ⟨by decide +kernel, rfl⟩
theorem dX6_spread_122 : DI cX6_spread 122 (.invokevirtual 372) 3 125 := ⟨by decide +kernel, rfl⟩
theorem dX6_spread_125 : DI cX6_spread 125 (.iinc 3 1) 3 128 := ⟨by decide +kernel, rfl⟩
theorem dX6_spread_128 : DJ cX6_spread 128 (.goto (-21)) (-21) 107 131 := ⟨by decide +kernel, by decide, rfl⟩
theorem dX6_spread_131 : DI cX6_spread 131 (.aload_n 0) 1 132 := ⟨by decide +kernel, rfl⟩
theorem dX6_spread_132 : DI cX6_spread 132 (.getfield 356) 3 135 := ⟨by decide +kernel, rfl⟩
theorem dX6_spread_135 : DI cX6_spread 135 (.ireturn) 1 136 := ⟨by decide +kernel, rfl⟩
theorem dX6_stockHolds_0 : DI cX6_stockHolds 0 (.iconst 0) 1 1 := ⟨by decide +kernel, rfl⟩
theorem dX6_stockHolds_1 : DI cX6_stockHolds 1 (.istore_n 2) 1 2 := ⟨by decide +kernel, rfl⟩
theorem dX6_stockHolds_2 : DI cX6_stockHolds 2 (.iload_n 2) 1 3 := ⟨by decide +kernel, rfl⟩
theorem dX6_stockHolds_3 : DI cX6_stockHolds 3 (.aload_n 0) 1 4 := ⟨by decide +kernel, rfl⟩
theorem dX6_stockHolds_4 : DI cX6_stockHolds 4 (.getfield 123) 3 7 := ⟨by decide +kernel, rfl⟩
theorem dX6_stockHolds_7 : DJ cX6_stockHolds 7 (.if_icmp .ge 59) 59 66 10 := ⟨by decide +kernel, by decide, rfl⟩
theorem dX6_stockHolds_10 : DI cX6_stockHolds 10 (.aload_n 0) 1 11 := ⟨by decide +kernel, rfl⟩
theorem dX6_stockHolds_11 : DI cX6_stockHolds 11 (.iload_n 2) 1 12 := ⟨by decide +kernel, rfl⟩
theorem dX6_stockHolds_12 : DI cX6_stockHolds 12 (.invokevirtual 169) 3 15 := ⟨by decide +kernel, rfl⟩
theorem dX6_stockHolds_15 : DI cX6_stockHolds 15 (.astore_n 3) 1 16 := ⟨by decide +kernel, rfl⟩
theorem dX6_stockHolds_16 : DI cX6_stockHolds 16 (.aload_n 3) 1 17 := ⟨by decide +kernel, rfl⟩
theorem dX6_stockHolds_17 : DJ cX6_stockHolds 17 (.ifnull 43) 43 60 20 := ⟨by decide +kernel, by decide, rfl⟩
theorem dX6_stockHolds_20 : DI cX6_stockHolds 20 (.aload_n 3) 1 21 := ⟨by decide +kernel, rfl⟩
theorem dX6_stockHolds_21 : DI cX6_stockHolds 21 (.getfield 376) 3 24 := ⟨by decide +kernel, rfl⟩
theorem dX6_stockHolds_24 : DI cX6_stockHolds 24 (.iload_n 1) 1 25 := ⟨by decide +kernel, rfl⟩
theorem dX6_stockHolds_25 : DI cX6_stockHolds 25 (.aload_n 0) 1 26 := ⟨by decide +kernel, rfl⟩
theorem dX6_stockHolds_26 : DI cX6_stockHolds 26 (.aload_n 3) 1 27 := ⟨by decide +kernel, rfl⟩
theorem dX6_stockHolds_27 : DI cX6_stockHolds 27 (.iconst 0) 1 28 := ⟨by decide +kernel, rfl⟩
theorem dX6_stockHolds_28 : DI cX6_stockHolds 28 (.invokevirtual 379) 3 31 := ⟨by decide +kernel, rfl⟩
theorem dX6_stockHolds_31 : DI cX6_stockHolds 31 (.imul) 1 32 := ⟨by decide +kernel, rfl⟩
theorem dX6_stockHolds_32 : DI cX6_stockHolds 32 (.iadd) 1 33 := ⟨by decide +kernel, rfl⟩
theorem dX6_stockHolds_33 : DI cX6_stockHolds 33 (.sipush 9999) 3 36 := ⟨by decide +kernel, rfl⟩
theorem dX6_stockHolds_36 : DJ cX6_stockHolds 36 (.if_icmp .gt 22) 22 58 39 := ⟨by decide +kernel, by decide, rfl⟩
theorem dX6_stockHolds_39 : DI cX6_stockHolds 39 (.aload_n 3) 1 40 := ⟨by decide +kernel, rfl⟩
theorem dX6_stockHolds_40 : DI cX6_stockHolds 40 (.getfield 383) 3 43 := ⟨by decide +kernel, rfl⟩
theorem dX6_stockHolds_43 : DI cX6_stockHolds 43 (.iload_n 1) 1 44 := ⟨by decide +kernel, rfl⟩
theorem dX6_stockHolds_44 : DI cX6_stockHolds 44 (.aload_n 0) 1 45 := ⟨by decide +kernel, rfl⟩
theorem dX6_stockHolds_45 : DI cX6_stockHolds 45 (.aload_n 3) 1 46 := ⟨by decide +kernel, rfl⟩
theorem dX6_stockHolds_46 : DI cX6_stockHolds 46 (.iconst 1) 1 47 := ⟨by decide +kernel, rfl⟩
theorem dX6_stockHolds_47 : DI cX6_stockHolds 47 (.invokevirtual 379) 3 50 := ⟨by decide +kernel, rfl⟩
theorem dX6_stockHolds_50 : DI cX6_stockHolds 50 (.imul) 1 51 := ⟨by decide +kernel, rfl⟩
theorem dX6_stockHolds_51 : DI cX6_stockHolds 51 (.iadd) 1 52 := ⟨by decide +kernel, rfl⟩
theorem dX6_stockHolds_52 : DI cX6_stockHolds 52 (.sipush 9999) 3 55 := ⟨by decide +kernel, rfl⟩
theorem dX6_stockHolds_55 : DJ cX6_stockHolds 55 (.if_icmp .le 5) 5 60 58 := ⟨by decide +kernel, by decide, rfl⟩
theorem dX6_stockHolds_58 : DI cX6_stockHolds 58 (.iconst 0) 1 59 := ⟨by decide +kernel, rfl⟩
theorem dX6_stockHolds_59 : DI cX6_stockHolds 59 (.ireturn) 1 60 := ⟨by decide +kernel, rfl⟩
theorem dX6_stockHolds_60 : DI cX6_stockHolds 60 (.iinc 2 1) 3 63 := ⟨by decide +kernel, rfl⟩
theorem dX6_stockHolds_63 : DJ cX6_stockHolds 63 (.goto (-61)) (-61) 2 66 := ⟨by decide +kernel, by decide, rfl⟩
theorem dX6_stockHolds_66 : DI cX6_stockHolds 66 (.iconst 1) 1 67 := ⟨by decide +kernel, rfl⟩
theorem dX6_stockHolds_67 : DI cX6_stockHolds 67 (.ireturn) 1 68 := ⟨by decide +kernel, rfl⟩
theorem dX6_cutPlies_0 : DI cX6_cutPlies 0 (.aload_n 1) 1 1 := ⟨by decide +kernel, rfl⟩
theorem dX6_cutPlies_1 : DJ cX6_cutPlies 1 (.ifnull 23) 23 24 4 := ⟨by decide +kernel, by decide, rfl⟩
theorem dX6_cutPlies_4 : DI cX6_cutPlies 4 (.aload_n 1) 1 5 := ⟨by decide +kernel, rfl⟩
theorem dX6_cutPlies_5 : DI cX6_cutPlies 5 (.iload_n 2) 1 6 := ⟨by decide +kernel, rfl⟩
theorem dX6_cutPlies_6 : DI cX6_cutPlies 6 (.aload_n 0) 1 7 := ⟨by decide +kernel, rfl⟩
theorem dX6_cutPlies_7 : DI cX6_cutPlies 7 (.aload_n 1) 1 8 := ⟨by decide +kernel, rfl⟩
theorem dX6_cutPlies_8 : DI cX6_cutPlies 8 (.iconst 0) 1 9 := ⟨by decide +kernel, rfl⟩
theorem dX6_cutPlies_9 : DI cX6_cutPlies 9 (.invokevirtual 379) 3 12 := ⟨by decide +kernel, rfl⟩
theorem dX6_cutPlies_12 : DI cX6_cutPlies 12 (.imul) 1 13 := ⟨by decide +kernel, rfl⟩
theorem dX6_cutPlies_13 : DI cX6_cutPlies 13 (.iload_n 2) 1 14 := ⟨by decide +kernel, rfl⟩
theorem dX6_cutPlies_14 : DI cX6_cutPlies 14 (.aload_n 0) 1 15 := ⟨by decide +kernel, rfl⟩
theorem dX6_cutPlies_15 : DI cX6_cutPlies 15 (.aload_n 1) 1 16 := ⟨by decide +kernel, rfl⟩
theorem dX6_cutPlies_16 : DI cX6_cutPlies 16 (.iconst 1) 1 17 := ⟨by decide +kernel, rfl⟩
theorem dX6_cutPlies_17 : DI cX6_cutPlies 17 (.invokevirtual 379) 3 20 := ⟨by decide +kernel, rfl⟩
theorem dX6_cutPlies_20 : DI cX6_cutPlies 20 (.imul) 1 21 := ⟨by decide +kernel, rfl⟩
theorem dX6_cutPlies_21 : DI cX6_cutPlies 21 (.invokevirtual 386) 3 24 := ⟨by decide +kernel, rfl⟩
theorem dX6_cutPlies_24 : DI cX6_cutPlies 24 (.return_) 1 25 := ⟨by decide +kernel, rfl⟩
theorem dX6_perPly_0 : DI cX6_perPly 0 (.aload_n 0) 1 1 := ⟨by decide +kernel, rfl⟩
theorem dX6_perPly_1 : DI cX6_perPly 1 (.getfield 12) 3 4 := ⟨by decide +kernel, rfl⟩
theorem dX6_perPly_4 : DI cX6_perPly 4 (.getfield 83) 3 7 := ⟨by decide +kernel, rfl⟩
theorem dX6_perPly_7 : DJ cX6_perPly 7 (.ifCond .ne 13) 13 20 10 := ⟨by decide +kernel, by decide, rfl⟩
theorem dX6_perPly_10 : DI cX6_perPly 10 (.aload_n 0) 1 11 := ⟨by decide +kernel, rfl⟩
theorem dX6_perPly_11 : DI cX6_perPly 11 (.getfield 19) 3 14 := ⟨by decide +kernel, rfl⟩
theorem dX6_perPly_14 : DI cX6_perPly 14 (.aload_n 1) 1 15 := ⟨by decide +kernel, rfl⟩
theorem dX6_perPly_15 : DI cX6_perPly 15 (.iload_n 2) 1 16 := ⟨by decide +kernel, rfl⟩
theorem dX6_perPly_16 : DI cX6_perPly 16 (.invokevirtual 389) 3 19 := ⟨by decide +kernel, rfl⟩
theorem dX6_perPly_19 : DI cX6_perPly 19 (.ireturn) 1 20 := ⟨by decide +kernel, rfl⟩
theorem dX6_perPly_20 : DI cX6_perPly 20 (.aload_n 0) 1 21 := ⟨by decide +kernel, rfl⟩
theorem dX6_perPly_21 : DI cX6_perPly 21 (.getfield 19) 3 24 := ⟨by decide +kernel, rfl⟩
theorem dX6_perPly_24 : DI cX6_perPly 24 (.aload_n 1) 1 25 := ⟨by decide +kernel, rfl⟩
theorem dX6_perPly_25 : DI cX6_perPly 25 (.iconst 0) 1 26 := ⟨by decide +kernel, rfl⟩
theorem dX6_perPly_26 : DI cX6_perPly 26 (.invokevirtual 389) 3 29 := ⟨by decide +kernel, rfl⟩
theorem dX6_perPly_29 : DI cX6_perPly 29 (.istore_n 3) 1 30 := ⟨by decide +kernel, rfl⟩
theorem dX6_perPly_30 : DI cX6_perPly 30 (.aload_n 1) 1 31 := ⟨by decide +kernel, rfl⟩
theorem dX6_perPly_31 : DI cX6_perPly 31 (.getfield 312) 3 34 := ⟨by decide +kernel, rfl⟩
theorem dX6_perPly_34 : DJ cX6_perPly 34 (.ifCond .eq 5) 5 39 37 := ⟨by decide +kernel, by decide, rfl⟩
theorem dX6_perPly_37 : DI cX6_perPly 37 (.iload_n 3) 1 38 := ⟨by decide +kernel, rfl⟩
theorem dX6_perPly_38 : DI cX6_perPly 38 (.ireturn) 1 39 := ⟨by decide +kernel, rfl⟩
theorem dX6_perPly_39 : DI cX6_perPly 39 (.iload_n 2) 1 40 := ⟨by decide +kernel, rfl⟩
theorem dX6_perPly_40 : DJ cX6_perPly 40 (.ifCond .eq 7) 7 47 43 := ⟨by decide +kernel, by decide, rfl⟩
theorem dX6_perPly_43 : DI cX6_perPly 43 (.iconst 0) 1 44 := ⟨by decide +kernel, rfl⟩
theorem dX6_perPly_44 : DJ cX6_perPly 44 (.goto 6) 6 50 47 := ⟨by decide +kernel, by decide, rfl⟩
theorem dX6_perPly_47 : DI cX6_perPly 47 (.iconst 2) 1 48 := ⟨by decide +kernel, rfl⟩
theorem dX6_perPly_48 : DI cX6_perPly 48 (.iload_n 3) 1 49 := ⟨by decide +kernel, rfl⟩
theorem dX6_perPly_49 : DI cX6_perPly 49 (.imul) 1 50 := ⟨by decide +kernel, rfl⟩
theorem dX6_perPly_50 : DI cX6_perPly 50 (.ireturn) 1 51 := ⟨by decide +kernel, rfl⟩
theorem dX6_pieces_0 : DI cX6_pieces 0 (.aload_n 0) 1 1 := ⟨by decide +kernel, rfl⟩
theorem dX6_pieces_1 : DI cX6_pieces 1 (.iload_n 1) 1 2 := ⟨by decide +kernel, rfl⟩
theorem dX6_pieces_2 : DI cX6_pieces 2 (.invokevirtual 131) 3 5 := ⟨by decide +kernel, rfl⟩
theorem dX6_pieces_5 : DI cX6_pieces 5 (.astore_n 3) 1 6 := ⟨by decide +kernel, rfl⟩
theorem dX6_pieces_6 : DI cX6_pieces 6 (.iload_n 2) 1 7 := ⟨by decide +kernel, rfl⟩
theorem dX6_pieces_7 : DJ cX6_pieces 7 (.ifCond .eq 21) 21 28 10 := ⟨by decide +kernel, by decide, rfl⟩
theorem dX6_pieces_10 : DI cX6_pieces 10 (.aload_n 3) 1 11 := ⟨by decide +kernel, rfl⟩
theorem dX6_pieces_11 : DI cX6_pieces 11 (.getfield 312) 3 14 := ⟨by decide +kernel, rfl⟩
theorem dX6_pieces_14 : DJ cX6_pieces 14 (.ifCond .ne 14) 14 28 17 := ⟨by decide +kernel, by decide, rfl⟩
theorem dX6_pieces_17 : DI cX6_pieces 17 (.new 96) 3 20 := ⟨by decide +kernel, rfl⟩
theorem dX6_pieces_20 : DI cX6_pieces 20 (.dup) 1 21 := ⟨by decide +kernel, rfl⟩
theorem dX6_pieces_21 : DI cX6_pieces 21 (.ldc_w 392) 3 24 := ⟨by decide +kernel, rfl⟩
theorem dX6_pieces_24 : DI cX6_pieces 24 (.invokespecial 100) 3 27 := ⟨by decide +kernel, rfl⟩
theorem dX6_pieces_27 : DI cX6_pieces 27 (.athrow) 1 28 := ⟨by decide +kernel, rfl⟩
theorem dX6_pieces_28 : DI cX6_pieces 28 (.iload_n 2) 1 29 := ⟨by decide +kernel, rfl⟩
theorem dX6_pieces_29 : DJ cX6_pieces 29 (.ifCond .eq 10) 10 39 32 := ⟨by decide +kernel, by decide, rfl⟩
theorem dX6_pieces_32 : DI cX6_pieces 32 (.aload_n 3) 1 33 := ⟨by decide +kernel, rfl⟩
theorem dX6_pieces_33 : DI cX6_pieces 33 (.getfield 383) 3 36 := ⟨by decide +kernel, rfl⟩
theorem dX6_pieces_36 : DJ cX6_pieces 36 (.goto 7) 7 43 39 := ⟨by decide +kernel, by decide, rfl⟩
theorem dX6_pieces_39 : DI cX6_pieces 39 (.aload_n 3) 1 40 := ⟨by decide +kernel, rfl⟩
theorem dX6_pieces_40 : DI cX6_pieces 40 (.getfield 376) 3 43 := ⟨by decide +kernel, rfl⟩
theorem dX6_pieces_43 : DI cX6_pieces 43 (.ireturn) 1 44 := ⟨by decide +kernel, rfl⟩
theorem dX6_cut_0 : DI cX6_cut 0 (.lconst 0) 1 1 := ⟨by decide +kernel, rfl⟩
theorem dX6_cut_1 : DI cX6_cut 1 (.lstore_n 1) 1 2 := ⟨by decide +kernel, rfl⟩
theorem dX6_cut_2 : DI cX6_cut 2 (.iconst 0) 1 3 := ⟨by decide +kernel, rfl⟩
theorem dX6_cut_3 : DI cX6_cut 3 (.istore_n 3) 1 4 := ⟨by decide +kernel, rfl⟩
theorem dX6_cut_4 : DI cX6_cut 4 (.iload_n 3) 1 5 := ⟨by decide +kernel, rfl⟩
theorem dX6_cut_5 : DI cX6_cut 5 (.aload_n 0) 1 6 := ⟨by decide +kernel, rfl⟩
theorem dX6_cut_6 : DI cX6_cut 6 (.getfield 123) 3 9 := ⟨by decide +kernel, rfl⟩
theorem dX6_cut_9 : DJ cX6_cut 9 (.if_icmp .ge 33) 33 42 12 := ⟨by decide +kernel, by decide, rfl⟩
theorem dX6_cut_12 : DI cX6_cut 12 (.aload_n 0) 1 13 := ⟨by decide +kernel, rfl⟩
theorem dX6_cut_13 : DI cX6_cut 13 (.iload_n 3) 1 14 := ⟨by decide +kernel, rfl⟩
theorem dX6_cut_14 : DI cX6_cut 14 (.invokevirtual 169) 3 17 := ⟨by decide +kernel, rfl⟩
theorem dX6_cut_17 : DI cX6_cut 17 (.astore 4) 2 19 := ⟨by decide +kernel, rfl⟩
theorem dX6_cut_19 : DI cX6_cut 19 (.lload_n 1) 1 20 := ⟨by decide +kernel, rfl⟩
theorem dX6_cut_20 : DI cX6_cut 20 (.aload 4) 2 22 := ⟨by decide +kernel, rfl⟩
theorem dX6_cut_22 : DJ cX6_cut 22 (.ifnonnull 7) 7 29 25 := ⟨by decide +kernel, by decide, rfl⟩
theorem dX6_cut_25 : DI cX6_cut 25 (.lconst 0) 1 26 := ⟨by decide +kernel, rfl⟩
theorem dX6_cut_26 : DJ cX6_cut 26 (.goto 8) 8 34 29 := ⟨by decide +kernel, by decide, rfl⟩
theorem dX6_cut_29 : DI cX6_cut 29 (.aload 4) 2 31 := ⟨by decide +kernel, rfl⟩
theorem dX6_cut_31 : DI cX6_cut 31 (.getfield 146) 3 34 := ⟨by decide +kernel, rfl⟩
theorem dX6_cut_34 : DI cX6_cut 34 (.ladd) 1 35 := ⟨by decide +kernel, rfl⟩
theorem dX6_cut_35 : DI cX6_cut 35 (.lstore_n 1) 1 36 := ⟨by decide +kernel, rfl⟩
theorem dX6_cut_36 : DI cX6_cut 36 (.iinc 3 1) 3 39 := ⟨by decide +kernel, rfl⟩
theorem dX6_cut_39 : DJ cX6_cut 39 (.goto (-35)) (-35) 4 42 := ⟨by decide +kernel, by decide, rfl⟩
theorem dX6_cut_42 : DI cX6_cut 42 (.lload_n 1) 1 43 := ⟨by decide +kernel, rfl⟩
theorem dX6_cut_43 : DI cX6_cut 43 (.lreturn) 1 44 := ⟨by decide +kernel, rfl⟩
theorem dX6_canMake_0 : DI cX6_canMake 0 (.aload_n 0) 1 1 := ⟨by decide +kernel, rfl⟩
theorem dX6_canMake_1 : DI cX6_canMake 1 (.aload_n 0) 1 2 := ⟨by decide +kernel, rfl⟩
theorem dX6_canMake_2 : DI cX6_canMake 2 (.iload_n 1) 1 3 := ⟨by decide +kernel, rfl⟩
theorem dX6_canMake_3 : DI cX6_canMake 3 (.invokevirtual 394) 3 6 := ⟨by decide +kernel, rfl⟩
theorem dX6_canMake_6 : DI cX6_canMake 6 (.invokevirtual 397) 3 9 := ⟨by decide +kernel, rfl⟩
theorem dX6_canMake_9 : DI cX6_canMake 9 (.ireturn) 1 10 := ⟨by decide +kernel, rfl⟩
theorem dX6_garmentsInStock_0 : DI cX6_garmentsInStock 0 (.sipush 9999) 3 3 := ⟨by decide +kernel, rfl⟩
theorem dX6_garmentsInStock_3 : DI cX6_garmentsInStock 3 (.istore_n 2) 1 4 := ⟨by decide +kernel, rfl⟩
theorem dX6_garmentsInStock_4 : DI cX6_garmentsInStock 4 (.iconst 0) 1 5 := ⟨by decide +kernel, rfl⟩
theorem dX6_garmentsInStock_5 : DI cX6_garmentsInStock 5 (.istore_n 3) 1 6 := ⟨by decide +kernel, rfl⟩
theorem dX6_garmentsInStock_6 : DI cX6_garmentsInStock 6 (.iload_n 3) 1 7 := ⟨by decide +kernel, rfl⟩
theorem dX6_garmentsInStock_7 : DI cX6_garmentsInStock 7 (.aload_n 0) 1 8 := ⟨by decide +kernel, rfl⟩
theorem dX6_garmentsInStock_8 : DI cX6_garmentsInStock 8 (.getfield 123) 3 11 := ⟨by decide +kernel, rfl⟩
theorem dX6_garmentsInStock_11 : DJ cX6_garmentsInStock 11 (.if_icmp .ge 49) 49 60 14 := ⟨by decide +kernel, by decide, rfl⟩
theorem dX6_garmentsInStock_14 : DI cX6_garmentsInStock 14 (.aload_n 0) 1 15 := ⟨by decide +kernel, rfl⟩
theorem dX6_garmentsInStock_15 : DI cX6_garmentsInStock 15 (.iload_n 3) 1 16 := ⟨by decide +kernel, rfl⟩
theorem dX6_garmentsInStock_16 : DI cX6_garmentsInStock 16 (.invokevirtual 169) 3 19 := ⟨by decide +kernel, rfl⟩
theorem dX6_garmentsInStock_19 : DI cX6_garmentsInStock 19 (.astore 4) 2 21 := ⟨by decide +kernel, rfl⟩
theorem dX6_garmentsInStock_21 : DI cX6_garmentsInStock 21 (.aload_n 1) 1 22 := ⟨by decide +kernel, rfl⟩
theorem dX6_garmentsInStock_22 : DI cX6_garmentsInStock 22 (.getfield 285) 3 25 := ⟨by decide +kernel, rfl⟩
theorem dX6_garmentsInStock_25 : DI cX6_garmentsInStock 25 (.iload_n 3) 1 26 := ⟨by decide +kernel, rfl⟩
theorem dX6_garmentsInStock_26 : DI cX6_garmentsInStock 26 (.invokestatic 264) 3 29 := ⟨by decide +kernel, rfl⟩
theorem dX6_garmentsInStock_29 : DI cX6_garmentsInStock 29 (.istore 5) 2 31 := ⟨by decide +kernel, rfl⟩
theorem dX6_garmentsInStock_31 : DI cX6_garmentsInStock 31 (.aload 4) 2 33 := ⟨by decide +kernel, rfl⟩
theorem dX6_garmentsInStock_33 : DJ cX6_garmentsInStock 33 (.ifnull 21) 21 54 36 := ⟨by decide +kernel, by decide, rfl⟩
theorem dX6_garmentsInStock_36 : DI cX6_garmentsInStock 36 (.iload 5) 2 38 := ⟨by decide +kernel, rfl⟩
theorem dX6_garmentsInStock_38 : DJ cX6_garmentsInStock 38 (.ifCond .le 16) 16 54 41 := ⟨by decide +kernel, by decide, rfl⟩
theorem dX6_garmentsInStock_41 : DI cX6_garmentsInStock 41 (.iload_n 2) 1 42 := ⟨by decide +kernel, rfl⟩
theorem dX6_garmentsInStock_42 : DI cX6_garmentsInStock 42 (.aload 4) 2 44 := ⟨by decide +kernel, rfl⟩
theorem dX6_garmentsInStock_44 : DI cX6_garmentsInStock 44 (.invokevirtual 400) 3 47 := ⟨by decide +kernel, rfl⟩
theorem dX6_garmentsInStock_47 : DI cX6_garmentsInStock 47 (.iload 5) 2 49 := ⟨by decide +kernel, rfl⟩
theorem dX6_garmentsInStock_49 : DI cX6_garmentsInStock 49 (.idiv) 1 50 := ⟨by decide +kernel, rfl⟩
theorem dX6_garmentsInStock_50 : DI cX6_garmentsInStock 50 (.invokestatic 327) 3 53 := ⟨by decide +kernel, rfl⟩
theorem dX6_garmentsInStock_53 : DI cX6_garmentsInStock 53 (.istore_n 2) 1 54 := ⟨by decide +kernel, rfl⟩
theorem dX6_garmentsInStock_54 : DI cX6_garmentsInStock 54 (.iinc 3 1) 3 57 := ⟨by decide +kernel, rfl⟩
theorem dX6_garmentsInStock_57 : DJ cX6_garmentsInStock 57 (.goto (-51)) (-51) 6 60 := ⟨by decide +kernel, by decide, rfl⟩
theorem dX6_garmentsInStock_60 : DI cX6_garmentsInStock 60 (.iload_n 2) 1 61 := ⟨by decide +kernel, rfl⟩
theorem dX6_garmentsInStock_61 : DI cX6_garmentsInStock 61 (.ireturn) 1 62 := ⟨by decide +kernel, rfl⟩
theorem dX6_canMakeByTaking_0 : DI cX6_canMakeByTaking 0 (.aload_n 0) 1 1 := ⟨by decide +kernel, rfl⟩
theorem dX6_canMakeByTaking_1 : DI cX6_canMakeByTaking 1 (.iload_n 1) 1 2 := ⟨by decide +kernel, rfl⟩
theorem dX6_canMakeByTaking_2 : DI cX6_canMakeByTaking 2 (.invokevirtual 394) 3 5 := ⟨by decide +kernel, rfl⟩
theorem dX6_canMakeByTaking_5 : DI cX6_canMakeByTaking 5 (.astore_n 2) 1 6 := ⟨by decide +kernel, rfl⟩
theorem dX6_canMakeByTaking_6 : DI cX6_canMakeByTaking 6 (.iconst 0) 1 7 := ⟨by decide +kernel, rfl⟩
theorem dX6_canMakeByTaking_7 : DI cX6_canMakeByTaking 7 (.istore_n 3) 1 8 := ⟨by decide +kernel, rfl⟩
theorem dX6_canMakeByTaking_8 : DI cX6_canMakeByTaking 8 (.iload_n 3) 1 9 := ⟨by decide +kernel, rfl⟩
theorem dX6_canMakeByTaking_9 : DI cX6_canMakeByTaking 9 (.bipush 8) 2 11 := ⟨by decide +kernel, rfl⟩
theorem dX6_canMakeByTaking_11 : DJ cX6_canMakeByTaking 11 (.if_icmp .ge 68) 68 79 14 := ⟨by decide +kernel, by decide, rfl⟩
theorem dX6_canMakeByTaking_14 : DI cX6_canMakeByTaking 14 (.aload_n 0) 1 15 := ⟨by decide +kernel, rfl⟩
theorem dX6_canMakeByTaking_15 : DI cX6_canMakeByTaking 15 (.iload_n 3) 1 16 := ⟨by decide +kernel, rfl⟩
theorem dX6_canMakeByTaking_16 : DI cX6_canMakeByTaking 16 (.invokevirtual 169) 3 19 := ⟨by decide +kernel, rfl⟩
theorem dX6_canMakeByTaking_19 : DI cX6_canMakeByTaking 19 (.astore 4) 2 21 := ⟨by decide +kernel, rfl⟩
theorem dX6_canMakeByTaking_21 : DI cX6_canMakeByTaking 21 (.aload_n 0) 1 22 := ⟨by decide +kernel, rfl⟩
theorem dX6_canMakeByTaking_22 : DI cX6_canMakeByTaking 22 (.getfield 45) 3 25 := ⟨by decide +kernel, rfl⟩
theorem dX6_canMakeByTaking_25 : DI cX6_canMakeByTaking 25 (.iload_n 3) 1 26 := ⟨by decide +kernel, rfl⟩
theorem dX6_canMakeByTaking_26 : DI cX6_canMakeByTaking 26 (.iconst 0) 1 27 := ⟨by decide +kernel, rfl⟩
theorem dX6_canMakeByTaking_27 : DI cX6_canMakeByTaking 27 (.invokestatic 340) 3 30 := ⟨by decide +kernel, rfl⟩
theorem dX6_canMakeByTaking_30 : DI cX6_canMakeByTaking 30 (.aload 4) 2 32 := ⟨by decide +kernel, rfl⟩
theorem dX6_canMakeByTaking_32 : DJ cX6_canMakeByTaking 32 (.ifnonnull 7) 7 39 35 := ⟨by decide +kernel, by decide, rfl⟩
theorem dX6_canMakeByTaking_35 : DI cX6_canMakeByTaking 35 (.iconst 0) 1 36 := ⟨by decide +kernel, rfl⟩
theorem dX6_canMakeByTaking_36 : DJ cX6_canMakeByTaking 36 (.goto 8) 8 44 39 := ⟨by decide +kernel, by decide, rfl⟩
theorem dX6_canMakeByTaking_39 : DI cX6_canMakeByTaking 39 (.aload 4) 2 41 := ⟨by decide +kernel, rfl⟩
theorem dX6_canMakeByTaking_41 : DI cX6_canMakeByTaking 41 (.getfield 376) 3 44 := ⟨by decide +kernel, rfl⟩
theorem dX6_canMakeByTaking_44 : DI cX6_canMakeByTaking 44 (.invokestatic 293) 3 47 := ⟨by decide +kernel, rfl⟩
theorem dX6_canMakeByTaking_47 : DI cX6_canMakeByTaking 47 (.aload_n 0) 1 48 := ⟨by decide +kernel, rfl⟩
theorem dX6_canMakeByTaking_48 : DI cX6_canMakeByTaking 48 (.getfield 45) 3 51 := ⟨by decide +kernel, rfl⟩
theorem dX6_canMakeByTaking_51 : DI cX6_canMakeByTaking 51 (.iload_n 3) 1 52 := ⟨by decide +kernel, rfl⟩
theorem dX6_canMakeByTaking_52 : DI cX6_canMakeByTaking 52 (.iconst 1) 1 53 := ⟨by decide +kernel, rfl⟩
theorem dX6_canMakeByTaking_53 : DI cX6_canMakeByTaking 53 (.invokestatic 340) 3 56 := ⟨by decide +kernel, rfl⟩
theorem dX6_canMakeByTaking_56 : DI cX6_canMakeByTaking 56 (.aload 4) 2 58 := ⟨by decide +kernel, rfl⟩
theorem dX6_canMakeByTaking_58 : DJ cX6_canMakeByTaking 58 (.ifnonnull 7) 7 65 61 := ⟨by decide +kernel, by decide, rfl⟩
theorem dX6_canMakeByTaking_61 : DI cX6_canMakeByTaking 61 (.iconst 0) 1 62 := ⟨by decide +kernel, rfl⟩
theorem dX6_canMakeByTaking_62 : DJ cX6_canMakeByTaking 62 (.goto 8) 8 70 65 := ⟨by decide +kernel, by decide, rfl⟩
theorem dX6_canMakeByTaking_65 : DI cX6_canMakeByTaking 65 (.aload 4) 2 67 := ⟨by decide +kernel, rfl⟩
theorem dX6_canMakeByTaking_67 : DI cX6_canMakeByTaking 67 (.getfield 383) 3 70 := ⟨by decide +kernel, rfl⟩
theorem dX6_canMakeByTaking_70 : DI cX6_canMakeByTaking 70 (.invokestatic 293) 3 73 := ⟨by decide +kernel, rfl⟩
theorem dX6_canMakeByTaking_73 : DI cX6_canMakeByTaking 73 (.iinc 3 1) 3 76 := ⟨by decide +kernel, rfl⟩
theorem dX6_canMakeByTaking_76 : DJ cX6_canMakeByTaking 76 (.goto (-68)) (-68) 8 79 := ⟨by decide +kernel, by decide, rfl⟩
theorem dX6_canMakeByTaking_79 : DI cX6_canMakeByTaking 79 (.iconst 0) 1 80 := ⟨by decide +kernel, rfl⟩
theorem dX6_canMakeByTaking_80 : DI cX6_canMakeByTaking 80 (.istore_n 3) 1 81 := ⟨by decide +kernel, rfl⟩
theorem dX6_canMakeByTaking_81 : DI cX6_canMakeByTaking 81 (.iload_n 3) 1 82 := ⟨by decide +kernel, rfl⟩
theorem dX6_canMakeByTaking_82 : DI cX6_canMakeByTaking 82 (.sipush 9999) 3 85 := ⟨by decide +kernel, rfl⟩
theorem dX6_canMakeByTaking_85 : DJ cX6_canMakeByTaking 85 (.if_icmp .ge 17) 17 102 88 := ⟨by decide +kernel, by decide, rfl⟩
theorem dX6_canMakeByTaking_88 : DI cX6_canMakeByTaking 88 (.aload_n 0) 1 89 := ⟨by decide +kernel, rfl⟩
theorem dX6_canMakeByTaking_89 : DI cX6_canMakeByTaking 89 (.aload_n 2) 1 90 := ⟨by decide +kernel, rfl⟩
theorem dX6_canMakeByTaking_90 : DI cX6_canMakeByTaking 90 (.invokevirtual 403) 3 93 := ⟨by decide +kernel, rfl⟩
theorem dX6_canMakeByTaking_93 : DJ cX6_canMakeByTaking 93 (.ifCond .eq 9) 9 102 96 := ⟨by decide +kernel, by decide, rfl⟩
theorem dX6_canMakeByTaking_96 : DI cX6_canMakeByTaking 96 (.iinc 3 1) 3 99 := ⟨by decide +kernel, rfl⟩
theorem dX6_canMakeByTaking_99 : DJ cX6_canMakeByTaking 99 (.goto (-18)) (-18) 81 102 := ⟨by decide +kernel, by decide, rfl⟩
theorem dX6_canMakeByTaking_102 : DI cX6_canMakeByTaking 102 (.iload_n 3) 1 103 := ⟨by decide +kernel, rfl⟩
theorem dX6_canMakeByTaking_103 : DI cX6_canMakeByTaking 103 (.ireturn) 1 104 := ⟨by decide +kernel, rfl⟩
theorem dX6_takesGarment_0 : DI cX6_takesGarment 0 (.iconst 0) 1 1 := ⟨by decide +kernel, rfl⟩
theorem dX6_takesGarment_1 : DI cX6_takesGarment 1 (.istore_n 2) 1 2 := ⟨by decide +kernel, rfl⟩
theorem dX6_takesGarment_2 : DI cX6_takesGarment 2 (.iload_n 2) 1 3 := ⟨by decide +kernel, rfl⟩
theorem dX6_takesGarment_3 : DI cX6_takesGarment 3 (.aload_n 0) 1 4 := ⟨by decide +kernel, rfl⟩
theorem dX6_takesGarment_4 : DI cX6_takesGarment 4 (.getfield 123) 3 7 := ⟨by decide +kernel, rfl⟩
theorem dX6_takesGarment_7 : DJ cX6_takesGarment 7 (.if_icmp .ge 45) 45 52 10 := ⟨by decide +kernel, by decide, rfl⟩
theorem dX6_takesGarment_10 : DI cX6_takesGarment 10 (.aload_n 0) 1 11 := ⟨by decide +kernel, rfl⟩
theorem dX6_takesGarment_11 : DI cX6_takesGarment 11 (.iload_n 2) 1 12 := ⟨by decide +kernel, rfl⟩
theorem dX6_takesGarment_12 : DI cX6_takesGarment 12 (.invokevirtual 169) 3 15 := ⟨by decide +kernel, rfl⟩
theorem dX6_takesGarment_15 : DI cX6_takesGarment 15 (.astore_n 3) 1 16 := ⟨by decide +kernel, rfl⟩
theorem dX6_takesGarment_16 : DI cX6_takesGarment 16 (.aload_n 1) 1 17 := ⟨by decide +kernel, rfl⟩
theorem dX6_takesGarment_17 : DI cX6_takesGarment 17 (.getfield 285) 3 20 := ⟨by decide +kernel, rfl⟩
theorem dX6_takesGarment_20 : DI cX6_takesGarment 20 (.iload_n 2) 1 21 := ⟨by decide +kernel, rfl⟩
theorem dX6_takesGarment_21 : DI cX6_takesGarment 21 (.invokestatic 264) 3 24 := ⟨by decide +kernel, rfl⟩
theorem dX6_takesGarment_24 : DI cX6_takesGarment 24 (.istore 4) 2 26 := ⟨by decide +kernel, rfl⟩
theorem dX6_takesGarment_26 : DI cX6_takesGarment 26 (.aload_n 3) 1 27 := ⟨by decide +kernel, rfl⟩
theorem dX6_takesGarment_27 : DJ cX6_takesGarment 27 (.ifnull 19) 19 46 30 := ⟨by decide +kernel, by decide, rfl⟩
theorem dX6_takesGarment_30 : DI cX6_takesGarment 30 (.aload_n 0) 1 31 := ⟨by decide +kernel, rfl⟩
theorem dX6_takesGarment_31 : DI cX6_takesGarment 31 (.iload_n 2) 1 32 := ⟨by decide +kernel, rfl⟩
theorem dX6_takesGarment_32 : DI cX6_takesGarment 32 (.aload_n 3) 1 33 := ⟨by decide +kernel, rfl⟩
theorem dX6_takesGarment_33 : DI cX6_takesGarment 33 (.getfield 312) 3 36 := ⟨by decide +kernel, rfl⟩
theorem dX6_takesGarment_36 : DI cX6_takesGarment 36 (.iload 4) 2 38 := ⟨by decide +kernel, rfl⟩
theorem dX6_takesGarment_38 : DI cX6_takesGarment 38 (.invokevirtual 407) 3 41 := ⟨by decide +kernel, rfl⟩
theorem dX6_takesGarment_41 : DJ cX6_takesGarment 41 (.ifCond .ne 5) 5 46 44 := ⟨by decide +kernel, by decide, rfl⟩
theorem dX6_takesGarment_44 : DI cX6_takesGarment 44 (.iconst 0) 1 45 := ⟨by decide +kernel, rfl⟩
theorem dX6_takesGarment_45 : DI cX6_takesGarment 45 (.ireturn) 1 46 := ⟨by decide +kernel, rfl⟩
theorem dX6_takesGarment_46 : DI cX6_takesGarment 46 (.iinc 2 1) 3 49 := ⟨by decide +kernel, rfl⟩
theorem dX6_takesGarment_49 : DJ cX6_takesGarment 49 (.goto (-47)) (-47) 2 52 := ⟨by decide +kernel, by decide, rfl⟩
theorem dX6_takesGarment_52 : DI cX6_takesGarment 52 (.iconst 1) 1 53 := ⟨by decide +kernel, rfl⟩
theorem dX6_takesGarment_53 : DI cX6_takesGarment 53 (.ireturn) 1 54 := ⟨by decide +kernel, rfl⟩
theorem dX6_takesPart_0 : DI cX6_takesPart 0 (.aload_n 0) 1 1 := ⟨by decide +kernel, rfl⟩
theorem dX6_takesPart_1 : DI cX6_takesPart 1 (.iload_n 1) 1 2 := ⟨by decide +kernel, rfl⟩
theorem dX6_takesPart_2 : DI cX6_takesPart 2 (.iconst 0) 1 3 := ⟨by decide +kernel, rfl⟩
theorem dX6_takesPart_3 : DI cX6_takesPart 3 (.invokestatic 340) 3 6 := ⟨by decide +kernel, rfl⟩
theorem dX6_takesPart_6 : DI cX6_takesPart 6 (.iload_n 3) 1 7 := ⟨by decide +kernel, rfl⟩
theorem dX6_takesPart_7 : DI cX6_takesPart 7 (.invokevirtual 411) 3 10 := ⟨by decide +kernel, rfl⟩
theorem dX6_takesPart_10 : DJ cX6_takesPart 10 (.ifCond .eq 24) 24 34 13 := ⟨by decide +kernel, by decide, rfl⟩
theorem dX6_takesPart_13 : DI cX6_takesPart 13 (.iload_n 2) 1 14 := ⟨by decide +kernel, rfl⟩
theorem dX6_takesPart_14 : DJ cX6_takesPart 14 (.ifCond .eq 16) 16 30 17 := ⟨by decide +kernel, by decide, rfl⟩
theorem dX6_takesPart_17 : DI cX6_takesPart 17 (.aload_n 0) 1 18 := ⟨by decide +kernel, rfl⟩
theorem dX6_takesPart_18 : DI cX6_takesPart 18 (.iload_n 1) 1 19 := ⟨by decide +kernel, rfl⟩
theorem dX6_takesPart_19 : DI cX6_takesPart 19 (.iconst 1) 1 20 := ⟨by decide +kernel, rfl⟩
theorem dX6_takesPart_20 : DI cX6_takesPart 20 (.invokestatic 340) 3 23 := ⟨by decide +kernel, rfl⟩
theorem dX6_takesPart_23 : DI cX6_takesPart 23 (.iload_n 3) 1 24 := ⟨by decide +kernel, rfl⟩
theorem dX6_takesPart_24 : DI cX6_takesPart 24 (.invokevirtual 411) 3 27 := ⟨by decide +kernel, rfl⟩
theorem dX6_takesPart_27 : DJ cX6_takesPart 27 (.ifCond .eq 7) 7 34 30 := ⟨by decide +kernel, by decide, rfl⟩
theorem dX6_takesPart_30 : DI cX6_takesPart 30 (.iconst 1) 1 31 := ⟨by decide +kernel, rfl⟩
theorem dX6_takesPart_31 : DJ cX6_takesPart 31 (.goto 4) 4 35 34 := ⟨by decide +kernel, by decide, rfl⟩
theorem dX6_takesPart_34 : DI cX6_takesPart 34 (.iconst 0) 1 35 := ⟨by decide +kernel, rfl⟩
theorem dX6_takesPart_35 : DI cX6_takesPart 35 (.ireturn) 1 36 := ⟨by decide +kernel, rfl⟩
theorem dX6_takesKind_0 : DI cX6_takesKind 0 (.aload_n 0) 1 1 := ⟨by decide +kernel, rfl⟩
theorem dX6_takesKind_1 : DI cX6_takesKind 1 (.getfield 45) 3 4 := ⟨by decide +kernel, rfl⟩
theorem dX6_takesKind_4 : DI cX6_takesKind 4 (.iload_n 1) 1 5 := ⟨by decide +kernel, rfl⟩
theorem dX6_takesKind_5 : DI cX6_takesKind 5 (.invokestatic 264) 3 8 := ⟨by decide +kernel, rfl⟩
theorem dX6_takesKind_8 : DI cX6_takesKind 8 (.iload_n 2) 1 9 := ⟨by decide +kernel, rfl⟩
theorem dX6_takesKind_9 : DI cX6_takesKind 9 (.isub) 1 10 := ⟨by decide +kernel, rfl⟩
theorem dX6_takesKind_10 : DI cX6_takesKind 10 (.istore_n 3) 1 11 := ⟨by decide +kernel, rfl⟩
theorem dX6_takesKind_11 : DI cX6_takesKind 11 (.aload_n 0) 1 12 := ⟨by decide +kernel, rfl⟩
theorem dX6_takesKind_12 : DI cX6_takesKind 12 (.getfield 45) 3 15 := ⟨by decide +kernel, rfl⟩
theorem dX6_takesKind_15 : DI cX6_takesKind 15 (.iload_n 1) 1 16 := ⟨by decide +kernel, rfl⟩
theorem dX6_takesKind_16 : DI cX6_takesKind 16 (.iload_n 3) 1 17 := ⟨by decide +kernel, rfl⟩
theorem dX6_takesKind_17 : DI cX6_takesKind 17 (.invokestatic 293) 3 20 := ⟨by decide +kernel, rfl⟩
theorem dX6_takesKind_20 : DI cX6_takesKind 20 (.iload_n 3) 1 21 := ⟨by decide +kernel, rfl⟩
theorem dX6_takesKind_21 : DJ cX6_takesKind 21 (.ifCond .lt 7) 7 28 24 := ⟨by decide +kernel, by decide, rfl⟩
theorem dX6_takesKind_24 : DI cX6_takesKind 24 (.iconst 1) 1 25 := ⟨by decide +kernel, rfl⟩
theorem dX6_takesKind_25 : DJ cX6_takesKind 25 (.goto 4) 4 29 28 := ⟨by decide +kernel, by decide, rfl⟩
theorem dX6_takesKind_28 : DI cX6_takesKind 28 (.iconst 0) 1 29 := ⟨by decide +kernel, rfl⟩
theorem dX6_takesKind_29 : DI cX6_takesKind 29 (.ireturn) 1 30 := ⟨by decide +kernel, rfl⟩
theorem dX6_make_0 : DI cX6_make 0 (.aload_n 0) 1 1 := ⟨by decide +kernel, rfl⟩
theorem dX6_make_1 : DI cX6_make 1 (.iload_n 1) 1 2 := ⟨by decide +kernel, rfl⟩
theorem dX6_make_2 : DI cX6_make 2 (.invokevirtual 279) 3 5 := ⟨by decide +kernel, rfl⟩
theorem dX6_make_5 : DI cX6_make 5 (.pop) 1 6 := ⟨by decide +kernel, rfl⟩
theorem dX6_make_6 : DI cX6_make 6 (.iload_n 2) 1 7 := ⟨by decide +kernel, rfl⟩
theorem dX6_make_7 : DI cX6_make 7 (.invokestatic 414) 3 10 := ⟨by decide +kernel, rfl⟩
theorem dX6_make_10 : DI cX6_make 10 (.aload_n 0) 1 11 := ⟨by decide +kernel, rfl⟩
theorem dX6_make_11 : DI cX6_make 11 (.iload_n 1) 1 12 := ⟨by decide +kernel, rfl⟩
theorem dX6_make_12 : DI cX6_make 12 (.invokevirtual 394) 3 15 := ⟨by decide +kernel, rfl⟩
theorem dX6_make_15 : DI cX6_make 15 (.astore_n 3) 1 16 := ⟨by decide +kernel, rfl⟩
theorem dX6_make_16 : DI cX6_make 16 (.aload_n 0) 1 17 := ⟨by decide +kernel, rfl⟩
theorem dX6_make_17 : DI cX6_make 17 (.aload_n 3) 1 18 := ⟨by decide +kernel, rfl⟩
theorem dX6_make_18 : DI cX6_make 18 (.invokevirtual 397) 3 21 := ⟨by decide +kernel, rfl⟩
theorem dX6_make_21 : DI cX6_make 21 (.iload_n 2) 1 22 := ⟨by decide +kernel, rfl⟩
theorem dX6_make_22 : DJ cX6_make 22 (.if_icmp .ge 14) 14 36 25 := ⟨by decide +kernel, by decide, rfl⟩
theorem dX6_make_25 : DI cX6_make 25 (.new 66) 3 28 := ⟨by decide +kernel, rfl⟩
theorem dX6_make_28 : DI cX6_make 28 (.dup) 1 29 := ⟨by decide +kernel, rfl⟩
theorem dX6_make_29 : DI cX6_make 29 (.ldc_w 417) 3 32 := ⟨by decide +kernel, rfl⟩
theorem dX6_make_32 : DI cX6_make 32 (.invokespecial 70) 3 35 := ⟨by decide +kernel, rfl⟩
theorem dX6_make_35 : DI cX6_make 35 (.athrow) 1 36 := ⟨by decide +kernel, rfl⟩
theorem dX6_make_36 : DI cX6_make 36 (.iconst 0) 1 37 := ⟨by decide +kernel, rfl⟩
theorem dX6_make_37 : DI cX6_make 37 (.istore 4) 2 39 := ⟨by decide +kernel, rfl⟩
theorem dX6_make_39 : DI cX6_make 39 (.iload 4) 2 41 := ⟨by decide +kernel, rfl⟩
theorem dX6_make_41 : DI cX6_make 41 (.aload_n 0) 1 42 := ⟨by decide +kernel, rfl⟩
theorem dX6_make_42 : DI cX6_make 42 (.getfield 123) 3 45 := ⟨by decide +kernel, rfl⟩
theorem dX6_make_45 : DJ cX6_make 45 (.if_icmp .ge 38) 38 83 48 := ⟨by decide +kernel, by decide, rfl⟩
theorem dX6_make_48 : DI cX6_make 48 (.aload_n 0) 1 49 := ⟨by decide +kernel, rfl⟩
theorem dX6_make_49 : DI cX6_make 49 (.iload 4) 2 51 := ⟨by decide +kernel, rfl⟩
theorem dX6_make_51 : DI cX6_make 51 (.invokevirtual 169) 3 54 := ⟨by decide +kernel, rfl⟩
theorem dX6_make_54 : DI cX6_make 54 (.astore 5) 2 56 := ⟨by decide +kernel, rfl⟩
theorem dX6_make_56 : DI cX6_make 56 (.aload 5) 2 58 := ⟨by decide +kernel, rfl⟩
theorem dX6_make_58 : DJ cX6_make 58 (.ifnull 19) 19 77 61 := ⟨by decide +kernel, by decide, rfl⟩
theorem dX6_make_61 : DI cX6_make 61 (.aload 5) 2 63 := ⟨by decide +kernel, rfl⟩
theorem dX6_make_63 : DI cX6_make 63 (.iload_n 2) 1 64 := ⟨by decide +kernel, rfl⟩
theorem dX6_make_64 : DI cX6_make 64 (.aload_n 3) 1 65 := ⟨by decide +kernel, rfl⟩
theorem dX6_make_65 : DI cX6_make 65 (.getfield 285) 3 68 := ⟨by decide +kernel, rfl⟩
theorem dX6_make_68 : DI cX6_make 68 (.iload 4) 2 70 := ⟨by decide +kernel, rfl⟩
theorem dX6_make_70 : DI cX6_make 70 (.invokestatic 264) 3 73 := ⟨by decide +kernel, rfl⟩
theorem dX6_make_73 : DI cX6_make 73 (.imul) 1 74 := ⟨by decide +kernel, rfl⟩
theorem dX6_make_74 : DI cX6_make 74 (.invokevirtual 419) 3 77 := ⟨by decide +kernel, rfl⟩
theorem dX6_make_77 : DI cX6_make 77 (.iinc 4 1) 3 80 := ⟨by decide +kernel, rfl⟩
theorem dX6_make_80 : DJ cX6_make 80 (.goto (-41)) (-41) 39 83 := ⟨by decide +kernel, by decide, rfl⟩
theorem dX6_make_83 : DI cX6_make 83 (.aload_n 3) 1 84 := ⟨by decide +kernel, rfl⟩
theorem dX6_make_84 : DI cX6_make 84 (.dup) 1 85 := ⟨by decide +kernel, rfl⟩
theorem dX6_make_85 : DI cX6_make 85 (.getfield 288) 3 88 := ⟨by decide +kernel, rfl⟩
theorem dX6_make_88 : DI cX6_make 88 (.iload_n 2) 1 89 := ⟨by decide +kernel, rfl⟩
theorem dX6_make_89 : DI cX6_make 89 (.iadd) 1 90 := ⟨by decide +kernel, rfl⟩
theorem dX6_make_90 : DI cX6_make 90 (.putfield 288) 3 93 := ⟨by decide +kernel, rfl⟩
theorem dX6_make_93 : DI cX6_make 93 (.aload_n 3) 1 94 := ⟨by decide +kernel, rfl⟩
theorem dX6_make_94 : DI cX6_make 94 (.getfield 288) 3 97 := ⟨by decide +kernel, rfl⟩
theorem dX6_make_97 : DI cX6_make 97 (.ireturn) 1 98 := ⟨by decide +kernel, rfl⟩
theorem dX6_checkGarments_0 : DI cX6_checkGarments 0 (.iload_n 0) 1 1 := ⟨by decide +kernel, rfl⟩
theorem dX6_checkGarments_1 : DI cX6_checkGarments 1 (.iconst 1) 1 2 := ⟨by decide +kernel, rfl⟩
theorem dX6_checkGarments_2 : DI cX6_checkGarments 2 (.bipush 99) 2 4 := ⟨by decide +kernel, rfl⟩
theorem dX6_checkGarments_4 : DI cX6_checkGarments 4 (.invokestatic 48) 3 7 := ⟨by decide +kernel, rfl⟩
theorem dX6_checkGarments_7 : DJ cX6_checkGarments 7 (.ifCond .ne 14) 14 21 10 := ⟨by decide +kernel, by decide, rfl⟩
theorem dX6_checkGarments_10 : DI cX6_checkGarments 10 (.new 52) 3 13 := ⟨by decide +kernel, rfl⟩
theorem dX6_checkGarments_13 : DI cX6_checkGarments 13 (.dup) 1 14 := ⟨by decide +kernel, rfl⟩
theorem dX6_checkGarments_14 : DI cX6_checkGarments 14 (.ldc_w 422) 3 17 := ⟨by decide +kernel, rfl⟩
theorem dX6_checkGarments_17 : DI cX6_checkGarments 17 (.invokespecial 56) 3 20 := ⟨by decide +kernel, rfl⟩
theorem dX6_checkGarments_20 : DI cX6_checkGarments 20 (.athrow) 1 21 := ⟨by decide +kernel, rfl⟩
theorem dX6_checkGarments_21 : DI cX6_checkGarments 21 (.return_) 1 22 := ⟨by decide +kernel, rfl⟩
theorem dX6_made_0 : DI cX6_made 0 (.aload_n 0) 1 1 := ⟨by decide +kernel, rfl⟩
theorem dX6_made_1 : DI cX6_made 1 (.iload_n 1) 1 2 := ⟨by decide +kernel, rfl⟩
theorem dX6_made_2 : DI cX6_made 2 (.invokevirtual 279) 3 5 := ⟨by decide +kernel, rfl⟩
theorem dX6_made_5 : DI cX6_made 5 (.getfield 288) 3 8 := ⟨by decide +kernel, rfl⟩
theorem dX6_made_8 : DI cX6_made 8 (.ireturn) 1 9 := ⟨by decide +kernel, rfl⟩
theorem dX6_pliesFor_0 : DI cX6_pliesFor 0 (.aload_n 0) 1 1 := ⟨by decide +kernel, rfl⟩
theorem dX6_pliesFor_1 : DI cX6_pliesFor 1 (.iload_n 1) 1 2 := ⟨by decide +kernel, rfl⟩
theorem dX6_pliesFor_2 : DI cX6_pliesFor 2 (.invokevirtual 279) 3 5 := ⟨by decide +kernel, rfl⟩
theorem dX6_pliesFor_5 : DI cX6_pliesFor 5 (.pop) 1 6 := ⟨by decide +kernel, rfl⟩
theorem dX6_pliesFor_6 : DI cX6_pliesFor 6 (.iload_n 2) 1 7 := ⟨by decide +kernel, rfl⟩
theorem dX6_pliesFor_7 : DI cX6_pliesFor 7 (.invokestatic 414) 3 10 := ⟨by decide +kernel, rfl⟩
theorem dX6_pliesFor_10 : DI cX6_pliesFor 10 (.aload_n 0) 1 11 := ⟨by decide +kernel, rfl⟩
theorem dX6_pliesFor_11 : DI cX6_pliesFor 11 (.iload_n 1) 1 12 := ⟨by decide +kernel, rfl⟩
theorem dX6_pliesFor_12 : DI cX6_pliesFor 12 (.invokevirtual 394) 3 15 := ⟨by decide +kernel, rfl⟩
theorem dX6_pliesFor_15 : DI cX6_pliesFor 15 (.astore_n 3) 1 16 := ⟨by decide +kernel, rfl⟩
theorem dX6_pliesFor_16 : DI cX6_pliesFor 16 (.iconst 0) 1 17 := ⟨by decide +kernel, rfl⟩
theorem dX6_pliesFor_17 : DI cX6_pliesFor 17 (.istore 4) 2 19 := ⟨by decide +kernel, rfl⟩
theorem dX6_pliesFor_19 : DI cX6_pliesFor 19 (.iconst 0) 1 20 := ⟨by decide +kernel, rfl⟩
theorem dX6_pliesFor_20 : DI cX6_pliesFor 20 (.istore 5) 2 22 := ⟨by decide +kernel, rfl⟩
theorem dX6_pliesFor_22 : DI cX6_pliesFor 22 (.iload 5) 2 24 := ⟨by decide +kernel, rfl⟩
theorem dX6_pliesFor_24 : DI cX6_pliesFor 24 (.aload_n 0) 1 25 := ⟨by decide +kernel, rfl⟩
theorem dX6_pliesFor_25 : DI cX6_pliesFor 25 (.getfield 123) 3 28 := ⟨by decide +kernel, rfl⟩
theorem dX6_pliesFor_28 : DJ cX6_pliesFor 28 (.if_icmp .ge 58) 58 86 31 := ⟨by decide +kernel, by decide, rfl⟩
theorem dX6_pliesFor_31 : DI cX6_pliesFor 31 (.aload_n 0) 1 32 := ⟨by decide +kernel, rfl⟩
theorem dX6_pliesFor_32 : DI cX6_pliesFor 32 (.aload_n 0) 1 33 := ⟨by decide +kernel, rfl⟩
theorem dX6_pliesFor_33 : DI cX6_pliesFor 33 (.iload 5) 2 35 := ⟨by decide +kernel, rfl⟩
theorem dX6_pliesFor_35 : DI cX6_pliesFor 35 (.invokevirtual 169) 3 38 := ⟨by decide +kernel, rfl⟩
theorem dX6_pliesFor_38 : DI cX6_pliesFor 38 (.iload_n 2) 1 39 := ⟨by decide +kernel, rfl⟩
theorem dX6_pliesFor_39 : DI cX6_pliesFor 39 (.aload_n 3) 1 40 := ⟨by decide +kernel, rfl⟩
theorem dX6_pliesFor_40 : DI cX6_pliesFor 40 (.getfield 285) 3 43 := ⟨by decide +kernel, rfl⟩
theorem dX6_pliesFor_43 : DI cX6_pliesFor 43 (.iload 5) 2 45 := ⟨by decide +kernel, rfl⟩
theorem dX6_pliesFor_45 : DI cX6_pliesFor 45 (.invokestatic 264) 3 48 := ⟨by decide +kernel, rfl⟩
theorem dX6_pliesFor_48 : DI cX6_pliesFor 48 (.imul) 1 49 := ⟨by decide +kernel, rfl⟩
theorem dX6_pliesFor_49 : DI cX6_pliesFor 49 (.invokevirtual 424) 3 52 := ⟨by decide +kernel, rfl⟩
theorem dX6_pliesFor_52 : DI cX6_pliesFor 52 (.istore 6) 2 54 := ⟨by decide +kernel, rfl⟩
theorem dX6_pliesFor_54 : DI cX6_pliesFor 54 (.iload 6) 2 56 := ⟨by decide +kernel, rfl⟩
theorem dX6_pliesFor_56 : DI cX6_pliesFor 56 (.iconst (-1)) 1 57 := ⟨by decide +kernel, rfl⟩
theorem dX6_pliesFor_57 : DJ cX6_pliesFor 57 (.if_icmp .ne 14) 14 71 60 := ⟨by decide +kernel, by decide, rfl⟩
theorem dX6_pliesFor_60 : DI cX6_pliesFor 60 (.new 66) 3 63 := ⟨by decide +kernel, rfl⟩
theorem dX6_pliesFor_63 : DI cX6_pliesFor 63 (.dup) 1 64 := ⟨by decide +kernel, rfl⟩
theorem dX6_pliesFor_64 : DI cX6_pliesFor 64 (.ldc_w 428) 3 67 := ⟨by decide +kernel, rfl⟩
theorem dX6_pliesFor_67 : DI cX6_pliesFor 67 (.invokespecial 70) 3 70 := ⟨by decide +kernel, rfl⟩
theorem dX6_pliesFor_70 : DI cX6_pliesFor 70 (.athrow) 1 71 := ⟨by decide +kernel, rfl⟩
theorem dX6_pliesFor_71 : DI cX6_pliesFor 71 (.iload 4) 2 73 := ⟨by decide +kernel, rfl⟩
theorem dX6_pliesFor_73 : DI cX6_pliesFor 73 (.iload 6) 2 75 := ⟨by decide +kernel, rfl⟩
theorem dX6_pliesFor_75 : DI cX6_pliesFor 75 (.invokestatic 430) 3 78 := ⟨by decide +kernel, rfl⟩
theorem dX6_pliesFor_78 : DI cX6_pliesFor 78 (.istore 4) 2 80 := ⟨by decide +kernel, rfl⟩
theorem dX6_pliesFor_80 : DI cX6_pliesFor 80 (.iinc 5 1) 3 83 := ⟨by decide +kernel, rfl⟩
theorem dX6_pliesFor_83 : DJ cX6_pliesFor 83 (.goto (-61)) (-61) 22 86 := ⟨by decide +kernel, by decide, rfl⟩
theorem dX6_pliesFor_86 : DI cX6_pliesFor 86 (.iload 4) 2 88 := ⟨by decide +kernel, rfl⟩
theorem dX6_pliesFor_88 : DI cX6_pliesFor 88 (.ireturn) 1 89 := ⟨by decide +kernel, rfl⟩
theorem dX6_pliesForPart_0 : DI cX6_pliesForPart 0 (.aload_n 1) 1 1 := ⟨by decide +kernel, rfl⟩
theorem dX6_pliesForPart_1 : DJ cX6_pliesForPart 1 (.ifnonnull 5) 5 6 4 := ⟨by decide +kernel, by decide, rfl⟩
theorem dX6_pliesForPart_4 : DI cX6_pliesForPart 4 (.iconst 0) 1 5 := ⟨by decide +kernel, rfl⟩
theorem dX6_pliesForPart_5 : DI cX6_pliesForPart 5 (.ireturn) 1 6 := ⟨by decide +kernel, rfl⟩
theorem dX6_pliesForPart_6 : DI cX6_pliesForPart 6 (.iload_n 2) 1 7 := ⟨by decide +kernel, rfl⟩
theorem dX6_pliesForPart_7 : DI cX6_pliesForPart 7 (.aload_n 1) 1 8 := ⟨by decide +kernel, rfl⟩
theorem dX6_pliesForPart_8 : DI cX6_pliesForPart 8 (.getfield 376) 3 11 := ⟨by decide +kernel, rfl⟩
theorem dX6_pliesForPart_11 : DI cX6_pliesForPart 11 (.isub) 1 12 := ⟨by decide +kernel, rfl⟩
theorem dX6_pliesForPart_12 : DI cX6_pliesForPart 12 (.aload_n 0) 1 13 := ⟨by decide +kernel, rfl⟩
theorem dX6_pliesForPart_13 : DI cX6_pliesForPart 13 (.aload_n 1) 1 14 := ⟨by decide +kernel, rfl⟩
theorem dX6_pliesForPart_14 : DI cX6_pliesForPart 14 (.iconst 0) 1 15 := ⟨by decide +kernel, rfl⟩
theorem dX6_pliesForPart_15 : DI cX6_pliesForPart 15 (.invokevirtual 379) 3 18 := ⟨by decide +kernel, rfl⟩
theorem dX6_pliesForPart_18 : DI cX6_pliesForPart 18 (.invokestatic 433) 3 21 := ⟨by decide +kernel, rfl⟩
theorem dX6_pliesForPart_21 : DI cX6_pliesForPart 21 (.istore_n 3) 1 22 := ⟨by decide +kernel, rfl⟩
theorem dX6_pliesForPart_22 : DI cX6_pliesForPart 22 (.aload_n 1) 1 23 := ⟨by decide +kernel, rfl⟩
theorem dX6_pliesForPart_23 : DI cX6_pliesForPart 23 (.getfield 312) 3 26 := ⟨by decide +kernel, rfl⟩
theorem dX6_pliesForPart_26 : DJ cX6_pliesForPart 26 (.ifCond .eq 21) 21 47 29 := ⟨by decide +kernel, by decide, rfl⟩
theorem dX6_pliesForPart_29 : DI cX6_pliesForPart 29 (.iload_n 2) 1 30 := ⟨by decide +kernel, rfl⟩
theorem dX6_pliesForPart_30 : DI cX6_pliesForPart 30 (.aload_n 1) 1 31 := ⟨by decide +kernel, rfl⟩
theorem dX6_pliesForPart_31 : DI cX6_pliesForPart 31 (.getfield 383) 3 34 := ⟨by decide +kernel, rfl⟩
theorem dX6_pliesForPart_34 : DI cX6_pliesForPart 34 (.isub) 1 35 := ⟨by decide +kernel, rfl⟩
theorem dX6_pliesForPart_35 : DI cX6_pliesForPart 35 (.aload_n 0) 1 36 := ⟨by decide +kernel, rfl⟩
theorem dX6_pliesForPart_36 : DI cX6_pliesForPart 36 (.aload_n 1) 1 37 := ⟨by decide +kernel, rfl⟩
theorem dX6_pliesForPart_37 : DI cX6_pliesForPart 37 (.iconst 1) 1 38 := ⟨by decide +kernel, rfl⟩
theorem dX6_pliesForPart_38 : DI cX6_pliesForPart 38 (.invokevirtual 379) 3 41 := ⟨by decide +kernel, rfl⟩
theorem dX6_pliesForPart_41 : DI cX6_pliesForPart 41 (.invokestatic 433) 3 44 := ⟨by decide +kernel, rfl⟩
theorem dX6_pliesForPart_44 : DJ cX6_pliesForPart 44 (.goto 4) 4 48 47 := ⟨by decide +kernel, by decide, rfl⟩
theorem dX6_pliesForPart_47 : DI cX6_pliesForPart 47 (.iconst 0) 1 48 := ⟨by decide +kernel, rfl⟩
theorem dX6_pliesForPart_48 : DI cX6_pliesForPart 48 (.istore 4) 2 50 := ⟨by decide +kernel, rfl⟩
theorem dX6_pliesForPart_50 : DI cX6_pliesForPart 50 (.iload_n 3) 1 51 := ⟨by decide +kernel, rfl⟩
theorem dX6_pliesForPart_51 : DI cX6_pliesForPart 51 (.iconst (-1)) 1 52 := ⟨by decide +kernel, rfl⟩
theorem dX6_pliesForPart_52 : DJ cX6_pliesForPart 52 (.if_icmp .eq 9) 9 61 55 := ⟨by decide +kernel, by decide, rfl⟩
theorem dX6_pliesForPart_55 : DI cX6_pliesForPart 55 (.iload 4) 2 57 := ⟨by decide +kernel, rfl⟩
theorem dX6_pliesForPart_57 : DI cX6_pliesForPart 57 (.iconst (-1)) 1 58 := ⟨by decide +kernel, rfl⟩
theorem dX6_pliesForPart_58 : DJ cX6_pliesForPart 58 (.if_icmp .ne 5) 5 63 61 := ⟨by decide +kernel, by decide, rfl⟩
theorem dX6_pliesForPart_61 : DI cX6_pliesForPart 61 (.iconst (-1)) 1 62 := ⟨by decide +kernel, rfl⟩
theorem dX6_pliesForPart_62 : DI cX6_pliesForPart 62 (.ireturn) 1 63 := ⟨by decide +kernel, rfl⟩
theorem dX6_pliesForPart_63 : DI cX6_pliesForPart 63 (.iload_n 3) 1 64 := ⟨by decide +kernel, rfl⟩
theorem dX6_pliesForPart_64 : DI cX6_pliesForPart 64 (.iload 4) 2 66 := ⟨by decide +kernel, rfl⟩
theorem dX6_pliesForPart_66 : DI cX6_pliesForPart 66 (.invokestatic 430) 3 69 := ⟨by decide +kernel, rfl⟩
theorem dX6_pliesForPart_69 : DI cX6_pliesForPart 69 (.ireturn) 1 70 := ⟨by decide +kernel, rfl⟩
theorem dX6_pliesForSort_0 : DI cX6_pliesForSort 0 (.iload_n 0) 1 1 := ⟨by decide +kernel, rfl⟩
theorem dX6_pliesForSort_1 : DJ cX6_pliesForSort 1 (.ifCond .gt 5) 5 6 4 := ⟨by decide +kernel, by decide, rfl⟩
theorem dX6_pliesForSort_4 : DI cX6_pliesForSort 4 (.iconst 0) 1 5 := ⟨by decide +kernel, rfl⟩
theorem dX6_pliesForSort_5 : DI cX6_pliesForSort 5 (.ireturn) 1 6 := ⟨by decide +kernel, rfl⟩
theorem dX6_pliesForSort_6 : DI cX6_pliesForSort 6 (.iload_n 1) 1 7 := ⟨by decide +kernel, rfl⟩
theorem dX6_pliesForSort_7 : DJ cX6_pliesForSort 7 (.ifCond .le 13) 13 20 10 := ⟨by decide +kernel, by decide, rfl⟩
theorem dX6_pliesForSort_10 : DI cX6_pliesForSort 10 (.iload_n 0) 1 11 := ⟨by decide +kernel, rfl⟩
theorem dX6_pliesForSort_11 : DI cX6_pliesForSort 11 (.iload_n 1) 1 12 := ⟨by decide +kernel, rfl⟩
theorem dX6_pliesForSort_12 : DI cX6_pliesForSort 12 (.iadd) 1 13 := ⟨by decide +kernel, rfl⟩
theorem dX6_pliesForSort_13 : DI cX6_pliesForSort 13 (.iconst 1) 1 14 := ⟨by decide +kernel, rfl⟩
theorem dX6_pliesForSort_14 : DI cX6_pliesForSort 14 (.isub) 1 15 := ⟨by decide +kernel, rfl⟩
theorem dX6_pliesForSort_15 : DI cX6_pliesForSort 15 (.iload_n 1) 1 16 := ⟨by decide +kernel, rfl⟩
theorem dX6_pliesForSort_16 : DI cX6_pliesForSort 16 (.idiv) 1 17 := ⟨by decide +kernel, rfl⟩
theorem dX6_pliesForSort_17 : DJ cX6_pliesForSort 17 (.goto 4) 4 21 20 := ⟨by decide +kernel, by decide, rfl⟩
theorem dX6_pliesForSort_20 : DI cX6_pliesForSort 20 (.iconst (-1)) 1 21 := ⟨by decide +kernel, rfl⟩
theorem dX6_pliesForSort_21 : DI cX6_pliesForSort 21 (.ireturn) 1 22 := ⟨by decide +kernel, rfl⟩
theorem dX6_density_0 : DI cX6_density 0 (.aload_n 0) 1 1 := ⟨by decide +kernel, rfl⟩
theorem dX6_density_1 : DI cX6_density 1 (.getfield 19) 3 4 := ⟨by decide +kernel, rfl⟩
theorem dX6_density_4 : DI cX6_density 4 (.invokevirtual 219) 3 7 := ⟨by decide +kernel, rfl⟩
theorem dX6_density_7 : DI cX6_density 7 (.aload_n 0) 1 8 := ⟨by decide +kernel, rfl⟩
theorem dX6_density_8 : DI cX6_density 8 (.getfield 12) 3 11 := ⟨by decide +kernel, rfl⟩
theorem dX6_density_11 : DI cX6_density 11 (.invokevirtual 436) 3 14 := ⟨by decide +kernel, rfl⟩
theorem dX6_density_14 : DI cX6_density 14 (.imul) 1 15 := ⟨by decide +kernel, rfl⟩
theorem dX6_density_15 : DI cX6_density 15 (.istore_n 1) 1 16 := ⟨by decide +kernel, rfl⟩
theorem dX6_density_16 : DI cX6_density 16 (.iload_n 1) 1 17 := ⟨by decide +kernel, rfl⟩
theorem dX6_density_17 : DJ cX6_density 17 (.ifCond .gt 14) 14 31 20 := ⟨by decide +kernel, by decide, rfl⟩
theorem dX6_density_20 : DI cX6_density 20 (.new 439) 3 23 := ⟨by decide +kernel, rfl⟩
theorem dX6_density_23 : DI cX6_density 23 (.dup) 1 24 := ⟨by decide +kernel, rfl⟩
theorem dX6_density_24 : DI cX6_density 24 (.ldc_w 364) 3 27 := ⟨by decide +kernel, rfl⟩
theorem dX6_density_27 : DI cX6_density 27 (.invokespecial 441) 3 30 := ⟨by decide +kernel, rfl⟩
theorem dX6_density_30 : DI cX6_density 30 (.athrow) 1 31 := ⟨by decide +kernel, rfl⟩
theorem dX6_density_31 : DI cX6_density 31 (.aload_n 0) 1 32 := ⟨by decide +kernel, rfl⟩
theorem dX6_density_32 : DI cX6_density 32 (.getfield 19) 3 35 := ⟨by decide +kernel, rfl⟩
theorem dX6_density_35 : DI cX6_density 35 (.invokevirtual 253) 3 38 := ⟨by decide +kernel, rfl⟩
theorem dX6_density_38 : DI cX6_density 38 (.i2f) 1 39 := ⟨by decide +kernel, rfl⟩
theorem dX6_density_39 : DI cX6_density 39 (.iload_n 1) 1 40 := ⟨by decide +kernel, rfl⟩
theorem dX6_density_40 : DI cX6_density 40 (.i2f) 1 41 := ⟨by decide +kernel, rfl⟩
theorem dX6_density_41 : DI cX6_density 41 (.fdiv) 1 42 := ⟨by decide +kernel, rfl⟩
theorem dX6_density_42 : DI cX6_density 42 (.freturn) 1 43 := ⟨by decide +kernel, rfl⟩
theorem dX6_meanCells_0 : DI cX6_meanCells 0 (.aload_n 0) 1 1 := ⟨by decide +kernel, rfl⟩
theorem dX6_meanCells_1 : DI cX6_meanCells 1 (.getfield 19) 3 4 := ⟨by decide +kernel, rfl⟩
theorem dX6_meanCells_4 : DI cX6_meanCells 4 (.getfield 59) 3 7 := ⟨by decide +kernel, rfl⟩
theorem dX6_meanCells_7 : DI cX6_meanCells 7 (.istore_n 1) 1 8 := ⟨by decide +kernel, rfl⟩
theorem dX6_meanCells_8 : DI cX6_meanCells 8 (.iload_n 1) 1 9 := ⟨by decide +kernel, rfl⟩
theorem dX6_meanCells_9 : DJ cX6_meanCells 9 (.ifCond .gt 14) 14 23 12 := ⟨by decide +kernel, by decide, rfl⟩
theorem dX6_meanCells_12 : DI cX6_meanCells 12 (.new 439) 3 15 := ⟨by decide +kernel, rfl⟩
theorem dX6_meanCells_15 : DI cX6_meanCells 15 (.dup) 1 16 := ⟨by decide +kernel, rfl⟩
theorem dX6_meanCells_16 : DI cX6_meanCells 16 (.ldc_w 364) 3 19 := ⟨by decide +kernel, rfl⟩
theorem dX6_meanCells_19 : DI cX6_meanCells 19 (.invokespecial 441) 3 22 := ⟨by decide +kernel, rfl⟩
theorem dX6_meanCells_22 : DI cX6_meanCells 22 (.athrow) 1 23 := ⟨by decide +kernel, rfl⟩
theorem dX6_meanCells_23 : DI cX6_meanCells 23 (.aload_n 0) 1 24 := ⟨by decide +kernel, rfl⟩
theorem dX6_meanCells_24 : DI cX6_meanCells 24 (.getfield 19) 3 27 := ⟨by decide +kernel, rfl⟩
theorem dX6_meanCells_27 : DI cX6_meanCells 27 (.invokevirtual 253) 3 30 := ⟨by decide +kernel, rfl⟩
theorem dX6_meanCells_30 : DI cX6_meanCells 30 (.i2d) 1 31 := ⟨by decide +kernel, rfl⟩
theorem dX6_meanCells_31 : DI cX6_meanCells 31 (.iload_n 1) 1 32 := ⟨by decide +kernel, rfl⟩
theorem dX6_meanCells_32 : DI cX6_meanCells 32 (.i2d) 1 33 := ⟨by decide +kernel, rfl⟩
theorem dX6_meanCells_33 : DI cX6_meanCells 33 (.ddiv) 1 34 := ⟨by decide +kernel, rfl⟩
theorem dX6_meanCells_34 : DI cX6_meanCells 34 (.dreturn) 1 35 := ⟨by decide +kernel, rfl⟩
theorem dX6_isSound_0 : DI cX6_isSound 0 (.aload_n 0) 1 1 := ⟨by decide +kernel, rfl⟩
theorem dX6_isSound_1 : DI cX6_isSound 1 (.getfield 19) 3 4 := ⟨by decide +kernel, rfl⟩
theorem dX6_isSound_4 : DI cX6_isSound 4 (.invokevirtual 442) 3 7 := ⟨by decide +kernel, rfl⟩
theorem dX6_isSound_7 : DJ cX6_isSound 7 (.ifCond .ne 5) 5 12 10 := ⟨by decide +kernel, by decide, rfl⟩
theorem dX6_isSound_10 : DI cX6_isSound 10 (.iconst 0) 1 11 := ⟨by decide +kernel, rfl⟩
theorem dX6_isSound_11 : DI cX6_isSound 11 (.ireturn) 1 12 := ⟨by decide +kernel, rfl⟩
theorem dX6_isSound_12 : DI cX6_isSound 12 (.iconst 0) 1 13 := ⟨by decide +kernel, rfl⟩
theorem dX6_isSound_13 : DI cX6_isSound 13 (.istore_n 1) 1 14 := ⟨by decide +kernel, rfl⟩
theorem dX6_isSound_14 : DI cX6_isSound 14 (.iload_n 1) 1 15 := ⟨by decide +kernel, rfl⟩
theorem dX6_isSound_15 : DI cX6_isSound 15 (.aload_n 0) 1 16 := ⟨by decide +kernel, rfl⟩
theorem dX6_isSound_16 : DI cX6_isSound 16 (.getfield 123) 3 19 := ⟨by decide +kernel, rfl⟩
theorem dX6_isSound_19 : DJ cX6_isSound 19 (.if_icmp .ge 45) 45 64 22 := ⟨by decide +kernel, by decide, rfl⟩
theorem dX6_isSound_22 : DI cX6_isSound 22 (.aload_n 0) 1 23 := ⟨by decide +kernel, rfl⟩
theorem dX6_isSound_23 : DI cX6_isSound 23 (.iload_n 1) 1 24 := ⟨by decide +kernel, rfl⟩
theorem dX6_isSound_24 : DI cX6_isSound 24 (.invokevirtual 169) 3 27 := ⟨by decide +kernel, rfl⟩
theorem dX6_isSound_27 : DI cX6_isSound 27 (.astore_n 2) 1 28 := ⟨by decide +kernel, rfl⟩
theorem dX6_isSound_28 : DI cX6_isSound 28 (.aload_n 2) 1 29 := ⟨by decide +kernel, rfl⟩
theorem dX6_isSound_29 : DJ cX6_isSound 29 (.ifnull 29) 29 58 32 := ⟨by decide +kernel, by decide, rfl⟩
theorem dX6_isSound_32 : DI cX6_isSound 32 (.aload_n 2) 1 33 := ⟨by decide +kernel, rfl⟩
theorem dX6_isSound_33 : DI cX6_isSound 33 (.getfield 146) 3 36 := ⟨by decide +kernel, rfl⟩
theorem dX6_isSound_36 : DI cX6_isSound 36 (.aload_n 2) 1 37 := ⟨by decide +kernel, rfl⟩
theorem dX6_isSound_37 : DI cX6_isSound 37 (.getfield 376) 3 40 := ⟨by decide +kernel, rfl⟩
theorem dX6_isSound_40 : DI cX6_isSound 40 (.aload_n 2) 1 41 := ⟨by decide +kernel, rfl⟩
theorem dX6_isSound_41 : DI cX6_isSound 41 (.getfield 383) 3 44 := ⟨by decide +kernel, rfl⟩
theorem dX6_isSound_44 : DI cX6_isSound 44 (.iadd) 1 45 := ⟨by decide +kernel, rfl⟩
theorem dX6_isSound_45 : DI cX6_isSound 45 (.i2l) 1 46 := ⟨by decide +kernel, rfl⟩
theorem dX6_isSound_46 : DI cX6_isSound 46 (.aload_n 0) 1 47 := ⟨by decide +kernel, rfl⟩
theorem dX6_isSound_47 : DI cX6_isSound 47 (.iload_n 1) 1 48 := ⟨by decide +kernel, rfl⟩
theorem dX6_isSound_48 : DI cX6_isSound 48 (.invokevirtual 445) 3 51 := ⟨by decide +kernel, rfl⟩
theorem dX6_isSound_51 : DI cX6_isSound 51 (.ladd) 1 52 := ⟨by decide +kernel, rfl⟩
theorem dX6_isSound_52 : DI cX6_isSound 52 (.lcmp) 1 53 := ⟨by decide +kernel, rfl⟩
theorem dX6_isSound_53 : DJ cX6_isSound 53 (.ifCond .eq 5) 5 58 56 := ⟨by decide +kernel, by decide, rfl⟩
theorem dX6_isSound_56 : DI cX6_isSound 56 (.iconst 0) 1 57 := ⟨by decide +kernel, rfl⟩
theorem dX6_isSound_57 : DI cX6_isSound 57 (.ireturn) 1 58 := ⟨by decide +kernel, rfl⟩
theorem dX6_isSound_58 : DI cX6_isSound 58 (.iinc 1 1) 3 61 := ⟨by decide +kernel, rfl⟩
theorem dX6_isSound_61 : DJ cX6_isSound 61 (.goto (-47)) (-47) 14 64 := ⟨by decide +kernel, by decide, rfl⟩
theorem dX6_isSound_64 : DI cX6_isSound 64 (.iconst 1) 1 65 := ⟨by decide +kernel, rfl⟩
theorem dX6_isSound_65 : DI cX6_isSound 65 (.ireturn) 1 66 := ⟨by decide +kernel, rfl⟩
theorem dX6_inGarments_0 : DI cX6_inGarments 0 (.lconst 0) 1 1 := ⟨by decide +kernel, rfl⟩
theorem dX6_inGarments_1 : DI cX6_inGarments 1 (.lstore_n 2) 1 2 := ⟨by decide +kernel, rfl⟩
theorem dX6_inGarments_2 : DI cX6_inGarments 2 (.iconst 0) 1 3 := ⟨by decide +kernel, rfl⟩
theorem dX6_inGarments_3 : DI cX6_inGarments 3 (.istore 4) 2 5 := ⟨by decide +kernel, rfl⟩
theorem dX6_inGarments_5 : DI cX6_inGarments 5 (.iload 4) 2 7 := ⟨by decide +kernel, rfl⟩
theorem dX6_inGarments_7 : DI cX6_inGarments 7 (.aload_n 0) 1 8 := ⟨by decide +kernel, rfl⟩
theorem dX6_inGarments_8 : DI cX6_inGarments 8 (.getfield 31) 3 11 := ⟨by decide +kernel, rfl⟩
theorem dX6_inGarments_11 : DI cX6_inGarments 11 (.arraylength) 1 12 := ⟨by decide +kernel, rfl⟩
theorem dX6_inGarments_12 : DJ cX6_inGarments 12 (.if_icmp .ge 41) 41 53 15 := ⟨by decide +kernel, by decide, rfl⟩
theorem dX6_inGarments_15 : DI cX6_inGarments 15 (.aload_n 0) 1 16 := ⟨by decide +kernel, rfl⟩
theorem dX6_inGarments_16 : DI cX6_inGarments 16 (.getfield 31) 3 19 := ⟨by decide +kernel, rfl⟩
theorem dX6_inGarments_19 : DI cX6_inGarments 19 (.iload 4) 2 21 := ⟨by decide +kernel, rfl⟩
theorem dX6_inGarments_21 : DI cX6_inGarments 21 (.aaload) 1 22 := ⟨by decide +kernel, rfl⟩
theorem dX6_inGarments_22 : DI cX6_inGarments 22 (.astore 5) 2 24 := ⟨by decide +kernel, rfl⟩
theorem dX6_inGarments_24 : DI cX6_inGarments 24 (.aload 5) 2 26 := ⟨by decide +kernel, rfl⟩
theorem dX6_inGarments_26 : DJ cX6_inGarments 26 (.ifnull 21) 21 47 29 := ⟨by decide +kernel, by decide, rfl⟩
theorem dX6_inGarments_29 : DI cX6_inGarments 29 (.lload_n 2) 1 30 := ⟨by decide +kernel, rfl⟩
theorem dX6_inGarments_30 : DI cX6_inGarments 30 (.aload 5) 2 32 := ⟨by decide +kernel, rfl⟩
theorem dX6_inGarments_32 : DI cX6_inGarments 32 (.getfield 288) 3 35 := ⟨by decide +kernel, rfl⟩
theorem dX6_inGarments_35 : DI cX6_inGarments 35 (.i2l) 1 36 := ⟨by decide +kernel, rfl⟩
theorem dX6_inGarments_36 : DI cX6_inGarments 36 (.aload_n 0) 1 37 := ⟨by decide +kernel, rfl⟩
theorem dX6_inGarments_37 : DI cX6_inGarments 37 (.aload 5) 2 39 := ⟨by decide +kernel, rfl⟩
theorem dX6_inGarments_39 : DI cX6_inGarments 39 (.iload_n 1) 1 40 := ⟨by decide +kernel, rfl⟩
theorem dX6_inGarments_40 : DI cX6_inGarments 40 (.invokevirtual 308) 3 43 := ⟨by decide +kernel, rfl⟩
theorem dX6_inGarments_43 : DI cX6_inGarments 43 (.i2l) 1 44 := ⟨by decide +kernel, rfl⟩
theorem dX6_inGarments_44 : DI cX6_inGarments 44 (.lmul) 1 45 := ⟨by decide +kernel, rfl⟩
theorem dX6_inGarments_45 : DI cX6_inGarments 45 (.ladd) 1 46 := ⟨by decide +kernel, rfl⟩
theorem dX6_inGarments_46 : DI cX6_inGarments 46 (.lstore_n 2) 1 47 := ⟨by decide +kernel, rfl⟩
theorem dX6_inGarments_47 : DI cX6_inGarments 47 (.iinc 4 1) 3 50 := ⟨by decide +kernel, rfl⟩
theorem dX6_inGarments_50 : DJ cX6_inGarments 50 (.goto (-45)) (-45) 5 53 := ⟨by decide +kernel, by decide, rfl⟩
theorem dX6_inGarments_53 : DI cX6_inGarments 53 (.lload_n 2) 1 54 := ⟨by decide +kernel, rfl⟩
theorem dX6_inGarments_54 : DI cX6_inGarments 54 (.lreturn) 1 55 := ⟨by decide +kernel, rfl⟩
theorem dX6_isWithin_0 : DI cX6_isWithin 0 (.iload_n 0) 1 1 := ⟨by decide +kernel, rfl⟩
theorem dX6_isWithin_1 : DI cX6_isWithin 1 (.iload_n 1) 1 2 := ⟨by decide +kernel, rfl⟩
theorem dX6_isWithin_2 : DJ cX6_isWithin 2 (.if_icmp .lt 12) 12 14 5 := ⟨by decide +kernel, by decide, rfl⟩
theorem dX6_isWithin_5 : DI cX6_isWithin 5 (.iload_n 0) 1 6 := ⟨by decide +kernel, rfl⟩
theorem dX6_isWithin_6 : DI cX6_isWithin 6 (.iload_n 2) 1 7 := ⟨by decide +kernel, rfl⟩
theorem dX6_isWithin_7 : DJ cX6_isWithin 7 (.if_icmp .gt 7) 7 14 10 := ⟨by decide +kernel, by decide, rfl⟩
theorem dX6_isWithin_10 : DI cX6_isWithin 10 (.iconst 1) 1 11 := ⟨by decide +kernel, rfl⟩
theorem dX6_isWithin_11 : DJ cX6_isWithin 11 (.goto 4) 4 15 14 := ⟨by decide +kernel, by decide, rfl⟩
theorem dX6_isWithin_14 : DI cX6_isWithin 14 (.iconst 0) 1 15 := ⟨by decide +kernel, rfl⟩
theorem dX6_isWithin_15 : DI cX6_isWithin 15 (.ireturn) 1 16 := ⟨by decide +kernel, rfl⟩
theorem dX6_entry_0 : DI cX6_entry 0 (.iload_n 1) 1 1 := ⟨by decide +kernel, rfl⟩
theorem dX6_entry_1 : DJ cX6_entry 1 (.ifCond .lt 15) 15 16 4 := ⟨by decide +kernel, by decide, rfl⟩
theorem dX6_entry_4 : DI cX6_entry 4 (.iload_n 1) 1 5 := ⟨by decide +kernel, rfl⟩
theorem dX6_entry_5 : DI cX6_entry 5 (.aload_n 0) 1 6 := ⟨by decide +kernel, rfl⟩
theorem dX6_entry_6 : DI cX6_entry 6 (.arraylength) 1 7 := ⟨by decide +kernel, rfl⟩
theorem dX6_entry_7 : DJ cX6_entry 7 (.if_icmp .ge 9) 9 16 10 := ⟨by decide +kernel, by decide, rfl⟩
theorem dX6_entry_10 : DI cX6_entry 10 (.aload_n 0) 1 11 := ⟨by decide +kernel, rfl⟩
theorem dX6_entry_11 : DI cX6_entry 11 (.iload_n 1) 1 12 := ⟨by decide +kernel, rfl⟩
theorem dX6_entry_12 : DI cX6_entry 12 (.iaload) 1 13 := ⟨by decide +kernel, rfl⟩
theorem dX6_entry_13 : DJ cX6_entry 13 (.goto 4) 4 17 16 := ⟨by decide +kernel, by decide, rfl⟩
theorem dX6_entry_16 : DI cX6_entry 16 (.iconst 0) 1 17 := ⟨by decide +kernel, rfl⟩
theorem dX6_entry_17 : DI cX6_entry 17 (.ireturn) 1 18 := ⟨by decide +kernel, rfl⟩
theorem dX6_store_0 : DI cX6_store 0 (.iload_n 1) 1 1 := ⟨by decide +kernel, rfl⟩
theorem dX6_store_1 : DJ cX6_store 1 (.ifCond .lt 13) 13 14 4 := ⟨by decide +kernel, by decide, rfl⟩
theorem dX6_store_4 : DI cX6_store 4 (.iload_n 1) 1 5 := ⟨by decide +kernel, rfl⟩
theorem dX6_store_5 : DI cX6_store 5 (.aload_n 0) 1 6 := ⟨by decide +kernel, rfl⟩
theorem dX6_store_6 : DI cX6_store 6 (.arraylength) 1 7 := ⟨by decide +kernel, rfl⟩
theorem dX6_store_7 : DJ cX6_store 7 (.if_icmp .ge 7) 7 14 10 := ⟨by decide +kernel, by decide, rfl⟩
theorem dX6_store_10 : DI cX6_store 10 (.aload_n 0) 1 11 := ⟨by decide +kernel, rfl⟩
theorem dX6_store_11 : DI cX6_store 11 (.iload_n 1) 1 12 := ⟨by decide +kernel, rfl⟩
theorem dX6_store_12 : DI cX6_store 12 (.iload_n 2) 1 13 := ⟨by decide +kernel, rfl⟩
theorem dX6_store_13 : DI cX6_store 13 (.iastore) 1 14 := ⟨by decide +kernel, rfl⟩
theorem dX6_store_14 : DI cX6_store 14 (.return_) 1 15 := ⟨by decide +kernel, rfl⟩
theorem dX6_hasBit_0 : DI cX6_hasBit 0 (.iload_n 0) 1 1 := ⟨by decide +kernel, rfl⟩
theorem dX6_hasBit_1 : DI cX6_hasBit 1 (.iload_n 1) 1 2 := ⟨by decide +kernel, rfl⟩
theorem dX6_hasBit_2 : DI cX6_hasBit 2 (.ishr) 1 3 := ⟨by decide +kernel, rfl⟩
theorem dX6_hasBit_3 : DI cX6_hasBit 3 (.iconst 1) 1 4 := ⟨by decide +kernel, rfl⟩
theorem dX6_hasBit_4 : DI cX6_hasBit 4 (.iand) 1 5 := ⟨by decide +kernel, rfl⟩
theorem dX6_hasBit_5 : DJ cX6_hasBit 5 (.ifCond .eq 7) 7 12 8 := ⟨by decide +kernel, by decide, rfl⟩
theorem dX6_hasBit_8 : DI cX6_hasBit 8 (.iconst 1) 1 9 := ⟨by decide +kernel, rfl⟩
theorem dX6_hasBit_9 : DJ cX6_hasBit 9 (.goto 4) 4 13 12 := ⟨by decide +kernel, by decide, rfl⟩
theorem dX6_hasBit_12 : DI cX6_hasBit 12 (.iconst 0) 1 13 := ⟨by decide +kernel, rfl⟩
theorem dX6_hasBit_13 : DI cX6_hasBit 13 (.ireturn) 1 14 := ⟨by decide +kernel, rfl⟩
theorem dX6_firstBit_0 : DI cX6_firstBit 0 (.iconst 0) 1 1 := ⟨by decide +kernel, rfl⟩
theorem dX6_firstBit_1 : DI cX6_firstBit 1 (.istore_n 1) 1 2 := ⟨by decide +kernel, rfl⟩
theorem dX6_firstBit_2 : DI cX6_firstBit 2 (.iload_n 1) 1 3 := ⟨by decide +kernel, rfl⟩
theorem dX6_firstBit_3 : DI cX6_firstBit 3 (.iconst 5) 1 4 := ⟨by decide +kernel, rfl⟩
theorem dX6_firstBit_4 : DJ cX6_firstBit 4 (.if_icmp .ge 17) 17 21 7 := ⟨by decide +kernel, by decide, rfl⟩
theorem dX6_firstBit_7 : DI cX6_firstBit 7 (.iload_n 0) 1 8 := ⟨by decide +kernel, rfl⟩
theorem dX6_firstBit_8 : DI cX6_firstBit 8 (.iload_n 1) 1 9 := ⟨by decide +kernel, rfl⟩
theorem dX6_firstBit_9 : DI cX6_firstBit 9 (.invokestatic 449) 3 12 := ⟨by decide +kernel, rfl⟩
theorem dX6_firstBit_12 : DJ cX6_firstBit 12 (.ifCond .ne 9) 9 21 15 := ⟨by decide +kernel, by decide, rfl⟩
theorem dX6_firstBit_15 : DI cX6_firstBit 15 (.iinc 1 1) 3 18 := ⟨by decide +kernel, rfl⟩
theorem dX6_firstBit_18 : DJ cX6_firstBit 18 (.goto (-16)) (-16) 2 21 := ⟨by decide +kernel, by decide, rfl⟩
theorem dX6_firstBit_21 : DI cX6_firstBit 21 (.iload_n 1) 1 22 := ⟨by decide +kernel, rfl⟩
theorem dX6_firstBit_22 : DI cX6_firstBit 22 (.ireturn) 1 23 := ⟨by decide +kernel, rfl⟩
theorem dX6_endOfBits_0 : DI cX6_endOfBits 0 (.iconst 5) 1 1 := ⟨by decide +kernel, rfl⟩
theorem dX6_endOfBits_1 : DI cX6_endOfBits 1 (.istore_n 1) 1 2 := ⟨by decide +kernel, rfl⟩
theorem dX6_endOfBits_2 : DI cX6_endOfBits 2 (.iload_n 1) 1 3 := ⟨by decide +kernel, rfl⟩
theorem dX6_endOfBits_3 : DJ cX6_endOfBits 3 (.ifCond .le 19) 19 22 6 := ⟨by decide +kernel, by decide, rfl⟩
theorem dX6_endOfBits_6 : DI cX6_endOfBits 6 (.iload_n 0) 1 7 := ⟨by decide +kernel, rfl⟩
theorem dX6_endOfBits_7 : DI cX6_endOfBits 7 (.iload_n 1) 1 8 := ⟨by decide +kernel, rfl⟩
theorem dX6_endOfBits_8 : DI cX6_endOfBits 8 (.iconst 1) 1 9 := ⟨by decide +kernel, rfl⟩
theorem dX6_endOfBits_9 : DI cX6_endOfBits 9 (.isub) 1 10 := ⟨by decide +kernel, rfl⟩
theorem dX6_endOfBits_10 : DI cX6_endOfBits 10 (.invokestatic 449) 3 13 := ⟨by decide +kernel, rfl⟩
theorem dX6_endOfBits_13 : DJ cX6_endOfBits 13 (.ifCond .ne 9) 9 22 16 := ⟨by decide +kernel, by decide, rfl⟩
theorem dX6_endOfBits_16 : DI cX6_endOfBits 16 (.iinc 1 (-1)) 3 19 := ⟨by decide +kernel, rfl⟩
theorem dX6_endOfBits_19 : DJ cX6_endOfBits 19 (.goto (-17)) (-17) 2 22 := ⟨by decide +kernel, by decide, rfl⟩
theorem dX6_endOfBits_22 : DI cX6_endOfBits 22 (.iload_n 1) 1 23 := ⟨by decide +kernel, rfl⟩
theorem dX6_endOfBits_23 : DI cX6_endOfBits 23 (.ireturn) 1 24 := ⟨by decide +kernel, rfl⟩
end
section
/-! The memory by kinds: an object is (kind, number); its fields are numbers (Int), references (the number of an object of a known kind), longs, doubles. -/
abbrev AV : Type := Int ⊕ (Option (Nat × Nat)) ⊕ Int ⊕ UInt32 ⊕ UInt64
abbrev aI (x : Int) : AV := .inl x
abbrev aR (r : Option (Nat × Nat)) : AV := .inr (.inl r)
abbrev aO (k i : Nat) : AV := .inr (.inl (some (k, i)))
abbrev aN : AV := .inr (.inl none)
abbrev aL (x : Int) : AV := .inr (.inr (.inl x))
abbrev aF (x : UInt32) : AV := .inr (.inr (.inr (.inl x)))
abbrev aD (x : UInt64) : AV := .inr (.inr (.inr (.inr x)))
abbrev Ads : Type := Nat → Nat → Nat
def tv (ad : Ads) (v : AV) : Value := match v with
  | .inl x => .int (Int32.ofInt x)
  | .inr (.inl none) => .null
  | .inr (.inl (some p)) => .ref (ad p.1 p.2)
  | .inr (.inr (.inl x)) => .long (Int64.ofInt x)
  | .inr (.inr (.inr (.inl x))) => .float x
  | .inr (.inr (.inr (.inr x))) => .double x
def cat2 (v : AV) : Bool := match v with
  | .inr (.inr (.inl _)) => true
  | .inr (.inr (.inr (.inr _))) => true
  | _ => false
theorem tv_cat (ad : Ads) (v : AV) : ((tv ad v).category == 2) = cat2 v := by rcases v with x | (_ | p) | x | x | x <;> rfl
theorem tv_cat1 {ad : Ads} {v : AV} (h : cat2 v = false) : (tv ad v).category = 1 := by
  rcases v with x | (_ | p) | x | x | x <;> first | rfl | (exact absurd h (fun q => by cases q))
theorem tv_cat2 (ad : Ads) (v : AV) : (tv ad v).category = if cat2 v then 2 else 1 := by rcases v with x | (_ | p) | x | x | x <;> rfl
abbrev Lv : Type := List (Nat × AV)
def lget : Lv → Nat → Option AV
  | [], _ => none
  | q :: t, j => if q.1 = j then some q.2 else lget t j
def lset (lv : Lv) (i : Nat) (v : AV) : Lv := (i, v) :: lv.filter (fun q => !(q.1 == i) && !(q.1 + 1 == i && cat2 q.2))
def lset2 (lv : Lv) (i : Nat) (v : AV) : Lv := (i, v) :: lv.filter (fun q => !(q.1 == i) && (!(q.1 == i + 1) && !(q.1 + 1 == i && cat2 q.2)))
def lvm (ad : Ads) (lv : Lv) : List (Nat × Value) := lv.map fun q => (q.1, tv ad q.2)
def lsub (lv : Lv) : Lv → Prop
  | [] => True
  | q :: t => lget lv q.1 = some q.2 ∧ lsub lv t
theorem lget_mem : ∀ {lv : Lv} {j : Nat} {v : AV}, lget lv j = some v → (j, v) ∈ lv
  | [], _, _, h => by simp [lget] at h
  | q :: t, j, v, h => by
    unfold lget at h
    split at h
    · rename_i e
      cases h
      subst e
      exact List.mem_cons_self
    · exact List.mem_cons_of_mem _ (lget_mem h)
theorem lget_mapped {ad : Ads} {lv : Lv} {j : Nat} {v : AV} (h : lget lv j = some v) : (j, tv ad v) ∈ lvm ad lv := List.mem_map.mpr ⟨(j, v), lget_mem h, rfl⟩
theorem lget_has {ad : Ads} {ls : Array Slot} {nL : Nat} {lv : Lv} {j : Nat} {v : AV} (hl : lv_has ls nL (lvm ad lv)) (h : lget lv j = some v) : ls[j]? = some (.val (tv ad v)) := hl.2.2 (j, tv ad v) (lget_mapped h)
theorem lsub_mem {lv : Lv} : ∀ {lv' : Lv}, lsub lv lv' → ∀ q ∈ lv', lget lv q.1 = some q.2
  | [], _, q, hq => by cases hq
  | q0 :: t, h, q, hq => by
    rcases List.mem_cons.mp hq with e | e
    · rw [e]; exact h.1
    · exact lsub_mem h.2 q e
theorem lsub_has {ad : Ads} {ls : Array Slot} {nL : Nat} {lv lv' : Lv} (hl : lv_has ls nL (lvm ad lv)) (h : lsub lv lv') : lv_has ls nL (lvm ad lv') := by
  refine ⟨hl.1, hl.2.1, fun q hq => ?_⟩
  obtain ⟨q0, h0, rfl⟩ := List.mem_map.mp hq
  exact lget_has hl (lsub_mem h q0 h0)
theorem lvm_lset (ad : Ads) (lv : Lv) (i : Nat) (v : AV) : (i, tv ad v) :: (lvm ad lv).filter (fun q => !(q.1 == i) && !(q.1 + 1 == i && q.2.category == 2)) = lvm ad (lset lv i v) := by
  simp only [lvm, lset, List.map_cons, List.filter_map]
  congr 3
  funext q
  simp only [Function.comp, tv_cat]
theorem lvm_lset2 (ad : Ads) (lv : Lv) (i : Nat) (v : AV) : (i, tv ad v) :: (lvm ad lv).filter (fun q => !(q.1 == i) && (!(q.1 == i + 1) && !(q.1 + 1 == i && q.2.category == 2))) = lvm ad (lset2 lv i v) := by
  simp only [lvm, lset2, List.map_cons, List.filter_map]
  congr 3
  funext q
  simp only [Function.comp, tv_cat]
def avargs : Nat → List AV → Lv
  | _, [] => []
  | i, v :: t => (i, v) :: avargs (if cat2 v then i + 2 else i + 1) t
theorem avargs_lv (ad : Ads) : ∀ (vs : List AV) (i : Nat), lv_args i (vs.map (tv ad)) = lvm ad (avargs i vs)
  | [], _ => rfl
  | v :: t, i => by
    simp only [List.map_cons, lv_args, avargs, lvm]
    congr 1
    rw [avargs_lv ad t]
    have : (if (tv ad v).category = 2 then i + 2 else i + 1) = (if cat2 v = true then i + 2 else i + 1) := by
      have h := tv_cat ad v
      by_cases hc : cat2 v = true
      · rw [hc] at h
        rw [if_pos (by simpa using h), if_pos hc]
      · rw [Bool.not_eq_true] at hc
        rw [hc] at h
        rw [if_neg (by simpa using h), hc]
        rfl
    rw [this]
    rfl
/-! memory -/
abbrev Mem : Type := (Nat → Nat → Nat → Int) × (Nat → Nat → Nat → Option Nat) × (Nat → Nat → Nat → Int) × (Nat → Nat → Nat → UInt64)
def cellG (cA : Nat → ClassId) (ad : Ads) (k i : Nat) (f : Nat → Int) (g : Nat → Option Nat) (h : Nat → Int) (d : Nat → UInt64) : va_E := match k with
  | 0 => .inr (6, [.ref (ad 1 0), .ref (ad 2 0), .ref (ad 10 0), .int (Int32.ofInt (f 3)), .ref (ad 11 0), .int (Int32.ofInt (f 5)), .int (Int32.ofInt (f 6)), .ref (ad 2 1), .ref (ad 27 0), .ref (ad 28 0), .ref (ad 29 0)])
  | 1 => .inr (0, [.int (Int32.ofInt (f 0)), .int (Int32.ofInt (f 1)), .int (Int32.ofInt (f 2)), .int (Int32.ofInt (f 3)), .int (Int32.ofInt (f 4)), .ref (ad 20 0), .ref (ad 21 0)])
  | 2 => .inr (1, [.ref (ad 12 i), .int (Int32.ofInt (f 1)), .int (Int32.ofInt (f 2)), .ref (ad 22 i), .ref (ad 23 i), .ref (ad 24 i), .ref (ad 25 i), .ref (ad 26 i)])
  | 3 => .inr (3, [.int (Int32.ofInt (f 0)), va_rf ((g 1).map (ad 4)), va_rf ((g 2).map (ad 5)), .int (Int32.ofInt (f 3)), .int (Int32.ofInt (f 4)), .int (Int32.ofInt (f 5)), .int (Int32.ofInt (f 6))])
  | 4 => .inr (4, [.int (Int32.ofInt (f 0)), .int (Int32.ofInt (f 1)), .ref (ad 30 i), .ref (ad 13 i), .int (Int32.ofInt (f 4)), .int (Int32.ofInt (f 5)), .int (Int32.ofInt (f 6)), .int (Int32.ofInt (f 7)), .int (Int32.ofInt (f 8)), .int (Int32.ofInt (f 9)), .long (Int64.ofInt (h 10))])
  | 5 => .inr (2, [.int (Int32.ofInt (f 0)), .int (Int32.ofInt (f 1)), .ref (ad 31 i), .int (Int32.ofInt (f 3)), .int (Int32.ofInt (f 4)), .int (Int32.ofInt (f 5))])
  | 6 => .inr (5, [.ref (ad 32 i), .int (Int32.ofInt (f 1))])
  | 10 => .inl (cA 5, 8, .inr (.inr (.inr (.inr (fun j => (g j).map (ad 4))))))
  | 11 => .inl (cA 6, 4, .inr (.inr (.inr (.inr (fun j => (g j).map (ad 6))))))
  | 12 => .inl (cA 7, 40, .inr (.inr (.inr (.inr (fun j => (g j).map (ad 3))))))
  | 13 => .inl (cA 8, 8, .inr (.inr (.inr (.inr (fun j => (g j).map (ad 5))))))
  | 20 => .inl (cA 0, 60, .inl (fun j => Int32.ofInt (f j)))
  | 21 => .inl (cA 0, 60, .inl (fun j => Int32.ofInt (f j)))
  | 22 => .inl (cA 0, 720, .inl (fun j => Int32.ofInt (f j)))
  | 23 => .inl (cA 0, 60, .inl (fun j => Int32.ofInt (f j)))
  | 24 => .inl (cA 0, 4, .inl (fun j => Int32.ofInt (f j)))
  | 25 => .inl (cA 0, 4, .inl (fun j => Int32.ofInt (f j)))
  | 26 => .inl (cA 0, 60, .inl (fun j => Int32.ofInt (f j)))
  | 27 => .inl (cA 0, 16, .inl (fun j => Int32.ofInt (f j)))
  | 28 => .inl (cA 0, 4, .inl (fun j => Int32.ofInt (f j)))
  | 29 => .inl (cA 0, 16, .inl (fun j => Int32.ofInt (f j)))
  | 30 => .inl (cA 0, 5, .inl (fun j => Int32.ofInt (f j)))
  | 31 => .inl (cA 0, 5, .inl (fun j => Int32.ofInt (f j)))
  | 32 => .inl (cA 0, 8, .inl (fun j => Int32.ofInt (f j)))
  | 40 => .inr (7, [.int (Int32.ofInt (f 0)), .int (Int32.ofInt (f 1)), .int (Int32.ofInt (f 2)), .int (Int32.ofInt (f 3)), .int (Int32.ofInt (f 4)), .int (Int32.ofInt (f 5)), .ref (ad 41 0), .int (Int32.ofInt (f 7)), .ref (ad 47 0), .ref (ad 42 0), .ref (ad 43 0), .ref (ad 48 0), .ref (ad 49 0), .ref (ad 50 0), .ref (ad 51 0), .ref (ad 44 0), .ref (ad 52 0), .int (Int32.ofInt (f 17)), .int (Int32.ofInt (f 18)), .ref (ad 53 0), .ref (ad 54 0), .ref (ad 55 0), .ref (ad 56 0), .ref (ad 57 0), .ref (ad 45 0), .ref (ad 58 0), .ref (ad 59 0), .ref (ad 60 0), .int (Int32.ofInt (f 28)), .ref (ad 61 0), .ref (ad 62 0), .int (Int32.ofInt (f 31)), .long (Int64.ofInt (h 32)), .int (Int32.ofInt (f 33)), .ref (ad 63 0), .ref (ad 64 0), .int (Int32.ofInt (f 36)), .int (Int32.ofInt (f 37)), .int (Int32.ofInt (f 38)), .int (Int32.ofInt (f 39)), .ref (ad 65 0), .int (Int32.ofInt (f 41)), .ref (ad 66 0), .ref (ad 67 0), .ref (ad 68 0), .ref (ad 69 0), .ref (ad 70 0), .ref (ad 46 0), .int (Int32.ofInt (f 48))])
  | 41 => .inl (cA 1, 720, .inl (fun j => Int32.ofInt (f j)))
  | 42 => .inl (cA 1, 8, .inl (fun j => Int32.ofInt (f j)))
  | 43 => .inl (cA 1, 200, .inl (fun j => Int32.ofInt (f j)))
  | 44 => .inl (cA 1, 8, .inl (fun j => Int32.ofInt (f j)))
  | 45 => .inl (cA 1, 40, .inl (fun j => Int32.ofInt (f j)))
  | 46 => .inl (cA 1, 40, .inl (fun j => Int32.ofInt (f j)))
  | 47 => .inl (cA 2, 8, .inl (fun j => Int32.ofInt (f j)))
  | 48 => .inl (cA 0, 8, .inl (fun j => Int32.ofInt (f j)))
  | 49 => .inl (cA 0, 8, .inl (fun j => Int32.ofInt (f j)))
  | 50 => .inl (cA 0, 8, .inl (fun j => Int32.ofInt (f j)))
  | 51 => .inl (cA 0, 8, .inl (fun j => Int32.ofInt (f j)))
  | 52 => .inl (cA 0, 16, .inl (fun j => Int32.ofInt (f j)))
  | 53 => .inl (cA 0, 40, .inl (fun j => Int32.ofInt (f j)))
  | 54 => .inl (cA 0, 40, .inl (fun j => Int32.ofInt (f j)))
  | 55 => .inl (cA 0, 40, .inl (fun j => Int32.ofInt (f j)))
  | 56 => .inl (cA 0, 40, .inl (fun j => Int32.ofInt (f j)))
  | 57 => .inl (cA 0, 40, .inl (fun j => Int32.ofInt (f j)))
  | 58 => .inl (cA 0, 720, .inl (fun j => Int32.ofInt (f j)))
  | 59 => .inl (cA 0, 4, .inl (fun j => Int32.ofInt (f j)))
  | 60 => .inl (cA 0, 4, .inl (fun j => Int32.ofInt (f j)))
  | 61 => .inl (cA 0, 32, .inl (fun j => Int32.ofInt (f j)))
  | 62 => .inl (cA 0, 4, .inl (fun j => Int32.ofInt (f j)))
  | 63 => .inl (cA 0, 25, .inl (fun j => Int32.ofInt (f j)))
  | 64 => .inl (cA 0, 25, .inl (fun j => Int32.ofInt (f j)))
  | 65 => .inl (cA 0, 4, .inl (fun j => Int32.ofInt (f j)))
  | 66 => .inl (cA 0, 40, .inl (fun j => Int32.ofInt (f j)))
  | 67 => .inl (cA 0, 40, .inl (fun j => Int32.ofInt (f j)))
  | 68 => .inl (cA 0, 40, .inl (fun j => Int32.ofInt (f j)))
  | 69 => .inl (cA 0, 40, .inl (fun j => Int32.ofInt (f j)))
  | 70 => .inl (cA 0, 40, .inl (fun j => Int32.ofInt (f j)))
  | 80 => .inl (cA 3, 1, .inr (.inl (fun j => Int64.ofInt (h j))))
  | 81 => .inl (cA 4, 1, .inr (.inr (.inr (.inl d))))
  | _ => .inl (cA 0, 0, .inl (fun _ => 0))

def cnt (ns nt : Nat) (k : Nat) : Nat := match k with
  | 0 => 1
  | 1 => 1
  | 10 => 1
  | 11 => 1
  | 20 => 1
  | 21 => 1
  | 27 => 1
  | 28 => 1
  | 29 => 1
  | 40 => 1
  | 41 => 1
  | 42 => 1
  | 43 => 1
  | 44 => 1
  | 45 => 1
  | 46 => 1
  | 47 => 1
  | 48 => 1
  | 49 => 1
  | 50 => 1
  | 51 => 1
  | 52 => 1
  | 53 => 1
  | 54 => 1
  | 55 => 1
  | 56 => 1
  | 57 => 1
  | 58 => 1
  | 59 => 1
  | 60 => 1
  | 61 => 1
  | 62 => 1
  | 63 => 1
  | 64 => 1
  | 65 => 1
  | 66 => 1
  | 67 => 1
  | 68 => 1
  | 69 => 1
  | 70 => 1
  | 80 => 1
  | 81 => 1
  | 2 => 2
  | 12 => 2
  | 22 => 2
  | 23 => 2
  | 24 => 2
  | 25 => 2
  | 26 => 2
  | 3 => 80
  | 4 => ns
  | 13 => ns
  | 30 => ns
  | 5 => 8 * ns
  | 31 => 8 * ns
  | 6 => nt
  | 32 => nt
  | _ => 0
def inD (ns nt : Nat) (k i : Nat) : Prop := i < cnt ns nt k

def strL : List (String × Nat × String) := [("CuttingRoom", 54, "the width or the stripe number is out of range"), ("CuttingRoom", 68, "the marker is not empty, or there are flaws"), ("CuttingRoom", 81, "the marker is not empty"), ("CuttingRoom", 90, "there is no such cell"), ("CuttingRoom", 98, "a piece of the marker would be on the flaw"), ("CuttingRoom", 104, "there are 12 flaws"), ("CuttingRoom", 121, "there is no such rule"), ("CuttingRoom", 126, "there are 8 shapes"), ("CuttingRoom", 174, "there is no such shape"), ("CuttingRoom", 135, "the row or the column is out of range"), ("CuttingRoom", 140, "the shape has this cell"), ("CuttingRoom", 150, "a piece of the shape is in the marker or was cut"), ("CuttingRoom", 158, "the group, the row or the column is out of range"), ("CuttingRoom", 160, "a piece of the shape is in the marker"), ("CuttingRoom", 197, "the number of turns is out of range"), ("CuttingRoom", 185, "the piece cannot be laid"), ("CuttingRoom", 191, "there are 40 pieces in the marker"), ("CuttingRoom", 205, "the piece can be laid nowhere"), ("CuttingRoom", 240, "there is no such piece in the marker"), ("CuttingRoom", 251, "no piece has this cell"), ("CuttingRoom", 256, "there is no such group"), ("CuttingRoom", 268, "there are no stripes, or no piece is of the group"), ("CuttingRoom", 276, "there are 4 styles"), ("CuttingRoom", 301, "there is no such style"), ("CuttingRoom", 283, "the count is out of range"), ("CuttingRoom", 291, "the style has this part, or a garment of it was made"), ("CuttingRoom", 344, "more than 4 pieces would be nested, or none"), ("CuttingRoom", 332, "the pieces can be nested in no order"), ("CuttingRoom", 360, "the length is out of range, or the roll would be too long"), ("CuttingRoom", 362, "the number of plies is out of range"), ("CuttingRoom", 364, "the marker is empty"), ("CuttingRoom", 370, "the roll is too short, or the stock would be too large"), ("CuttingRoom", 392, "a single shape has no mirrored pieces"), ("CuttingRoom", 306, "the style has no parts"), ("CuttingRoom", 422, "the number of garments is out of range"), ("CuttingRoom", 417, "there are too few pieces"), ("CuttingRoom", 428, "no number of plies is enough")]
def nestL : List (String × Nat × MethodName × String) := [("CuttingRoom$Cloth", 38, ⟨"CuttingRoom", "entry", "([II)I"⟩, "CuttingRoom"), ("CuttingRoom$Cloth", 42, ⟨"CuttingRoom", "hasBit", "(II)Z"⟩, "CuttingRoom"), ("CuttingRoom$Cloth", 46, ⟨"CuttingRoom", "store", "([III)V"⟩, "CuttingRoom"), ("CuttingRoom$Marker", 110, ⟨"CuttingRoom", "entry", "([II)I"⟩, "CuttingRoom"), ("CuttingRoom$Marker", 160, ⟨"CuttingRoom", "store", "([III)V"⟩, "CuttingRoom"), ("CuttingRoom$Shape", 36, ⟨"CuttingRoom", "entry", "([II)I"⟩, "CuttingRoom"), ("CuttingRoom$Shape", 40, ⟨"CuttingRoom", "hasBit", "(II)Z"⟩, "CuttingRoom"), ("CuttingRoom$Shape", 44, ⟨"CuttingRoom", "store", "([III)V"⟩, "CuttingRoom"), ("CuttingRoom$Outline", 29, ⟨"CuttingRoom", "entry", "([II)I"⟩, "CuttingRoom"), ("CuttingRoom$Outline", 33, ⟨"CuttingRoom", "hasBit", "(II)Z"⟩, "CuttingRoom"), ("CuttingRoom$Outline", 44, ⟨"CuttingRoom", "store", "([III)V"⟩, "CuttingRoom"), ("CuttingRoom$Outline", 48, ⟨"CuttingRoom", "firstBit", "(I)I"⟩, "CuttingRoom"), ("CuttingRoom$Outline", 52, ⟨"CuttingRoom", "endOfBits", "(I)I"⟩, "CuttingRoom"), ("CuttingRoom$Cloth", 71, ⟨"CuttingRoom", "isWithin", "(III)Z"⟩, "CuttingRoom"), ("CuttingRoom$Marker", 164, ⟨"CuttingRoom", "hasBit", "(II)Z"⟩, "CuttingRoom"), ("CuttingRoom$Outline", 64, ⟨"CuttingRoom", "isWithin", "(III)Z"⟩, "CuttingRoom")]
def castL : List (String × String) := [("java/lang/IllegalArgumentException", "java/lang/IllegalArgumentException"), ("java/lang/IllegalStateException", "java/lang/IllegalStateException"), ("java/lang/UnsupportedOperationException", "java/lang/UnsupportedOperationException"), ("java/lang/ArrayIndexOutOfBoundsException", "java/lang/ArrayIndexOutOfBoundsException"), ("java/lang/IndexOutOfBoundsException", "java/lang/IndexOutOfBoundsException"), ("java/util/NoSuchElementException", "java/util/NoSuchElementException"), ("java/lang/ArithmeticException", "java/lang/ArithmeticException"), ("java/lang/ArrayIndexOutOfBoundsException", "java/lang/IndexOutOfBoundsException"), ("CuttingRoom", "java/lang/Object"), ("CuttingRoom$Cloth", "java/lang/Object"), ("CuttingRoom$Marker", "java/lang/Object"), ("CuttingRoom$Piece", "java/lang/Object"), ("CuttingRoomModel", "java/lang/Object"), ("java/lang/IllegalArgumentException", "java/lang/Object"), ("java/lang/IllegalStateException", "java/lang/Object"), ("java/lang/UnsupportedOperationException", "java/lang/Object"), ("CuttingRoom$Shape", "java/lang/Object"), ("CuttingRoom$Outline", "java/lang/Object"), ("java/lang/ArrayIndexOutOfBoundsException", "java/lang/Object"), ("java/lang/IndexOutOfBoundsException", "java/lang/Object"), ("java/util/NoSuchElementException", "java/lang/Object"), ("CuttingRoom$Style", "java/lang/Object"), ("java/lang/ArithmeticException", "java/lang/Object"), ("java/lang/Throwable", "java/lang/Object"), ("java/lang/String", "java/lang/Object")]
def declL : List MethodName := [⟨"java/lang/RuntimeException", "<init>", "(Ljava/lang/String;)V"⟩, ⟨"java/lang/Exception", "<init>", "(Ljava/lang/String;)V"⟩, ⟨"java/lang/Throwable", "<init>", "(Ljava/lang/String;)V"⟩, ⟨"java/lang/IndexOutOfBoundsException", "<init>", "(Ljava/lang/String;)V"⟩]
def ncL : List (String × String) := [("CuttingRoom", "java/lang/IllegalArgumentException"), ("CuttingRoom$Cloth", "java/lang/IllegalArgumentException"), ("CuttingRoom$Marker", "java/lang/IllegalArgumentException"), ("CuttingRoom$Piece", "java/lang/IllegalArgumentException"), ("CuttingRoomModel", "java/lang/IllegalArgumentException"), ("java/lang/IllegalStateException", "java/lang/IllegalArgumentException"), ("java/lang/UnsupportedOperationException", "java/lang/IllegalArgumentException"), ("CuttingRoom$Shape", "java/lang/IllegalArgumentException"), ("CuttingRoom$Outline", "java/lang/IllegalArgumentException"), ("java/lang/ArrayIndexOutOfBoundsException", "java/lang/IllegalArgumentException"), ("java/lang/IndexOutOfBoundsException", "java/lang/IllegalArgumentException"), ("java/util/NoSuchElementException", "java/lang/IllegalArgumentException"), ("CuttingRoom$Style", "java/lang/IllegalArgumentException"), ("java/lang/ArithmeticException", "java/lang/IllegalArgumentException"), ("CuttingRoom", "java/lang/IllegalStateException"), ("CuttingRoom$Cloth", "java/lang/IllegalStateException"), ("CuttingRoom$Marker", "java/lang/IllegalStateException"), ("CuttingRoom$Piece", "java/lang/IllegalStateException"), ("CuttingRoomModel", "java/lang/IllegalStateException"), ("java/lang/IllegalArgumentException", "java/lang/IllegalStateException"), ("java/lang/UnsupportedOperationException", "java/lang/IllegalStateException"), ("CuttingRoom$Shape", "java/lang/IllegalStateException"), ("CuttingRoom$Outline", "java/lang/IllegalStateException"), ("java/lang/ArrayIndexOutOfBoundsException", "java/lang/IllegalStateException"), ("java/lang/IndexOutOfBoundsException", "java/lang/IllegalStateException"), ("java/util/NoSuchElementException", "java/lang/IllegalStateException"), ("CuttingRoom$Style", "java/lang/IllegalStateException"), ("java/lang/ArithmeticException", "java/lang/IllegalStateException"), ("CuttingRoom", "java/lang/UnsupportedOperationException"), ("CuttingRoom$Cloth", "java/lang/UnsupportedOperationException"), ("CuttingRoom$Marker", "java/lang/UnsupportedOperationException"), ("CuttingRoom$Piece", "java/lang/UnsupportedOperationException"), ("CuttingRoomModel", "java/lang/UnsupportedOperationException"), ("java/lang/IllegalArgumentException", "java/lang/UnsupportedOperationException"), ("java/lang/IllegalStateException", "java/lang/UnsupportedOperationException"), ("CuttingRoom$Shape", "java/lang/UnsupportedOperationException"), ("CuttingRoom$Outline", "java/lang/UnsupportedOperationException"), ("java/lang/ArrayIndexOutOfBoundsException", "java/lang/UnsupportedOperationException"), ("java/lang/IndexOutOfBoundsException", "java/lang/UnsupportedOperationException"), ("java/util/NoSuchElementException", "java/lang/UnsupportedOperationException"), ("CuttingRoom$Style", "java/lang/UnsupportedOperationException"), ("java/lang/ArithmeticException", "java/lang/UnsupportedOperationException"), ("CuttingRoom", "java/lang/IndexOutOfBoundsException"), ("CuttingRoom$Cloth", "java/lang/IndexOutOfBoundsException"), ("CuttingRoom$Marker", "java/lang/IndexOutOfBoundsException"), ("CuttingRoom$Piece", "java/lang/IndexOutOfBoundsException"), ("CuttingRoomModel", "java/lang/IndexOutOfBoundsException"), ("java/lang/IllegalArgumentException", "java/lang/IndexOutOfBoundsException"), ("java/lang/IllegalStateException", "java/lang/IndexOutOfBoundsException"), ("java/lang/UnsupportedOperationException", "java/lang/IndexOutOfBoundsException"), ("CuttingRoom$Shape", "java/lang/IndexOutOfBoundsException"), ("CuttingRoom$Outline", "java/lang/IndexOutOfBoundsException"), ("java/util/NoSuchElementException", "java/lang/IndexOutOfBoundsException"), ("CuttingRoom$Style", "java/lang/IndexOutOfBoundsException"), ("java/lang/ArithmeticException", "java/lang/IndexOutOfBoundsException"), ("CuttingRoom", "java/util/NoSuchElementException"), ("CuttingRoom$Cloth", "java/util/NoSuchElementException"), ("CuttingRoom$Marker", "java/util/NoSuchElementException"), ("CuttingRoom$Piece", "java/util/NoSuchElementException"), ("CuttingRoomModel", "java/util/NoSuchElementException"), ("java/lang/IllegalArgumentException", "java/util/NoSuchElementException"), ("java/lang/IllegalStateException", "java/util/NoSuchElementException"), ("java/lang/UnsupportedOperationException", "java/util/NoSuchElementException"), ("CuttingRoom$Shape", "java/util/NoSuchElementException"), ("CuttingRoom$Outline", "java/util/NoSuchElementException"), ("java/lang/ArrayIndexOutOfBoundsException", "java/util/NoSuchElementException"), ("java/lang/IndexOutOfBoundsException", "java/util/NoSuchElementException"), ("CuttingRoom$Style", "java/util/NoSuchElementException"), ("java/lang/ArithmeticException", "java/util/NoSuchElementException"), ("CuttingRoom", "java/lang/ArithmeticException"), ("CuttingRoom$Cloth", "java/lang/ArithmeticException"), ("CuttingRoom$Marker", "java/lang/ArithmeticException"), ("CuttingRoom$Piece", "java/lang/ArithmeticException"), ("CuttingRoomModel", "java/lang/ArithmeticException"), ("java/lang/IllegalArgumentException", "java/lang/ArithmeticException"), ("java/lang/IllegalStateException", "java/lang/ArithmeticException"), ("java/lang/UnsupportedOperationException", "java/lang/ArithmeticException"), ("CuttingRoom$Shape", "java/lang/ArithmeticException"), ("CuttingRoom$Outline", "java/lang/ArithmeticException"), ("java/lang/ArrayIndexOutOfBoundsException", "java/lang/ArithmeticException"), ("java/lang/IndexOutOfBoundsException", "java/lang/ArithmeticException"), ("java/util/NoSuchElementException", "java/lang/ArithmeticException"), ("CuttingRoom$Style", "java/lang/ArithmeticException")]

abbrev clT : List vw_C := [(RX0, TX0, 7), (RX1, TX1, 8), (RX2, TX2, 6), (RX3, TX3, 7), (RX4, TX4, 11), (RX5, TX5, 2), (RX6, TX6, 11), (RX7, TX7, 49)]
abbrev tysT (cA : Nat → ClassId) : List (ClassId × FieldType) := [(cA 0, .int), (cA 1, .boolean), (cA 2, .char), (cA 3, .long), (cA 4, .double), (cA 5, .object RX4), (cA 6, .object RX5), (cA 7, .object RX3), (cA 8, .object RX2)]
def GW : List Cond := lw_tbl.filter goodWord
theorem mG {i : Nat} {w : Cond} (h : lw_tbl[i]? = some w) (hg : goodWord w = true) : w ∈ GW := List.mem_filter.mpr ⟨List.mem_of_getElem? h, hg⟩
theorem GW_good {w : Cond} (h : w ∈ GW) : goodWord w = true := (List.mem_filter.mp h).2
def cM (cA : Nat → ClassId) (ad : Ads) (M : Mem) (k i : Nat) : va_E := cellG cA ad k i (M.1 k i) (M.2.1 k i) (M.2.2.1 k i) (M.2.2.2 k i)
def HW (D : va_G) (cA : Nat → ClassId) (b0 : Nat) (ad : Ads) (ns nt : Nat) (M : Mem) (H : Heap) : Prop :=
  (∀ k i, inD ns nt k i → va_at D clT (ad k i, cM cA ad M k i) H) ∧ (∀ k i k' i', inD ns nt k i → inD ns nt k' i' → ad k i = ad k' i' → k = k' ∧ i = i') ∧ ∀ k i, inD ns nt k i → b0 ≤ ad k i
theorem cnt_big (ns nt k : Nat) (h : 82 ≤ k) : cnt ns nt k = 0 := by
  unfold cnt
  split <;> first | rfl | omega
def idl (ns nt : Nat) : List (Nat × Nat) := (List.range 82).flatMap fun k => (List.range (cnt ns nt k)).map fun i => (k, i)
theorem idl_iff {ns nt k i : Nat} : (k, i) ∈ idl ns nt ↔ inD ns nt k i := by
  unfold idl inD
  rw [List.mem_flatMap]
  constructor
  · rintro ⟨k', h1, h2⟩
    obtain ⟨i', h3, h4⟩ := List.mem_map.mp h2
    cases h4
    exact List.mem_range.mp h3
  · intro h
    refine ⟨k, List.mem_range.mpr ?_, List.mem_map.mpr ⟨i, List.mem_range.mpr h, rfl⟩⟩
    rcases Nat.lt_or_ge k 82 with q | q
    · exact q
    · rw [cnt_big ns nt k q] at h
      exact absurd h (Nat.not_lt_zero i)
def wsM (cA : Nat → ClassId) (ad : Ads) (ns nt : Nat) (M : Mem) : va_W := (idl ns nt).map fun q => (ad q.1 q.2, cM cA ad M q.1 q.2)
theorem wsM_get {cA : Nat → ClassId} {ad : Ads} {ns nt : Nat} {M : Mem} {k i : Nat} (h : inD ns nt k i) : ∃ q0 : Nat, (wsM cA ad ns nt M)[q0]? = some (ad k i, cM cA ad M k i) :=
  List.getElem?_of_mem (List.mem_map.mpr ⟨(k, i), idl_iff.mpr h, rfl⟩)
theorem wsM_of {cA : Nat → ClassId} {ad : Ads} {ns nt : Nat} {M : Mem} {q0 : Nat} {q : Nat × va_E} (h : (wsM cA ad ns nt M)[q0]? = some q) : ∃ k i, inD ns nt k i ∧ (idl ns nt)[q0]? = some (k, i) ∧ q = (ad k i, cM cA ad M k i) := by
  unfold wsM at h
  rw [List.getElem?_map] at h
  obtain ⟨q1, h1, h2⟩ := Option.map_eq_some_iff.mp h
  exact ⟨q1.1, q1.2, idl_iff.mp (List.mem_of_getElem? h1), h1, h2.symm⟩
theorem HW_P {D : va_G} {cA : Nat → ClassId} {b0 : Nat} {ad : Ads} {ns nt : Nat} {M : Mem} {H : Heap} (hw : HW D cA b0 ad ns nt M H) : va_P D clT (wsM cA ad ns nt M) H := fun q0 q hq => by
  obtain ⟨k, i, h, -, rfl⟩ := wsM_of hq
  exact hw.1 k i h
theorem idl_nd (ns nt : Nat) : (idl ns nt).Nodup := by
  unfold idl List.Nodup
  rw [List.pairwise_flatMap]
  refine ⟨fun k _ => ?_, ?_⟩
  · rw [List.pairwise_map]
    exact List.Pairwise.imp (fun {a b} h e => h (Prod.mk.inj e).2) (List.nodup_range (n := cnt ns nt k))
  · refine List.Pairwise.imp (fun {a b} hab q1 h1 q2 h2 e => ?_) (List.nodup_range (n := 82))
    obtain ⟨i, -, rfl⟩ := List.mem_map.mp h1
    obtain ⟨i', -, rfl⟩ := List.mem_map.mp h2
    exact hab (Prod.mk.inj e).1
theorem HW_D {D : va_G} {cA : Nat → ClassId} {b0 : Nat} {ad : Ads} {ns nt : Nat} {M : Mem} {H : Heap} (hw : HW D cA b0 ad ns nt M H) : va_D (fun q => b0 ≤ q) (wsM cA ad ns nt M) := by
  refine ⟨fun a b p q hp hq e => ?_, fun q0 q hq => ?_⟩
  · obtain ⟨k, i, h, h1, rfl⟩ := wsM_of hp
    obtain ⟨k', i', h', h1', rfl⟩ := wsM_of hq
    obtain ⟨rfl, rfl⟩ := hw.2.1 _ _ _ _ h h' e
    exact (List.getElem?_inj (List.getElem?_eq_some_iff.mp h1).1 (idl_nd ns nt)).mp (h1.trans h1'.symm)
  · obtain ⟨k, i, h, -, rfl⟩ := wsM_of hq
    exact hw.2.2 k i h
theorem HW_put {D : va_G} {cA : Nat → ClassId} {b0 : Nat} {ad : Ads} {ns nt : Nat} {M M' : Mem} {H H1 : Heap} {k i q0 : Nat} {e0 : va_E} (hw : HW D cA b0 ad ns nt M H) (hin : inD ns nt k i) (hq : (wsM cA ad ns nt M)[q0]? = some (ad k i, e0))
    (h1 : va_P D clT ((wsM cA ad ns nt M).set q0 (ad k i, cM cA ad M' k i)) H1) (hM : ∀ k' i', ¬ (k' = k ∧ i' = i) → cM cA ad M' k' i' = cM cA ad M k' i') : HW D cA b0 ad ns nt M' H1 := by
  refine ⟨fun k' i' h' => ?_, hw.2.1, hw.2.2⟩
  have hlt : q0 < (wsM cA ad ns nt M).length := (List.getElem?_eq_some_iff.mp hq).1
  by_cases hk : k' = k ∧ i' = i
  · obtain ⟨rfl, rfl⟩ := hk
    exact h1 q0 _ (by rw [List.getElem?_set_self hlt])
  · obtain ⟨q1, hq1⟩ := wsM_get (cA := cA) (ad := ad) (M := M) h'
    have hne : q0 ≠ q1 := fun e => by
      subst e
      have h2 := congrArg Prod.fst (Option.some.inj (hq.symm.trans hq1))
      have h3 := hw.2.1 k i k' i' hin h' h2
      exact hk ⟨h3.1.symm, h3.2.symm⟩
    rw [hM k' i' hk]
    exact h1 q1 _ (by rw [List.getElem?_set_ne hne]; exact hq1)
def up1 {α : Type} (f : Nat → α) (s : Nat) (v : α) : Nat → α := fun j => if j = s then v else f j
def up3 {α : Type} (f : Nat → Nat → Nat → α) (k i s : Nat) (v : α) : Nat → Nat → Nat → α := fun k' i' s' => if k' = k ∧ i' = i ∧ s' = s then v else f k' i' s'
theorem up3_on {α : Type} (f : Nat → Nat → Nat → α) (k i s : Nat) (v : α) : up3 f k i s v k i = up1 (f k i) s v := by
  funext j
  simp [up3, up1]
theorem up3_off {α : Type} (f : Nat → Nat → Nat → α) {k i k' i' : Nat} (s : Nat) (v : α) (h : ¬ (k' = k ∧ i' = i)) : up3 f k i s v k' i' = f k' i' := by
  funext j
  exact if_neg (fun e => h ⟨e.1, e.2.1⟩)
def uI (M : Mem) (k i s : Nat) (v : Int) : Mem := (up3 M.1 k i s v, M.2)
def uR (M : Mem) (k i s : Nat) (v : Option Nat) : Mem := (M.1, up3 M.2.1 k i s v, M.2.2)
def uL (M : Mem) (k i s : Nat) (v : Int) : Mem := (M.1, M.2.1, up3 M.2.2.1 k i s v, M.2.2.2)
def uD (M : Mem) (k i s : Nat) (v : UInt64) : Mem := (M.1, M.2.1, M.2.2.1, up3 M.2.2.2 k i s v)
theorem uI_on (cA : Nat → ClassId) (ad : Ads) (M : Mem) (k i s : Nat) (v : Int) : cM cA ad (uI M k i s v) k i = cellG cA ad k i (up1 (M.1 k i) s v) (M.2.1 k i) (M.2.2.1 k i) (M.2.2.2 k i) := by
  show cellG cA ad k i (up3 M.1 k i s v k i) _ _ _ = _
  rw [up3_on]
  rfl
theorem uI_off (cA : Nat → ClassId) (ad : Ads) (M : Mem) {k i : Nat} (s : Nat) (v : Int) : ∀ k' i', ¬ (k' = k ∧ i' = i) → cM cA ad (uI M k i s v) k' i' = cM cA ad M k' i' := fun k' i' h => by
  show cellG cA ad k' i' (up3 M.1 k i s v k' i') _ _ _ = _
  rw [up3_off _ s v h]
  rfl
theorem uR_on (cA : Nat → ClassId) (ad : Ads) (M : Mem) (k i s : Nat) (v : Option Nat) : cM cA ad (uR M k i s v) k i = cellG cA ad k i (M.1 k i) (up1 (M.2.1 k i) s v) (M.2.2.1 k i) (M.2.2.2 k i) := by
  show cellG cA ad k i _ (up3 M.2.1 k i s v k i) _ _ = _
  rw [up3_on]
  rfl
theorem uR_off (cA : Nat → ClassId) (ad : Ads) (M : Mem) {k i : Nat} (s : Nat) (v : Option Nat) : ∀ k' i', ¬ (k' = k ∧ i' = i) → cM cA ad (uR M k i s v) k' i' = cM cA ad M k' i' := fun k' i' h => by
  show cellG cA ad k' i' _ (up3 M.2.1 k i s v k' i') _ _ = _
  rw [up3_off _ s v h]
  rfl
theorem uL_on (cA : Nat → ClassId) (ad : Ads) (M : Mem) (k i s : Nat) (v : Int) : cM cA ad (uL M k i s v) k i = cellG cA ad k i (M.1 k i) (M.2.1 k i) (up1 (M.2.2.1 k i) s v) (M.2.2.2 k i) := by
  show cellG cA ad k i _ _ (up3 M.2.2.1 k i s v k i) _ = _
  rw [up3_on]
  rfl
theorem uL_off (cA : Nat → ClassId) (ad : Ads) (M : Mem) {k i : Nat} (s : Nat) (v : Int) : ∀ k' i', ¬ (k' = k ∧ i' = i) → cM cA ad (uL M k i s v) k' i' = cM cA ad M k' i' := fun k' i' h => by
  show cellG cA ad k' i' _ _ (up3 M.2.2.1 k i s v k' i') _ = _
  rw [up3_off _ s v h]
  rfl
theorem uD_on (cA : Nat → ClassId) (ad : Ads) (M : Mem) (k i s : Nat) (v : UInt64) : cM cA ad (uD M k i s v) k i = cellG cA ad k i (M.1 k i) (M.2.1 k i) (M.2.2.1 k i) (up1 (M.2.2.2 k i) s v) := by
  show cellG cA ad k i _ _ _ (up3 M.2.2.2 k i s v k i) = _
  rw [up3_on]
  rfl
theorem uD_off (cA : Nat → ClassId) (ad : Ads) (M : Mem) {k i : Nat} (s : Nat) (v : UInt64) : ∀ k' i', ¬ (k' = k ∧ i' = i) → cM cA ad (uD M k i s v) k' i' = cM cA ad M k' i' := fun k' i' h => by
  show cellG cA ad k' i' _ _ _ (up3 M.2.2.2 k i s v k' i') = _
  rw [up3_off _ s v h]
  rfl
/-! what a start gives beside the memory -/
def CaP (C T : String) (U : State) : Prop := ∃ c t : ClassId, U.vm.findClass C = some c ∧ U.vm.findClass T = some t ∧ U.vm.assignable c t = true
theorem CaP.moved {C T : String} {u U : State} (hvm : u.vm.Alike U.vm) (h : CaP C T u) : CaP C T U := by
  obtain ⟨c, t, h1, h2, h3⟩ := h
  exact ⟨c, t, by rw [hvm.findClass]; exact h1, by rw [hvm.findClass]; exact h2, by rw [hvm.assignable]; exact h3⟩
theorem CaP.use {C T : String} {args : Array Value} {U : State} (h : CaP C T U) : (Cond.castable C T).before args U = true := by
  obtain ⟨c, t, h1, h2, h3⟩ := h
  simp [Cond.before, Cond.holds, Cond.value, h1, h2, h3]
def EV (D : va_G) (cA : Nat → ClassId) (b0 : Nat) (U : State) : Prop :=
  va_K D clT (tysT cA) U ∧ vx_Zq Bundle.tN "UNASSIGNED_STACK" Bundle.steD (fun q => b0 ≤ q) U U.heap ∧ vx_Zq Bundle.tN "SUPPRESSED_SENTINEL" Bundle.listD (fun q => b0 ≤ q) U U.heap ∧ b0 ≤ U.heap.size ∧
  (∀ q ∈ strL, ∃ a, vk_R q.1 q.2.1 q.2.2 a U) ∧ (∀ q ∈ nestL, va_Nw (.methodLinkNest q.1 q.2.1 q.2.2.1 q.2.2.2) U) ∧ (∀ q ∈ castL, CaP q.1 q.2 U) ∧ (∀ q ∈ ncL, va_Nc q.1 q.2 U) ∧ ∀ x ∈ declL, va_Nw (.declares x) U
theorem EV.same {D : va_G} {cA : Nat → ClassId} {b0 : Nat} {u U : State} (hv : U.vm = u.vm) (hh : U.heap = u.heap) (h : EV D cA b0 u) : EV D cA b0 U := by
  obtain ⟨h1, h2, h3, h4, h5, h6, h7, h8, h9⟩ := h
  have ha : u.vm.Alike U.vm := by rw [hv]; exact Vm.Alike.refl u.vm
  refine ⟨va_K.moved ha h1, ?_, ?_, by rw [hh]; exact h4, fun q hq => ?_, fun q hq => va_Nw.same rfl hv.symm (h6 q hq), fun q hq => CaP.moved ha (h7 q hq), fun q hq => va_Nc.moved ha (h8 q hq), fun x hx => va_Nw.same rfl hv.symm (h9 x hx)⟩
  · rw [hh]; exact vx_Zq.moved ha h2
  · rw [hh]; exact vx_Zq.moved ha h3
  · obtain ⟨a, k⟩ := h5 q hq
    exact ⟨a, vk_R.same hv k⟩
theorem EV.warm {D : va_G} {cA : Nat → ClassId} {b0 : Nat} {s U : State} {locs : List Loc} (hW : s.WarmedH U.vm) (hS : va_S (fun q => b0 ≤ q) s.heap U.heap locs) (h : EV D cA b0 s) : EV D cA b0 U := by
  obtain ⟨h1, h2, h3, h4, h5, h6, h7, h8, h9⟩ := h
  refine ⟨va_K.moved hW.alike h1, vx_Zq.moved hW.alike (h2.kept hS.2.1), vx_Zq.moved hW.alike (h3.kept hS.2.1), Nat.le_trans h4 hS.1, fun q hq => ?_, fun q hq => va_Nw.warmM hW (h6 q hq), fun q hq => CaP.moved hW.alike (h7 q hq), fun q hq => va_Nc.moved hW.alike (h8 q hq), fun x hx => va_Nw.warmD hW (h9 x hx)⟩
  obtain ⟨a, k⟩ := h5 q hq
  exact ⟨a, vk_R.warm hW k⟩
def Cx (l : Launch) (p : Program) (s : State) (m : MethodId) (args : Array Value) (meth : Method) (c : Code) (cc : ByteArray) (own : String) (nL : Nat) (D : va_G) (cA : Nat → ClassId) (b0 : Nat) (tab : List ExceptionTableEntry) : Prop :=
  p.tables.exec = Jvm.exec ∧ c.code = cc ∧ c.maxLocals = nL ∧ s.vm.findClass own = some m.cls ∧ (∀ w ∈ GW, w.before args s = true) ∧ meth.locks = false ∧ l.stackTraces = false ∧ EV D cA b0 s ∧ c.exceptionTable.toList = tab
abbrev PT : Type := Option AV → Mem → Prop
abbrev PX : Type := String → Mem → Prop
def mQ (D : va_G) (cA : Nat → ClassId) (b0 : Nat) (ad : Ads) (ns nt : Nat) (P : PT) : Array Value → State → Outcome → State → Prop := fun _ st oc t => ∃ (r : Option AV) (M : Mem), oc = .returned (r.map (tv ad)) ∧ P r M ∧ HW D cA b0 ad ns nt M t.heap ∧ va_F (fun q => b0 ≤ q) st t
def mX (D : va_G) (cA : Nat → ClassId) (b0 : Nat) (ad : Ads) (ns nt : Nat) (X : PX) : String → State → State → Prop := fun E st t => ∃ M : Mem, X E M ∧ HW D cA b0 ad ns nt M t.heap ∧ va_F (fun q => b0 ≤ q) st t
def rmd (d mc ms : Nat) : Room := { frames := d, cells := mc, slots := ms, locals := 40 * d }
def Con (l : Launch) (b0 : Nat) (y : MethodName) (cc : ByteArray) (nL : Nat) (ret : Option FieldType) (d mc ms : Nat) (as : List AV) (ad : Ads) (ns nt : Nat) (M : Mem) (P : PT) (X : PX) : Prop :=
  ∀ (D : va_G) (cA : Nat → ClassId), vx_Met l y (.code y cc nL ret :: GW) (rmd d mc ms) (va_Pc (as.map (tv ad)) (fun U => HW D cA b0 ad ns nt M U.heap ∧ EV D cA b0 U)) (mQ D cA b0 ad ns nt P) (mX D cA b0 ad ns nt X) mc ms (fun q => b0 ≤ q)
def Wm (p : Program) (l : Launch) (e : Env) (R : Room) (s : State) (m : MethodId) (args : Array Value) (below : List Frame) (meth : Method) (c : Code) (nL : Nat) (D : va_G) (cA : Nat → ClassId) (b0 cells slots : Nat) (Q : State → Prop) (pc : Nat) (lv : Lv) (st : List AV) (ad : Ads) (ns nt : Nat) (M : Mem) : Prop :=
  ∀ (H : Heap) (locs : List Loc) (ls : Array Slot), HW D cA b0 ad ns nt M H → va_S (fun q => b0 ≤ q) s.heap H locs → lv_has ls nL (lvm ad lv) → W p l e R s m args below meth c H locs cells slots Q (F0 m pc ls (st.map (tv ad)))
/-! numbers -/
theorem e32 {x : Int} (h : -2147483648 ≤ x ∧ x ≤ 2147483647) : (Int32.ofInt x).toInt = x := Int32.toInt_ofInt_of_le (by omega) (by omega)
theorem e64 {x : Int} (h : -9223372036854775808 ≤ x ∧ x ≤ 9223372036854775807) : (Int64.ofInt x).toInt = x := Int64.toInt_ofInt_of_le (by omega) (by omega)
theorem e32_eq {x y : Int} (hx : -2147483648 ≤ x ∧ x ≤ 2147483647) (hy : -2147483648 ≤ y ∧ y ≤ 2147483647) : Int32.ofInt x = Int32.ofInt y ↔ x = y := by
  rw [← Int32.toInt_inj, e32 hx, e32 hy]
theorem e32_lt {x y : Int} (hx : -2147483648 ≤ x ∧ x ≤ 2147483647) (hy : -2147483648 ≤ y ∧ y ≤ 2147483647) : Int32.ofInt x < Int32.ofInt y ↔ x < y := by
  rw [Int32.lt_iff_toInt_lt, e32 hx, e32 hy]
theorem e32_le {x y : Int} (hx : -2147483648 ≤ x ∧ x ≤ 2147483647) (hy : -2147483648 ≤ y ∧ y ≤ 2147483647) : Int32.ofInt x ≤ Int32.ofInt y ↔ x ≤ y := by
  rw [Int32.le_iff_toInt_le, e32 hx, e32 hy]
theorem z32 : (0 : Int32) = Int32.ofInt 0 := rfl
theorem ix_in {z : Int} {n : Nat} (h : 0 ≤ z ∧ z < n) (hn : n ≤ 2147483647) : vp_in (Int32.ofInt z) n ∧ (Int32.ofInt z).toNatClampNeg = z.toNat := by
  have e : (Int32.ofInt z).toInt = z := e32 (by omega)
  have e2 : (Int32.ofInt z).toNatClampNeg = z.toNat := by
    show (Int32.ofInt z).toInt.toNat = _
    rw [e]
  refine ⟨?_, e2⟩
  rw [vp_in_iff, e]
  exact h
end
section
/-! more numbers -/
theorem fa_and (a b : Nat) : nI a &&& nI b = nI (a &&& b) := by
  apply Int32.toBitVec_inj.1
  show BitVec.ofNat 32 a &&& BitVec.ofNat 32 b = BitVec.ofNat 32 (a &&& b)
  apply BitVec.eq_of_getLsbD_eq
  intro i hi
  simp [hi]
theorem fa_or (a b : Nat) : nI a ||| nI b = nI (a ||| b) := by
  apply Int32.toBitVec_inj.1
  show BitVec.ofNat 32 a ||| BitVec.ofNat 32 b = BitVec.ofNat 32 (a ||| b)
  apply BitVec.eq_of_getLsbD_eq
  intro i hi
  simp [hi]
/-- a remainder by a power of two, as a mask -/
theorem e32_div {x y : Int} (hx : 0 ≤ x ∧ x ≤ 2147483647) (hy : 0 < y ∧ y ≤ 2147483647) : Int32.ofInt x / Int32.ofInt y = Int32.ofInt (x / y) := by
  have h := Int32.ofInt_tdiv (a := x) (b := y) (by show -2147483648 ≤ x; omega) (by show x ≤ 2147483647; omega) (by show -2147483648 ≤ y; omega) (by show y ≤ 2147483647; omega)
  rw [← h, Int.tdiv_eq_ediv_of_nonneg hx.1]
theorem e32_mod {x y : Int} : x - x / y * y = x % y := by
  have h := Int.emod_def x y
  rw [h, Int.mul_comm]
theorem e32_n (n : Nat) : Int32.ofInt (n : Int) = nI n := Int32.ofInt_eq_ofNat
theorem e32_and {a b : Nat} (ha : a < 2147483648) (hb : b < 2147483648) : Int32.ofInt (a : Int) &&& Int32.ofInt (b : Int) = Int32.ofInt ((a &&& b : Nat) : Int) := by
  rw [e32_n, e32_n, e32_n]
  exact fa_and a b
theorem e32_or {a b : Nat} (ha : a < 2147483648) (hb : b < 2147483648) : Int32.ofInt (a : Int) ||| Int32.ofInt (b : Int) = Int32.ofInt ((a ||| b : Nat) : Int) := by
  rw [e32_n, e32_n, e32_n]
  exact fa_or a b
theorem e32_s : ∀ n, n < 32 → ((nI n &&& 31).toBitVec.smod 32).toNat = n := by decide +kernel
theorem e32_shl {a b : Nat} (hb : b < 32) : Int32.ofInt (a : Int) <<< (Int32.ofInt (b : Int) &&& 31) = Int32.ofInt ((a * 2 ^ b : Nat) : Int) := by
  rw [e32_n, e32_n, e32_n]
  refine Int32.toBitVec_inj.mp (BitVec.eq_of_toNat_eq ?_)
  rw [pk_shl (nI a) (nI b &&& 31) b (e32_s b hb)]
  show (BitVec.ofNat 32 a).toNat * 2 ^ b % 2 ^ 32 = (BitVec.ofNat 32 (a * 2 ^ b)).toNat
  rw [BitVec.toNat_ofNat, BitVec.toNat_ofNat, Nat.mod_mul_mod]
theorem e32_shr {a b : Nat} (ha : a < 2147483648) (hb : b < 32) : Int32.ofInt (a : Int) >>> (Int32.ofInt (b : Int) &&& 31) = Int32.ofInt ((a / 2 ^ b : Nat) : Int) := by
  rw [e32_n, e32_n, e32_n]
  exact pk_shrN ha (nI b &&& 31) b (e32_s b hb)
theorem e32_l {x : Int} (hx : -2147483648 ≤ x ∧ x ≤ 2147483647) : (Int32.ofInt x).toInt64 = Int64.ofInt x := Int32.toInt64_ofInt hx.1 hx.2
theorem e32_c (x : Int) : ((Int32.ofInt x).toUInt32 % 65536).toInt32 = Int32.ofInt (x % 65536) := by
  rw [pk_char]
  have h : ((x % 65536).toNat : Int) = x % 65536 := Int.toNat_of_nonneg (Int.emod_nonneg x (by decide))
  rw [← h, e32_n]
  congr 1
  show (BitVec.ofInt 32 x).toNat % 65536 = (x % 65536).toNat
  rw [BitVec.toNat_ofInt]
  omega
theorem e64_cmp {x y : Int} (hx : -9223372036854775808 ≤ x ∧ x ≤ 9223372036854775807) (hy : -9223372036854775808 ≤ y ∧ y ≤ 9223372036854775807) : lg_cmp (Int64.ofInt x) (Int64.ofInt y) = Int32.ofInt (if x < y then -1 else if x = y then 0 else 1) := by
  unfold lg_cmp
  simp only [gt_iff_lt, Int64.lt_iff_toInt_lt, ← Int64.toInt_inj, e64 hx, e64 hy]
  by_cases h1 : y < x
  · rw [if_pos h1, if_neg (by omega), if_neg (by omega)]; rfl
  · by_cases h2 : x = y
    · rw [if_neg h1, if_pos h2, if_neg (by omega), if_pos h2]; rfl
    · rw [if_neg h1, if_neg h2, if_pos (by omega)]; rfl
section Rows
variable {p : Program} {l : Launch} {e : Env} {R : Room} {s : State} {m : MethodId} {args : Array Value} {below : List Frame} {meth : Method} {c : Code} {nL : Nat} {D : va_G} {cA : Nat → ClassId} {b0 cells slots : Nat} {Q : State → Prop} {lv : Lv} {st : List AV} {ad : Ads} {ns nt : Nat} {M : Mem} {cc : ByteArray} {own : String} {tab : List ExceptionTableEntry} {pc pc' : Nat}
theorem w_iconst (C : Cx l p s m args meth c cc own nL D cA b0 tab) {n : Int} (hd : DI cc pc (.iconst n) 1 pc') (kk : Wm p l e R s m args below meth c nL D cA b0 cells slots Q pc' lv (aI n :: st) ad ns nt M) : Wm p l e R s m args below meth c nL D cA b0 cells slots Q pc lv st ad ns nt M := fun H locs ls hw hS hl => lv_iconst C.1 C.2.1 hd.1 rfl (by have k := kk H locs ls hw hS hl; rw [← hd.2] at k; exact k)
theorem w_bipush (C : Cx l p s m args meth c cc own nL D cA b0 tab) {n v : Int} (hd : DI cc pc (.bipush n) 2 pc') (hv : (Int8.ofInt n).toInt32 = Int32.ofInt v) (kk : Wm p l e R s m args below meth c nL D cA b0 cells slots Q pc' lv (aI v :: st) ad ns nt M) : Wm p l e R s m args below meth c nL D cA b0 cells slots Q pc lv st ad ns nt M := fun H locs ls hw hS hl => lv_bipush C.1 C.2.1 hd.1 hv (by have k := kk H locs ls hw hS hl; rw [← hd.2] at k; exact k)
theorem w_sipush (C : Cx l p s m args meth c cc own nL D cA b0 tab) {n v : Int} (hd : DI cc pc (.sipush n) 3 pc') (hv : (Int16.ofInt n).toInt32 = Int32.ofInt v) (kk : Wm p l e R s m args below meth c nL D cA b0 cells slots Q pc' lv (aI v :: st) ad ns nt M) : Wm p l e R s m args below meth c nL D cA b0 cells slots Q pc lv st ad ns nt M := fun H locs ls hw hS hl => lv_sipush C.1 C.2.1 hd.1 hv (by have k := kk H locs ls hw hS hl; rw [← hd.2] at k; exact k)
theorem w_lconst (C : Cx l p s m args meth c cc own nL D cA b0 tab) {n : Fin 2} (hd : DI cc pc (.lconst n) 1 pc') (kk : Wm p l e R s m args below meth c nL D cA b0 cells slots Q pc' lv (aL (n : Nat) :: st) ad ns nt M) : Wm p l e R s m args below meth c nL D cA b0 cells slots Q pc lv st ad ns nt M := fun H locs ls hw hS hl => lv_lconst C.1 C.2.1 hd.1 rfl (by have k := kk H locs ls hw hS hl; rw [← hd.2] at k; exact k)
theorem w_ldc (C : Cx l p s m args meth c cc own nL D cA b0 tab) {ix : Nat} {v : Int} (hd : DI cc pc (.ldc ix) 2 pc') (hc : Cond.constant own ix (Int32.ofInt v) ∈ GW) (kk : Wm p l e R s m args below meth c nL D cA b0 cells slots Q pc' lv (aI v :: st) ad ns nt M) : Wm p l e R s m args below meth c nL D cA b0 cells slots Q pc lv st ad ns nt M := fun H locs ls hw hS hl => lv_ldc C.1 C.2.1 C.2.2.2.1 (C.2.2.2.2.1 _ hc) hd.1 (by have k := kk H locs ls hw hS hl; rw [← hd.2] at k; exact k)
theorem w_ldcw (C : Cx l p s m args meth c cc own nL D cA b0 tab) {ix : Nat} {v : Int} (hd : DI cc pc (.ldc_w ix) 3 pc') (hc : Cond.constant own ix (Int32.ofInt v) ∈ GW) (kk : Wm p l e R s m args below meth c nL D cA b0 cells slots Q pc' lv (aI v :: st) ad ns nt M) : Wm p l e R s m args below meth c nL D cA b0 cells slots Q pc lv st ad ns nt M := fun H locs ls hw hS hl => lv_ldcw C.1 C.2.1 C.2.2.2.1 (C.2.2.2.2.1 _ hc) hd.1 (by have k := kk H locs ls hw hS hl; rw [← hd.2] at k; exact k)
theorem w_iload_n (C : Cx l p s m args meth c cc own nL D cA b0 tab) {k : Fin 4} {x : Int} (hd : DI cc pc (.iload_n k) 1 pc') (hv : lget lv k = some (aI x)) (kk : Wm p l e R s m args below meth c nL D cA b0 cells slots Q pc' lv (aI x :: st) ad ns nt M) : Wm p l e R s m args below meth c nL D cA b0 cells slots Q pc lv st ad ns nt M := fun H locs ls hw hS hl => lv_iload_n C.1 C.2.1 hd.1 rfl (lget_has hl hv) (by have k := kk H locs ls hw hS hl; rw [← hd.2] at k; exact k)
theorem w_iload (C : Cx l p s m args meth c cc own nL D cA b0 tab) {i : Nat} {x : Int} (hd : DI cc pc (.iload i) 2 pc') (hv : lget lv i = some (aI x)) (kk : Wm p l e R s m args below meth c nL D cA b0 cells slots Q pc' lv (aI x :: st) ad ns nt M) : Wm p l e R s m args below meth c nL D cA b0 cells slots Q pc lv st ad ns nt M := fun H locs ls hw hS hl => lv_iload C.1 C.2.1 hd.1 (lget_has hl hv) (by have k := kk H locs ls hw hS hl; rw [← hd.2] at k; exact k)
theorem w_lload_n (C : Cx l p s m args meth c cc own nL D cA b0 tab) {k : Fin 4} {x : Int} (hd : DI cc pc (.lload_n k) 1 pc') (hv : lget lv k = some (aL x)) (kk : Wm p l e R s m args below meth c nL D cA b0 cells slots Q pc' lv (aL x :: st) ad ns nt M) : Wm p l e R s m args below meth c nL D cA b0 cells slots Q pc lv st ad ns nt M := fun H locs ls hw hS hl => lv_lload_n C.1 C.2.1 hd.1 rfl (lget_has hl hv) (by have k := kk H locs ls hw hS hl; rw [← hd.2] at k; exact k)
theorem w_lload (C : Cx l p s m args meth c cc own nL D cA b0 tab) {i : Nat} {x : Int} (hd : DI cc pc (.lload i) 2 pc') (hv : lget lv i = some (aL x)) (kk : Wm p l e R s m args below meth c nL D cA b0 cells slots Q pc' lv (aL x :: st) ad ns nt M) : Wm p l e R s m args below meth c nL D cA b0 cells slots Q pc lv st ad ns nt M := fun H locs ls hw hS hl => lv_lload C.1 C.2.1 hd.1 (lget_has hl hv) (by have k := kk H locs ls hw hS hl; rw [← hd.2] at k; exact k)
theorem w_fload (C : Cx l p s m args meth c cc own nL D cA b0 tab) {i : Nat} {x : UInt32} (hd : DI cc pc (.fload i) 2 pc') (hv : lget lv i = some (aF x)) (kk : Wm p l e R s m args below meth c nL D cA b0 cells slots Q pc' lv (aF x :: st) ad ns nt M) : Wm p l e R s m args below meth c nL D cA b0 cells slots Q pc lv st ad ns nt M := fun H locs ls hw hS hl => lv_fload C.1 C.2.1 hd.1 (lget_has hl hv) (by have k := kk H locs ls hw hS hl; rw [← hd.2] at k; exact k)
theorem w_dload (C : Cx l p s m args meth c cc own nL D cA b0 tab) {i : Nat} {x : UInt64} (hd : DI cc pc (.dload i) 2 pc') (hv : lget lv i = some (aD x)) (kk : Wm p l e R s m args below meth c nL D cA b0 cells slots Q pc' lv (aD x :: st) ad ns nt M) : Wm p l e R s m args below meth c nL D cA b0 cells slots Q pc lv st ad ns nt M := fun H locs ls hw hS hl => lv_dload C.1 C.2.1 hd.1 (lget_has hl hv) (by have k := kk H locs ls hw hS hl; rw [← hd.2] at k; exact k)
theorem w_aload_n (C : Cx l p s m args meth c cc own nL D cA b0 tab) {k : Fin 4} {r : Option (Nat × Nat)} (hd : DI cc pc (.aload_n k) 1 pc') (hv : lget lv k = some (aR r)) (kk : Wm p l e R s m args below meth c nL D cA b0 cells slots Q pc' lv (aR r :: st) ad ns nt M) : Wm p l e R s m args below meth c nL D cA b0 cells slots Q pc lv st ad ns nt M := by
  intro H locs ls hw hS hl
  have k := kk H locs ls hw hS hl
  rw [← hd.2] at k
  cases r with
  | none => exact lv_aload_nN C.1 C.2.1 hd.1 rfl (lget_has hl hv) k
  | some q => exact lv_aload_n C.1 C.2.1 hd.1 rfl (lget_has hl hv) k
theorem w_aload (C : Cx l p s m args meth c cc own nL D cA b0 tab) {i : Nat} {r : Option (Nat × Nat)} (hd : DI cc pc (.aload i) 2 pc') (hv : lget lv i = some (aR r)) (kk : Wm p l e R s m args below meth c nL D cA b0 cells slots Q pc' lv (aR r :: st) ad ns nt M) : Wm p l e R s m args below meth c nL D cA b0 cells slots Q pc lv st ad ns nt M := by
  intro H locs ls hw hS hl
  have k := kk H locs ls hw hS hl
  rw [← hd.2] at k
  cases r with
  | none => exact lv_aloadN C.1 C.2.1 hd.1 (lget_has hl hv) k
  | some q => exact lv_aload C.1 C.2.1 hd.1 (lget_has hl hv) k
theorem w_istore_n (C : Cx l p s m args meth c cc own nL D cA b0 tab) {k : Fin 4} {x : Int} (hd : DI cc pc (.istore_n k) 1 pc') (hn : (k : Nat) < nL) (kk : Wm p l e R s m args below meth c nL D cA b0 cells slots Q pc' (lset lv k (aI x)) st ad ns nt M) : Wm p l e R s m args below meth c nL D cA b0 cells slots Q pc lv (aI x :: st) ad ns nt M := fun H locs ls hw hS hl => lv_istore_n C.1 C.2.1 hd.1 rfl hl hn (lvm_lset ad lv k (aI x)) (fun ls1 hl1 => by have k := kk H locs ls1 hw hS hl1; rw [← hd.2] at k; exact k)
theorem w_istore (C : Cx l p s m args meth c cc own nL D cA b0 tab) {i : Nat} {x : Int} (hd : DI cc pc (.istore i) 2 pc') (hn : i < nL) (kk : Wm p l e R s m args below meth c nL D cA b0 cells slots Q pc' (lset lv i (aI x)) st ad ns nt M) : Wm p l e R s m args below meth c nL D cA b0 cells slots Q pc lv (aI x :: st) ad ns nt M := fun H locs ls hw hS hl => lv_istore C.1 C.2.1 hd.1 hl hn (lvm_lset ad lv i (aI x)) (fun ls1 hl1 => by have k := kk H locs ls1 hw hS hl1; rw [← hd.2] at k; exact k)
theorem w_lstore_n (C : Cx l p s m args meth c cc own nL D cA b0 tab) {k : Fin 4} {x : Int} (hd : DI cc pc (.lstore_n k) 1 pc') (hn : (k : Nat) + 1 < nL) (kk : Wm p l e R s m args below meth c nL D cA b0 cells slots Q pc' (lset2 lv k (aL x)) st ad ns nt M) : Wm p l e R s m args below meth c nL D cA b0 cells slots Q pc lv (aL x :: st) ad ns nt M := fun H locs ls hw hS hl => lv_lstore_n C.1 C.2.1 hd.1 rfl hl hn (lvm_lset2 ad lv k (aL x)) (fun ls1 hl1 => by have k := kk H locs ls1 hw hS hl1; rw [← hd.2] at k; exact k)
theorem w_fstore (C : Cx l p s m args meth c cc own nL D cA b0 tab) {i : Nat} {x : UInt32} (hd : DI cc pc (.fstore i) 2 pc') (hn : i < nL) (kk : Wm p l e R s m args below meth c nL D cA b0 cells slots Q pc' (lset lv i (aF x)) st ad ns nt M) : Wm p l e R s m args below meth c nL D cA b0 cells slots Q pc lv (aF x :: st) ad ns nt M := fun H locs ls hw hS hl => lv_fstore C.1 C.2.1 hd.1 hl hn (lvm_lset ad lv i (aF x)) (fun ls1 hl1 => by have k := kk H locs ls1 hw hS hl1; rw [← hd.2] at k; exact k)
theorem w_dstore (C : Cx l p s m args meth c cc own nL D cA b0 tab) {i : Nat} {x : UInt64} (hd : DI cc pc (.dstore i) 2 pc') (hn : i + 1 < nL) (kk : Wm p l e R s m args below meth c nL D cA b0 cells slots Q pc' (lset2 lv i (aD x)) st ad ns nt M) : Wm p l e R s m args below meth c nL D cA b0 cells slots Q pc lv (aD x :: st) ad ns nt M := fun H locs ls hw hS hl => lv_dstore C.1 C.2.1 hd.1 hl hn (lvm_lset2 ad lv i (aD x)) (fun ls1 hl1 => by have k := kk H locs ls1 hw hS hl1; rw [← hd.2] at k; exact k)
theorem w_astore_n (C : Cx l p s m args meth c cc own nL D cA b0 tab) {k : Fin 4} {r : Option (Nat × Nat)} (hd : DI cc pc (.astore_n k) 1 pc') (hn : (k : Nat) < nL) (kk : Wm p l e R s m args below meth c nL D cA b0 cells slots Q pc' (lset lv k (aR r)) st ad ns nt M) : Wm p l e R s m args below meth c nL D cA b0 cells slots Q pc lv (aR r :: st) ad ns nt M := by
  intro H locs ls hw hS hl
  have h := lvm_lset ad lv k (aR r)
  cases r with
  | none => exact lv_astore_nN C.1 C.2.1 hd.1 rfl hl hn h (fun ls1 hl1 => by have k := kk H locs ls1 hw hS hl1; rw [← hd.2] at k; exact k)
  | some q => exact lv_astore_n C.1 C.2.1 hd.1 rfl hl hn h (fun ls1 hl1 => by have k := kk H locs ls1 hw hS hl1; rw [← hd.2] at k; exact k)
theorem w_astore (C : Cx l p s m args meth c cc own nL D cA b0 tab) {i : Nat} {r : Option (Nat × Nat)} (hd : DI cc pc (.astore i) 2 pc') (hn : i < nL) (kk : Wm p l e R s m args below meth c nL D cA b0 cells slots Q pc' (lset lv i (aR r)) st ad ns nt M) : Wm p l e R s m args below meth c nL D cA b0 cells slots Q pc lv (aR r :: st) ad ns nt M := by
  intro H locs ls hw hS hl
  have h := lvm_lset ad lv i (aR r)
  cases r with
  | none => exact lv_astoreN C.1 C.2.1 hd.1 hl hn h (fun ls1 hl1 => by have k := kk H locs ls1 hw hS hl1; rw [← hd.2] at k; exact k)
  | some q => exact lv_astore C.1 C.2.1 hd.1 hl hn h (fun ls1 hl1 => by have k := kk H locs ls1 hw hS hl1; rw [← hd.2] at k; exact k)
theorem w_iinc (C : Cx l p s m args meth c cc own nL D cA b0 tab) {i : Nat} {n x : Int} (hd : DI cc pc (.iinc i n) 3 pc') (hv : lget lv i = some (aI x)) (hn : i < nL) (kk : Wm p l e R s m args below meth c nL D cA b0 cells slots Q pc' (lset lv i (aI (x + n))) st ad ns nt M) : Wm p l e R s m args below meth c nL D cA b0 cells slots Q pc lv st ad ns nt M := by
  intro H locs ls hw hS hl
  obtain ⟨k, hk⟩ := List.getElem?_of_mem (lget_mapped (ad := ad) hv)
  exact lv_iinc C.1 C.2.1 hd.1 hl hk (Int32.ofInt_add x n).symm hn (lvm_lset ad lv i (aI (x + n))) (fun ls1 hl1 => by have k := kk H locs ls1 hw hS hl1; rw [← hd.2] at k; exact k)
theorem w_iadd (C : Cx l p s m args meth c cc own nL D cA b0 tab) {x y : Int} (hd : DI cc pc .iadd 1 pc') (kk : Wm p l e R s m args below meth c nL D cA b0 cells slots Q pc' lv (aI (x + y) :: st) ad ns nt M) : Wm p l e R s m args below meth c nL D cA b0 cells slots Q pc lv (aI y :: aI x :: st) ad ns nt M := by
  intro H locs ls hw hS hl
  have k := kk H locs ls hw hS hl
  rw [← hd.2] at k
  exact lv_iadd C.1 C.2.1 hd.1 (by rw [← Int32.ofInt_add]; exact k)
theorem w_isub (C : Cx l p s m args meth c cc own nL D cA b0 tab) {x y : Int} (hd : DI cc pc .isub 1 pc') (kk : Wm p l e R s m args below meth c nL D cA b0 cells slots Q pc' lv (aI (x - y) :: st) ad ns nt M) : Wm p l e R s m args below meth c nL D cA b0 cells slots Q pc lv (aI y :: aI x :: st) ad ns nt M := by
  intro H locs ls hw hS hl
  have k := kk H locs ls hw hS hl
  rw [← hd.2] at k
  exact lv_isub C.1 C.2.1 hd.1 (by rw [← Int32.ofInt_sub]; exact k)
theorem w_imul (C : Cx l p s m args meth c cc own nL D cA b0 tab) {x y : Int} (hd : DI cc pc .imul 1 pc') (kk : Wm p l e R s m args below meth c nL D cA b0 cells slots Q pc' lv (aI (x * y) :: st) ad ns nt M) : Wm p l e R s m args below meth c nL D cA b0 cells slots Q pc lv (aI y :: aI x :: st) ad ns nt M := by
  intro H locs ls hw hS hl
  have k := kk H locs ls hw hS hl
  rw [← hd.2] at k
  exact lv_imul C.1 C.2.1 hd.1 (by rw [← Int32.ofInt_mul]; exact k)
theorem w_idiv (C : Cx l p s m args meth c cc own nL D cA b0 tab) {x y : Int} (hd : DI cc pc .idiv 1 pc') (hx : 0 ≤ x ∧ x ≤ 2147483647) (hy : 0 < y ∧ y ≤ 2147483647) (kk : Wm p l e R s m args below meth c nL D cA b0 cells slots Q pc' lv (aI (x / y) :: st) ad ns nt M) : Wm p l e R s m args below meth c nL D cA b0 cells slots Q pc lv (aI y :: aI x :: st) ad ns nt M := by
  intro H locs ls hw hS hl
  have k := kk H locs ls hw hS hl
  rw [← hd.2] at k
  have hne : ¬ Int32.ofInt y = 0 := fun h => by
    rw [z32, e32_eq (by omega) (by omega)] at h
    omega
  exact lv_idiv C.1 C.2.1 hd.1 hne (by rw [e32_div hx hy]; exact k)
theorem w_irem (C : Cx l p s m args meth c cc own nL D cA b0 tab) {x y : Int} (hd : DI cc pc .irem 1 pc') (hx : 0 ≤ x ∧ x ≤ 2147483647) (hy : 0 < y ∧ y ≤ 2147483647) (kk : Wm p l e R s m args below meth c nL D cA b0 cells slots Q pc' lv (aI (x % y) :: st) ad ns nt M) : Wm p l e R s m args below meth c nL D cA b0 cells slots Q pc lv (aI y :: aI x :: st) ad ns nt M := by
  intro H locs ls hw hS hl
  have k := kk H locs ls hw hS hl
  rw [← hd.2] at k
  have hne : ¬ Int32.ofInt y = 0 := fun h => by
    rw [z32, e32_eq (by omega) (by omega)] at h
    omega
  exact lv_irem C.1 C.2.1 hd.1 hne (by rw [e32_div hx hy, ← Int32.ofInt_mul, ← Int32.ofInt_sub, e32_mod]; exact k)
theorem w_iand (C : Cx l p s m args meth c cc own nL D cA b0 tab) {x y : Nat} (hd : DI cc pc .iand 1 pc') (hx : x < 2147483648) (hy : y < 2147483648) (kk : Wm p l e R s m args below meth c nL D cA b0 cells slots Q pc' lv (aI ((x &&& y : Nat) : Int) :: st) ad ns nt M) : Wm p l e R s m args below meth c nL D cA b0 cells slots Q pc lv (aI y :: aI x :: st) ad ns nt M := by
  intro H locs ls hw hS hl
  have k := kk H locs ls hw hS hl
  rw [← hd.2] at k
  exact lv_iand C.1 C.2.1 hd.1 (by rw [e32_and hx hy]; exact k)
theorem w_ior (C : Cx l p s m args meth c cc own nL D cA b0 tab) {x y : Nat} (hd : DI cc pc .ior 1 pc') (hx : x < 2147483648) (hy : y < 2147483648) (kk : Wm p l e R s m args below meth c nL D cA b0 cells slots Q pc' lv (aI ((x ||| y : Nat) : Int) :: st) ad ns nt M) : Wm p l e R s m args below meth c nL D cA b0 cells slots Q pc lv (aI y :: aI x :: st) ad ns nt M := by
  intro H locs ls hw hS hl
  have k := kk H locs ls hw hS hl
  rw [← hd.2] at k
  exact lv_ior C.1 C.2.1 hd.1 (by rw [e32_or hx hy]; exact k)
theorem w_ishl (C : Cx l p s m args meth c cc own nL D cA b0 tab) {x y : Nat} (hd : DI cc pc .ishl 1 pc') (hy : y < 32) (kk : Wm p l e R s m args below meth c nL D cA b0 cells slots Q pc' lv (aI ((x * 2 ^ y : Nat) : Int) :: st) ad ns nt M) : Wm p l e R s m args below meth c nL D cA b0 cells slots Q pc lv (aI y :: aI x :: st) ad ns nt M := by
  intro H locs ls hw hS hl
  have k := kk H locs ls hw hS hl
  rw [← hd.2] at k
  exact lv_ishl C.1 C.2.1 hd.1 (by rw [e32_shl hy]; exact k)
theorem w_ishr (C : Cx l p s m args meth c cc own nL D cA b0 tab) {x y : Nat} (hd : DI cc pc .ishr 1 pc') (hx : x < 2147483648) (hy : y < 32) (kk : Wm p l e R s m args below meth c nL D cA b0 cells slots Q pc' lv (aI ((x / 2 ^ y : Nat) : Int) :: st) ad ns nt M) : Wm p l e R s m args below meth c nL D cA b0 cells slots Q pc lv (aI y :: aI x :: st) ad ns nt M := by
  intro H locs ls hw hS hl
  have k := kk H locs ls hw hS hl
  rw [← hd.2] at k
  exact lv_ishr C.1 C.2.1 hd.1 (by rw [e32_shr hx hy]; exact k)
theorem w_i2l (C : Cx l p s m args meth c cc own nL D cA b0 tab) {x : Int} (hd : DI cc pc .i2l 1 pc') (hx : -2147483648 ≤ x ∧ x ≤ 2147483647) (kk : Wm p l e R s m args below meth c nL D cA b0 cells slots Q pc' lv (aL x :: st) ad ns nt M) : Wm p l e R s m args below meth c nL D cA b0 cells slots Q pc lv (aI x :: st) ad ns nt M := fun H locs ls hw hS hl => lv_i2l C.1 C.2.1 hd.1 (e32_l hx) (by have k := kk H locs ls hw hS hl; rw [← hd.2] at k; exact k)
theorem w_i2c (C : Cx l p s m args meth c cc own nL D cA b0 tab) {x : Int} (hd : DI cc pc .i2c 1 pc') (kk : Wm p l e R s m args below meth c nL D cA b0 cells slots Q pc' lv (aI (x % 65536) :: st) ad ns nt M) : Wm p l e R s m args below meth c nL D cA b0 cells slots Q pc lv (aI x :: st) ad ns nt M := fun H locs ls hw hS hl => lv_i2c C.1 C.2.1 hd.1 (e32_c x) (by have k := kk H locs ls hw hS hl; rw [← hd.2] at k; exact k)
theorem w_ladd (C : Cx l p s m args meth c cc own nL D cA b0 tab) {x y : Int} (hd : DI cc pc .ladd 1 pc') (kk : Wm p l e R s m args below meth c nL D cA b0 cells slots Q pc' lv (aL (x + y) :: st) ad ns nt M) : Wm p l e R s m args below meth c nL D cA b0 cells slots Q pc lv (aL y :: aL x :: st) ad ns nt M := by
  intro H locs ls hw hS hl
  have k := kk H locs ls hw hS hl
  rw [← hd.2] at k
  exact lv_ladd C.1 C.2.1 hd.1 (by rw [← Int64.ofInt_add]; exact k)
theorem w_lmul (C : Cx l p s m args meth c cc own nL D cA b0 tab) {x y : Int} (hd : DI cc pc .lmul 1 pc') (kk : Wm p l e R s m args below meth c nL D cA b0 cells slots Q pc' lv (aL (x * y) :: st) ad ns nt M) : Wm p l e R s m args below meth c nL D cA b0 cells slots Q pc lv (aL y :: aL x :: st) ad ns nt M := by
  intro H locs ls hw hS hl
  have k := kk H locs ls hw hS hl
  rw [← hd.2] at k
  exact lv_lmul C.1 C.2.1 hd.1 (by rw [← Int64.ofInt_mul]; exact k)
theorem w_lcmp (C : Cx l p s m args meth c cc own nL D cA b0 tab) {x y : Int} (hd : DI cc pc .lcmp 1 pc') (hx : -9223372036854775808 ≤ x ∧ x ≤ 9223372036854775807) (hy : -9223372036854775808 ≤ y ∧ y ≤ 9223372036854775807) (kk : Wm p l e R s m args below meth c nL D cA b0 cells slots Q pc' lv (aI (if x < y then -1 else if x = y then 0 else 1) :: st) ad ns nt M) : Wm p l e R s m args below meth c nL D cA b0 cells slots Q pc lv (aL y :: aL x :: st) ad ns nt M := by
  intro H locs ls hw hS hl
  have k := kk H locs ls hw hS hl
  rw [← hd.2] at k
  refine W.lcmp C.1 C.2.1 hd.1 ?_
  rw [e64_cmp hx hy]
  exact k
theorem w_dup (C : Cx l p s m args meth c cc own nL D cA b0 tab) {v : AV} (hd : DI cc pc .dup 1 pc') (hv : cat2 v = false) (kk : Wm p l e R s m args below meth c nL D cA b0 cells slots Q pc' lv (v :: v :: st) ad ns nt M) : Wm p l e R s m args below meth c nL D cA b0 cells slots Q pc lv (v :: st) ad ns nt M := fun H locs ls hw hS hl => lv_dup C.1 C.2.1 hd.1 (tv_cat1 hv) (by have k := kk H locs ls hw hS hl; rw [← hd.2] at k; exact k)
theorem w_pop (C : Cx l p s m args meth c cc own nL D cA b0 tab) {v : AV} (hd : DI cc pc .pop 1 pc') (hv : cat2 v = false) (kk : Wm p l e R s m args below meth c nL D cA b0 cells slots Q pc' lv st ad ns nt M) : Wm p l e R s m args below meth c nL D cA b0 cells slots Q pc lv (v :: st) ad ns nt M := fun H locs ls hw hS hl => lv_pop C.1 C.2.1 hd.1 (tv_cat1 hv) (by have k := kk H locs ls hw hS hl; rw [← hd.2] at k; exact k)
theorem w_dup2 (C : Cx l p s m args meth c cc own nL D cA b0 tab) {v w : AV} (hd : DI cc pc .dup2 1 pc') (hv : cat2 v = false) (hw2 : cat2 w = false) (kk : Wm p l e R s m args below meth c nL D cA b0 cells slots Q pc' lv (v :: w :: v :: w :: st) ad ns nt M) : Wm p l e R s m args below meth c nL D cA b0 cells slots Q pc lv (v :: w :: st) ad ns nt M := fun H locs ls hw hS hl => lv_dup2_11 C.1 C.2.1 hd.1 (tv_cat1 hv) (tv_cat1 hw2) (by have k := kk H locs ls hw hS hl; rw [← hd.2] at k; exact k)
theorem w_null (C : Cx l p s m args meth c cc own nL D cA b0 tab) (hd : DI cc pc .aconst_null 1 pc') (kk : Wm p l e R s m args below meth c nL D cA b0 cells slots Q pc' lv (aN :: st) ad ns nt M) : Wm p l e R s m args below meth c nL D cA b0 cells slots Q pc lv st ad ns nt M := fun H locs ls hw hS hl => lv_null C.1 C.2.1 hd.1 (by have k := kk H locs ls hw hS hl; rw [← hd.2] at k; exact k)
theorem w_i2f (C : Cx l p s m args meth c cc own nL D cA b0 tab) {x : Int} (hd : DI cc pc .i2f 1 pc') (kk : Wm p l e R s m args below meth c nL D cA b0 cells slots Q pc' lv (aF (FP.i2f (Int32.ofInt x)) :: st) ad ns nt M) : Wm p l e R s m args below meth c nL D cA b0 cells slots Q pc lv (aI x :: st) ad ns nt M := fun H locs ls hw hS hl => lv_i2f C.1 C.2.1 hd.1 (by have k := kk H locs ls hw hS hl; rw [← hd.2] at k; exact k)
theorem w_i2d (C : Cx l p s m args meth c cc own nL D cA b0 tab) {x : Int} (hd : DI cc pc .i2d 1 pc') (kk : Wm p l e R s m args below meth c nL D cA b0 cells slots Q pc' lv (aD (FP.i2d (Int32.ofInt x)) :: st) ad ns nt M) : Wm p l e R s m args below meth c nL D cA b0 cells slots Q pc lv (aI x :: st) ad ns nt M := fun H locs ls hw hS hl => lv_i2d C.1 C.2.1 hd.1 (by have k := kk H locs ls hw hS hl; rw [← hd.2] at k; exact k)
theorem w_fdiv (C : Cx l p s m args meth c cc own nL D cA b0 tab) {x y : UInt32} (hd : DI cc pc .fdiv 1 pc') (hn : vf_n32 (FP.fdiv x y)) (kk : Wm p l e R s m args below meth c nL D cA b0 cells slots Q pc' lv (aF (FP.fdiv x y) :: st) ad ns nt M) : Wm p l e R s m args below meth c nL D cA b0 cells slots Q pc lv (aF y :: aF x :: st) ad ns nt M := fun H locs ls hw hS hl => lv_fdiv C.1 C.2.1 hd.1 hn (by have k := kk H locs ls hw hS hl; rw [← hd.2] at k; exact k)
theorem w_ddiv (C : Cx l p s m args meth c cc own nL D cA b0 tab) {x y : UInt64} (hd : DI cc pc .ddiv 1 pc') (hn : vf_n64 (FP.ddiv x y)) (kk : Wm p l e R s m args below meth c nL D cA b0 cells slots Q pc' lv (aD (FP.ddiv x y) :: st) ad ns nt M) : Wm p l e R s m args below meth c nL D cA b0 cells slots Q pc lv (aD y :: aD x :: st) ad ns nt M := fun H locs ls hw hS hl => lv_ddiv C.1 C.2.1 hd.1 hn (by have k := kk H locs ls hw hS hl; rw [← hd.2] at k; exact k)
theorem w_f2d (C : Cx l p s m args meth c cc own nL D cA b0 tab) {x : UInt32} (hd : DI cc pc .f2d 1 pc') (hn : vf_n64 (FP.f2d x)) (kk : Wm p l e R s m args below meth c nL D cA b0 cells slots Q pc' lv (aD (FP.f2d x) :: st) ad ns nt M) : Wm p l e R s m args below meth c nL D cA b0 cells slots Q pc lv (aF x :: st) ad ns nt M := fun H locs ls hw hS hl => lv_f2d C.1 C.2.1 hd.1 hn (by have k := kk H locs ls hw hS hl; rw [← hd.2] at k; exact k)
theorem w_if_eq (C : Cx l p s m args meth c cc own nL D cA b0 tab) {x off : Int} {tgt : Nat} (hd : DJ cc pc (.ifCond .eq off) off tgt pc') (hx : -2147483648 ≤ x ∧ x ≤ 2147483647) (kt : (x = 0) → Wm p l e R s m args below meth c nL D cA b0 cells slots Q tgt lv st ad ns nt M) (kf : ¬ (x = 0) → Wm p l e R s m args below meth c nL D cA b0 cells slots Q pc' lv st ad ns nt M) : Wm p l e R s m args below meth c nL D cA b0 cells slots Q pc lv (aI x :: st) ad ns nt M := fun H locs ls hw hS hl => lv_if_eq C.1 C.2.1 hd.1 hd.2.1 (fun h => kt ((e32_eq hx (by omega)).mp h) H locs ls hw hS hl) (fun h => by have k := kf (fun q => h ((e32_eq hx (by omega)).mpr q)) H locs ls hw hS hl; rw [← hd.2.2] at k; exact k)
theorem w_if_ne (C : Cx l p s m args meth c cc own nL D cA b0 tab) {x off : Int} {tgt : Nat} (hd : DJ cc pc (.ifCond .ne off) off tgt pc') (hx : -2147483648 ≤ x ∧ x ≤ 2147483647) (kt : (x ≠ 0) → Wm p l e R s m args below meth c nL D cA b0 cells slots Q tgt lv st ad ns nt M) (kf : ¬ (x ≠ 0) → Wm p l e R s m args below meth c nL D cA b0 cells slots Q pc' lv st ad ns nt M) : Wm p l e R s m args below meth c nL D cA b0 cells slots Q pc lv (aI x :: st) ad ns nt M := fun H locs ls hw hS hl => lv_if_ne C.1 C.2.1 hd.1 hd.2.1 (fun h => kt (fun q => h (by rw [q]; rfl)) H locs ls hw hS hl) (fun h => by have k := kf (fun q => q ((e32_eq hx (by omega)).mp h)) H locs ls hw hS hl; rw [← hd.2.2] at k; exact k)
theorem w_if_lt (C : Cx l p s m args meth c cc own nL D cA b0 tab) {x off : Int} {tgt : Nat} (hd : DJ cc pc (.ifCond .lt off) off tgt pc') (hx : -2147483648 ≤ x ∧ x ≤ 2147483647) (kt : (x < 0) → Wm p l e R s m args below meth c nL D cA b0 cells slots Q tgt lv st ad ns nt M) (kf : ¬ (x < 0) → Wm p l e R s m args below meth c nL D cA b0 cells slots Q pc' lv st ad ns nt M) : Wm p l e R s m args below meth c nL D cA b0 cells slots Q pc lv (aI x :: st) ad ns nt M := fun H locs ls hw hS hl => lv_if_lt C.1 C.2.1 hd.1 hd.2.1 (fun h => kt ((e32_lt hx (by omega)).mp h) H locs ls hw hS hl) (fun h => by have k := kf (fun q => h ((e32_lt hx (by omega)).mpr q)) H locs ls hw hS hl; rw [← hd.2.2] at k; exact k)
theorem w_if_ge (C : Cx l p s m args meth c cc own nL D cA b0 tab) {x off : Int} {tgt : Nat} (hd : DJ cc pc (.ifCond .ge off) off tgt pc') (hx : -2147483648 ≤ x ∧ x ≤ 2147483647) (kt : (0 ≤ x) → Wm p l e R s m args below meth c nL D cA b0 cells slots Q tgt lv st ad ns nt M) (kf : ¬ (0 ≤ x) → Wm p l e R s m args below meth c nL D cA b0 cells slots Q pc' lv st ad ns nt M) : Wm p l e R s m args below meth c nL D cA b0 cells slots Q pc lv (aI x :: st) ad ns nt M := fun H locs ls hw hS hl => lv_if_ge C.1 C.2.1 hd.1 hd.2.1 (fun h => kt ((e32_le (by omega) hx).mp h) H locs ls hw hS hl) (fun h => by have k := kf (fun q => h ((e32_le (by omega) hx).mpr q)) H locs ls hw hS hl; rw [← hd.2.2] at k; exact k)
theorem w_if_gt (C : Cx l p s m args meth c cc own nL D cA b0 tab) {x off : Int} {tgt : Nat} (hd : DJ cc pc (.ifCond .gt off) off tgt pc') (hx : -2147483648 ≤ x ∧ x ≤ 2147483647) (kt : (0 < x) → Wm p l e R s m args below meth c nL D cA b0 cells slots Q tgt lv st ad ns nt M) (kf : ¬ (0 < x) → Wm p l e R s m args below meth c nL D cA b0 cells slots Q pc' lv st ad ns nt M) : Wm p l e R s m args below meth c nL D cA b0 cells slots Q pc lv (aI x :: st) ad ns nt M := fun H locs ls hw hS hl => lv_if_gt C.1 C.2.1 hd.1 hd.2.1 (fun h => kt ((e32_lt (by omega) hx).mp h) H locs ls hw hS hl) (fun h => by have k := kf (fun q => h ((e32_lt (by omega) hx).mpr q)) H locs ls hw hS hl; rw [← hd.2.2] at k; exact k)
theorem w_if_le (C : Cx l p s m args meth c cc own nL D cA b0 tab) {x off : Int} {tgt : Nat} (hd : DJ cc pc (.ifCond .le off) off tgt pc') (hx : -2147483648 ≤ x ∧ x ≤ 2147483647) (kt : (x ≤ 0) → Wm p l e R s m args below meth c nL D cA b0 cells slots Q tgt lv st ad ns nt M) (kf : ¬ (x ≤ 0) → Wm p l e R s m args below meth c nL D cA b0 cells slots Q pc' lv st ad ns nt M) : Wm p l e R s m args below meth c nL D cA b0 cells slots Q pc lv (aI x :: st) ad ns nt M := fun H locs ls hw hS hl => lv_if_le C.1 C.2.1 hd.1 hd.2.1 (fun h => kt ((e32_le hx (by omega)).mp h) H locs ls hw hS hl) (fun h => by have k := kf (fun q => h ((e32_le hx (by omega)).mpr q)) H locs ls hw hS hl; rw [← hd.2.2] at k; exact k)
theorem w_icmp_eq (C : Cx l p s m args meth c cc own nL D cA b0 tab) {x y off : Int} {tgt : Nat} (hd : DJ cc pc (.if_icmp .eq off) off tgt pc') (hx : -2147483648 ≤ x ∧ x ≤ 2147483647) (hy : -2147483648 ≤ y ∧ y ≤ 2147483647) (kt : (x = y) → Wm p l e R s m args below meth c nL D cA b0 cells slots Q tgt lv st ad ns nt M) (kf : ¬ (x = y) → Wm p l e R s m args below meth c nL D cA b0 cells slots Q pc' lv st ad ns nt M) : Wm p l e R s m args below meth c nL D cA b0 cells slots Q pc lv (aI y :: aI x :: st) ad ns nt M := fun H locs ls hw hS hl => lv_icmp_eq C.1 C.2.1 hd.1 hd.2.1 (fun h => kt ((e32_eq hx hy).mp h) H locs ls hw hS hl) (fun h => by have k := kf (fun q => h ((e32_eq hx hy).mpr q)) H locs ls hw hS hl; rw [← hd.2.2] at k; exact k)
theorem w_icmp_ne (C : Cx l p s m args meth c cc own nL D cA b0 tab) {x y off : Int} {tgt : Nat} (hd : DJ cc pc (.if_icmp .ne off) off tgt pc') (hx : -2147483648 ≤ x ∧ x ≤ 2147483647) (hy : -2147483648 ≤ y ∧ y ≤ 2147483647) (kt : (x ≠ y) → Wm p l e R s m args below meth c nL D cA b0 cells slots Q tgt lv st ad ns nt M) (kf : ¬ (x ≠ y) → Wm p l e R s m args below meth c nL D cA b0 cells slots Q pc' lv st ad ns nt M) : Wm p l e R s m args below meth c nL D cA b0 cells slots Q pc lv (aI y :: aI x :: st) ad ns nt M := fun H locs ls hw hS hl => lv_icmp_ne C.1 C.2.1 hd.1 hd.2.1 (fun h => kt (fun q => h (by rw [q])) H locs ls hw hS hl) (fun h => by have k := kf (fun q => q ((e32_eq hx hy).mp h)) H locs ls hw hS hl; rw [← hd.2.2] at k; exact k)
theorem w_icmp_lt (C : Cx l p s m args meth c cc own nL D cA b0 tab) {x y off : Int} {tgt : Nat} (hd : DJ cc pc (.if_icmp .lt off) off tgt pc') (hx : -2147483648 ≤ x ∧ x ≤ 2147483647) (hy : -2147483648 ≤ y ∧ y ≤ 2147483647) (kt : (x < y) → Wm p l e R s m args below meth c nL D cA b0 cells slots Q tgt lv st ad ns nt M) (kf : ¬ (x < y) → Wm p l e R s m args below meth c nL D cA b0 cells slots Q pc' lv st ad ns nt M) : Wm p l e R s m args below meth c nL D cA b0 cells slots Q pc lv (aI y :: aI x :: st) ad ns nt M := fun H locs ls hw hS hl => lv_icmp_lt C.1 C.2.1 hd.1 hd.2.1 (fun h => kt ((e32_lt hx hy).mp h) H locs ls hw hS hl) (fun h => by have k := kf (fun q => h ((e32_lt hx hy).mpr q)) H locs ls hw hS hl; rw [← hd.2.2] at k; exact k)
theorem w_icmp_ge (C : Cx l p s m args meth c cc own nL D cA b0 tab) {x y off : Int} {tgt : Nat} (hd : DJ cc pc (.if_icmp .ge off) off tgt pc') (hx : -2147483648 ≤ x ∧ x ≤ 2147483647) (hy : -2147483648 ≤ y ∧ y ≤ 2147483647) (kt : (y ≤ x) → Wm p l e R s m args below meth c nL D cA b0 cells slots Q tgt lv st ad ns nt M) (kf : ¬ (y ≤ x) → Wm p l e R s m args below meth c nL D cA b0 cells slots Q pc' lv st ad ns nt M) : Wm p l e R s m args below meth c nL D cA b0 cells slots Q pc lv (aI y :: aI x :: st) ad ns nt M := fun H locs ls hw hS hl => lv_icmp_ge C.1 C.2.1 hd.1 hd.2.1 (fun h => kt ((e32_le hy hx).mp h) H locs ls hw hS hl) (fun h => by have k := kf (fun q => h ((e32_le hy hx).mpr q)) H locs ls hw hS hl; rw [← hd.2.2] at k; exact k)
theorem w_icmp_gt (C : Cx l p s m args meth c cc own nL D cA b0 tab) {x y off : Int} {tgt : Nat} (hd : DJ cc pc (.if_icmp .gt off) off tgt pc') (hx : -2147483648 ≤ x ∧ x ≤ 2147483647) (hy : -2147483648 ≤ y ∧ y ≤ 2147483647) (kt : (y < x) → Wm p l e R s m args below meth c nL D cA b0 cells slots Q tgt lv st ad ns nt M) (kf : ¬ (y < x) → Wm p l e R s m args below meth c nL D cA b0 cells slots Q pc' lv st ad ns nt M) : Wm p l e R s m args below meth c nL D cA b0 cells slots Q pc lv (aI y :: aI x :: st) ad ns nt M := fun H locs ls hw hS hl => lv_icmp_gt C.1 C.2.1 hd.1 hd.2.1 (fun h => kt ((e32_lt hy hx).mp h) H locs ls hw hS hl) (fun h => by have k := kf (fun q => h ((e32_lt hy hx).mpr q)) H locs ls hw hS hl; rw [← hd.2.2] at k; exact k)
theorem w_icmp_le (C : Cx l p s m args meth c cc own nL D cA b0 tab) {x y off : Int} {tgt : Nat} (hd : DJ cc pc (.if_icmp .le off) off tgt pc') (hx : -2147483648 ≤ x ∧ x ≤ 2147483647) (hy : -2147483648 ≤ y ∧ y ≤ 2147483647) (kt : (x ≤ y) → Wm p l e R s m args below meth c nL D cA b0 cells slots Q tgt lv st ad ns nt M) (kf : ¬ (x ≤ y) → Wm p l e R s m args below meth c nL D cA b0 cells slots Q pc' lv st ad ns nt M) : Wm p l e R s m args below meth c nL D cA b0 cells slots Q pc lv (aI y :: aI x :: st) ad ns nt M := fun H locs ls hw hS hl => lv_icmp_le C.1 C.2.1 hd.1 hd.2.1 (fun h => kt ((e32_le hx hy).mp h) H locs ls hw hS hl) (fun h => by have k := kf (fun q => h ((e32_le hx hy).mpr q)) H locs ls hw hS hl; rw [← hd.2.2] at k; exact k)
theorem w_goto (C : Cx l p s m args meth c cc own nL D cA b0 tab) {off : Int} {tgt : Nat} (hd : DJ cc pc (.goto off) off tgt pc') (kk : Wm p l e R s m args below meth c nL D cA b0 cells slots Q tgt lv st ad ns nt M) : Wm p l e R s m args below meth c nL D cA b0 cells slots Q pc lv st ad ns nt M := fun H locs ls hw hS hl => lv_goto C.1 C.2.1 hd.1 hd.2.1 (kk H locs ls hw hS hl)
theorem w_ifnull (C : Cx l p s m args meth c cc own nL D cA b0 tab) {r : Option (Nat × Nat)} {off : Int} {tgt : Nat} (hd : DJ cc pc (.ifnull off) off tgt pc') (kt : r = none → Wm p l e R s m args below meth c nL D cA b0 cells slots Q tgt lv st ad ns nt M) (kf : (∃ q, r = some q) → Wm p l e R s m args below meth c nL D cA b0 cells slots Q pc' lv st ad ns nt M) : Wm p l e R s m args below meth c nL D cA b0 cells slots Q pc lv (aR r :: st) ad ns nt M := by
  intro H locs ls hw hS hl
  cases r with
  | none => exact lv_ifnullN C.1 C.2.1 hd.1 hd.2.1 (kt rfl H locs ls hw hS hl)
  | some q =>
    have k := kf ⟨q, rfl⟩ H locs ls hw hS hl
    rw [← hd.2.2] at k
    exact lv_ifnull C.1 C.2.1 hd.1 k
theorem w_ifnonnull (C : Cx l p s m args meth c cc own nL D cA b0 tab) {r : Option (Nat × Nat)} {off : Int} {tgt : Nat} (hd : DJ cc pc (.ifnonnull off) off tgt pc') (kt : (∃ q, r = some q) → Wm p l e R s m args below meth c nL D cA b0 cells slots Q tgt lv st ad ns nt M) (kf : r = none → Wm p l e R s m args below meth c nL D cA b0 cells slots Q pc' lv st ad ns nt M) : Wm p l e R s m args below meth c nL D cA b0 cells slots Q pc lv (aR r :: st) ad ns nt M := by
  intro H locs ls hw hS hl
  cases r with
  | none =>
    have k := kf rfl H locs ls hw hS hl
    rw [← hd.2.2] at k
    exact lv_ifnonnullN C.1 C.2.1 hd.1 k
  | some q => exact lv_ifnonnull C.1 C.2.1 hd.1 hd.2.1 (kt ⟨q, rfl⟩ H locs ls hw hS hl)
theorem w_acmp_ne (C : Cx l p s m args meth c cc own nL D cA b0 tab) {r r2 : Option (Nat × Nat)} {off : Int} {tgt : Nat} (hd : DJ cc pc (.if_acmp .ne off) off tgt pc') (hr : ∀ q, r = some q → inD ns nt q.1 q.2) (hr2 : ∀ q, r2 = some q → inD ns nt q.1 q.2)
    (kt : r ≠ r2 → Wm p l e R s m args below meth c nL D cA b0 cells slots Q tgt lv st ad ns nt M) (kf : r = r2 → Wm p l e R s m args below meth c nL D cA b0 cells slots Q pc' lv st ad ns nt M) : Wm p l e R s m args below meth c nL D cA b0 cells slots Q pc lv (aR r2 :: aR r :: st) ad ns nt M := by
  intro H locs ls hw hS hl
  have e : (r.map fun q => ad q.1 q.2) = (r2.map fun q => ad q.1 q.2) ↔ r = r2 := by
    refine ⟨fun h => ?_, fun h => by rw [h]⟩
    cases r with
    | none =>
      cases r2 with
      | none => rfl
      | some q2 => cases h
    | some q =>
      cases r2 with
      | none => cases h
      | some q2 =>
        have h1 := hw.2.1 _ _ _ _ (hr q rfl) (hr2 q2 rfl) (Option.some.inj h)
        exact congrArg some (Prod.ext h1.1 h1.2)
  have t1 : ∀ r : Option (Nat × Nat), tv ad (aR r) = va_rf (r.map fun q => ad q.1 q.2) := fun r => by cases r <;> rfl
  refine W.eq (g2 := F0 m pc ls (va_rf (r2.map fun q => ad q.1 q.2) :: va_rf (r.map fun q => ad q.1 q.2) :: st.map (tv ad))) (by rw [← t1, ← t1]; rfl) ?_
  refine lv_acmp_ne C.1 C.2.1 hd.1 hd.2.1 (fun h => kt (fun q => h (e.mpr q)) H locs ls hw hS hl) (fun h => ?_)
  have k := kf (e.mp h) H locs ls hw hS hl
  rw [← hd.2.2] at k
  exact k
end Rows
end
section
/-! arrays of a kind: IA numbers, ZA truth values, CA characters, RA references, LA longs, DA doubles -/
def IA (k n : Nat) : Prop := n ≤ 2147483647 ∧ ∀ (cA : Nat → ClassId) (ad : Ads) (i : Nat) (f : Nat → Int) (g : Nat → Option Nat) (h : Nat → Int) (d : Nat → UInt64), cellG cA ad k i f g h d = .inl (cA 0, n, .inl (fun j => Int32.ofInt (f j)))
def ZA (k n : Nat) : Prop := n ≤ 2147483647 ∧ ∀ (cA : Nat → ClassId) (ad : Ads) (i : Nat) (f : Nat → Int) (g : Nat → Option Nat) (h : Nat → Int) (d : Nat → UInt64), cellG cA ad k i f g h d = .inl (cA 1, n, .inl (fun j => Int32.ofInt (f j)))
def CA (k n : Nat) : Prop := n ≤ 2147483647 ∧ ∀ (cA : Nat → ClassId) (ad : Ads) (i : Nat) (f : Nat → Int) (g : Nat → Option Nat) (h : Nat → Int) (d : Nat → UInt64), cellG cA ad k i f g h d = .inl (cA 2, n, .inl (fun j => Int32.ofInt (f j)))
def RA (k n q t : Nat) : Prop := n ≤ 2147483647 ∧ ∀ (cA : Nat → ClassId) (ad : Ads) (i : Nat) (f : Nat → Int) (g : Nat → Option Nat) (h : Nat → Int) (d : Nat → UInt64), cellG cA ad k i f g h d = .inl (cA q, n, .inr (.inr (.inr (.inr (fun j => (g j).map (ad t))))))
def LA (k n : Nat) : Prop := n ≤ 2147483647 ∧ ∀ (cA : Nat → ClassId) (ad : Ads) (i : Nat) (f : Nat → Int) (g : Nat → Option Nat) (h : Nat → Int) (d : Nat → UInt64), cellG cA ad k i f g h d = .inl (cA 3, n, .inr (.inl (fun j => Int64.ofInt (h j))))
def DA (k n : Nat) : Prop := n ≤ 2147483647 ∧ ∀ (cA : Nat → ClassId) (ad : Ads) (i : Nat) (f : Nat → Int) (g : Nat → Option Nat) (h : Nat → Int) (d : Nat → UInt64), cellG cA ad k i f g h d = .inl (cA 4, n, .inr (.inr (.inr (.inl d))))
theorem RA_10 : RA 10 8 5 4 := ⟨by decide, fun _ _ _ _ _ _ _ => rfl⟩
theorem RA_11 : RA 11 4 6 6 := ⟨by decide, fun _ _ _ _ _ _ _ => rfl⟩
theorem RA_12 : RA 12 40 7 3 := ⟨by decide, fun _ _ _ _ _ _ _ => rfl⟩
theorem RA_13 : RA 13 8 8 5 := ⟨by decide, fun _ _ _ _ _ _ _ => rfl⟩
theorem IA_20 : IA 20 60 := ⟨by decide, fun _ _ _ _ _ _ _ => rfl⟩
theorem IA_21 : IA 21 60 := ⟨by decide, fun _ _ _ _ _ _ _ => rfl⟩
theorem IA_22 : IA 22 720 := ⟨by decide, fun _ _ _ _ _ _ _ => rfl⟩
theorem IA_23 : IA 23 60 := ⟨by decide, fun _ _ _ _ _ _ _ => rfl⟩
theorem IA_24 : IA 24 4 := ⟨by decide, fun _ _ _ _ _ _ _ => rfl⟩
theorem IA_25 : IA 25 4 := ⟨by decide, fun _ _ _ _ _ _ _ => rfl⟩
theorem IA_26 : IA 26 60 := ⟨by decide, fun _ _ _ _ _ _ _ => rfl⟩
theorem IA_27 : IA 27 16 := ⟨by decide, fun _ _ _ _ _ _ _ => rfl⟩
theorem IA_28 : IA 28 4 := ⟨by decide, fun _ _ _ _ _ _ _ => rfl⟩
theorem IA_29 : IA 29 16 := ⟨by decide, fun _ _ _ _ _ _ _ => rfl⟩
theorem IA_30 : IA 30 5 := ⟨by decide, fun _ _ _ _ _ _ _ => rfl⟩
theorem IA_31 : IA 31 5 := ⟨by decide, fun _ _ _ _ _ _ _ => rfl⟩
theorem IA_32 : IA 32 8 := ⟨by decide, fun _ _ _ _ _ _ _ => rfl⟩
theorem ZA_41 : ZA 41 720 := ⟨by decide, fun _ _ _ _ _ _ _ => rfl⟩
theorem ZA_42 : ZA 42 8 := ⟨by decide, fun _ _ _ _ _ _ _ => rfl⟩
theorem ZA_43 : ZA 43 200 := ⟨by decide, fun _ _ _ _ _ _ _ => rfl⟩
theorem ZA_44 : ZA 44 8 := ⟨by decide, fun _ _ _ _ _ _ _ => rfl⟩
theorem ZA_45 : ZA 45 40 := ⟨by decide, fun _ _ _ _ _ _ _ => rfl⟩
theorem ZA_46 : ZA 46 40 := ⟨by decide, fun _ _ _ _ _ _ _ => rfl⟩
theorem CA_47 : CA 47 8 := ⟨by decide, fun _ _ _ _ _ _ _ => rfl⟩
theorem IA_48 : IA 48 8 := ⟨by decide, fun _ _ _ _ _ _ _ => rfl⟩
theorem IA_49 : IA 49 8 := ⟨by decide, fun _ _ _ _ _ _ _ => rfl⟩
theorem IA_50 : IA 50 8 := ⟨by decide, fun _ _ _ _ _ _ _ => rfl⟩
theorem IA_51 : IA 51 8 := ⟨by decide, fun _ _ _ _ _ _ _ => rfl⟩
theorem IA_52 : IA 52 16 := ⟨by decide, fun _ _ _ _ _ _ _ => rfl⟩
theorem IA_53 : IA 53 40 := ⟨by decide, fun _ _ _ _ _ _ _ => rfl⟩
theorem IA_54 : IA 54 40 := ⟨by decide, fun _ _ _ _ _ _ _ => rfl⟩
theorem IA_55 : IA 55 40 := ⟨by decide, fun _ _ _ _ _ _ _ => rfl⟩
theorem IA_56 : IA 56 40 := ⟨by decide, fun _ _ _ _ _ _ _ => rfl⟩
theorem IA_57 : IA 57 40 := ⟨by decide, fun _ _ _ _ _ _ _ => rfl⟩
theorem IA_58 : IA 58 720 := ⟨by decide, fun _ _ _ _ _ _ _ => rfl⟩
theorem IA_59 : IA 59 4 := ⟨by decide, fun _ _ _ _ _ _ _ => rfl⟩
theorem IA_60 : IA 60 4 := ⟨by decide, fun _ _ _ _ _ _ _ => rfl⟩
theorem IA_61 : IA 61 32 := ⟨by decide, fun _ _ _ _ _ _ _ => rfl⟩
theorem IA_62 : IA 62 4 := ⟨by decide, fun _ _ _ _ _ _ _ => rfl⟩
theorem IA_63 : IA 63 25 := ⟨by decide, fun _ _ _ _ _ _ _ => rfl⟩
theorem IA_64 : IA 64 25 := ⟨by decide, fun _ _ _ _ _ _ _ => rfl⟩
theorem IA_65 : IA 65 4 := ⟨by decide, fun _ _ _ _ _ _ _ => rfl⟩
theorem IA_66 : IA 66 40 := ⟨by decide, fun _ _ _ _ _ _ _ => rfl⟩
theorem IA_67 : IA 67 40 := ⟨by decide, fun _ _ _ _ _ _ _ => rfl⟩
theorem IA_68 : IA 68 40 := ⟨by decide, fun _ _ _ _ _ _ _ => rfl⟩
theorem IA_69 : IA 69 40 := ⟨by decide, fun _ _ _ _ _ _ _ => rfl⟩
theorem IA_70 : IA 70 40 := ⟨by decide, fun _ _ _ _ _ _ _ => rfl⟩
theorem LA_80 : LA 80 1 := ⟨by decide, fun _ _ _ _ _ _ _ => rfl⟩
theorem DA_81 : DA 81 1 := ⟨by decide, fun _ _ _ _ _ _ _ => rfl⟩
theorem upd_map (f : Nat → Int) (s : Nat) (v : Int) : upd (fun j => Int32.ofInt (f j)) s (Int32.ofInt v) = fun j => Int32.ofInt (up1 f s v j) := by
  funext j
  unfold upd up1
  split <;> rfl
theorem updL_map (f : Nat → Int) (s : Nat) (v : Int) : vp_updL (fun j => Int64.ofInt (f j)) s (Int64.ofInt v) = fun j => Int64.ofInt (up1 f s v j) := by
  funext j
  unfold vp_updL up1
  split <;> rfl
theorem updR_map (ad : Nat → Nat) (f : Nat → Option Nat) (s v : Nat) : va_up (fun j => (f j).map ad) s (some (ad v)) = fun j => (up1 f s (some v) j).map ad := by
  funext j
  unfold va_up up1
  split <;> rfl
theorem nar_z {z : Int} (h : z = 0 ∨ z = 1) : vp_nar .boolean (Int32.ofInt z) = Int32.ofInt z := by
  rcases h with rfl | rfl <;> rfl
theorem narrow_z {z : Int} (h : z = 0 ∨ z = 1) : narrow .boolean (.int (Int32.ofInt z)) = .int (Int32.ofInt z) := by
  rcases h with rfl | rfl <;> rfl
theorem fits_z {z : Int} (h : z = 0 ∨ z = 1) : fits .boolean (.int (Int32.ofInt z)) = true := by
  rcases h with rfl | rfl <;> rfl
theorem narrow_c {z : Int} (h : 0 ≤ z ∧ z ≤ 65535) : narrow .char (.int (Int32.ofInt z)) = .int (Int32.ofInt z) ∧ fits .char (.int (Int32.ofInt z)) = true := by
  have e : Int32.ofInt z = nI z.toNat := by
    show _ = Int32.ofNat z.toNat
    rw [← Int32.ofInt_eq_ofNat, Int.toNat_of_nonneg h.1]
  rw [e]
  exact pk_charN (by omega)
theorem nar_c {z : Int} (h : 0 ≤ z ∧ z ≤ 65535) : vp_nar .char (Int32.ofInt z) = Int32.ofInt z := by
  have q := (narrow_c h).1
  unfold vp_nar
  rw [q]
theorem cM_of {cA : Nat → ClassId} {ad : Ads} {M : Mem} {k i : Nat} {e : va_E} {a : Nat} {q0 : Nat} {ws : va_W} (hq : ws[q0]? = some (a, cM cA ad M k i)) (h : cM cA ad M k i = e) : ws[q0]? = some (a, e) := by rw [hq, h]
section Rows
variable {p : Program} {l : Launch} {e : Env} {R : Room} {s : State} {m : MethodId} {args : Array Value} {below : List Frame} {meth : Method} {c : Code} {nL : Nat} {D : va_G} {cA : Nat → ClassId} {b0 cells slots : Nat} {Q : State → Prop} {lv : Lv} {st : List AV} {ad : Ads} {ns nt : Nat} {M : Mem} {cc : ByteArray} {own : String} {tab : List ExceptionTableEntry} {pc pc' : Nat}
theorem w_alen (C : Cx l p s m args meth c cc own nL D cA b0 tab) {k i n : Nat} (hd : DI cc pc .arraylength 1 pc') (hin : inD ns nt k i) (hk : IA k n ∨ ZA k n ∨ CA k n ∨ ∃ q t, q < 9 ∧ RA k n q t) (kk : Wm p l e R s m args below meth c nL D cA b0 cells slots Q pc' lv (aI n :: st) ad ns nt M) : Wm p l e R s m args below meth c nL D cA b0 cells slots Q pc lv (aO k i :: st) ad ns nt M := by
  intro H locs ls hw hS hl
  have k9 := kk H locs ls hw hS hl
  rw [← hd.2] at k9
  have e : (Int32.ofInt (n : Int)) = Int32.ofNat n := Int32.ofInt_eq_ofNat
  obtain ⟨q0, hq⟩ := wsM_get (cA := cA) (ad := ad) (M := M) hin
  rcases hk with h | h | h | ⟨q, t, hq9, h⟩
  · exact va_alen C.1 C.2.1 C.2.2.2.2.2.2.2.1.1 (HW_P hw) q0 0 (cM_of hq (h.2 cA ad i _ _ _ _)) rfl e.symm hd.1 k9
  · exact va_alen C.1 C.2.1 C.2.2.2.2.2.2.2.1.1 (HW_P hw) q0 1 (cM_of hq (h.2 cA ad i _ _ _ _)) rfl e.symm hd.1 k9
  · exact va_alen C.1 C.2.1 C.2.2.2.2.2.2.2.1.1 (HW_P hw) q0 2 (cM_of hq (h.2 cA ad i _ _ _ _)) rfl e.symm hd.1 k9
  · have ht : ∃ ty, (tysT cA)[q]? = some (cA q, ty) := by
      rcases (show q = 0 ∨ q = 1 ∨ q = 2 ∨ q = 3 ∨ q = 4 ∨ q = 5 ∨ q = 6 ∨ q = 7 ∨ q = 8 by omega) with rfl | rfl | rfl | rfl | rfl | rfl | rfl | rfl | rfl <;> exact ⟨_, rfl⟩
    obtain ⟨ty, ht⟩ := ht
    exact va_alen C.1 C.2.1 C.2.2.2.2.2.2.2.1.1 (HW_P hw) q0 q (cM_of hq (h.2 cA ad i _ _ _ _)) ht e.symm hd.1 k9
theorem w_iald (C : Cx l p s m args meth c cc own nL D cA b0 tab) {k i n : Nat} {z : Int} (hd : DI cc pc .iaload 1 pc') (hin : inD ns nt k i) (hk : IA k n) (hz : 0 ≤ z ∧ z < n) (kk : Wm p l e R s m args below meth c nL D cA b0 cells slots Q pc' lv (aI (M.1 k i z.toNat) :: st) ad ns nt M) : Wm p l e R s m args below meth c nL D cA b0 cells slots Q pc lv (aI z :: aO k i :: st) ad ns nt M := by
  intro H locs ls hw hS hl
  have k9 := kk H locs ls hw hS hl
  rw [← hd.2] at k9
  obtain ⟨q0, hq⟩ := wsM_get (cA := cA) (ad := ad) (M := M) hin
  have ix := ix_in hz hk.1
  refine va_iald C.1 C.2.1 C.2.2.2.2.2.2.2.1.1 (HW_P hw) q0 0 (cM_of hq (hk.2 cA ad i _ _ _ _)) rfl ix.1 hd.1 ?_
  rw [ix.2]
  exact k9
theorem w_zald (C : Cx l p s m args meth c cc own nL D cA b0 tab) {k i n : Nat} {z : Int} (hd : DI cc pc .baload 1 pc') (hin : inD ns nt k i) (hk : ZA k n) (hz : 0 ≤ z ∧ z < n) (kk : Wm p l e R s m args below meth c nL D cA b0 cells slots Q pc' lv (aI (M.1 k i z.toNat) :: st) ad ns nt M) : Wm p l e R s m args below meth c nL D cA b0 cells slots Q pc lv (aI z :: aO k i :: st) ad ns nt M := by
  intro H locs ls hw hS hl
  have k9 := kk H locs ls hw hS hl
  rw [← hd.2] at k9
  obtain ⟨q0, hq⟩ := wsM_get (cA := cA) (ad := ad) (M := M) hin
  have ix := ix_in hz hk.1
  refine va_zald C.1 C.2.1 C.2.2.2.2.2.2.2.1.1 (HW_P hw) q0 1 (cM_of hq (hk.2 cA ad i _ _ _ _)) rfl ix.1 hd.1 ?_
  rw [ix.2]
  exact k9
theorem w_cald (C : Cx l p s m args meth c cc own nL D cA b0 tab) {k i n : Nat} {z : Int} (hd : DI cc pc .caload 1 pc') (hin : inD ns nt k i) (hk : CA k n) (hz : 0 ≤ z ∧ z < n) (kk : Wm p l e R s m args below meth c nL D cA b0 cells slots Q pc' lv (aI (M.1 k i z.toNat) :: st) ad ns nt M) : Wm p l e R s m args below meth c nL D cA b0 cells slots Q pc lv (aI z :: aO k i :: st) ad ns nt M := by
  intro H locs ls hw hS hl
  have k9 := kk H locs ls hw hS hl
  rw [← hd.2] at k9
  obtain ⟨q0, hq⟩ := wsM_get (cA := cA) (ad := ad) (M := M) hin
  have ix := ix_in hz hk.1
  refine va_cald C.1 C.2.1 C.2.2.2.2.2.2.2.1.1 (HW_P hw) q0 2 (cM_of hq (hk.2 cA ad i _ _ _ _)) rfl ix.1 hd.1 ?_
  rw [ix.2]
  exact k9
theorem w_lald (C : Cx l p s m args meth c cc own nL D cA b0 tab) {k i n : Nat} {z : Int} (hd : DI cc pc .laload 1 pc') (hin : inD ns nt k i) (hk : LA k n) (hz : 0 ≤ z ∧ z < n) (kk : Wm p l e R s m args below meth c nL D cA b0 cells slots Q pc' lv (aL (M.2.2.1 k i z.toNat) :: st) ad ns nt M) : Wm p l e R s m args below meth c nL D cA b0 cells slots Q pc lv (aI z :: aO k i :: st) ad ns nt M := by
  intro H locs ls hw hS hl
  have k9 := kk H locs ls hw hS hl
  rw [← hd.2] at k9
  obtain ⟨q0, hq⟩ := wsM_get (cA := cA) (ad := ad) (M := M) hin
  have ix := ix_in hz hk.1
  refine va_lald C.1 C.2.1 C.2.2.2.2.2.2.2.1.1 (HW_P hw) q0 3 (cM_of hq (hk.2 cA ad i _ _ _ _)) rfl ix.1 hd.1 ?_
  rw [ix.2]
  exact k9
theorem w_dald (C : Cx l p s m args meth c cc own nL D cA b0 tab) {k i n : Nat} {z : Int} (hd : DI cc pc .daload 1 pc') (hin : inD ns nt k i) (hk : DA k n) (hz : 0 ≤ z ∧ z < n) (kk : Wm p l e R s m args below meth c nL D cA b0 cells slots Q pc' lv (aD (M.2.2.2 k i z.toNat) :: st) ad ns nt M) : Wm p l e R s m args below meth c nL D cA b0 cells slots Q pc lv (aI z :: aO k i :: st) ad ns nt M := by
  intro H locs ls hw hS hl
  have k9 := kk H locs ls hw hS hl
  rw [← hd.2] at k9
  obtain ⟨q0, hq⟩ := wsM_get (cA := cA) (ad := ad) (M := M) hin
  have ix := ix_in hz hk.1
  refine va_dald C.1 C.2.1 C.2.2.2.2.2.2.2.1.1 (HW_P hw) q0 4 (cM_of hq (hk.2 cA ad i _ _ _ _)) rfl ix.1 hd.1 ?_
  rw [ix.2]
  exact k9
theorem w_iast (C : Cx l p s m args meth c cc own nL D cA b0 tab) {k i n : Nat} {z : Int} {v : Int} (hd : DI cc pc .iastore 1 pc') (hin : inD ns nt k i) (hk : IA k n) (hz : 0 ≤ z ∧ z < n) (kk : Wm p l e R s m args below meth c nL D cA b0 cells slots Q pc' lv st ad ns nt (uI M k i z.toNat v)) : Wm p l e R s m args below meth c nL D cA b0 cells slots Q pc lv (aI v :: aI z :: aO k i :: st) ad ns nt M := by
  intro H locs ls hw hS hl
  obtain ⟨q0, hq⟩ := wsM_get (cA := cA) (ad := ad) (M := M) hin
  have ix := ix_in hz hk.1
  refine va_iast C.1 C.2.1 C.2.2.2.2.2.2.2.1.1 (HW_P hw) (HW_D hw) hS q0 0 (cM_of hq (hk.2 cA ad i _ _ _ _)) rfl ix.1 hd.1 (fun H1 locs1 hP1 hD1 hS1 => ?_)
  have k9 := kk H1 locs1 ls (HW_put hw hin hq (by
    rw [uI_on, hk.2]
    rw [ix.2, upd_map] at hP1; exact hP1) (uI_off cA ad M z.toNat v)) hS1 hl
  rw [← hd.2] at k9
  exact k9
theorem w_zast (C : Cx l p s m args meth c cc own nL D cA b0 tab) {k i n : Nat} {z : Int} {v : Int} (hd : DI cc pc .bastore 1 pc') (hin : inD ns nt k i) (hk : ZA k n) (hz : 0 ≤ z ∧ z < n) (hv : v = 0 ∨ v = 1) (kk : Wm p l e R s m args below meth c nL D cA b0 cells slots Q pc' lv st ad ns nt (uI M k i z.toNat v)) : Wm p l e R s m args below meth c nL D cA b0 cells slots Q pc lv (aI v :: aI z :: aO k i :: st) ad ns nt M := by
  intro H locs ls hw hS hl
  obtain ⟨q0, hq⟩ := wsM_get (cA := cA) (ad := ad) (M := M) hin
  have ix := ix_in hz hk.1
  refine va_zast C.1 C.2.1 C.2.2.2.2.2.2.2.1.1 (HW_P hw) (HW_D hw) hS q0 1 (cM_of hq (hk.2 cA ad i _ _ _ _)) rfl ix.1 hd.1 (fun H1 locs1 hP1 hD1 hS1 => ?_)
  have k9 := kk H1 locs1 ls (HW_put hw hin hq (by
    rw [uI_on, hk.2]
    rw [ix.2, nar_z hv, upd_map] at hP1; exact hP1) (uI_off cA ad M z.toNat v)) hS1 hl
  rw [← hd.2] at k9
  exact k9
theorem w_cast (C : Cx l p s m args meth c cc own nL D cA b0 tab) {k i n : Nat} {z : Int} {v : Int} (hd : DI cc pc .castore 1 pc') (hin : inD ns nt k i) (hk : CA k n) (hz : 0 ≤ z ∧ z < n) (hv : 0 ≤ v ∧ v ≤ 65535) (kk : Wm p l e R s m args below meth c nL D cA b0 cells slots Q pc' lv st ad ns nt (uI M k i z.toNat v)) : Wm p l e R s m args below meth c nL D cA b0 cells slots Q pc lv (aI v :: aI z :: aO k i :: st) ad ns nt M := by
  intro H locs ls hw hS hl
  obtain ⟨q0, hq⟩ := wsM_get (cA := cA) (ad := ad) (M := M) hin
  have ix := ix_in hz hk.1
  refine va_cast C.1 C.2.1 C.2.2.2.2.2.2.2.1.1 (HW_P hw) (HW_D hw) hS q0 2 (cM_of hq (hk.2 cA ad i _ _ _ _)) rfl ix.1 hd.1 (fun H1 locs1 hP1 hD1 hS1 => ?_)
  have k9 := kk H1 locs1 ls (HW_put hw hin hq (by
    rw [uI_on, hk.2]
    rw [ix.2, nar_c hv, upd_map] at hP1; exact hP1) (uI_off cA ad M z.toNat v)) hS1 hl
  rw [← hd.2] at k9
  exact k9
theorem w_last (C : Cx l p s m args meth c cc own nL D cA b0 tab) {k i n : Nat} {z : Int} {v : Int} (hd : DI cc pc .lastore 1 pc') (hin : inD ns nt k i) (hk : LA k n) (hz : 0 ≤ z ∧ z < n) (kk : Wm p l e R s m args below meth c nL D cA b0 cells slots Q pc' lv st ad ns nt (uL M k i z.toNat v)) : Wm p l e R s m args below meth c nL D cA b0 cells slots Q pc lv (aL v :: aI z :: aO k i :: st) ad ns nt M := by
  intro H locs ls hw hS hl
  obtain ⟨q0, hq⟩ := wsM_get (cA := cA) (ad := ad) (M := M) hin
  have ix := ix_in hz hk.1
  refine va_last C.1 C.2.1 C.2.2.2.2.2.2.2.1.1 (HW_P hw) (HW_D hw) hS q0 3 (cM_of hq (hk.2 cA ad i _ _ _ _)) rfl ix.1 hd.1 (fun H1 locs1 hP1 hD1 hS1 => ?_)
  have k9 := kk H1 locs1 ls (HW_put hw hin hq (by
    rw [uL_on, hk.2]
    rw [ix.2, updL_map] at hP1; exact hP1) (uL_off cA ad M z.toNat v)) hS1 hl
  rw [← hd.2] at k9
  exact k9
theorem w_dast (C : Cx l p s m args meth c cc own nL D cA b0 tab) {k i n : Nat} {z : Int} {v : UInt64} (hd : DI cc pc .dastore 1 pc') (hin : inD ns nt k i) (hk : DA k n) (hz : 0 ≤ z ∧ z < n) (kk : Wm p l e R s m args below meth c nL D cA b0 cells slots Q pc' lv st ad ns nt (uD M k i z.toNat v)) : Wm p l e R s m args below meth c nL D cA b0 cells slots Q pc lv (aD v :: aI z :: aO k i :: st) ad ns nt M := by
  intro H locs ls hw hS hl
  obtain ⟨q0, hq⟩ := wsM_get (cA := cA) (ad := ad) (M := M) hin
  have ix := ix_in hz hk.1
  refine va_dast C.1 C.2.1 C.2.2.2.2.2.2.2.1.1 (HW_P hw) (HW_D hw) hS q0 4 (cM_of hq (hk.2 cA ad i _ _ _ _)) rfl ix.1 hd.1 (fun H1 locs1 hP1 hD1 hS1 => ?_)
  have k9 := kk H1 locs1 ls (HW_put hw hin hq (by
    rw [uD_on, hk.2]
    rw [ix.2] at hP1; exact hP1) (uD_off cA ad M z.toNat v)) hS1 hl
  rw [← hd.2] at k9
  exact k9
theorem w_aald (C : Cx l p s m args meth c cc own nL D cA b0 tab) {k i n q t : Nat} {nm : String} {z : Int} (hd : DI cc pc .aaload 1 pc') (hin : inD ns nt k i) (hk : RA k n q t) (hq9 : (tysT cA)[q]? = some (cA q, .object nm)) (hz : 0 ≤ z ∧ z < n) (kk : Wm p l e R s m args below meth c nL D cA b0 cells slots Q pc' lv (aR ((M.2.1 k i z.toNat).map fun j => (t, j)) :: st) ad ns nt M) : Wm p l e R s m args below meth c nL D cA b0 cells slots Q pc lv (aI z :: aO k i :: st) ad ns nt M := by
  intro H locs ls hw hS hl
  have k9 := kk H locs ls hw hS hl
  rw [← hd.2] at k9
  obtain ⟨q0, hq⟩ := wsM_get (cA := cA) (ad := ad) (M := M) hin
  have ix := ix_in hz hk.1
  refine va_aldq C.1 C.2.1 C.2.2.2.2.2.2.2.1.1 (HW_P hw) q0 q (cM_of hq (hk.2 cA ad i _ _ _ _)) hq9 ix.1 hd.1 ?_
  rw [ix.2]
  have e9 : va_rf ((M.2.1 k i z.toNat).map (ad t)) = tv ad (aR ((M.2.1 k i z.toNat).map fun j => (t, j))) := by cases M.2.1 k i z.toNat <;> rfl
  show W p l e R s m args below meth c H locs cells slots Q (F0 m (pc + 1) ls (va_rf ((M.2.1 k i z.toNat).map (ad t)) :: st.map (tv ad)))
  rw [e9]
  exact k9
theorem w_aast (C : Cx l p s m args meth c cc own nL D cA b0 tab) {k i n q t v ci : Nat} {r : vw_C} {fs : List Value} {z : Int} (hd : DI cc pc .aastore 1 pc') (hin : inD ns nt k i) (hk : RA k n q t) (hq9 : (tysT cA)[q]? = some (cA q, .object r.1)) (hc : clT[ci]? = some r) (hinv : inD ns nt t v) (hcv : cM cA ad M t v = .inr (ci, fs)) (hz : 0 ≤ z ∧ z < n) (kk : Wm p l e R s m args below meth c nL D cA b0 cells slots Q pc' lv st ad ns nt (uR M k i z.toNat (some v))) : Wm p l e R s m args below meth c nL D cA b0 cells slots Q pc lv (aO t v :: aI z :: aO k i :: st) ad ns nt M := by
  intro H locs ls hw hS hl
  obtain ⟨q0, hq⟩ := wsM_get (cA := cA) (ad := ad) (M := M) hin
  obtain ⟨q1, hq1⟩ := wsM_get (cA := cA) (ad := ad) (M := M) hinv
  have ix := ix_in hz hk.1
  refine va_astq C.1 C.2.1 C.2.2.2.2.2.2.2.1.1 (HW_P hw) (HW_D hw) hS q0 q q1 ci (cM_of hq (hk.2 cA ad i _ _ _ _)) hq9 (cM_of hq1 hcv) hc ix.1 hd.1 (fun H1 locs1 hP1 hD1 hS1 => ?_)
  have k9 := kk H1 locs1 ls (HW_put hw hin hq (by
    rw [uR_on, hk.2]
    rw [ix.2, updR_map] at hP1; exact hP1) (uR_off cA ad M z.toNat (some v))) hS1 hl
  rw [← hd.2] at k9
  exact k9
/-- a field read -/
theorem w_getG (C : Cx l p s m args meth c cc own nL D cA b0 tab) {k i ci N index sl : Nat} {ref Cn : String} {T : u_T} {fs : List Value} {v : AV} (hd : DI cc pc (.getfield index) 3 pc') (hin : inD ns nt k i) (he : cM cA ad M k i = .inr (ci, fs)) (hc : clT[ci]? = some (Cn, T, N)) (hsl : sl < N) (hws : ∀ w ∈ u_ws Cn T N, w ∈ GW) (hlk : Cond.fieldLink own index ref (T sl).2.1 (T sl).2.2.1 ∈ GW) (hrf : (T sl).1 = ref)
    (hv : fs[sl]? = some (tv ad v)) (kk : Wm p l e R s m args below meth c nL D cA b0 cells slots Q pc' lv (v :: st) ad ns nt M) : Wm p l e R s m args below meth c nL D cA b0 cells slots Q pc lv (aO k i :: st) ad ns nt M := by
  intro H locs ls hw hS hl
  have k9 := kk H locs ls hw hS hl
  rw [← hd.2] at k9
  obtain ⟨q0, hq⟩ := wsM_get (cA := cA) (ad := ad) (M := M) hin
  exact va_get C.1 C.2.1 C.2.2.2.2.1 hws C.2.2.2.1 C.2.2.2.2.2.2.2.1.1 (HW_P hw) q0 (cM_of hq he) hc sl hsl (C.2.2.2.2.1 _ hlk) (fun x h => by rw [← hrf]; exact h) hv hd.1 k9
/-- a field written -/
theorem w_putG (C : Cx l p s m args meth c cc own nL D cA b0 tab) {k i ci N index sl : Nat} {ref Cn : String} {T : u_T} {fs : List Value} {v : AV} {M' : Mem} {ty : FieldType} (ty0 : Nat → FieldType) (hd : DI cc pc (.putfield index) 3 pc') (hin : inD ns nt k i) (he : cM cA ad M k i = .inr (ci, fs)) (hc : clT[ci]? = some (Cn, T, N)) (hsl : sl < N) (hfl : sl < fs.length) (hws : ∀ w ∈ u_ws Cn T N, w ∈ GW) (hlk : Cond.fieldLink own index ref (T sl).2.1 (T sl).2.2.1 ∈ GW) (hrf : (T sl).1 = ref)
    (hty : ∀ k, k < N → parseFieldDescriptor (T k).2.2.1 = some (ty0 k)) (hnm : ∀ a, a < N → ∀ b, b < N → a ≠ b → (T a).2.1 ≠ (T b).2.1) (hfin : (T sl).2.2.2 = false) (hds : ty0 sl = ty) (hn : narrow ty (tv ad v) = tv ad v) (hf : fits ty (tv ad v) = true)
    (h1 : cM cA ad M' k i = .inr (ci, fs.set sl (tv ad v))) (hoff : ∀ k' i', ¬ (k' = k ∧ i' = i) → cM cA ad M' k' i' = cM cA ad M k' i') (kk : Wm p l e R s m args below meth c nL D cA b0 cells slots Q pc' lv st ad ns nt M') : Wm p l e R s m args below meth c nL D cA b0 cells slots Q pc lv (v :: aO k i :: st) ad ns nt M := by
  intro H locs ls hw hS hl
  obtain ⟨q0, hq⟩ := wsM_get (cA := cA) (ad := ad) (M := M) hin
  refine va_put C.1 C.2.1 C.2.2.2.2.1 hws ty0 hty hnm C.2.2.2.1 C.2.2.2.2.2.2.2.1.1 (HW_P hw) (HW_D hw) hS q0 (cM_of hq he) hc sl hsl (C.2.2.2.2.1 _ hlk) (fun x h => by rw [← hrf]; exact h) hfin (by rw [hty sl hsl, hds]) hn hf hfl hd.1 (fun H1 locs1 hP1 hD1 hS1 => ?_)
  have k9 := kk H1 locs1 ls (HW_put hw hin hq (by rw [h1]; exact hP1) hoff) hS1 hl
  rw [← hd.2] at k9
  exact k9
/-- the end with a number (or a truth value, a character) -/
theorem w_iret (C : Cx l p s m args meth c cc own nL D cA b0 tab) {z : Int} {ty : FieldType} {P : PT} {X : PX} {mc ms : Nat} (hr : meth.sig.returnType = some ty) (hd : DI cc pc .ireturn 1 pc') (hn : narrow ty (.int (Int32.ofInt z)) = .int (Int32.ofInt z)) (hp : P (some (aI z)) M) (hc : cells ≤ mc) (hs : slots ≤ ms) : Wm p l e R s m args below meth c nL D cA b0 cells slots (vx_MQ below (mQ D cA b0 ad ns nt P) (mX D cA b0 ad ns nt X) args s mc ms (fun q => b0 ≤ q)) pc lv [aI z] ad ns nt M := fun H locs ls hw hS hl =>
  W.widen hc hs (vx_ret (W.zret C.1 C.2.1 hr hn (fun t ht hW => ⟨some (aI z), M, rfl, hp, by rw [ht]; exact hw, hS.F ht⟩) hS.2.2 hd.1 C.2.2.2.2.2.1))
theorem w_lret (C : Cx l p s m args meth c cc own nL D cA b0 tab) {z : Int} {P : PT} {X : PX} {mc ms : Nat} (hr : meth.sig.returnType = some .long) (hd : DI cc pc .lreturn 1 pc') (hp : P (some (aL z)) M) (hc : cells ≤ mc) (hs : slots ≤ ms) : Wm p l e R s m args below meth c nL D cA b0 cells slots (vx_MQ below (mQ D cA b0 ad ns nt P) (mX D cA b0 ad ns nt X) args s mc ms (fun q => b0 ≤ q)) pc lv [aL z] ad ns nt M := fun H locs ls hw hS hl =>
  W.widen hc hs (vx_ret (W.lret C.1 C.2.1 hr (fun t ht hW => ⟨some (aL z), M, rfl, hp, by rw [ht]; exact hw, hS.F ht⟩) hS.2.2 hd.1 C.2.2.2.2.2.1))
theorem w_fret (C : Cx l p s m args meth c cc own nL D cA b0 tab) {z : UInt32} {P : PT} {X : PX} {mc ms : Nat} (hr : meth.sig.returnType = some .float) (hd : DI cc pc .freturn 1 pc') (hp : P (some (aF z)) M) (hc : cells ≤ mc) (hs : slots ≤ ms) : Wm p l e R s m args below meth c nL D cA b0 cells slots (vx_MQ below (mQ D cA b0 ad ns nt P) (mX D cA b0 ad ns nt X) args s mc ms (fun q => b0 ≤ q)) pc lv [aF z] ad ns nt M := fun H locs ls hw hS hl =>
  W.widen hc hs (vx_ret (W.fret C.1 C.2.1 hr (fun t ht hW => ⟨some (aF z), M, rfl, hp, by rw [ht]; exact hw, hS.F ht⟩) hS.2.2 hd.1 C.2.2.2.2.2.1))
theorem w_dret (C : Cx l p s m args meth c cc own nL D cA b0 tab) {z : UInt64} {P : PT} {X : PX} {mc ms : Nat} (hr : meth.sig.returnType = some .double) (hd : DI cc pc .dreturn 1 pc') (hp : P (some (aD z)) M) (hc : cells ≤ mc) (hs : slots ≤ ms) : Wm p l e R s m args below meth c nL D cA b0 cells slots (vx_MQ below (mQ D cA b0 ad ns nt P) (mX D cA b0 ad ns nt X) args s mc ms (fun q => b0 ≤ q)) pc lv [aD z] ad ns nt M := fun H locs ls hw hS hl =>
  W.widen hc hs (vx_ret (W.dret C.1 C.2.1 hr (fun t ht hW => ⟨some (aD z), M, rfl, hp, by rw [ht]; exact hw, hS.F ht⟩) hS.2.2 hd.1 C.2.2.2.2.2.1))
theorem w_aret (C : Cx l p s m args meth c cc own nL D cA b0 tab) {r : Option (Nat × Nat)} {ty : FieldType} {P : PT} {X : PX} {mc ms : Nat} (hr : meth.sig.returnType = some ty) (hty : (∃ n, ty = .object n) ∨ ∃ t, ty = .array t) (hd : DI cc pc .areturn 1 pc') (hp : P (some (aR r)) M) (hc : cells ≤ mc) (hs : slots ≤ ms) : Wm p l e R s m args below meth c nL D cA b0 cells slots (vx_MQ below (mQ D cA b0 ad ns nt P) (mX D cA b0 ad ns nt X) args s mc ms (fun q => b0 ≤ q)) pc lv [aR r] ad ns nt M := fun H locs ls hw hS hl =>
  W.widen hc hs (vx_ret (W.aret C.1 C.2.1 hr hty (by cases r with | none => exact Or.inl rfl | some q => exact Or.inr ⟨_, rfl⟩) (fun t ht hW => ⟨some (aR r), M, rfl, hp, by rw [ht]; exact hw, hS.F ht⟩) hS.2.2 hd.1 C.2.2.2.2.2.1))
theorem w_vret (C : Cx l p s m args meth c cc own nL D cA b0 tab) {P : PT} {X : PX} {mc ms : Nat} (hr : meth.sig.returnType = none) (hd : DI cc pc .return_ 1 pc') (hp : P none M) (hc : cells ≤ mc) (hs : slots ≤ ms) : Wm p l e R s m args below meth c nL D cA b0 cells slots (vx_MQ below (mQ D cA b0 ad ns nt P) (mX D cA b0 ad ns nt X) args s mc ms (fun q => b0 ≤ q)) pc lv [] ad ns nt M := fun H locs ls hw hS hl =>
  W.widen hc hs (vx_ret (W.vret C.1 C.2.1 hr (fun t ht hW => ⟨none, M, rfl, hp, by rw [ht]; exact hw, hS.F ht⟩) hS.2.2 hd.1 C.2.2.2.2.2.1))
theorem Wm.lsub {lv' : Lv} (h : lsub lv lv') (kk : Wm p l e R s m args below meth c nL D cA b0 cells slots Q pc lv' st ad ns nt M) : Wm p l e R s m args below meth c nL D cA b0 cells slots Q pc lv st ad ns nt M := fun H locs ls hw hS hl => kk H locs ls hw hS (lsub_has hl h)
theorem Wm.widen {c2 s2 : Nat} (h1 : cells ≤ c2) (h2 : slots ≤ s2) (kk : Wm p l e R s m args below meth c nL D cA b0 c2 s2 Q pc lv st ad ns nt M) : Wm p l e R s m args below meth c nL D cA b0 cells slots Q pc lv st ad ns nt M := fun H locs ls hw hS hl => W.widen h1 h2 (kk H locs ls hw hS hl)
end Rows
end
section
section Rows
variable {p : Program} {l : Launch} {e : Env} {R : Room} {s : State} {m : MethodId} {args : Array Value} {below : List Frame} {meth : Method} {c : Code} {nL : Nat} {D : va_G} {cA : Nat → ClassId} {b0 cells slots : Nat} {Q : State → Prop} {lv : Lv} {st : List AV} {ad : Ads} {ns nt : Nat} {M : Mem} {cc : ByteArray} {own : String} {tab : List ExceptionTableEntry} {pc pc' : Nat}
theorem my_call {P : PT} {X : PX} {mc ms : Nat} {ls : Array Slot} {st0 rest : List Value} {a : Array Value} {H : Heap} {locs : List Loc}
    (hr : vx_Run p l e R s m args below meth c H locs cells slots mc ms (F0 m pc ls st0) rest (mQ D cA b0 ad ns nt P a) (mX D cA b0 ad ns nt X) (fun q => b0 ≤ q)) (hS : va_S (fun q => b0 ≤ q) s.heap H locs)
    (kx : ∀ (E : String) (ce : Cell) (q9 : Addr) (M' : Mem) (H1 : Heap) (locs1 : List Loc), X E M' → HW D cA b0 ad ns nt M' H1 → va_S (fun q => b0 ≤ q) s.heap H1 locs1 → H1[q9]? = some ce → ce.vm = .none → s.vm.findClass E = some ce.cls → vx_W p l e R s m args below meth c H1 locs1 (cells + mc) (slots + ms) Q (F0 m pc ls rest) q9)
    (kk : ∀ (r : Option AV) (M' : Mem) (H1 : Heap) (locs1 : List Loc), P r M' → HW D cA b0 ad ns nt M' H1 → va_S (fun q => b0 ≤ q) s.heap H1 locs1 → W p l e R s m args below meth c H1 locs1 (cells + mc) (slots + ms) Q (F0 m (pc + 3) ls ((r.map (tv ad)).toList ++ rest))) :
    W p l e R s m args below meth c H locs cells slots Q (F0 m pc ls st0) := by
  intro T hT X0
  rcases hr T hT X0 with ⟨v, st₀, t, T', L, h0, X', hL, e1, e2, ⟨r, M', hv, hp, hb, hF⟩, st1⟩ | ⟨q, st₀, t, T', L, E, ce, h0, X', hL, e1, e2, ⟨M', hp, hb, hF⟩, hce, hcv, hcl, st1⟩
  · cases hv
    obtain ⟨k1, k2, k3⟩ := vx_keep h0 e1 hS (fun _ _ h => h) (fun _ h => h) hL hF
    obtain ⟨t2, a1, b1⟩ := kk r M' T'.heap (locs ++ L) hp (by rw [e1]; exact hb) k3 T' rfl X'
    exact ⟨t2, st1 t2 a1, b1⟩
  · obtain ⟨k1, k2, k3⟩ := vx_keep h0 e1 hS (fun _ _ h => h) (fun _ h => h) hL hF
    obtain ⟨t2, a1, b1⟩ := kx E ce q M' T'.heap (locs ++ L) hp (by rw [e1]; exact hb) k3 (by rw [e1]; exact hce) hcv hcl T' rfl X'
    exact ⟨t2, st1.trans a1, b1⟩
/-- what is thrown over a frame, from every heap that holds the memory -/
def Xm (p : Program) (l : Launch) (e : Env) (R : Room) (s : State) (m : MethodId) (args : Array Value) (below : List Frame) (meth : Method) (c : Code) (nL : Nat) (D : va_G) (cA : Nat → ClassId) (b0 cells slots : Nat) (Q : State → Prop) (pc : Nat) (lv : Lv) (st : List AV) (ad : Ads) (ns nt : Nat) (M : Mem) (E : String) : Prop :=
  ∀ (H : Heap) (locs : List Loc) (ls : Array Slot) (ce : Cell) (q9 : Addr), HW D cA b0 ad ns nt M H → va_S (fun q => b0 ≤ q) s.heap H locs → lv_has ls nL (lvm ad lv) → H[q9]? = some ce → ce.vm = .none → s.vm.findClass E = some ce.cls → vx_W p l e R s m args below meth c H locs cells slots Q (F0 m pc ls (st.map (tv ad))) q9
def MOK (y : MethodName) (bytes : ByteArray) (maxL : Nat) (ret : Option FieldType) (n : Nat) : Prop :=
  Cond.initialized y.cls ∈ GW ∧ Cond.code y bytes maxL ret ∈ GW ∧ (y.cls ≠ "java/lang/invoke/MethodHandle" ∧ y.cls ≠ "java/lang/invoke/VarHandle") ∧ (parseMethodDescriptor y.desc).map (fun d => d.parameters.length) = some n
def VOK (y : MethodName) : Prop := Cond.instanceMethod y ∈ GW ∧ Cond.selects y.cls y y ∈ GW
theorem ws_good {y : MethodName} {bytes : ByteArray} {maxL : Nat} {ret : Option FieldType} (hm : Cond.code y bytes maxL ret ∈ GW) {a0 : Array Value} {s0 : State} (hts : ∀ w ∈ GW, w.before a0 s0 = true) : ∀ w ∈ Cond.code y bytes maxL ret :: GW, ∀ (a' : Array Value) (U : State), s0.WarmedH U.vm → w.before a' U = true := by
  intro w hw a' U hW
  have hg : w ∈ GW := by
    rcases List.mem_cons.mp hw with q | q
    · rw [q]; exact hm
    · exact q
  exact word_at hW (good_of_word (GW_good hg)) (hts w hg)
theorem con_blind {as : List AV} : FrameBlind (va_Pc (as.map (tv ad)) (fun U => HW D cA b0 ad ns nt M U.heap ∧ EV D cA b0 U)) := fun a U g mk h => ⟨h.1, h.2.1, EV.same rfl rfl h.2.2⟩
theorem stk_cat (ad : Ads) (st : List AV) : ((st.map (tv ad)).map fun v => v.category).sum = (st.map fun v => if cat2 v then 2 else 1).sum := by
  induction st with
  | nil => rfl
  | cons v t ih => simp only [List.map_cons, List.sum_cons, ih, tv_cat2]
theorem w_callV0 (C : Cx l p s m args meth c cc own nL D cA b0 tab) {y : MethodName} {bytes : ByteArray} {maxL n d mc ms idx k i ci N : Nat} {ret : Option FieldType} {P : PT} {X : PX} {as stk : List AV} {fs : List Value} {T : u_T} (hd : DI cc pc (.invokevirtual idx) 3 pc') (hcon : Con l b0 y bytes maxL ret d mc ms (aO k i :: as) ad ns nt M P X) (hm : MOK y bytes maxL ret n) (hv : VOK y) (hk : Cond.methodLink own idx y ∈ GW) (hin : inD ns nt k i) (he : cM cA ad M k i = .inr (ci, fs)) (hc : clT[ci]? = some (y.cls, T, N))
    (hst : stk = as.reverse ++ aO k i :: st) (hn : as.length = n) (hroom : d + 1 ≤ R.frames ∧ 8 + (maxL + 11) + 40 * d ≤ R.locals ∧ cells + mc ≤ R.cells ∧ slots + ms ≤ R.slots) (hwt : (st.map fun v => if cat2 v then 2 else 1).sum ≤ 8)
    (kx : ∀ (E : String) (M' : Mem), X E M' → Xm p l e R s m args below meth c nL D cA b0 (cells + mc) (slots + ms) Q pc lv st ad ns nt M' E) (kk : ∀ (r : Option AV) (M' : Mem), P r M' → Wm p l e R s m args below meth c nL D cA b0 (cells + mc) (slots + ms) Q pc' lv (r.toList ++ st) ad ns nt M') : Wm p l e R s m args below meth c nL D cA b0 cells slots Q pc lv stk ad ns nt M := by
  intro H locs ls hw hS hl
  obtain ⟨q0, hq⟩ := wsM_get (cA := cA) (ad := ad) (M := M) hin
  have hrecv := va_recv C.2.2.2.2.2.2.2.1.1 (HW_P hw) hc (cM_of hq he)
  have hN : ∀ sig, parseMethodDescriptor y.desc = some sig → n = sig.parameters.length := fun sig h => by
    have h2 := hm.2.2.2
    rw [h] at h2
    exact (Option.some.inj h2).symm
  refine my_call (rest := st.map (tv ad)) (vx_runV (C := y.cls) (n := n) (As := as.map (tv ad)) (b := ad k i) (rest := st.map (tv ad)) ⟨C.1, C.2.1, C.2.2.1, C.2.2.2.1, C.2.2.2.2.1⟩ (hcon D cA) ⟨⟨rfl, rfl, hroom.1, hroom.2.1, ws_good hm.2.1 C.2.2.2.2.1, List.mem_cons_self, C.2.2.2.2.1 _ hm.2.1, C.2.2.2.2.1 _ hm.1, hm.2.2.1, hN, C.2.2.2.2.1 _ hk⟩, C.2.2.2.2.1 _ hv.1, C.2.2.2.2.1 _ hv.2⟩ ⟨con_blind, hrecv, fun U hU hW => ⟨rfl, by rw [hU]; exact hw, EV.warm hW (by rw [hU]; exact hS) C.2.2.2.2.2.2.2.1⟩⟩ rfl (by rw [List.length_map]; exact hn) hl.1 (by rw [hst]; simp [List.map_append, List.map_reverse]; rfl) (lv_room (by rw [stk_cat]; exact hwt)) hd.1 ⟨hroom.2.2.1, hroom.2.2.2⟩) hS (fun E ce q9 M' H1 locs1 hX hw1 hS1 h1 h2 h3 => kx E M' hX H1 locs1 ls ce q9 hw1 hS1 hl h1 h2 h3) (fun r M' H1 locs1 hP hw1 hS1 => ?_)
  have k9 := kk r M' hP H1 locs1 ls hw1 hS1 hl
  rw [← hd.2] at k9
  have e9 : (r.toList ++ st).map (tv ad) = (r.map (tv ad)).toList ++ st.map (tv ad) := by cases r <;> rfl
  rw [e9] at k9
  exact k9
theorem w_callS0 (C : Cx l p s m args meth c cc own nL D cA b0 tab) {y : MethodName} {bytes : ByteArray} {maxL n d mc ms idx : Nat} {ret : Option FieldType} {P : PT} {X : PX} {as stk : List AV} (hd : DI cc pc (.invokestatic idx) 3 pc') (hcon : Con l b0 y bytes maxL ret d mc ms as ad ns nt M P X) (hm : MOK y bytes maxL ret n) (hv : Cond.static y ∈ GW) (hk : Cond.methodLink own idx y ∈ GW)
    (hst : stk = as.reverse ++ st) (hn : as.length = n) (hroom : d + 1 ≤ R.frames ∧ 8 + (maxL + 11) + 40 * d ≤ R.locals ∧ cells + mc ≤ R.cells ∧ slots + ms ≤ R.slots) (hwt : (st.map fun v => if cat2 v then 2 else 1).sum ≤ 8)
    (kx : ∀ (E : String) (M' : Mem), X E M' → Xm p l e R s m args below meth c nL D cA b0 (cells + mc) (slots + ms) Q pc lv st ad ns nt M' E) (kk : ∀ (r : Option AV) (M' : Mem), P r M' → Wm p l e R s m args below meth c nL D cA b0 (cells + mc) (slots + ms) Q pc' lv (r.toList ++ st) ad ns nt M') : Wm p l e R s m args below meth c nL D cA b0 cells slots Q pc lv stk ad ns nt M := by
  intro H locs ls hw hS hl
  have hN : ∀ sig, parseMethodDescriptor y.desc = some sig → n = sig.parameters.length := fun sig h => by
    have h2 := hm.2.2.2
    rw [h] at h2
    exact (Option.some.inj h2).symm
  refine my_call (rest := st.map (tv ad)) (vx_runS (n := n) (As := as.map (tv ad)) (rest := st.map (tv ad)) ⟨C.1, C.2.1, C.2.2.1, C.2.2.2.1, C.2.2.2.2.1⟩ (hcon D cA) ⟨⟨rfl, rfl, hroom.1, hroom.2.1, ws_good hm.2.1 C.2.2.2.2.1, List.mem_cons_self, C.2.2.2.2.1 _ hm.2.1, C.2.2.2.2.1 _ hm.1, hm.2.2.1, hN, C.2.2.2.2.1 _ hk⟩, C.2.2.2.2.1 _ hv⟩ ⟨con_blind, fun U hU hW => ⟨rfl, by rw [hU]; exact hw, EV.warm hW (by rw [hU]; exact hS) C.2.2.2.2.2.2.2.1⟩⟩ rfl (by rw [List.length_map]; exact hn) hl.1 (by rw [hst]; simp [List.map_append, List.map_reverse]) (lv_room (by rw [stk_cat]; exact hwt)) hd.1 ⟨hroom.2.2.1, hroom.2.2.2⟩) hS (fun E ce q9 M' H1 locs1 hX hw1 hS1 h1 h2 h3 => kx E M' hX H1 locs1 ls ce q9 hw1 hS1 hl h1 h2 h3) (fun r M' H1 locs1 hP hw1 hS1 => ?_)
  have k9 := kk r M' hP H1 locs1 ls hw1 hS1 hl
  rw [← hd.2] at k9
  have e9 : (r.toList ++ st).map (tv ad) = (r.map (tv ad)).toList ++ st.map (tv ad) := by cases r <;> rfl
  rw [e9] at k9
  exact k9
theorem w_callN0 (C : Cx l p s m args meth c cc own nL D cA b0 tab) {y : MethodName} {bytes : ByteArray} {maxL n d mc ms idx : Nat} {host : String} {ret : Option FieldType} {P : PT} {X : PX} {as stk : List AV} (hd : DI cc pc (.invokestatic idx) 3 pc') (hcon : Con l b0 y bytes maxL ret d mc ms as ad ns nt M P X) (hm : MOK y bytes maxL ret n) (hv : Cond.static y ∈ GW) (hk : (own, idx, y, host) ∈ nestL)
    (hst : stk = as.reverse ++ st) (hn : as.length = n) (hroom : d + 1 ≤ R.frames ∧ 8 + (maxL + 11) + 40 * d ≤ R.locals ∧ cells + mc ≤ R.cells ∧ slots + ms ≤ R.slots) (hwt : (st.map fun v => if cat2 v then 2 else 1).sum ≤ 8)
    (kx : ∀ (E : String) (M' : Mem), X E M' → Xm p l e R s m args below meth c nL D cA b0 (cells + mc) (slots + ms) Q pc lv st ad ns nt M' E) (kk : ∀ (r : Option AV) (M' : Mem), P r M' → Wm p l e R s m args below meth c nL D cA b0 (cells + mc) (slots + ms) Q pc' lv (r.toList ++ st) ad ns nt M') : Wm p l e R s m args below meth c nL D cA b0 cells slots Q pc lv stk ad ns nt M := by
  intro H locs ls hw hS hl
  have hN : ∀ sig, parseMethodDescriptor y.desc = some sig → n = sig.parameters.length := fun sig h => by
    have h2 := hm.2.2.2
    rw [h] at h2
    exact (Option.some.inj h2).symm
  refine my_call (rest := st.map (tv ad)) (vx_runSN (n := n) (host := host) (As := as.map (tv ad)) (rest := st.map (tv ad)) ⟨C.1, C.2.1, C.2.2.1, C.2.2.2.1, C.2.2.2.2.1⟩ (hcon D cA) ⟨⟨⟨rfl, rfl, hroom.1, hroom.2.1, ws_good hm.2.1 C.2.2.2.2.1, List.mem_cons_self⟩, C.2.2.2.2.1 _ hm.2.1, C.2.2.2.2.1 _ hm.1, hm.2.2.1, hN, va_Nw.use rfl (C.2.2.2.2.2.2.2.1.2.2.2.2.2.1 _ hk)⟩, C.2.2.2.2.1 _ hv, trivial⟩ ⟨con_blind, fun U hU hW => ⟨rfl, by rw [hU]; exact hw, EV.warm hW (by rw [hU]; exact hS) C.2.2.2.2.2.2.2.1⟩⟩ rfl (by rw [List.length_map]; exact hn) hl.1 (by rw [hst]; simp [List.map_append, List.map_reverse]) (lv_room (by rw [stk_cat]; exact hwt)) hd.1 ⟨hroom.2.2.1, hroom.2.2.2⟩) hS (fun E ce q9 M' H1 locs1 hX hw1 hS1 h1 h2 h3 => kx E M' hX H1 locs1 ls ce q9 hw1 hS1 hl h1 h2 h3) (fun r M' H1 locs1 hP hw1 hS1 => ?_)
  have k9 := kk r M' hP H1 locs1 ls hw1 hS1 hl
  rw [← hd.2] at k9
  have e9 : (r.toList ++ st).map (tv ad) = (r.map (tv ad)).toList ++ st.map (tv ad) := by cases r <;> rfl
  rw [e9] at k9
  exact k9
/-- out of a method without handlers -/
theorem x_out (C : Cx l p s m args meth c cc own nL D cA b0 []) {P : PT} {X : PX} {mc ms : Nat} {E : String} (hX : X E M) (hc : cells ≤ mc) (hs : slots ≤ ms) : Xm p l e R s m args below meth c nL D cA b0 cells slots (vx_MQ below (mQ D cA b0 ad ns nt P) (mX D cA b0 ad ns nt X) args s mc ms (fun q => b0 ≤ q)) pc lv st ad ns nt M E := fun H locs ls ce q9 hw hS hl h1 h2 h3 =>
  vx_out (fun x hx => by rw [C.2.2.2.2.2.2.2.2] at hx; cases hx) C.2.2.2.2.2.1 h1 h2 h3 (fun t ht hA => ⟨M, hX, by rw [ht]; exact hw, hS.F ht⟩) hS.2.2 hc hs
/-- new E(text), thrown here -/
def TOK (own : String) (ik ic : Nat) (cls : String) (names : List String) : Prop :=
  Bundle.fit cls = true ∧ (∀ n ∈ names, Bundle.fit n = true) ∧ names.length ≤ 3 ∧ Cond.classLink own ik cls ∈ GW ∧ Cond.initialized cls ∈ GW ∧ (∀ w ∈ (vx_atS own ic cls names).filter goodWord, w ∈ GW) ∧ (∀ w ∈ (vx_atS own ic cls names).filter (fun w => !goodWord w), w ∈ Cond.castable cls cls :: declL.map Cond.declares) ∧ (cls, cls) ∈ castL ∧ (∀ w ∈ Cond.classLink own ik cls :: Cond.initialized cls :: vx_atS own ic cls names, vx_ot w = true)
theorem throwB (C : Cx l p s m args meth c cc own nL D cA b0 tab) {cls : String} (h8 : (cls, cls) ∈ castL) : ∀ w ∈ Cond.castable cls cls :: declL.map Cond.declares, w.before args s = true := by
  intro w hw
  rcases List.mem_cons.mp hw with h | h
  · rw [h]; exact CaP.use (C.2.2.2.2.2.2.2.1.2.2.2.2.2.2.1 _ h8)
  · obtain ⟨x, hx, rfl⟩ := List.mem_map.mp h
    exact va_Nw.use rfl (C.2.2.2.2.2.2.2.1.2.2.2.2.2.2.2.2 x hx)
theorem w_throw (C : Cx l p s m args meth c cc own nL D cA b0 []) {P : PT} {X : PX} {mc ms ik is ic p3 p4 p6 p9 p10 : Nat} {cls text : String} {names : List String} (hk : TOK own ik ic cls names) (hstr : (own, is, text) ∈ strL) (d0 : DI cc pc (.new ik) 3 p3) (d3 : DI cc p3 .dup 1 p4) (d4 : DI cc p4 (.ldc is) 2 p6) (d6 : DI cc p6 (.invokespecial ic) 3 p9) (d9 : DI cc p9 .athrow 1 p10)
    (hroom : 6 < R.frames ∧ 103 ≤ R.locals ∧ cells + 1 ≤ R.cells ∧ slots + 6 ≤ R.slots) (hwt : (st.map fun v => if cat2 v then 2 else 1).sum ≤ 8) (hX : X cls M) (hc : cells + 1 ≤ mc) (hs : slots + 6 ≤ ms) : Wm p l e R s m args below meth c nL D cA b0 cells slots (vx_MQ below (mQ D cA b0 ad ns nt P) (mX D cA b0 ad ns nt X) args s mc ms (fun q => b0 ≤ q)) pc lv st ad ns nt M := by
  intro H locs ls hw hS hl
  obtain ⟨h1, h2, h3, h4, h5, h6, h7, h8, h9⟩ := hk
  obtain ⟨sa, hsa⟩ := C.2.2.2.2.2.2.2.1.2.2.2.2.1 _ hstr
  have q3 : pc + 3 = p3 := d0.2
  have q4 : pc + 4 = p4 := by rw [← d3.2, ← q3]
  have q6 : pc + 6 = p6 := by rw [← d4.2, ← q4]
  have q9 : pc + 9 = p9 := by rw [← d6.2, ← q6]
  exact vx_throwS (sa := sa) C.1 C.2.1 C.2.2.2.2.2.2.1 C.2.2.2.1 h1 h2 (C.2.2.2.2.1 _ h4) (C.2.2.2.2.1 _ h5) hsa (vx_hat (B := Cond.castable cls cls :: declL.map Cond.declares) (fun w hw => C.2.2.2.2.1 _ (h6 w hw)) h7 (throwB C h8)) h9 C.2.2.2.2.2.2.2.1.2.1 C.2.2.2.2.2.2.2.1.2.2.1 hS (by rw [hl.1, C.2.2.1]) d0.1 (by rw [q3]; exact d3.1) (by rw [q4]; exact d4.1) (by rw [q6]; exact d6.1) (by rw [q9]; exact d9.1)
    (fun x hx => by rw [C.2.2.2.2.2.2.2.2] at hx; cases hx) (by omega) (by rw [stk_cat]; omega) hroom.2.2.1 hroom.2.2.2 C.2.2.2.2.2.1
    (fun t hA hz hk9 => ⟨M, hX, ⟨fun k i hi => (hw.1 k i hi).kept (hk9 _ (hw.1 k i hi).lt), hw.2.1, hw.2.2⟩, ⟨Nat.le_trans hS.1 hz, fun q a1 a2 => (hk9 q (Nat.lt_of_lt_of_le a1 hS.1)).trans (hS.2.1 q a1 a2)⟩⟩) hS.2.2 hc hs
theorem w_throwW (C : Cx l p s m args meth c cc own nL D cA b0 []) {P : PT} {X : PX} {mc ms ik is ic p3 p4 p7 p10 p11 : Nat} {cls text : String} {names : List String} (hk : TOK own ik ic cls names) (hstr : (own, is, text) ∈ strL) (d0 : DI cc pc (.new ik) 3 p3) (d3 : DI cc p3 .dup 1 p4) (d4 : DI cc p4 (.ldc_w is) 3 p7) (d6 : DI cc p7 (.invokespecial ic) 3 p10) (d9 : DI cc p10 .athrow 1 p11)
    (hroom : 6 < R.frames ∧ 103 ≤ R.locals ∧ cells + 1 ≤ R.cells ∧ slots + 6 ≤ R.slots) (hwt : (st.map fun v => if cat2 v then 2 else 1).sum ≤ 8) (hX : X cls M) (hc : cells + 1 ≤ mc) (hs : slots + 6 ≤ ms) : Wm p l e R s m args below meth c nL D cA b0 cells slots (vx_MQ below (mQ D cA b0 ad ns nt P) (mX D cA b0 ad ns nt X) args s mc ms (fun q => b0 ≤ q)) pc lv st ad ns nt M := by
  intro H locs ls hw hS hl
  obtain ⟨h1, h2, h3, h4, h5, h6, h7, h8, h9⟩ := hk
  obtain ⟨sa, hsa⟩ := C.2.2.2.2.2.2.2.1.2.2.2.2.1 _ hstr
  have q3 : pc + 3 = p3 := d0.2
  have q4 : pc + 4 = p4 := by rw [← d3.2, ← q3]
  have q6 : pc + 7 = p7 := by rw [← d4.2, ← q4]
  have q9 : pc + 10 = p10 := by rw [← d6.2, ← q6]
  exact vx_throwSW (sa := sa) C.1 C.2.1 C.2.2.2.2.2.2.1 C.2.2.2.1 h1 h2 (C.2.2.2.2.1 _ h4) (C.2.2.2.2.1 _ h5) hsa (vx_hat (B := Cond.castable cls cls :: declL.map Cond.declares) (fun w hw => C.2.2.2.2.1 _ (h6 w hw)) h7 (throwB C h8)) h9 C.2.2.2.2.2.2.2.1.2.1 C.2.2.2.2.2.2.2.1.2.2.1 hS (by rw [hl.1, C.2.2.1]) d0.1 (by rw [q3]; exact d3.1) (by rw [q4]; exact d4.1) (by rw [q6]; exact d6.1) (by rw [q9]; exact d9.1)
    (fun x hx => by rw [C.2.2.2.2.2.2.2.2] at hx; cases hx) (by omega) (by rw [stk_cat]; omega) hroom.2.2.1 hroom.2.2.2 C.2.2.2.2.2.1
    (fun t hA hz hk9 => ⟨M, hX, ⟨fun k i hi => (hw.1 k i hi).kept (hk9 _ (hw.1 k i hi).lt), hw.2.1, hw.2.2⟩, ⟨Nat.le_trans hS.1 hz, fun q a1 a2 => (hk9 q (Nat.lt_of_lt_of_le a1 hS.1)).trans (hS.2.1 q a1 a2)⟩⟩) hS.2.2 hc hs
theorem sl_len (ad : Ads) (as : List AV) : (lg_sl (as.map (tv ad))).length = (as.map fun v => if cat2 v then 2 else 1).sum := by
  induction as with
  | nil => rfl
  | cons v t ih =>
    have h : lg_sl ((v :: t).map (tv ad)) = (if (tv ad v).category = 2 then [.val (tv ad v), .second] else [.val (tv ad v)]) ++ lg_sl (t.map (tv ad)) := by
      simp [lg_sl]
    rw [h, List.length_append, ih, List.map_cons, List.sum_cons, tv_cat2]
    cases cat2 v <;> rfl
theorem Con.of {y : MethodName} {nLx d mc ms : Nat} {ret : Option FieldType} {as : List AV} {P : PT} {X : PX} (hl : l.stackTraces = false) (hpl : plainName y.cls = true) (hlen : (as.map fun v => if cat2 v then 2 else 1).sum ≤ nLx)
    (body : ∀ (D : va_G) (cA : Nat → ClassId) (p : Program) (e : Env) (s : State) (m : MethodId) (args : Array Value) (below : List Frame) (meth : Method) (c : Code), Cx l p s m args meth c cc y.cls nLx D cA b0 [] → meth.sig.returnType = ret →
      Wm p l e (rmd d mc ms) s m args below meth c nLx D cA b0 0 0 (vx_MQ below (mQ D cA b0 ad ns nt P) (mX D cA b0 ad ns nt X) args s mc ms (fun q => b0 ≤ q)) 0 (avargs 0 as) [] ad ns nt M) : Con l b0 y cc nLx ret d mc ms as ad ns nt M P X := by
  intro D cA
  refine vx_ofW (cc := cc) (maxL := nLx) (ret := ret) hpl rfl ?_
  intro p e s m args below meth c s₁ B hml ht hv
  obtain ⟨rfl, hw, hev⟩ := hv
  have hts := atoms_spec (ws := .code y cc nLx ret :: GW) B.pre
  have hown : s.vm.findClass y.cls = some m.cls := findClass_of_methodNamed B.named
  have htab : c.exceptionTable.toList = [] := List.eq_nil_iff_forall_not_mem.mpr ht
  have C : Cx l p s m (as.map (tv ad)).toArray meth c cc y.cls nLx D cA b0 [] := ⟨B.exec, B.bytes, hml, hown, fun w h => hts w (List.mem_cons_of_mem _ h), B.notSynchronized, hl, hev, htab⟩
  have k := body D cA p e s m _ below meth c C B.returns
  have hent := lv_entry (as.map (tv ad)) (n := nLx) (by rw [sl_len]; exact hlen)
  rw [avargs_lv] at hent
  rw [lg_entry_eq]
  exact k s.heap [] _ hw va_S.rf hent
end Rows
end
section
theorem mT0 {i : Nat} {w : Cond} (h : (k2_sels lw_privs)[i]? = some w) (hg : goodWord w = true) : w ∈ GW := List.mem_filter.mpr ⟨List.mem_append_left _ (List.mem_of_getElem? h), hg⟩
theorem mT1 {i : Nat} {w : Cond} (h : tables_1_1[i]? = some w) (hg : goodWord w = true) : w ∈ GW := List.mem_filter.mpr ⟨List.mem_append_right _ (List.mem_append_left _ (List.mem_of_getElem? h)), hg⟩
theorem mT2 {i : Nat} {w : Cond} (h : tables_1_2[i]? = some w) (hg : goodWord w = true) : w ∈ GW := List.mem_filter.mpr ⟨List.mem_append_right _ (List.mem_append_right _ (List.mem_append_left _ (List.mem_of_getElem? h))), hg⟩
theorem mT3 {i : Nat} {w : Cond} (h : tables_1_3[i]? = some w) (hg : goodWord w = true) : w ∈ GW := List.mem_filter.mpr ⟨List.mem_append_right _ (List.mem_append_right _ (List.mem_append_right _ (List.mem_append_left _ (List.mem_of_getElem? h)))), hg⟩
theorem mT4 {i : Nat} {w : Cond} (h : tables_1_4[i]? = some w) (hg : goodWord w = true) : w ∈ GW := List.mem_filter.mpr ⟨List.mem_append_right _ (List.mem_append_right _ (List.mem_append_right _ (List.mem_append_right _ (List.mem_append_left _ (List.mem_of_getElem? h))))), hg⟩
theorem mT5 {i : Nat} {w : Cond} (h : tables_1_5[i]? = some w) (hg : goodWord w = true) : w ∈ GW := List.mem_filter.mpr ⟨List.mem_append_right _ (List.mem_append_right _ (List.mem_append_right _ (List.mem_append_right _ (List.mem_append_right _ (List.mem_append_left _ (List.mem_of_getElem? h)))))), hg⟩
theorem mT6 {i : Nat} {w : Cond} (h : tables_1_6[i]? = some w) (hg : goodWord w = true) : w ∈ GW := List.mem_filter.mpr ⟨List.mem_append_right _ (List.mem_append_right _ (List.mem_append_right _ (List.mem_append_right _ (List.mem_append_right _ (List.mem_append_right _ (List.mem_append_left _ (List.mem_of_getElem? h))))))), hg⟩
theorem mT7 {i : Nat} {w : Cond} (h : tables_1_7[i]? = some w) (hg : goodWord w = true) : w ∈ GW := List.mem_filter.mpr ⟨List.mem_append_right _ (List.mem_append_right _ (List.mem_append_right _ (List.mem_append_right _ (List.mem_append_right _ (List.mem_append_right _ (List.mem_append_right _ (List.mem_of_getElem? h))))))), hg⟩
theorem mGs (ws : List Cond) (ps : List Nat) (hp : ws = ps.filterMap (fun i => lw_tbl[i]?)) (h : ws.all goodWord = true) : ∀ w ∈ ws, w ∈ GW := fun w hw => by
  have h1 := List.all_eq_true.mp h w hw
  rw [hp] at hw
  obtain ⟨i, -, hi⟩ := List.mem_filterMap.mp hw
  exact mG hi h1
theorem rf_tv (ad : Ads) (t : Nat) (r : Option Nat) : va_rf (r.map (ad t)) = tv ad (aR (r.map fun j => (t, j))) := by cases r <;> rfl
theorem wi_X0 : ∀ w ∈ u_ws RX0 TX0 7, w ∈ GW := mGs _ [117, 119, 121, 123, 125, 127, 129] (by decide +kernel) (by decide +kernel)
theorem wi_X1 : ∀ w ∈ u_ws RX1 TX1 8, w ∈ GW := mGs _ [188, 190, 192, 194, 196, 198, 200, 202] (by decide +kernel) (by decide +kernel)
theorem wi_X2 : ∀ w ∈ u_ws RX2 TX2 6, w ∈ GW := mGs _ [527, 529, 531, 533, 535, 537] (by decide +kernel) (by decide +kernel)
theorem wi_X3 : ∀ w ∈ u_ws RX3 TX3 7, w ∈ GW := mGs _ [159, 161, 163, 165, 167, 169, 171] (by decide +kernel) (by decide +kernel)
theorem wi_X4 : ∀ w ∈ u_ws RX4 TX4 11, w ∈ GW := mGs _ [559, 561, 563, 565, 567, 569, 571, 573, 575, 577, 579] (by decide +kernel) (by decide +kernel)
theorem wi_X5 : ∀ w ∈ u_ws RX5 TX5 2, w ∈ GW := mGs _ [929, 931] (by decide +kernel) (by decide +kernel)
theorem wi_X6 : ∀ w ∈ u_ws RX6 TX6 11, w ∈ GW := mGs _ [220, 222, 224, 226, 228, 230, 232, 234, 236, 238, 240] (by decide +kernel) (by decide +kernel)
theorem wi_X7 : ∀ w ∈ u_ws RX7 TX7 49, w ∈ GW := mGs _ [1234, 1236, 1238, 1240, 1242, 1244, 1246, 1248, 1250, 1252, 1254, 1256, 1258, 1260, 1262, 1264, 1266, 1268, 1270, 1272, 1274, 1276, 1278, 1280, 1282, 1284, 1286, 1288, 1290, 1292, 1294, 1296, 1298, 1300, 1302, 1304, 1306, 1308, 1310, 1312, 1314, 1316, 1318, 1320, 1322, 1324, 1326, 1328, 1330] (by decide +kernel) (by decide +kernel)
section Rows
variable {p : Program} {l : Launch} {e : Env} {R : Room} {s : State} {m : MethodId} {args : Array Value} {below : List Frame} {meth : Method} {c : Code} {nL : Nat} {D : va_G} {cA : Nat → ClassId} {b0 cells slots : Nat} {Q : State → Prop} {lv : Lv} {st : List AV} {ad : Ads} {ns nt : Nat} {M : Mem} {cc : ByteArray} {own : String} {tab : List ExceptionTableEntry} {pc pc' : Nat}
theorem g_X0_9 (C : Cx l p s m args meth c cc RX0 nL D cA b0 tab) {i : Nat} (hd : DI cc pc (.getfield 9) 3 pc') (hin : inD ns nt 1 i) (kk : Wm p l e R s m args below meth c nL D cA b0 cells slots Q pc' lv (aI (M.1 1 i 0) :: st) ad ns nt M) : Wm p l e R s m args below meth c nL D cA b0 cells slots Q pc lv (aO 1 i :: st) ad ns nt M := w_getG (sl := 0) (v := aI (M.1 1 i 0)) C hd hin rfl rfl (by decide) wi_X0 (mT1 (i := 36) (by decide +kernel) rfl) rfl rfl kk
theorem p_X0_9 (C : Cx l p s m args meth c cc RX0 nL D cA b0 tab) {i : Nat} {v : Int} (hd : DI cc pc (.putfield 9) 3 pc') (hin : inD ns nt 1 i) (kk : Wm p l e R s m args below meth c nL D cA b0 cells slots Q pc' lv st ad ns nt (uI M 1 i 0 v)) : Wm p l e R s m args below meth c nL D cA b0 cells slots Q pc lv (aI v :: aO 1 i :: st) ad ns nt M := w_putG (sl := 0) (v := aI v) C tyX0 hd hin rfl rfl (by decide) (Nat.le_of_ble_eq_true rfl) wi_X0 (mT1 (i := 36) (by decide +kernel) rfl) rfl tyX0_ok nmX0 rfl rfl rfl rfl (by rw [uI_on]; rfl) (uI_off cA ad M 0 v) kk
theorem g_X6_71 (C : Cx l p s m args meth c cc RX6 nL D cA b0 tab) {i : Nat} (hd : DI cc pc (.getfield 71) 3 pc') (hin : inD ns nt 1 i) (kk : Wm p l e R s m args below meth c nL D cA b0 cells slots Q pc' lv (aI (M.1 1 i 0) :: st) ad ns nt M) : Wm p l e R s m args below meth c nL D cA b0 cells slots Q pc lv (aO 1 i :: st) ad ns nt M := w_getG (sl := 0) (v := aI (M.1 1 i 0)) C hd hin rfl rfl (by decide) wi_X0 (mT1 (i := 37) (by decide +kernel) rfl) rfl rfl kk
theorem p_X6_71 (C : Cx l p s m args meth c cc RX6 nL D cA b0 tab) {i : Nat} {v : Int} (hd : DI cc pc (.putfield 71) 3 pc') (hin : inD ns nt 1 i) (kk : Wm p l e R s m args below meth c nL D cA b0 cells slots Q pc' lv st ad ns nt (uI M 1 i 0 v)) : Wm p l e R s m args below meth c nL D cA b0 cells slots Q pc lv (aI v :: aO 1 i :: st) ad ns nt M := w_putG (sl := 0) (v := aI v) C tyX0 hd hin rfl rfl (by decide) (Nat.le_of_ble_eq_true rfl) wi_X0 (mT1 (i := 37) (by decide +kernel) rfl) rfl tyX0_ok nmX0 rfl rfl rfl rfl (by rw [uI_on]; rfl) (uI_off cA ad M 0 v) kk
theorem g_X6_74 (C : Cx l p s m args meth c cc RX6 nL D cA b0 tab) {i : Nat} (hd : DI cc pc (.getfield 74) 3 pc') (hin : inD ns nt 1 i) (kk : Wm p l e R s m args below meth c nL D cA b0 cells slots Q pc' lv (aI (M.1 1 i 1) :: st) ad ns nt M) : Wm p l e R s m args below meth c nL D cA b0 cells slots Q pc lv (aO 1 i :: st) ad ns nt M := w_getG (sl := 1) (v := aI (M.1 1 i 1)) C hd hin rfl rfl (by decide) wi_X0 (mT1 (i := 38) (by decide +kernel) rfl) rfl rfl kk
theorem p_X6_74 (C : Cx l p s m args meth c cc RX6 nL D cA b0 tab) {i : Nat} {v : Int} (hd : DI cc pc (.putfield 74) 3 pc') (hin : inD ns nt 1 i) (hz : v = 0 ∨ v = 1) (kk : Wm p l e R s m args below meth c nL D cA b0 cells slots Q pc' lv st ad ns nt (uI M 1 i 1 v)) : Wm p l e R s m args below meth c nL D cA b0 cells slots Q pc lv (aI v :: aO 1 i :: st) ad ns nt M := w_putG (sl := 1) (v := aI v) C tyX0 hd hin rfl rfl (by decide) (Nat.le_of_ble_eq_true rfl) wi_X0 (mT1 (i := 38) (by decide +kernel) rfl) rfl tyX0_ok nmX0 rfl rfl (narrow_z hz) (fits_z hz) (by rw [uI_on]; rfl) (uI_off cA ad M 1 v) kk
theorem g_X1_64 (C : Cx l p s m args meth c cc RX1 nL D cA b0 tab) {i : Nat} (hd : DI cc pc (.getfield 64) 3 pc') (hin : inD ns nt 1 i) (kk : Wm p l e R s m args below meth c nL D cA b0 cells slots Q pc' lv (aI (M.1 1 i 1) :: st) ad ns nt M) : Wm p l e R s m args below meth c nL D cA b0 cells slots Q pc lv (aO 1 i :: st) ad ns nt M := w_getG (sl := 1) (v := aI (M.1 1 i 1)) C hd hin rfl rfl (by decide) wi_X0 (mT1 (i := 39) (by decide +kernel) rfl) rfl rfl kk
theorem p_X1_64 (C : Cx l p s m args meth c cc RX1 nL D cA b0 tab) {i : Nat} {v : Int} (hd : DI cc pc (.putfield 64) 3 pc') (hin : inD ns nt 1 i) (hz : v = 0 ∨ v = 1) (kk : Wm p l e R s m args below meth c nL D cA b0 cells slots Q pc' lv st ad ns nt (uI M 1 i 1 v)) : Wm p l e R s m args below meth c nL D cA b0 cells slots Q pc lv (aI v :: aO 1 i :: st) ad ns nt M := w_putG (sl := 1) (v := aI v) C tyX0 hd hin rfl rfl (by decide) (Nat.le_of_ble_eq_true rfl) wi_X0 (mT1 (i := 39) (by decide +kernel) rfl) rfl tyX0_ok nmX0 rfl rfl (narrow_z hz) (fits_z hz) (by rw [uI_on]; rfl) (uI_off cA ad M 1 v) kk
theorem g_X0_22 (C : Cx l p s m args meth c cc RX0 nL D cA b0 tab) {i : Nat} (hd : DI cc pc (.getfield 22) 3 pc') (hin : inD ns nt 1 i) (kk : Wm p l e R s m args below meth c nL D cA b0 cells slots Q pc' lv (aI (M.1 1 i 2) :: st) ad ns nt M) : Wm p l e R s m args below meth c nL D cA b0 cells slots Q pc lv (aO 1 i :: st) ad ns nt M := w_getG (sl := 2) (v := aI (M.1 1 i 2)) C hd hin rfl rfl (by decide) wi_X0 (mT1 (i := 40) (by decide +kernel) rfl) rfl rfl kk
theorem p_X0_22 (C : Cx l p s m args meth c cc RX0 nL D cA b0 tab) {i : Nat} {v : Int} (hd : DI cc pc (.putfield 22) 3 pc') (hin : inD ns nt 1 i) (hz : v = 0 ∨ v = 1) (kk : Wm p l e R s m args below meth c nL D cA b0 cells slots Q pc' lv st ad ns nt (uI M 1 i 2 v)) : Wm p l e R s m args below meth c nL D cA b0 cells slots Q pc lv (aI v :: aO 1 i :: st) ad ns nt M := w_putG (sl := 2) (v := aI v) C tyX0 hd hin rfl rfl (by decide) (Nat.le_of_ble_eq_true rfl) wi_X0 (mT1 (i := 40) (by decide +kernel) rfl) rfl tyX0_ok nmX0 rfl rfl (narrow_z hz) (fits_z hz) (by rw [uI_on]; rfl) (uI_off cA ad M 2 v) kk
theorem g_X6_83 (C : Cx l p s m args meth c cc RX6 nL D cA b0 tab) {i : Nat} (hd : DI cc pc (.getfield 83) 3 pc') (hin : inD ns nt 1 i) (kk : Wm p l e R s m args below meth c nL D cA b0 cells slots Q pc' lv (aI (M.1 1 i 2) :: st) ad ns nt M) : Wm p l e R s m args below meth c nL D cA b0 cells slots Q pc lv (aO 1 i :: st) ad ns nt M := w_getG (sl := 2) (v := aI (M.1 1 i 2)) C hd hin rfl rfl (by decide) wi_X0 (mT1 (i := 41) (by decide +kernel) rfl) rfl rfl kk
theorem p_X6_83 (C : Cx l p s m args meth c cc RX6 nL D cA b0 tab) {i : Nat} {v : Int} (hd : DI cc pc (.putfield 83) 3 pc') (hin : inD ns nt 1 i) (hz : v = 0 ∨ v = 1) (kk : Wm p l e R s m args below meth c nL D cA b0 cells slots Q pc' lv st ad ns nt (uI M 1 i 2 v)) : Wm p l e R s m args below meth c nL D cA b0 cells slots Q pc lv (aI v :: aO 1 i :: st) ad ns nt M := w_putG (sl := 2) (v := aI v) C tyX0 hd hin rfl rfl (by decide) (Nat.le_of_ble_eq_true rfl) wi_X0 (mT1 (i := 41) (by decide +kernel) rfl) rfl tyX0_ok nmX0 rfl rfl (narrow_z hz) (fits_z hz) (by rw [uI_on]; rfl) (uI_off cA ad M 2 v) kk
theorem g_X1_74 (C : Cx l p s m args meth c cc RX1 nL D cA b0 tab) {i : Nat} (hd : DI cc pc (.getfield 74) 3 pc') (hin : inD ns nt 1 i) (kk : Wm p l e R s m args below meth c nL D cA b0 cells slots Q pc' lv (aI (M.1 1 i 2) :: st) ad ns nt M) : Wm p l e R s m args below meth c nL D cA b0 cells slots Q pc lv (aO 1 i :: st) ad ns nt M := w_getG (sl := 2) (v := aI (M.1 1 i 2)) C hd hin rfl rfl (by decide) wi_X0 (mT1 (i := 42) (by decide +kernel) rfl) rfl rfl kk
theorem p_X1_74 (C : Cx l p s m args meth c cc RX1 nL D cA b0 tab) {i : Nat} {v : Int} (hd : DI cc pc (.putfield 74) 3 pc') (hin : inD ns nt 1 i) (hz : v = 0 ∨ v = 1) (kk : Wm p l e R s m args below meth c nL D cA b0 cells slots Q pc' lv st ad ns nt (uI M 1 i 2 v)) : Wm p l e R s m args below meth c nL D cA b0 cells slots Q pc lv (aI v :: aO 1 i :: st) ad ns nt M := w_putG (sl := 2) (v := aI v) C tyX0 hd hin rfl rfl (by decide) (Nat.le_of_ble_eq_true rfl) wi_X0 (mT1 (i := 42) (by decide +kernel) rfl) rfl tyX0_ok nmX0 rfl rfl (narrow_z hz) (fits_z hz) (by rw [uI_on]; rfl) (uI_off cA ad M 2 v) kk
theorem g_X6_78 (C : Cx l p s m args meth c cc RX6 nL D cA b0 tab) {i : Nat} (hd : DI cc pc (.getfield 78) 3 pc') (hin : inD ns nt 1 i) (kk : Wm p l e R s m args below meth c nL D cA b0 cells slots Q pc' lv (aI (M.1 1 i 3) :: st) ad ns nt M) : Wm p l e R s m args below meth c nL D cA b0 cells slots Q pc lv (aO 1 i :: st) ad ns nt M := w_getG (sl := 3) (v := aI (M.1 1 i 3)) C hd hin rfl rfl (by decide) wi_X0 (mT1 (i := 43) (by decide +kernel) rfl) rfl rfl kk
theorem p_X6_78 (C : Cx l p s m args meth c cc RX6 nL D cA b0 tab) {i : Nat} {v : Int} (hd : DI cc pc (.putfield 78) 3 pc') (hin : inD ns nt 1 i) (kk : Wm p l e R s m args below meth c nL D cA b0 cells slots Q pc' lv st ad ns nt (uI M 1 i 3 v)) : Wm p l e R s m args below meth c nL D cA b0 cells slots Q pc lv (aI v :: aO 1 i :: st) ad ns nt M := w_putG (sl := 3) (v := aI v) C tyX0 hd hin rfl rfl (by decide) (Nat.le_of_ble_eq_true rfl) wi_X0 (mT1 (i := 43) (by decide +kernel) rfl) rfl tyX0_ok nmX0 rfl rfl rfl rfl (by rw [uI_on]; rfl) (uI_off cA ad M 3 v) kk
theorem g_X0_26 (C : Cx l p s m args meth c cc RX0 nL D cA b0 tab) {i : Nat} (hd : DI cc pc (.getfield 26) 3 pc') (hin : inD ns nt 1 i) (kk : Wm p l e R s m args below meth c nL D cA b0 cells slots Q pc' lv (aI (M.1 1 i 3) :: st) ad ns nt M) : Wm p l e R s m args below meth c nL D cA b0 cells slots Q pc lv (aO 1 i :: st) ad ns nt M := w_getG (sl := 3) (v := aI (M.1 1 i 3)) C hd hin rfl rfl (by decide) wi_X0 (mT1 (i := 44) (by decide +kernel) rfl) rfl rfl kk
theorem p_X0_26 (C : Cx l p s m args meth c cc RX0 nL D cA b0 tab) {i : Nat} {v : Int} (hd : DI cc pc (.putfield 26) 3 pc') (hin : inD ns nt 1 i) (kk : Wm p l e R s m args below meth c nL D cA b0 cells slots Q pc' lv st ad ns nt (uI M 1 i 3 v)) : Wm p l e R s m args below meth c nL D cA b0 cells slots Q pc lv (aI v :: aO 1 i :: st) ad ns nt M := w_putG (sl := 3) (v := aI v) C tyX0 hd hin rfl rfl (by decide) (Nat.le_of_ble_eq_true rfl) wi_X0 (mT1 (i := 44) (by decide +kernel) rfl) rfl tyX0_ok nmX0 rfl rfl rfl rfl (by rw [uI_on]; rfl) (uI_off cA ad M 3 v) kk
theorem g_X6_63 (C : Cx l p s m args meth c cc RX6 nL D cA b0 tab) {i : Nat} (hd : DI cc pc (.getfield 63) 3 pc') (hin : inD ns nt 1 i) (kk : Wm p l e R s m args below meth c nL D cA b0 cells slots Q pc' lv (aI (M.1 1 i 4) :: st) ad ns nt M) : Wm p l e R s m args below meth c nL D cA b0 cells slots Q pc lv (aO 1 i :: st) ad ns nt M := w_getG (sl := 4) (v := aI (M.1 1 i 4)) C hd hin rfl rfl (by decide) wi_X0 (mT1 (i := 45) (by decide +kernel) rfl) rfl rfl kk
theorem p_X6_63 (C : Cx l p s m args meth c cc RX6 nL D cA b0 tab) {i : Nat} {v : Int} (hd : DI cc pc (.putfield 63) 3 pc') (hin : inD ns nt 1 i) (kk : Wm p l e R s m args below meth c nL D cA b0 cells slots Q pc' lv st ad ns nt (uI M 1 i 4 v)) : Wm p l e R s m args below meth c nL D cA b0 cells slots Q pc lv (aI v :: aO 1 i :: st) ad ns nt M := w_putG (sl := 4) (v := aI v) C tyX0 hd hin rfl rfl (by decide) (Nat.le_of_ble_eq_true rfl) wi_X0 (mT1 (i := 45) (by decide +kernel) rfl) rfl tyX0_ok nmX0 rfl rfl rfl rfl (by rw [uI_on]; rfl) (uI_off cA ad M 4 v) kk
theorem g_X0_50 (C : Cx l p s m args meth c cc RX0 nL D cA b0 tab) {i : Nat} (hd : DI cc pc (.getfield 50) 3 pc') (hin : inD ns nt 1 i) (kk : Wm p l e R s m args below meth c nL D cA b0 cells slots Q pc' lv (aI (M.1 1 i 4) :: st) ad ns nt M) : Wm p l e R s m args below meth c nL D cA b0 cells slots Q pc lv (aO 1 i :: st) ad ns nt M := w_getG (sl := 4) (v := aI (M.1 1 i 4)) C hd hin rfl rfl (by decide) wi_X0 (mT1 (i := 46) (by decide +kernel) rfl) rfl rfl kk
theorem p_X0_50 (C : Cx l p s m args meth c cc RX0 nL D cA b0 tab) {i : Nat} {v : Int} (hd : DI cc pc (.putfield 50) 3 pc') (hin : inD ns nt 1 i) (kk : Wm p l e R s m args below meth c nL D cA b0 cells slots Q pc' lv st ad ns nt (uI M 1 i 4 v)) : Wm p l e R s m args below meth c nL D cA b0 cells slots Q pc lv (aI v :: aO 1 i :: st) ad ns nt M := w_putG (sl := 4) (v := aI v) C tyX0 hd hin rfl rfl (by decide) (Nat.le_of_ble_eq_true rfl) wi_X0 (mT1 (i := 46) (by decide +kernel) rfl) rfl tyX0_ok nmX0 rfl rfl rfl rfl (by rw [uI_on]; rfl) (uI_off cA ad M 4 v) kk
theorem g_X0_15 (C : Cx l p s m args meth c cc RX0 nL D cA b0 tab) {i : Nat} (hd : DI cc pc (.getfield 15) 3 pc') (hin : inD ns nt 1 i) (kk : Wm p l e R s m args below meth c nL D cA b0 cells slots Q pc' lv (aO 20 0 :: st) ad ns nt M) : Wm p l e R s m args below meth c nL D cA b0 cells slots Q pc lv (aO 1 i :: st) ad ns nt M := w_getG (sl := 5) (v := aO 20 0) C hd hin rfl rfl (by decide) wi_X0 (mT1 (i := 47) (by decide +kernel) rfl) rfl rfl kk
theorem g_X0_19 (C : Cx l p s m args meth c cc RX0 nL D cA b0 tab) {i : Nat} (hd : DI cc pc (.getfield 19) 3 pc') (hin : inD ns nt 1 i) (kk : Wm p l e R s m args below meth c nL D cA b0 cells slots Q pc' lv (aO 21 0 :: st) ad ns nt M) : Wm p l e R s m args below meth c nL D cA b0 cells slots Q pc lv (aO 1 i :: st) ad ns nt M := w_getG (sl := 6) (v := aO 21 0) C hd hin rfl rfl (by decide) wi_X0 (mT1 (i := 48) (by decide +kernel) rfl) rfl rfl kk
theorem g_X1_85 (C : Cx l p s m args meth c cc RX1 nL D cA b0 tab) {i : Nat} (hd : DI cc pc (.getfield 85) 3 pc') (hin : inD ns nt 1 i) (kk : Wm p l e R s m args below meth c nL D cA b0 cells slots Q pc' lv (aO 21 0 :: st) ad ns nt M) : Wm p l e R s m args below meth c nL D cA b0 cells slots Q pc lv (aO 1 i :: st) ad ns nt M := w_getG (sl := 6) (v := aO 21 0) C hd hin rfl rfl (by decide) wi_X0 (mT1 (i := 49) (by decide +kernel) rfl) rfl rfl kk
theorem g_X1_48 (C : Cx l p s m args meth c cc RX1 nL D cA b0 tab) {i : Nat} (hd : DI cc pc (.getfield 48) 3 pc') (hin : inD ns nt 3 i) (kk : Wm p l e R s m args below meth c nL D cA b0 cells slots Q pc' lv (aI (M.1 3 i 0) :: st) ad ns nt M) : Wm p l e R s m args below meth c nL D cA b0 cells slots Q pc lv (aO 3 i :: st) ad ns nt M := w_getG (sl := 0) (v := aI (M.1 3 i 0)) C hd hin rfl rfl (by decide) wi_X3 (mT1 (i := 79) (by decide +kernel) rfl) rfl rfl kk
theorem p_X1_48 (C : Cx l p s m args meth c cc RX1 nL D cA b0 tab) {i : Nat} {v : Int} (hd : DI cc pc (.putfield 48) 3 pc') (hin : inD ns nt 3 i) (kk : Wm p l e R s m args below meth c nL D cA b0 cells slots Q pc' lv st ad ns nt (uI M 3 i 0 v)) : Wm p l e R s m args below meth c nL D cA b0 cells slots Q pc lv (aI v :: aO 3 i :: st) ad ns nt M := w_putG (sl := 0) (v := aI v) C tyX3 hd hin rfl rfl (by decide) (Nat.le_of_ble_eq_true rfl) wi_X3 (mT1 (i := 79) (by decide +kernel) rfl) rfl tyX3_ok nmX3 rfl rfl rfl rfl (by rw [uI_on]; rfl) (uI_off cA ad M 0 v) kk
theorem g_X1_132 (C : Cx l p s m args meth c cc RX1 nL D cA b0 tab) {i : Nat} (hd : DI cc pc (.getfield 132) 3 pc') (hin : inD ns nt 3 i) (kk : Wm p l e R s m args below meth c nL D cA b0 cells slots Q pc' lv (aR ((M.2.1 3 i 1).map fun j => (4, j)) :: st) ad ns nt M) : Wm p l e R s m args below meth c nL D cA b0 cells slots Q pc lv (aO 3 i :: st) ad ns nt M := w_getG (sl := 1) (v := aR ((M.2.1 3 i 1).map fun j => (4, j))) C hd hin rfl rfl (by decide) wi_X3 (mT1 (i := 80) (by decide +kernel) rfl) rfl (congrArg some (rf_tv ad 4 (M.2.1 3 i 1))) kk
theorem p_X1_132 (C : Cx l p s m args meth c cc RX1 nL D cA b0 tab) {i : Nat} {v : Nat} (hd : DI cc pc (.putfield 132) 3 pc') (hin : inD ns nt 3 i) (kk : Wm p l e R s m args below meth c nL D cA b0 cells slots Q pc' lv st ad ns nt (uR M 3 i 1 (some v))) : Wm p l e R s m args below meth c nL D cA b0 cells slots Q pc lv (aO 4 v :: aO 3 i :: st) ad ns nt M := w_putG (sl := 1) (v := aO 4 v) C tyX3 hd hin rfl rfl (by decide) (Nat.le_of_ble_eq_true rfl) wi_X3 (mT1 (i := 80) (by decide +kernel) rfl) rfl tyX3_ok nmX3 rfl rfl rfl rfl (by rw [uR_on]; rfl) (uR_off cA ad M 1 (some v)) kk
theorem g_X3_7 (C : Cx l p s m args meth c cc RX3 nL D cA b0 tab) {i : Nat} (hd : DI cc pc (.getfield 7) 3 pc') (hin : inD ns nt 3 i) (kk : Wm p l e R s m args below meth c nL D cA b0 cells slots Q pc' lv (aR ((M.2.1 3 i 2).map fun j => (5, j)) :: st) ad ns nt M) : Wm p l e R s m args below meth c nL D cA b0 cells slots Q pc lv (aO 3 i :: st) ad ns nt M := w_getG (sl := 2) (v := aR ((M.2.1 3 i 2).map fun j => (5, j))) C hd hin rfl rfl (by decide) wi_X3 (mT1 (i := 81) (by decide +kernel) rfl) rfl (congrArg some (rf_tv ad 5 (M.2.1 3 i 2))) kk
theorem p_X3_7 (C : Cx l p s m args meth c cc RX3 nL D cA b0 tab) {i : Nat} {v : Nat} (hd : DI cc pc (.putfield 7) 3 pc') (hin : inD ns nt 3 i) (kk : Wm p l e R s m args below meth c nL D cA b0 cells slots Q pc' lv st ad ns nt (uR M 3 i 2 (some v))) : Wm p l e R s m args below meth c nL D cA b0 cells slots Q pc lv (aO 5 v :: aO 3 i :: st) ad ns nt M := w_putG (sl := 2) (v := aO 5 v) C tyX3 hd hin rfl rfl (by decide) (Nat.le_of_ble_eq_true rfl) wi_X3 (mT1 (i := 81) (by decide +kernel) rfl) rfl tyX3_ok nmX3 rfl rfl rfl rfl (by rw [uR_on]; rfl) (uR_off cA ad M 2 (some v)) kk
theorem g_X1_136 (C : Cx l p s m args meth c cc RX1 nL D cA b0 tab) {i : Nat} (hd : DI cc pc (.getfield 136) 3 pc') (hin : inD ns nt 3 i) (kk : Wm p l e R s m args below meth c nL D cA b0 cells slots Q pc' lv (aR ((M.2.1 3 i 2).map fun j => (5, j)) :: st) ad ns nt M) : Wm p l e R s m args below meth c nL D cA b0 cells slots Q pc lv (aO 3 i :: st) ad ns nt M := w_getG (sl := 2) (v := aR ((M.2.1 3 i 2).map fun j => (5, j))) C hd hin rfl rfl (by decide) wi_X3 (mT1 (i := 82) (by decide +kernel) rfl) rfl (congrArg some (rf_tv ad 5 (M.2.1 3 i 2))) kk
theorem p_X1_136 (C : Cx l p s m args meth c cc RX1 nL D cA b0 tab) {i : Nat} {v : Nat} (hd : DI cc pc (.putfield 136) 3 pc') (hin : inD ns nt 3 i) (kk : Wm p l e R s m args below meth c nL D cA b0 cells slots Q pc' lv st ad ns nt (uR M 3 i 2 (some v))) : Wm p l e R s m args below meth c nL D cA b0 cells slots Q pc lv (aO 5 v :: aO 3 i :: st) ad ns nt M := w_putG (sl := 2) (v := aO 5 v) C tyX3 hd hin rfl rfl (by decide) (Nat.le_of_ble_eq_true rfl) wi_X3 (mT1 (i := 82) (by decide +kernel) rfl) rfl tyX3_ok nmX3 rfl rfl rfl rfl (by rw [uR_on]; rfl) (uR_off cA ad M 2 (some v)) kk
theorem g_X1_140 (C : Cx l p s m args meth c cc RX1 nL D cA b0 tab) {i : Nat} (hd : DI cc pc (.getfield 140) 3 pc') (hin : inD ns nt 3 i) (kk : Wm p l e R s m args below meth c nL D cA b0 cells slots Q pc' lv (aI (M.1 3 i 3) :: st) ad ns nt M) : Wm p l e R s m args below meth c nL D cA b0 cells slots Q pc lv (aO 3 i :: st) ad ns nt M := w_getG (sl := 3) (v := aI (M.1 3 i 3)) C hd hin rfl rfl (by decide) wi_X3 (mT1 (i := 83) (by decide +kernel) rfl) rfl rfl kk
theorem p_X1_140 (C : Cx l p s m args meth c cc RX1 nL D cA b0 tab) {i : Nat} {v : Int} (hd : DI cc pc (.putfield 140) 3 pc') (hin : inD ns nt 3 i) (kk : Wm p l e R s m args below meth c nL D cA b0 cells slots Q pc' lv st ad ns nt (uI M 3 i 3 v)) : Wm p l e R s m args below meth c nL D cA b0 cells slots Q pc lv (aI v :: aO 3 i :: st) ad ns nt M := w_putG (sl := 3) (v := aI v) C tyX3 hd hin rfl rfl (by decide) (Nat.le_of_ble_eq_true rfl) wi_X3 (mT1 (i := 83) (by decide +kernel) rfl) rfl tyX3_ok nmX3 rfl rfl rfl rfl (by rw [uI_on]; rfl) (uI_off cA ad M 3 v) kk
theorem g_X6_234 (C : Cx l p s m args meth c cc RX6 nL D cA b0 tab) {i : Nat} (hd : DI cc pc (.getfield 234) 3 pc') (hin : inD ns nt 3 i) (kk : Wm p l e R s m args below meth c nL D cA b0 cells slots Q pc' lv (aI (M.1 3 i 3) :: st) ad ns nt M) : Wm p l e R s m args below meth c nL D cA b0 cells slots Q pc lv (aO 3 i :: st) ad ns nt M := w_getG (sl := 3) (v := aI (M.1 3 i 3)) C hd hin rfl rfl (by decide) wi_X3 (mT1 (i := 84) (by decide +kernel) rfl) rfl rfl kk
theorem p_X6_234 (C : Cx l p s m args meth c cc RX6 nL D cA b0 tab) {i : Nat} {v : Int} (hd : DI cc pc (.putfield 234) 3 pc') (hin : inD ns nt 3 i) (kk : Wm p l e R s m args below meth c nL D cA b0 cells slots Q pc' lv st ad ns nt (uI M 3 i 3 v)) : Wm p l e R s m args below meth c nL D cA b0 cells slots Q pc lv (aI v :: aO 3 i :: st) ad ns nt M := w_putG (sl := 3) (v := aI v) C tyX3 hd hin rfl rfl (by decide) (Nat.le_of_ble_eq_true rfl) wi_X3 (mT1 (i := 84) (by decide +kernel) rfl) rfl tyX3_ok nmX3 rfl rfl rfl rfl (by rw [uI_on]; rfl) (uI_off cA ad M 3 v) kk
theorem g_X3_13 (C : Cx l p s m args meth c cc RX3 nL D cA b0 tab) {i : Nat} (hd : DI cc pc (.getfield 13) 3 pc') (hin : inD ns nt 3 i) (kk : Wm p l e R s m args below meth c nL D cA b0 cells slots Q pc' lv (aI (M.1 3 i 4) :: st) ad ns nt M) : Wm p l e R s m args below meth c nL D cA b0 cells slots Q pc lv (aO 3 i :: st) ad ns nt M := w_getG (sl := 4) (v := aI (M.1 3 i 4)) C hd hin rfl rfl (by decide) wi_X3 (mT1 (i := 85) (by decide +kernel) rfl) rfl rfl kk
theorem p_X3_13 (C : Cx l p s m args meth c cc RX3 nL D cA b0 tab) {i : Nat} {v : Int} (hd : DI cc pc (.putfield 13) 3 pc') (hin : inD ns nt 3 i) (kk : Wm p l e R s m args below meth c nL D cA b0 cells slots Q pc' lv st ad ns nt (uI M 3 i 4 v)) : Wm p l e R s m args below meth c nL D cA b0 cells slots Q pc lv (aI v :: aO 3 i :: st) ad ns nt M := w_putG (sl := 4) (v := aI v) C tyX3 hd hin rfl rfl (by decide) (Nat.le_of_ble_eq_true rfl) wi_X3 (mT1 (i := 85) (by decide +kernel) rfl) rfl tyX3_ok nmX3 rfl rfl rfl rfl (by rw [uI_on]; rfl) (uI_off cA ad M 4 v) kk
theorem g_X1_143 (C : Cx l p s m args meth c cc RX1 nL D cA b0 tab) {i : Nat} (hd : DI cc pc (.getfield 143) 3 pc') (hin : inD ns nt 3 i) (kk : Wm p l e R s m args below meth c nL D cA b0 cells slots Q pc' lv (aI (M.1 3 i 4) :: st) ad ns nt M) : Wm p l e R s m args below meth c nL D cA b0 cells slots Q pc lv (aO 3 i :: st) ad ns nt M := w_getG (sl := 4) (v := aI (M.1 3 i 4)) C hd hin rfl rfl (by decide) wi_X3 (mT1 (i := 86) (by decide +kernel) rfl) rfl rfl kk
theorem p_X1_143 (C : Cx l p s m args meth c cc RX1 nL D cA b0 tab) {i : Nat} {v : Int} (hd : DI cc pc (.putfield 143) 3 pc') (hin : inD ns nt 3 i) (kk : Wm p l e R s m args below meth c nL D cA b0 cells slots Q pc' lv st ad ns nt (uI M 3 i 4 v)) : Wm p l e R s m args below meth c nL D cA b0 cells slots Q pc lv (aI v :: aO 3 i :: st) ad ns nt M := w_putG (sl := 4) (v := aI v) C tyX3 hd hin rfl rfl (by decide) (Nat.le_of_ble_eq_true rfl) wi_X3 (mT1 (i := 86) (by decide +kernel) rfl) rfl tyX3_ok nmX3 rfl rfl rfl rfl (by rw [uI_on]; rfl) (uI_off cA ad M 4 v) kk
theorem g_X6_226 (C : Cx l p s m args meth c cc RX6 nL D cA b0 tab) {i : Nat} (hd : DI cc pc (.getfield 226) 3 pc') (hin : inD ns nt 3 i) (kk : Wm p l e R s m args below meth c nL D cA b0 cells slots Q pc' lv (aI (M.1 3 i 4) :: st) ad ns nt M) : Wm p l e R s m args below meth c nL D cA b0 cells slots Q pc lv (aO 3 i :: st) ad ns nt M := w_getG (sl := 4) (v := aI (M.1 3 i 4)) C hd hin rfl rfl (by decide) wi_X3 (mT1 (i := 87) (by decide +kernel) rfl) rfl rfl kk
theorem p_X6_226 (C : Cx l p s m args meth c cc RX6 nL D cA b0 tab) {i : Nat} {v : Int} (hd : DI cc pc (.putfield 226) 3 pc') (hin : inD ns nt 3 i) (kk : Wm p l e R s m args below meth c nL D cA b0 cells slots Q pc' lv st ad ns nt (uI M 3 i 4 v)) : Wm p l e R s m args below meth c nL D cA b0 cells slots Q pc lv (aI v :: aO 3 i :: st) ad ns nt M := w_putG (sl := 4) (v := aI v) C tyX3 hd hin rfl rfl (by decide) (Nat.le_of_ble_eq_true rfl) wi_X3 (mT1 (i := 87) (by decide +kernel) rfl) rfl tyX3_ok nmX3 rfl rfl rfl rfl (by rw [uI_on]; rfl) (uI_off cA ad M 4 v) kk
theorem g_X3_17 (C : Cx l p s m args meth c cc RX3 nL D cA b0 tab) {i : Nat} (hd : DI cc pc (.getfield 17) 3 pc') (hin : inD ns nt 3 i) (kk : Wm p l e R s m args below meth c nL D cA b0 cells slots Q pc' lv (aI (M.1 3 i 5) :: st) ad ns nt M) : Wm p l e R s m args below meth c nL D cA b0 cells slots Q pc lv (aO 3 i :: st) ad ns nt M := w_getG (sl := 5) (v := aI (M.1 3 i 5)) C hd hin rfl rfl (by decide) wi_X3 (mT1 (i := 88) (by decide +kernel) rfl) rfl rfl kk
theorem p_X3_17 (C : Cx l p s m args meth c cc RX3 nL D cA b0 tab) {i : Nat} {v : Int} (hd : DI cc pc (.putfield 17) 3 pc') (hin : inD ns nt 3 i) (kk : Wm p l e R s m args below meth c nL D cA b0 cells slots Q pc' lv st ad ns nt (uI M 3 i 5 v)) : Wm p l e R s m args below meth c nL D cA b0 cells slots Q pc lv (aI v :: aO 3 i :: st) ad ns nt M := w_putG (sl := 5) (v := aI v) C tyX3 hd hin rfl rfl (by decide) (Nat.le_of_ble_eq_true rfl) wi_X3 (mT1 (i := 88) (by decide +kernel) rfl) rfl tyX3_ok nmX3 rfl rfl rfl rfl (by rw [uI_on]; rfl) (uI_off cA ad M 5 v) kk
theorem g_X1_146 (C : Cx l p s m args meth c cc RX1 nL D cA b0 tab) {i : Nat} (hd : DI cc pc (.getfield 146) 3 pc') (hin : inD ns nt 3 i) (kk : Wm p l e R s m args below meth c nL D cA b0 cells slots Q pc' lv (aI (M.1 3 i 5) :: st) ad ns nt M) : Wm p l e R s m args below meth c nL D cA b0 cells slots Q pc lv (aO 3 i :: st) ad ns nt M := w_getG (sl := 5) (v := aI (M.1 3 i 5)) C hd hin rfl rfl (by decide) wi_X3 (mT1 (i := 89) (by decide +kernel) rfl) rfl rfl kk
theorem p_X1_146 (C : Cx l p s m args meth c cc RX1 nL D cA b0 tab) {i : Nat} {v : Int} (hd : DI cc pc (.putfield 146) 3 pc') (hin : inD ns nt 3 i) (kk : Wm p l e R s m args below meth c nL D cA b0 cells slots Q pc' lv st ad ns nt (uI M 3 i 5 v)) : Wm p l e R s m args below meth c nL D cA b0 cells slots Q pc lv (aI v :: aO 3 i :: st) ad ns nt M := w_putG (sl := 5) (v := aI v) C tyX3 hd hin rfl rfl (by decide) (Nat.le_of_ble_eq_true rfl) wi_X3 (mT1 (i := 89) (by decide +kernel) rfl) rfl tyX3_ok nmX3 rfl rfl rfl rfl (by rw [uI_on]; rfl) (uI_off cA ad M 5 v) kk
theorem g_X6_231 (C : Cx l p s m args meth c cc RX6 nL D cA b0 tab) {i : Nat} (hd : DI cc pc (.getfield 231) 3 pc') (hin : inD ns nt 3 i) (kk : Wm p l e R s m args below meth c nL D cA b0 cells slots Q pc' lv (aI (M.1 3 i 5) :: st) ad ns nt M) : Wm p l e R s m args below meth c nL D cA b0 cells slots Q pc lv (aO 3 i :: st) ad ns nt M := w_getG (sl := 5) (v := aI (M.1 3 i 5)) C hd hin rfl rfl (by decide) wi_X3 (mT1 (i := 90) (by decide +kernel) rfl) rfl rfl kk
theorem p_X6_231 (C : Cx l p s m args meth c cc RX6 nL D cA b0 tab) {i : Nat} {v : Int} (hd : DI cc pc (.putfield 231) 3 pc') (hin : inD ns nt 3 i) (kk : Wm p l e R s m args below meth c nL D cA b0 cells slots Q pc' lv st ad ns nt (uI M 3 i 5 v)) : Wm p l e R s m args below meth c nL D cA b0 cells slots Q pc lv (aI v :: aO 3 i :: st) ad ns nt M := w_putG (sl := 5) (v := aI v) C tyX3 hd hin rfl rfl (by decide) (Nat.le_of_ble_eq_true rfl) wi_X3 (mT1 (i := 90) (by decide +kernel) rfl) rfl tyX3_ok nmX3 rfl rfl rfl rfl (by rw [uI_on]; rfl) (uI_off cA ad M 5 v) kk
theorem g_X1_149 (C : Cx l p s m args meth c cc RX1 nL D cA b0 tab) {i : Nat} (hd : DI cc pc (.getfield 149) 3 pc') (hin : inD ns nt 3 i) (kk : Wm p l e R s m args below meth c nL D cA b0 cells slots Q pc' lv (aI (M.1 3 i 6) :: st) ad ns nt M) : Wm p l e R s m args below meth c nL D cA b0 cells slots Q pc lv (aO 3 i :: st) ad ns nt M := w_getG (sl := 6) (v := aI (M.1 3 i 6)) C hd hin rfl rfl (by decide) wi_X3 (mT1 (i := 91) (by decide +kernel) rfl) rfl rfl kk
theorem p_X1_149 (C : Cx l p s m args meth c cc RX1 nL D cA b0 tab) {i : Nat} {v : Int} (hd : DI cc pc (.putfield 149) 3 pc') (hin : inD ns nt 3 i) (hz : v = 0 ∨ v = 1) (kk : Wm p l e R s m args below meth c nL D cA b0 cells slots Q pc' lv st ad ns nt (uI M 3 i 6 v)) : Wm p l e R s m args below meth c nL D cA b0 cells slots Q pc lv (aI v :: aO 3 i :: st) ad ns nt M := w_putG (sl := 6) (v := aI v) C tyX3 hd hin rfl rfl (by decide) (Nat.le_of_ble_eq_true rfl) wi_X3 (mT1 (i := 91) (by decide +kernel) rfl) rfl tyX3_ok nmX3 rfl rfl (narrow_z hz) (fits_z hz) (by rw [uI_on]; rfl) (uI_off cA ad M 6 v) kk
theorem g_X1_11 (C : Cx l p s m args meth c cc RX1 nL D cA b0 tab) {i : Nat} (hd : DI cc pc (.getfield 11) 3 pc') (hin : inD ns nt 2 i) (kk : Wm p l e R s m args below meth c nL D cA b0 cells slots Q pc' lv (aO 12 i :: st) ad ns nt M) : Wm p l e R s m args below meth c nL D cA b0 cells slots Q pc lv (aO 2 i :: st) ad ns nt M := w_getG (sl := 0) (v := aO 12 i) C hd hin rfl rfl (by decide) wi_X1 (mT1 (i := 110) (by decide +kernel) rfl) rfl rfl kk
theorem g_X1_40 (C : Cx l p s m args meth c cc RX1 nL D cA b0 tab) {i : Nat} (hd : DI cc pc (.getfield 40) 3 pc') (hin : inD ns nt 2 i) (kk : Wm p l e R s m args below meth c nL D cA b0 cells slots Q pc' lv (aI (M.1 2 i 1) :: st) ad ns nt M) : Wm p l e R s m args below meth c nL D cA b0 cells slots Q pc lv (aO 2 i :: st) ad ns nt M := w_getG (sl := 1) (v := aI (M.1 2 i 1)) C hd hin rfl rfl (by decide) wi_X1 (mT1 (i := 111) (by decide +kernel) rfl) rfl rfl kk
theorem p_X1_40 (C : Cx l p s m args meth c cc RX1 nL D cA b0 tab) {i : Nat} {v : Int} (hd : DI cc pc (.putfield 40) 3 pc') (hin : inD ns nt 2 i) (kk : Wm p l e R s m args below meth c nL D cA b0 cells slots Q pc' lv st ad ns nt (uI M 2 i 1 v)) : Wm p l e R s m args below meth c nL D cA b0 cells slots Q pc lv (aI v :: aO 2 i :: st) ad ns nt M := w_putG (sl := 1) (v := aI v) C tyX1 hd hin rfl rfl (by decide) (Nat.le_of_ble_eq_true rfl) wi_X1 (mT1 (i := 111) (by decide +kernel) rfl) rfl tyX1_ok nmX1 rfl rfl rfl rfl (by rw [uI_on]; rfl) (uI_off cA ad M 1 v) kk
theorem g_X6_59 (C : Cx l p s m args meth c cc RX6 nL D cA b0 tab) {i : Nat} (hd : DI cc pc (.getfield 59) 3 pc') (hin : inD ns nt 2 i) (kk : Wm p l e R s m args below meth c nL D cA b0 cells slots Q pc' lv (aI (M.1 2 i 1) :: st) ad ns nt M) : Wm p l e R s m args below meth c nL D cA b0 cells slots Q pc lv (aO 2 i :: st) ad ns nt M := w_getG (sl := 1) (v := aI (M.1 2 i 1)) C hd hin rfl rfl (by decide) wi_X1 (mT1 (i := 112) (by decide +kernel) rfl) rfl rfl kk
theorem p_X6_59 (C : Cx l p s m args meth c cc RX6 nL D cA b0 tab) {i : Nat} {v : Int} (hd : DI cc pc (.putfield 59) 3 pc') (hin : inD ns nt 2 i) (kk : Wm p l e R s m args below meth c nL D cA b0 cells slots Q pc' lv st ad ns nt (uI M 2 i 1 v)) : Wm p l e R s m args below meth c nL D cA b0 cells slots Q pc lv (aI v :: aO 2 i :: st) ad ns nt M := w_putG (sl := 1) (v := aI v) C tyX1 hd hin rfl rfl (by decide) (Nat.le_of_ble_eq_true rfl) wi_X1 (mT1 (i := 112) (by decide +kernel) rfl) rfl tyX1_ok nmX1 rfl rfl rfl rfl (by rw [uI_on]; rfl) (uI_off cA ad M 1 v) kk
theorem g_X1_129 (C : Cx l p s m args meth c cc RX1 nL D cA b0 tab) {i : Nat} (hd : DI cc pc (.getfield 129) 3 pc') (hin : inD ns nt 2 i) (kk : Wm p l e R s m args below meth c nL D cA b0 cells slots Q pc' lv (aI (M.1 2 i 2) :: st) ad ns nt M) : Wm p l e R s m args below meth c nL D cA b0 cells slots Q pc lv (aO 2 i :: st) ad ns nt M := w_getG (sl := 2) (v := aI (M.1 2 i 2)) C hd hin rfl rfl (by decide) wi_X1 (mT1 (i := 113) (by decide +kernel) rfl) rfl rfl kk
theorem p_X1_129 (C : Cx l p s m args meth c cc RX1 nL D cA b0 tab) {i : Nat} {v : Int} (hd : DI cc pc (.putfield 129) 3 pc') (hin : inD ns nt 2 i) (kk : Wm p l e R s m args below meth c nL D cA b0 cells slots Q pc' lv st ad ns nt (uI M 2 i 2 v)) : Wm p l e R s m args below meth c nL D cA b0 cells slots Q pc lv (aI v :: aO 2 i :: st) ad ns nt M := w_putG (sl := 2) (v := aI v) C tyX1 hd hin rfl rfl (by decide) (Nat.le_of_ble_eq_true rfl) wi_X1 (mT1 (i := 113) (by decide +kernel) rfl) rfl tyX1_ok nmX1 rfl rfl rfl rfl (by rw [uI_on]; rfl) (uI_off cA ad M 2 v) kk
theorem g_X1_18 (C : Cx l p s m args meth c cc RX1 nL D cA b0 tab) {i : Nat} (hd : DI cc pc (.getfield 18) 3 pc') (hin : inD ns nt 2 i) (kk : Wm p l e R s m args below meth c nL D cA b0 cells slots Q pc' lv (aO 22 i :: st) ad ns nt M) : Wm p l e R s m args below meth c nL D cA b0 cells slots Q pc lv (aO 2 i :: st) ad ns nt M := w_getG (sl := 3) (v := aO 22 i) C hd hin rfl rfl (by decide) wi_X1 (mT1 (i := 114) (by decide +kernel) rfl) rfl rfl kk
theorem g_X1_28 (C : Cx l p s m args meth c cc RX1 nL D cA b0 tab) {i : Nat} (hd : DI cc pc (.getfield 28) 3 pc') (hin : inD ns nt 2 i) (kk : Wm p l e R s m args below meth c nL D cA b0 cells slots Q pc' lv (aO 23 i :: st) ad ns nt M) : Wm p l e R s m args below meth c nL D cA b0 cells slots Q pc lv (aO 2 i :: st) ad ns nt M := w_getG (sl := 4) (v := aO 23 i) C hd hin rfl rfl (by decide) wi_X1 (mT1 (i := 115) (by decide +kernel) rfl) rfl rfl kk
theorem g_X1_31 (C : Cx l p s m args meth c cc RX1 nL D cA b0 tab) {i : Nat} (hd : DI cc pc (.getfield 31) 3 pc') (hin : inD ns nt 2 i) (kk : Wm p l e R s m args below meth c nL D cA b0 cells slots Q pc' lv (aO 24 i :: st) ad ns nt M) : Wm p l e R s m args below meth c nL D cA b0 cells slots Q pc lv (aO 2 i :: st) ad ns nt M := w_getG (sl := 5) (v := aO 24 i) C hd hin rfl rfl (by decide) wi_X1 (mT1 (i := 116) (by decide +kernel) rfl) rfl rfl kk
theorem g_X6_261 (C : Cx l p s m args meth c cc RX6 nL D cA b0 tab) {i : Nat} (hd : DI cc pc (.getfield 261) 3 pc') (hin : inD ns nt 2 i) (kk : Wm p l e R s m args below meth c nL D cA b0 cells slots Q pc' lv (aO 24 i :: st) ad ns nt M) : Wm p l e R s m args below meth c nL D cA b0 cells slots Q pc lv (aO 2 i :: st) ad ns nt M := w_getG (sl := 5) (v := aO 24 i) C hd hin rfl rfl (by decide) wi_X1 (mT1 (i := 117) (by decide +kernel) rfl) rfl rfl kk
theorem g_X1_34 (C : Cx l p s m args meth c cc RX1 nL D cA b0 tab) {i : Nat} (hd : DI cc pc (.getfield 34) 3 pc') (hin : inD ns nt 2 i) (kk : Wm p l e R s m args below meth c nL D cA b0 cells slots Q pc' lv (aO 25 i :: st) ad ns nt M) : Wm p l e R s m args below meth c nL D cA b0 cells slots Q pc lv (aO 2 i :: st) ad ns nt M := w_getG (sl := 6) (v := aO 25 i) C hd hin rfl rfl (by decide) wi_X1 (mT1 (i := 118) (by decide +kernel) rfl) rfl rfl kk
theorem g_X6_270 (C : Cx l p s m args meth c cc RX6 nL D cA b0 tab) {i : Nat} (hd : DI cc pc (.getfield 270) 3 pc') (hin : inD ns nt 2 i) (kk : Wm p l e R s m args below meth c nL D cA b0 cells slots Q pc' lv (aO 25 i :: st) ad ns nt M) : Wm p l e R s m args below meth c nL D cA b0 cells slots Q pc lv (aO 2 i :: st) ad ns nt M := w_getG (sl := 6) (v := aO 25 i) C hd hin rfl rfl (by decide) wi_X1 (mT1 (i := 119) (by decide +kernel) rfl) rfl rfl kk
theorem g_X1_37 (C : Cx l p s m args meth c cc RX1 nL D cA b0 tab) {i : Nat} (hd : DI cc pc (.getfield 37) 3 pc') (hin : inD ns nt 2 i) (kk : Wm p l e R s m args below meth c nL D cA b0 cells slots Q pc' lv (aO 26 i :: st) ad ns nt M) : Wm p l e R s m args below meth c nL D cA b0 cells slots Q pc lv (aO 2 i :: st) ad ns nt M := w_getG (sl := 7) (v := aO 26 i) C hd hin rfl rfl (by decide) wi_X1 (mT1 (i := 120) (by decide +kernel) rfl) rfl rfl kk
theorem g_X6_12 (C : Cx l p s m args meth c cc RX6 nL D cA b0 tab) {i : Nat} (hd : DI cc pc (.getfield 12) 3 pc') (hin : inD ns nt 0 i) (kk : Wm p l e R s m args below meth c nL D cA b0 cells slots Q pc' lv (aO 1 0 :: st) ad ns nt M) : Wm p l e R s m args below meth c nL D cA b0 cells slots Q pc lv (aO 0 i :: st) ad ns nt M := w_getG (sl := 0) (v := aO 1 0) C hd hin rfl rfl (by decide) wi_X6 (mT1 (i := 142) (by decide +kernel) rfl) rfl rfl kk
theorem g_X6_19 (C : Cx l p s m args meth c cc RX6 nL D cA b0 tab) {i : Nat} (hd : DI cc pc (.getfield 19) 3 pc') (hin : inD ns nt 0 i) (kk : Wm p l e R s m args below meth c nL D cA b0 cells slots Q pc' lv (aO 2 0 :: st) ad ns nt M) : Wm p l e R s m args below meth c nL D cA b0 cells slots Q pc lv (aO 0 i :: st) ad ns nt M := w_getG (sl := 1) (v := aO 2 0) C hd hin rfl rfl (by decide) wi_X6 (mT1 (i := 143) (by decide +kernel) rfl) rfl rfl kk
theorem g_X6_25 (C : Cx l p s m args meth c cc RX6 nL D cA b0 tab) {i : Nat} (hd : DI cc pc (.getfield 25) 3 pc') (hin : inD ns nt 0 i) (kk : Wm p l e R s m args below meth c nL D cA b0 cells slots Q pc' lv (aO 10 0 :: st) ad ns nt M) : Wm p l e R s m args below meth c nL D cA b0 cells slots Q pc lv (aO 0 i :: st) ad ns nt M := w_getG (sl := 2) (v := aO 10 0) C hd hin rfl rfl (by decide) wi_X6 (mT1 (i := 144) (by decide +kernel) rfl) rfl rfl kk
theorem g_X6_123 (C : Cx l p s m args meth c cc RX6 nL D cA b0 tab) {i : Nat} (hd : DI cc pc (.getfield 123) 3 pc') (hin : inD ns nt 0 i) (kk : Wm p l e R s m args below meth c nL D cA b0 cells slots Q pc' lv (aI (M.1 0 i 3) :: st) ad ns nt M) : Wm p l e R s m args below meth c nL D cA b0 cells slots Q pc lv (aO 0 i :: st) ad ns nt M := w_getG (sl := 3) (v := aI (M.1 0 i 3)) C hd hin rfl rfl (by decide) wi_X6 (mT1 (i := 145) (by decide +kernel) rfl) rfl rfl kk
theorem p_X6_123 (C : Cx l p s m args meth c cc RX6 nL D cA b0 tab) {i : Nat} {v : Int} (hd : DI cc pc (.putfield 123) 3 pc') (hin : inD ns nt 0 i) (kk : Wm p l e R s m args below meth c nL D cA b0 cells slots Q pc' lv st ad ns nt (uI M 0 i 3 v)) : Wm p l e R s m args below meth c nL D cA b0 cells slots Q pc lv (aI v :: aO 0 i :: st) ad ns nt M := w_putG (sl := 3) (v := aI v) C tyX6 hd hin rfl rfl (by decide) (Nat.le_of_ble_eq_true rfl) wi_X6 (mT1 (i := 145) (by decide +kernel) rfl) rfl tyX6_ok nmX6 rfl rfl rfl rfl (by rw [uI_on]; rfl) (uI_off cA ad M 3 v) kk
theorem g_X6_31 (C : Cx l p s m args meth c cc RX6 nL D cA b0 tab) {i : Nat} (hd : DI cc pc (.getfield 31) 3 pc') (hin : inD ns nt 0 i) (kk : Wm p l e R s m args below meth c nL D cA b0 cells slots Q pc' lv (aO 11 0 :: st) ad ns nt M) : Wm p l e R s m args below meth c nL D cA b0 cells slots Q pc lv (aO 0 i :: st) ad ns nt M := w_getG (sl := 4) (v := aO 11 0) C hd hin rfl rfl (by decide) wi_X6 (mT1 (i := 146) (by decide +kernel) rfl) rfl rfl kk
theorem g_X6_273 (C : Cx l p s m args meth c cc RX6 nL D cA b0 tab) {i : Nat} (hd : DI cc pc (.getfield 273) 3 pc') (hin : inD ns nt 0 i) (kk : Wm p l e R s m args below meth c nL D cA b0 cells slots Q pc' lv (aI (M.1 0 i 5) :: st) ad ns nt M) : Wm p l e R s m args below meth c nL D cA b0 cells slots Q pc lv (aO 0 i :: st) ad ns nt M := w_getG (sl := 5) (v := aI (M.1 0 i 5)) C hd hin rfl rfl (by decide) wi_X6 (mT1 (i := 147) (by decide +kernel) rfl) rfl rfl kk
theorem p_X6_273 (C : Cx l p s m args meth c cc RX6 nL D cA b0 tab) {i : Nat} {v : Int} (hd : DI cc pc (.putfield 273) 3 pc') (hin : inD ns nt 0 i) (kk : Wm p l e R s m args below meth c nL D cA b0 cells slots Q pc' lv st ad ns nt (uI M 0 i 5 v)) : Wm p l e R s m args below meth c nL D cA b0 cells slots Q pc lv (aI v :: aO 0 i :: st) ad ns nt M := w_putG (sl := 5) (v := aI v) C tyX6 hd hin rfl rfl (by decide) (Nat.le_of_ble_eq_true rfl) wi_X6 (mT1 (i := 147) (by decide +kernel) rfl) rfl tyX6_ok nmX6 rfl rfl rfl rfl (by rw [uI_on]; rfl) (uI_off cA ad M 5 v) kk
theorem g_X6_356 (C : Cx l p s m args meth c cc RX6 nL D cA b0 tab) {i : Nat} (hd : DI cc pc (.getfield 356) 3 pc') (hin : inD ns nt 0 i) (kk : Wm p l e R s m args below meth c nL D cA b0 cells slots Q pc' lv (aI (M.1 0 i 6) :: st) ad ns nt M) : Wm p l e R s m args below meth c nL D cA b0 cells slots Q pc lv (aO 0 i :: st) ad ns nt M := w_getG (sl := 6) (v := aI (M.1 0 i 6)) C hd hin rfl rfl (by decide) wi_X6 (mT1 (i := 148) (by decide +kernel) rfl) rfl rfl kk
theorem p_X6_356 (C : Cx l p s m args meth c cc RX6 nL D cA b0 tab) {i : Nat} {v : Int} (hd : DI cc pc (.putfield 356) 3 pc') (hin : inD ns nt 0 i) (kk : Wm p l e R s m args below meth c nL D cA b0 cells slots Q pc' lv st ad ns nt (uI M 0 i 6 v)) : Wm p l e R s m args below meth c nL D cA b0 cells slots Q pc lv (aI v :: aO 0 i :: st) ad ns nt M := w_putG (sl := 6) (v := aI v) C tyX6 hd hin rfl rfl (by decide) (Nat.le_of_ble_eq_true rfl) wi_X6 (mT1 (i := 148) (by decide +kernel) rfl) rfl tyX6_ok nmX6 rfl rfl rfl rfl (by rw [uI_on]; rfl) (uI_off cA ad M 6 v) kk
theorem g_X6_35 (C : Cx l p s m args meth c cc RX6 nL D cA b0 tab) {i : Nat} (hd : DI cc pc (.getfield 35) 3 pc') (hin : inD ns nt 0 i) (kk : Wm p l e R s m args below meth c nL D cA b0 cells slots Q pc' lv (aO 2 1 :: st) ad ns nt M) : Wm p l e R s m args below meth c nL D cA b0 cells slots Q pc lv (aO 0 i :: st) ad ns nt M := w_getG (sl := 7) (v := aO 2 1) C hd hin rfl rfl (by decide) wi_X6 (mT1 (i := 149) (by decide +kernel) rfl) rfl rfl kk
theorem g_X6_38 (C : Cx l p s m args meth c cc RX6 nL D cA b0 tab) {i : Nat} (hd : DI cc pc (.getfield 38) 3 pc') (hin : inD ns nt 0 i) (kk : Wm p l e R s m args below meth c nL D cA b0 cells slots Q pc' lv (aO 27 0 :: st) ad ns nt M) : Wm p l e R s m args below meth c nL D cA b0 cells slots Q pc lv (aO 0 i :: st) ad ns nt M := w_getG (sl := 8) (v := aO 27 0) C hd hin rfl rfl (by decide) wi_X6 (mT1 (i := 150) (by decide +kernel) rfl) rfl rfl kk
theorem g_X6_42 (C : Cx l p s m args meth c cc RX6 nL D cA b0 tab) {i : Nat} (hd : DI cc pc (.getfield 42) 3 pc') (hin : inD ns nt 0 i) (kk : Wm p l e R s m args below meth c nL D cA b0 cells slots Q pc' lv (aO 28 0 :: st) ad ns nt M) : Wm p l e R s m args below meth c nL D cA b0 cells slots Q pc lv (aO 0 i :: st) ad ns nt M := w_getG (sl := 9) (v := aO 28 0) C hd hin rfl rfl (by decide) wi_X6 (mT1 (i := 151) (by decide +kernel) rfl) rfl rfl kk
theorem g_X6_45 (C : Cx l p s m args meth c cc RX6 nL D cA b0 tab) {i : Nat} (hd : DI cc pc (.getfield 45) 3 pc') (hin : inD ns nt 0 i) (kk : Wm p l e R s m args below meth c nL D cA b0 cells slots Q pc' lv (aO 29 0 :: st) ad ns nt M) : Wm p l e R s m args below meth c nL D cA b0 cells slots Q pc lv (aO 0 i :: st) ad ns nt M := w_getG (sl := 10) (v := aO 29 0) C hd hin rfl rfl (by decide) wi_X6 (mT1 (i := 152) (by decide +kernel) rfl) rfl rfl kk
theorem g_X2_9 (C : Cx l p s m args meth c cc RX2 nL D cA b0 tab) {i : Nat} (hd : DI cc pc (.getfield 9) 3 pc') (hin : inD ns nt 5 i) (kk : Wm p l e R s m args below meth c nL D cA b0 cells slots Q pc' lv (aI (M.1 5 i 0) :: st) ad ns nt M) : Wm p l e R s m args below meth c nL D cA b0 cells slots Q pc lv (aO 5 i :: st) ad ns nt M := w_getG (sl := 0) (v := aI (M.1 5 i 0)) C hd hin rfl rfl (by decide) wi_X2 (mT2 (i := 209) (by decide +kernel) rfl) rfl rfl kk
theorem g_X2_15 (C : Cx l p s m args meth c cc RX2 nL D cA b0 tab) {i : Nat} (hd : DI cc pc (.getfield 15) 3 pc') (hin : inD ns nt 5 i) (kk : Wm p l e R s m args below meth c nL D cA b0 cells slots Q pc' lv (aI (M.1 5 i 1) :: st) ad ns nt M) : Wm p l e R s m args below meth c nL D cA b0 cells slots Q pc lv (aO 5 i :: st) ad ns nt M := w_getG (sl := 1) (v := aI (M.1 5 i 1)) C hd hin rfl rfl (by decide) wi_X2 (mT2 (i := 210) (by decide +kernel) rfl) rfl rfl kk
theorem g_X2_19 (C : Cx l p s m args meth c cc RX2 nL D cA b0 tab) {i : Nat} (hd : DI cc pc (.getfield 19) 3 pc') (hin : inD ns nt 5 i) (kk : Wm p l e R s m args below meth c nL D cA b0 cells slots Q pc' lv (aO 31 i :: st) ad ns nt M) : Wm p l e R s m args below meth c nL D cA b0 cells slots Q pc lv (aO 5 i :: st) ad ns nt M := w_getG (sl := 2) (v := aO 31 i) C hd hin rfl rfl (by decide) wi_X2 (mT2 (i := 211) (by decide +kernel) rfl) rfl rfl kk
theorem g_X1_114 (C : Cx l p s m args meth c cc RX1 nL D cA b0 tab) {i : Nat} (hd : DI cc pc (.getfield 114) 3 pc') (hin : inD ns nt 5 i) (kk : Wm p l e R s m args below meth c nL D cA b0 cells slots Q pc' lv (aO 31 i :: st) ad ns nt M) : Wm p l e R s m args below meth c nL D cA b0 cells slots Q pc lv (aO 5 i :: st) ad ns nt M := w_getG (sl := 2) (v := aO 31 i) C hd hin rfl rfl (by decide) wi_X2 (mT2 (i := 212) (by decide +kernel) rfl) rfl rfl kk
theorem g_X2_55 (C : Cx l p s m args meth c cc RX2 nL D cA b0 tab) {i : Nat} (hd : DI cc pc (.getfield 55) 3 pc') (hin : inD ns nt 5 i) (kk : Wm p l e R s m args below meth c nL D cA b0 cells slots Q pc' lv (aI (M.1 5 i 3) :: st) ad ns nt M) : Wm p l e R s m args below meth c nL D cA b0 cells slots Q pc lv (aO 5 i :: st) ad ns nt M := w_getG (sl := 3) (v := aI (M.1 5 i 3)) C hd hin rfl rfl (by decide) wi_X2 (mT2 (i := 213) (by decide +kernel) rfl) rfl rfl kk
theorem p_X2_55 (C : Cx l p s m args meth c cc RX2 nL D cA b0 tab) {i : Nat} {v : Int} (hd : DI cc pc (.putfield 55) 3 pc') (hin : inD ns nt 5 i) (kk : Wm p l e R s m args below meth c nL D cA b0 cells slots Q pc' lv st ad ns nt (uI M 5 i 3 v)) : Wm p l e R s m args below meth c nL D cA b0 cells slots Q pc lv (aI v :: aO 5 i :: st) ad ns nt M := w_putG (sl := 3) (v := aI v) C tyX2 hd hin rfl rfl (by decide) (Nat.le_of_ble_eq_true rfl) wi_X2 (mT2 (i := 213) (by decide +kernel) rfl) rfl tyX2_ok nmX2 rfl rfl rfl rfl (by rw [uI_on]; rfl) (uI_off cA ad M 3 v) kk
theorem g_X1_107 (C : Cx l p s m args meth c cc RX1 nL D cA b0 tab) {i : Nat} (hd : DI cc pc (.getfield 107) 3 pc') (hin : inD ns nt 5 i) (kk : Wm p l e R s m args below meth c nL D cA b0 cells slots Q pc' lv (aI (M.1 5 i 3) :: st) ad ns nt M) : Wm p l e R s m args below meth c nL D cA b0 cells slots Q pc lv (aO 5 i :: st) ad ns nt M := w_getG (sl := 3) (v := aI (M.1 5 i 3)) C hd hin rfl rfl (by decide) wi_X2 (mT2 (i := 214) (by decide +kernel) rfl) rfl rfl kk
theorem p_X1_107 (C : Cx l p s m args meth c cc RX1 nL D cA b0 tab) {i : Nat} {v : Int} (hd : DI cc pc (.putfield 107) 3 pc') (hin : inD ns nt 5 i) (kk : Wm p l e R s m args below meth c nL D cA b0 cells slots Q pc' lv st ad ns nt (uI M 5 i 3 v)) : Wm p l e R s m args below meth c nL D cA b0 cells slots Q pc lv (aI v :: aO 5 i :: st) ad ns nt M := w_putG (sl := 3) (v := aI v) C tyX2 hd hin rfl rfl (by decide) (Nat.le_of_ble_eq_true rfl) wi_X2 (mT2 (i := 214) (by decide +kernel) rfl) rfl tyX2_ok nmX2 rfl rfl rfl rfl (by rw [uI_on]; rfl) (uI_off cA ad M 3 v) kk
theorem g_X0_66 (C : Cx l p s m args meth c cc RX0 nL D cA b0 tab) {i : Nat} (hd : DI cc pc (.getfield 66) 3 pc') (hin : inD ns nt 5 i) (kk : Wm p l e R s m args below meth c nL D cA b0 cells slots Q pc' lv (aI (M.1 5 i 3) :: st) ad ns nt M) : Wm p l e R s m args below meth c nL D cA b0 cells slots Q pc lv (aO 5 i :: st) ad ns nt M := w_getG (sl := 3) (v := aI (M.1 5 i 3)) C hd hin rfl rfl (by decide) wi_X2 (mT2 (i := 215) (by decide +kernel) rfl) rfl rfl kk
theorem p_X0_66 (C : Cx l p s m args meth c cc RX0 nL D cA b0 tab) {i : Nat} {v : Int} (hd : DI cc pc (.putfield 66) 3 pc') (hin : inD ns nt 5 i) (kk : Wm p l e R s m args below meth c nL D cA b0 cells slots Q pc' lv st ad ns nt (uI M 5 i 3 v)) : Wm p l e R s m args below meth c nL D cA b0 cells slots Q pc lv (aI v :: aO 5 i :: st) ad ns nt M := w_putG (sl := 3) (v := aI v) C tyX2 hd hin rfl rfl (by decide) (Nat.le_of_ble_eq_true rfl) wi_X2 (mT2 (i := 215) (by decide +kernel) rfl) rfl tyX2_ok nmX2 rfl rfl rfl rfl (by rw [uI_on]; rfl) (uI_off cA ad M 3 v) kk
theorem g_X2_58 (C : Cx l p s m args meth c cc RX2 nL D cA b0 tab) {i : Nat} (hd : DI cc pc (.getfield 58) 3 pc') (hin : inD ns nt 5 i) (kk : Wm p l e R s m args below meth c nL D cA b0 cells slots Q pc' lv (aI (M.1 5 i 4) :: st) ad ns nt M) : Wm p l e R s m args below meth c nL D cA b0 cells slots Q pc lv (aO 5 i :: st) ad ns nt M := w_getG (sl := 4) (v := aI (M.1 5 i 4)) C hd hin rfl rfl (by decide) wi_X2 (mT2 (i := 216) (by decide +kernel) rfl) rfl rfl kk
theorem p_X2_58 (C : Cx l p s m args meth c cc RX2 nL D cA b0 tab) {i : Nat} {v : Int} (hd : DI cc pc (.putfield 58) 3 pc') (hin : inD ns nt 5 i) (kk : Wm p l e R s m args below meth c nL D cA b0 cells slots Q pc' lv st ad ns nt (uI M 5 i 4 v)) : Wm p l e R s m args below meth c nL D cA b0 cells slots Q pc lv (aI v :: aO 5 i :: st) ad ns nt M := w_putG (sl := 4) (v := aI v) C tyX2 hd hin rfl rfl (by decide) (Nat.le_of_ble_eq_true rfl) wi_X2 (mT2 (i := 216) (by decide +kernel) rfl) rfl tyX2_ok nmX2 rfl rfl rfl rfl (by rw [uI_on]; rfl) (uI_off cA ad M 4 v) kk
theorem g_X0_79 (C : Cx l p s m args meth c cc RX0 nL D cA b0 tab) {i : Nat} (hd : DI cc pc (.getfield 79) 3 pc') (hin : inD ns nt 5 i) (kk : Wm p l e R s m args below meth c nL D cA b0 cells slots Q pc' lv (aI (M.1 5 i 4) :: st) ad ns nt M) : Wm p l e R s m args below meth c nL D cA b0 cells slots Q pc lv (aO 5 i :: st) ad ns nt M := w_getG (sl := 4) (v := aI (M.1 5 i 4)) C hd hin rfl rfl (by decide) wi_X2 (mT2 (i := 217) (by decide +kernel) rfl) rfl rfl kk
theorem p_X0_79 (C : Cx l p s m args meth c cc RX0 nL D cA b0 tab) {i : Nat} {v : Int} (hd : DI cc pc (.putfield 79) 3 pc') (hin : inD ns nt 5 i) (kk : Wm p l e R s m args below meth c nL D cA b0 cells slots Q pc' lv st ad ns nt (uI M 5 i 4 v)) : Wm p l e R s m args below meth c nL D cA b0 cells slots Q pc lv (aI v :: aO 5 i :: st) ad ns nt M := w_putG (sl := 4) (v := aI v) C tyX2 hd hin rfl rfl (by decide) (Nat.le_of_ble_eq_true rfl) wi_X2 (mT2 (i := 217) (by decide +kernel) rfl) rfl tyX2_ok nmX2 rfl rfl rfl rfl (by rw [uI_on]; rfl) (uI_off cA ad M 4 v) kk
theorem g_X2_61 (C : Cx l p s m args meth c cc RX2 nL D cA b0 tab) {i : Nat} (hd : DI cc pc (.getfield 61) 3 pc') (hin : inD ns nt 5 i) (kk : Wm p l e R s m args below meth c nL D cA b0 cells slots Q pc' lv (aI (M.1 5 i 5) :: st) ad ns nt M) : Wm p l e R s m args below meth c nL D cA b0 cells slots Q pc lv (aO 5 i :: st) ad ns nt M := w_getG (sl := 5) (v := aI (M.1 5 i 5)) C hd hin rfl rfl (by decide) wi_X2 (mT2 (i := 218) (by decide +kernel) rfl) rfl rfl kk
theorem p_X2_61 (C : Cx l p s m args meth c cc RX2 nL D cA b0 tab) {i : Nat} {v : Int} (hd : DI cc pc (.putfield 61) 3 pc') (hin : inD ns nt 5 i) (kk : Wm p l e R s m args below meth c nL D cA b0 cells slots Q pc' lv st ad ns nt (uI M 5 i 5 v)) : Wm p l e R s m args below meth c nL D cA b0 cells slots Q pc lv (aI v :: aO 5 i :: st) ad ns nt M := w_putG (sl := 5) (v := aI v) C tyX2 hd hin rfl rfl (by decide) (Nat.le_of_ble_eq_true rfl) wi_X2 (mT2 (i := 218) (by decide +kernel) rfl) rfl tyX2_ok nmX2 rfl rfl rfl rfl (by rw [uI_on]; rfl) (uI_off cA ad M 5 v) kk
theorem g_X1_95 (C : Cx l p s m args meth c cc RX1 nL D cA b0 tab) {i : Nat} (hd : DI cc pc (.getfield 95) 3 pc') (hin : inD ns nt 5 i) (kk : Wm p l e R s m args below meth c nL D cA b0 cells slots Q pc' lv (aI (M.1 5 i 5) :: st) ad ns nt M) : Wm p l e R s m args below meth c nL D cA b0 cells slots Q pc lv (aO 5 i :: st) ad ns nt M := w_getG (sl := 5) (v := aI (M.1 5 i 5)) C hd hin rfl rfl (by decide) wi_X2 (mT2 (i := 219) (by decide +kernel) rfl) rfl rfl kk
theorem p_X1_95 (C : Cx l p s m args meth c cc RX1 nL D cA b0 tab) {i : Nat} {v : Int} (hd : DI cc pc (.putfield 95) 3 pc') (hin : inD ns nt 5 i) (kk : Wm p l e R s m args below meth c nL D cA b0 cells slots Q pc' lv st ad ns nt (uI M 5 i 5 v)) : Wm p l e R s m args below meth c nL D cA b0 cells slots Q pc lv (aI v :: aO 5 i :: st) ad ns nt M := w_putG (sl := 5) (v := aI v) C tyX2 hd hin rfl rfl (by decide) (Nat.le_of_ble_eq_true rfl) wi_X2 (mT2 (i := 219) (by decide +kernel) rfl) rfl tyX2_ok nmX2 rfl rfl rfl rfl (by rw [uI_on]; rfl) (uI_off cA ad M 5 v) kk
theorem g_X4_9 (C : Cx l p s m args meth c cc RX4 nL D cA b0 tab) {i : Nat} (hd : DI cc pc (.getfield 9) 3 pc') (hin : inD ns nt 4 i) (kk : Wm p l e R s m args below meth c nL D cA b0 cells slots Q pc' lv (aI (M.1 4 i 0) :: st) ad ns nt M) : Wm p l e R s m args below meth c nL D cA b0 cells slots Q pc lv (aO 4 i :: st) ad ns nt M := w_getG (sl := 0) (v := aI (M.1 4 i 0)) C hd hin rfl rfl (by decide) wi_X4 (mT2 (i := 233) (by decide +kernel) rfl) rfl rfl kk
theorem g_X4_15 (C : Cx l p s m args meth c cc RX4 nL D cA b0 tab) {i : Nat} (hd : DI cc pc (.getfield 15) 3 pc') (hin : inD ns nt 4 i) (kk : Wm p l e R s m args below meth c nL D cA b0 cells slots Q pc' lv (aI (M.1 4 i 1) :: st) ad ns nt M) : Wm p l e R s m args below meth c nL D cA b0 cells slots Q pc lv (aO 4 i :: st) ad ns nt M := w_getG (sl := 1) (v := aI (M.1 4 i 1)) C hd hin rfl rfl (by decide) wi_X4 (mT2 (i := 234) (by decide +kernel) rfl) rfl rfl kk
theorem g_X6_312 (C : Cx l p s m args meth c cc RX6 nL D cA b0 tab) {i : Nat} (hd : DI cc pc (.getfield 312) 3 pc') (hin : inD ns nt 4 i) (kk : Wm p l e R s m args below meth c nL D cA b0 cells slots Q pc' lv (aI (M.1 4 i 1) :: st) ad ns nt M) : Wm p l e R s m args below meth c nL D cA b0 cells slots Q pc lv (aO 4 i :: st) ad ns nt M := w_getG (sl := 1) (v := aI (M.1 4 i 1)) C hd hin rfl rfl (by decide) wi_X4 (mT2 (i := 235) (by decide +kernel) rfl) rfl rfl kk
theorem g_X4_19 (C : Cx l p s m args meth c cc RX4 nL D cA b0 tab) {i : Nat} (hd : DI cc pc (.getfield 19) 3 pc') (hin : inD ns nt 4 i) (kk : Wm p l e R s m args below meth c nL D cA b0 cells slots Q pc' lv (aO 30 i :: st) ad ns nt M) : Wm p l e R s m args below meth c nL D cA b0 cells slots Q pc lv (aO 4 i :: st) ad ns nt M := w_getG (sl := 2) (v := aO 30 i) C hd hin rfl rfl (by decide) wi_X4 (mT2 (i := 236) (by decide +kernel) rfl) rfl rfl kk
theorem g_X4_29 (C : Cx l p s m args meth c cc RX4 nL D cA b0 tab) {i : Nat} (hd : DI cc pc (.getfield 29) 3 pc') (hin : inD ns nt 4 i) (kk : Wm p l e R s m args below meth c nL D cA b0 cells slots Q pc' lv (aO 13 i :: st) ad ns nt M) : Wm p l e R s m args below meth c nL D cA b0 cells slots Q pc lv (aO 4 i :: st) ad ns nt M := w_getG (sl := 3) (v := aO 13 i) C hd hin rfl rfl (by decide) wi_X4 (mT2 (i := 237) (by decide +kernel) rfl) rfl rfl kk
theorem g_X4_48 (C : Cx l p s m args meth c cc RX4 nL D cA b0 tab) {i : Nat} (hd : DI cc pc (.getfield 48) 3 pc') (hin : inD ns nt 4 i) (kk : Wm p l e R s m args below meth c nL D cA b0 cells slots Q pc' lv (aI (M.1 4 i 4) :: st) ad ns nt M) : Wm p l e R s m args below meth c nL D cA b0 cells slots Q pc lv (aO 4 i :: st) ad ns nt M := w_getG (sl := 4) (v := aI (M.1 4 i 4)) C hd hin rfl rfl (by decide) wi_X4 (mT2 (i := 238) (by decide +kernel) rfl) rfl rfl kk
theorem p_X4_48 (C : Cx l p s m args meth c cc RX4 nL D cA b0 tab) {i : Nat} {v : Int} (hd : DI cc pc (.putfield 48) 3 pc') (hin : inD ns nt 4 i) (kk : Wm p l e R s m args below meth c nL D cA b0 cells slots Q pc' lv st ad ns nt (uI M 4 i 4 v)) : Wm p l e R s m args below meth c nL D cA b0 cells slots Q pc lv (aI v :: aO 4 i :: st) ad ns nt M := w_putG (sl := 4) (v := aI v) C tyX4 hd hin rfl rfl (by decide) (Nat.le_of_ble_eq_true rfl) wi_X4 (mT2 (i := 238) (by decide +kernel) rfl) rfl tyX4_ok nmX4 rfl rfl rfl rfl (by rw [uI_on]; rfl) (uI_off cA ad M 4 v) kk
theorem g_X1_61 (C : Cx l p s m args meth c cc RX1 nL D cA b0 tab) {i : Nat} (hd : DI cc pc (.getfield 61) 3 pc') (hin : inD ns nt 4 i) (kk : Wm p l e R s m args below meth c nL D cA b0 cells slots Q pc' lv (aI (M.1 4 i 4) :: st) ad ns nt M) : Wm p l e R s m args below meth c nL D cA b0 cells slots Q pc lv (aO 4 i :: st) ad ns nt M := w_getG (sl := 4) (v := aI (M.1 4 i 4)) C hd hin rfl rfl (by decide) wi_X4 (mT2 (i := 239) (by decide +kernel) rfl) rfl rfl kk
theorem p_X1_61 (C : Cx l p s m args meth c cc RX1 nL D cA b0 tab) {i : Nat} {v : Int} (hd : DI cc pc (.putfield 61) 3 pc') (hin : inD ns nt 4 i) (kk : Wm p l e R s m args below meth c nL D cA b0 cells slots Q pc' lv st ad ns nt (uI M 4 i 4 v)) : Wm p l e R s m args below meth c nL D cA b0 cells slots Q pc lv (aI v :: aO 4 i :: st) ad ns nt M := w_putG (sl := 4) (v := aI v) C tyX4 hd hin rfl rfl (by decide) (Nat.le_of_ble_eq_true rfl) wi_X4 (mT2 (i := 239) (by decide +kernel) rfl) rfl tyX4_ok nmX4 rfl rfl rfl rfl (by rw [uI_on]; rfl) (uI_off cA ad M 4 v) kk
theorem g_X6_155 (C : Cx l p s m args meth c cc RX6 nL D cA b0 tab) {i : Nat} (hd : DI cc pc (.getfield 155) 3 pc') (hin : inD ns nt 4 i) (kk : Wm p l e R s m args below meth c nL D cA b0 cells slots Q pc' lv (aI (M.1 4 i 4) :: st) ad ns nt M) : Wm p l e R s m args below meth c nL D cA b0 cells slots Q pc lv (aO 4 i :: st) ad ns nt M := w_getG (sl := 4) (v := aI (M.1 4 i 4)) C hd hin rfl rfl (by decide) wi_X4 (mT3 (i := 0) (by decide +kernel) rfl) rfl rfl kk
theorem p_X6_155 (C : Cx l p s m args meth c cc RX6 nL D cA b0 tab) {i : Nat} {v : Int} (hd : DI cc pc (.putfield 155) 3 pc') (hin : inD ns nt 4 i) (kk : Wm p l e R s m args below meth c nL D cA b0 cells slots Q pc' lv st ad ns nt (uI M 4 i 4 v)) : Wm p l e R s m args below meth c nL D cA b0 cells slots Q pc lv (aI v :: aO 4 i :: st) ad ns nt M := w_putG (sl := 4) (v := aI v) C tyX4 hd hin rfl rfl (by decide) (Nat.le_of_ble_eq_true rfl) wi_X4 (mT3 (i := 0) (by decide +kernel) rfl) rfl tyX4_ok nmX4 rfl rfl rfl rfl (by rw [uI_on]; rfl) (uI_off cA ad M 4 v) kk
theorem g_X4_23 (C : Cx l p s m args meth c cc RX4 nL D cA b0 tab) {i : Nat} (hd : DI cc pc (.getfield 23) 3 pc') (hin : inD ns nt 4 i) (kk : Wm p l e R s m args below meth c nL D cA b0 cells slots Q pc' lv (aI (M.1 4 i 5) :: st) ad ns nt M) : Wm p l e R s m args below meth c nL D cA b0 cells slots Q pc lv (aO 4 i :: st) ad ns nt M := w_getG (sl := 5) (v := aI (M.1 4 i 5)) C hd hin rfl rfl (by decide) wi_X4 (mT3 (i := 1) (by decide +kernel) rfl) rfl rfl kk
theorem p_X4_23 (C : Cx l p s m args meth c cc RX4 nL D cA b0 tab) {i : Nat} {v : Int} (hd : DI cc pc (.putfield 23) 3 pc') (hin : inD ns nt 4 i) (kk : Wm p l e R s m args below meth c nL D cA b0 cells slots Q pc' lv st ad ns nt (uI M 4 i 5 v)) : Wm p l e R s m args below meth c nL D cA b0 cells slots Q pc lv (aI v :: aO 4 i :: st) ad ns nt M := w_putG (sl := 5) (v := aI v) C tyX4 hd hin rfl rfl (by decide) (Nat.le_of_ble_eq_true rfl) wi_X4 (mT3 (i := 1) (by decide +kernel) rfl) rfl tyX4_ok nmX4 rfl rfl rfl rfl (by rw [uI_on]; rfl) (uI_off cA ad M 5 v) kk
theorem g_X1_92 (C : Cx l p s m args meth c cc RX1 nL D cA b0 tab) {i : Nat} (hd : DI cc pc (.getfield 92) 3 pc') (hin : inD ns nt 4 i) (kk : Wm p l e R s m args below meth c nL D cA b0 cells slots Q pc' lv (aI (M.1 4 i 5) :: st) ad ns nt M) : Wm p l e R s m args below meth c nL D cA b0 cells slots Q pc lv (aO 4 i :: st) ad ns nt M := w_getG (sl := 5) (v := aI (M.1 4 i 5)) C hd hin rfl rfl (by decide) wi_X4 (mT3 (i := 2) (by decide +kernel) rfl) rfl rfl kk
theorem p_X1_92 (C : Cx l p s m args meth c cc RX1 nL D cA b0 tab) {i : Nat} {v : Int} (hd : DI cc pc (.putfield 92) 3 pc') (hin : inD ns nt 4 i) (kk : Wm p l e R s m args below meth c nL D cA b0 cells slots Q pc' lv st ad ns nt (uI M 4 i 5 v)) : Wm p l e R s m args below meth c nL D cA b0 cells slots Q pc lv (aI v :: aO 4 i :: st) ad ns nt M := w_putG (sl := 5) (v := aI v) C tyX4 hd hin rfl rfl (by decide) (Nat.le_of_ble_eq_true rfl) wi_X4 (mT3 (i := 2) (by decide +kernel) rfl) rfl tyX4_ok nmX4 rfl rfl rfl rfl (by rw [uI_on]; rfl) (uI_off cA ad M 5 v) kk
theorem g_X6_162 (C : Cx l p s m args meth c cc RX6 nL D cA b0 tab) {i : Nat} (hd : DI cc pc (.getfield 162) 3 pc') (hin : inD ns nt 4 i) (kk : Wm p l e R s m args below meth c nL D cA b0 cells slots Q pc' lv (aI (M.1 4 i 5) :: st) ad ns nt M) : Wm p l e R s m args below meth c nL D cA b0 cells slots Q pc lv (aO 4 i :: st) ad ns nt M := w_getG (sl := 5) (v := aI (M.1 4 i 5)) C hd hin rfl rfl (by decide) wi_X4 (mT3 (i := 3) (by decide +kernel) rfl) rfl rfl kk
theorem p_X6_162 (C : Cx l p s m args meth c cc RX6 nL D cA b0 tab) {i : Nat} {v : Int} (hd : DI cc pc (.putfield 162) 3 pc') (hin : inD ns nt 4 i) (kk : Wm p l e R s m args below meth c nL D cA b0 cells slots Q pc' lv st ad ns nt (uI M 4 i 5 v)) : Wm p l e R s m args below meth c nL D cA b0 cells slots Q pc lv (aI v :: aO 4 i :: st) ad ns nt M := w_putG (sl := 5) (v := aI v) C tyX4 hd hin rfl rfl (by decide) (Nat.le_of_ble_eq_true rfl) wi_X4 (mT3 (i := 3) (by decide +kernel) rfl) rfl tyX4_ok nmX4 rfl rfl rfl rfl (by rw [uI_on]; rfl) (uI_off cA ad M 5 v) kk
theorem g_X4_54 (C : Cx l p s m args meth c cc RX4 nL D cA b0 tab) {i : Nat} (hd : DI cc pc (.getfield 54) 3 pc') (hin : inD ns nt 4 i) (kk : Wm p l e R s m args below meth c nL D cA b0 cells slots Q pc' lv (aI (M.1 4 i 6) :: st) ad ns nt M) : Wm p l e R s m args below meth c nL D cA b0 cells slots Q pc lv (aO 4 i :: st) ad ns nt M := w_getG (sl := 6) (v := aI (M.1 4 i 6)) C hd hin rfl rfl (by decide) wi_X4 (mT3 (i := 4) (by decide +kernel) rfl) rfl rfl kk
theorem p_X4_54 (C : Cx l p s m args meth c cc RX4 nL D cA b0 tab) {i : Nat} {v : Int} (hd : DI cc pc (.putfield 54) 3 pc') (hin : inD ns nt 4 i) (kk : Wm p l e R s m args below meth c nL D cA b0 cells slots Q pc' lv st ad ns nt (uI M 4 i 6 v)) : Wm p l e R s m args below meth c nL D cA b0 cells slots Q pc lv (aI v :: aO 4 i :: st) ad ns nt M := w_putG (sl := 6) (v := aI v) C tyX4 hd hin rfl rfl (by decide) (Nat.le_of_ble_eq_true rfl) wi_X4 (mT3 (i := 4) (by decide +kernel) rfl) rfl tyX4_ok nmX4 rfl rfl rfl rfl (by rw [uI_on]; rfl) (uI_off cA ad M 6 v) kk
theorem g_X4_57 (C : Cx l p s m args meth c cc RX4 nL D cA b0 tab) {i : Nat} (hd : DI cc pc (.getfield 57) 3 pc') (hin : inD ns nt 4 i) (kk : Wm p l e R s m args below meth c nL D cA b0 cells slots Q pc' lv (aI (M.1 4 i 7) :: st) ad ns nt M) : Wm p l e R s m args below meth c nL D cA b0 cells slots Q pc lv (aO 4 i :: st) ad ns nt M := w_getG (sl := 7) (v := aI (M.1 4 i 7)) C hd hin rfl rfl (by decide) wi_X4 (mT3 (i := 5) (by decide +kernel) rfl) rfl rfl kk
theorem p_X4_57 (C : Cx l p s m args meth c cc RX4 nL D cA b0 tab) {i : Nat} {v : Int} (hd : DI cc pc (.putfield 57) 3 pc') (hin : inD ns nt 4 i) (kk : Wm p l e R s m args below meth c nL D cA b0 cells slots Q pc' lv st ad ns nt (uI M 4 i 7 v)) : Wm p l e R s m args below meth c nL D cA b0 cells slots Q pc lv (aI v :: aO 4 i :: st) ad ns nt M := w_putG (sl := 7) (v := aI v) C tyX4 hd hin rfl rfl (by decide) (Nat.le_of_ble_eq_true rfl) wi_X4 (mT3 (i := 5) (by decide +kernel) rfl) rfl tyX4_ok nmX4 rfl rfl rfl rfl (by rw [uI_on]; rfl) (uI_off cA ad M 7 v) kk
theorem g_X4_63 (C : Cx l p s m args meth c cc RX4 nL D cA b0 tab) {i : Nat} (hd : DI cc pc (.getfield 63) 3 pc') (hin : inD ns nt 4 i) (kk : Wm p l e R s m args below meth c nL D cA b0 cells slots Q pc' lv (aI (M.1 4 i 8) :: st) ad ns nt M) : Wm p l e R s m args below meth c nL D cA b0 cells slots Q pc lv (aO 4 i :: st) ad ns nt M := w_getG (sl := 8) (v := aI (M.1 4 i 8)) C hd hin rfl rfl (by decide) wi_X4 (mT3 (i := 6) (by decide +kernel) rfl) rfl rfl kk
theorem p_X4_63 (C : Cx l p s m args meth c cc RX4 nL D cA b0 tab) {i : Nat} {v : Int} (hd : DI cc pc (.putfield 63) 3 pc') (hin : inD ns nt 4 i) (kk : Wm p l e R s m args below meth c nL D cA b0 cells slots Q pc' lv st ad ns nt (uI M 4 i 8 v)) : Wm p l e R s m args below meth c nL D cA b0 cells slots Q pc lv (aI v :: aO 4 i :: st) ad ns nt M := w_putG (sl := 8) (v := aI v) C tyX4 hd hin rfl rfl (by decide) (Nat.le_of_ble_eq_true rfl) wi_X4 (mT3 (i := 6) (by decide +kernel) rfl) rfl tyX4_ok nmX4 rfl rfl rfl rfl (by rw [uI_on]; rfl) (uI_off cA ad M 8 v) kk
theorem g_X6_376 (C : Cx l p s m args meth c cc RX6 nL D cA b0 tab) {i : Nat} (hd : DI cc pc (.getfield 376) 3 pc') (hin : inD ns nt 4 i) (kk : Wm p l e R s m args below meth c nL D cA b0 cells slots Q pc' lv (aI (M.1 4 i 8) :: st) ad ns nt M) : Wm p l e R s m args below meth c nL D cA b0 cells slots Q pc lv (aO 4 i :: st) ad ns nt M := w_getG (sl := 8) (v := aI (M.1 4 i 8)) C hd hin rfl rfl (by decide) wi_X4 (mT3 (i := 7) (by decide +kernel) rfl) rfl rfl kk
theorem p_X6_376 (C : Cx l p s m args meth c cc RX6 nL D cA b0 tab) {i : Nat} {v : Int} (hd : DI cc pc (.putfield 376) 3 pc') (hin : inD ns nt 4 i) (kk : Wm p l e R s m args below meth c nL D cA b0 cells slots Q pc' lv st ad ns nt (uI M 4 i 8 v)) : Wm p l e R s m args below meth c nL D cA b0 cells slots Q pc lv (aI v :: aO 4 i :: st) ad ns nt M := w_putG (sl := 8) (v := aI v) C tyX4 hd hin rfl rfl (by decide) (Nat.le_of_ble_eq_true rfl) wi_X4 (mT3 (i := 7) (by decide +kernel) rfl) rfl tyX4_ok nmX4 rfl rfl rfl rfl (by rw [uI_on]; rfl) (uI_off cA ad M 8 v) kk
theorem g_X4_66 (C : Cx l p s m args meth c cc RX4 nL D cA b0 tab) {i : Nat} (hd : DI cc pc (.getfield 66) 3 pc') (hin : inD ns nt 4 i) (kk : Wm p l e R s m args below meth c nL D cA b0 cells slots Q pc' lv (aI (M.1 4 i 9) :: st) ad ns nt M) : Wm p l e R s m args below meth c nL D cA b0 cells slots Q pc lv (aO 4 i :: st) ad ns nt M := w_getG (sl := 9) (v := aI (M.1 4 i 9)) C hd hin rfl rfl (by decide) wi_X4 (mT3 (i := 8) (by decide +kernel) rfl) rfl rfl kk
theorem p_X4_66 (C : Cx l p s m args meth c cc RX4 nL D cA b0 tab) {i : Nat} {v : Int} (hd : DI cc pc (.putfield 66) 3 pc') (hin : inD ns nt 4 i) (kk : Wm p l e R s m args below meth c nL D cA b0 cells slots Q pc' lv st ad ns nt (uI M 4 i 9 v)) : Wm p l e R s m args below meth c nL D cA b0 cells slots Q pc lv (aI v :: aO 4 i :: st) ad ns nt M := w_putG (sl := 9) (v := aI v) C tyX4 hd hin rfl rfl (by decide) (Nat.le_of_ble_eq_true rfl) wi_X4 (mT3 (i := 8) (by decide +kernel) rfl) rfl tyX4_ok nmX4 rfl rfl rfl rfl (by rw [uI_on]; rfl) (uI_off cA ad M 9 v) kk
theorem g_X6_383 (C : Cx l p s m args meth c cc RX6 nL D cA b0 tab) {i : Nat} (hd : DI cc pc (.getfield 383) 3 pc') (hin : inD ns nt 4 i) (kk : Wm p l e R s m args below meth c nL D cA b0 cells slots Q pc' lv (aI (M.1 4 i 9) :: st) ad ns nt M) : Wm p l e R s m args below meth c nL D cA b0 cells slots Q pc lv (aO 4 i :: st) ad ns nt M := w_getG (sl := 9) (v := aI (M.1 4 i 9)) C hd hin rfl rfl (by decide) wi_X4 (mT3 (i := 9) (by decide +kernel) rfl) rfl rfl kk
theorem p_X6_383 (C : Cx l p s m args meth c cc RX6 nL D cA b0 tab) {i : Nat} {v : Int} (hd : DI cc pc (.putfield 383) 3 pc') (hin : inD ns nt 4 i) (kk : Wm p l e R s m args below meth c nL D cA b0 cells slots Q pc' lv st ad ns nt (uI M 4 i 9 v)) : Wm p l e R s m args below meth c nL D cA b0 cells slots Q pc lv (aI v :: aO 4 i :: st) ad ns nt M := w_putG (sl := 9) (v := aI v) C tyX4 hd hin rfl rfl (by decide) (Nat.le_of_ble_eq_true rfl) wi_X4 (mT3 (i := 9) (by decide +kernel) rfl) rfl tyX4_ok nmX4 rfl rfl rfl rfl (by rw [uI_on]; rfl) (uI_off cA ad M 9 v) kk
theorem g_X6_146 (C : Cx l p s m args meth c cc RX6 nL D cA b0 tab) {i : Nat} (hd : DI cc pc (.getfield 146) 3 pc') (hin : inD ns nt 4 i) (kk : Wm p l e R s m args below meth c nL D cA b0 cells slots Q pc' lv (aL (M.2.2.1 4 i 10) :: st) ad ns nt M) : Wm p l e R s m args below meth c nL D cA b0 cells slots Q pc lv (aO 4 i :: st) ad ns nt M := w_getG (sl := 10) (v := aL (M.2.2.1 4 i 10)) C hd hin rfl rfl (by decide) wi_X4 (mT3 (i := 10) (by decide +kernel) rfl) rfl rfl kk
theorem p_X6_146 (C : Cx l p s m args meth c cc RX6 nL D cA b0 tab) {i : Nat} {v : Int} (hd : DI cc pc (.putfield 146) 3 pc') (hin : inD ns nt 4 i) (kk : Wm p l e R s m args below meth c nL D cA b0 cells slots Q pc' lv st ad ns nt (uL M 4 i 10 v)) : Wm p l e R s m args below meth c nL D cA b0 cells slots Q pc lv (aL v :: aO 4 i :: st) ad ns nt M := w_putG (sl := 10) (v := aL v) C tyX4 hd hin rfl rfl (by decide) (Nat.le_of_ble_eq_true rfl) wi_X4 (mT3 (i := 10) (by decide +kernel) rfl) rfl tyX4_ok nmX4 rfl rfl rfl rfl (by rw [uL_on]; rfl) (uL_off cA ad M 10 v) kk
theorem g_X4_75 (C : Cx l p s m args meth c cc RX4 nL D cA b0 tab) {i : Nat} (hd : DI cc pc (.getfield 75) 3 pc') (hin : inD ns nt 4 i) (kk : Wm p l e R s m args below meth c nL D cA b0 cells slots Q pc' lv (aL (M.2.2.1 4 i 10) :: st) ad ns nt M) : Wm p l e R s m args below meth c nL D cA b0 cells slots Q pc lv (aO 4 i :: st) ad ns nt M := w_getG (sl := 10) (v := aL (M.2.2.1 4 i 10)) C hd hin rfl rfl (by decide) wi_X4 (mT3 (i := 11) (by decide +kernel) rfl) rfl rfl kk
theorem p_X4_75 (C : Cx l p s m args meth c cc RX4 nL D cA b0 tab) {i : Nat} {v : Int} (hd : DI cc pc (.putfield 75) 3 pc') (hin : inD ns nt 4 i) (kk : Wm p l e R s m args below meth c nL D cA b0 cells slots Q pc' lv st ad ns nt (uL M 4 i 10 v)) : Wm p l e R s m args below meth c nL D cA b0 cells slots Q pc lv (aL v :: aO 4 i :: st) ad ns nt M := w_putG (sl := 10) (v := aL v) C tyX4 hd hin rfl rfl (by decide) (Nat.le_of_ble_eq_true rfl) wi_X4 (mT3 (i := 11) (by decide +kernel) rfl) rfl tyX4_ok nmX4 rfl rfl rfl rfl (by rw [uL_on]; rfl) (uL_off cA ad M 10 v) kk
theorem g_X5_9 (C : Cx l p s m args meth c cc RX5 nL D cA b0 tab) {i : Nat} (hd : DI cc pc (.getfield 9) 3 pc') (hin : inD ns nt 6 i) (kk : Wm p l e R s m args below meth c nL D cA b0 cells slots Q pc' lv (aO 32 i :: st) ad ns nt M) : Wm p l e R s m args below meth c nL D cA b0 cells slots Q pc lv (aO 6 i :: st) ad ns nt M := w_getG (sl := 0) (v := aO 32 i) C hd hin rfl rfl (by decide) wi_X5 (mT4 (i := 139) (by decide +kernel) rfl) rfl rfl kk
theorem g_X6_285 (C : Cx l p s m args meth c cc RX6 nL D cA b0 tab) {i : Nat} (hd : DI cc pc (.getfield 285) 3 pc') (hin : inD ns nt 6 i) (kk : Wm p l e R s m args below meth c nL D cA b0 cells slots Q pc' lv (aO 32 i :: st) ad ns nt M) : Wm p l e R s m args below meth c nL D cA b0 cells slots Q pc lv (aO 6 i :: st) ad ns nt M := w_getG (sl := 0) (v := aO 32 i) C hd hin rfl rfl (by decide) wi_X5 (mT4 (i := 140) (by decide +kernel) rfl) rfl rfl kk
theorem g_X6_288 (C : Cx l p s m args meth c cc RX6 nL D cA b0 tab) {i : Nat} (hd : DI cc pc (.getfield 288) 3 pc') (hin : inD ns nt 6 i) (kk : Wm p l e R s m args below meth c nL D cA b0 cells slots Q pc' lv (aI (M.1 6 i 1) :: st) ad ns nt M) : Wm p l e R s m args below meth c nL D cA b0 cells slots Q pc lv (aO 6 i :: st) ad ns nt M := w_getG (sl := 1) (v := aI (M.1 6 i 1)) C hd hin rfl rfl (by decide) wi_X5 (mT4 (i := 141) (by decide +kernel) rfl) rfl rfl kk
theorem p_X6_288 (C : Cx l p s m args meth c cc RX6 nL D cA b0 tab) {i : Nat} {v : Int} (hd : DI cc pc (.putfield 288) 3 pc') (hin : inD ns nt 6 i) (kk : Wm p l e R s m args below meth c nL D cA b0 cells slots Q pc' lv st ad ns nt (uI M 6 i 1 v)) : Wm p l e R s m args below meth c nL D cA b0 cells slots Q pc lv (aI v :: aO 6 i :: st) ad ns nt M := w_putG (sl := 1) (v := aI v) C tyX5 hd hin rfl rfl (by decide) (Nat.le_of_ble_eq_true rfl) wi_X5 (mT4 (i := 141) (by decide +kernel) rfl) rfl tyX5_ok nmX5 rfl rfl rfl rfl (by rw [uI_on]; rfl) (uI_off cA ad M 1 v) kk
theorem g_X7_109 (C : Cx l p s m args meth c cc RX7 nL D cA b0 tab) {i : Nat} (hd : DI cc pc (.getfield 109) 3 pc') (hin : inD ns nt 40 i) (kk : Wm p l e R s m args below meth c nL D cA b0 cells slots Q pc' lv (aI (M.1 40 i 0) :: st) ad ns nt M) : Wm p l e R s m args below meth c nL D cA b0 cells slots Q pc lv (aO 40 i :: st) ad ns nt M := w_getG (sl := 0) (v := aI (M.1 40 i 0)) C hd hin rfl rfl (by decide) wi_X7 (mT5 (i := 158) (by decide +kernel) rfl) rfl rfl kk
theorem p_X7_109 (C : Cx l p s m args meth c cc RX7 nL D cA b0 tab) {i : Nat} {v : Int} (hd : DI cc pc (.putfield 109) 3 pc') (hin : inD ns nt 40 i) (kk : Wm p l e R s m args below meth c nL D cA b0 cells slots Q pc' lv st ad ns nt (uI M 40 i 0 v)) : Wm p l e R s m args below meth c nL D cA b0 cells slots Q pc lv (aI v :: aO 40 i :: st) ad ns nt M := w_putG (sl := 0) (v := aI v) C tyX7 hd hin rfl rfl (by decide) (Nat.le_of_ble_eq_true rfl) wi_X7 (mT5 (i := 158) (by decide +kernel) rfl) rfl tyX7_ok nmX7 rfl rfl rfl rfl (by rw [uI_on]; rfl) (uI_off cA ad M 0 v) kk
theorem g_X7_7 (C : Cx l p s m args meth c cc RX7 nL D cA b0 tab) {i : Nat} (hd : DI cc pc (.getfield 7) 3 pc') (hin : inD ns nt 40 i) (kk : Wm p l e R s m args below meth c nL D cA b0 cells slots Q pc' lv (aI (M.1 40 i 1) :: st) ad ns nt M) : Wm p l e R s m args below meth c nL D cA b0 cells slots Q pc lv (aO 40 i :: st) ad ns nt M := w_getG (sl := 1) (v := aI (M.1 40 i 1)) C hd hin rfl rfl (by decide) wi_X7 (mT5 (i := 159) (by decide +kernel) rfl) rfl rfl kk
theorem p_X7_7 (C : Cx l p s m args meth c cc RX7 nL D cA b0 tab) {i : Nat} {v : Int} (hd : DI cc pc (.putfield 7) 3 pc') (hin : inD ns nt 40 i) (kk : Wm p l e R s m args below meth c nL D cA b0 cells slots Q pc' lv st ad ns nt (uI M 40 i 1 v)) : Wm p l e R s m args below meth c nL D cA b0 cells slots Q pc lv (aI v :: aO 40 i :: st) ad ns nt M := w_putG (sl := 1) (v := aI v) C tyX7 hd hin rfl rfl (by decide) (Nat.le_of_ble_eq_true rfl) wi_X7 (mT5 (i := 159) (by decide +kernel) rfl) rfl tyX7_ok nmX7 rfl rfl rfl rfl (by rw [uI_on]; rfl) (uI_off cA ad M 1 v) kk
theorem g_X7_133 (C : Cx l p s m args meth c cc RX7 nL D cA b0 tab) {i : Nat} (hd : DI cc pc (.getfield 133) 3 pc') (hin : inD ns nt 40 i) (kk : Wm p l e R s m args below meth c nL D cA b0 cells slots Q pc' lv (aI (M.1 40 i 2) :: st) ad ns nt M) : Wm p l e R s m args below meth c nL D cA b0 cells slots Q pc lv (aO 40 i :: st) ad ns nt M := w_getG (sl := 2) (v := aI (M.1 40 i 2)) C hd hin rfl rfl (by decide) wi_X7 (mT5 (i := 160) (by decide +kernel) rfl) rfl rfl kk
theorem p_X7_133 (C : Cx l p s m args meth c cc RX7 nL D cA b0 tab) {i : Nat} {v : Int} (hd : DI cc pc (.putfield 133) 3 pc') (hin : inD ns nt 40 i) (hz : v = 0 ∨ v = 1) (kk : Wm p l e R s m args below meth c nL D cA b0 cells slots Q pc' lv st ad ns nt (uI M 40 i 2 v)) : Wm p l e R s m args below meth c nL D cA b0 cells slots Q pc lv (aI v :: aO 40 i :: st) ad ns nt M := w_putG (sl := 2) (v := aI v) C tyX7 hd hin rfl rfl (by decide) (Nat.le_of_ble_eq_true rfl) wi_X7 (mT5 (i := 160) (by decide +kernel) rfl) rfl tyX7_ok nmX7 rfl rfl (narrow_z hz) (fits_z hz) (by rw [uI_on]; rfl) (uI_off cA ad M 2 v) kk
theorem g_X7_118 (C : Cx l p s m args meth c cc RX7 nL D cA b0 tab) {i : Nat} (hd : DI cc pc (.getfield 118) 3 pc') (hin : inD ns nt 40 i) (kk : Wm p l e R s m args below meth c nL D cA b0 cells slots Q pc' lv (aI (M.1 40 i 3) :: st) ad ns nt M) : Wm p l e R s m args below meth c nL D cA b0 cells slots Q pc lv (aO 40 i :: st) ad ns nt M := w_getG (sl := 3) (v := aI (M.1 40 i 3)) C hd hin rfl rfl (by decide) wi_X7 (mT5 (i := 161) (by decide +kernel) rfl) rfl rfl kk
theorem p_X7_118 (C : Cx l p s m args meth c cc RX7 nL D cA b0 tab) {i : Nat} {v : Int} (hd : DI cc pc (.putfield 118) 3 pc') (hin : inD ns nt 40 i) (hz : v = 0 ∨ v = 1) (kk : Wm p l e R s m args below meth c nL D cA b0 cells slots Q pc' lv st ad ns nt (uI M 40 i 3 v)) : Wm p l e R s m args below meth c nL D cA b0 cells slots Q pc lv (aI v :: aO 40 i :: st) ad ns nt M := w_putG (sl := 3) (v := aI v) C tyX7 hd hin rfl rfl (by decide) (Nat.le_of_ble_eq_true rfl) wi_X7 (mT5 (i := 161) (by decide +kernel) rfl) rfl tyX7_ok nmX7 rfl rfl (narrow_z hz) (fits_z hz) (by rw [uI_on]; rfl) (uI_off cA ad M 3 v) kk
theorem g_X7_136 (C : Cx l p s m args meth c cc RX7 nL D cA b0 tab) {i : Nat} (hd : DI cc pc (.getfield 136) 3 pc') (hin : inD ns nt 40 i) (kk : Wm p l e R s m args below meth c nL D cA b0 cells slots Q pc' lv (aI (M.1 40 i 4) :: st) ad ns nt M) : Wm p l e R s m args below meth c nL D cA b0 cells slots Q pc lv (aO 40 i :: st) ad ns nt M := w_getG (sl := 4) (v := aI (M.1 40 i 4)) C hd hin rfl rfl (by decide) wi_X7 (mT5 (i := 162) (by decide +kernel) rfl) rfl rfl kk
theorem p_X7_136 (C : Cx l p s m args meth c cc RX7 nL D cA b0 tab) {i : Nat} {v : Int} (hd : DI cc pc (.putfield 136) 3 pc') (hin : inD ns nt 40 i) (kk : Wm p l e R s m args below meth c nL D cA b0 cells slots Q pc' lv st ad ns nt (uI M 40 i 4 v)) : Wm p l e R s m args below meth c nL D cA b0 cells slots Q pc lv (aI v :: aO 40 i :: st) ad ns nt M := w_putG (sl := 4) (v := aI v) C tyX7 hd hin rfl rfl (by decide) (Nat.le_of_ble_eq_true rfl) wi_X7 (mT5 (i := 162) (by decide +kernel) rfl) rfl tyX7_ok nmX7 rfl rfl rfl rfl (by rw [uI_on]; rfl) (uI_off cA ad M 4 v) kk
theorem g_X7_126 (C : Cx l p s m args meth c cc RX7 nL D cA b0 tab) {i : Nat} (hd : DI cc pc (.getfield 126) 3 pc') (hin : inD ns nt 40 i) (kk : Wm p l e R s m args below meth c nL D cA b0 cells slots Q pc' lv (aI (M.1 40 i 5) :: st) ad ns nt M) : Wm p l e R s m args below meth c nL D cA b0 cells slots Q pc lv (aO 40 i :: st) ad ns nt M := w_getG (sl := 5) (v := aI (M.1 40 i 5)) C hd hin rfl rfl (by decide) wi_X7 (mT5 (i := 163) (by decide +kernel) rfl) rfl rfl kk
theorem p_X7_126 (C : Cx l p s m args meth c cc RX7 nL D cA b0 tab) {i : Nat} {v : Int} (hd : DI cc pc (.putfield 126) 3 pc') (hin : inD ns nt 40 i) (kk : Wm p l e R s m args below meth c nL D cA b0 cells slots Q pc' lv st ad ns nt (uI M 40 i 5 v)) : Wm p l e R s m args below meth c nL D cA b0 cells slots Q pc lv (aI v :: aO 40 i :: st) ad ns nt M := w_putG (sl := 5) (v := aI v) C tyX7 hd hin rfl rfl (by decide) (Nat.le_of_ble_eq_true rfl) wi_X7 (mT5 (i := 163) (by decide +kernel) rfl) rfl tyX7_ok nmX7 rfl rfl rfl rfl (by rw [uI_on]; rfl) (uI_off cA ad M 5 v) kk
theorem g_X7_13 (C : Cx l p s m args meth c cc RX7 nL D cA b0 tab) {i : Nat} (hd : DI cc pc (.getfield 13) 3 pc') (hin : inD ns nt 40 i) (kk : Wm p l e R s m args below meth c nL D cA b0 cells slots Q pc' lv (aO 41 0 :: st) ad ns nt M) : Wm p l e R s m args below meth c nL D cA b0 cells slots Q pc lv (aO 40 i :: st) ad ns nt M := w_getG (sl := 6) (v := aO 41 0) C hd hin rfl rfl (by decide) wi_X7 (mT5 (i := 164) (by decide +kernel) rfl) rfl rfl kk
theorem g_X7_143 (C : Cx l p s m args meth c cc RX7 nL D cA b0 tab) {i : Nat} (hd : DI cc pc (.getfield 143) 3 pc') (hin : inD ns nt 40 i) (kk : Wm p l e R s m args below meth c nL D cA b0 cells slots Q pc' lv (aI (M.1 40 i 7) :: st) ad ns nt M) : Wm p l e R s m args below meth c nL D cA b0 cells slots Q pc lv (aO 40 i :: st) ad ns nt M := w_getG (sl := 7) (v := aI (M.1 40 i 7)) C hd hin rfl rfl (by decide) wi_X7 (mT5 (i := 165) (by decide +kernel) rfl) rfl rfl kk
theorem p_X7_143 (C : Cx l p s m args meth c cc RX7 nL D cA b0 tab) {i : Nat} {v : Int} (hd : DI cc pc (.putfield 143) 3 pc') (hin : inD ns nt 40 i) (kk : Wm p l e R s m args below meth c nL D cA b0 cells slots Q pc' lv st ad ns nt (uI M 40 i 7 v)) : Wm p l e R s m args below meth c nL D cA b0 cells slots Q pc lv (aI v :: aO 40 i :: st) ad ns nt M := w_putG (sl := 7) (v := aI v) C tyX7 hd hin rfl rfl (by decide) (Nat.le_of_ble_eq_true rfl) wi_X7 (mT5 (i := 165) (by decide +kernel) rfl) rfl tyX7_ok nmX7 rfl rfl rfl rfl (by rw [uI_on]; rfl) (uI_off cA ad M 7 v) kk
theorem g_X7_17 (C : Cx l p s m args meth c cc RX7 nL D cA b0 tab) {i : Nat} (hd : DI cc pc (.getfield 17) 3 pc') (hin : inD ns nt 40 i) (kk : Wm p l e R s m args below meth c nL D cA b0 cells slots Q pc' lv (aO 47 0 :: st) ad ns nt M) : Wm p l e R s m args below meth c nL D cA b0 cells slots Q pc lv (aO 40 i :: st) ad ns nt M := w_getG (sl := 8) (v := aO 47 0) C hd hin rfl rfl (by decide) wi_X7 (mT5 (i := 166) (by decide +kernel) rfl) rfl rfl kk
theorem g_X7_21 (C : Cx l p s m args meth c cc RX7 nL D cA b0 tab) {i : Nat} (hd : DI cc pc (.getfield 21) 3 pc') (hin : inD ns nt 40 i) (kk : Wm p l e R s m args below meth c nL D cA b0 cells slots Q pc' lv (aO 42 0 :: st) ad ns nt M) : Wm p l e R s m args below meth c nL D cA b0 cells slots Q pc lv (aO 40 i :: st) ad ns nt M := w_getG (sl := 9) (v := aO 42 0) C hd hin rfl rfl (by decide) wi_X7 (mT5 (i := 167) (by decide +kernel) rfl) rfl rfl kk
theorem g_X7_24 (C : Cx l p s m args meth c cc RX7 nL D cA b0 tab) {i : Nat} (hd : DI cc pc (.getfield 24) 3 pc') (hin : inD ns nt 40 i) (kk : Wm p l e R s m args below meth c nL D cA b0 cells slots Q pc' lv (aO 43 0 :: st) ad ns nt M) : Wm p l e R s m args below meth c nL D cA b0 cells slots Q pc lv (aO 40 i :: st) ad ns nt M := w_getG (sl := 10) (v := aO 43 0) C hd hin rfl rfl (by decide) wi_X7 (mT5 (i := 168) (by decide +kernel) rfl) rfl rfl kk
theorem g_X7_27 (C : Cx l p s m args meth c cc RX7 nL D cA b0 tab) {i : Nat} (hd : DI cc pc (.getfield 27) 3 pc') (hin : inD ns nt 40 i) (kk : Wm p l e R s m args below meth c nL D cA b0 cells slots Q pc' lv (aO 48 0 :: st) ad ns nt M) : Wm p l e R s m args below meth c nL D cA b0 cells slots Q pc lv (aO 40 i :: st) ad ns nt M := w_getG (sl := 11) (v := aO 48 0) C hd hin rfl rfl (by decide) wi_X7 (mT5 (i := 169) (by decide +kernel) rfl) rfl rfl kk
theorem g_X7_31 (C : Cx l p s m args meth c cc RX7 nL D cA b0 tab) {i : Nat} (hd : DI cc pc (.getfield 31) 3 pc') (hin : inD ns nt 40 i) (kk : Wm p l e R s m args below meth c nL D cA b0 cells slots Q pc' lv (aO 49 0 :: st) ad ns nt M) : Wm p l e R s m args below meth c nL D cA b0 cells slots Q pc lv (aO 40 i :: st) ad ns nt M := w_getG (sl := 12) (v := aO 49 0) C hd hin rfl rfl (by decide) wi_X7 (mT5 (i := 170) (by decide +kernel) rfl) rfl rfl kk
theorem g_X7_34 (C : Cx l p s m args meth c cc RX7 nL D cA b0 tab) {i : Nat} (hd : DI cc pc (.getfield 34) 3 pc') (hin : inD ns nt 40 i) (kk : Wm p l e R s m args below meth c nL D cA b0 cells slots Q pc' lv (aO 50 0 :: st) ad ns nt M) : Wm p l e R s m args below meth c nL D cA b0 cells slots Q pc lv (aO 40 i :: st) ad ns nt M := w_getG (sl := 13) (v := aO 50 0) C hd hin rfl rfl (by decide) wi_X7 (mT5 (i := 171) (by decide +kernel) rfl) rfl rfl kk
theorem g_X7_37 (C : Cx l p s m args meth c cc RX7 nL D cA b0 tab) {i : Nat} (hd : DI cc pc (.getfield 37) 3 pc') (hin : inD ns nt 40 i) (kk : Wm p l e R s m args below meth c nL D cA b0 cells slots Q pc' lv (aO 51 0 :: st) ad ns nt M) : Wm p l e R s m args below meth c nL D cA b0 cells slots Q pc lv (aO 40 i :: st) ad ns nt M := w_getG (sl := 14) (v := aO 51 0) C hd hin rfl rfl (by decide) wi_X7 (mT5 (i := 172) (by decide +kernel) rfl) rfl rfl kk
theorem g_X7_40 (C : Cx l p s m args meth c cc RX7 nL D cA b0 tab) {i : Nat} (hd : DI cc pc (.getfield 40) 3 pc') (hin : inD ns nt 40 i) (kk : Wm p l e R s m args below meth c nL D cA b0 cells slots Q pc' lv (aO 44 0 :: st) ad ns nt M) : Wm p l e R s m args below meth c nL D cA b0 cells slots Q pc lv (aO 40 i :: st) ad ns nt M := w_getG (sl := 15) (v := aO 44 0) C hd hin rfl rfl (by decide) wi_X7 (mT5 (i := 173) (by decide +kernel) rfl) rfl rfl kk
theorem g_X7_43 (C : Cx l p s m args meth c cc RX7 nL D cA b0 tab) {i : Nat} (hd : DI cc pc (.getfield 43) 3 pc') (hin : inD ns nt 40 i) (kk : Wm p l e R s m args below meth c nL D cA b0 cells slots Q pc' lv (aO 52 0 :: st) ad ns nt M) : Wm p l e R s m args below meth c nL D cA b0 cells slots Q pc lv (aO 40 i :: st) ad ns nt M := w_getG (sl := 16) (v := aO 52 0) C hd hin rfl rfl (by decide) wi_X7 (mT5 (i := 174) (by decide +kernel) rfl) rfl rfl kk
theorem g_X7_112 (C : Cx l p s m args meth c cc RX7 nL D cA b0 tab) {i : Nat} (hd : DI cc pc (.getfield 112) 3 pc') (hin : inD ns nt 40 i) (kk : Wm p l e R s m args below meth c nL D cA b0 cells slots Q pc' lv (aI (M.1 40 i 17) :: st) ad ns nt M) : Wm p l e R s m args below meth c nL D cA b0 cells slots Q pc lv (aO 40 i :: st) ad ns nt M := w_getG (sl := 17) (v := aI (M.1 40 i 17)) C hd hin rfl rfl (by decide) wi_X7 (mT5 (i := 175) (by decide +kernel) rfl) rfl rfl kk
theorem p_X7_112 (C : Cx l p s m args meth c cc RX7 nL D cA b0 tab) {i : Nat} {v : Int} (hd : DI cc pc (.putfield 112) 3 pc') (hin : inD ns nt 40 i) (kk : Wm p l e R s m args below meth c nL D cA b0 cells slots Q pc' lv st ad ns nt (uI M 40 i 17 v)) : Wm p l e R s m args below meth c nL D cA b0 cells slots Q pc lv (aI v :: aO 40 i :: st) ad ns nt M := w_putG (sl := 17) (v := aI v) C tyX7 hd hin rfl rfl (by decide) (Nat.le_of_ble_eq_true rfl) wi_X7 (mT5 (i := 175) (by decide +kernel) rfl) rfl tyX7_ok nmX7 rfl rfl rfl rfl (by rw [uI_on]; rfl) (uI_off cA ad M 17 v) kk
theorem g_X7_115 (C : Cx l p s m args meth c cc RX7 nL D cA b0 tab) {i : Nat} (hd : DI cc pc (.getfield 115) 3 pc') (hin : inD ns nt 40 i) (kk : Wm p l e R s m args below meth c nL D cA b0 cells slots Q pc' lv (aI (M.1 40 i 18) :: st) ad ns nt M) : Wm p l e R s m args below meth c nL D cA b0 cells slots Q pc lv (aO 40 i :: st) ad ns nt M := w_getG (sl := 18) (v := aI (M.1 40 i 18)) C hd hin rfl rfl (by decide) wi_X7 (mT5 (i := 176) (by decide +kernel) rfl) rfl rfl kk
theorem p_X7_115 (C : Cx l p s m args meth c cc RX7 nL D cA b0 tab) {i : Nat} {v : Int} (hd : DI cc pc (.putfield 115) 3 pc') (hin : inD ns nt 40 i) (kk : Wm p l e R s m args below meth c nL D cA b0 cells slots Q pc' lv st ad ns nt (uI M 40 i 18 v)) : Wm p l e R s m args below meth c nL D cA b0 cells slots Q pc lv (aI v :: aO 40 i :: st) ad ns nt M := w_putG (sl := 18) (v := aI v) C tyX7 hd hin rfl rfl (by decide) (Nat.le_of_ble_eq_true rfl) wi_X7 (mT5 (i := 176) (by decide +kernel) rfl) rfl tyX7_ok nmX7 rfl rfl rfl rfl (by rw [uI_on]; rfl) (uI_off cA ad M 18 v) kk
theorem g_X7_46 (C : Cx l p s m args meth c cc RX7 nL D cA b0 tab) {i : Nat} (hd : DI cc pc (.getfield 46) 3 pc') (hin : inD ns nt 40 i) (kk : Wm p l e R s m args below meth c nL D cA b0 cells slots Q pc' lv (aO 53 0 :: st) ad ns nt M) : Wm p l e R s m args below meth c nL D cA b0 cells slots Q pc lv (aO 40 i :: st) ad ns nt M := w_getG (sl := 19) (v := aO 53 0) C hd hin rfl rfl (by decide) wi_X7 (mT5 (i := 177) (by decide +kernel) rfl) rfl rfl kk
theorem g_X7_49 (C : Cx l p s m args meth c cc RX7 nL D cA b0 tab) {i : Nat} (hd : DI cc pc (.getfield 49) 3 pc') (hin : inD ns nt 40 i) (kk : Wm p l e R s m args below meth c nL D cA b0 cells slots Q pc' lv (aO 54 0 :: st) ad ns nt M) : Wm p l e R s m args below meth c nL D cA b0 cells slots Q pc lv (aO 40 i :: st) ad ns nt M := w_getG (sl := 20) (v := aO 54 0) C hd hin rfl rfl (by decide) wi_X7 (mT5 (i := 178) (by decide +kernel) rfl) rfl rfl kk
theorem g_X7_52 (C : Cx l p s m args meth c cc RX7 nL D cA b0 tab) {i : Nat} (hd : DI cc pc (.getfield 52) 3 pc') (hin : inD ns nt 40 i) (kk : Wm p l e R s m args below meth c nL D cA b0 cells slots Q pc' lv (aO 55 0 :: st) ad ns nt M) : Wm p l e R s m args below meth c nL D cA b0 cells slots Q pc lv (aO 40 i :: st) ad ns nt M := w_getG (sl := 21) (v := aO 55 0) C hd hin rfl rfl (by decide) wi_X7 (mT5 (i := 179) (by decide +kernel) rfl) rfl rfl kk
theorem g_X7_55 (C : Cx l p s m args meth c cc RX7 nL D cA b0 tab) {i : Nat} (hd : DI cc pc (.getfield 55) 3 pc') (hin : inD ns nt 40 i) (kk : Wm p l e R s m args below meth c nL D cA b0 cells slots Q pc' lv (aO 56 0 :: st) ad ns nt M) : Wm p l e R s m args below meth c nL D cA b0 cells slots Q pc lv (aO 40 i :: st) ad ns nt M := w_getG (sl := 22) (v := aO 56 0) C hd hin rfl rfl (by decide) wi_X7 (mT5 (i := 180) (by decide +kernel) rfl) rfl rfl kk
theorem g_X7_58 (C : Cx l p s m args meth c cc RX7 nL D cA b0 tab) {i : Nat} (hd : DI cc pc (.getfield 58) 3 pc') (hin : inD ns nt 40 i) (kk : Wm p l e R s m args below meth c nL D cA b0 cells slots Q pc' lv (aO 57 0 :: st) ad ns nt M) : Wm p l e R s m args below meth c nL D cA b0 cells slots Q pc lv (aO 40 i :: st) ad ns nt M := w_getG (sl := 23) (v := aO 57 0) C hd hin rfl rfl (by decide) wi_X7 (mT5 (i := 181) (by decide +kernel) rfl) rfl rfl kk
theorem g_X7_61 (C : Cx l p s m args meth c cc RX7 nL D cA b0 tab) {i : Nat} (hd : DI cc pc (.getfield 61) 3 pc') (hin : inD ns nt 40 i) (kk : Wm p l e R s m args below meth c nL D cA b0 cells slots Q pc' lv (aO 45 0 :: st) ad ns nt M) : Wm p l e R s m args below meth c nL D cA b0 cells slots Q pc lv (aO 40 i :: st) ad ns nt M := w_getG (sl := 24) (v := aO 45 0) C hd hin rfl rfl (by decide) wi_X7 (mT5 (i := 182) (by decide +kernel) rfl) rfl rfl kk
theorem g_X7_64 (C : Cx l p s m args meth c cc RX7 nL D cA b0 tab) {i : Nat} (hd : DI cc pc (.getfield 64) 3 pc') (hin : inD ns nt 40 i) (kk : Wm p l e R s m args below meth c nL D cA b0 cells slots Q pc' lv (aO 58 0 :: st) ad ns nt M) : Wm p l e R s m args below meth c nL D cA b0 cells slots Q pc lv (aO 40 i :: st) ad ns nt M := w_getG (sl := 25) (v := aO 58 0) C hd hin rfl rfl (by decide) wi_X7 (mT5 (i := 183) (by decide +kernel) rfl) rfl rfl kk
theorem g_X7_67 (C : Cx l p s m args meth c cc RX7 nL D cA b0 tab) {i : Nat} (hd : DI cc pc (.getfield 67) 3 pc') (hin : inD ns nt 40 i) (kk : Wm p l e R s m args below meth c nL D cA b0 cells slots Q pc' lv (aO 59 0 :: st) ad ns nt M) : Wm p l e R s m args below meth c nL D cA b0 cells slots Q pc lv (aO 40 i :: st) ad ns nt M := w_getG (sl := 26) (v := aO 59 0) C hd hin rfl rfl (by decide) wi_X7 (mT5 (i := 184) (by decide +kernel) rfl) rfl rfl kk
theorem g_X7_70 (C : Cx l p s m args meth c cc RX7 nL D cA b0 tab) {i : Nat} (hd : DI cc pc (.getfield 70) 3 pc') (hin : inD ns nt 40 i) (kk : Wm p l e R s m args below meth c nL D cA b0 cells slots Q pc' lv (aO 60 0 :: st) ad ns nt M) : Wm p l e R s m args below meth c nL D cA b0 cells slots Q pc lv (aO 40 i :: st) ad ns nt M := w_getG (sl := 27) (v := aO 60 0) C hd hin rfl rfl (by decide) wi_X7 (mT5 (i := 185) (by decide +kernel) rfl) rfl rfl kk
theorem g_X7_227 (C : Cx l p s m args meth c cc RX7 nL D cA b0 tab) {i : Nat} (hd : DI cc pc (.getfield 227) 3 pc') (hin : inD ns nt 40 i) (kk : Wm p l e R s m args below meth c nL D cA b0 cells slots Q pc' lv (aI (M.1 40 i 28) :: st) ad ns nt M) : Wm p l e R s m args below meth c nL D cA b0 cells slots Q pc lv (aO 40 i :: st) ad ns nt M := w_getG (sl := 28) (v := aI (M.1 40 i 28)) C hd hin rfl rfl (by decide) wi_X7 (mT5 (i := 186) (by decide +kernel) rfl) rfl rfl kk
theorem p_X7_227 (C : Cx l p s m args meth c cc RX7 nL D cA b0 tab) {i : Nat} {v : Int} (hd : DI cc pc (.putfield 227) 3 pc') (hin : inD ns nt 40 i) (kk : Wm p l e R s m args below meth c nL D cA b0 cells slots Q pc' lv st ad ns nt (uI M 40 i 28 v)) : Wm p l e R s m args below meth c nL D cA b0 cells slots Q pc lv (aI v :: aO 40 i :: st) ad ns nt M := w_putG (sl := 28) (v := aI v) C tyX7 hd hin rfl rfl (by decide) (Nat.le_of_ble_eq_true rfl) wi_X7 (mT5 (i := 186) (by decide +kernel) rfl) rfl tyX7_ok nmX7 rfl rfl rfl rfl (by rw [uI_on]; rfl) (uI_off cA ad M 28 v) kk
theorem g_X7_73 (C : Cx l p s m args meth c cc RX7 nL D cA b0 tab) {i : Nat} (hd : DI cc pc (.getfield 73) 3 pc') (hin : inD ns nt 40 i) (kk : Wm p l e R s m args below meth c nL D cA b0 cells slots Q pc' lv (aO 61 0 :: st) ad ns nt M) : Wm p l e R s m args below meth c nL D cA b0 cells slots Q pc lv (aO 40 i :: st) ad ns nt M := w_getG (sl := 29) (v := aO 61 0) C hd hin rfl rfl (by decide) wi_X7 (mT5 (i := 187) (by decide +kernel) rfl) rfl rfl kk
theorem g_X7_76 (C : Cx l p s m args meth c cc RX7 nL D cA b0 tab) {i : Nat} (hd : DI cc pc (.getfield 76) 3 pc') (hin : inD ns nt 40 i) (kk : Wm p l e R s m args below meth c nL D cA b0 cells slots Q pc' lv (aO 62 0 :: st) ad ns nt M) : Wm p l e R s m args below meth c nL D cA b0 cells slots Q pc lv (aO 40 i :: st) ad ns nt M := w_getG (sl := 30) (v := aO 62 0) C hd hin rfl rfl (by decide) wi_X7 (mT5 (i := 188) (by decide +kernel) rfl) rfl rfl kk
theorem g_X7_254 (C : Cx l p s m args meth c cc RX7 nL D cA b0 tab) {i : Nat} (hd : DI cc pc (.getfield 254) 3 pc') (hin : inD ns nt 40 i) (kk : Wm p l e R s m args below meth c nL D cA b0 cells slots Q pc' lv (aI (M.1 40 i 31) :: st) ad ns nt M) : Wm p l e R s m args below meth c nL D cA b0 cells slots Q pc lv (aO 40 i :: st) ad ns nt M := w_getG (sl := 31) (v := aI (M.1 40 i 31)) C hd hin rfl rfl (by decide) wi_X7 (mT5 (i := 189) (by decide +kernel) rfl) rfl rfl kk
theorem p_X7_254 (C : Cx l p s m args meth c cc RX7 nL D cA b0 tab) {i : Nat} {v : Int} (hd : DI cc pc (.putfield 254) 3 pc') (hin : inD ns nt 40 i) (kk : Wm p l e R s m args below meth c nL D cA b0 cells slots Q pc' lv st ad ns nt (uI M 40 i 31 v)) : Wm p l e R s m args below meth c nL D cA b0 cells slots Q pc lv (aI v :: aO 40 i :: st) ad ns nt M := w_putG (sl := 31) (v := aI v) C tyX7 hd hin rfl rfl (by decide) (Nat.le_of_ble_eq_true rfl) wi_X7 (mT5 (i := 189) (by decide +kernel) rfl) rfl tyX7_ok nmX7 rfl rfl rfl rfl (by rw [uI_on]; rfl) (uI_off cA ad M 31 v) kk
theorem g_X7_268 (C : Cx l p s m args meth c cc RX7 nL D cA b0 tab) {i : Nat} (hd : DI cc pc (.getfield 268) 3 pc') (hin : inD ns nt 40 i) (kk : Wm p l e R s m args below meth c nL D cA b0 cells slots Q pc' lv (aL (M.2.2.1 40 i 32) :: st) ad ns nt M) : Wm p l e R s m args below meth c nL D cA b0 cells slots Q pc lv (aO 40 i :: st) ad ns nt M := w_getG (sl := 32) (v := aL (M.2.2.1 40 i 32)) C hd hin rfl rfl (by decide) wi_X7 (mT5 (i := 190) (by decide +kernel) rfl) rfl rfl kk
theorem p_X7_268 (C : Cx l p s m args meth c cc RX7 nL D cA b0 tab) {i : Nat} {v : Int} (hd : DI cc pc (.putfield 268) 3 pc') (hin : inD ns nt 40 i) (kk : Wm p l e R s m args below meth c nL D cA b0 cells slots Q pc' lv st ad ns nt (uL M 40 i 32 v)) : Wm p l e R s m args below meth c nL D cA b0 cells slots Q pc lv (aL v :: aO 40 i :: st) ad ns nt M := w_putG (sl := 32) (v := aL v) C tyX7 hd hin rfl rfl (by decide) (Nat.le_of_ble_eq_true rfl) wi_X7 (mT5 (i := 190) (by decide +kernel) rfl) rfl tyX7_ok nmX7 rfl rfl rfl rfl (by rw [uL_on]; rfl) (uL_off cA ad M 32 v) kk
theorem g_X7_152 (C : Cx l p s m args meth c cc RX7 nL D cA b0 tab) {i : Nat} (hd : DI cc pc (.getfield 152) 3 pc') (hin : inD ns nt 40 i) (kk : Wm p l e R s m args below meth c nL D cA b0 cells slots Q pc' lv (aI (M.1 40 i 33) :: st) ad ns nt M) : Wm p l e R s m args below meth c nL D cA b0 cells slots Q pc lv (aO 40 i :: st) ad ns nt M := w_getG (sl := 33) (v := aI (M.1 40 i 33)) C hd hin rfl rfl (by decide) wi_X7 (mT5 (i := 191) (by decide +kernel) rfl) rfl rfl kk
theorem p_X7_152 (C : Cx l p s m args meth c cc RX7 nL D cA b0 tab) {i : Nat} {v : Int} (hd : DI cc pc (.putfield 152) 3 pc') (hin : inD ns nt 40 i) (kk : Wm p l e R s m args below meth c nL D cA b0 cells slots Q pc' lv st ad ns nt (uI M 40 i 33 v)) : Wm p l e R s m args below meth c nL D cA b0 cells slots Q pc lv (aI v :: aO 40 i :: st) ad ns nt M := w_putG (sl := 33) (v := aI v) C tyX7 hd hin rfl rfl (by decide) (Nat.le_of_ble_eq_true rfl) wi_X7 (mT5 (i := 191) (by decide +kernel) rfl) rfl tyX7_ok nmX7 rfl rfl rfl rfl (by rw [uI_on]; rfl) (uI_off cA ad M 33 v) kk
theorem g_X7_79 (C : Cx l p s m args meth c cc RX7 nL D cA b0 tab) {i : Nat} (hd : DI cc pc (.getfield 79) 3 pc') (hin : inD ns nt 40 i) (kk : Wm p l e R s m args below meth c nL D cA b0 cells slots Q pc' lv (aO 63 0 :: st) ad ns nt M) : Wm p l e R s m args below meth c nL D cA b0 cells slots Q pc lv (aO 40 i :: st) ad ns nt M := w_getG (sl := 34) (v := aO 63 0) C hd hin rfl rfl (by decide) wi_X7 (mT5 (i := 192) (by decide +kernel) rfl) rfl rfl kk
theorem g_X7_82 (C : Cx l p s m args meth c cc RX7 nL D cA b0 tab) {i : Nat} (hd : DI cc pc (.getfield 82) 3 pc') (hin : inD ns nt 40 i) (kk : Wm p l e R s m args below meth c nL D cA b0 cells slots Q pc' lv (aO 64 0 :: st) ad ns nt M) : Wm p l e R s m args below meth c nL D cA b0 cells slots Q pc lv (aO 40 i :: st) ad ns nt M := w_getG (sl := 35) (v := aO 64 0) C hd hin rfl rfl (by decide) wi_X7 (mT5 (i := 193) (by decide +kernel) rfl) rfl rfl kk
theorem g_X7_162 (C : Cx l p s m args meth c cc RX7 nL D cA b0 tab) {i : Nat} (hd : DI cc pc (.getfield 162) 3 pc') (hin : inD ns nt 40 i) (kk : Wm p l e R s m args below meth c nL D cA b0 cells slots Q pc' lv (aI (M.1 40 i 36) :: st) ad ns nt M) : Wm p l e R s m args below meth c nL D cA b0 cells slots Q pc lv (aO 40 i :: st) ad ns nt M := w_getG (sl := 36) (v := aI (M.1 40 i 36)) C hd hin rfl rfl (by decide) wi_X7 (mT5 (i := 194) (by decide +kernel) rfl) rfl rfl kk
theorem p_X7_162 (C : Cx l p s m args meth c cc RX7 nL D cA b0 tab) {i : Nat} {v : Int} (hd : DI cc pc (.putfield 162) 3 pc') (hin : inD ns nt 40 i) (kk : Wm p l e R s m args below meth c nL D cA b0 cells slots Q pc' lv st ad ns nt (uI M 40 i 36 v)) : Wm p l e R s m args below meth c nL D cA b0 cells slots Q pc lv (aI v :: aO 40 i :: st) ad ns nt M := w_putG (sl := 36) (v := aI v) C tyX7 hd hin rfl rfl (by decide) (Nat.le_of_ble_eq_true rfl) wi_X7 (mT5 (i := 194) (by decide +kernel) rfl) rfl tyX7_ok nmX7 rfl rfl rfl rfl (by rw [uI_on]; rfl) (uI_off cA ad M 36 v) kk
theorem g_X7_198 (C : Cx l p s m args meth c cc RX7 nL D cA b0 tab) {i : Nat} (hd : DI cc pc (.getfield 198) 3 pc') (hin : inD ns nt 40 i) (kk : Wm p l e R s m args below meth c nL D cA b0 cells slots Q pc' lv (aI (M.1 40 i 37) :: st) ad ns nt M) : Wm p l e R s m args below meth c nL D cA b0 cells slots Q pc lv (aO 40 i :: st) ad ns nt M := w_getG (sl := 37) (v := aI (M.1 40 i 37)) C hd hin rfl rfl (by decide) wi_X7 (mT5 (i := 195) (by decide +kernel) rfl) rfl rfl kk
theorem p_X7_198 (C : Cx l p s m args meth c cc RX7 nL D cA b0 tab) {i : Nat} {v : Int} (hd : DI cc pc (.putfield 198) 3 pc') (hin : inD ns nt 40 i) (kk : Wm p l e R s m args below meth c nL D cA b0 cells slots Q pc' lv st ad ns nt (uI M 40 i 37 v)) : Wm p l e R s m args below meth c nL D cA b0 cells slots Q pc lv (aI v :: aO 40 i :: st) ad ns nt M := w_putG (sl := 37) (v := aI v) C tyX7 hd hin rfl rfl (by decide) (Nat.le_of_ble_eq_true rfl) wi_X7 (mT5 (i := 195) (by decide +kernel) rfl) rfl tyX7_ok nmX7 rfl rfl rfl rfl (by rw [uI_on]; rfl) (uI_off cA ad M 37 v) kk
theorem g_X7_201 (C : Cx l p s m args meth c cc RX7 nL D cA b0 tab) {i : Nat} (hd : DI cc pc (.getfield 201) 3 pc') (hin : inD ns nt 40 i) (kk : Wm p l e R s m args below meth c nL D cA b0 cells slots Q pc' lv (aI (M.1 40 i 38) :: st) ad ns nt M) : Wm p l e R s m args below meth c nL D cA b0 cells slots Q pc lv (aO 40 i :: st) ad ns nt M := w_getG (sl := 38) (v := aI (M.1 40 i 38)) C hd hin rfl rfl (by decide) wi_X7 (mT5 (i := 196) (by decide +kernel) rfl) rfl rfl kk
theorem p_X7_201 (C : Cx l p s m args meth c cc RX7 nL D cA b0 tab) {i : Nat} {v : Int} (hd : DI cc pc (.putfield 201) 3 pc') (hin : inD ns nt 40 i) (kk : Wm p l e R s m args below meth c nL D cA b0 cells slots Q pc' lv st ad ns nt (uI M 40 i 38 v)) : Wm p l e R s m args below meth c nL D cA b0 cells slots Q pc lv (aI v :: aO 40 i :: st) ad ns nt M := w_putG (sl := 38) (v := aI v) C tyX7 hd hin rfl rfl (by decide) (Nat.le_of_ble_eq_true rfl) wi_X7 (mT5 (i := 196) (by decide +kernel) rfl) rfl tyX7_ok nmX7 rfl rfl rfl rfl (by rw [uI_on]; rfl) (uI_off cA ad M 38 v) kk
theorem g_X7_204 (C : Cx l p s m args meth c cc RX7 nL D cA b0 tab) {i : Nat} (hd : DI cc pc (.getfield 204) 3 pc') (hin : inD ns nt 40 i) (kk : Wm p l e R s m args below meth c nL D cA b0 cells slots Q pc' lv (aI (M.1 40 i 39) :: st) ad ns nt M) : Wm p l e R s m args below meth c nL D cA b0 cells slots Q pc lv (aO 40 i :: st) ad ns nt M := w_getG (sl := 39) (v := aI (M.1 40 i 39)) C hd hin rfl rfl (by decide) wi_X7 (mT5 (i := 197) (by decide +kernel) rfl) rfl rfl kk
theorem p_X7_204 (C : Cx l p s m args meth c cc RX7 nL D cA b0 tab) {i : Nat} {v : Int} (hd : DI cc pc (.putfield 204) 3 pc') (hin : inD ns nt 40 i) (kk : Wm p l e R s m args below meth c nL D cA b0 cells slots Q pc' lv st ad ns nt (uI M 40 i 39 v)) : Wm p l e R s m args below meth c nL D cA b0 cells slots Q pc lv (aI v :: aO 40 i :: st) ad ns nt M := w_putG (sl := 39) (v := aI v) C tyX7 hd hin rfl rfl (by decide) (Nat.le_of_ble_eq_true rfl) wi_X7 (mT5 (i := 197) (by decide +kernel) rfl) rfl tyX7_ok nmX7 rfl rfl rfl rfl (by rw [uI_on]; rfl) (uI_off cA ad M 39 v) kk
theorem g_X7_85 (C : Cx l p s m args meth c cc RX7 nL D cA b0 tab) {i : Nat} (hd : DI cc pc (.getfield 85) 3 pc') (hin : inD ns nt 40 i) (kk : Wm p l e R s m args below meth c nL D cA b0 cells slots Q pc' lv (aO 65 0 :: st) ad ns nt M) : Wm p l e R s m args below meth c nL D cA b0 cells slots Q pc lv (aO 40 i :: st) ad ns nt M := w_getG (sl := 40) (v := aO 65 0) C hd hin rfl rfl (by decide) wi_X7 (mT5 (i := 198) (by decide +kernel) rfl) rfl rfl kk
theorem g_X7_236 (C : Cx l p s m args meth c cc RX7 nL D cA b0 tab) {i : Nat} (hd : DI cc pc (.getfield 236) 3 pc') (hin : inD ns nt 40 i) (kk : Wm p l e R s m args below meth c nL D cA b0 cells slots Q pc' lv (aI (M.1 40 i 41) :: st) ad ns nt M) : Wm p l e R s m args below meth c nL D cA b0 cells slots Q pc lv (aO 40 i :: st) ad ns nt M := w_getG (sl := 41) (v := aI (M.1 40 i 41)) C hd hin rfl rfl (by decide) wi_X7 (mT5 (i := 199) (by decide +kernel) rfl) rfl rfl kk
theorem p_X7_236 (C : Cx l p s m args meth c cc RX7 nL D cA b0 tab) {i : Nat} {v : Int} (hd : DI cc pc (.putfield 236) 3 pc') (hin : inD ns nt 40 i) (kk : Wm p l e R s m args below meth c nL D cA b0 cells slots Q pc' lv st ad ns nt (uI M 40 i 41 v)) : Wm p l e R s m args below meth c nL D cA b0 cells slots Q pc lv (aI v :: aO 40 i :: st) ad ns nt M := w_putG (sl := 41) (v := aI v) C tyX7 hd hin rfl rfl (by decide) (Nat.le_of_ble_eq_true rfl) wi_X7 (mT5 (i := 199) (by decide +kernel) rfl) rfl tyX7_ok nmX7 rfl rfl rfl rfl (by rw [uI_on]; rfl) (uI_off cA ad M 41 v) kk
theorem g_X7_88 (C : Cx l p s m args meth c cc RX7 nL D cA b0 tab) {i : Nat} (hd : DI cc pc (.getfield 88) 3 pc') (hin : inD ns nt 40 i) (kk : Wm p l e R s m args below meth c nL D cA b0 cells slots Q pc' lv (aO 66 0 :: st) ad ns nt M) : Wm p l e R s m args below meth c nL D cA b0 cells slots Q pc lv (aO 40 i :: st) ad ns nt M := w_getG (sl := 42) (v := aO 66 0) C hd hin rfl rfl (by decide) wi_X7 (mT5 (i := 200) (by decide +kernel) rfl) rfl rfl kk
theorem g_X7_91 (C : Cx l p s m args meth c cc RX7 nL D cA b0 tab) {i : Nat} (hd : DI cc pc (.getfield 91) 3 pc') (hin : inD ns nt 40 i) (kk : Wm p l e R s m args below meth c nL D cA b0 cells slots Q pc' lv (aO 67 0 :: st) ad ns nt M) : Wm p l e R s m args below meth c nL D cA b0 cells slots Q pc lv (aO 40 i :: st) ad ns nt M := w_getG (sl := 43) (v := aO 67 0) C hd hin rfl rfl (by decide) wi_X7 (mT5 (i := 201) (by decide +kernel) rfl) rfl rfl kk
theorem g_X7_94 (C : Cx l p s m args meth c cc RX7 nL D cA b0 tab) {i : Nat} (hd : DI cc pc (.getfield 94) 3 pc') (hin : inD ns nt 40 i) (kk : Wm p l e R s m args below meth c nL D cA b0 cells slots Q pc' lv (aO 68 0 :: st) ad ns nt M) : Wm p l e R s m args below meth c nL D cA b0 cells slots Q pc lv (aO 40 i :: st) ad ns nt M := w_getG (sl := 44) (v := aO 68 0) C hd hin rfl rfl (by decide) wi_X7 (mT5 (i := 202) (by decide +kernel) rfl) rfl rfl kk
theorem g_X7_97 (C : Cx l p s m args meth c cc RX7 nL D cA b0 tab) {i : Nat} (hd : DI cc pc (.getfield 97) 3 pc') (hin : inD ns nt 40 i) (kk : Wm p l e R s m args below meth c nL D cA b0 cells slots Q pc' lv (aO 69 0 :: st) ad ns nt M) : Wm p l e R s m args below meth c nL D cA b0 cells slots Q pc lv (aO 40 i :: st) ad ns nt M := w_getG (sl := 45) (v := aO 69 0) C hd hin rfl rfl (by decide) wi_X7 (mT5 (i := 203) (by decide +kernel) rfl) rfl rfl kk
theorem g_X7_100 (C : Cx l p s m args meth c cc RX7 nL D cA b0 tab) {i : Nat} (hd : DI cc pc (.getfield 100) 3 pc') (hin : inD ns nt 40 i) (kk : Wm p l e R s m args below meth c nL D cA b0 cells slots Q pc' lv (aO 70 0 :: st) ad ns nt M) : Wm p l e R s m args below meth c nL D cA b0 cells slots Q pc lv (aO 40 i :: st) ad ns nt M := w_getG (sl := 46) (v := aO 70 0) C hd hin rfl rfl (by decide) wi_X7 (mT5 (i := 204) (by decide +kernel) rfl) rfl rfl kk
theorem g_X7_103 (C : Cx l p s m args meth c cc RX7 nL D cA b0 tab) {i : Nat} (hd : DI cc pc (.getfield 103) 3 pc') (hin : inD ns nt 40 i) (kk : Wm p l e R s m args below meth c nL D cA b0 cells slots Q pc' lv (aO 46 0 :: st) ad ns nt M) : Wm p l e R s m args below meth c nL D cA b0 cells slots Q pc lv (aO 40 i :: st) ad ns nt M := w_getG (sl := 47) (v := aO 46 0) C hd hin rfl rfl (by decide) wi_X7 (mT5 (i := 205) (by decide +kernel) rfl) rfl rfl kk
theorem g_X7_239 (C : Cx l p s m args meth c cc RX7 nL D cA b0 tab) {i : Nat} (hd : DI cc pc (.getfield 239) 3 pc') (hin : inD ns nt 40 i) (kk : Wm p l e R s m args below meth c nL D cA b0 cells slots Q pc' lv (aI (M.1 40 i 48) :: st) ad ns nt M) : Wm p l e R s m args below meth c nL D cA b0 cells slots Q pc lv (aO 40 i :: st) ad ns nt M := w_getG (sl := 48) (v := aI (M.1 40 i 48)) C hd hin rfl rfl (by decide) wi_X7 (mT5 (i := 206) (by decide +kernel) rfl) rfl rfl kk
theorem p_X7_239 (C : Cx l p s m args meth c cc RX7 nL D cA b0 tab) {i : Nat} {v : Int} (hd : DI cc pc (.putfield 239) 3 pc') (hin : inD ns nt 40 i) (kk : Wm p l e R s m args below meth c nL D cA b0 cells slots Q pc' lv st ad ns nt (uI M 40 i 48 v)) : Wm p l e R s m args below meth c nL D cA b0 cells slots Q pc lv (aI v :: aO 40 i :: st) ad ns nt M := w_putG (sl := 48) (v := aI v) C tyX7 hd hin rfl rfl (by decide) (Nat.le_of_ble_eq_true rfl) wi_X7 (mT5 (i := 206) (by decide +kernel) rfl) rfl tyX7_ok nmX7 rfl rfl rfl rfl (by rw [uI_on]; rfl) (uI_off cA ad M 48 v) kk
end Rows
end
section
theorem mX0_init : MOK yX0_init cX0_init 1 none 0 := ⟨mG (i := 69) (by decide +kernel) rfl, mG (i := 101) (by decide +kernel) rfl, by decide +kernel, by decide +kernel⟩
theorem mX0_openColumns : MOK yX0_openColumns cX0_openColumns 1 (some .int) 0 := ⟨mG (i := 69) (by decide +kernel) rfl, mG (i := 734) (by decide +kernel) rfl, by decide +kernel, by decide +kernel⟩
theorem vX0_openColumns : VOK yX0_openColumns := ⟨mG (i := 732) (by decide +kernel) rfl, mG (i := 733) (by decide +kernel) rfl⟩
theorem mX0_isStriped : MOK yX0_isStriped cX0_isStriped 1 (some .boolean) 0 := ⟨mG (i := 69) (by decide +kernel) rfl, mG (i := 911) (by decide +kernel) rfl, by decide +kernel, by decide +kernel⟩
theorem vX0_isStriped : VOK yX0_isStriped := ⟨mG (i := 909) (by decide +kernel) rfl, mG (i := 910) (by decide +kernel) rfl⟩
theorem mX0_remainder : MOK yX0_remainder cX0_remainder 2 (some .int) 1 := ⟨mG (i := 69) (by decide +kernel) rfl, mG (i := 741) (by decide +kernel) rfl, by decide +kernel, by decide +kernel⟩
theorem vX0_remainder : VOK yX0_remainder := ⟨mG (i := 739) (by decide +kernel) rfl, mG (i := 740) (by decide +kernel) rfl⟩
theorem mX0_opposite : MOK yX0_opposite cX0_opposite 2 (some .int) 1 := ⟨mG (i := 69) (by decide +kernel) rfl, mG (i := 269) (by decide +kernel) rfl, by decide +kernel, by decide +kernel⟩
theorem vX0_opposite : VOK yX0_opposite := ⟨mG (i := 267) (by decide +kernel) rfl, mG (i := 268) (by decide +kernel) rfl⟩
theorem mX0_foldOrOpen : MOK yX0_foldOrOpen cX0_foldOrOpen 2 none 1 := ⟨mG (i := 69) (by decide +kernel) rfl, mG (i := 451) (by decide +kernel) rfl, by decide +kernel, by decide +kernel⟩
theorem vX0_foldOrOpen : VOK yX0_foldOrOpen := ⟨mG (i := 449) (by decide +kernel) rfl, mG (i := 450) (by decide +kernel) rfl⟩
theorem mX0_isTold : MOK yX0_isTold cX0_isTold 3 (some .boolean) 2 := ⟨mG (i := 69) (by decide +kernel) rfl, mG (i := 489) (by decide +kernel) rfl, by decide +kernel, by decide +kernel⟩
theorem vX0_isTold : VOK yX0_isTold := ⟨mG (i := 487) (by decide +kernel) rfl, mG (i := 488) (by decide +kernel) rfl⟩
theorem mX0_tell : MOK yX0_tell cX0_tell 3 none 2 := ⟨mG (i := 69) (by decide +kernel) rfl, mG (i := 494) (by decide +kernel) rfl, by decide +kernel, by decide +kernel⟩
theorem vX0_tell : VOK yX0_tell := ⟨mG (i := 492) (by decide +kernel) rfl, mG (i := 493) (by decide +kernel) rfl⟩
theorem mX0_forgetFlaws : MOK yX0_forgetFlaws cX0_forgetFlaws 1 none 0 := ⟨mG (i := 69) (by decide +kernel) rfl, mG (i := 250) (by decide +kernel) rfl, by decide +kernel, by decide +kernel⟩
theorem vX0_forgetFlaws : VOK yX0_forgetFlaws := ⟨mG (i := 248) (by decide +kernel) rfl, mG (i := 249) (by decide +kernel) rfl⟩
theorem mX0_spoilRows : MOK yX0_spoilRows cX0_spoilRows 3 none 0 := ⟨mG (i := 69) (by decide +kernel) rfl, mG (i := 255) (by decide +kernel) rfl, by decide +kernel, by decide +kernel⟩
theorem vX0_spoilRows : VOK yX0_spoilRows := ⟨mG (i := 254) (by decide +kernel) rfl, mG (i := 0) (by decide +kernel) rfl⟩
theorem mX0_reversed : MOK yX0_reversed cX0_reversed 4 (some .int) 1 := ⟨mG (i := 69) (by decide +kernel) rfl, mG (i := 262) (by decide +kernel) rfl, by decide +kernel, by decide +kernel⟩
theorem vX0_reversed : VOK yX0_reversed := ⟨mG (i := 261) (by decide +kernel) rfl, mG (i := 1) (by decide +kernel) rfl⟩
theorem mX0_reaches : MOK yX0_reaches cX0_reaches 4 (some .boolean) 3 := ⟨mG (i := 69) (by decide +kernel) rfl, mG (i := 729) (by decide +kernel) rfl, by decide +kernel, by decide +kernel⟩
theorem vX0_reaches : VOK yX0_reaches := ⟨mG (i := 727) (by decide +kernel) rfl, mG (i := 728) (by decide +kernel) rfl⟩
theorem mX1_init : MOK yX1_init cX1_init 2 none 0 := ⟨mG (i := 70) (by decide +kernel) rfl, mG (i := 137) (by decide +kernel) rfl, by decide +kernel, by decide +kernel⟩
theorem mX1_isFull : MOK yX1_isFull cX1_isFull 1 (some .boolean) 0 := ⟨mG (i := 70) (by decide +kernel) rfl, mG (i := 753) (by decide +kernel) rfl, by decide +kernel, by decide +kernel⟩
theorem vX1_isFull : VOK yX1_isFull := ⟨mG (i := 751) (by decide +kernel) rfl, mG (i := 752) (by decide +kernel) rfl⟩
theorem mX1_pieceIn : MOK yX1_pieceIn cX1_pieceIn 2 (some (.object "CuttingRoom$Piece")) 1 := ⟨mG (i := 70) (by decide +kernel) rfl, mG (i := 305) (by decide +kernel) rfl, by decide +kernel, by decide +kernel⟩
theorem vX1_pieceIn : VOK yX1_pieceIn := ⟨mG (i := 304) (by decide +kernel) rfl, mG (i := 2) (by decide +kernel) rfl⟩
theorem mX1_slotOf : MOK yX1_slotOf cX1_slotOf 4 (some .int) 1 := ⟨mG (i := 70) (by decide +kernel) rfl, mG (i := 828) (by decide +kernel) rfl, by decide +kernel, by decide +kernel⟩
theorem vX1_slotOf : VOK yX1_slotOf := ⟨mG (i := 827) (by decide +kernel) rfl, mG (i := 17) (by decide +kernel) rfl⟩
theorem mX1_pieceNumbered : MOK yX1_pieceNumbered cX1_pieceNumbered 2 (some (.object "CuttingRoom$Piece")) 1 := ⟨mG (i := 70) (by decide +kernel) rfl, mG (i := 824) (by decide +kernel) rfl, by decide +kernel, by decide +kernel⟩
theorem vX1_pieceNumbered : VOK yX1_pieceNumbered := ⟨mG (i := 822) (by decide +kernel) rfl, mG (i := 823) (by decide +kernel) rfl⟩
theorem mX1_obstacle : MOK yX1_obstacle cX1_obstacle 8 (some .char) 6 := ⟨mG (i := 70) (by decide +kernel) rfl, mG (i := 713) (by decide +kernel) rfl, by decide +kernel, by decide +kernel⟩
theorem vX1_obstacle : VOK yX1_obstacle := ⟨mG (i := 711) (by decide +kernel) rfl, mG (i := 712) (by decide +kernel) rfl⟩
theorem mX1_meetsAny : MOK yX1_meetsAny cX1_meetsAny 5 (some .boolean) 4 := ⟨mG (i := 70) (by decide +kernel) rfl, mG (i := 737) (by decide +kernel) rfl, by decide +kernel, by decide +kernel⟩
theorem sX1_meetsAny : Cond.static yX1_meetsAny ∈ GW := mG (i := 736) (by decide +kernel) rfl
theorem mX1_stripesMeet : MOK yX1_stripesMeet cX1_stripesMeet 3 (some .boolean) 2 := ⟨mG (i := 70) (by decide +kernel) rfl, mG (i := 748) (by decide +kernel) rfl, by decide +kernel, by decide +kernel⟩
theorem vX1_stripesMeet : VOK yX1_stripesMeet := ⟨mG (i := 747) (by decide +kernel) rfl, mG (i := 13) (by decide +kernel) rfl⟩
theorem mX1_firstSpot : MOK yX1_firstSpot cX1_firstSpot 8 (some .int) 3 := ⟨mG (i := 70) (by decide +kernel) rfl, mG (i := 786) (by decide +kernel) rfl, by decide +kernel, by decide +kernel⟩
theorem vX1_firstSpot : VOK yX1_firstSpot := ⟨mG (i := 784) (by decide +kernel) rfl, mG (i := 785) (by decide +kernel) rfl⟩
theorem mX1_putAtSpot : MOK yX1_putAtSpot cX1_putAtSpot 6 (some .int) 4 := ⟨mG (i := 70) (by decide +kernel) rfl, mG (i := 808) (by decide +kernel) rfl, by decide +kernel, by decide +kernel⟩
theorem vX1_putAtSpot : VOK yX1_putAtSpot := ⟨mG (i := 806) (by decide +kernel) rfl, mG (i := 807) (by decide +kernel) rfl⟩
theorem mX1_put : MOK yX1_put cX1_put 9 (some .int) 6 := ⟨mG (i := 70) (by decide +kernel) rfl, mG (i := 758) (by decide +kernel) rfl, by decide +kernel, by decide +kernel⟩
theorem vX1_put : VOK yX1_put := ⟨mG (i := 756) (by decide +kernel) rfl, mG (i := 757) (by decide +kernel) rfl⟩
theorem mX1_cover : MOK yX1_cover cX1_cover 9 none 4 := ⟨mG (i := 70) (by decide +kernel) rfl, mG (i := 762) (by decide +kernel) rfl, by decide +kernel, by decide +kernel⟩
theorem vX1_cover : VOK yX1_cover := ⟨mG (i := 761) (by decide +kernel) rfl, mG (i := 14) (by decide +kernel) rfl⟩
theorem mX1_join : MOK yX1_join cX1_join 3 none 2 := ⟨mG (i := 70) (by decide +kernel) rfl, mG (i := 767) (by decide +kernel) rfl, by decide +kernel, by decide +kernel⟩
theorem vX1_join : VOK yX1_join := ⟨mG (i := 766) (by decide +kernel) rfl, mG (i := 15) (by decide +kernel) rfl⟩
theorem mX1_leave : MOK yX1_leave cX1_leave 2 none 1 := ⟨mG (i := 70) (by decide +kernel) rfl, mG (i := 837) (by decide +kernel) rfl, by decide +kernel, by decide +kernel⟩
theorem vX1_leave : VOK yX1_leave := ⟨mG (i := 836) (by decide +kernel) rfl, mG (i := 18) (by decide +kernel) rfl⟩
theorem mX1_remove : MOK yX1_remove cX1_remove 4 none 1 := ⟨mG (i := 70) (by decide +kernel) rfl, mG (i := 833) (by decide +kernel) rfl, by decide +kernel, by decide +kernel⟩
theorem vX1_remove : VOK yX1_remove := ⟨mG (i := 831) (by decide +kernel) rfl, mG (i := 832) (by decide +kernel) rfl⟩
theorem mX1_moveToEnd : MOK yX1_moveToEnd cX1_moveToEnd 4 none 1 := ⟨mG (i := 70) (by decide +kernel) rfl, mG (i := 841) (by decide +kernel) rfl, by decide +kernel, by decide +kernel⟩
theorem vX1_moveToEnd : VOK yX1_moveToEnd := ⟨mG (i := 840) (by decide +kernel) rfl, mG (i := 19) (by decide +kernel) rfl⟩
theorem mX1_empty : MOK yX1_empty cX1_empty 1 none 0 := ⟨mG (i := 70) (by decide +kernel) rfl, mG (i := 280) (by decide +kernel) rfl, by decide +kernel, by decide +kernel⟩
theorem vX1_empty : VOK yX1_empty := ⟨mG (i := 278) (by decide +kernel) rfl, mG (i := 279) (by decide +kernel) rfl⟩
theorem mX1_ownerOf : MOK yX1_ownerOf cX1_ownerOf 4 (some .int) 2 := ⟨mG (i := 70) (by decide +kernel) rfl, mG (i := 468) (by decide +kernel) rfl, by decide +kernel, by decide +kernel⟩
theorem vX1_ownerOf : VOK yX1_ownerOf := ⟨mG (i := 466) (by decide +kernel) rfl, mG (i := 467) (by decide +kernel) rfl⟩
theorem mX1_ownerByPieces : MOK yX1_ownerByPieces cX1_ownerByPieces 5 (some .int) 2 := ⟨mG (i := 70) (by decide +kernel) rfl, mG (i := 890) (by decide +kernel) rfl, by decide +kernel, by decide +kernel⟩
theorem vX1_ownerByPieces : VOK yX1_ownerByPieces := ⟨mG (i := 888) (by decide +kernel) rfl, mG (i := 889) (by decide +kernel) rfl⟩
theorem mX1_holds : MOK yX1_holds cX1_holds 2 (some .boolean) 1 := ⟨mG (i := 70) (by decide +kernel) rfl, mG (i := 641) (by decide +kernel) rfl, by decide +kernel, by decide +kernel⟩
theorem vX1_holds : VOK yX1_holds := ⟨mG (i := 639) (by decide +kernel) rfl, mG (i := 640) (by decide +kernel) rfl⟩
theorem mX1_countOf : MOK yX1_countOf cX1_countOf 6 (some .int) 2 := ⟨mG (i := 70) (by decide +kernel) rfl, mG (i := 645) (by decide +kernel) rfl, by decide +kernel, by decide +kernel⟩
theorem vX1_countOf : VOK yX1_countOf := ⟨mG (i := 643) (by decide +kernel) rfl, mG (i := 644) (by decide +kernel) rfl⟩
theorem mX1_rowsUsed : MOK yX1_rowsUsed cX1_rowsUsed 2 (some .int) 0 := ⟨mG (i := 70) (by decide +kernel) rfl, mG (i := 292) (by decide +kernel) rfl, by decide +kernel, by decide +kernel⟩
theorem vX1_rowsUsed : VOK yX1_rowsUsed := ⟨mG (i := 290) (by decide +kernel) rfl, mG (i := 291) (by decide +kernel) rfl⟩
theorem mX1_cellsUsed : MOK yX1_cellsUsed cX1_cellsUsed 4 (some .int) 0 := ⟨mG (i := 70) (by decide +kernel) rfl, mG (i := 301) (by decide +kernel) rfl, by decide +kernel, by decide +kernel⟩
theorem vX1_cellsUsed : VOK yX1_cellsUsed := ⟨mG (i := 299) (by decide +kernel) rfl, mG (i := 300) (by decide +kernel) rfl⟩
theorem mX1_hasNoOverlap : MOK yX1_hasNoOverlap cX1_hasNoOverlap 2 (some .boolean) 0 := ⟨mG (i := 70) (by decide +kernel) rfl, mG (i := 325) (by decide +kernel) rfl, by decide +kernel, by decide +kernel⟩
theorem vX1_hasNoOverlap : VOK yX1_hasNoOverlap := ⟨mG (i := 323) (by decide +kernel) rfl, mG (i := 324) (by decide +kernel) rfl⟩
theorem mX1_meetsAnew : MOK yX1_meetsAnew cX1_meetsAnew 5 (some .boolean) 1 := ⟨mG (i := 70) (by decide +kernel) rfl, mG (i := 329) (by decide +kernel) rfl, by decide +kernel, by decide +kernel⟩
theorem vX1_meetsAnew : VOK yX1_meetsAnew := ⟨mG (i := 328) (by decide +kernel) rfl, mG (i := 4) (by decide +kernel) rfl⟩
theorem mX2_init : MOK yX2_init cX2_init 3 none 2 := ⟨mG (i := 81) (by decide +kernel) rfl, mG (i := 514) (by decide +kernel) rfl, by decide +kernel, by decide +kernel⟩
theorem mX2_trace : MOK yX2_trace cX2_trace 10 none 3 := ⟨mG (i := 81) (by decide +kernel) rfl, mG (i := 659) (by decide +kernel) rfl, by decide +kernel, by decide +kernel⟩
theorem vX2_trace : VOK yX2_trace := ⟨mG (i := 657) (by decide +kernel) rfl, mG (i := 658) (by decide +kernel) rfl⟩
theorem mX2_turnedRow : MOK yX2_turnedRow cX2_turnedRow 4 (some .int) 2 := ⟨mG (i := 81) (by decide +kernel) rfl, mG (i := 666) (by decide +kernel) rfl, by decide +kernel, by decide +kernel⟩
theorem vX2_turnedRow : VOK yX2_turnedRow := ⟨mG (i := 665) (by decide +kernel) rfl, mG (i := 11) (by decide +kernel) rfl⟩
theorem mX2_turnedColumn : MOK yX2_turnedColumn cX2_turnedColumn 4 (some .int) 2 := ⟨mG (i := 81) (by decide +kernel) rfl, mG (i := 670) (by decide +kernel) rfl, by decide +kernel, by decide +kernel⟩
theorem vX2_turnedColumn : VOK yX2_turnedColumn := ⟨mG (i := 669) (by decide +kernel) rfl, mG (i := 12) (by decide +kernel) rfl⟩
theorem mX2_hasCell : MOK yX2_hasCell cX2_hasCell 3 (some .boolean) 2 := ⟨mG (i := 81) (by decide +kernel) rfl, mG (i := 898) (by decide +kernel) rfl, by decide +kernel, by decide +kernel⟩
theorem vX2_hasCell : VOK yX2_hasCell := ⟨mG (i := 896) (by decide +kernel) rfl, mG (i := 897) (by decide +kernel) rfl⟩
theorem mX3_init : MOK yX3_init cX3_init 1 none 0 := ⟨mG (i := 71) (by decide +kernel) rfl, mG (i := 144) (by decide +kernel) rfl, by decide +kernel, by decide +kernel⟩
theorem mX3_covers : MOK yX3_covers cX3_covers 3 (some .boolean) 2 := ⟨mG (i := 71) (by decide +kernel) rfl, mG (i := 894) (by decide +kernel) rfl, by decide +kernel, by decide +kernel⟩
theorem vX3_covers : VOK yX3_covers := ⟨mG (i := 892) (by decide +kernel) rfl, mG (i := 893) (by decide +kernel) rfl⟩
theorem mX4_init : MOK yX4_init cX4_init 4 none 2 := ⟨mG (i := 80) (by decide +kernel) rfl, mG (i := 507) (by decide +kernel) rfl, by decide +kernel, by decide +kernel⟩
theorem mX4_hasCell : MOK yX4_hasCell cX4_hasCell 3 (some .boolean) 2 := ⟨mG (i := 80) (by decide +kernel) rfl, mG (i := 634) (by decide +kernel) rfl, by decide +kernel, by decide +kernel⟩
theorem vX4_hasCell : VOK yX4_hasCell := ⟨mG (i := 632) (by decide +kernel) rfl, mG (i := 633) (by decide +kernel) rfl⟩
theorem mX4_draw : MOK yX4_draw cX4_draw 3 none 2 := ⟨mG (i := 80) (by decide +kernel) rfl, mG (i := 650) (by decide +kernel) rfl, by decide +kernel, by decide +kernel⟩
theorem vX4_draw : VOK yX4_draw := ⟨mG (i := 648) (by decide +kernel) rfl, mG (i := 649) (by decide +kernel) rfl⟩
theorem mX4_mark : MOK yX4_mark cX4_mark 4 none 3 := ⟨mG (i := 80) (by decide +kernel) rfl, mG (i := 691) (by decide +kernel) rfl, by decide +kernel, by decide +kernel⟩
theorem vX4_mark : VOK yX4_mark := ⟨mG (i := 689) (by decide +kernel) rfl, mG (i := 690) (by decide +kernel) rfl⟩
theorem mX4_traceAll : MOK yX4_traceAll cX4_traceAll 3 none 0 := ⟨mG (i := 80) (by decide +kernel) rfl, mG (i := 655) (by decide +kernel) rfl, by decide +kernel, by decide +kernel⟩
theorem vX4_traceAll : VOK yX4_traceAll := ⟨mG (i := 654) (by decide +kernel) rfl, mG (i := 10) (by decide +kernel) rfl⟩
theorem mX4_outlineFor : MOK yX4_outlineFor cX4_outlineFor 4 (some (.object "CuttingRoom$Outline")) 2 := ⟨mG (i := 80) (by decide +kernel) rfl, mG (i := 717) (by decide +kernel) rfl, by decide +kernel, by decide +kernel⟩
theorem vX4_outlineFor : VOK yX4_outlineFor := ⟨mG (i := 715) (by decide +kernel) rfl, mG (i := 716) (by decide +kernel) rfl⟩
theorem mX4_canTurn : MOK yX4_canTurn cX4_canTurn 3 (some .boolean) 2 := ⟨mG (i := 80) (by decide +kernel) rfl, mG (i := 721) (by decide +kernel) rfl, by decide +kernel, by decide +kernel⟩
theorem vX4_canTurn : VOK yX4_canTurn := ⟨mG (i := 719) (by decide +kernel) rfl, mG (i := 720) (by decide +kernel) rfl⟩
theorem mX4_canMirror : MOK yX4_canMirror cX4_canMirror 2 (some .boolean) 1 := ⟨mG (i := 80) (by decide +kernel) rfl, mG (i := 725) (by decide +kernel) rfl, by decide +kernel, by decide +kernel⟩
theorem vX4_canMirror : VOK yX4_canMirror := ⟨mG (i := 723) (by decide +kernel) rfl, mG (i := 724) (by decide +kernel) rfl⟩
theorem mX4_whole : MOK yX4_whole cX4_whole 1 (some .int) 0 := ⟨mG (i := 80) (by decide +kernel) rfl, mG (i := 1084) (by decide +kernel) rfl, by decide +kernel, by decide +kernel⟩
theorem vX4_whole : VOK yX4_whole := ⟨mG (i := 1082) (by decide +kernel) rfl, mG (i := 1083) (by decide +kernel) rfl⟩
theorem mX4_receive : MOK yX4_receive cX4_receive 3 none 2 := ⟨mG (i := 80) (by decide +kernel) rfl, mG (i := 1052) (by decide +kernel) rfl, by decide +kernel, by decide +kernel⟩
theorem vX4_receive : VOK yX4_receive := ⟨mG (i := 1050) (by decide +kernel) rfl, mG (i := 1051) (by decide +kernel) rfl⟩
theorem mX4_giveAway : MOK yX4_giveAway cX4_giveAway 2 none 1 := ⟨mG (i := 80) (by decide +kernel) rfl, mG (i := 1120) (by decide +kernel) rfl, by decide +kernel, by decide +kernel⟩
theorem vX4_giveAway : VOK yX4_giveAway := ⟨mG (i := 1118) (by decide +kernel) rfl, mG (i := 1119) (by decide +kernel) rfl⟩
theorem mX5_init : MOK yX5_init cX5_init 1 none 0 := ⟨mG (i := 87) (by decide +kernel) rfl, mG (i := 924) (by decide +kernel) rfl, by decide +kernel, by decide +kernel⟩
theorem mX5_hasParts : MOK yX5_hasParts cX5_hasParts 2 (some .boolean) 0 := ⟨mG (i := 87) (by decide +kernel) rfl, mG (i := 1075) (by decide +kernel) rfl, by decide +kernel, by decide +kernel⟩
theorem vX5_hasParts : VOK yX5_hasParts := ⟨mG (i := 1073) (by decide +kernel) rfl, mG (i := 1074) (by decide +kernel) rfl⟩
theorem mX6_init : MOK yX6_init cX6_init 1 none 0 := ⟨mG (i := 68) (by decide +kernel) rfl, mG (i := 93) (by decide +kernel) rfl, by decide +kernel, by decide +kernel⟩
theorem mX6_setCloth : MOK yX6_setCloth cX6_setCloth 5 (some .int) 3 := ⟨mG (i := 68) (by decide +kernel) rfl, mG (i := 348) (by decide +kernel) rfl, by decide +kernel, by decide +kernel⟩
theorem vX6_setCloth : VOK yX6_setCloth := ⟨mG (i := 346) (by decide +kernel) rfl, mG (i := 347) (by decide +kernel) rfl⟩
theorem mX6_fold : MOK yX6_fold cX6_fold 3 (some .boolean) 1 := ⟨mG (i := 68) (by decide +kernel) rfl, mG (i := 446) (by decide +kernel) rfl, by decide +kernel, by decide +kernel⟩
theorem vX6_fold : VOK yX6_fold := ⟨mG (i := 444) (by decide +kernel) rfl, mG (i := 445) (by decide +kernel) rfl⟩
theorem mX6_addFlaw : MOK yX6_addFlaw cX6_addFlaw 3 (some .int) 2 := ⟨mG (i := 68) (by decide +kernel) rfl, mG (i := 459) (by decide +kernel) rfl, by decide +kernel, by decide +kernel⟩
theorem vX6_addFlaw : VOK yX6_addFlaw := ⟨mG (i := 457) (by decide +kernel) rfl, mG (i := 458) (by decide +kernel) rfl⟩
theorem mX6_isUnderPiece : MOK yX6_isUnderPiece cX6_isUnderPiece 3 (some .boolean) 2 := ⟨mG (i := 68) (by decide +kernel) rfl, mG (i := 464) (by decide +kernel) rfl, by decide +kernel, by decide +kernel⟩
theorem vX6_isUnderPiece : VOK yX6_isUnderPiece := ⟨mG (i := 463) (by decide +kernel) rfl, mG (i := 8) (by decide +kernel) rfl⟩
theorem mX6_clearFlaws : MOK yX6_clearFlaws cX6_clearFlaws 2 (some .int) 0 := ⟨mG (i := 68) (by decide +kernel) rfl, mG (i := 246) (by decide +kernel) rfl, by decide +kernel, by decide +kernel⟩
theorem vX6_clearFlaws : VOK yX6_clearFlaws := ⟨mG (i := 244) (by decide +kernel) rfl, mG (i := 245) (by decide +kernel) rfl⟩
theorem mX6_addShape : MOK yX6_addShape cX6_addShape 4 (some .int) 2 := ⟨mG (i := 68) (by decide +kernel) rfl, mG (i := 501) (by decide +kernel) rfl, by decide +kernel, by decide +kernel⟩
theorem vX6_addShape : VOK yX6_addShape := ⟨mG (i := 499) (by decide +kernel) rfl, mG (i := 500) (by decide +kernel) rfl⟩
theorem mX6_addCell : MOK yX6_addCell cX6_addCell 5 (some .int) 3 := ⟨mG (i := 68) (by decide +kernel) rfl, mG (i := 612) (by decide +kernel) rfl, by decide +kernel, by decide +kernel⟩
theorem vX6_addCell : VOK yX6_addCell := ⟨mG (i := 610) (by decide +kernel) rfl, mG (i := 611) (by decide +kernel) rfl⟩
theorem mX6_setMark : MOK yX6_setMark cX6_setMark 7 (some .int) 4 := ⟨mG (i := 68) (by decide +kernel) rfl, mG (i := 685) (by decide +kernel) rfl, by decide +kernel, by decide +kernel⟩
theorem vX6_setMark : VOK yX6_setMark := ⟨mG (i := 683) (by decide +kernel) rfl, mG (i := 684) (by decide +kernel) rfl⟩
theorem mX6_cellsOf : MOK yX6_cellsOf cX6_cellsOf 2 (some .int) 1 := ⟨mG (i := 68) (by decide +kernel) rfl, mG (i := 698) (by decide +kernel) rfl, by decide +kernel, by decide +kernel⟩
theorem vX6_cellsOf : VOK yX6_cellsOf := ⟨mG (i := 696) (by decide +kernel) rfl, mG (i := 697) (by decide +kernel) rfl⟩
theorem mX6_shapeOrThrow : MOK yX6_shapeOrThrow cX6_shapeOrThrow 3 (some (.object "CuttingRoom$Shape")) 1 := ⟨mG (i := 68) (by decide +kernel) rfl, mG (i := 616) (by decide +kernel) rfl, by decide +kernel, by decide +kernel⟩
theorem vX6_shapeOrThrow : VOK yX6_shapeOrThrow := ⟨mG (i := 615) (by decide +kernel) rfl, mG (i := 9) (by decide +kernel) rfl⟩
theorem mX6_shapeNumbered : MOK yX6_shapeNumbered cX6_shapeNumbered 2 (some (.object "CuttingRoom$Shape")) 1 := ⟨mG (i := 68) (by decide +kernel) rfl, mG (i := 317) (by decide +kernel) rfl, by decide +kernel, by decide +kernel⟩
theorem vX6_shapeNumbered : VOK yX6_shapeNumbered := ⟨mG (i := 316) (by decide +kernel) rfl, mG (i := 3) (by decide +kernel) rfl⟩
theorem mX6_lay : MOK yX6_lay cX6_lay 7 (some .int) 5 := ⟨mG (i := 68) (by decide +kernel) rfl, mG (i := 705) (by decide +kernel) rfl, by decide +kernel, by decide +kernel⟩
theorem vX6_lay : VOK yX6_lay := ⟨mG (i := 703) (by decide +kernel) rfl, mG (i := 704) (by decide +kernel) rfl⟩
theorem mX6_reason : MOK yX6_reason cX6_reason 7 (some .char) 5 := ⟨mG (i := 68) (by decide +kernel) rfl, mG (i := 774) (by decide +kernel) rfl, by decide +kernel, by decide +kernel⟩
theorem vX6_reason : VOK yX6_reason := ⟨mG (i := 772) (by decide +kernel) rfl, mG (i := 773) (by decide +kernel) rfl⟩
theorem mX6_checkTurns : MOK yX6_checkTurns cX6_checkTurns 1 none 1 := ⟨mG (i := 68) (by decide +kernel) rfl, mG (i := 708) (by decide +kernel) rfl, by decide +kernel, by decide +kernel⟩
theorem sX6_checkTurns : Cond.static yX6_checkTurns ∈ GW := mG (i := 707) (by decide +kernel) rfl
theorem mX6_nest : MOK yX6_nest cX6_nest 5 (some .int) 2 := ⟨mG (i := 68) (by decide +kernel) rfl, mG (i := 782) (by decide +kernel) rfl, by decide +kernel, by decide +kernel⟩
theorem vX6_nest : VOK yX6_nest := ⟨mG (i := 780) (by decide +kernel) rfl, mG (i := 781) (by decide +kernel) rfl⟩
theorem mX6_takeOff : MOK yX6_takeOff cX6_takeOff 2 (some .int) 1 := ⟨mG (i := 68) (by decide +kernel) rfl, mG (i := 816) (by decide +kernel) rfl, by decide +kernel, by decide +kernel⟩
theorem vX6_takeOff : VOK yX6_takeOff := ⟨mG (i := 814) (by decide +kernel) rfl, mG (i := 815) (by decide +kernel) rfl⟩
theorem mX6_clear : MOK yX6_clear cX6_clear 2 (some .int) 0 := ⟨mG (i := 68) (by decide +kernel) rfl, mG (i := 276) (by decide +kernel) rfl, by decide +kernel, by decide +kernel⟩
theorem vX6_clear : VOK yX6_clear := ⟨mG (i := 274) (by decide +kernel) rfl, mG (i := 275) (by decide +kernel) rfl⟩
theorem mX6_inMarker : MOK yX6_inMarker cX6_inMarker 1 (some .int) 0 := ⟨mG (i := 68) (by decide +kernel) rfl, mG (i := 284) (by decide +kernel) rfl, by decide +kernel, by decide +kernel⟩
theorem vX6_inMarker : VOK yX6_inMarker := ⟨mG (i := 282) (by decide +kernel) rfl, mG (i := 283) (by decide +kernel) rfl⟩
theorem mX6_rowOf : MOK yX6_rowOf cX6_rowOf 2 (some .int) 1 := ⟨mG (i := 68) (by decide +kernel) rfl, mG (i := 851) (by decide +kernel) rfl, by decide +kernel, by decide +kernel⟩
theorem vX6_rowOf : VOK yX6_rowOf := ⟨mG (i := 849) (by decide +kernel) rfl, mG (i := 850) (by decide +kernel) rfl⟩
theorem mX6_columnOf : MOK yX6_columnOf cX6_columnOf 2 (some .int) 1 := ⟨mG (i := 68) (by decide +kernel) rfl, mG (i := 858) (by decide +kernel) rfl, by decide +kernel, by decide +kernel⟩
theorem vX6_columnOf : VOK yX6_columnOf := ⟨mG (i := 856) (by decide +kernel) rfl, mG (i := 857) (by decide +kernel) rfl⟩
theorem mX6_turnsOf : MOK yX6_turnsOf cX6_turnsOf 2 (some .int) 1 := ⟨mG (i := 68) (by decide +kernel) rfl, mG (i := 865) (by decide +kernel) rfl, by decide +kernel, by decide +kernel⟩
theorem vX6_turnsOf : VOK yX6_turnsOf := ⟨mG (i := 863) (by decide +kernel) rfl, mG (i := 864) (by decide +kernel) rfl⟩
theorem mX6_pieceOrThrow : MOK yX6_pieceOrThrow cX6_pieceOrThrow 3 (some (.object "CuttingRoom$Piece")) 1 := ⟨mG (i := 68) (by decide +kernel) rfl, mG (i := 820) (by decide +kernel) rfl, by decide +kernel, by decide +kernel⟩
theorem vX6_pieceOrThrow : VOK yX6_pieceOrThrow := ⟨mG (i := 819) (by decide +kernel) rfl, mG (i := 16) (by decide +kernel) rfl⟩
theorem mX6_pieceAt : MOK yX6_pieceAt cX6_pieceAt 3 (some .int) 2 := ⟨mG (i := 68) (by decide +kernel) rfl, mG (i := 872) (by decide +kernel) rfl, by decide +kernel, by decide +kernel⟩
theorem vX6_pieceAt : VOK yX6_pieceAt := ⟨mG (i := 870) (by decide +kernel) rfl, mG (i := 871) (by decide +kernel) rfl⟩
theorem mX6_pieceByPieces : MOK yX6_pieceByPieces cX6_pieceByPieces 3 (some .int) 2 := ⟨mG (i := 68) (by decide +kernel) rfl, mG (i := 886) (by decide +kernel) rfl, by decide +kernel, by decide +kernel⟩
theorem vX6_pieceByPieces : VOK yX6_pieceByPieces := ⟨mG (i := 884) (by decide +kernel) rfl, mG (i := 885) (by decide +kernel) rfl⟩
theorem mX6_checkCell : MOK yX6_checkCell cX6_checkCell 2 none 2 := ⟨mG (i := 68) (by decide +kernel) rfl, mG (i := 875) (by decide +kernel) rfl, by decide +kernel, by decide +kernel⟩
theorem sX6_checkCell : Cond.static yX6_checkCell ∈ GW := mG (i := 874) (by decide +kernel) rfl
theorem mX6_numberOrThrow : MOK yX6_numberOrThrow cX6_numberOrThrow 1 (some .int) 1 := ⟨mG (i := 68) (by decide +kernel) rfl, mG (i := 878) (by decide +kernel) rfl, by decide +kernel, by decide +kernel⟩
theorem sX6_numberOrThrow : Cond.static yX6_numberOrThrow ∈ GW := mG (i := 877) (by decide +kernel) rfl
theorem mX6_length : MOK yX6_length cX6_length 1 (some .int) 0 := ⟨mG (i := 68) (by decide +kernel) rfl, mG (i := 288) (by decide +kernel) rfl, by decide +kernel, by decide +kernel⟩
theorem vX6_length : VOK yX6_length := ⟨mG (i := 286) (by decide +kernel) rfl, mG (i := 287) (by decide +kernel) rfl⟩
theorem mX6_used : MOK yX6_used cX6_used 1 (some .int) 0 := ⟨mG (i := 68) (by decide +kernel) rfl, mG (i := 297) (by decide +kernel) rfl, by decide +kernel, by decide +kernel⟩
theorem vX6_used : VOK yX6_used := ⟨mG (i := 295) (by decide +kernel) rfl, mG (i := 296) (by decide +kernel) rfl⟩
theorem mX6_phase : MOK yX6_phase cX6_phase 2 (some .int) 1 := ⟨mG (i := 68) (by decide +kernel) rfl, mG (i := 906) (by decide +kernel) rfl, by decide +kernel, by decide +kernel⟩
theorem vX6_phase : VOK yX6_phase := ⟨mG (i := 904) (by decide +kernel) rfl, mG (i := 905) (by decide +kernel) rfl⟩
theorem mX6_addStyle : MOK yX6_addStyle cX6_addStyle 2 (some .int) 0 := ⟨mG (i := 68) (by decide +kernel) rfl, mG (i := 919) (by decide +kernel) rfl, by decide +kernel, by decide +kernel⟩
theorem vX6_addStyle : VOK yX6_addStyle := ⟨mG (i := 917) (by decide +kernel) rfl, mG (i := 918) (by decide +kernel) rfl⟩
theorem mX6_addPart : MOK yX6_addPart cX6_addPart 5 (some .int) 3 := ⟨mG (i := 68) (by decide +kernel) rfl, mG (i := 940) (by decide +kernel) rfl, by decide +kernel, by decide +kernel⟩
theorem vX6_addPart : VOK yX6_addPart := ⟨mG (i := 938) (by decide +kernel) rfl, mG (i := 939) (by decide +kernel) rfl⟩
theorem mX6_piecesFor : MOK yX6_piecesFor cX6_piecesFor 2 (some .int) 1 := ⟨mG (i := 68) (by decide +kernel) rfl, mG (i := 959) (by decide +kernel) rfl, by decide +kernel, by decide +kernel⟩
theorem vX6_piecesFor : VOK yX6_piecesFor := ⟨mG (i := 957) (by decide +kernel) rfl, mG (i := 958) (by decide +kernel) rfl⟩
theorem mX6_styleOrThrow : MOK yX6_styleOrThrow cX6_styleOrThrow 3 (some (.object "CuttingRoom$Style")) 1 := ⟨mG (i := 68) (by decide +kernel) rfl, mG (i := 944) (by decide +kernel) rfl, by decide +kernel, by decide +kernel⟩
theorem vX6_styleOrThrow : VOK yX6_styleOrThrow := ⟨mG (i := 943) (by decide +kernel) rfl, mG (i := 20) (by decide +kernel) rfl⟩
theorem mX6_styleWithPartsOrThrow : MOK yX6_styleWithPartsOrThrow cX6_styleWithPartsOrThrow 3 (some (.object "CuttingRoom$Style")) 1 := ⟨mG (i := 68) (by decide +kernel) rfl, mG (i := 1071) (by decide +kernel) rfl, by decide +kernel, by decide +kernel⟩
theorem vX6_styleWithPartsOrThrow : VOK yX6_styleWithPartsOrThrow := ⟨mG (i := 1070) (by decide +kernel) rfl, mG (i := 33) (by decide +kernel) rfl⟩
theorem mX6_piecesOfGarment : MOK yX6_piecesOfGarment cX6_piecesOfGarment 4 (some .int) 1 := ⟨mG (i := 68) (by decide +kernel) rfl, mG (i := 952) (by decide +kernel) rfl, by decide +kernel, by decide +kernel⟩
theorem vX6_piecesOfGarment : VOK yX6_piecesOfGarment := ⟨mG (i := 951) (by decide +kernel) rfl, mG (i := 21) (by decide +kernel) rfl⟩
theorem mX6_piecesOfPart : MOK yX6_piecesOfPart cX6_piecesOfPart 5 (some .int) 2 := ⟨mG (i := 68) (by decide +kernel) rfl, mG (i := 338) (by decide +kernel) rfl, by decide +kernel, by decide +kernel⟩
theorem vX6_piecesOfPart : VOK yX6_piecesOfPart := ⟨mG (i := 337) (by decide +kernel) rfl, mG (i := 6) (by decide +kernel) rfl⟩
theorem mX6_nestedLength : MOK yX6_nestedLength cX6_nestedLength 3 (some .int) 1 := ⟨mG (i := 68) (by decide +kernel) rfl, mG (i := 966) (by decide +kernel) rfl, by decide +kernel, by decide +kernel⟩
theorem vX6_nestedLength : VOK yX6_nestedLength := ⟨mG (i := 964) (by decide +kernel) rfl, mG (i := 965) (by decide +kernel) rfl⟩
theorem mX6_nestedByTrying : MOK yX6_nestedByTrying cX6_nestedByTrying 6 (some .int) 1 := ⟨mG (i := 68) (by decide +kernel) rfl, mG (i := 1008) (by decide +kernel) rfl, by decide +kernel, by decide +kernel⟩
theorem vX6_nestedByTrying : VOK yX6_nestedByTrying := ⟨mG (i := 1006) (by decide +kernel) rfl, mG (i := 1007) (by decide +kernel) rfl⟩
theorem mX6_lengthOrThrow : MOK yX6_lengthOrThrow cX6_lengthOrThrow 1 (some .int) 1 := ⟨mG (i := 68) (by decide +kernel) rfl, mG (i := 1000) (by decide +kernel) rfl, by decide +kernel, by decide +kernel⟩
theorem sX6_lengthOrThrow : Cond.static yX6_lengthOrThrow ∈ GW := mG (i := 999) (by decide +kernel) rfl
theorem mX6_wantPieces : MOK yX6_wantPieces cX6_wantPieces 6 (some .int) 1 := ⟨mG (i := 68) (by decide +kernel) rfl, mG (i := 970) (by decide +kernel) rfl, by decide +kernel, by decide +kernel⟩
theorem vX6_wantPieces : VOK yX6_wantPieces := ⟨mG (i := 969) (by decide +kernel) rfl, mG (i := 22) (by decide +kernel) rfl⟩
theorem mX6_plainToNest : MOK yX6_plainToNest cX6_plainToNest 6 (some .int) 2 := ⟨mG (i := 68) (by decide +kernel) rfl, mG (i := 974) (by decide +kernel) rfl, by decide +kernel, by decide +kernel⟩
theorem vX6_plainToNest : VOK yX6_plainToNest := ⟨mG (i := 973) (by decide +kernel) rfl, mG (i := 23) (by decide +kernel) rfl⟩
theorem mX6_mirroredToNest : MOK yX6_mirroredToNest cX6_mirroredToNest 4 (some .int) 2 := ⟨mG (i := 68) (by decide +kernel) rfl, mG (i := 978) (by decide +kernel) rfl, by decide +kernel, by decide +kernel⟩
theorem vX6_mirroredToNest : VOK yX6_mirroredToNest := ⟨mG (i := 977) (by decide +kernel) rfl, mG (i := 24) (by decide +kernel) rfl⟩
theorem mX6_shortest : MOK yX6_shortest cX6_shortest 5 (some .int) 2 := ⟨mG (i := 68) (by decide +kernel) rfl, mG (i := 986) (by decide +kernel) rfl, by decide +kernel, by decide +kernel⟩
theorem vX6_shortest : VOK yX6_shortest := ⟨mG (i := 985) (by decide +kernel) rfl, mG (i := 25) (by decide +kernel) rfl⟩
theorem mX6_shortestWith : MOK yX6_shortestWith cX6_shortestWith 6 (some .int) 3 := ⟨mG (i := 68) (by decide +kernel) rfl, mG (i := 993) (by decide +kernel) rfl, by decide +kernel, by decide +kernel⟩
theorem vX6_shortestWith : VOK yX6_shortestWith := ⟨mG (i := 992) (by decide +kernel) rfl, mG (i := 26) (by decide +kernel) rfl⟩
theorem mX6_lengthInOrder : MOK yX6_lengthInOrder cX6_lengthInOrder 7 (some .int) 2 := ⟨mG (i := 68) (by decide +kernel) rfl, mG (i := 1012) (by decide +kernel) rfl, by decide +kernel, by decide +kernel⟩
theorem vX6_lengthInOrder : VOK yX6_lengthInOrder := ⟨mG (i := 1011) (by decide +kernel) rfl, mG (i := 28) (by decide +kernel) rfl⟩
theorem mX6_fillQueue : MOK yX6_fillQueue cX6_fillQueue 4 none 0 := ⟨mG (i := 68) (by decide +kernel) rfl, mG (i := 1016) (by decide +kernel) rfl, by decide +kernel, by decide +kernel⟩
theorem vX6_fillQueue : VOK yX6_fillQueue := ⟨mG (i := 1015) (by decide +kernel) rfl, mG (i := 29) (by decide +kernel) rfl⟩
theorem mX6_nestInTrial : MOK yX6_nestInTrial cX6_nestInTrial 5 (some .int) 1 := ⟨mG (i := 68) (by decide +kernel) rfl, mG (i := 997) (by decide +kernel) rfl, by decide +kernel, by decide +kernel⟩
theorem vX6_nestInTrial : VOK yX6_nestInTrial := ⟨mG (i := 996) (by decide +kernel) rfl, mG (i := 27) (by decide +kernel) rfl⟩
theorem mX6_kindOf : MOK yX6_kindOf cX6_kindOf 2 (some .int) 2 := ⟨mG (i := 68) (by decide +kernel) rfl, mG (i := 981) (by decide +kernel) rfl, by decide +kernel, by decide +kernel⟩
theorem sX6_kindOf : Cond.static yX6_kindOf ∈ GW := mG (i := 980) (by decide +kernel) rfl
theorem mX6_addCloth : MOK yX6_addCloth cX6_addCloth 2 (some .int) 1 := ⟨mG (i := 68) (by decide +kernel) rfl, mG (i := 1023) (by decide +kernel) rfl, by decide +kernel, by decide +kernel⟩
theorem vX6_addCloth : VOK yX6_addCloth := ⟨mG (i := 1021) (by decide +kernel) rfl, mG (i := 1022) (by decide +kernel) rfl⟩
theorem mX6_roll : MOK yX6_roll cX6_roll 1 (some .int) 0 := ⟨mG (i := 68) (by decide +kernel) rfl, mG (i := 309) (by decide +kernel) rfl, by decide +kernel, by decide +kernel⟩
theorem vX6_roll : VOK yX6_roll := ⟨mG (i := 307) (by decide +kernel) rfl, mG (i := 308) (by decide +kernel) rfl⟩
theorem mX6_spread : MOK yX6_spread cX6_spread 4 (some .int) 1 := ⟨mG (i := 68) (by decide +kernel) rfl, mG (i := 1032) (by decide +kernel) rfl, by decide +kernel, by decide +kernel⟩
theorem vX6_spread : VOK yX6_spread := ⟨mG (i := 1030) (by decide +kernel) rfl, mG (i := 1031) (by decide +kernel) rfl⟩
theorem mX6_stockHolds : MOK yX6_stockHolds cX6_stockHolds 4 (some .boolean) 1 := ⟨mG (i := 68) (by decide +kernel) rfl, mG (i := 1038) (by decide +kernel) rfl, by decide +kernel, by decide +kernel⟩
theorem vX6_stockHolds : VOK yX6_stockHolds := ⟨mG (i := 1037) (by decide +kernel) rfl, mG (i := 30) (by decide +kernel) rfl⟩
theorem mX6_cutPlies : MOK yX6_cutPlies cX6_cutPlies 3 none 2 := ⟨mG (i := 68) (by decide +kernel) rfl, mG (i := 1048) (by decide +kernel) rfl, by decide +kernel, by decide +kernel⟩
theorem vX6_cutPlies : VOK yX6_cutPlies := ⟨mG (i := 1047) (by decide +kernel) rfl, mG (i := 32) (by decide +kernel) rfl⟩
theorem mX6_perPly : MOK yX6_perPly cX6_perPly 4 (some .int) 2 := ⟨mG (i := 68) (by decide +kernel) rfl, mG (i := 1042) (by decide +kernel) rfl, by decide +kernel, by decide +kernel⟩
theorem vX6_perPly : VOK yX6_perPly := ⟨mG (i := 1041) (by decide +kernel) rfl, mG (i := 31) (by decide +kernel) rfl⟩
theorem mX6_pieces : MOK yX6_pieces cX6_pieces 4 (some .int) 2 := ⟨mG (i := 68) (by decide +kernel) rfl, mG (i := 1059) (by decide +kernel) rfl, by decide +kernel, by decide +kernel⟩
theorem vX6_pieces : VOK yX6_pieces := ⟨mG (i := 1057) (by decide +kernel) rfl, mG (i := 1058) (by decide +kernel) rfl⟩
theorem mX6_cut : MOK yX6_cut cX6_cut 5 (some .long) 0 := ⟨mG (i := 68) (by decide +kernel) rfl, mG (i := 313) (by decide +kernel) rfl, by decide +kernel, by decide +kernel⟩
theorem vX6_cut : VOK yX6_cut := ⟨mG (i := 311) (by decide +kernel) rfl, mG (i := 312) (by decide +kernel) rfl⟩
theorem mX6_canMake : MOK yX6_canMake cX6_canMake 2 (some .int) 1 := ⟨mG (i := 68) (by decide +kernel) rfl, mG (i := 1067) (by decide +kernel) rfl, by decide +kernel, by decide +kernel⟩
theorem vX6_canMake : VOK yX6_canMake := ⟨mG (i := 1065) (by decide +kernel) rfl, mG (i := 1066) (by decide +kernel) rfl⟩
theorem mX6_garmentsInStock : MOK yX6_garmentsInStock cX6_garmentsInStock 6 (some .int) 1 := ⟨mG (i := 68) (by decide +kernel) rfl, mG (i := 1080) (by decide +kernel) rfl, by decide +kernel, by decide +kernel⟩
theorem vX6_garmentsInStock : VOK yX6_garmentsInStock := ⟨mG (i := 1079) (by decide +kernel) rfl, mG (i := 34) (by decide +kernel) rfl⟩
theorem mX6_canMakeByTaking : MOK yX6_canMakeByTaking cX6_canMakeByTaking 5 (some .int) 1 := ⟨mG (i := 68) (by decide +kernel) rfl, mG (i := 1092) (by decide +kernel) rfl, by decide +kernel, by decide +kernel⟩
theorem vX6_canMakeByTaking : VOK yX6_canMakeByTaking := ⟨mG (i := 1090) (by decide +kernel) rfl, mG (i := 1091) (by decide +kernel) rfl⟩
theorem mX6_takesGarment : MOK yX6_takesGarment cX6_takesGarment 5 (some .boolean) 1 := ⟨mG (i := 68) (by decide +kernel) rfl, mG (i := 1096) (by decide +kernel) rfl, by decide +kernel, by decide +kernel⟩
theorem vX6_takesGarment : VOK yX6_takesGarment := ⟨mG (i := 1095) (by decide +kernel) rfl, mG (i := 35) (by decide +kernel) rfl⟩
theorem mX6_takesPart : MOK yX6_takesPart cX6_takesPart 4 (some .boolean) 3 := ⟨mG (i := 68) (by decide +kernel) rfl, mG (i := 1100) (by decide +kernel) rfl, by decide +kernel, by decide +kernel⟩
theorem vX6_takesPart : VOK yX6_takesPart := ⟨mG (i := 1099) (by decide +kernel) rfl, mG (i := 36) (by decide +kernel) rfl⟩
theorem mX6_takesKind : MOK yX6_takesKind cX6_takesKind 4 (some .boolean) 2 := ⟨mG (i := 68) (by decide +kernel) rfl, mG (i := 1104) (by decide +kernel) rfl, by decide +kernel, by decide +kernel⟩
theorem vX6_takesKind : VOK yX6_takesKind := ⟨mG (i := 1103) (by decide +kernel) rfl, mG (i := 37) (by decide +kernel) rfl⟩
theorem mX6_make : MOK yX6_make cX6_make 6 (some .int) 2 := ⟨mG (i := 68) (by decide +kernel) rfl, mG (i := 1111) (by decide +kernel) rfl, by decide +kernel, by decide +kernel⟩
theorem vX6_make : VOK yX6_make := ⟨mG (i := 1109) (by decide +kernel) rfl, mG (i := 1110) (by decide +kernel) rfl⟩
theorem mX6_checkGarments : MOK yX6_checkGarments cX6_checkGarments 1 none 1 := ⟨mG (i := 68) (by decide +kernel) rfl, mG (i := 1114) (by decide +kernel) rfl, by decide +kernel, by decide +kernel⟩
theorem sX6_checkGarments : Cond.static yX6_checkGarments ∈ GW := mG (i := 1113) (by decide +kernel) rfl
theorem mX6_made : MOK yX6_made cX6_made 2 (some .int) 1 := ⟨mG (i := 68) (by decide +kernel) rfl, mG (i := 1127) (by decide +kernel) rfl, by decide +kernel, by decide +kernel⟩
theorem vX6_made : VOK yX6_made := ⟨mG (i := 1125) (by decide +kernel) rfl, mG (i := 1126) (by decide +kernel) rfl⟩
theorem mX6_pliesFor : MOK yX6_pliesFor cX6_pliesFor 7 (some .int) 2 := ⟨mG (i := 68) (by decide +kernel) rfl, mG (i := 1134) (by decide +kernel) rfl, by decide +kernel, by decide +kernel⟩
theorem vX6_pliesFor : VOK yX6_pliesFor := ⟨mG (i := 1132) (by decide +kernel) rfl, mG (i := 1133) (by decide +kernel) rfl⟩
theorem mX6_pliesForPart : MOK yX6_pliesForPart cX6_pliesForPart 5 (some .int) 2 := ⟨mG (i := 68) (by decide +kernel) rfl, mG (i := 1138) (by decide +kernel) rfl, by decide +kernel, by decide +kernel⟩
theorem vX6_pliesForPart : VOK yX6_pliesForPart := ⟨mG (i := 1137) (by decide +kernel) rfl, mG (i := 38) (by decide +kernel) rfl⟩
theorem mX6_pliesForSort : MOK yX6_pliesForSort cX6_pliesForSort 2 (some .int) 2 := ⟨mG (i := 68) (by decide +kernel) rfl, mG (i := 1141) (by decide +kernel) rfl, by decide +kernel, by decide +kernel⟩
theorem sX6_pliesForSort : Cond.static yX6_pliesForSort ∈ GW := mG (i := 1140) (by decide +kernel) rfl
theorem mX6_density : MOK yX6_density cX6_density 2 (some .float) 0 := ⟨mG (i := 68) (by decide +kernel) rfl, mG (i := 1164) (by decide +kernel) rfl, by decide +kernel, by decide +kernel⟩
theorem vX6_density : VOK yX6_density := ⟨mG (i := 1162) (by decide +kernel) rfl, mG (i := 1163) (by decide +kernel) rfl⟩
theorem mX6_meanCells : MOK yX6_meanCells cX6_meanCells 2 (some .double) 0 := ⟨mG (i := 68) (by decide +kernel) rfl, mG (i := 1174) (by decide +kernel) rfl, by decide +kernel, by decide +kernel⟩
theorem vX6_meanCells : VOK yX6_meanCells := ⟨mG (i := 1172) (by decide +kernel) rfl, mG (i := 1173) (by decide +kernel) rfl⟩
theorem mX6_isSound : MOK yX6_isSound cX6_isSound 3 (some .boolean) 0 := ⟨mG (i := 68) (by decide +kernel) rfl, mG (i := 321) (by decide +kernel) rfl, by decide +kernel, by decide +kernel⟩
theorem vX6_isSound : VOK yX6_isSound := ⟨mG (i := 319) (by decide +kernel) rfl, mG (i := 320) (by decide +kernel) rfl⟩
theorem mX6_inGarments : MOK yX6_inGarments cX6_inGarments 6 (some .long) 1 := ⟨mG (i := 68) (by decide +kernel) rfl, mG (i := 334) (by decide +kernel) rfl, by decide +kernel, by decide +kernel⟩
theorem vX6_inGarments : VOK yX6_inGarments := ⟨mG (i := 333) (by decide +kernel) rfl, mG (i := 5) (by decide +kernel) rfl⟩
theorem mX6_isWithin : MOK yX6_isWithin cX6_isWithin 3 (some .boolean) 3 := ⟨mG (i := 68) (by decide +kernel) rfl, mG (i := 351) (by decide +kernel) rfl, by decide +kernel, by decide +kernel⟩
theorem sX6_isWithin : Cond.static yX6_isWithin ∈ GW := mG (i := 350) (by decide +kernel) rfl
theorem mX6_entry : MOK yX6_entry cX6_entry 2 (some .int) 2 := ⟨mG (i := 68) (by decide +kernel) rfl, mG (i := 258) (by decide +kernel) rfl, by decide +kernel, by decide +kernel⟩
theorem sX6_entry : Cond.static yX6_entry ∈ GW := mG (i := 257) (by decide +kernel) rfl
theorem mX6_store : MOK yX6_store cX6_store 3 none 3 := ⟨mG (i := 68) (by decide +kernel) rfl, mG (i := 272) (by decide +kernel) rfl, by decide +kernel, by decide +kernel⟩
theorem sX6_store : Cond.static yX6_store ∈ GW := mG (i := 271) (by decide +kernel) rfl
theorem mX6_hasBit : MOK yX6_hasBit cX6_hasBit 2 (some .boolean) 2 := ⟨mG (i := 68) (by decide +kernel) rfl, mG (i := 265) (by decide +kernel) rfl, by decide +kernel, by decide +kernel⟩
theorem sX6_hasBit : Cond.static yX6_hasBit ∈ GW := mG (i := 264) (by decide +kernel) rfl
theorem mX6_firstBit : MOK yX6_firstBit cX6_firstBit 2 (some .int) 1 := ⟨mG (i := 68) (by decide +kernel) rfl, mG (i := 674) (by decide +kernel) rfl, by decide +kernel, by decide +kernel⟩
theorem sX6_firstBit : Cond.static yX6_firstBit ∈ GW := mG (i := 673) (by decide +kernel) rfl
theorem mX6_endOfBits : MOK yX6_endOfBits cX6_endOfBits 2 (some .int) 1 := ⟨mG (i := 68) (by decide +kernel) rfl, mG (i := 678) (by decide +kernel) rfl, by decide +kernel, by decide +kernel⟩
theorem sX6_endOfBits : Cond.static yX6_endOfBits ∈ GW := mG (i := 677) (by decide +kernel) rfl
theorem mX7_init : MOK yX7_init cX7_init 2 none 0 := ⟨mG (i := 73) (by decide +kernel) rfl, mG (i := 1179) (by decide +kernel) rfl, by decide +kernel, by decide +kernel⟩
theorem mX7_thrown : MOK yX7_thrown cX7_thrown 1 (some .int) 0 := ⟨mG (i := 73) (by decide +kernel) rfl, mG (i := 1338) (by decide +kernel) rfl, by decide +kernel, by decide +kernel⟩
theorem vX7_thrown : VOK yX7_thrown := ⟨mG (i := 1336) (by decide +kernel) rfl, mG (i := 1337) (by decide +kernel) rfl⟩
theorem mX7_fails : MOK yX7_fails cX7_fails 2 (some .boolean) 1 := ⟨mG (i := 73) (by decide +kernel) rfl, mG (i := 1349) (by decide +kernel) rfl, by decide +kernel, by decide +kernel⟩
theorem vX7_fails : VOK yX7_fails := ⟨mG (i := 1348) (by decide +kernel) rfl, mG (i := 40) (by decide +kernel) rfl⟩
theorem mX7_in : MOK yX7_in cX7_in 3 (some .boolean) 3 := ⟨mG (i := 73) (by decide +kernel) rfl, mG (i := 1345) (by decide +kernel) rfl, by decide +kernel, by decide +kernel⟩
theorem sX7_in : Cond.static yX7_in ∈ GW := mG (i := 1344) (by decide +kernel) rfl
theorem mX7_empties : MOK yX7_empties cX7_empties 2 none 0 := ⟨mG (i := 73) (by decide +kernel) rfl, mG (i := 1184) (by decide +kernel) rfl, by decide +kernel, by decide +kernel⟩
theorem vX7_empties : VOK yX7_empties := ⟨mG (i := 1183) (by decide +kernel) rfl, mG (i := 39) (by decide +kernel) rfl⟩
theorem mX7_columns : MOK yX7_columns cX7_columns 1 (some .int) 0 := ⟨mG (i := 73) (by decide +kernel) rfl, mG (i := 1419) (by decide +kernel) rfl, by decide +kernel, by decide +kernel⟩
theorem vX7_columns : VOK yX7_columns := ⟨mG (i := 1418) (by decide +kernel) rfl, mG (i := 48) (by decide +kernel) rfl⟩
theorem mX7_isBad : MOK yX7_isBad cX7_isBad 3 (some .boolean) 2 := ⟨mG (i := 73) (by decide +kernel) rfl, mG (i := 1423) (by decide +kernel) rfl, by decide +kernel, by decide +kernel⟩
theorem vX7_isBad : VOK yX7_isBad := ⟨mG (i := 1422) (by decide +kernel) rfl, mG (i := 49) (by decide +kernel) rfl⟩
theorem mX7_setCloth : MOK yX7_setCloth cX7_setCloth 5 (some .int) 3 := ⟨mG (i := 73) (by decide +kernel) rfl, mG (i := 1342) (by decide +kernel) rfl, by decide +kernel, by decide +kernel⟩
theorem vX7_setCloth : VOK yX7_setCloth := ⟨mG (i := 1340) (by decide +kernel) rfl, mG (i := 1341) (by decide +kernel) rfl⟩
theorem mX7_fold : MOK yX7_fold cX7_fold 3 (some .boolean) 1 := ⟨mG (i := 73) (by decide +kernel) rfl, mG (i := 1353) (by decide +kernel) rfl, by decide +kernel, by decide +kernel⟩
theorem vX7_fold : VOK yX7_fold := ⟨mG (i := 1351) (by decide +kernel) rfl, mG (i := 1352) (by decide +kernel) rfl⟩
theorem mX7_isUnderPiece : MOK yX7_isUnderPiece cX7_isUnderPiece 4 (some .boolean) 2 := ⟨mG (i := 73) (by decide +kernel) rfl, mG (i := 1361) (by decide +kernel) rfl, by decide +kernel, by decide +kernel⟩
theorem vX7_isUnderPiece : VOK yX7_isUnderPiece := ⟨mG (i := 1360) (by decide +kernel) rfl, mG (i := 41) (by decide +kernel) rfl⟩
theorem mX7_addFlaw : MOK yX7_addFlaw cX7_addFlaw 4 (some .int) 2 := ⟨mG (i := 73) (by decide +kernel) rfl, mG (i := 1357) (by decide +kernel) rfl, by decide +kernel, by decide +kernel⟩
theorem vX7_addFlaw : VOK yX7_addFlaw := ⟨mG (i := 1355) (by decide +kernel) rfl, mG (i := 1356) (by decide +kernel) rfl⟩
theorem mX7_clearFlaws : MOK yX7_clearFlaws cX7_clearFlaws 3 (some .int) 0 := ⟨mG (i := 73) (by decide +kernel) rfl, mG (i := 1365) (by decide +kernel) rfl, by decide +kernel, by decide +kernel⟩
theorem vX7_clearFlaws : VOK yX7_clearFlaws := ⟨mG (i := 1363) (by decide +kernel) rfl, mG (i := 1364) (by decide +kernel) rfl⟩
theorem mX7_isShape : MOK yX7_isShape cX7_isShape 2 (some .boolean) 1 := ⟨mG (i := 73) (by decide +kernel) rfl, mG (i := 1377) (by decide +kernel) rfl, by decide +kernel, by decide +kernel⟩
theorem vX7_isShape : VOK yX7_isShape := ⟨mG (i := 1376) (by decide +kernel) rfl, mG (i := 42) (by decide +kernel) rfl⟩
theorem mX7_addShape : MOK yX7_addShape cX7_addShape 4 (some .int) 2 := ⟨mG (i := 73) (by decide +kernel) rfl, mG (i := 1369) (by decide +kernel) rfl, by decide +kernel, by decide +kernel⟩
theorem vX7_addShape : VOK yX7_addShape := ⟨mG (i := 1367) (by decide +kernel) rfl, mG (i := 1368) (by decide +kernel) rfl⟩
theorem mX7_isLaid : MOK yX7_isLaid cX7_isLaid 4 (some .boolean) 1 := ⟨mG (i := 73) (by decide +kernel) rfl, mG (i := 1381) (by decide +kernel) rfl, by decide +kernel, by decide +kernel⟩
theorem vX7_isLaid : VOK yX7_isLaid := ⟨mG (i := 1380) (by decide +kernel) rfl, mG (i := 43) (by decide +kernel) rfl⟩
theorem mX7_addCell : MOK yX7_addCell cX7_addCell 6 (some .int) 3 := ⟨mG (i := 73) (by decide +kernel) rfl, mG (i := 1373) (by decide +kernel) rfl, by decide +kernel, by decide +kernel⟩
theorem vX7_addCell : VOK yX7_addCell := ⟨mG (i := 1371) (by decide +kernel) rfl, mG (i := 1372) (by decide +kernel) rfl⟩
theorem mX7_setMark : MOK yX7_setMark cX7_setMark 7 (some .int) 4 := ⟨mG (i := 73) (by decide +kernel) rfl, mG (i := 1385) (by decide +kernel) rfl, by decide +kernel, by decide +kernel⟩
theorem vX7_setMark : VOK yX7_setMark := ⟨mG (i := 1383) (by decide +kernel) rfl, mG (i := 1384) (by decide +kernel) rfl⟩
theorem mX7_cellsOf : MOK yX7_cellsOf cX7_cellsOf 2 (some .int) 1 := ⟨mG (i := 73) (by decide +kernel) rfl, mG (i := 1389) (by decide +kernel) rfl, by decide +kernel, by decide +kernel⟩
theorem vX7_cellsOf : VOK yX7_cellsOf := ⟨mG (i := 1387) (by decide +kernel) rfl, mG (i := 1388) (by decide +kernel) rfl⟩
theorem mX7_turnedRow : MOK yX7_turnedRow cX7_turnedRow 3 (some .int) 3 := ⟨mG (i := 73) (by decide +kernel) rfl, mG (i := 1408) (by decide +kernel) rfl, by decide +kernel, by decide +kernel⟩
theorem sX7_turnedRow : Cond.static yX7_turnedRow ∈ GW := mG (i := 1407) (by decide +kernel) rfl
theorem mX7_turnedColumn : MOK yX7_turnedColumn cX7_turnedColumn 3 (some .int) 3 := ⟨mG (i := 73) (by decide +kernel) rfl, mG (i := 1411) (by decide +kernel) rfl, by decide +kernel, by decide +kernel⟩
theorem sX7_turnedColumn : Cond.static yX7_turnedColumn ∈ GW := mG (i := 1410) (by decide +kernel) rfl
theorem mX7_turns : MOK yX7_turns cX7_turns 8 none 3 := ⟨mG (i := 73) (by decide +kernel) rfl, mG (i := 1405) (by decide +kernel) rfl, by decide +kernel, by decide +kernel⟩
theorem vX7_turns : VOK yX7_turns := ⟨mG (i := 1404) (by decide +kernel) rfl, mG (i := 46) (by decide +kernel) rfl⟩
theorem mX7_mayTurn : MOK yX7_mayTurn cX7_mayTurn 3 (some .boolean) 2 := ⟨mG (i := 73) (by decide +kernel) rfl, mG (i := 1401) (by decide +kernel) rfl, by decide +kernel, by decide +kernel⟩
theorem vX7_mayTurn : VOK yX7_mayTurn := ⟨mG (i := 1400) (by decide +kernel) rfl, mG (i := 45) (by decide +kernel) rfl⟩
theorem mX7_isMarked : MOK yX7_isMarked cX7_isMarked 2 (some .boolean) 1 := ⟨mG (i := 73) (by decide +kernel) rfl, mG (i := 1427) (by decide +kernel) rfl, by decide +kernel, by decide +kernel⟩
theorem vX7_isMarked : VOK yX7_isMarked := ⟨mG (i := 1426) (by decide +kernel) rfl, mG (i := 50) (by decide +kernel) rfl⟩
theorem mX7_remainder : MOK yX7_remainder cX7_remainder 3 (some .int) 1 := ⟨mG (i := 73) (by decide +kernel) rfl, mG (i := 1431) (by decide +kernel) rfl, by decide +kernel, by decide +kernel⟩
theorem vX7_remainder : VOK yX7_remainder := ⟨mG (i := 1430) (by decide +kernel) rfl, mG (i := 51) (by decide +kernel) rfl⟩
theorem mX7_worst : MOK yX7_worst cX7_worst 8 (some .int) 2 := ⟨mG (i := 73) (by decide +kernel) rfl, mG (i := 1415) (by decide +kernel) rfl, by decide +kernel, by decide +kernel⟩
theorem vX7_worst : VOK yX7_worst := ⟨mG (i := 1414) (by decide +kernel) rfl, mG (i := 47) (by decide +kernel) rfl⟩
theorem mX7_reasonFor : MOK yX7_reasonFor cX7_reasonFor 8 (some .char) 5 := ⟨mG (i := 73) (by decide +kernel) rfl, mG (i := 1397) (by decide +kernel) rfl, by decide +kernel, by decide +kernel⟩
theorem vX7_reasonFor : VOK yX7_reasonFor := ⟨mG (i := 1396) (by decide +kernel) rfl, mG (i := 44) (by decide +kernel) rfl⟩
theorem mX7_puts : MOK yX7_puts cX7_puts 7 (some .int) 5 := ⟨mG (i := 73) (by decide +kernel) rfl, mG (i := 1435) (by decide +kernel) rfl, by decide +kernel, by decide +kernel⟩
theorem vX7_puts : VOK yX7_puts := ⟨mG (i := 1434) (by decide +kernel) rfl, mG (i := 52) (by decide +kernel) rfl⟩
theorem mX7_takes : MOK yX7_takes cX7_takes 4 none 1 := ⟨mG (i := 73) (by decide +kernel) rfl, mG (i := 1459) (by decide +kernel) rfl, by decide +kernel, by decide +kernel⟩
theorem vX7_takes : VOK yX7_takes := ⟨mG (i := 1458) (by decide +kernel) rfl, mG (i := 55) (by decide +kernel) rfl⟩
theorem mX7_lay : MOK yX7_lay cX7_lay 6 (some .int) 5 := ⟨mG (i := 73) (by decide +kernel) rfl, mG (i := 1393) (by decide +kernel) rfl, by decide +kernel, by decide +kernel⟩
theorem vX7_lay : VOK yX7_lay := ⟨mG (i := 1391) (by decide +kernel) rfl, mG (i := 1392) (by decide +kernel) rfl⟩
theorem mX7_reason : MOK yX7_reason cX7_reason 6 (some .char) 5 := ⟨mG (i := 73) (by decide +kernel) rfl, mG (i := 1439) (by decide +kernel) rfl, by decide +kernel, by decide +kernel⟩
theorem vX7_reason : VOK yX7_reason := ⟨mG (i := 1437) (by decide +kernel) rfl, mG (i := 1438) (by decide +kernel) rfl⟩
theorem mX7_isNested : MOK yX7_isNested cX7_isNested 4 (some .boolean) 2 := ⟨mG (i := 73) (by decide +kernel) rfl, mG (i := 1447) (by decide +kernel) rfl, by decide +kernel, by decide +kernel⟩
theorem vX7_isNested : VOK yX7_isNested := ⟨mG (i := 1446) (by decide +kernel) rfl, mG (i := 53) (by decide +kernel) rfl⟩
theorem mX7_nest : MOK yX7_nest cX7_nest 3 (some .int) 2 := ⟨mG (i := 73) (by decide +kernel) rfl, mG (i := 1443) (by decide +kernel) rfl, by decide +kernel, by decide +kernel⟩
theorem vX7_nest : VOK yX7_nest := ⟨mG (i := 1441) (by decide +kernel) rfl, mG (i := 1442) (by decide +kernel) rfl⟩
theorem mX7_placeOf : MOK yX7_placeOf cX7_placeOf 4 (some .int) 1 := ⟨mG (i := 73) (by decide +kernel) rfl, mG (i := 1455) (by decide +kernel) rfl, by decide +kernel, by decide +kernel⟩
theorem vX7_placeOf : VOK yX7_placeOf := ⟨mG (i := 1454) (by decide +kernel) rfl, mG (i := 54) (by decide +kernel) rfl⟩
theorem mX7_longest : MOK yX7_longest cX7_longest 3 (some .int) 0 := ⟨mG (i := 73) (by decide +kernel) rfl, mG (i := 1463) (by decide +kernel) rfl, by decide +kernel, by decide +kernel⟩
theorem vX7_longest : VOK yX7_longest := ⟨mG (i := 1462) (by decide +kernel) rfl, mG (i := 56) (by decide +kernel) rfl⟩
theorem mX7_takeOff : MOK yX7_takeOff cX7_takeOff 2 (some .int) 1 := ⟨mG (i := 73) (by decide +kernel) rfl, mG (i := 1451) (by decide +kernel) rfl, by decide +kernel, by decide +kernel⟩
theorem vX7_takeOff : VOK yX7_takeOff := ⟨mG (i := 1449) (by decide +kernel) rfl, mG (i := 1450) (by decide +kernel) rfl⟩
theorem mX7_clear : MOK yX7_clear cX7_clear 2 (some .int) 0 := ⟨mG (i := 73) (by decide +kernel) rfl, mG (i := 1467) (by decide +kernel) rfl, by decide +kernel, by decide +kernel⟩
theorem vX7_clear : VOK yX7_clear := ⟨mG (i := 1465) (by decide +kernel) rfl, mG (i := 1466) (by decide +kernel) rfl⟩
theorem mX7_inMarker : MOK yX7_inMarker cX7_inMarker 1 (some .int) 0 := ⟨mG (i := 73) (by decide +kernel) rfl, mG (i := 1471) (by decide +kernel) rfl, by decide +kernel, by decide +kernel⟩
theorem vX7_inMarker : VOK yX7_inMarker := ⟨mG (i := 1469) (by decide +kernel) rfl, mG (i := 1470) (by decide +kernel) rfl⟩
theorem mX7_rowOf : MOK yX7_rowOf cX7_rowOf 2 (some .int) 1 := ⟨mG (i := 73) (by decide +kernel) rfl, mG (i := 1475) (by decide +kernel) rfl, by decide +kernel, by decide +kernel⟩
theorem vX7_rowOf : VOK yX7_rowOf := ⟨mG (i := 1473) (by decide +kernel) rfl, mG (i := 1474) (by decide +kernel) rfl⟩
theorem mX7_columnOf : MOK yX7_columnOf cX7_columnOf 2 (some .int) 1 := ⟨mG (i := 73) (by decide +kernel) rfl, mG (i := 1479) (by decide +kernel) rfl, by decide +kernel, by decide +kernel⟩
theorem vX7_columnOf : VOK yX7_columnOf := ⟨mG (i := 1477) (by decide +kernel) rfl, mG (i := 1478) (by decide +kernel) rfl⟩
theorem mX7_turnsOf : MOK yX7_turnsOf cX7_turnsOf 2 (some .int) 1 := ⟨mG (i := 73) (by decide +kernel) rfl, mG (i := 1483) (by decide +kernel) rfl, by decide +kernel, by decide +kernel⟩
theorem vX7_turnsOf : VOK yX7_turnsOf := ⟨mG (i := 1481) (by decide +kernel) rfl, mG (i := 1482) (by decide +kernel) rfl⟩
theorem mX7_pieceAt : MOK yX7_pieceAt cX7_pieceAt 4 (some .int) 2 := ⟨mG (i := 73) (by decide +kernel) rfl, mG (i := 1487) (by decide +kernel) rfl, by decide +kernel, by decide +kernel⟩
theorem vX7_pieceAt : VOK yX7_pieceAt := ⟨mG (i := 1485) (by decide +kernel) rfl, mG (i := 1486) (by decide +kernel) rfl⟩
theorem mX7_pieceByPieces : MOK yX7_pieceByPieces cX7_pieceByPieces 3 (some .int) 2 := ⟨mG (i := 73) (by decide +kernel) rfl, mG (i := 1491) (by decide +kernel) rfl, by decide +kernel, by decide +kernel⟩
theorem vX7_pieceByPieces : VOK yX7_pieceByPieces := ⟨mG (i := 1489) (by decide +kernel) rfl, mG (i := 1490) (by decide +kernel) rfl⟩
theorem mX7_length : MOK yX7_length cX7_length 1 (some .int) 0 := ⟨mG (i := 73) (by decide +kernel) rfl, mG (i := 1496) (by decide +kernel) rfl, by decide +kernel, by decide +kernel⟩
theorem vX7_length : VOK yX7_length := ⟨mG (i := 1494) (by decide +kernel) rfl, mG (i := 1495) (by decide +kernel) rfl⟩
theorem mX7_cellsUsed : MOK yX7_cellsUsed cX7_cellsUsed 3 (some .int) 0 := ⟨mG (i := 73) (by decide +kernel) rfl, mG (i := 1504) (by decide +kernel) rfl, by decide +kernel, by decide +kernel⟩
theorem vX7_cellsUsed : VOK yX7_cellsUsed := ⟨mG (i := 1503) (by decide +kernel) rfl, mG (i := 57) (by decide +kernel) rfl⟩
theorem mX7_used : MOK yX7_used cX7_used 1 (some .int) 0 := ⟨mG (i := 73) (by decide +kernel) rfl, mG (i := 1500) (by decide +kernel) rfl, by decide +kernel, by decide +kernel⟩
theorem vX7_used : VOK yX7_used := ⟨mG (i := 1498) (by decide +kernel) rfl, mG (i := 1499) (by decide +kernel) rfl⟩
theorem mX7_phase : MOK yX7_phase cX7_phase 2 (some .int) 1 := ⟨mG (i := 73) (by decide +kernel) rfl, mG (i := 1508) (by decide +kernel) rfl, by decide +kernel, by decide +kernel⟩
theorem vX7_phase : VOK yX7_phase := ⟨mG (i := 1506) (by decide +kernel) rfl, mG (i := 1507) (by decide +kernel) rfl⟩
theorem mX7_isStyle : MOK yX7_isStyle cX7_isStyle 2 (some .boolean) 1 := ⟨mG (i := 73) (by decide +kernel) rfl, mG (i := 1520) (by decide +kernel) rfl, by decide +kernel, by decide +kernel⟩
theorem vX7_isStyle : VOK yX7_isStyle := ⟨mG (i := 1519) (by decide +kernel) rfl, mG (i := 58) (by decide +kernel) rfl⟩
theorem mX7_addStyle : MOK yX7_addStyle cX7_addStyle 1 (some .int) 0 := ⟨mG (i := 73) (by decide +kernel) rfl, mG (i := 1512) (by decide +kernel) rfl, by decide +kernel, by decide +kernel⟩
theorem vX7_addStyle : VOK yX7_addStyle := ⟨mG (i := 1510) (by decide +kernel) rfl, mG (i := 1511) (by decide +kernel) rfl⟩
theorem mX7_takenBy : MOK yX7_takenBy cX7_takenBy 4 (some .int) 1 := ⟨mG (i := 73) (by decide +kernel) rfl, mG (i := 1524) (by decide +kernel) rfl, by decide +kernel, by decide +kernel⟩
theorem vX7_takenBy : VOK yX7_takenBy := ⟨mG (i := 1523) (by decide +kernel) rfl, mG (i := 59) (by decide +kernel) rfl⟩
theorem mX7_addPart : MOK yX7_addPart cX7_addPart 5 (some .int) 3 := ⟨mG (i := 73) (by decide +kernel) rfl, mG (i := 1516) (by decide +kernel) rfl, by decide +kernel, by decide +kernel⟩
theorem vX7_addPart : VOK yX7_addPart := ⟨mG (i := 1514) (by decide +kernel) rfl, mG (i := 1515) (by decide +kernel) rfl⟩
theorem mX7_piecesFor : MOK yX7_piecesFor cX7_piecesFor 2 (some .int) 1 := ⟨mG (i := 73) (by decide +kernel) rfl, mG (i := 1528) (by decide +kernel) rfl, by decide +kernel, by decide +kernel⟩
theorem vX7_piecesFor : VOK yX7_piecesFor := ⟨mG (i := 1526) (by decide +kernel) rfl, mG (i := 1527) (by decide +kernel) rfl⟩
theorem mX7_queues : MOK yX7_queues cX7_queues 8 (some .boolean) 1 := ⟨mG (i := 73) (by decide +kernel) rfl, mG (i := 1536) (by decide +kernel) rfl, by decide +kernel, by decide +kernel⟩
theorem vX7_queues : VOK yX7_queues := ⟨mG (i := 1535) (by decide +kernel) rfl, mG (i := 60) (by decide +kernel) rfl⟩
theorem mX7_tries : MOK yX7_tries cX7_tries 4 none 1 := ⟨mG (i := 73) (by decide +kernel) rfl, mG (i := 1544) (by decide +kernel) rfl, by decide +kernel, by decide +kernel⟩
theorem vX7_tries : VOK yX7_tries := ⟨mG (i := 1543) (by decide +kernel) rfl, mG (i := 62) (by decide +kernel) rfl⟩
theorem mX7_leastLength : MOK yX7_leastLength cX7_leastLength 5 (some .int) 0 := ⟨mG (i := 73) (by decide +kernel) rfl, mG (i := 1540) (by decide +kernel) rfl, by decide +kernel, by decide +kernel⟩
theorem vX7_leastLength : VOK yX7_leastLength := ⟨mG (i := 1539) (by decide +kernel) rfl, mG (i := 61) (by decide +kernel) rfl⟩
theorem mX7_nestedLength : MOK yX7_nestedLength cX7_nestedLength 3 (some .int) 1 := ⟨mG (i := 73) (by decide +kernel) rfl, mG (i := 1532) (by decide +kernel) rfl, by decide +kernel, by decide +kernel⟩
theorem vX7_nestedLength : VOK yX7_nestedLength := ⟨mG (i := 1530) (by decide +kernel) rfl, mG (i := 1531) (by decide +kernel) rfl⟩
theorem mX7_nestedByTrying : MOK yX7_nestedByTrying cX7_nestedByTrying 2 (some .int) 1 := ⟨mG (i := 73) (by decide +kernel) rfl, mG (i := 1548) (by decide +kernel) rfl, by decide +kernel, by decide +kernel⟩
theorem vX7_nestedByTrying : VOK yX7_nestedByTrying := ⟨mG (i := 1546) (by decide +kernel) rfl, mG (i := 1547) (by decide +kernel) rfl⟩
theorem mX7_addCloth : MOK yX7_addCloth cX7_addCloth 2 (some .int) 1 := ⟨mG (i := 73) (by decide +kernel) rfl, mG (i := 1553) (by decide +kernel) rfl, by decide +kernel, by decide +kernel⟩
theorem vX7_addCloth : VOK yX7_addCloth := ⟨mG (i := 1551) (by decide +kernel) rfl, mG (i := 1552) (by decide +kernel) rfl⟩
theorem mX7_roll : MOK yX7_roll cX7_roll 1 (some .int) 0 := ⟨mG (i := 73) (by decide +kernel) rfl, mG (i := 1558) (by decide +kernel) rfl, by decide +kernel, by decide +kernel⟩
theorem vX7_roll : VOK yX7_roll := ⟨mG (i := 1556) (by decide +kernel) rfl, mG (i := 1557) (by decide +kernel) rfl⟩
theorem mX7_givenBy : MOK yX7_givenBy cX7_givenBy 7 (some .int) 2 := ⟨mG (i := 73) (by decide +kernel) rfl, mG (i := 1574) (by decide +kernel) rfl, by decide +kernel, by decide +kernel⟩
theorem vX7_givenBy : VOK yX7_givenBy := ⟨mG (i := 1573) (by decide +kernel) rfl, mG (i := 65) (by decide +kernel) rfl⟩
theorem mX7_isMuch : MOK yX7_isMuch cX7_isMuch 4 (some .boolean) 1 := ⟨mG (i := 73) (by decide +kernel) rfl, mG (i := 1570) (by decide +kernel) rfl, by decide +kernel, by decide +kernel⟩
theorem vX7_isMuch : VOK yX7_isMuch := ⟨mG (i := 1569) (by decide +kernel) rfl, mG (i := 64) (by decide +kernel) rfl⟩
theorem mX7_takenFromRoll : MOK yX7_takenFromRoll cX7_takenFromRoll 2 (some .int) 1 := ⟨mG (i := 73) (by decide +kernel) rfl, mG (i := 1566) (by decide +kernel) rfl, by decide +kernel, by decide +kernel⟩
theorem vX7_takenFromRoll : VOK yX7_takenFromRoll := ⟨mG (i := 1565) (by decide +kernel) rfl, mG (i := 63) (by decide +kernel) rfl⟩
theorem mX7_spread : MOK yX7_spread cX7_spread 4 (some .int) 1 := ⟨mG (i := 73) (by decide +kernel) rfl, mG (i := 1562) (by decide +kernel) rfl, by decide +kernel, by decide +kernel⟩
theorem vX7_spread : VOK yX7_spread := ⟨mG (i := 1560) (by decide +kernel) rfl, mG (i := 1561) (by decide +kernel) rfl⟩
theorem mX7_pieces : MOK yX7_pieces cX7_pieces 3 (some .int) 2 := ⟨mG (i := 73) (by decide +kernel) rfl, mG (i := 1578) (by decide +kernel) rfl, by decide +kernel, by decide +kernel⟩
theorem vX7_pieces : VOK yX7_pieces := ⟨mG (i := 1576) (by decide +kernel) rfl, mG (i := 1577) (by decide +kernel) rfl⟩
theorem mX7_makes : MOK yX7_makes cX7_makes 8 (some .int) 2 := ⟨mG (i := 73) (by decide +kernel) rfl, mG (i := 1586) (by decide +kernel) rfl, by decide +kernel, by decide +kernel⟩
theorem vX7_makes : VOK yX7_makes := ⟨mG (i := 1585) (by decide +kernel) rfl, mG (i := 66) (by decide +kernel) rfl⟩
theorem mX7_canMake : MOK yX7_canMake cX7_canMake 2 (some .int) 1 := ⟨mG (i := 73) (by decide +kernel) rfl, mG (i := 1582) (by decide +kernel) rfl, by decide +kernel, by decide +kernel⟩
theorem vX7_canMake : VOK yX7_canMake := ⟨mG (i := 1580) (by decide +kernel) rfl, mG (i := 1581) (by decide +kernel) rfl⟩
theorem mX7_canMakeByTaking : MOK yX7_canMakeByTaking cX7_canMakeByTaking 2 (some .int) 1 := ⟨mG (i := 73) (by decide +kernel) rfl, mG (i := 1591) (by decide +kernel) rfl, by decide +kernel, by decide +kernel⟩
theorem vX7_canMakeByTaking : VOK yX7_canMakeByTaking := ⟨mG (i := 1589) (by decide +kernel) rfl, mG (i := 1590) (by decide +kernel) rfl⟩
theorem mX7_make : MOK yX7_make cX7_make 5 (some .int) 2 := ⟨mG (i := 73) (by decide +kernel) rfl, mG (i := 1596) (by decide +kernel) rfl, by decide +kernel, by decide +kernel⟩
theorem vX7_make : VOK yX7_make := ⟨mG (i := 1594) (by decide +kernel) rfl, mG (i := 1595) (by decide +kernel) rfl⟩
theorem mX7_made : MOK yX7_made cX7_made 2 (some .int) 1 := ⟨mG (i := 73) (by decide +kernel) rfl, mG (i := 1600) (by decide +kernel) rfl, by decide +kernel, by decide +kernel⟩
theorem vX7_made : VOK yX7_made := ⟨mG (i := 1598) (by decide +kernel) rfl, mG (i := 1599) (by decide +kernel) rfl⟩
theorem mX7_pliesFor : MOK yX7_pliesFor cX7_pliesFor 4 (some .int) 2 := ⟨mG (i := 73) (by decide +kernel) rfl, mG (i := 1604) (by decide +kernel) rfl, by decide +kernel, by decide +kernel⟩
theorem vX7_pliesFor : VOK yX7_pliesFor := ⟨mG (i := 1602) (by decide +kernel) rfl, mG (i := 1603) (by decide +kernel) rfl⟩
theorem mX7_cut : MOK yX7_cut cX7_cut 1 (some .long) 0 := ⟨mG (i := 73) (by decide +kernel) rfl, mG (i := 1608) (by decide +kernel) rfl, by decide +kernel, by decide +kernel⟩
theorem vX7_cut : VOK yX7_cut := ⟨mG (i := 1606) (by decide +kernel) rfl, mG (i := 1607) (by decide +kernel) rfl⟩
theorem mX7_density : MOK yX7_density cX7_density 1 (some .float) 0 := ⟨mG (i := 73) (by decide +kernel) rfl, mG (i := 1612) (by decide +kernel) rfl, by decide +kernel, by decide +kernel⟩
theorem vX7_density : VOK yX7_density := ⟨mG (i := 1610) (by decide +kernel) rfl, mG (i := 1611) (by decide +kernel) rfl⟩
theorem mX7_meanCells : MOK yX7_meanCells cX7_meanCells 1 (some .double) 0 := ⟨mG (i := 73) (by decide +kernel) rfl, mG (i := 1616) (by decide +kernel) rfl, by decide +kernel, by decide +kernel⟩
theorem vX7_meanCells : VOK yX7_meanCells := ⟨mG (i := 1614) (by decide +kernel) rfl, mG (i := 1615) (by decide +kernel) rfl⟩
theorem mX7_isSound : MOK yX7_isSound cX7_isSound 5 (some .boolean) 0 := ⟨mG (i := 73) (by decide +kernel) rfl, mG (i := 1620) (by decide +kernel) rfl, by decide +kernel, by decide +kernel⟩
theorem vX7_isSound : VOK yX7_isSound := ⟨mG (i := 1618) (by decide +kernel) rfl, mG (i := 1619) (by decide +kernel) rfl⟩
theorem mJ9_floorMod_7cf53 : MOK yJ9_floorMod_7cf53 cJ9_floorMod_7cf53 3 (some .int) 2 := ⟨mG (i := 85) (by decide +kernel) rfl, mG (i := 744) (by decide +kernel) rfl, by decide +kernel, by decide +kernel⟩
theorem sJ9_floorMod_7cf53 : Cond.static yJ9_floorMod_7cf53 ∈ GW := mG (i := 743) (by decide +kernel) rfl
theorem mJ9_max_7cf53 : MOK yJ9_max_7cf53 cJ9_max_7cf53 2 (some .int) 2 := ⟨mG (i := 85) (by decide +kernel) rfl, mG (i := 844) (by decide +kernel) rfl, by decide +kernel, by decide +kernel⟩
theorem sJ9_max_7cf53 : Cond.static yJ9_max_7cf53 ∈ GW := mG (i := 843) (by decide +kernel) rfl
theorem mJ9_min_7cf53 : MOK yJ9_min_7cf53 cJ9_min_7cf53 2 (some .int) 2 := ⟨mG (i := 85) (by decide +kernel) rfl, mG (i := 989) (by decide +kernel) rfl, by decide +kernel, by decide +kernel⟩
theorem sJ9_min_7cf53 : Cond.static yJ9_min_7cf53 ∈ GW := mG (i := 988) (by decide +kernel) rfl
theorem mJ7_fill_53178 : MOK yJ7_fill_53178 cJ7_fill_53178 4 none 2 := ⟨mG (i := 72) (by decide +kernel) rfl, mG (i := 176) (by decide +kernel) rfl, by decide +kernel, by decide +kernel⟩
theorem sJ7_fill_53178 : Cond.static yJ7_fill_53178 ∈ GW := mG (i := 175) (by decide +kernel) rfl
theorem sL_setCloth : Cond.static yL_setCloth ∈ GW := mG (i := 341) (by decide +kernel) rfl
theorem sL_fold : Cond.static yL_fold ∈ GW := mG (i := 441) (by decide +kernel) rfl
theorem sL_addFlaw : Cond.static yL_addFlaw ∈ GW := mG (i := 453) (by decide +kernel) rfl
theorem sL_addShape : Cond.static yL_addShape ∈ GW := mG (i := 496) (by decide +kernel) rfl
theorem sL_addCell : Cond.static yL_addCell ∈ GW := mG (i := 583) (by decide +kernel) rfl
theorem sL_setMark : Cond.static yL_setMark ∈ GW := mG (i := 680) (by decide +kernel) rfl
theorem sL_cellsOf : Cond.static yL_cellsOf ∈ GW := mG (i := 693) (by decide +kernel) rfl
theorem sL_lay : Cond.static yL_lay ∈ GW := mG (i := 700) (by decide +kernel) rfl
theorem sL_reason : Cond.static yL_reason ∈ GW := mG (i := 769) (by decide +kernel) rfl
theorem sL_nest : Cond.static yL_nest ∈ GW := mG (i := 776) (by decide +kernel) rfl
theorem sL_takeOff : Cond.static yL_takeOff ∈ GW := mG (i := 811) (by decide +kernel) rfl
theorem sL_rowOf : Cond.static yL_rowOf ∈ GW := mG (i := 846) (by decide +kernel) rfl
theorem sL_columnOf : Cond.static yL_columnOf ∈ GW := mG (i := 853) (by decide +kernel) rfl
theorem sL_turnsOf : Cond.static yL_turnsOf ∈ GW := mG (i := 860) (by decide +kernel) rfl
theorem sL_pieceAt : Cond.static yL_pieceAt ∈ GW := mG (i := 867) (by decide +kernel) rfl
theorem sL_pieceByPieces : Cond.static yL_pieceByPieces ∈ GW := mG (i := 881) (by decide +kernel) rfl
theorem sL_phase : Cond.static yL_phase ∈ GW := mG (i := 901) (by decide +kernel) rfl
theorem sL_addStyle : Cond.static yL_addStyle ∈ GW := mG (i := 914) (by decide +kernel) rfl
theorem sL_addPart : Cond.static yL_addPart ∈ GW := mG (i := 935) (by decide +kernel) rfl
theorem sL_piecesFor : Cond.static yL_piecesFor ∈ GW := mG (i := 954) (by decide +kernel) rfl
theorem sL_nestedLength : Cond.static yL_nestedLength ∈ GW := mG (i := 961) (by decide +kernel) rfl
theorem sL_nestedByTrying : Cond.static yL_nestedByTrying ∈ GW := mG (i := 1003) (by decide +kernel) rfl
theorem sL_addCloth : Cond.static yL_addCloth ∈ GW := mG (i := 1018) (by decide +kernel) rfl
theorem sL_spread : Cond.static yL_spread ∈ GW := mG (i := 1027) (by decide +kernel) rfl
theorem sL_pieces : Cond.static yL_pieces ∈ GW := mG (i := 1054) (by decide +kernel) rfl
theorem sL_canMake : Cond.static yL_canMake ∈ GW := mG (i := 1062) (by decide +kernel) rfl
theorem sL_canMakeByTaking : Cond.static yL_canMakeByTaking ∈ GW := mG (i := 1087) (by decide +kernel) rfl
theorem sL_make : Cond.static yL_make ∈ GW := mG (i := 1106) (by decide +kernel) rfl
theorem sL_made : Cond.static yL_made ∈ GW := mG (i := 1122) (by decide +kernel) rfl
theorem sL_pliesFor : Cond.static yL_pliesFor ∈ GW := mG (i := 1129) (by decide +kernel) rfl
theorem sL_density : Cond.static yL_density ∈ GW := mG (i := 1145) (by decide +kernel) rfl
theorem sL_meanCells : Cond.static yL_meanCells ∈ GW := mG (i := 1169) (by decide +kernel) rfl
theorem lk_X1_22 : Cond.methodLink RX1 22 yJ7_fill_53178 ∈ GW := mG (i := 174) (by decide +kernel) rfl
theorem lk_L_151 : Cond.methodLink RL 151 yX6_clearFlaws ∈ GW := mG (i := 243) (by decide +kernel) rfl
theorem lk_X6_118 : Cond.methodLink RX6 118 yX0_forgetFlaws ∈ GW := mG (i := 247) (by decide +kernel) rfl
theorem lk_X0_53 : Cond.methodLink RX0 53 yJ7_fill_53178 ∈ GW := mG (i := 251) (by decide +kernel) rfl
theorem lk_X0_35 : Cond.methodLink RX0 35 yX0_spoilRows ∈ GW := mG (i := 252) (by decide +kernel) rfl
theorem lk_X0_59 : Cond.methodLink RX0 59 yX0_reversed ∈ GW := mG (i := 259) (by decide +kernel) rfl
theorem lk_X0_63 : Cond.methodLink RX0 63 yX0_opposite ∈ GW := mG (i := 266) (by decide +kernel) rfl
theorem lk_L_185 : Cond.methodLink RL 185 yX6_clear ∈ GW := mG (i := 273) (by decide +kernel) rfl
theorem lk_X6_223 : Cond.methodLink RX6 223 yX1_empty ∈ GW := mG (i := 277) (by decide +kernel) rfl
theorem lk_L_189 : Cond.methodLink RL 189 yX6_inMarker ∈ GW := mG (i := 281) (by decide +kernel) rfl
theorem lk_L_208 : Cond.methodLink RL 208 yX6_length ∈ GW := mG (i := 285) (by decide +kernel) rfl
theorem lk_X6_219 : Cond.methodLink RX6 219 yX1_rowsUsed ∈ GW := mG (i := 289) (by decide +kernel) rfl
theorem lk_L_212 : Cond.methodLink RL 212 yX6_used ∈ GW := mG (i := 294) (by decide +kernel) rfl
theorem lk_X6_253 : Cond.methodLink RX6 253 yX1_cellsUsed ∈ GW := mG (i := 298) (by decide +kernel) rfl
theorem lk_X1_44 : Cond.methodLink RX1 44 yX1_pieceIn ∈ GW := mG (i := 302) (by decide +kernel) rfl
theorem lk_L_238 : Cond.methodLink RL 238 yX6_roll ∈ GW := mG (i := 306) (by decide +kernel) rfl
theorem lk_L_263 : Cond.methodLink RL 263 yX6_cut ∈ GW := mG (i := 310) (by decide +kernel) rfl
theorem lk_X6_169 : Cond.methodLink RX6 169 yX6_shapeNumbered ∈ GW := mG (i := 314) (by decide +kernel) rfl
theorem lk_L_275 : Cond.methodLink RL 275 yX6_isSound ∈ GW := mG (i := 318) (by decide +kernel) rfl
theorem lk_X6_442 : Cond.methodLink RX6 442 yX1_hasNoOverlap ∈ GW := mG (i := 322) (by decide +kernel) rfl
theorem lk_X1_187 : Cond.methodLink RX1 187 yX1_meetsAnew ∈ GW := mG (i := 326) (by decide +kernel) rfl
theorem lk_X6_445 : Cond.methodLink RX6 445 yX6_inGarments ∈ GW := mG (i := 331) (by decide +kernel) rfl
theorem lk_X6_308 : Cond.methodLink RX6 308 yX6_piecesOfPart ∈ GW := mG (i := 335) (by decide +kernel) rfl
theorem lk_X6_264 : Cond.methodLink RX6 264 yX6_entry ∈ GW := mG (i := 339) (by decide +kernel) rfl
theorem lk_L_134 : Cond.methodLink RL 134 yL_setCloth ∈ GW := mG (i := 340) (by decide +kernel) rfl
theorem lk_L_7 : Cond.methodLink RL 7 yX6_setCloth ∈ GW := mG (i := 345) (by decide +kernel) rfl
theorem lk_X6_48 : Cond.methodLink RX6 48 yX6_isWithin ∈ GW := mG (i := 349) (by decide +kernel) rfl
theorem lk_L_143 : Cond.methodLink RL 143 yL_fold ∈ GW := mG (i := 440) (by decide +kernel) rfl
theorem lk_L_17 : Cond.methodLink RL 17 yX6_fold ∈ GW := mG (i := 443) (by decide +kernel) rfl
theorem lk_X6_86 : Cond.methodLink RX6 86 yX0_foldOrOpen ∈ GW := mG (i := 448) (by decide +kernel) rfl
theorem lk_L_147 : Cond.methodLink RL 147 yL_addFlaw ∈ GW := mG (i := 452) (by decide +kernel) rfl
theorem lk_L_21 : Cond.methodLink RL 21 yX6_addFlaw ∈ GW := mG (i := 456) (by decide +kernel) rfl
theorem lk_X6_92 : Cond.methodLink RX6 92 yX6_isUnderPiece ∈ GW := mG (i := 461) (by decide +kernel) rfl
theorem lk_X6_110 : Cond.methodLink RX6 110 yX1_ownerOf ∈ GW := mG (i := 465) (by decide +kernel) rfl
theorem lk_X6_114 : Cond.methodLink RX6 114 yX0_opposite ∈ GW := mG (i := 469) (by decide +kernel) rfl
theorem lk_X6_101 : Cond.methodLink RX6 101 yX0_isTold ∈ GW := mG (i := 486) (by decide +kernel) rfl
theorem lk_X6_106 : Cond.methodLink RX6 106 yX0_tell ∈ GW := mG (i := 491) (by decide +kernel) rfl
theorem lk_L_155 : Cond.methodLink RL 155 yL_addShape ∈ GW := mG (i := 495) (by decide +kernel) rfl
theorem lk_L_27 : Cond.methodLink RL 27 yX6_addShape ∈ GW := mG (i := 498) (by decide +kernel) rfl
theorem lk_L_159 : Cond.methodLink RL 159 yL_addCell ∈ GW := mG (i := 582) (by decide +kernel) rfl
theorem lk_L_31 : Cond.methodLink RL 31 yX6_addCell ∈ GW := mG (i := 609) (by decide +kernel) rfl
theorem lk_X6_131 : Cond.methodLink RX6 131 yX6_shapeOrThrow ∈ GW := mG (i := 613) (by decide +kernel) rfl
theorem lk_X6_137 : Cond.methodLink RX6 137 yX4_hasCell ∈ GW := mG (i := 631) (by decide +kernel) rfl
theorem lk_X6_142 : Cond.methodLink RX6 142 yX1_holds ∈ GW := mG (i := 638) (by decide +kernel) rfl
theorem lk_X1_183 : Cond.methodLink RX1 183 yX1_countOf ∈ GW := mG (i := 642) (by decide +kernel) rfl
theorem lk_X6_152 : Cond.methodLink RX6 152 yX4_draw ∈ GW := mG (i := 647) (by decide +kernel) rfl
theorem lk_X4_51 : Cond.methodLink RX4 51 yX4_traceAll ∈ GW := mG (i := 652) (by decide +kernel) rfl
theorem lk_X4_60 : Cond.methodLink RX4 60 yX2_trace ∈ GW := mG (i := 656) (by decide +kernel) rfl
theorem lk_X2_23 : Cond.methodLink RX2 23 yJ7_fill_53178 ∈ GW := mG (i := 660) (by decide +kernel) rfl
theorem lk_X2_37 : Cond.methodLink RX2 37 yX2_turnedRow ∈ GW := mG (i := 663) (by decide +kernel) rfl
theorem lk_X2_41 : Cond.methodLink RX2 41 yX2_turnedColumn ∈ GW := mG (i := 667) (by decide +kernel) rfl
theorem lk_X6_449 : Cond.methodLink RX6 449 yX6_hasBit ∈ GW := mG (i := 675) (by decide +kernel) rfl
theorem lk_L_163 : Cond.methodLink RL 163 yL_setMark ∈ GW := mG (i := 679) (by decide +kernel) rfl
theorem lk_L_37 : Cond.methodLink RL 37 yX6_setMark ∈ GW := mG (i := 682) (by decide +kernel) rfl
theorem lk_X6_165 : Cond.methodLink RX6 165 yX4_mark ∈ GW := mG (i := 688) (by decide +kernel) rfl
theorem lk_L_167 : Cond.methodLink RL 167 yL_cellsOf ∈ GW := mG (i := 692) (by decide +kernel) rfl
theorem lk_L_41 : Cond.methodLink RL 41 yX6_cellsOf ∈ GW := mG (i := 695) (by decide +kernel) rfl
theorem lk_L_171 : Cond.methodLink RL 171 yL_lay ∈ GW := mG (i := 699) (by decide +kernel) rfl
theorem lk_L_45 : Cond.methodLink RL 45 yX6_lay ∈ GW := mG (i := 702) (by decide +kernel) rfl
theorem lk_X6_177 : Cond.methodLink RX6 177 yX6_checkTurns ∈ GW := mG (i := 706) (by decide +kernel) rfl
theorem lk_X6_181 : Cond.methodLink RX6 181 yX1_obstacle ∈ GW := mG (i := 710) (by decide +kernel) rfl
theorem lk_X1_55 : Cond.methodLink RX1 55 yX4_outlineFor ∈ GW := mG (i := 714) (by decide +kernel) rfl
theorem lk_X1_70 : Cond.methodLink RX1 70 yX4_canTurn ∈ GW := mG (i := 718) (by decide +kernel) rfl
theorem lk_X1_77 : Cond.methodLink RX1 77 yX4_canMirror ∈ GW := mG (i := 722) (by decide +kernel) rfl
theorem lk_X1_81 : Cond.methodLink RX1 81 yX0_reaches ∈ GW := mG (i := 726) (by decide +kernel) rfl
theorem lk_X0_75 : Cond.methodLink RX0 75 yX0_openColumns ∈ GW := mG (i := 731) (by decide +kernel) rfl
theorem lk_X1_88 : Cond.methodLink RX1 88 yX1_meetsAny ∈ GW := mG (i := 735) (by decide +kernel) rfl
theorem lk_X1_100 : Cond.methodLink RX1 100 yX0_remainder ∈ GW := mG (i := 738) (by decide +kernel) rfl
theorem lk_X0_29 : Cond.methodLink RX0 29 yJ9_floorMod_7cf53 ∈ GW := mG (i := 742) (by decide +kernel) rfl
theorem lk_X1_103 : Cond.methodLink RX1 103 yX1_stripesMeet ∈ GW := mG (i := 745) (by decide +kernel) rfl
theorem lk_X6_187 : Cond.methodLink RX6 187 yX1_isFull ∈ GW := mG (i := 750) (by decide +kernel) rfl
theorem lk_X6_193 : Cond.methodLink RX6 193 yX1_put ∈ GW := mG (i := 755) (by decide +kernel) rfl
theorem lk_X1_152 : Cond.methodLink RX1 152 yX1_cover ∈ GW := mG (i := 759) (by decide +kernel) rfl
theorem lk_X1_156 : Cond.methodLink RX1 156 yX1_join ∈ GW := mG (i := 764) (by decide +kernel) rfl
theorem lk_L_175 : Cond.methodLink RL 175 yL_reason ∈ GW := mG (i := 768) (by decide +kernel) rfl
theorem lk_L_49 : Cond.methodLink RL 49 yX6_reason ∈ GW := mG (i := 771) (by decide +kernel) rfl
theorem lk_L_178 : Cond.methodLink RL 178 yL_nest ∈ GW := mG (i := 775) (by decide +kernel) rfl
theorem lk_L_53 : Cond.methodLink RL 53 yX6_nest ∈ GW := mG (i := 779) (by decide +kernel) rfl
theorem lk_X6_199 : Cond.methodLink RX6 199 yX1_firstSpot ∈ GW := mG (i := 783) (by decide +kernel) rfl
theorem lk_X1_117 : Cond.methodLink RX1 117 yX0_openColumns ∈ GW := mG (i := 787) (by decide +kernel) rfl
theorem lk_X1_121 : Cond.methodLink RX1 121 yX1_obstacle ∈ GW := mG (i := 788) (by decide +kernel) rfl
theorem lk_X6_208 : Cond.methodLink RX6 208 yX1_putAtSpot ∈ GW := mG (i := 805) (by decide +kernel) rfl
theorem lk_X1_125 : Cond.methodLink RX1 125 yX1_put ∈ GW := mG (i := 809) (by decide +kernel) rfl
theorem lk_L_182 : Cond.methodLink RL 182 yL_takeOff ∈ GW := mG (i := 810) (by decide +kernel) rfl
theorem lk_L_59 : Cond.methodLink RL 59 yX6_takeOff ∈ GW := mG (i := 813) (by decide +kernel) rfl
theorem lk_X6_212 : Cond.methodLink RX6 212 yX6_pieceOrThrow ∈ GW := mG (i := 817) (by decide +kernel) rfl
theorem lk_X6_237 : Cond.methodLink RX6 237 yX1_pieceNumbered ∈ GW := mG (i := 821) (by decide +kernel) rfl
theorem lk_X1_51 : Cond.methodLink RX1 51 yX1_slotOf ∈ GW := mG (i := 825) (by decide +kernel) rfl
theorem lk_X6_216 : Cond.methodLink RX6 216 yX1_remove ∈ GW := mG (i := 830) (by decide +kernel) rfl
theorem lk_X1_167 : Cond.methodLink RX1 167 yX1_leave ∈ GW := mG (i := 834) (by decide +kernel) rfl
theorem lk_X1_171 : Cond.methodLink RX1 171 yX1_moveToEnd ∈ GW := mG (i := 838) (by decide +kernel) rfl
theorem lk_X1_174 : Cond.methodLink RX1 174 yJ9_max_7cf53 ∈ GW := mG (i := 842) (by decide +kernel) rfl
theorem lk_L_193 : Cond.methodLink RL 193 yL_rowOf ∈ GW := mG (i := 845) (by decide +kernel) rfl
theorem lk_L_62 : Cond.methodLink RL 62 yX6_rowOf ∈ GW := mG (i := 848) (by decide +kernel) rfl
theorem lk_L_196 : Cond.methodLink RL 196 yL_columnOf ∈ GW := mG (i := 852) (by decide +kernel) rfl
theorem lk_L_65 : Cond.methodLink RL 65 yX6_columnOf ∈ GW := mG (i := 855) (by decide +kernel) rfl
theorem lk_L_199 : Cond.methodLink RL 199 yL_turnsOf ∈ GW := mG (i := 859) (by decide +kernel) rfl
theorem lk_L_68 : Cond.methodLink RL 68 yX6_turnsOf ∈ GW := mG (i := 862) (by decide +kernel) rfl
theorem lk_L_202 : Cond.methodLink RL 202 yL_pieceAt ∈ GW := mG (i := 866) (by decide +kernel) rfl
theorem lk_L_71 : Cond.methodLink RL 71 yX6_pieceAt ∈ GW := mG (i := 869) (by decide +kernel) rfl
theorem lk_X6_242 : Cond.methodLink RX6 242 yX6_checkCell ∈ GW := mG (i := 873) (by decide +kernel) rfl
theorem lk_X6_245 : Cond.methodLink RX6 245 yX6_numberOrThrow ∈ GW := mG (i := 876) (by decide +kernel) rfl
theorem lk_L_205 : Cond.methodLink RL 205 yL_pieceByPieces ∈ GW := mG (i := 880) (by decide +kernel) rfl
theorem lk_L_74 : Cond.methodLink RL 74 yX6_pieceByPieces ∈ GW := mG (i := 883) (by decide +kernel) rfl
theorem lk_X6_248 : Cond.methodLink RX6 248 yX1_ownerByPieces ∈ GW := mG (i := 887) (by decide +kernel) rfl
theorem lk_X1_180 : Cond.methodLink RX1 180 yX3_covers ∈ GW := mG (i := 891) (by decide +kernel) rfl
theorem lk_X3_20 : Cond.methodLink RX3 20 yX2_hasCell ∈ GW := mG (i := 895) (by decide +kernel) rfl
theorem lk_L_216 : Cond.methodLink RL 216 yL_phase ∈ GW := mG (i := 900) (by decide +kernel) rfl
theorem lk_L_77 : Cond.methodLink RL 77 yX6_phase ∈ GW := mG (i := 903) (by decide +kernel) rfl
theorem lk_X6_258 : Cond.methodLink RX6 258 yX0_isStriped ∈ GW := mG (i := 908) (by decide +kernel) rfl
theorem lk_L_219 : Cond.methodLink RL 219 yL_addStyle ∈ GW := mG (i := 913) (by decide +kernel) rfl
theorem lk_L_80 : Cond.methodLink RL 80 yX6_addStyle ∈ GW := mG (i := 916) (by decide +kernel) rfl
theorem lk_L_223 : Cond.methodLink RL 223 yL_addPart ∈ GW := mG (i := 934) (by decide +kernel) rfl
theorem lk_L_84 : Cond.methodLink RL 84 yX6_addPart ∈ GW := mG (i := 937) (by decide +kernel) rfl
theorem lk_X6_279 : Cond.methodLink RX6 279 yX6_styleOrThrow ∈ GW := mG (i := 941) (by decide +kernel) rfl
theorem lk_X6_293 : Cond.methodLink RX6 293 yX6_store ∈ GW := mG (i := 948) (by decide +kernel) rfl
theorem lk_X6_297 : Cond.methodLink RX6 297 yX6_piecesOfGarment ∈ GW := mG (i := 949) (by decide +kernel) rfl
theorem lk_L_226 : Cond.methodLink RL 226 yL_piecesFor ∈ GW := mG (i := 953) (by decide +kernel) rfl
theorem lk_L_87 : Cond.methodLink RL 87 yX6_piecesFor ∈ GW := mG (i := 956) (by decide +kernel) rfl
theorem lk_L_229 : Cond.methodLink RL 229 yL_nestedLength ∈ GW := mG (i := 960) (by decide +kernel) rfl
theorem lk_L_90 : Cond.methodLink RL 90 yX6_nestedLength ∈ GW := mG (i := 963) (by decide +kernel) rfl
theorem lk_X6_315 : Cond.methodLink RX6 315 yX6_wantPieces ∈ GW := mG (i := 967) (by decide +kernel) rfl
theorem lk_X6_334 : Cond.methodLink RX6 334 yX6_plainToNest ∈ GW := mG (i := 971) (by decide +kernel) rfl
theorem lk_X6_337 : Cond.methodLink RX6 337 yX6_mirroredToNest ∈ GW := mG (i := 975) (by decide +kernel) rfl
theorem lk_X6_340 : Cond.methodLink RX6 340 yX6_kindOf ∈ GW := mG (i := 979) (by decide +kernel) rfl
theorem lk_X6_318 : Cond.methodLink RX6 318 yX6_shortest ∈ GW := mG (i := 983) (by decide +kernel) rfl
theorem lk_X6_327 : Cond.methodLink RX6 327 yJ9_min_7cf53 ∈ GW := mG (i := 987) (by decide +kernel) rfl
theorem lk_X6_346 : Cond.methodLink RX6 346 yX6_shortestWith ∈ GW := mG (i := 990) (by decide +kernel) rfl
theorem lk_X6_350 : Cond.methodLink RX6 350 yX6_nestInTrial ∈ GW := mG (i := 994) (by decide +kernel) rfl
theorem lk_X6_321 : Cond.methodLink RX6 321 yX6_lengthOrThrow ∈ GW := mG (i := 998) (by decide +kernel) rfl
theorem lk_L_232 : Cond.methodLink RL 232 yL_nestedByTrying ∈ GW := mG (i := 1002) (by decide +kernel) rfl
theorem lk_L_93 : Cond.methodLink RL 93 yX6_nestedByTrying ∈ GW := mG (i := 1005) (by decide +kernel) rfl
theorem lk_X6_324 : Cond.methodLink RX6 324 yX6_lengthInOrder ∈ GW := mG (i := 1009) (by decide +kernel) rfl
theorem lk_X6_353 : Cond.methodLink RX6 353 yX6_fillQueue ∈ GW := mG (i := 1013) (by decide +kernel) rfl
theorem lk_L_235 : Cond.methodLink RL 235 yL_addCloth ∈ GW := mG (i := 1017) (by decide +kernel) rfl
theorem lk_L_96 : Cond.methodLink RL 96 yX6_addCloth ∈ GW := mG (i := 1020) (by decide +kernel) rfl
theorem lk_L_242 : Cond.methodLink RL 242 yL_spread ∈ GW := mG (i := 1026) (by decide +kernel) rfl
theorem lk_L_99 : Cond.methodLink RL 99 yX6_spread ∈ GW := mG (i := 1029) (by decide +kernel) rfl
theorem lk_X6_366 : Cond.methodLink RX6 366 yX6_stockHolds ∈ GW := mG (i := 1035) (by decide +kernel) rfl
theorem lk_X6_379 : Cond.methodLink RX6 379 yX6_perPly ∈ GW := mG (i := 1039) (by decide +kernel) rfl
theorem lk_X6_389 : Cond.methodLink RX6 389 yX1_countOf ∈ GW := mG (i := 1043) (by decide +kernel) rfl
theorem lk_X6_372 : Cond.methodLink RX6 372 yX6_cutPlies ∈ GW := mG (i := 1045) (by decide +kernel) rfl
theorem lk_X6_386 : Cond.methodLink RX6 386 yX4_receive ∈ GW := mG (i := 1049) (by decide +kernel) rfl
theorem lk_L_245 : Cond.methodLink RL 245 yL_pieces ∈ GW := mG (i := 1053) (by decide +kernel) rfl
theorem lk_L_102 : Cond.methodLink RL 102 yX6_pieces ∈ GW := mG (i := 1056) (by decide +kernel) rfl
theorem lk_L_248 : Cond.methodLink RL 248 yL_canMake ∈ GW := mG (i := 1061) (by decide +kernel) rfl
theorem lk_L_105 : Cond.methodLink RL 105 yX6_canMake ∈ GW := mG (i := 1064) (by decide +kernel) rfl
theorem lk_X6_394 : Cond.methodLink RX6 394 yX6_styleWithPartsOrThrow ∈ GW := mG (i := 1068) (by decide +kernel) rfl
theorem lk_X6_303 : Cond.methodLink RX6 303 yX5_hasParts ∈ GW := mG (i := 1072) (by decide +kernel) rfl
theorem lk_X6_397 : Cond.methodLink RX6 397 yX6_garmentsInStock ∈ GW := mG (i := 1077) (by decide +kernel) rfl
theorem lk_X6_400 : Cond.methodLink RX6 400 yX4_whole ∈ GW := mG (i := 1081) (by decide +kernel) rfl
theorem lk_X4_69 : Cond.methodLink RX4 69 yJ9_min_7cf53 ∈ GW := mG (i := 1085) (by decide +kernel) rfl
theorem lk_L_251 : Cond.methodLink RL 251 yL_canMakeByTaking ∈ GW := mG (i := 1086) (by decide +kernel) rfl
theorem lk_L_108 : Cond.methodLink RL 108 yX6_canMakeByTaking ∈ GW := mG (i := 1089) (by decide +kernel) rfl
theorem lk_X6_403 : Cond.methodLink RX6 403 yX6_takesGarment ∈ GW := mG (i := 1093) (by decide +kernel) rfl
theorem lk_X6_407 : Cond.methodLink RX6 407 yX6_takesPart ∈ GW := mG (i := 1097) (by decide +kernel) rfl
theorem lk_X6_411 : Cond.methodLink RX6 411 yX6_takesKind ∈ GW := mG (i := 1101) (by decide +kernel) rfl
theorem lk_L_254 : Cond.methodLink RL 254 yL_make ∈ GW := mG (i := 1105) (by decide +kernel) rfl
theorem lk_L_111 : Cond.methodLink RL 111 yX6_make ∈ GW := mG (i := 1108) (by decide +kernel) rfl
theorem lk_X6_414 : Cond.methodLink RX6 414 yX6_checkGarments ∈ GW := mG (i := 1112) (by decide +kernel) rfl
theorem lk_X6_419 : Cond.methodLink RX6 419 yX4_giveAway ∈ GW := mG (i := 1117) (by decide +kernel) rfl
theorem lk_L_257 : Cond.methodLink RL 257 yL_made ∈ GW := mG (i := 1121) (by decide +kernel) rfl
theorem lk_L_114 : Cond.methodLink RL 114 yX6_made ∈ GW := mG (i := 1124) (by decide +kernel) rfl
theorem lk_L_260 : Cond.methodLink RL 260 yL_pliesFor ∈ GW := mG (i := 1128) (by decide +kernel) rfl
theorem lk_L_117 : Cond.methodLink RL 117 yX6_pliesFor ∈ GW := mG (i := 1131) (by decide +kernel) rfl
theorem lk_X6_424 : Cond.methodLink RX6 424 yX6_pliesForPart ∈ GW := mG (i := 1135) (by decide +kernel) rfl
theorem lk_X6_433 : Cond.methodLink RX6 433 yX6_pliesForSort ∈ GW := mG (i := 1139) (by decide +kernel) rfl
theorem lk_X6_430 : Cond.methodLink RX6 430 yJ9_max_7cf53 ∈ GW := mG (i := 1142) (by decide +kernel) rfl
theorem lk_L_268 : Cond.methodLink RL 268 yL_density ∈ GW := mG (i := 1144) (by decide +kernel) rfl
theorem lk_L_120 : Cond.methodLink RL 120 yX6_density ∈ GW := mG (i := 1161) (by decide +kernel) rfl
theorem lk_X6_436 : Cond.methodLink RX6 436 yX0_openColumns ∈ GW := mG (i := 1165) (by decide +kernel) rfl
theorem lk_L_272 : Cond.methodLink RL 272 yL_meanCells ∈ GW := mG (i := 1168) (by decide +kernel) rfl
theorem lk_L_126 : Cond.methodLink RL 126 yX6_meanCells ∈ GW := mG (i := 1171) (by decide +kernel) rfl
theorem lk_X7_106 : Cond.methodLink RX7 106 yX7_empties ∈ GW := mG (i := 1181) (by decide +kernel) rfl
theorem lk_L_140 : Cond.methodLink RL 140 yX7_thrown ∈ GW := mG (i := 1335) (by decide +kernel) rfl
theorem lk_L_139 : Cond.methodLink RL 139 yX7_setCloth ∈ GW := mG (i := 1339) (by decide +kernel) rfl
theorem lk_X7_122 : Cond.methodLink RX7 122 yX7_in ∈ GW := mG (i := 1343) (by decide +kernel) rfl
theorem lk_X7_129 : Cond.methodLink RX7 129 yX7_fails ∈ GW := mG (i := 1346) (by decide +kernel) rfl
theorem lk_L_146 : Cond.methodLink RL 146 yX7_fold ∈ GW := mG (i := 1350) (by decide +kernel) rfl
theorem lk_L_150 : Cond.methodLink RL 150 yX7_addFlaw ∈ GW := mG (i := 1354) (by decide +kernel) rfl
theorem lk_X7_139 : Cond.methodLink RX7 139 yX7_isUnderPiece ∈ GW := mG (i := 1358) (by decide +kernel) rfl
theorem lk_L_154 : Cond.methodLink RL 154 yX7_clearFlaws ∈ GW := mG (i := 1362) (by decide +kernel) rfl
theorem lk_L_158 : Cond.methodLink RL 158 yX7_addShape ∈ GW := mG (i := 1366) (by decide +kernel) rfl
theorem lk_L_162 : Cond.methodLink RL 162 yX7_addCell ∈ GW := mG (i := 1370) (by decide +kernel) rfl
theorem lk_X7_146 : Cond.methodLink RX7 146 yX7_isShape ∈ GW := mG (i := 1374) (by decide +kernel) rfl
theorem lk_X7_149 : Cond.methodLink RX7 149 yX7_isLaid ∈ GW := mG (i := 1378) (by decide +kernel) rfl
theorem lk_L_166 : Cond.methodLink RL 166 yX7_setMark ∈ GW := mG (i := 1382) (by decide +kernel) rfl
theorem lk_L_170 : Cond.methodLink RL 170 yX7_cellsOf ∈ GW := mG (i := 1386) (by decide +kernel) rfl
theorem lk_L_174 : Cond.methodLink RL 174 yX7_lay ∈ GW := mG (i := 1390) (by decide +kernel) rfl
theorem lk_X7_190 : Cond.methodLink RX7 190 yX7_reasonFor ∈ GW := mG (i := 1394) (by decide +kernel) rfl
theorem lk_X7_172 : Cond.methodLink RX7 172 yX7_mayTurn ∈ GW := mG (i := 1398) (by decide +kernel) rfl
theorem lk_X7_175 : Cond.methodLink RX7 175 yX7_turns ∈ GW := mG (i := 1402) (by decide +kernel) rfl
theorem lk_X7_155 : Cond.methodLink RX7 155 yX7_turnedRow ∈ GW := mG (i := 1406) (by decide +kernel) rfl
theorem lk_X7_159 : Cond.methodLink RX7 159 yX7_turnedColumn ∈ GW := mG (i := 1409) (by decide +kernel) rfl
theorem lk_X7_179 : Cond.methodLink RX7 179 yX7_worst ∈ GW := mG (i := 1412) (by decide +kernel) rfl
theorem lk_X7_165 : Cond.methodLink RX7 165 yX7_columns ∈ GW := mG (i := 1416) (by decide +kernel) rfl
theorem lk_X7_169 : Cond.methodLink RX7 169 yX7_isBad ∈ GW := mG (i := 1420) (by decide +kernel) rfl
theorem lk_X7_183 : Cond.methodLink RX7 183 yX7_isMarked ∈ GW := mG (i := 1424) (by decide +kernel) rfl
theorem lk_X7_186 : Cond.methodLink RX7 186 yX7_remainder ∈ GW := mG (i := 1428) (by decide +kernel) rfl
theorem lk_X7_194 : Cond.methodLink RX7 194 yX7_puts ∈ GW := mG (i := 1432) (by decide +kernel) rfl
theorem lk_L_177 : Cond.methodLink RL 177 yX7_reason ∈ GW := mG (i := 1436) (by decide +kernel) rfl
theorem lk_L_181 : Cond.methodLink RL 181 yX7_nest ∈ GW := mG (i := 1440) (by decide +kernel) rfl
theorem lk_X7_207 : Cond.methodLink RX7 207 yX7_isNested ∈ GW := mG (i := 1444) (by decide +kernel) rfl
theorem lk_L_184 : Cond.methodLink RL 184 yX7_takeOff ∈ GW := mG (i := 1448) (by decide +kernel) rfl
theorem lk_X7_211 : Cond.methodLink RX7 211 yX7_placeOf ∈ GW := mG (i := 1452) (by decide +kernel) rfl
theorem lk_X7_214 : Cond.methodLink RX7 214 yX7_takes ∈ GW := mG (i := 1456) (by decide +kernel) rfl
theorem lk_X7_218 : Cond.methodLink RX7 218 yX7_longest ∈ GW := mG (i := 1460) (by decide +kernel) rfl
theorem lk_L_188 : Cond.methodLink RL 188 yX7_clear ∈ GW := mG (i := 1464) (by decide +kernel) rfl
theorem lk_L_192 : Cond.methodLink RL 192 yX7_inMarker ∈ GW := mG (i := 1468) (by decide +kernel) rfl
theorem lk_L_195 : Cond.methodLink RL 195 yX7_rowOf ∈ GW := mG (i := 1472) (by decide +kernel) rfl
theorem lk_L_198 : Cond.methodLink RL 198 yX7_columnOf ∈ GW := mG (i := 1476) (by decide +kernel) rfl
theorem lk_L_201 : Cond.methodLink RL 201 yX7_turnsOf ∈ GW := mG (i := 1480) (by decide +kernel) rfl
theorem lk_L_204 : Cond.methodLink RL 204 yX7_pieceAt ∈ GW := mG (i := 1484) (by decide +kernel) rfl
theorem lk_L_207 : Cond.methodLink RL 207 yX7_pieceByPieces ∈ GW := mG (i := 1488) (by decide +kernel) rfl
theorem lk_X7_221 : Cond.methodLink RX7 221 yX7_pieceAt ∈ GW := mG (i := 1492) (by decide +kernel) rfl
theorem lk_L_211 : Cond.methodLink RL 211 yX7_length ∈ GW := mG (i := 1493) (by decide +kernel) rfl
theorem lk_L_215 : Cond.methodLink RL 215 yX7_used ∈ GW := mG (i := 1497) (by decide +kernel) rfl
theorem lk_X7_224 : Cond.methodLink RX7 224 yX7_cellsUsed ∈ GW := mG (i := 1501) (by decide +kernel) rfl
theorem lk_L_218 : Cond.methodLink RL 218 yX7_phase ∈ GW := mG (i := 1505) (by decide +kernel) rfl
theorem lk_L_222 : Cond.methodLink RL 222 yX7_addStyle ∈ GW := mG (i := 1509) (by decide +kernel) rfl
theorem lk_L_225 : Cond.methodLink RL 225 yX7_addPart ∈ GW := mG (i := 1513) (by decide +kernel) rfl
theorem lk_X7_230 : Cond.methodLink RX7 230 yX7_isStyle ∈ GW := mG (i := 1517) (by decide +kernel) rfl
theorem lk_X7_233 : Cond.methodLink RX7 233 yX7_takenBy ∈ GW := mG (i := 1521) (by decide +kernel) rfl
theorem lk_L_228 : Cond.methodLink RL 228 yX7_piecesFor ∈ GW := mG (i := 1525) (by decide +kernel) rfl
theorem lk_L_231 : Cond.methodLink RL 231 yX7_nestedLength ∈ GW := mG (i := 1529) (by decide +kernel) rfl
theorem lk_X7_245 : Cond.methodLink RX7 245 yX7_queues ∈ GW := mG (i := 1533) (by decide +kernel) rfl
theorem lk_X7_248 : Cond.methodLink RX7 248 yX7_leastLength ∈ GW := mG (i := 1537) (by decide +kernel) rfl
theorem lk_X7_242 : Cond.methodLink RX7 242 yX7_tries ∈ GW := mG (i := 1541) (by decide +kernel) rfl
theorem lk_L_234 : Cond.methodLink RL 234 yX7_nestedByTrying ∈ GW := mG (i := 1545) (by decide +kernel) rfl
theorem lk_X7_251 : Cond.methodLink RX7 251 yX7_nestedLength ∈ GW := mG (i := 1549) (by decide +kernel) rfl
theorem lk_L_237 : Cond.methodLink RL 237 yX7_addCloth ∈ GW := mG (i := 1550) (by decide +kernel) rfl
theorem lk_L_241 : Cond.methodLink RL 241 yX7_roll ∈ GW := mG (i := 1555) (by decide +kernel) rfl
theorem lk_L_244 : Cond.methodLink RL 244 yX7_spread ∈ GW := mG (i := 1559) (by decide +kernel) rfl
theorem lk_X7_262 : Cond.methodLink RX7 262 yX7_takenFromRoll ∈ GW := mG (i := 1563) (by decide +kernel) rfl
theorem lk_X7_265 : Cond.methodLink RX7 265 yX7_isMuch ∈ GW := mG (i := 1567) (by decide +kernel) rfl
theorem lk_X7_258 : Cond.methodLink RX7 258 yX7_givenBy ∈ GW := mG (i := 1571) (by decide +kernel) rfl
theorem lk_L_247 : Cond.methodLink RL 247 yX7_pieces ∈ GW := mG (i := 1575) (by decide +kernel) rfl
theorem lk_L_250 : Cond.methodLink RL 250 yX7_canMake ∈ GW := mG (i := 1579) (by decide +kernel) rfl
theorem lk_X7_275 : Cond.methodLink RX7 275 yX7_makes ∈ GW := mG (i := 1583) (by decide +kernel) rfl
theorem lk_L_253 : Cond.methodLink RL 253 yX7_canMakeByTaking ∈ GW := mG (i := 1588) (by decide +kernel) rfl
theorem lk_X7_278 : Cond.methodLink RX7 278 yX7_canMake ∈ GW := mG (i := 1592) (by decide +kernel) rfl
theorem lk_L_256 : Cond.methodLink RL 256 yX7_make ∈ GW := mG (i := 1593) (by decide +kernel) rfl
theorem lk_L_259 : Cond.methodLink RL 259 yX7_made ∈ GW := mG (i := 1597) (by decide +kernel) rfl
theorem lk_L_262 : Cond.methodLink RL 262 yX7_pliesFor ∈ GW := mG (i := 1601) (by decide +kernel) rfl
theorem lk_L_267 : Cond.methodLink RL 267 yX7_cut ∈ GW := mG (i := 1605) (by decide +kernel) rfl
theorem lk_L_271 : Cond.methodLink RL 271 yX7_density ∈ GW := mG (i := 1609) (by decide +kernel) rfl
theorem lk_L_274 : Cond.methodLink RL 274 yX7_meanCells ∈ GW := mG (i := 1613) (by decide +kernel) rfl
theorem lk_L_279 : Cond.methodLink RL 279 yX7_isSound ∈ GW := mG (i := 1617) (by decide +kernel) rfl
theorem lk_X0_38 : (RX0, 38, yX6_entry, "CuttingRoom") ∈ nestL := List.mem_of_getElem? (i := 0) (by decide +kernel)
theorem lk_X0_42 : (RX0, 42, yX6_hasBit, "CuttingRoom") ∈ nestL := List.mem_of_getElem? (i := 1) (by decide +kernel)
theorem lk_X0_46 : (RX0, 46, yX6_store, "CuttingRoom") ∈ nestL := List.mem_of_getElem? (i := 2) (by decide +kernel)
theorem lk_X1_110 : (RX1, 110, yX6_entry, "CuttingRoom") ∈ nestL := List.mem_of_getElem? (i := 3) (by decide +kernel)
theorem lk_X1_160 : (RX1, 160, yX6_store, "CuttingRoom") ∈ nestL := List.mem_of_getElem? (i := 4) (by decide +kernel)
theorem lk_X4_36 : (RX4, 36, yX6_entry, "CuttingRoom") ∈ nestL := List.mem_of_getElem? (i := 5) (by decide +kernel)
theorem lk_X4_40 : (RX4, 40, yX6_hasBit, "CuttingRoom") ∈ nestL := List.mem_of_getElem? (i := 6) (by decide +kernel)
theorem lk_X4_44 : (RX4, 44, yX6_store, "CuttingRoom") ∈ nestL := List.mem_of_getElem? (i := 7) (by decide +kernel)
theorem lk_X2_29 : (RX2, 29, yX6_entry, "CuttingRoom") ∈ nestL := List.mem_of_getElem? (i := 8) (by decide +kernel)
theorem lk_X2_33 : (RX2, 33, yX6_hasBit, "CuttingRoom") ∈ nestL := List.mem_of_getElem? (i := 9) (by decide +kernel)
theorem lk_X2_44 : (RX2, 44, yX6_store, "CuttingRoom") ∈ nestL := List.mem_of_getElem? (i := 10) (by decide +kernel)
theorem lk_X2_48 : (RX2, 48, yX6_firstBit, "CuttingRoom") ∈ nestL := List.mem_of_getElem? (i := 11) (by decide +kernel)
theorem lk_X2_52 : (RX2, 52, yX6_endOfBits, "CuttingRoom") ∈ nestL := List.mem_of_getElem? (i := 12) (by decide +kernel)
theorem lk_X0_71 : (RX0, 71, yX6_isWithin, "CuttingRoom") ∈ nestL := List.mem_of_getElem? (i := 13) (by decide +kernel)
theorem lk_X1_164 : (RX1, 164, yX6_hasBit, "CuttingRoom") ∈ nestL := List.mem_of_getElem? (i := 14) (by decide +kernel)
theorem lk_X2_64 : (RX2, 64, yX6_isWithin, "CuttingRoom") ∈ nestL := List.mem_of_getElem? (i := 15) (by decide +kernel)
theorem kc_X6_359 : Cond.constant RX6 359 (Int32.ofInt 999999) ∈ GW := mG (i := 1024) (by decide +kernel) rfl
theorem kc_X7_257 : Cond.constant RX7 257 (Int32.ofInt 999999) ∈ GW := mG (i := 1554) (by decide +kernel) rfl
theorem kc_X7_274 : Cond.constant RX7 274 (Int32.ofInt 2147483647) ∈ GW := mG (i := 1587) (by decide +kernel) rfl
end
section
theorem tk_52_56 : TOK RX6 52 56 "java/lang/IllegalArgumentException" ["java/lang/RuntimeException", "java/lang/Exception"] := ⟨by decide +kernel, by decide +kernel, by decide, mT2 (i := 45) (by decide +kernel) rfl, mT1 (i := 10) (by decide +kernel) rfl, by decide +kernel, by decide +kernel, by decide +kernel, by decide +kernel⟩
theorem tk_66_70 : TOK RX6 66 70 "java/lang/IllegalStateException" ["java/lang/RuntimeException", "java/lang/Exception"] := ⟨by decide +kernel, by decide +kernel, by decide, mT2 (i := 117) (by decide +kernel) rfl, mT1 (i := 11) (by decide +kernel) rfl, by decide +kernel, by decide +kernel, by decide +kernel, by decide +kernel⟩
theorem tk_96_100 : TOK RX6 96 100 "java/lang/UnsupportedOperationException" ["java/lang/RuntimeException", "java/lang/Exception"] := ⟨by decide +kernel, by decide +kernel, by decide, mT2 (i := 163) (by decide +kernel) rfl, mT1 (i := 12) (by decide +kernel) rfl, by decide +kernel, by decide +kernel, by decide +kernel, by decide +kernel⟩
theorem tk_172_176 : TOK RX6 172 176 "java/lang/IndexOutOfBoundsException" ["java/lang/RuntimeException", "java/lang/Exception"] := ⟨by decide +kernel, by decide +kernel, by decide, mT3 (i := 70) (by decide +kernel) rfl, mT1 (i := 15) (by decide +kernel) rfl, by decide +kernel, by decide +kernel, by decide +kernel, by decide +kernel⟩
theorem tk_439_441 : TOK RX6 439 441 "java/lang/ArithmeticException" ["java/lang/RuntimeException", "java/lang/Exception"] := ⟨by decide +kernel, by decide +kernel, by decide, mT5 (i := 139) (by decide +kernel) rfl, mT1 (i := 21) (by decide +kernel) rfl, by decide +kernel, by decide +kernel, by decide +kernel, by decide +kernel⟩
theorem ts_54 : (RX6, 54, "the width or the stripe number is out of range") ∈ strL := List.mem_of_getElem? (i := 0) (by decide +kernel)
theorem ts_68 : (RX6, 68, "the marker is not empty, or there are flaws") ∈ strL := List.mem_of_getElem? (i := 1) (by decide +kernel)
theorem ts_81 : (RX6, 81, "the marker is not empty") ∈ strL := List.mem_of_getElem? (i := 2) (by decide +kernel)
theorem ts_90 : (RX6, 90, "there is no such cell") ∈ strL := List.mem_of_getElem? (i := 3) (by decide +kernel)
theorem ts_98 : (RX6, 98, "a piece of the marker would be on the flaw") ∈ strL := List.mem_of_getElem? (i := 4) (by decide +kernel)
theorem ts_104 : (RX6, 104, "there are 12 flaws") ∈ strL := List.mem_of_getElem? (i := 5) (by decide +kernel)
theorem ts_121 : (RX6, 121, "there is no such rule") ∈ strL := List.mem_of_getElem? (i := 6) (by decide +kernel)
theorem ts_126 : (RX6, 126, "there are 8 shapes") ∈ strL := List.mem_of_getElem? (i := 7) (by decide +kernel)
theorem ts_135 : (RX6, 135, "the row or the column is out of range") ∈ strL := List.mem_of_getElem? (i := 9) (by decide +kernel)
theorem ts_140 : (RX6, 140, "the shape has this cell") ∈ strL := List.mem_of_getElem? (i := 10) (by decide +kernel)
theorem ts_150 : (RX6, 150, "a piece of the shape is in the marker or was cut") ∈ strL := List.mem_of_getElem? (i := 11) (by decide +kernel)
theorem ts_158 : (RX6, 158, "the group, the row or the column is out of range") ∈ strL := List.mem_of_getElem? (i := 12) (by decide +kernel)
theorem ts_160 : (RX6, 160, "a piece of the shape is in the marker") ∈ strL := List.mem_of_getElem? (i := 13) (by decide +kernel)
theorem ts_174 : (RX6, 174, "there is no such shape") ∈ strL := List.mem_of_getElem? (i := 8) (by decide +kernel)
theorem ts_185 : (RX6, 185, "the piece cannot be laid") ∈ strL := List.mem_of_getElem? (i := 15) (by decide +kernel)
theorem ts_191 : (RX6, 191, "there are 40 pieces in the marker") ∈ strL := List.mem_of_getElem? (i := 16) (by decide +kernel)
theorem ts_197 : (RX6, 197, "the number of turns is out of range") ∈ strL := List.mem_of_getElem? (i := 14) (by decide +kernel)
theorem ts_205 : (RX6, 205, "the piece can be laid nowhere") ∈ strL := List.mem_of_getElem? (i := 17) (by decide +kernel)
theorem ts_240 : (RX6, 240, "there is no such piece in the marker") ∈ strL := List.mem_of_getElem? (i := 18) (by decide +kernel)
theorem ts_251 : (RX6, 251, "no piece has this cell") ∈ strL := List.mem_of_getElem? (i := 19) (by decide +kernel)
theorem ts_256 : (RX6, 256, "there is no such group") ∈ strL := List.mem_of_getElem? (i := 20) (by decide +kernel)
theorem ts_268 : (RX6, 268, "there are no stripes, or no piece is of the group") ∈ strL := List.mem_of_getElem? (i := 21) (by decide +kernel)
theorem ts_276 : (RX6, 276, "there are 4 styles") ∈ strL := List.mem_of_getElem? (i := 22) (by decide +kernel)
theorem ts_283 : (RX6, 283, "the count is out of range") ∈ strL := List.mem_of_getElem? (i := 24) (by decide +kernel)
theorem ts_291 : (RX6, 291, "the style has this part, or a garment of it was made") ∈ strL := List.mem_of_getElem? (i := 25) (by decide +kernel)
theorem ts_301 : (RX6, 301, "there is no such style") ∈ strL := List.mem_of_getElem? (i := 23) (by decide +kernel)
theorem ts_306 : (RX6, 306, "the style has no parts") ∈ strL := List.mem_of_getElem? (i := 33) (by decide +kernel)
theorem ts_332 : (RX6, 332, "the pieces can be nested in no order") ∈ strL := List.mem_of_getElem? (i := 27) (by decide +kernel)
theorem ts_344 : (RX6, 344, "more than 4 pieces would be nested, or none") ∈ strL := List.mem_of_getElem? (i := 26) (by decide +kernel)
theorem ts_360 : (RX6, 360, "the length is out of range, or the roll would be too long") ∈ strL := List.mem_of_getElem? (i := 28) (by decide +kernel)
theorem ts_362 : (RX6, 362, "the number of plies is out of range") ∈ strL := List.mem_of_getElem? (i := 29) (by decide +kernel)
theorem ts_364 : (RX6, 364, "the marker is empty") ∈ strL := List.mem_of_getElem? (i := 30) (by decide +kernel)
theorem ts_370 : (RX6, 370, "the roll is too short, or the stock would be too large") ∈ strL := List.mem_of_getElem? (i := 31) (by decide +kernel)
theorem ts_392 : (RX6, 392, "a single shape has no mirrored pieces") ∈ strL := List.mem_of_getElem? (i := 32) (by decide +kernel)
theorem ts_417 : (RX6, 417, "there are too few pieces") ∈ strL := List.mem_of_getElem? (i := 35) (by decide +kernel)
theorem ts_422 : (RX6, 422, "the number of garments is out of range") ∈ strL := List.mem_of_getElem? (i := 34) (by decide +kernel)
theorem ts_428 : (RX6, 428, "no number of plies is enough") ∈ strL := List.mem_of_getElem? (i := 36) (by decide +kernel)
end
section
section Rows
variable {p : Program} {l : Launch} {e : Env} {R : Room} {s : State} {m : MethodId} {args : Array Value} {below : List Frame} {meth : Method} {c : Code} {nL : Nat} {D : va_G} {cA : Nat → ClassId} {b0 cells slots : Nat} {Q : State → Prop} {lv : Lv} {st : List AV} {ad : Ads} {ns nt : Nat} {M : Mem} {cc : ByteArray} {own : String} {tab : List ExceptionTableEntry} {pc pc' : Nat}
theorem Wm.top {v v' : AV} (h : v = v') (kk : Wm p l e R s m args below meth c nL D cA b0 cells slots Q pc lv (v' :: st) ad ns nt M) : Wm p l e R s m args below meth c nL D cA b0 cells slots Q pc lv (v :: st) ad ns nt M := by rw [h]; exact kk
theorem Wm.eqM {M' : Mem} (h : M = M') (kk : Wm p l e R s m args below meth c nL D cA b0 cells slots Q pc lv st ad ns nt M') : Wm p l e R s m args below meth c nL D cA b0 cells slots Q pc lv st ad ns nt M := by rw [h]; exact kk
theorem w_callV (C : Cx l p s m args meth c cc own nL D cA b0 []) {P0 P : PT} {X0 X : PX} {mc ms : Nat} {y : MethodName} {bytes : ByteArray} {maxL n d mc0 ms0 idx k i ci N : Nat} {ret : Option FieldType} {as stk : List AV} {fs : List Value} {T : u_T} (hd : DI cc pc (.invokevirtual idx) 3 pc') (hcon : Con l b0 y bytes maxL ret d mc0 ms0 (aO k i :: as) ad ns nt M P0 X0) (hm : MOK y bytes maxL ret n) (hv : VOK y) (hk : Cond.methodLink own idx y ∈ GW) (hin : inD ns nt k i) (he : cM cA ad M k i = .inr (ci, fs)) (hc : clT[ci]? = some (y.cls, T, N))
    (hst : stk = as.reverse ++ aO k i :: st) (hn : as.length = n) (hroom : d + 1 ≤ R.frames ∧ 8 + (maxL + 11) + 40 * d ≤ R.locals ∧ cells + mc0 ≤ R.cells ∧ slots + ms0 ≤ R.slots) (hwt : (st.map fun v => if cat2 v then 2 else 1).sum ≤ 8) (hX : ∀ (E : String) (M' : Mem), X0 E M' → X E M') (hcl : cells + mc0 ≤ mc ∧ slots + ms0 ≤ ms)
    (kk : ∀ (r : Option AV) (M' : Mem), P0 r M' → Wm p l e R s m args below meth c nL D cA b0 (cells + mc0) (slots + ms0) (vx_MQ below (mQ D cA b0 ad ns nt P) (mX D cA b0 ad ns nt X) args s mc ms (fun q => b0 ≤ q)) pc' lv (r.toList ++ st) ad ns nt M') : Wm p l e R s m args below meth c nL D cA b0 cells slots (vx_MQ below (mQ D cA b0 ad ns nt P) (mX D cA b0 ad ns nt X) args s mc ms (fun q => b0 ≤ q)) pc lv stk ad ns nt M :=
  w_callV0 C hd hcon hm hv hk hin he hc hst hn hroom hwt (fun E M' h => x_out C (hX E M' h) hcl.1 hcl.2) kk
theorem w_callS (C : Cx l p s m args meth c cc own nL D cA b0 []) {P0 P : PT} {X0 X : PX} {mc ms : Nat} {y : MethodName} {bytes : ByteArray} {maxL n d mc0 ms0 idx : Nat} {ret : Option FieldType} {as stk : List AV} (hd : DI cc pc (.invokestatic idx) 3 pc') (hcon : Con l b0 y bytes maxL ret d mc0 ms0 as ad ns nt M P0 X0) (hm : MOK y bytes maxL ret n) (hv : Cond.static y ∈ GW) (hk : Cond.methodLink own idx y ∈ GW)
    (hst : stk = as.reverse ++ st) (hn : as.length = n) (hroom : d + 1 ≤ R.frames ∧ 8 + (maxL + 11) + 40 * d ≤ R.locals ∧ cells + mc0 ≤ R.cells ∧ slots + ms0 ≤ R.slots) (hwt : (st.map fun v => if cat2 v then 2 else 1).sum ≤ 8) (hX : ∀ (E : String) (M' : Mem), X0 E M' → X E M') (hcl : cells + mc0 ≤ mc ∧ slots + ms0 ≤ ms)
    (kk : ∀ (r : Option AV) (M' : Mem), P0 r M' → Wm p l e R s m args below meth c nL D cA b0 (cells + mc0) (slots + ms0) (vx_MQ below (mQ D cA b0 ad ns nt P) (mX D cA b0 ad ns nt X) args s mc ms (fun q => b0 ≤ q)) pc' lv (r.toList ++ st) ad ns nt M') : Wm p l e R s m args below meth c nL D cA b0 cells slots (vx_MQ below (mQ D cA b0 ad ns nt P) (mX D cA b0 ad ns nt X) args s mc ms (fun q => b0 ≤ q)) pc lv stk ad ns nt M :=
  w_callS0 C hd hcon hm hv hk hst hn hroom hwt (fun E M' h => x_out C (hX E M' h) hcl.1 hcl.2) kk
theorem w_callN (C : Cx l p s m args meth c cc own nL D cA b0 []) {P0 P : PT} {X0 X : PX} {mc ms : Nat} {y : MethodName} {bytes : ByteArray} {maxL n d mc0 ms0 idx : Nat} {host : String} {ret : Option FieldType} {as stk : List AV} (hd : DI cc pc (.invokestatic idx) 3 pc') (hcon : Con l b0 y bytes maxL ret d mc0 ms0 as ad ns nt M P0 X0) (hm : MOK y bytes maxL ret n) (hv : Cond.static y ∈ GW) (hk : (own, idx, y, host) ∈ nestL)
    (hst : stk = as.reverse ++ st) (hn : as.length = n) (hroom : d + 1 ≤ R.frames ∧ 8 + (maxL + 11) + 40 * d ≤ R.locals ∧ cells + mc0 ≤ R.cells ∧ slots + ms0 ≤ R.slots) (hwt : (st.map fun v => if cat2 v then 2 else 1).sum ≤ 8) (hX : ∀ (E : String) (M' : Mem), X0 E M' → X E M') (hcl : cells + mc0 ≤ mc ∧ slots + ms0 ≤ ms)
    (kk : ∀ (r : Option AV) (M' : Mem), P0 r M' → Wm p l e R s m args below meth c nL D cA b0 (cells + mc0) (slots + ms0) (vx_MQ below (mQ D cA b0 ad ns nt P) (mX D cA b0 ad ns nt X) args s mc ms (fun q => b0 ≤ q)) pc' lv (r.toList ++ st) ad ns nt M') : Wm p l e R s m args below meth c nL D cA b0 cells slots (vx_MQ below (mQ D cA b0 ad ns nt P) (mX D cA b0 ad ns nt X) args s mc ms (fun q => b0 ≤ q)) pc lv stk ad ns nt M :=
  w_callN0 C hd hcon hm hv hk hst hn hroom hwt (fun E M' h => x_out C (hX E M' h) hcl.1 hcl.2) kk
theorem pl_X0 : plainName RX0 = true := by decide +kernel
theorem pl_X1 : plainName RX1 = true := by decide +kernel
theorem pl_X2 : plainName RX2 = true := by decide +kernel
theorem pl_X3 : plainName RX3 = true := by decide +kernel
theorem pl_X4 : plainName RX4 = true := by decide +kernel
theorem pl_X5 : plainName RX5 = true := by decide +kernel
theorem pl_X6 : plainName RX6 = true := by decide +kernel
theorem pl_X7 : plainName RX7 = true := by decide +kernel
theorem pl_L : plainName RL = true := by decide +kernel
theorem pl_J7 : plainName RJ7 = true := by decide +kernel
end Rows
end
section
section Rows
variable {p : Program} {l : Launch} {e : Env} {R : Room} {s : State} {m : MethodId} {args : Array Value} {below : List Frame} {meth : Method} {c : Code} {nL : Nat} {D : va_G} {cA : Nat → ClassId} {b0 cells slots : Nat} {Q : State → Prop} {lv : Lv} {st : List AV} {ad : Ads} {ns nt : Nat} {M : Mem} {cc : ByteArray} {own : String} {tab : List ExceptionTableEntry} {pc pc' : Nat}
theorem w_floorMod (C : Cx l p s m args meth c cc RX0 nL D cA b0 tab) (hd : DI cc pc (.invokestatic 29) 3 pc') {x y : Int} (hx : -2147483648 ≤ x ∧ x ≤ 2147483647) (hy : 0 < y ∧ y ≤ 1000) (hroom : 1 ≤ R.frames ∧ 40 ≤ R.locals) (hwt : (st.map fun v => if cat2 v then 2 else 1).sum ≤ 8)
    (kk : Wm p l e R s m args below meth c nL D cA b0 cells slots Q pc' lv (aI (x % y) :: st) ad ns nt M) : Wm p l e R s m args below meth c nL D cA b0 cells slots Q pc lv (aI y :: aI x :: st) ad ns nt M := by
  sorry
end Rows
end
section
/-! the small functions of CuttingRoom over numbers and rows of numbers -/
def b2 (p : Prop) [Decidable p] : Int := if p then 1 else 0
theorem b2_t {p : Prop} [Decidable p] (h : p) : b2 p = 1 := if_pos h
theorem b2_f {p : Prop} [Decidable p] (h : ¬ p) : b2 p = 0 := if_neg h
theorem b2_01 (p : Prop) [Decidable p] : b2 p = 0 ∨ b2 p = 1 := by
  by_cases h : p
  · exact Or.inr (b2_t h)
  · exact Or.inl (b2_f h)
abbrev rd (M : Mem) (k i n : Nat) (z : Int) : Int := if 0 ≤ z ∧ z < n then M.1 k i z.toNat else 0
abbrev wr (M : Mem) (k i n : Nat) (z v : Int) : Mem := if 0 ≤ z ∧ z < n then uI M k i z.toNat v else M
abbrev noX : PX := fun _ _ => False
def fstB (b : Nat) : Nat := if b.testBit 0 then 0 else if b.testBit 1 then 1 else if b.testBit 2 then 2 else if b.testBit 3 then 3 else if b.testBit 4 then 4 else 5
def endB (b : Nat) : Nat := if b.testBit 4 then 5 else if b.testBit 3 then 4 else if b.testBit 2 then 3 else if b.testBit 1 then 2 else if b.testBit 0 then 1 else 0
section Small
variable {l : Launch} {b0 : Nat} {ad : Ads} {ns nt : Nat} {M : Mem}
theorem c_X6_entry (hl : l.stackTraces = false) {k i n : Nat} (hk : IA k n) (hin : inD ns nt k i) (z : Int) (hz : -2147483648 ≤ z ∧ z ≤ 2147483647) : Con l b0 yX6_entry cX6_entry 2 (some .int) 1 0 0 [aO k i, aI z] ad ns nt M (fun r M' => M' = M ∧ r = some (aI (rd M k i n z))) noX := by
  have hn := hk.1
  refine Con.of hl pl_X6 (Nat.le_of_ble_eq_true rfl) ?_
  intro D cA p e s m args below meth c C hr
  refine w_iload_n C dX6_entry_0 rfl ?_
  refine w_if_lt C dX6_entry_1 (by omega) (fun h1 => ?_) (fun h1 => ?_)
  · refine w_iconst C dX6_entry_16 ?_
    refine w_iret C hr dX6_entry_17 rfl (⟨rfl, by rw [rd, if_neg (by omega)]⟩) (by decide) (by decide)
  · refine w_iload_n C dX6_entry_4 rfl ?_
    refine w_aload_n C dX6_entry_5 rfl ?_
    refine w_alen C dX6_entry_6 hin (Or.inl hk) ?_
    refine w_icmp_ge C dX6_entry_7 (by omega) (by omega) (fun h7 => ?_) (fun h7 => ?_)
    · refine w_iconst C dX6_entry_16 ?_
      refine w_iret C hr dX6_entry_17 rfl (⟨rfl, by rw [rd, if_neg (by omega)]⟩) (by decide) (by decide)
    · refine w_aload_n C dX6_entry_10 rfl ?_
      refine w_iload_n C dX6_entry_11 rfl ?_
      refine w_iald C dX6_entry_12 (by first | assumption | exact Nat.zero_lt_one | exact Nat.zero_lt_two | exact Nat.one_lt_two) hk (by omega) ?_
      refine w_goto C dX6_entry_13 ?_
      refine w_iret C hr dX6_entry_17 rfl (⟨rfl, by rw [rd, if_pos (by omega)]⟩) (by decide) (by decide)
theorem c_X6_store (hl : l.stackTraces = false) {k i n : Nat} (hk : IA k n) (hin : inD ns nt k i) (z v : Int) (hz : -2147483648 ≤ z ∧ z ≤ 2147483647) : Con l b0 yX6_store cX6_store 3 none 1 0 0 [aO k i, aI z, aI v] ad ns nt M (fun r M' => M' = wr M k i n z v ∧ r = none) noX := by
  have hn := hk.1
  refine Con.of hl pl_X6 (Nat.le_of_ble_eq_true rfl) ?_
  intro D cA p e s m args below meth c C hr
  refine w_iload_n C dX6_store_0 rfl ?_
  refine w_if_lt C dX6_store_1 (by omega) (fun h1 => ?_) (fun h1 => ?_)
  · refine w_vret C hr dX6_store_14 (⟨by rw [wr, if_neg (by omega)], rfl⟩) (by decide) (by decide)
  · refine w_iload_n C dX6_store_4 rfl ?_
    refine w_aload_n C dX6_store_5 rfl ?_
    refine w_alen C dX6_store_6 hin (Or.inl hk) ?_
    refine w_icmp_ge C dX6_store_7 (by omega) (by omega) (fun h7 => ?_) (fun h7 => ?_)
    · refine w_vret C hr dX6_store_14 (⟨by rw [wr, if_neg (by omega)], rfl⟩) (by decide) (by decide)
    · refine w_aload_n C dX6_store_10 rfl ?_
      refine w_iload_n C dX6_store_11 rfl ?_
      refine w_iload_n C dX6_store_12 rfl ?_
      refine w_iast C dX6_store_13 (by first | assumption | exact Nat.zero_lt_one | exact Nat.zero_lt_two | exact Nat.one_lt_two) hk (by omega) ?_
      refine w_vret C hr dX6_store_14 (⟨by rw [wr, if_pos (by omega)], rfl⟩) (by decide) (by decide)
theorem c_X6_hasBit (hl : l.stackTraces = false) (b k : Nat) (hb : b < 2147483648) (hk : k < 32) : Con l b0 yX6_hasBit cX6_hasBit 2 (some .boolean) 1 0 0 [aI b, aI k] ad ns nt M (fun r M' => M' = M ∧ r = some (aI (b2 (b.testBit k = true)))) noX := by
  have eb : (b.testBit k = true) ↔ ¬ ((b / 2 ^ k &&& 1 : Nat) : Int) = 0 := by
    rw [Nat.testBit_eq_decide_div_mod_eq, decide_eq_true_iff, Nat.and_one_is_mod]
    omega
  have hlt : b / 2 ^ k ≤ b := Nat.div_le_self b _
  refine Con.of hl pl_X6 (Nat.le_of_ble_eq_true rfl) ?_
  intro D cA p e s m args below meth c C hr
  refine w_iload_n C dX6_hasBit_0 rfl ?_
  refine w_iload_n C dX6_hasBit_1 rfl ?_
  refine w_ishr C dX6_hasBit_2 hb hk ?_
  refine w_iconst C dX6_hasBit_3 ?_
  refine w_iand (y := 1) C dX6_hasBit_4 (by omega) (by omega) ?_
  have hle : b / 2 ^ k &&& 1 ≤ 1 := Nat.and_le_right
  refine w_if_eq C dX6_hasBit_5 (by omega) (fun h5 => ?_) (fun h5 => ?_)
  · refine w_iconst C dX6_hasBit_12 ?_
    refine w_iret C hr dX6_hasBit_13 (narrow_z (by omega)) (⟨rfl, by rw [b2_f (fun q => (eb.mp q) h5)]⟩) (by decide) (by decide)
  · refine w_iconst C dX6_hasBit_8 ?_
    refine w_goto C dX6_hasBit_9 ?_
    refine w_iret C hr dX6_hasBit_13 (narrow_z (by omega)) (⟨rfl, by rw [b2_t (eb.mpr h5)]⟩) (by decide) (by decide)
theorem c_X6_isWithin (hl : l.stackTraces = false) (v a b : Int) (hv : -2147483648 ≤ v ∧ v ≤ 2147483647) (ha : -2147483648 ≤ a ∧ a ≤ 2147483647) (hb : -2147483648 ≤ b ∧ b ≤ 2147483647) : Con l b0 yX6_isWithin cX6_isWithin 3 (some .boolean) 1 0 0 [aI v, aI a, aI b] ad ns nt M (fun r M' => M' = M ∧ r = some (aI (b2 (a ≤ v ∧ v ≤ b)))) noX := by
  refine Con.of hl pl_X6 (Nat.le_of_ble_eq_true rfl) ?_
  intro D cA p e s m args below meth c C hr
  refine w_iload_n C dX6_isWithin_0 rfl ?_
  refine w_iload_n C dX6_isWithin_1 rfl ?_
  refine w_icmp_lt C dX6_isWithin_2 (by omega) (by omega) (fun h2 => ?_) (fun h2 => ?_)
  · refine w_iconst C dX6_isWithin_14 ?_
    refine w_iret C hr dX6_isWithin_15 (narrow_z (by omega)) (⟨rfl, by rw [b2_f (by omega)]⟩) (by decide) (by decide)
  · refine w_iload_n C dX6_isWithin_5 rfl ?_
    refine w_iload_n C dX6_isWithin_6 rfl ?_
    refine w_icmp_gt C dX6_isWithin_7 (by omega) (by omega) (fun h7 => ?_) (fun h7 => ?_)
    · refine w_iconst C dX6_isWithin_14 ?_
      refine w_iret C hr dX6_isWithin_15 (narrow_z (by omega)) (⟨rfl, by rw [b2_f (by omega)]⟩) (by decide) (by decide)
    · refine w_iconst C dX6_isWithin_10 ?_
      refine w_goto C dX6_isWithin_11 ?_
      refine w_iret C hr dX6_isWithin_15 (narrow_z (by omega)) (⟨rfl, by rw [b2_t (by omega)]⟩) (by decide) (by decide)
theorem c_X6_kindOf (hl : l.stackTraces = false) (v z : Int) (hz : z = 0 ∨ z = 1) : Con l b0 yX6_kindOf cX6_kindOf 2 (some .int) 1 0 0 [aI v, aI z] ad ns nt M (fun r M' => M' = M ∧ r = some (aI (v * 2 + z))) noX := by
  refine Con.of hl pl_X6 (Nat.le_of_ble_eq_true rfl) ?_
  intro D cA p e s m args below meth c C hr
  refine w_iload_n C dX6_kindOf_0 rfl ?_
  refine w_iconst C dX6_kindOf_1 ?_
  refine w_imul C dX6_kindOf_2 ?_
  refine w_iload_n C dX6_kindOf_3 rfl ?_
  refine w_if_eq C dX6_kindOf_4 (by omega) (fun h4 => ?_) (fun h4 => ?_)
  · refine w_iconst C dX6_kindOf_11 ?_
    refine w_iadd C dX6_kindOf_12 ?_
    refine w_iret C hr dX6_kindOf_13 rfl (⟨rfl, by rw [h4]⟩) (by decide) (by decide)
  · refine w_iconst C dX6_kindOf_7 ?_
    refine w_goto C dX6_kindOf_8 ?_
    refine w_iadd C dX6_kindOf_12 ?_
    refine w_iret C hr dX6_kindOf_13 rfl (⟨rfl, by rw [show z = 1 by omega]⟩) (by decide) (by decide)
theorem c_X6_firstBit (hl : l.stackTraces = false) (b : Nat) (hb : b < 2147483648) : Con l b0 yX6_firstBit cX6_firstBit 2 (some .int) 2 0 0 [aI b] ad ns nt M (fun r M' => M' = M ∧ r = some (aI (fstB b))) noX := by
  refine Con.of hl pl_X6 (Nat.le_of_ble_eq_true rfl) ?_
  intro D cA p e s m args below meth c C hr
  have loop : ∀ (n i : Nat), i + n = 5 → (∀ j, j < i → b.testBit j = false) → Wm p l e (rmd 2 0 0) s m args below meth c 2 D cA b0 0 0 (vx_MQ below (mQ D cA b0 ad ns nt (fun r M' => M' = M ∧ r = some (aI (fstB b)))) (mX D cA b0 ad ns nt noX) args s 0 0 (fun q => b0 ≤ q)) 2 [(0, aI b), (1, aI i)] [] ad ns nt M := by
    intro n
    induction n with
    | zero =>
      intro i hi hj
      refine w_iload_n C dX6_firstBit_2 rfl ?_
      refine w_iconst C dX6_firstBit_3 ?_
      refine w_icmp_ge C dX6_firstBit_4 (by omega) (by omega) (fun h4 => ?_) (fun h4 => ?_)
      · refine w_iload_n C dX6_firstBit_21 rfl ?_
        refine w_iret C hr dX6_firstBit_22 rfl (⟨rfl, by rw [show i = 5 by omega, fstB, hj 0 (by omega), hj 1 (by omega), hj 2 (by omega), hj 3 (by omega), hj 4 (by omega)]; rfl⟩) (by decide) (by decide)
      · omega
    | succ n ih =>
      intro i hi hj
      refine w_iload_n C dX6_firstBit_2 rfl ?_
      refine w_iconst C dX6_firstBit_3 ?_
      refine w_icmp_ge C dX6_firstBit_4 (by omega) (by omega) (fun h4 => ?_) (fun h4 => ?_)
      · omega
      · refine w_iload_n C dX6_firstBit_7 rfl ?_
        refine w_iload_n C dX6_firstBit_8 rfl ?_
        refine w_callS C dX6_firstBit_9 (c_X6_hasBit hl b i hb (by omega)) mX6_hasBit sX6_hasBit lk_X6_449 rfl rfl ⟨by decide, by decide, by decide, by decide⟩ (Nat.le_of_ble_eq_true rfl) (fun _ _ h => h.elim) ⟨by decide, by decide⟩ (fun r_ M_ q9 => ?_)
        obtain ⟨rfl, rfl⟩ := q9
        have h01 := b2_01 (b.testBit i = true)
        refine w_if_ne C dX6_firstBit_12 (by omega) (fun h12 => ?_) (fun h12 => ?_)
        · refine w_iload_n C dX6_firstBit_21 rfl ?_
          refine w_iret C hr dX6_firstBit_22 rfl (⟨rfl, ?_⟩) (by decide) (by decide)
          have hbi : b.testBit i = true := Decidable.byContradiction fun q => h12 (b2_f q)
          rcases (show i = 0 ∨ i = 1 ∨ i = 2 ∨ i = 3 ∨ i = 4 by omega) with rfl | rfl | rfl | rfl | rfl
          all_goals simp_all [fstB]
        · refine w_iinc C dX6_firstBit_15 rfl (by decide) ?_
          refine w_goto C dX6_firstBit_18 ?_
          refine Wm.lsub (lv' := [(0, aI b), (1, aI ((i + 1 : Nat) : Int))]) ⟨rfl, rfl, trivial⟩ ?_
          refine ih (i + 1) (by omega) (fun j hj2 => ?_)
          rcases Nat.lt_or_ge j i with q | q
          · exact hj j q
          · rw [show j = i by omega]
            cases ht : b.testBit i
            · rfl
            · rw [b2_t ht] at h12
              omega
  refine w_iconst C dX6_firstBit_0 ?_
  refine w_istore_n C dX6_firstBit_1 (by decide) ?_
  exact Wm.lsub (lv' := [(0, aI b), (1, aI ((0 : Nat) : Int))]) ⟨rfl, rfl, trivial⟩ (loop 5 0 rfl (fun j hj => absurd hj (Nat.not_lt_zero j)))
theorem c_X6_endOfBits (hl : l.stackTraces = false) (b : Nat) (hb : b < 2147483648) : Con l b0 yX6_endOfBits cX6_endOfBits 2 (some .int) 2 0 0 [aI b] ad ns nt M (fun r M' => M' = M ∧ r = some (aI (endB b))) noX := by
  refine Con.of hl pl_X6 (Nat.le_of_ble_eq_true rfl) ?_
  intro D cA p e s m args below meth c C hr
  have loop : ∀ (i : Nat), i ≤ 5 → (∀ j, i ≤ j → j < 5 → b.testBit j = false) → Wm p l e (rmd 2 0 0) s m args below meth c 2 D cA b0 0 0 (vx_MQ below (mQ D cA b0 ad ns nt (fun r M' => M' = M ∧ r = some (aI (endB b)))) (mX D cA b0 ad ns nt noX) args s 0 0 (fun q => b0 ≤ q)) 2 [(0, aI b), (1, aI i)] [] ad ns nt M := by
    intro i
    induction i with
    | zero =>
      intro hi hj
      refine w_iload_n C dX6_endOfBits_2 rfl ?_
      refine w_if_le C dX6_endOfBits_3 (by omega) (fun h3 => ?_) (fun h3 => ?_)
      · refine w_iload_n C dX6_endOfBits_22 rfl ?_
        refine w_iret C hr dX6_endOfBits_23 rfl (⟨rfl, by rw [endB, hj 0 (by omega) (by omega), hj 1 (by omega) (by omega), hj 2 (by omega) (by omega), hj 3 (by omega) (by omega), hj 4 (by omega) (by omega)]; rfl⟩) (by decide) (by decide)
      · omega
    | succ i ih =>
      intro hi hj
      refine w_iload_n C dX6_endOfBits_2 rfl ?_
      refine w_if_le C dX6_endOfBits_3 (by omega) (fun h3 => ?_) (fun h3 => ?_)
      · omega
      · refine w_iload_n C dX6_endOfBits_6 rfl ?_
        refine w_iload_n C dX6_endOfBits_7 rfl ?_
        refine w_iconst C dX6_endOfBits_8 ?_
        refine w_isub C dX6_endOfBits_9 ?_
        refine Wm.top (v' := aI (i : Int)) (by rw [show ((i + 1 : Nat) : Int) - 1 = i by omega]) ?_
        refine w_callS C dX6_endOfBits_10 (c_X6_hasBit hl b i hb (by omega)) mX6_hasBit sX6_hasBit lk_X6_449 rfl rfl ⟨by decide, by decide, by decide, by decide⟩ (Nat.le_of_ble_eq_true rfl) (fun _ _ h => h.elim) ⟨by decide, by decide⟩ (fun r_ M_ q10 => ?_)
        obtain ⟨rfl, rfl⟩ := q10
        have h01 := b2_01 (b.testBit i = true)
        refine w_if_ne C dX6_endOfBits_13 (by omega) (fun h13 => ?_) (fun h13 => ?_)
        · refine w_iload_n C dX6_endOfBits_22 rfl ?_
          refine w_iret C hr dX6_endOfBits_23 rfl (⟨rfl, ?_⟩) (by decide) (by decide)
          have hbi : b.testBit i = true := Decidable.byContradiction fun q => h13 (b2_f q)
          rcases (show i = 0 ∨ i = 1 ∨ i = 2 ∨ i = 3 ∨ i = 4 by omega) with rfl | rfl | rfl | rfl | rfl
          · simp [endB, hbi, hj 1 (by omega) (by omega), hj 2 (by omega) (by omega), hj 3 (by omega) (by omega), hj 4 (by omega) (by omega)]
          · simp [endB, hbi, hj 2 (by omega) (by omega), hj 3 (by omega) (by omega), hj 4 (by omega) (by omega)]
          · simp [endB, hbi, hj 3 (by omega) (by omega), hj 4 (by omega) (by omega)]
          · simp [endB, hbi, hj 4 (by omega) (by omega)]
          · simp [endB, hbi]
        · refine w_iinc C dX6_endOfBits_16 rfl (by decide) ?_
          refine w_goto C dX6_endOfBits_19 ?_
          refine Wm.lsub (lv' := [(0, aI b), (1, aI (i : Int))]) ⟨rfl, by show some (aI (((i + 1 : Nat) : Int) + (-1))) = _; rw [show ((i + 1 : Nat) : Int) + (-1) = i by omega], trivial⟩ ?_
          refine ih (by omega) (fun j hj1 hj2 => ?_)
          rcases Nat.lt_or_ge i j with q | q
          · exact hj j q hj2
          · rw [show j = i by omega]
            cases ht : b.testBit i
            · rfl
            · rw [b2_t ht] at h13
              omega
  refine w_iconst C dX6_endOfBits_0 ?_
  refine w_istore_n C dX6_endOfBits_1 (by decide) ?_
  exact Wm.lsub (lv' := [(0, aI b), (1, aI ((5 : Nat) : Int))]) ⟨rfl, rfl, trivial⟩ (loop 5 (by omega) (fun j h1 h2 => absurd h2 (by omega)))
end Small
end
section
/-! the abstract state: numbers by (field, i, j), and the list of the pieces laid -/
abbrev Sg : Type := Nat → Nat → Nat → Nat
abbrev Pc : Type := Nat × Nat × Nat × Nat × Nat × Nat
abbrev pNum (p : Pc) : Nat := p.1
abbrev pShp (p : Pc) : Nat := p.2.1
abbrev pTrn (p : Pc) : Nat := p.2.2.1
abbrev pRow (p : Pc) : Nat := p.2.2.2.1
abbrev pCol (p : Pc) : Nat := p.2.2.2.2.1
abbrev pMir (p : Pc) : Nat := p.2.2.2.2.2
abbrev wdS (S : Sg) : Nat := S 0 0 0
abbrev npS (S : Sg) : Nat := S 1 0 0
abbrev fdS (S : Sg) : Nat := S 2 0 0
abbrev srS (S : Sg) : Nat := S 3 0 0
abbrev nfS (S : Sg) : Nat := S 4 0 0
abbrev flS (S : Sg) (k : Nat) : Nat := S 5 0 k
abbrev nsS (S : Sg) : Nat := S 6 0 0
abbrev ruS (S : Sg) (j : Nat) : Nat := S 7 j 0
abbrev paS (S : Sg) (j : Nat) : Nat := S 8 j 0
abbrev drS (S : Sg) (j k : Nat) : Nat := S 9 j k
abbrev szS (S : Sg) (j : Nat) : Nat := S 10 j 0
abbrev gpS (S : Sg) (j : Nat) : Nat := S 11 j 0
abbrev mrS (S : Sg) (j : Nat) : Nat := S 12 j 0
abbrev mcS (S : Sg) (j : Nat) : Nat := S 13 j 0
abbrev stS (S : Sg) (j q : Nat) : Nat := S 14 j q
abbrev ntS (S : Sg) : Nat := S 15 0 0
abbrev ctS (S : Sg) (y j : Nat) : Nat := S 16 y j
abbrev mdS (S : Sg) (y : Nat) : Nat := S 17 y 0
abbrev rlS (S : Sg) : Nat := S 18 0 0
/-! rows of bits -/
def bitsN (f : Nat → Bool) : Nat → Nat
  | 0 => 0
  | n + 1 => bitsN f n + if f n then 2 ^ n else 0
theorem bitsN_lt (f : Nat → Bool) (n : Nat) : bitsN f n < 2 ^ n := by
  induction n with
  | zero => exact Nat.one_pos
  | succ n ih =>
    unfold bitsN
    rw [Nat.pow_succ]
    split <;> omega
theorem bitsN_tb (f : Nat → Bool) (n i : Nat) : (bitsN f n).testBit i = (decide (i < n) && f i) := by
  induction n with
  | zero => simp [bitsN]
  | succ n ih =>
    unfold bitsN
    have hlt := bitsN_lt f n
    cases hf : f n with
    | false =>
      simp only [Bool.false_eq_true, if_false, Nat.add_zero]
      rw [ih]
      by_cases h : i = n
      · subst h; simp [hf]
      · have h2 : decide (i < n) = decide (i < n + 1) := decide_eq_decide.mpr (by omega)
        rw [h2]
    | true =>
      simp only [if_true]
      rw [Nat.add_comm]
      rcases Nat.lt_trichotomy i n with h | h | h
      · rw [Nat.testBit_two_pow_add_gt h, ih]
        simp [h, Nat.lt_succ_of_lt h]
      · subst h
        rw [Nat.testBit_two_pow_add_eq, ih]
        simp [hf]
      · have hb : 2 ^ n + bitsN f n < 2 ^ i := by
          have : 2 ^ (n + 1) ≤ 2 ^ i := Nat.pow_le_pow_right (by decide) h
          rw [Nat.pow_succ] at this
          omega
        rw [Nat.testBit_lt_two_pow hb]
        have : ¬ i < n + 1 := by omega
        simp [this]
theorem bitsN_of {x : Nat} {f : Nat → Bool} {n : Nat} (h : ∀ i, x.testBit i = (decide (i < n) && f i)) : x = bitsN f n :=
  Nat.eq_of_testBit_eq fun i => by rw [h, bitsN_tb]
theorem bitsN_cg {f g : Nat → Bool} {n : Nat} (h : ∀ i, i < n → f i = g i) : bitsN f n = bitsN g n :=
  Nat.eq_of_testBit_eq fun i => by
    rw [bitsN_tb, bitsN_tb]
    by_cases hi : i < n
    · rw [h i hi]
    · simp [hi]
theorem bitsN_0 {f : Nat → Bool} {n : Nat} : bitsN f n = 0 ↔ ∀ i, i < n → f i = false := by
  constructor
  · intro h i hi
    have := bitsN_tb f n i
    rw [h, Nat.zero_testBit] at this
    simpa [hi] using this.symm
  · intro h
    refine Nat.eq_of_testBit_eq fun i => ?_
    rw [bitsN_tb, Nat.zero_testBit]
    by_cases hi : i < n
    · simp [hi, h i hi]
    · simp [hi]
def lst5 (f : Nat → Bool) : Nat := if f 0 then 0 else if f 1 then 1 else if f 2 then 2 else if f 3 then 3 else if f 4 then 4 else 5
def end5 (f : Nat → Bool) : Nat := if f 4 then 5 else if f 3 then 4 else if f 2 then 3 else if f 1 then 2 else if f 0 then 1 else 0
theorem fstB_bits (f : Nat → Bool) : fstB (bitsN f 5) = lst5 f := by simp only [fstB, lst5, bitsN_tb]; rfl
theorem endB_bits (f : Nat → Bool) : endB (bitsN f 5) = end5 f := by simp only [endB, end5, bitsN_tb]; rfl
theorem lst5_le (f : Nat → Bool) : lst5 f ≤ 5 := by unfold lst5; (repeat' split) <;> omega
theorem end5_le (f : Nat → Bool) : end5 f ≤ 5 := by unfold end5; (repeat' split) <;> omega
theorem lst5_no {f : Nat → Bool} {i : Nat} (h : i < lst5 f) : f i = false := by
  unfold lst5 at h
  have h5 : i = 0 ∨ i = 1 ∨ i = 2 ∨ i = 3 ∨ i = 4 := by
    (repeat' split at h) <;> omega
  rcases h5 with rfl | rfl | rfl | rfl | rfl <;> (repeat' split at h) <;> simp_all
theorem lst5_yes {f : Nat → Bool} (h : lst5 f < 5) : f (lst5 f) = true := by
  unfold lst5 at h ⊢
  (repeat' split) <;> simp_all
theorem end5_no {f : Nat → Bool} {i : Nat} (h : end5 f ≤ i) (hi : i < 5) : f i = false := by
  unfold end5 at h
  have h5 : i = 0 ∨ i = 1 ∨ i = 2 ∨ i = 3 ∨ i = 4 := by omega
  rcases h5 with rfl | rfl | rfl | rfl | rfl <;> (repeat' split at h) <;> simp_all
theorem end5_yes {f : Nat → Bool} (h : 0 < end5 f) : f (end5 f - 1) = true := by
  unfold end5 at h ⊢
  (repeat' split) <;> simp_all
theorem lst5_min {f : Nat → Bool} {i : Nat} (h : f i = true) : lst5 f ≤ i := by
  rcases Nat.lt_or_ge i (lst5 f) with q | q
  · rw [lst5_no q] at h; cases h
  · exact q
theorem end5_max {f : Nat → Bool} {i : Nat} (hi : i < 5) (h : f i = true) : i < end5 f := by
  rcases Nat.lt_or_ge i (end5 f) with q | q
  · exact q
  · rw [end5_no q hi] at h; cases h
/-! the cells of a shape as they lie -/
def tR (t mi k : Nat) : Nat := if t = 0 then k / 5 else if t = 1 then (if mi = 1 then 4 - k % 5 else k % 5) else if t = 2 then 4 - k / 5 else 4 - (if mi = 1 then 4 - k % 5 else k % 5)
def tC (t mi k : Nat) : Nat := if t = 0 then (if mi = 1 then 4 - k % 5 else k % 5) else if t = 1 then 4 - k / 5 else if t = 2 then 4 - (if mi = 1 then 4 - k % 5 else k % 5) else k / 5
theorem tR_le {t mi k : Nat} (hk : k < 25) : tR t mi k ≤ 4 := by unfold tR; (repeat' split) <;> omega
theorem tC_le {t mi k : Nat} (hk : k < 25) : tC t mi k ≤ 4 := by unfold tC; (repeat' split) <;> omega
theorem tRC_inj {t mi k k' : Nat} (hk : k < 25) (hk' : k' < 25) (h1 : tR t mi k = tR t mi k') (h2 : tC t mi k = tC t mi k') : k = k' := by
  unfold tR at h1
  unfold tC at h2
  (repeat' split at h1) <;> (repeat' split at h2) <;> omega
def rowB (d : Nat → Bool) (t mi r : Nat) : Bool := (List.range 25).any fun k => d k && tR t mi k == r
def colB (d : Nat → Bool) (t mi c : Nat) : Bool := (List.range 25).any fun k => d k && tC t mi k == c
def topS (d : Nat → Bool) (t mi : Nat) : Nat := lst5 (rowB d t mi)
def leftS (d : Nat → Bool) (t mi : Nat) : Nat := lst5 (colB d t mi)
def nc (d : Nat → Bool) (t mi r c : Nat) : Bool := (List.range 25).any fun k => d k && tR t mi k == r + topS d t mi && tC t mi k == c + leftS d t mi
def hgt (d : Nat → Bool) (t mi : Nat) : Int := (end5 (rowB d t mi) : Int) - topS d t mi
def wid (d : Nat → Bool) (t mi : Nat) : Int := (end5 (colB d t mi) : Int) - leftS d t mi
theorem rowB_iff {d : Nat → Bool} {t mi r : Nat} : rowB d t mi r = true ↔ ∃ k, k < 25 ∧ d k = true ∧ tR t mi k = r := by
  simp [rowB, List.any_eq_true]
theorem colB_iff {d : Nat → Bool} {t mi r : Nat} : colB d t mi r = true ↔ ∃ k, k < 25 ∧ d k = true ∧ tC t mi k = r := by
  simp [colB, List.any_eq_true]
theorem nc_iff {d : Nat → Bool} {t mi r c : Nat} : nc d t mi r c = true ↔ ∃ k, k < 25 ∧ d k = true ∧ tR t mi k = r + topS d t mi ∧ tC t mi k = c + leftS d t mi := by
  simp [nc, List.any_eq_true, and_assoc]
theorem nc_lt {d : Nat → Bool} {t mi r c : Nat} (h : nc d t mi r c = true) : r < 5 ∧ c < 5 ∧ (r : Int) < hgt d t mi ∧ (c : Int) < wid d t mi := by
  obtain ⟨k, hk, hd, h1, h2⟩ := nc_iff.mp h
  have a1 := tR_le (t := t) (mi := mi) hk
  have a2 := tC_le (t := t) (mi := mi) hk
  have b1 : tR t mi k < end5 (rowB d t mi) := end5_max (by omega) (rowB_iff.mpr ⟨k, hk, hd, rfl⟩)
  have b2 : tC t mi k < end5 (colB d t mi) := end5_max (by omega) (colB_iff.mpr ⟨k, hk, hd, rfl⟩)
  unfold hgt wid
  omega
theorem d_any {d : Nat → Bool} {t mi k : Nat} (hk : k < 25) (hd : d k = true) : topS d t mi < 5 ∧ leftS d t mi < 5 ∧ 0 < end5 (rowB d t mi) ∧ 0 < end5 (colB d t mi) := by
  have a1 := tR_le (t := t) (mi := mi) hk
  have a2 := tC_le (t := t) (mi := mi) hk
  have b1 : tR t mi k < end5 (rowB d t mi) := end5_max (by omega) (rowB_iff.mpr ⟨k, hk, hd, rfl⟩)
  have b2 : tC t mi k < end5 (colB d t mi) := end5_max (by omega) (colB_iff.mpr ⟨k, hk, hd, rfl⟩)
  have c1 : topS d t mi ≤ tR t mi k := lst5_min (rowB_iff.mpr ⟨k, hk, hd, rfl⟩)
  have c2 : leftS d t mi ≤ tC t mi k := lst5_min (colB_iff.mpr ⟨k, hk, hd, rfl⟩)
  omega
theorem nc_of {d : Nat → Bool} {t mi k : Nat} (hk : k < 25) (hd : d k = true) : nc d t mi (tR t mi k - topS d t mi) (tC t mi k - leftS d t mi) = true := by
  have c1 : topS d t mi ≤ tR t mi k := lst5_min (rowB_iff.mpr ⟨k, hk, hd, rfl⟩)
  have c2 : leftS d t mi ≤ tC t mi k := lst5_min (colB_iff.mpr ⟨k, hk, hd, rfl⟩)
  exact nc_iff.mpr ⟨k, hk, hd, by omega, by omega⟩
/-- the height and the width are reached by cells -/
theorem hgt_cell {d : Nat → Bool} {t mi : Nat} (h : ∃ k, k < 25 ∧ d k = true) : ∃ r c, nc d t mi r c = true ∧ (r : Int) + 1 = hgt d t mi := by
  obtain ⟨k, hk, hd⟩ := h
  obtain ⟨-, -, h3, -⟩ := d_any (t := t) (mi := mi) hk hd
  obtain ⟨k', hk', hd', e'⟩ := rowB_iff.mp (end5_yes h3)
  have c1 : topS d t mi ≤ tR t mi k' := lst5_min (rowB_iff.mpr ⟨k', hk', hd', rfl⟩)
  exact ⟨_, _, nc_of hk' hd', by unfold hgt; omega⟩
theorem wid_cell {d : Nat → Bool} {t mi : Nat} (h : ∃ k, k < 25 ∧ d k = true) : ∃ r c, nc d t mi r c = true ∧ (c : Int) + 1 = wid d t mi := by
  obtain ⟨k, hk, hd⟩ := h
  obtain ⟨-, -, -, h3⟩ := d_any (t := t) (mi := mi) hk hd
  obtain ⟨k', hk', hd', e'⟩ := colB_iff.mp (end5_yes h3)
  have c1 : leftS d t mi ≤ tC t mi k' := lst5_min (colB_iff.mpr ⟨k', hk', hd', rfl⟩)
  exact ⟨_, _, nc_of hk' hd', by unfold wid; omega⟩
/-! the cloth and the pieces -/
def dB (S : Sg) (j k : Nat) : Bool := decide (drS S j k ≠ 0)
def cv (S : Sg) (p : Pc) (r c : Nat) : Bool := decide (pRow p ≤ r) && decide (pCol p ≤ c) && nc (dB S (pShp p)) (pTrn p) (pMir p) (r - pRow p) (c - pCol p)
theorem cv_iff {S : Sg} {p : Pc} {r c : Nat} : cv S p r c = true ↔ ∃ r' c', r = pRow p + r' ∧ c = pCol p + c' ∧ nc (dB S (pShp p)) (pTrn p) (pMir p) r' c' = true := by
  unfold cv
  simp only [Bool.and_eq_true, decide_eq_true_iff]
  constructor
  · rintro ⟨⟨h1, h2⟩, h3⟩
    exact ⟨_, _, by omega, by omega, h3⟩
  · rintro ⟨r', c', rfl, rfl, h3⟩
    refine ⟨⟨by omega, by omega⟩, ?_⟩
    rw [Nat.add_sub_cancel_left, Nat.add_sub_cancel_left]
    exact h3
def clo (S : Sg) (P : List Pc) (k : Nat) : Int := match P.find? (fun p => cv S p (k / 12) (k % 12)) with
  | some p => (pNum p : Int)
  | none => -1
def colsS (S : Sg) : Nat := if fdS S = 1 then wdS S / 2 else wdS S
def badS (S : Sg) (r c : Nat) : Bool := decide (flS S (12 * r + c) ≠ 0) || (decide (fdS S = 1) && decide (c < wdS S) && decide (flS S (12 * r + (wdS S - 1 - c)) ≠ 0))
def mayT (S : Sg) (j t : Nat) : Prop := t = 0 ∨ npS S = 0 ∧ (ruS S j = 113 ∨ ruS S j = 104 ∧ t = 2)
def mkR (S : Sg) (j t mi : Nat) : Int := (tR t mi (5 * mrS S j + mcS S j) : Int) - topS (dB S j) t mi
def remS (S : Sg) (z : Int) : Int := if 2 ≤ srS S then z % (srS S : Int) else 0
def remP (S : Sg) (p : Pc) : Int := remS S ((pRow p : Int) + mkR S (pShp p) (pTrn p) (pMir p))
def inGr (S : Sg) (P : List Pc) (g : Nat) : Nat := P.countP fun p => gpS S (pShp p) == g
def anyC (d : Nat → Bool) (t mi : Nat) (f : Nat → Nat → Bool) : Bool := (List.range 5).any fun r => (List.range 5).any fun c => nc d t mi r c && f r c
theorem anyC_iff {d : Nat → Bool} {t mi : Nat} {f : Nat → Nat → Bool} : anyC d t mi f = true ↔ ∃ r c, nc d t mi r c = true ∧ f r c = true := by
  unfold anyC
  simp only [List.any_eq_true, List.mem_range, Bool.and_eq_true]
  constructor
  · rintro ⟨r, -, c, -, h1, h2⟩
    exact ⟨r, c, h1, h2⟩
  · rintro ⟨r, c, h1, h2⟩
    have h := nc_lt h1
    exact ⟨r, h.1, c, h.2.1, h1, h2⟩
def offS (S : Sg) (j t mi : Nat) (row col : Int) : Prop := ¬ ((0 ≤ row ∧ row + hgt (dB S j) t mi ≤ 60) ∧ 0 ≤ col ∧ col + wid (dB S j) t mi ≤ colsS S)
def strp (S : Sg) (P : List Pc) (j t mi : Nat) (row : Int) : Bool := decide (gpS S j ≠ 0) && decide (2 ≤ srS S) && P.any fun p => gpS S (pShp p) == gpS S j && !(remP S p == remS S (row + mkR S j t mi))
def instM (S : Sg) (j t : Nat) : Decidable (mayT S j t) := by unfold mayT; exact inferInstance
def instO (S : Sg) (j t mi : Nat) (row col : Int) : Decidable (offS S j t mi row col) := by unfold offS; exact inferInstance
def reasonS (S : Sg) (P : List Pc) (j t mi : Nat) (row col : Int) : Int :=
  if szS S j = 0 then 101 else
  if @decide (mayT S j t) (instM S j t) = false then 116 else
  if mi = 1 ∧ (paS S j = 0 ∨ fdS S = 1) then 109 else
  if @decide (offS S j t mi row col) (instO S j t mi row col) then 111 else
  if anyC (dB S j) t mi (fun r c => badS S (row.toNat + r) (col.toNat + c)) then 102 else
  if anyC (dB S j) t mi (fun r c => decide (clo S P (12 * (row.toNat + r) + (col.toNat + c)) ≠ -1)) then 112 else
  if strp S P j t mi row then 115 else 45
def sumN (f : Nat → Nat) : Nat → Nat
  | 0 => 0
  | n + 1 => sumN f n + f n
def pppS (S : Sg) (j : Nat) : Nat := if paS S j = 1 then 2 else 1
def garS (S : Sg) (j : Nat) : Nat := sumN (fun y => mdS S y * (ctS S y j * pppS S j)) 4
def eS (S : Sg) (j : Nat) : Nat := stS S j 0 + stS S j 1 + garS S j
def cutS (S : Sg) : Nat := sumN (eS S) (nsS S)
def lenS (S : Sg) : List Pc → Nat
  | [] => 0
  | p :: P => max (pRow p + (hgt (dB S (pShp p)) (pTrn p) (pMir p)).toNat) (lenS S P)
def usedS (S : Sg) (P : List Pc) : Nat := (P.map fun p => szS S (pShp p)).sum
/-- what holds of the pieces of a marker -/
def PInv (S : Sg) (P : List Pc) (nx : Nat) : Prop :=
  (∀ p ∈ P, pShp p < nsS S ∧ 0 < szS S (pShp p) ∧ pTrn p < 4 ∧ pMir p ≤ 1 ∧ (fdS S = 1 → pMir p = 0) ∧ pNum p < nx ∧ ((pRow p : Int) + hgt (dB S (pShp p)) (pTrn p) (pMir p) ≤ 60) ∧ ((pCol p : Int) + wid (dB S (pShp p)) (pTrn p) (pMir p) ≤ colsS S)) ∧
  P.Pairwise (fun p q => pNum p < pNum q ∧ ∀ r c, ¬ (cv S p r c = true ∧ cv S q r c = true)) ∧
  ∀ p ∈ P, ∀ q ∈ P, gpS S (pShp p) = gpS S (pShp q) → gpS S (pShp p) ≠ 0 → 2 ≤ srS S → remP S p = remP S q
end
section
/-! what the memory of the system says of the abstract state -/
def Fr (K : Nat → Nat → Prop) (M M' : Mem) : Prop := ∀ k i, ¬ K k i → M'.1 k i = M.1 k i ∧ M'.2.1 k i = M.2.1 k i ∧ M'.2.2.1 k i = M.2.2.1 k i ∧ M'.2.2.2 k i = M.2.2.2 k i
theorem Fr.rf {K : Nat → Nat → Prop} {M : Mem} : Fr K M M := fun _ _ _ => ⟨rfl, rfl, rfl, rfl⟩
theorem Fr.tr {K : Nat → Nat → Prop} {M M' M'' : Mem} (h1 : Fr K M M') (h2 : Fr K M' M'') : Fr K M M'' := fun k i hk => by
  obtain ⟨a1, a2, a3, a4⟩ := h1 k i hk
  obtain ⟨b1, b2, b3, b4⟩ := h2 k i hk
  exact ⟨b1.trans a1, b2.trans a2, b3.trans a3, b4.trans a4⟩
theorem Fr.mono {K L : Nat → Nat → Prop} {M M' : Mem} (h : Fr K M M') (hKL : ∀ k i, K k i → L k i) : Fr L M M' := fun k i hk => h k i (fun q => hk (hKL k i q))
theorem Fr.uI {K : Nat → Nat → Prop} {M M' : Mem} {k i s : Nat} {v : Int} (h : Fr K M M') (hk : K k i) : Fr K M (uI M' k i s v) := fun k' i' hk' => by
  have e9 : ¬ (k' = k ∧ i' = i) := fun q => hk' (by rw [q.1, q.2]; exact hk)
  obtain ⟨a1, a2, a3, a4⟩ := h k' i' hk'
  exact ⟨(up3_off M'.1 s v e9).trans a1, a2, a3, a4⟩
theorem Fr.uR {K : Nat → Nat → Prop} {M M' : Mem} {k i s : Nat} {v : Option Nat} (h : Fr K M M') (hk : K k i) : Fr K M (uR M' k i s v) := fun k' i' hk' => by
  have e9 : ¬ (k' = k ∧ i' = i) := fun q => hk' (by rw [q.1, q.2]; exact hk)
  obtain ⟨a1, a2, a3, a4⟩ := h k' i' hk'
  exact ⟨a1, (up3_off M'.2.1 s v e9).trans a2, a3, a4⟩
theorem Fr.uL {K : Nat → Nat → Prop} {M M' : Mem} {k i s : Nat} {v : Int} (h : Fr K M M') (hk : K k i) : Fr K M (uL M' k i s v) := fun k' i' hk' => by
  have e9 : ¬ (k' = k ∧ i' = i) := fun q => hk' (by rw [q.1, q.2]; exact hk)
  obtain ⟨a1, a2, a3, a4⟩ := h k' i' hk'
  exact ⟨a1, a2, (up3_off M'.2.2.1 s v e9).trans a3, a4⟩
theorem uI_get (M : Mem) (k i s : Nat) (v : Int) (k' i' s' : Nat) : (uI M k i s v).1 k' i' s' = if k' = k ∧ i' = i ∧ s' = s then v else M.1 k' i' s' := rfl
theorem uR_get (M : Mem) (k i s : Nat) (v : Option Nat) (k' i' s' : Nat) : (uR M k i s v).2.1 k' i' s' = if k' = k ∧ i' = i ∧ s' = s then v else M.2.1 k' i' s' := rfl
theorem uL_get (M : Mem) (k i s : Nat) (v : Int) (k' i' s' : Nat) : (uL M k i s v).2.2.1 k' i' s' = if k' = k ∧ i' = i ∧ s' = s then v else M.2.2.1 k' i' s' := rfl
theorem uI_r (M : Mem) (k i s : Nat) (v : Int) : (uI M k i s v).2 = M.2 := rfl
theorem uR_i (M : Mem) (k i s : Nat) (v : Option Nat) : (uR M k i s v).1 = M.1 := rfl
theorem uR_l (M : Mem) (k i s : Nat) (v : Option Nat) : (uR M k i s v).2.2 = M.2.2 := rfl
theorem uL_i (M : Mem) (k i s : Nat) (v : Int) : (uL M k i s v).1 = M.1 := rfl
theorem uL_r (M : Mem) (k i s : Nat) (v : Int) : (uL M k i s v).2.1 = M.2.1 := rfl
/-- the numbers' ranges -/
def GInv (S : Sg) : Prop :=
  (2 ≤ wdS S ∧ wdS S ≤ 12) ∧ npS S ≤ 1 ∧ fdS S ≤ 1 ∧ srS S ≤ 6 ∧ nfS S ≤ 12 ∧ nsS S ≤ 8 ∧ ntS S ≤ 4 ∧
  (∀ r c, r < 60 → c < 12 → flS S (12 * r + c) ≠ 0 → c < wdS S) ∧ (∀ k, k < 720 → flS S k ≤ 1) ∧
  (∀ j, paS S j ≤ 1 ∧ gpS S j ≤ 4 ∧ mrS S j ≤ 4 ∧ mcS S j ≤ 4 ∧ szS S j ≤ 25 ∧ ruS S j ≤ 127 ∧ stS S j 0 ≤ 9999 ∧ stS S j 1 ≤ 9999 ∧ ∀ k, drS S j k ≤ 1) ∧
  (∀ y j, ctS S y j ≤ 4) ∧ rlS S ≤ 999999
def RepCt (S : Sg) (M : Mem) : Prop := M.1 1 0 0 = wdS S ∧ M.1 1 0 1 = npS S ∧ M.1 1 0 2 = fdS S ∧ M.1 1 0 3 = srS S ∧ M.1 1 0 4 = nfS S ∧ ∀ r, r < 60 → M.1 20 0 r = (bitsN (fun c => decide (flS S (12 * r + c) ≠ 0)) 12 : Nat)
def RepCl (S : Sg) (M : Mem) : Prop := RepCt S M ∧ ∀ r, r < 60 → M.1 21 0 r = (bitsN (badS S r) 12 : Nat)
def RepOu (S : Sg) (j o : Nat) (M : Mem) : Prop := M.1 5 (8 * j + o) 0 = (o % 4 : Nat) ∧ M.1 5 (8 * j + o) 1 = (o / 4 : Nat) ∧
  (0 < szS S j → (∀ r, r < 5 → M.1 31 (8 * j + o) r = (bitsN (nc (dB S j) (o % 4) (o / 4) r) 5 : Nat)) ∧ M.1 5 (8 * j + o) 3 = hgt (dB S j) (o % 4) (o / 4) ∧ M.1 5 (8 * j + o) 4 = wid (dB S j) (o % 4) (o / 4) ∧ M.1 5 (8 * j + o) 5 = mkR S j (o % 4) (o / 4))
def RepS1 (S : Sg) (j : Nat) (M : Mem) : Prop := M.1 4 j 0 = ruS S j ∧ M.1 4 j 1 = paS S j ∧ M.1 4 j 4 = szS S j ∧ M.1 4 j 5 = (gpS S j : Int) - 1 ∧ M.1 4 j 6 = mrS S j ∧ M.1 4 j 7 = mcS S j ∧ (∀ r, r < 5 → M.1 30 j r = (bitsN (fun c => dB S j (5 * r + c)) 5 : Nat)) ∧
  (0 < szS S j ↔ ∃ k, k < 25 ∧ dB S j k = true)
def RepS2 (S : Sg) (j : Nat) (M : Mem) : Prop := M.1 4 j 8 = stS S j 0 ∧ M.1 4 j 9 = stS S j 1 ∧ M.2.2.1 4 j 10 = eS S j
def RepSh (S : Sg) (M : Mem) : Prop := ∀ j, j < nsS S → RepS1 S j M ∧ RepS2 S j M ∧ ∀ o, o < 8 → M.2.1 13 j o = some (8 * j + o) ∧ RepOu S j o M
def RepPc (p : Pc) (id : Nat) (M : Mem) : Prop := M.1 3 id 0 = pNum p ∧ M.2.1 3 id 1 = some (pShp p) ∧ M.2.1 3 id 2 = some (8 * pShp p + (pTrn p + 4 * pMir p)) ∧ M.1 3 id 3 = pTrn p ∧ M.1 3 id 4 = pRow p ∧ M.1 3 id 5 = pCol p ∧ M.1 3 id 6 = pMir p
def RepMk (mi : Nat) (S : Sg) (P : List Pc) (nx : Nat) (M : Mem) : Prop :=
  M.1 2 mi 1 = P.length ∧ M.1 2 mi 2 = nx ∧
  (∃ f : Nat → Nat, (∀ i, i < 40 → f i < 40 ∧ M.2.1 12 mi i = some (40 * mi + f i)) ∧ (∀ i j, i < 40 → j < 40 → f i = f j → i = j) ∧ ∀ i p, P[i]? = some p → RepPc p (40 * mi + f i) M) ∧
  (∀ k, k < 720 → M.1 22 mi k = clo S P k) ∧ (∀ r, r < 60 → M.1 23 mi r = (bitsN (fun c => decide (clo S P (12 * r + c) ≠ -1)) 12 : Nat)) ∧
  (∀ g, g < 4 → M.1 24 mi g = inGr S P (g + 1)) ∧ ∀ p, p ∈ P → gpS S (pShp p) ≠ 0 → M.1 25 mi (gpS S (pShp p) - 1) = remP S p
def RepSt (S : Sg) (M : Mem) : Prop := ∀ y, y < ntS S → (∀ j, j < 8 → M.1 32 y j = ctS S y j) ∧ M.1 6 y 1 = mdS S y
def RepRm (S : Sg) (M : Mem) : Prop := M.1 0 0 3 = nsS S ∧ M.1 0 0 5 = ntS S ∧ M.1 0 0 6 = rlS S ∧ (∀ j, j < 8 → M.2.1 10 0 j = if j < nsS S then some j else none) ∧ ∀ y, y < 4 → M.2.1 11 0 y = if y < ntS S then some y else none
theorem RepCt.fr {S : Sg} {K : Nat → Nat → Prop} {M M' : Mem} (hF : Fr K M M') (h1 : ¬ K 1 0) (h20 : ¬ K 20 0) (h : RepCt S M) : RepCt S M' := by
  obtain ⟨a1, a2, a3, a4, a5, a6⟩ := h
  have f1 := (hF 1 0 h1).1
  have f2 := (hF 20 0 h20).1
  exact ⟨by rw [f1]; exact a1, by rw [f1]; exact a2, by rw [f1]; exact a3, by rw [f1]; exact a4, by rw [f1]; exact a5, fun r hr => by rw [f2]; exact a6 r hr⟩
theorem RepCl.fr {S : Sg} {K : Nat → Nat → Prop} {M M' : Mem} (hF : Fr K M M') (h1 : ¬ K 1 0) (h20 : ¬ K 20 0) (h21 : ¬ K 21 0) (h : RepCl S M) : RepCl S M' :=
  ⟨h.1.fr hF h1 h20, fun r hr => by rw [(hF 21 0 h21).1]; exact h.2 r hr⟩
theorem RepOu.fr {S : Sg} {j o : Nat} {K : Nat → Nat → Prop} {M M' : Mem} (hF : Fr K M M') (h5 : ¬ K 5 (8 * j + o)) (h31 : ¬ K 31 (8 * j + o)) (h : RepOu S j o M) : RepOu S j o M' := by
  obtain ⟨a1, a2, a3⟩ := h
  have f1 := (hF _ _ h5).1
  have f2 := (hF _ _ h31).1
  refine ⟨by rw [f1]; exact a1, by rw [f1]; exact a2, fun hz => ?_⟩
  obtain ⟨b1, b2, b3, b4⟩ := a3 hz
  exact ⟨fun r hr => by rw [f2]; exact b1 r hr, by rw [f1]; exact b2, by rw [f1]; exact b3, by rw [f1]; exact b4⟩
theorem RepS1.fr {S : Sg} {j : Nat} {K : Nat → Nat → Prop} {M M' : Mem} (hF : Fr K M M') (h4 : ¬ K 4 j) (h30 : ¬ K 30 j) (h : RepS1 S j M) : RepS1 S j M' := by
  obtain ⟨a1, a2, a3, a4, a5, a6, a7, a8⟩ := h
  have f1 := (hF _ _ h4).1
  have f2 := (hF _ _ h30).1
  exact ⟨by rw [f1]; exact a1, by rw [f1]; exact a2, by rw [f1]; exact a3, by rw [f1]; exact a4, by rw [f1]; exact a5, by rw [f1]; exact a6, fun r hr => by rw [f2]; exact a7 r hr, a8⟩
theorem RepS2.fr {S : Sg} {j : Nat} {K : Nat → Nat → Prop} {M M' : Mem} (hF : Fr K M M') (h4 : ¬ K 4 j) (h : RepS2 S j M) : RepS2 S j M' := by
  obtain ⟨a1, a2, a3⟩ := h
  obtain ⟨f1, -, f3, -⟩ := hF _ _ h4
  exact ⟨by rw [f1]; exact a1, by rw [f1]; exact a2, by rw [f3]; exact a3⟩
theorem RepSh.fr {S : Sg} {K : Nat → Nat → Prop} {M M' : Mem} (hF : Fr K M M') (hk : ∀ i, ¬ K 4 i ∧ ¬ K 5 i ∧ ¬ K 13 i ∧ ¬ K 30 i ∧ ¬ K 31 i) (h : RepSh S M) : RepSh S M' := by
  intro j hj
  obtain ⟨a1, a2, a3⟩ := h j hj
  refine ⟨a1.fr hF (hk j).1 (hk j).2.2.2.1, a2.fr hF (hk j).1, fun o ho => ?_⟩
  obtain ⟨b1, b2⟩ := a3 o ho
  exact ⟨by rw [(hF 13 j (hk j).2.2.1).2.1]; exact b1, b2.fr hF (hk _).2.1 (hk _).2.2.2.2⟩
theorem RepPc.fr {p : Pc} {id : Nat} {K : Nat → Nat → Prop} {M M' : Mem} (hF : Fr K M M') (h3 : ¬ K 3 id) (h : RepPc p id M) : RepPc p id M' := by
  obtain ⟨a1, a2, a3, a4, a5, a6, a7⟩ := h
  obtain ⟨f1, f2, -, -⟩ := hF _ _ h3
  exact ⟨by rw [f1]; exact a1, by rw [f2]; exact a2, by rw [f2]; exact a3, by rw [f1]; exact a4, by rw [f1]; exact a5, by rw [f1]; exact a6, by rw [f1]; exact a7⟩
theorem RepMk.fr {mi : Nat} {S : Sg} {P : List Pc} {nx : Nat} {K : Nat → Nat → Prop} {M M' : Mem} (hP : P.length ≤ 40) (hF : Fr K M M') (hk : ¬ K 2 mi ∧ ¬ K 12 mi ∧ ¬ K 22 mi ∧ ¬ K 23 mi ∧ ¬ K 24 mi ∧ ¬ K 25 mi) (h3 : ∀ i, i < 40 → ¬ K 3 (40 * mi + i)) (h : RepMk mi S P nx M) : RepMk mi S P nx M' := by
  obtain ⟨a1, a2, ⟨f, b1, b2, b3⟩, a4, a5, a6, a7⟩ := h
  obtain ⟨k2, k12, k22, k23, k24, k25⟩ := hk
  refine ⟨by rw [(hF _ _ k2).1]; exact a1, by rw [(hF _ _ k2).1]; exact a2, ⟨f, fun i hi => ?_, b2, fun i p hp => ?_⟩, fun k h => by rw [(hF _ _ k22).1]; exact a4 k h, fun k h => by rw [(hF _ _ k23).1]; exact a5 k h, fun k h => by rw [(hF _ _ k24).1]; exact a6 k h, fun p hp hg => by rw [(hF _ _ k25).1]; exact a7 p hp hg⟩
  · rw [(hF _ _ k12).2.1]; exact b1 i hi
  · have hi : i < 40 := Nat.lt_of_lt_of_le (List.getElem?_eq_some_iff.mp hp).1 hP
    exact (b3 i p hp).fr hF (h3 _ (b1 i hi).1)
theorem RepSt.fr {S : Sg} {K : Nat → Nat → Prop} {M M' : Mem} (hF : Fr K M M') (hk : ∀ i, ¬ K 6 i ∧ ¬ K 32 i) (h : RepSt S M) : RepSt S M' := fun y hy =>
  ⟨fun j hj => by rw [(hF _ _ (hk y).2).1]; exact (h y hy).1 j hj, by rw [(hF _ _ (hk y).1).1]; exact (h y hy).2⟩
theorem RepRm.fr {S : Sg} {K : Nat → Nat → Prop} {M M' : Mem} (hF : Fr K M M') (h0 : ¬ K 0 0) (h10 : ¬ K 10 0) (h11 : ¬ K 11 0) (h : RepRm S M) : RepRm S M' := by
  obtain ⟨a1, a2, a3, a4, a5⟩ := h
  exact ⟨by rw [(hF _ _ h0).1]; exact a1, by rw [(hF _ _ h0).1]; exact a2, by rw [(hF _ _ h0).1]; exact a3, fun j hj => by rw [(hF _ _ h10).2.1]; exact a4 j hj, fun j hj => by rw [(hF _ _ h11).2.1]; exact a5 j hj⟩
end
section
section Fill
variable {l : Launch} {b0 : Nat} {ad : Ads} {ns nt : Nat} {M : Mem}
theorem c_J7_fill (hl : l.stackTraces = false) {k i n : Nat} (hk : IA k n) (hin : inD ns nt k i) (v : Int) : Con l b0 yJ7_fill_53178 cJ7_fill_53178 4 none 1 0 0 [aO k i, aI v] ad ns nt M (fun r M' => Fr (fun k' i' => k' = k ∧ i' = i) M M' ∧ M'.2 = M.2 ∧ (∀ j, j < n → M'.1 k i j = v) ∧ (∀ j, n ≤ j → M'.1 k i j = M.1 k i j) ∧ r = none) noX := by
  have hn := hk.1
  refine Con.of hl pl_J7 (Nat.le_of_ble_eq_true rfl) ?_
  intro D cA p e s m args below meth c C hr
  have loop : ∀ (d q : Nat) (M1 : Mem), q + d = n → Fr (fun k' i' => k' = k ∧ i' = i) M M1 → M1.2 = M.2 → (∀ j, j < q → M1.1 k i j = v) → (∀ j, n ≤ j → M1.1 k i j = M.1 k i j) → Wm p l e (rmd 1 0 0) s m args below meth c 4 D cA b0 0 0 (vx_MQ below (mQ D cA b0 ad ns nt (fun r M' => Fr (fun k' i' => k' = k ∧ i' = i) M M' ∧ M'.2 = M.2 ∧ (∀ j, j < n → M'.1 k i j = v) ∧ (∀ j, n ≤ j → M'.1 k i j = M.1 k i j) ∧ r = none)) (mX D cA b0 ad ns nt noX) args s 0 0 (fun q => b0 ≤ q)) 5 [(0, aO k i), (1, aI v), (2, aI q), (3, aI n)] [] ad ns nt M1 := by
    intro d
    induction d with
    | zero =>
      intro q M1 hq hF hr2 hj hj2
      refine w_iload_n C dJ7_fill_53178_5 rfl ?_
      refine w_iload_n C dJ7_fill_53178_6 rfl ?_
      refine w_icmp_ge C dJ7_fill_53178_7 (by omega) (by omega) (fun h7 => ?_) (fun h7 => ?_)
      · refine w_vret C hr dJ7_fill_53178_20 (⟨hF, hr2, fun j h => hj j (by omega), hj2, rfl⟩) (by decide) (by decide)
      · omega
    | succ d ih =>
      intro q M1 hq hF hr2 hj hj2
      refine w_iload_n C dJ7_fill_53178_5 rfl ?_
      refine w_iload_n C dJ7_fill_53178_6 rfl ?_
      refine w_icmp_ge C dJ7_fill_53178_7 (by omega) (by omega) (fun h7 => ?_) (fun h7 => ?_)
      · omega
      · refine w_aload_n C dJ7_fill_53178_10 rfl ?_
        refine w_iload_n C dJ7_fill_53178_11 rfl ?_
        refine w_iload_n C dJ7_fill_53178_12 rfl ?_
        refine w_iast C dJ7_fill_53178_13 (by first | assumption | exact Nat.zero_lt_one | exact Nat.zero_lt_two | exact Nat.one_lt_two) hk (by omega) ?_
        refine w_iinc C dJ7_fill_53178_14 rfl (by decide) ?_
        refine w_goto C dJ7_fill_53178_17 ?_
        refine Wm.lsub (lv' := [(0, aO k i), (1, aI v), (2, aI ((q + 1 : Nat) : Int)), (3, aI n)]) ⟨rfl, rfl, rfl, rfl, trivial⟩ (ih (q + 1) _ (by omega) (hF.uI ⟨rfl, rfl⟩) hr2 (fun j h => ?_) (fun j h => ?_))
        · rw [uI_get]
          split
          · rfl
          · rename_i h9
            refine hj j ?_
            have : j ≠ q := fun h8 => h9 ⟨rfl, rfl, h8⟩
            omega
        · rw [uI_get, if_neg (fun h9 => by have := h9.2.2; omega)]
          exact hj2 j h
  refine w_iconst C dJ7_fill_53178_0 ?_
  refine w_istore_n C dJ7_fill_53178_1 (by decide) ?_
  refine w_aload_n C dJ7_fill_53178_2 rfl ?_
  refine w_alen C dJ7_fill_53178_3 hin (Or.inl hk) ?_
  refine w_istore_n C dJ7_fill_53178_4 (by decide) ?_
  exact Wm.lsub (lv' := [(0, aO k i), (1, aI v), (2, aI ((0 : Nat) : Int)), (3, aI n)]) ⟨rfl, rfl, rfl, rfl, trivial⟩ (loop n 0 M (Nat.zero_add _) Fr.rf rfl (fun j h => absurd h (Nat.not_lt_zero j)) (fun j _ => rfl))
end Fill
end
section
/-! Cloth -/
def spK : Nat → Nat → Prop := fun k i => k = 21 ∧ i = 0
def ctK : Nat → Nat → Prop := fun k i => (k = 1 ∨ k = 20 ∨ k = 21) ∧ i = 0
theorem bits12 {f : Nat → Bool} : bitsN f 12 < 4096 := bitsN_lt f 12
theorem rd_ok {M : Mem} {k i n : Nat} {z : Nat} (h : z < n) : rd M k i n (z : Int) = M.1 k i z := by
  unfold rd
  rw [if_pos (by omega)]
  rfl
theorem wr_ok {M : Mem} {k i n : Nat} {z : Nat} {v : Int} (h : z < n) : wr M k i n (z : Int) v = uI M k i z v := by
  unfold wr
  rw [if_pos (by omega)]
  rfl
theorem tb_or_shl (b k i : Nat) : (b ||| 1 * 2 ^ k).testBit i = (b.testBit i || decide (k = i)) := by
  rw [Nat.testBit_or, Nat.one_mul, Nat.testBit_two_pow]
section Cloth
variable {l : Launch} {b0 : Nat} {ad : Ads} {ns nt : Nat} {M : Mem}
theorem c_X0_openColumns (hl : l.stackTraces = false) {S : Sg} (hG : GInv S) (hM : RepCt S M) : Con l b0 yX0_openColumns cX0_openColumns 1 (some .int) 1 0 0 [aO 1 0] ad ns nt M (fun r M' => M' = M ∧ r = some (aI (colsS S))) noX := by
  obtain ⟨h1, h2, h3, h4, h5, h6⟩ := hM
  obtain ⟨g1, g2, g3, -⟩ := hG
  refine Con.of hl pl_X0 (Nat.le_of_ble_eq_true rfl) ?_
  intro D cA p e s m args below meth c C hr
  refine w_aload_n C dX0_openColumns_0 rfl ?_
  refine g_X0_22 C dX0_openColumns_1 (by first | assumption | exact Nat.zero_lt_one | exact Nat.zero_lt_two | exact Nat.one_lt_two) ?_
  refine w_if_eq C dX0_openColumns_4 (by omega) (fun h4 => ?_) (fun h4 => ?_)
  · refine w_aload_n C dX0_openColumns_16 rfl ?_
    refine g_X0_9 C dX0_openColumns_17 (by first | assumption | exact Nat.zero_lt_one | exact Nat.zero_lt_two | exact Nat.one_lt_two) ?_
    refine w_iret C hr dX0_openColumns_20 rfl (⟨rfl, by rw [h1, colsS, if_neg (by omega)]⟩) (by decide) (by decide)
  · refine w_aload_n C dX0_openColumns_7 rfl ?_
    refine g_X0_9 C dX0_openColumns_8 (by first | assumption | exact Nat.zero_lt_one | exact Nat.zero_lt_two | exact Nat.one_lt_two) ?_
    refine w_iconst C dX0_openColumns_11 ?_
    refine w_idiv C dX0_openColumns_12 (by omega) (by omega) ?_
    refine w_goto C dX0_openColumns_13 ?_
    refine w_iret C hr dX0_openColumns_20 rfl (⟨rfl, by rw [h1, colsS, if_pos (by omega)]; rfl⟩) (by decide) (by decide)
theorem c_X0_isStriped (hl : l.stackTraces = false) {S : Sg} (hG : GInv S) (hM : RepCt S M) : Con l b0 yX0_isStriped cX0_isStriped 1 (some .boolean) 1 0 0 [aO 1 0] ad ns nt M (fun r M' => M' = M ∧ r = some (aI (b2 (2 ≤ srS S)))) noX := by
  obtain ⟨h1, h2, h3, h4, h5, h6⟩ := hM
  obtain ⟨g1, g2, g3, g4, -⟩ := hG
  refine Con.of hl pl_X0 (Nat.le_of_ble_eq_true rfl) ?_
  intro D cA p e s m args below meth c C hr
  refine w_aload_n C dX0_isStriped_0 rfl ?_
  refine g_X0_26 C dX0_isStriped_1 (by first | assumption | exact Nat.zero_lt_one | exact Nat.zero_lt_two | exact Nat.one_lt_two) ?_
  refine w_iconst C dX0_isStriped_4 ?_
  refine w_icmp_lt C dX0_isStriped_5 (by omega) (by omega) (fun h5 => ?_) (fun h5 => ?_)
  · refine w_iconst C dX0_isStriped_12 ?_
    refine w_iret C hr dX0_isStriped_13 (by first | exact narrow_z (b2_01 _) | exact narrow_z (by omega)) (⟨rfl, by rw [b2_f (by omega)]⟩) (by decide) (by decide)
  · refine w_iconst C dX0_isStriped_8 ?_
    refine w_goto C dX0_isStriped_9 ?_
    refine w_iret C hr dX0_isStriped_13 (by first | exact narrow_z (b2_01 _) | exact narrow_z (by omega)) (⟨rfl, by rw [b2_t (by omega)]⟩) (by decide) (by decide)
theorem c_X0_remainder (hl : l.stackTraces = false) {S : Sg} (hG : GInv S) (hM : RepCt S M) (z : Int) (hz : -2147483648 ≤ z ∧ z ≤ 2147483647) : Con l b0 yX0_remainder cX0_remainder 2 (some .int) 2 0 0 [aO 1 0, aI z] ad ns nt M (fun r M' => M' = M ∧ r = some (aI (remS S z))) noX := by
  obtain ⟨h1, h2, h3, h4, h5, h6⟩ := hM
  obtain ⟨g1, g2, g3, g4, -⟩ := hG
  refine Con.of hl pl_X0 (Nat.le_of_ble_eq_true rfl) ?_
  intro D cA p e s m args below meth c C hr
  refine w_aload_n C dX0_remainder_0 rfl ?_
  refine g_X0_26 C dX0_remainder_1 (by first | assumption | exact Nat.zero_lt_one | exact Nat.zero_lt_two | exact Nat.one_lt_two) ?_
  refine w_iconst C dX0_remainder_4 ?_
  refine w_icmp_lt C dX0_remainder_5 (by omega) (by omega) (fun h5 => ?_) (fun h5 => ?_)
  · refine w_iconst C dX0_remainder_19 ?_
    refine w_iret C hr dX0_remainder_20 rfl (⟨rfl, by rw [remS, if_neg (by omega)]⟩) (by decide) (by decide)
  · refine w_iload_n C dX0_remainder_8 rfl ?_
    refine w_aload_n C dX0_remainder_9 rfl ?_
    refine g_X0_26 C dX0_remainder_10 (by first | assumption | exact Nat.zero_lt_one | exact Nat.zero_lt_two | exact Nat.one_lt_two) ?_
    refine w_floorMod C dX0_remainder_13 hz (by omega) ⟨by decide, by decide⟩ (Nat.le_of_ble_eq_true rfl) ?_
    refine w_goto C dX0_remainder_16 ?_
    refine w_iret C hr dX0_remainder_20 rfl (⟨rfl, by rw [h4, remS, if_pos (by omega)]⟩) (by decide) (by decide)
theorem c_X0_opposite (hl : l.stackTraces = false) {S : Sg} (hM : RepCt S M) (z : Int) : Con l b0 yX0_opposite cX0_opposite 2 (some .int) 1 0 0 [aO 1 0, aI z] ad ns nt M (fun r M' => M' = M ∧ r = some (aI (wdS S - 1 - z))) noX := by
  obtain ⟨h1, h2, h3, h4, h5, h6⟩ := hM
  refine Con.of hl pl_X0 (Nat.le_of_ble_eq_true rfl) ?_
  intro D cA p e s m args below meth c C hr
  refine w_aload_n C dX0_opposite_0 rfl ?_
  refine g_X0_9 C dX0_opposite_1 (by first | assumption | exact Nat.zero_lt_one | exact Nat.zero_lt_two | exact Nat.one_lt_two) ?_
  refine w_iconst C dX0_opposite_4 ?_
  refine w_isub C dX0_opposite_5 ?_
  refine w_iload_n C dX0_opposite_6 rfl ?_
  refine w_isub C dX0_opposite_7 ?_
  refine w_iret C hr dX0_opposite_8 rfl (⟨rfl, by rw [h1]⟩) (by decide) (by decide)
theorem c_X0_isTold (hl : l.stackTraces = false) {S : Sg} (hM : RepCt S M) (r c : Nat) (hr0 : r < 60) (hc0 : c < 12) : Con l b0 yX0_isTold cX0_isTold 3 (some .boolean) 2 0 0 [aO 1 0, aI r, aI c] ad ns nt M (fun r9 M' => M' = M ∧ r9 = some (aI (b2 (flS S (12 * r + c) ≠ 0)))) noX := by
  obtain ⟨h1, h2, h3, h4, h5, h6⟩ := hM
  refine Con.of hl pl_X0 (Nat.le_of_ble_eq_true rfl) ?_
  intro D cA p e s m args below meth cd C hr
  refine w_aload_n C dX0_isTold_0 rfl ?_
  refine g_X0_15 C dX0_isTold_1 (by first | assumption | exact Nat.zero_lt_one | exact Nat.zero_lt_two | exact Nat.one_lt_two) ?_
  refine w_iload_n C dX0_isTold_4 rfl ?_
  refine w_callN C dX0_isTold_5 (c_X6_entry hl IA_20 Nat.zero_lt_one r (by omega)) mX6_entry sX6_entry lk_X0_38 rfl rfl ⟨by decide, by decide, by decide, by decide⟩ (Nat.le_of_ble_eq_true rfl) (fun _ _ h => h.elim) ⟨by decide, by decide⟩ (fun r_ M_ q5 => ?_)
  obtain ⟨rfl, rfl⟩ := q5
  refine w_iload_n C dX0_isTold_8 rfl ?_
  rw [rd_ok hr0, h6 r hr0]
  refine w_callN C dX0_isTold_9 (c_X6_hasBit hl _ c (Nat.lt_trans bits12 (by decide)) (by omega)) mX6_hasBit sX6_hasBit lk_X0_42 rfl rfl ⟨by decide, by decide, by decide, by decide⟩ (Nat.le_of_ble_eq_true rfl) (fun _ _ h => h.elim) ⟨by decide, by decide⟩ (fun r_ M_ q9 => ?_)
  obtain ⟨rfl, rfl⟩ := q9
  refine w_iret C hr dX0_isTold_12 (by first | exact narrow_z (b2_01 _) | exact narrow_z (by omega)) (⟨rfl, by rw [bitsN_tb, decide_eq_true hc0]; simp⟩) (by decide) (by decide)
theorem rev_tb (f : Nat → Bool) (w n : Nat) (hn : n < w) (hw : w ≤ 12) : ((bitsN (fun c => decide (c < w) && decide (w - 1 - c < n) && f (w - 1 - c)) 12) ||| (if f n then 1 * 2 ^ (w - 1 - n) else 0)) = bitsN (fun c => decide (c < w) && decide (w - 1 - c < n + 1) && f (w - 1 - c)) 12 := by
  refine bitsN_of fun i => ?_
  cases hf : f n with
  | false =>
    simp only [Bool.false_eq_true, if_false, Nat.or_zero]
    rw [bitsN_tb]
    by_cases h1 : i < w ∧ w - 1 - i = n
    · rw [h1.2, hf]; simp
    · by_cases h2 : i < w
      · rw [show decide (w - 1 - i < n) = decide (w - 1 - i < n + 1) from decide_eq_decide.mpr (by omega)]
      · simp [h2]
  | true =>
    simp only [if_true]
    rw [tb_or_shl, bitsN_tb]
    by_cases h1 : w - 1 - n = i
    · have e9 : w - 1 - i = n := by omega
      rw [e9, hf, decide_eq_true h1, decide_eq_true (show i < 12 by omega), decide_eq_true (show i < w by omega), decide_eq_true (show n < n + 1 by omega)]
      simp
    · rw [decide_eq_false h1, Bool.or_false]
      by_cases h2 : i < w
      · rw [show decide (w - 1 - i < n) = decide (w - 1 - i < n + 1) from decide_eq_decide.mpr (by omega)]
      · simp [h2]
theorem c_X0_reversed (hl : l.stackTraces = false) {S : Sg} (hG : GInv S) (hM : RepCt S M) (f : Nat → Bool) : Con l b0 yX0_reversed cX0_reversed 4 (some .int) 2 0 0 [aO 1 0, aI (bitsN f 12 : Nat)] ad ns nt M (fun r M' => M' = M ∧ r = some (aI (bitsN (fun c => decide (c < wdS S) && f (wdS S - 1 - c)) 12 : Nat))) noX := by
  have hM0 := hM
  obtain ⟨h1, h2, h3, h4, h5, h6⟩ := hM
  obtain ⟨g1, -⟩ := hG
  refine Con.of hl pl_X0 (Nat.le_of_ble_eq_true rfl) ?_
  intro D cA p e s m args below meth c C hr
  have loop : ∀ (k n : Nat), n + k = wdS S → Wm p l e (rmd 2 0 0) s m args below meth c 4 D cA b0 0 0 (vx_MQ below (mQ D cA b0 ad ns nt (fun r M' => M' = M ∧ r = some (aI (bitsN (fun c => decide (c < wdS S) && f (wdS S - 1 - c)) 12 : Nat)))) (mX D cA b0 ad ns nt noX) args s 0 0 (fun q => b0 ≤ q)) 4 [(0, aO 1 0), (1, aI (bitsN f 12 : Nat)), (2, aI (bitsN (fun c => decide (c < wdS S) && decide (wdS S - 1 - c < n) && f (wdS S - 1 - c)) 12 : Nat)), (3, aI n)] [] ad ns nt M := by
    intro k
    induction k with
    | zero =>
      intro n hn
      refine w_iload_n C dX0_reversed_4 rfl ?_
      refine w_aload_n C dX0_reversed_5 rfl ?_
      refine g_X0_9 C dX0_reversed_6 (by first | assumption | exact Nat.zero_lt_one | exact Nat.zero_lt_two | exact Nat.one_lt_two) ?_
      refine w_icmp_ge C dX0_reversed_9 (by omega) (by omega) (fun h9 => ?_) (fun h9 => ?_)
      · refine w_iload_n C dX0_reversed_36 rfl ?_
        refine w_iret C hr dX0_reversed_37 rfl (⟨rfl, ?_⟩) (by decide) (by decide)
        refine congrArg (fun z : Nat => some (aI (z : Int))) (bitsN_cg fun i hi => ?_)
        by_cases h : i < wdS S
        · rw [decide_eq_true (show wdS S - 1 - i < n by omega), Bool.and_true]
        · simp [h]
      · omega
    | succ k ih =>
      intro n hn
      have hrv := rev_tb f (wdS S) n (by omega) (by omega)
      have hbl : bitsN (fun c => decide (c < wdS S) && decide (wdS S - 1 - c < n) && f (wdS S - 1 - c)) 12 < 4096 := bits12
      refine w_iload_n C dX0_reversed_4 rfl ?_
      refine w_aload_n C dX0_reversed_5 rfl ?_
      refine g_X0_9 C dX0_reversed_6 (by first | assumption | exact Nat.zero_lt_one | exact Nat.zero_lt_two | exact Nat.one_lt_two) ?_
      refine w_icmp_ge C dX0_reversed_9 (by omega) (by omega) (fun h9 => ?_) (fun h9 => ?_)
      · omega
      · refine w_iload_n C dX0_reversed_12 rfl ?_
        refine w_iload_n C dX0_reversed_13 rfl ?_
        refine w_callN C dX0_reversed_14 (c_X6_hasBit hl _ n (Nat.lt_trans bits12 (by decide)) (by omega)) mX6_hasBit sX6_hasBit lk_X0_42 rfl rfl ⟨by decide, by decide, by decide, by decide⟩ (Nat.le_of_ble_eq_true rfl) (fun _ _ h => h.elim) ⟨by decide, by decide⟩ (fun r_ M_ q14 => ?_)
        obtain ⟨rfl, rfl⟩ := q14
        have hb := bitsN_tb f 12 n
        rw [decide_eq_true (by omega : n < 12), Bool.true_and] at hb
        rw [hb]
        have h01 := b2_01 (f n = true)
        refine w_if_eq C dX0_reversed_17 (by omega) (fun h17 => ?_) (fun h17 => ?_)
        · refine w_iinc C dX0_reversed_30 rfl (by decide) ?_
          refine w_goto C dX0_reversed_33 ?_
          refine Wm.lsub (lv' := [(0, aO 1 0), (1, aI (bitsN f 12 : Nat)), (2, aI (bitsN (fun c => decide (c < wdS S) && decide (wdS S - 1 - c < n + 1) && f (wdS S - 1 - c)) 12 : Nat)), (3, aI ((n + 1 : Nat) : Int))]) ⟨rfl, rfl, ?_, rfl, trivial⟩ (ih (n + 1) (by omega))
          have hfn : f n = false := by
            cases hf : f n
            · rfl
            · rw [b2_t hf] at h17; omega
          simp only [hfn, Bool.false_eq_true, if_false, Nat.or_zero] at hrv
          rw [← hrv]
          rfl
        · have hfn : f n = true := Decidable.byContradiction fun q => h17 (b2_f q)
          refine w_iload_n C dX0_reversed_20 rfl ?_
          refine w_iconst C dX0_reversed_21 ?_
          refine w_aload_n C dX0_reversed_22 rfl ?_
          refine w_iload_n C dX0_reversed_23 rfl ?_
          refine w_callV C dX0_reversed_24 (c_X0_opposite hl hM0 n) mX0_opposite vX0_opposite lk_X0_63 (by first | assumption | exact Nat.zero_lt_one | exact Nat.zero_lt_two | exact Nat.one_lt_two) rfl rfl rfl rfl ⟨by decide, by decide, by decide, by decide⟩ (Nat.le_of_ble_eq_true rfl) (fun _ _ h => h.elim) ⟨by decide, by decide⟩ (fun r_ M_ q24 => ?_)
          obtain ⟨rfl, rfl⟩ := q24
          refine Wm.top (v' := aI ((wdS S - 1 - n : Nat) : Int)) (by congr 1; omega) ?_
          refine w_ishl (x := 1) C dX0_reversed_27 (by omega) ?_
          have hp : 1 * 2 ^ (wdS S - 1 - n) ≤ 2 ^ 11 := by rw [Nat.one_mul]; exact Nat.pow_le_pow_right (by decide) (by omega)
          refine w_ior C dX0_reversed_28 (by omega) (by omega) ?_
          refine w_istore_n C dX0_reversed_29 (by decide) ?_
          refine w_iinc C dX0_reversed_30 rfl (by decide) ?_
          refine w_goto C dX0_reversed_33 ?_
          refine Wm.lsub (lv' := [(0, aO 1 0), (1, aI (bitsN f 12 : Nat)), (2, aI (bitsN (fun c => decide (c < wdS S) && decide (wdS S - 1 - c < n + 1) && f (wdS S - 1 - c)) 12 : Nat)), (3, aI ((n + 1 : Nat) : Int))]) ⟨rfl, rfl, ?_, rfl, trivial⟩ (ih (n + 1) (by omega))
          simp only [hfn, if_true] at hrv
          rw [← hrv]
          rfl
  refine w_iconst C dX0_reversed_0 ?_
  refine w_istore_n C dX0_reversed_1 (by decide) ?_
  refine w_iconst C dX0_reversed_2 ?_
  refine w_istore_n C dX0_reversed_3 (by decide) ?_
  refine Wm.lsub (lv' := [(0, aO 1 0), (1, aI (bitsN f 12 : Nat)), (2, aI (bitsN (fun c => decide (c < wdS S) && decide (wdS S - 1 - c < 0) && f (wdS S - 1 - c)) 12 : Nat)), (3, aI ((0 : Nat) : Int))]) ⟨rfl, rfl, ?_, rfl, trivial⟩ (loop _ 0 (Nat.zero_add _))
  have z0 : bitsN (fun c => decide (c < wdS S) && decide (wdS S - 1 - c < 0) && f (wdS S - 1 - c)) 12 = 0 := bitsN_0.mpr (fun i _ => by simp)
  rw [z0]
  rfl
/-- spoiled, out of told -/
theorem c_X0_spoilRows (hl : l.stackTraces = false) {S : Sg} (hG : GInv S) (hM : RepCt S M) : Con l b0 yX0_spoilRows cX0_spoilRows 3 none 3 0 0 [aO 1 0] ad ns nt M (fun r M' => Fr spK M M' ∧ RepCl S M' ∧ r = none) noX := by
  have hG0 := hG
  obtain ⟨g1, g2, g3, g4, -⟩ := hG
  refine Con.of hl pl_X0 (Nat.le_of_ble_eq_true rfl) ?_
  intro D cA p e s m args below meth c C hr
  have loop : ∀ (k n : Nat) (t : AV) (M1 : Mem), n + k = 60 → Fr spK M M1 → (∀ r, r < n → M1.1 21 0 r = (bitsN (badS S r) 12 : Nat)) → Wm p l e (rmd 3 0 0) s m args below meth c 3 D cA b0 0 0 (vx_MQ below (mQ D cA b0 ad ns nt (fun r M' => Fr spK M M' ∧ RepCl S M' ∧ r = none)) (mX D cA b0 ad ns nt noX) args s 0 0 (fun q => b0 ≤ q)) 2 [(0, aO 1 0), (1, aI n)] [] ad ns nt M1 := by
    intro k
    induction k with
    | zero =>
      intro n t M1 hn hF hb
      refine w_iload_n C dX0_spoilRows_2 rfl ?_
      refine w_bipush (v := 60) C dX0_spoilRows_3 rfl ?_
      refine w_icmp_ge C dX0_spoilRows_5 (by omega) (by omega) (fun h5 => ?_) (fun h5 => ?_)
      · refine w_vret C hr dX0_spoilRows_49 (⟨hF, ⟨RepCt.fr hF (by simp [spK]) (by simp [spK]) hM, fun r hr => hb r (by omega)⟩, rfl⟩) (by decide) (by decide)
      · omega
    | succ k ih =>
      intro n t M1 hn hF hb
      have hM1 : RepCt S M1 := RepCt.fr hF (by simp [spK]) (by simp [spK]) hM
      have hM1' := hM1
      obtain ⟨h1, h2, h3, h4, h5, h6⟩ := hM1'
      have step : ∀ (M2 : Mem), M2 = wr M1 21 0 60 n ((bitsN (badS S n) 12 : Nat) : Int) → Fr spK M M2 ∧ ∀ r, r < n + 1 → M2.1 21 0 r = (bitsN (badS S r) 12 : Nat) := by
        intro M2 hM2
        rw [wr_ok (by omega)] at hM2
        subst hM2
        refine ⟨hF.uI ⟨rfl, rfl⟩, fun r hr => ?_⟩
        rw [uI_get]
        split
        · rename_i q; rw [q.2.2]
        · exact hb r (by omega)
      refine w_iload_n C dX0_spoilRows_2 rfl ?_
      refine w_bipush (v := 60) C dX0_spoilRows_3 rfl ?_
      refine w_icmp_ge C dX0_spoilRows_5 (by omega) (by omega) (fun h5 => ?_) (fun h5 => ?_)
      · omega
      · refine w_aload_n C dX0_spoilRows_8 rfl ?_
        refine g_X0_15 C dX0_spoilRows_9 (by first | assumption | exact Nat.zero_lt_one | exact Nat.zero_lt_two | exact Nat.one_lt_two) ?_
        refine w_iload_n C dX0_spoilRows_12 rfl ?_
        refine w_callN C dX0_spoilRows_13 (c_X6_entry hl IA_20 Nat.zero_lt_one n (by omega)) mX6_entry sX6_entry lk_X0_38 rfl rfl ⟨by decide, by decide, by decide, by decide⟩ (Nat.le_of_ble_eq_true rfl) (fun _ _ h => h.elim) ⟨by decide, by decide⟩ (fun r_ M_ q13 => ?_)
        obtain ⟨rfl, rfl⟩ := q13
        rw [rd_ok (by omega), h6 n (by omega)]
        refine w_istore_n C dX0_spoilRows_16 (by decide) ?_
        refine w_aload_n C dX0_spoilRows_17 rfl ?_
        refine g_X0_19 C dX0_spoilRows_18 (by first | assumption | exact Nat.zero_lt_one | exact Nat.zero_lt_two | exact Nat.one_lt_two) ?_
        refine w_iload_n C dX0_spoilRows_21 rfl ?_
        refine w_aload_n C dX0_spoilRows_22 rfl ?_
        refine g_X0_22 C dX0_spoilRows_23 (by first | assumption | exact Nat.zero_lt_one | exact Nat.zero_lt_two | exact Nat.one_lt_two) ?_
        refine w_if_eq C dX0_spoilRows_26 (by omega) (fun h26 => ?_) (fun h26 => ?_)
        · refine w_iload_n C dX0_spoilRows_39 rfl ?_
          have e9 : bitsN (fun c => decide (flS S (12 * n + c) ≠ 0)) 12 = bitsN (badS S n) 12 := bitsN_cg fun i hi => by
            unfold badS
            rw [decide_eq_false (show ¬ fdS S = 1 by omega)]
            simp
          refine Wm.top (v' := aI ((bitsN (badS S n) 12 : Nat) : Int)) (by rw [e9]) ?_
          refine w_callN C dX0_spoilRows_40 (c_X6_store hl IA_21 Nat.zero_lt_one n _ (by omega)) mX6_store sX6_store lk_X0_46 rfl rfl ⟨by decide, by decide, by decide, by decide⟩ (Nat.le_of_ble_eq_true rfl) (fun _ _ h => h.elim) ⟨by decide, by decide⟩ (fun r_ M_ q40 => ?_)
          obtain ⟨q40, rfl⟩ := q40
          obtain ⟨s1, s2⟩ := step _ q40
          refine w_iinc C dX0_spoilRows_43 rfl (by decide) ?_
          refine w_goto C dX0_spoilRows_46 ?_
          exact Wm.lsub (lv' := [(0, aO 1 0), (1, aI ((n + 1 : Nat) : Int))]) ⟨rfl, rfl, trivial⟩ (ih (n + 1) t _ (by omega) s1 s2)
        · refine w_iload_n C dX0_spoilRows_29 rfl ?_
          refine w_aload_n C dX0_spoilRows_30 rfl ?_
          refine w_iload_n C dX0_spoilRows_31 rfl ?_
          refine w_callV C dX0_spoilRows_32 (c_X0_reversed hl hG0 hM1 _) mX0_reversed vX0_reversed lk_X0_59 (by first | assumption | exact Nat.zero_lt_one | exact Nat.zero_lt_two | exact Nat.one_lt_two) rfl rfl rfl rfl ⟨by decide, by decide, by decide, by decide⟩ (Nat.le_of_ble_eq_true rfl) (fun _ _ h => h.elim) ⟨by decide, by decide⟩ (fun r_ M_ q32 => ?_)
          obtain ⟨rfl, rfl⟩ := q32
          have a1 : bitsN (fun c => decide (flS S (12 * n + c) ≠ 0)) 12 < 4096 := bits12
          have a2 : bitsN (fun c => decide (c < wdS S) && decide (flS S (12 * n + (wdS S - 1 - c)) ≠ 0)) 12 < 4096 := bits12
          refine w_ior C dX0_spoilRows_35 (by omega) (by omega) ?_
          refine w_goto C dX0_spoilRows_36 ?_
          have e9 : bitsN (fun c => decide (flS S (12 * n + c) ≠ 0)) 12 ||| bitsN (fun c => decide (c < wdS S) && (fun c => decide (flS S (12 * n + c) ≠ 0)) (wdS S - 1 - c)) 12 = bitsN (badS S n) 12 := bitsN_of fun i => by
            rw [Nat.testBit_or, bitsN_tb, bitsN_tb]
            unfold badS
            rw [decide_eq_true (show fdS S = 1 by omega)]
            simp [Bool.and_or_distrib_left]
          refine Wm.top (v' := aI ((bitsN (badS S n) 12 : Nat) : Int)) (by rw [e9]) ?_
          refine w_callN C dX0_spoilRows_40 (c_X6_store hl IA_21 Nat.zero_lt_one n _ (by omega)) mX6_store sX6_store lk_X0_46 rfl rfl ⟨by decide, by decide, by decide, by decide⟩ (Nat.le_of_ble_eq_true rfl) (fun _ _ h => h.elim) ⟨by decide, by decide⟩ (fun r_ M_ q40 => ?_)
          obtain ⟨q40, rfl⟩ := q40
          obtain ⟨s1, s2⟩ := step _ q40
          refine w_iinc C dX0_spoilRows_43 rfl (by decide) ?_
          refine w_goto C dX0_spoilRows_46 ?_
          exact Wm.lsub (lv' := [(0, aO 1 0), (1, aI ((n + 1 : Nat) : Int))]) ⟨rfl, rfl, trivial⟩ (ih (n + 1) t _ (by omega) s1 s2)
  refine w_iconst C dX0_spoilRows_0 ?_
  refine w_istore_n C dX0_spoilRows_1 (by decide) ?_
  exact Wm.lsub (lv' := [(0, aO 1 0), (1, aI ((0 : Nat) : Int))]) ⟨rfl, rfl, trivial⟩ (loop 60 0 aN M rfl Fr.rf (fun r hr => absurd hr (Nat.not_lt_zero r)))
theorem c_X0_foldOrOpen (hl : l.stackTraces = false) {S : Sg} (hG : GInv S) (hM : RepCl S M) (z : Nat) (hz : z ≤ 1) : Con l b0 yX0_foldOrOpen cX0_foldOrOpen 2 none 4 0 0 [aO 1 0, aI z] ad ns nt M (fun r M' => Fr ctK M M' ∧ RepCl (up3 S 2 0 0 z) M' ∧ r = none) noX := by
  obtain ⟨⟨h1, h2, h3, h4, h5, h6⟩, h7⟩ := hM
  refine Con.of hl pl_X0 (Nat.le_of_ble_eq_true rfl) ?_
  intro D cA p e s m args below meth c C hr
  refine w_aload_n C dX0_foldOrOpen_0 rfl ?_
  refine w_iload_n C dX0_foldOrOpen_1 rfl ?_
  refine p_X0_22 C dX0_foldOrOpen_2 (by first | assumption | exact Nat.zero_lt_one | exact Nat.zero_lt_two | exact Nat.one_lt_two) (by omega) ?_
  refine w_aload_n C dX0_foldOrOpen_5 rfl ?_
  have hM1 : RepCt (up3 S 2 0 0 z) (uI M 1 0 2 z) := ⟨h1, h2, rfl, h4, h5, h6⟩
  have hG1 : GInv (up3 S 2 0 0 z) := by
    obtain ⟨g1, g2, g3, g4⟩ := hG
    exact ⟨g1, g2, hz, g4⟩
  refine w_callV C dX0_foldOrOpen_6 (c_X0_spoilRows hl hG1 hM1) mX0_spoilRows vX0_spoilRows lk_X0_35 (by first | assumption | exact Nat.zero_lt_one | exact Nat.zero_lt_two | exact Nat.one_lt_two) rfl rfl rfl rfl ⟨by decide, by decide, by decide, by decide⟩ (Nat.le_of_ble_eq_true rfl) (fun _ _ h => h.elim) ⟨by decide, by decide⟩ (fun r_ M_ q6 => ?_)
  obtain ⟨f1, f2, rfl⟩ := q6
  refine w_vret C hr dX0_foldOrOpen_9 (⟨(Fr.uI Fr.rf (by simp [ctK])).tr (f1.mono (fun k i q => by simp [spK] at q; simp [ctK, q])), f2, rfl⟩) (by decide) (by decide)
theorem c_X0_tell (hl : l.stackTraces = false) {S : Sg} (hG : GInv S) (hM : RepCl S M) (r c : Nat) (hr0 : r < 60) (hc0 : c < wdS S) (hf : flS S (12 * r + c) = 0) (hn : nfS S < 12) : Con l b0 yX0_tell cX0_tell 3 none 4 0 0 [aO 1 0, aI r, aI c] ad ns nt M (fun r9 M' => Fr ctK M M' ∧ RepCl (up3 (up3 S 5 0 (12 * r + c) 1) 4 0 0 (nfS S + 1)) M' ∧ r9 = none) noX := by
  have hG0 := hG
  obtain ⟨⟨h1, h2, h3, h4, h5, h6⟩, h7⟩ := hM
  obtain ⟨g1, g2, g3, g4, g5, g6, g7, g8, g9, g10⟩ := hG
  refine Con.of hl pl_X0 (Nat.le_of_ble_eq_true rfl) ?_
  intro D cA p e s m args below meth cd C hr
  refine w_aload_n C dX0_tell_0 rfl ?_
  refine g_X0_15 C dX0_tell_1 (by first | assumption | exact Nat.zero_lt_one | exact Nat.zero_lt_two | exact Nat.one_lt_two) ?_
  refine w_iload_n C dX0_tell_4 rfl ?_
  refine w_aload_n C dX0_tell_5 rfl ?_
  refine g_X0_15 C dX0_tell_6 (by first | assumption | exact Nat.zero_lt_one | exact Nat.zero_lt_two | exact Nat.one_lt_two) ?_
  refine w_iload_n C dX0_tell_9 rfl ?_
  refine w_callN C dX0_tell_10 (c_X6_entry hl IA_20 Nat.zero_lt_one r (by omega)) mX6_entry sX6_entry lk_X0_38 rfl rfl ⟨by decide, by decide, by decide, by decide⟩ (Nat.le_of_ble_eq_true rfl) (fun _ _ h => h.elim) ⟨by decide, by decide⟩ (fun r_ M_ q10 => ?_)
  obtain ⟨rfl, rfl⟩ := q10
  rw [rd_ok hr0, h6 r hr0]
  refine w_iconst C dX0_tell_13 ?_
  refine w_iload_n C dX0_tell_14 rfl ?_
  have a1 : bitsN (fun i => decide (flS S (12 * r + i) ≠ 0)) 12 < 4096 := bits12
  have a2 : 1 * 2 ^ c ≤ 2 ^ 11 := by rw [Nat.one_mul]; exact Nat.pow_le_pow_right (by decide) (by omega)
  refine w_ishl (x := 1) C dX0_tell_15 (by omega) ?_
  refine w_ior C dX0_tell_16 (by omega) (by omega) ?_
  refine w_callN C dX0_tell_17 (c_X6_store hl IA_20 Nat.zero_lt_one r _ (by omega)) mX6_store sX6_store lk_X0_46 rfl rfl ⟨by decide, by decide, by decide, by decide⟩ (Nat.le_of_ble_eq_true rfl) (fun _ _ h => h.elim) ⟨by decide, by decide⟩ (fun r_ M_ q17 => ?_)
  obtain ⟨q17, rfl⟩ := q17
  rw [wr_ok hr0] at q17
  subst q17
  refine w_aload_n C dX0_tell_20 rfl ?_
  refine w_dup C dX0_tell_21 rfl ?_
  refine g_X0_50 C dX0_tell_22 (by first | assumption | exact Nat.zero_lt_one | exact Nat.zero_lt_two | exact Nat.one_lt_two) ?_
  refine w_iconst C dX0_tell_25 ?_
  refine w_iadd C dX0_tell_26 ?_
  refine p_X0_50 C dX0_tell_27 (by first | assumption | exact Nat.zero_lt_one | exact Nat.zero_lt_two | exact Nat.one_lt_two) ?_
  refine w_aload_n C dX0_tell_30 rfl ?_
  have hM1 : RepCt (up3 (up3 S 5 0 (12 * r + c) 1) 4 0 0 (nfS S + 1)) (uI (uI M_ 20 0 r ((bitsN (fun i => decide (flS S (12 * r + i) ≠ 0)) 12 ||| 1 * 2 ^ c : Nat) : Int)) 1 0 4 (M_.1 1 0 4 + 1)) := by
    refine ⟨h1, h2, h3, h4, ?_, fun r' hr' => ?_⟩
    · rw [uI_get, if_pos ⟨rfl, rfl, rfl⟩, h5]
      rfl
    · rw [uI_get, if_neg (fun q => absurd q.1 (by decide)), uI_get]
      by_cases hq : r' = r
      · subst hq
        rw [if_pos ⟨rfl, rfl, rfl⟩]
        refine congrArg (fun z : Nat => (z : Int)) (bitsN_of fun i => ?_)
        rw [tb_or_shl, bitsN_tb]
        simp only [wdS, flS, up3]
        by_cases hi : c = i
        · subst hi
          simp
          omega
        · rw [decide_eq_false hi]
          simp [show ¬ i = c from fun q => hi q.symm]
      · rw [if_neg (fun q => hq q.2.2), h6 r' hr']
        refine congrArg (fun z : Nat => (z : Int)) (bitsN_cg fun i hi => ?_)
        simp only [flS, up3]
        rw [if_neg (by omega), if_neg (by omega)]
  have hG1 : GInv (up3 (up3 S 5 0 (12 * r + c) 1) 4 0 0 (nfS S + 1)) := by
    refine ⟨g1, g2, g3, g4, ?_, g6, g7, fun r' c' hr' hc' hq => ?_, fun k hk => ?_, g10⟩
    · show nfS S + 1 ≤ 12
      omega
    · simp only [flS, wdS, up3] at hq ⊢
      by_cases h : 12 * r' + c' = 12 * r + c
      · have : c' = c := by omega
        subst this
        exact hc0
      · rw [if_neg (by omega), if_neg (by omega)] at hq
        exact g8 r' c' hr' hc' hq
    · simp only [flS, up3]
      split
      · omega
      · split
        · omega
        · exact g9 k hk
  refine w_callV C dX0_tell_31 (c_X0_spoilRows hl hG1 hM1) mX0_spoilRows vX0_spoilRows lk_X0_35 (by first | assumption | exact Nat.zero_lt_one | exact Nat.zero_lt_two | exact Nat.one_lt_two) rfl rfl rfl rfl ⟨by decide, by decide, by decide, by decide⟩ (Nat.le_of_ble_eq_true rfl) (fun _ _ h => h.elim) ⟨by decide, by decide⟩ (fun r_ M_ q31 => ?_)
  obtain ⟨f1, f2, rfl⟩ := q31
  refine w_vret C hr dX0_tell_34 (⟨((Fr.uI (Fr.uI Fr.rf (by simp [ctK])) (by simp [ctK]))).tr (f1.mono (fun k i q => by simp [spK] at q; simp [ctK, q])), f2, rfl⟩) (by decide) (by decide)
theorem c_X0_reaches (hl : l.stackTraces = false) {S : Sg} (hG : GInv S) (hM : RepCt S M) (o : Nat) (ho : inD ns nt 5 o) (h w : Int) (hh : M.1 5 o 3 = h) (hw : M.1 5 o 4 = w) (hb : -10 ≤ h ∧ h ≤ 10 ∧ -10 ≤ w ∧ w ≤ 10) (row col : Int) (h1 : -2147483648 ≤ row ∧ row ≤ 2147483647) (h2 : -2147483648 ≤ col ∧ col ≤ 2147483647) : Con l b0 yX0_reaches cX0_reaches 4 (some .boolean) 2 0 0 [aO 1 0, aO 5 o, aI row, aI col] ad ns nt M (fun r9 M' => M' = M ∧ r9 = some (aI (b2 ((0 ≤ row ∧ row + h ≤ 60) ∧ 0 ≤ col ∧ col + w ≤ colsS S)))) noX := by
  have g1 := hG.1
  have hcols : colsS S ≤ 12 := by unfold colsS; split <;> omega
  refine Con.of hl pl_X0 (Nat.le_of_ble_eq_true rfl) ?_
  intro D cA p e s m args below meth cd C hr
  refine w_iload_n C dX0_reaches_0 rfl ?_
  refine w_iconst C dX0_reaches_1 ?_
  refine w_bipush (v := 60) C dX0_reaches_2 rfl ?_
  refine w_aload_n C dX0_reaches_4 rfl ?_
  refine g_X0_66 C dX0_reaches_5 (by first | assumption | exact Nat.zero_lt_one | exact Nat.zero_lt_two | exact Nat.one_lt_two) ?_
  refine w_isub C dX0_reaches_8 ?_
  refine w_callN C dX0_reaches_9 (c_X6_isWithin hl row 0 (60 - M.1 5 o 3) h1 (by omega) (by omega)) mX6_isWithin sX6_isWithin lk_X0_71 rfl rfl ⟨by decide, by decide, by decide, by decide⟩ (Nat.le_of_ble_eq_true rfl) (fun _ _ h => h.elim) ⟨by decide, by decide⟩ (fun r_ M_ q9 => ?_)
  obtain ⟨rfl, rfl⟩ := q9
  have t1 := b2_01 (0 ≤ row ∧ row ≤ 60 - M_.1 5 o 3)
  refine w_if_eq C dX0_reaches_12 (by omega) (fun h12 => ?_) (fun h12 => ?_)
  · refine w_iconst C dX0_reaches_36 ?_
    refine w_iret C hr dX0_reaches_37 (by first | exact narrow_z (b2_01 _) | exact narrow_z (by omega)) (⟨rfl, ?_⟩) (by decide) (by decide)
    rw [b2_f]
    intro q
    rw [b2_t (by omega)] at h12
    omega
  · have h12' : 0 ≤ row ∧ row ≤ 60 - M_.1 5 o 3 := Decidable.byContradiction fun q => h12 (b2_f q)
    refine w_iload_n C dX0_reaches_15 rfl ?_
    refine w_iconst C dX0_reaches_16 ?_
    refine w_aload_n C dX0_reaches_17 rfl ?_
    refine w_callV C dX0_reaches_18 (c_X0_openColumns hl hG hM) mX0_openColumns vX0_openColumns lk_X0_75 (by first | assumption | exact Nat.zero_lt_one | exact Nat.zero_lt_two | exact Nat.one_lt_two) rfl rfl rfl rfl ⟨by decide, by decide, by decide, by decide⟩ (Nat.le_of_ble_eq_true rfl) (fun _ _ h => h.elim) ⟨by decide, by decide⟩ (fun r_ M_ q18 => ?_)
    obtain ⟨rfl, rfl⟩ := q18
    refine w_aload_n C dX0_reaches_21 rfl ?_
    refine g_X0_79 C dX0_reaches_22 (by first | assumption | exact Nat.zero_lt_one | exact Nat.zero_lt_two | exact Nat.one_lt_two) ?_
    refine w_isub C dX0_reaches_25 ?_
    refine w_callN C dX0_reaches_26 (c_X6_isWithin hl col 0 _ h2 (by omega) (by omega)) mX6_isWithin sX6_isWithin lk_X0_71 rfl rfl ⟨by decide, by decide, by decide, by decide⟩ (Nat.le_of_ble_eq_true rfl) (fun _ _ h => h.elim) ⟨by decide, by decide⟩ (fun r_ M_ q26 => ?_)
    obtain ⟨rfl, rfl⟩ := q26
    have t2 := b2_01 (0 ≤ col ∧ col ≤ (colsS S : Int) - M_.1 5 o 4)
    refine w_if_eq C dX0_reaches_29 (by omega) (fun h29 => ?_) (fun h29 => ?_)
    · refine w_iconst C dX0_reaches_36 ?_
      refine w_iret C hr dX0_reaches_37 (by first | exact narrow_z (b2_01 _) | exact narrow_z (by omega)) (⟨rfl, ?_⟩) (by decide) (by decide)
      rw [b2_f]
      intro q
      rw [b2_t (by omega)] at h29
      omega
    · have h29' : 0 ≤ col ∧ col ≤ (colsS S : Int) - M_.1 5 o 4 := Decidable.byContradiction fun q => h29 (b2_f q)
      refine w_iconst C dX0_reaches_32 ?_
      refine w_goto C dX0_reaches_33 ?_
      refine w_iret C hr dX0_reaches_37 (by first | exact narrow_z (b2_01 _) | exact narrow_z (by omega)) (⟨rfl, by rw [b2_t (by omega)]⟩) (by decide) (by decide)
def noFl (S : Sg) : Sg := fun f i j => if f = 5 ∨ f = 4 then 0 else S f i j
theorem c_X0_forgetFlaws (hl : l.stackTraces = false) {S : Sg} (hG : GInv S) (hM : RepCl S M) : Con l b0 yX0_forgetFlaws cX0_forgetFlaws 1 none 4 0 0 [aO 1 0] ad ns nt M (fun r9 M' => Fr ctK M M' ∧ RepCl (noFl S) M' ∧ r9 = none) noX := by
  obtain ⟨⟨h1, h2, h3, h4, h5, h6⟩, h7⟩ := hM
  obtain ⟨g1, g2, g3, g4, g5, g6, g7, g8, g9, g10⟩ := hG
  refine Con.of hl pl_X0 (Nat.le_of_ble_eq_true rfl) ?_
  intro D cA p e s m args below meth c C hr
  refine w_aload_n C dX0_forgetFlaws_0 rfl ?_
  refine g_X0_15 C dX0_forgetFlaws_1 (by first | assumption | exact Nat.zero_lt_one | exact Nat.zero_lt_two | exact Nat.one_lt_two) ?_
  refine w_iconst C dX0_forgetFlaws_4 ?_
  refine w_callS C dX0_forgetFlaws_5 (c_J7_fill hl IA_20 Nat.zero_lt_one 0) mJ7_fill_53178 sJ7_fill_53178 lk_X0_53 rfl rfl ⟨by decide, by decide, by decide, by decide⟩ (Nat.le_of_ble_eq_true rfl) (fun _ _ h => h.elim) ⟨by decide, by decide⟩ (fun r_ M_ q5 => ?_)
  obtain ⟨f1, f2, f3, f4, rfl⟩ := q5
  refine w_aload_n C dX0_forgetFlaws_8 rfl ?_
  refine w_iconst C dX0_forgetFlaws_9 ?_
  refine p_X0_50 C dX0_forgetFlaws_10 (by first | assumption | exact Nat.zero_lt_one | exact Nat.zero_lt_two | exact Nat.one_lt_two) ?_
  refine w_aload_n C dX0_forgetFlaws_13 rfl ?_
  have f1a := (f1 1 0 (fun q => absurd q.1 (by decide))).1
  have hM1 : RepCt (noFl S) (uI M_ 1 0 4 0) := by
    refine ⟨by rw [uI_get, if_neg (fun q => absurd q.2.2 (by decide)), f1a]; exact h1, by rw [uI_get, if_neg (fun q => absurd q.2.2 (by decide)), f1a]; exact h2, by rw [uI_get, if_neg (fun q => absurd q.2.2 (by decide)), f1a]; exact h3, by rw [uI_get, if_neg (fun q => absurd q.2.2 (by decide)), f1a]; exact h4, rfl, fun r hr => ?_⟩
    rw [uI_get, if_neg (fun q => absurd q.1 (by decide)), f3 r hr, bitsN_0.mpr (fun i _ => by simp [noFl])]
    rfl
  have hG1 : GInv (noFl S) := by
    refine ⟨g1, g2, g3, g4, Nat.zero_le _, g6, g7, fun r c hr hc hq => absurd rfl hq, fun k hk => Nat.zero_le _, g10⟩
  refine w_callV C dX0_forgetFlaws_14 (c_X0_spoilRows hl hG1 hM1) mX0_spoilRows vX0_spoilRows lk_X0_35 (by first | assumption | exact Nat.zero_lt_one | exact Nat.zero_lt_two | exact Nat.one_lt_two) rfl rfl rfl rfl ⟨by decide, by decide, by decide, by decide⟩ (Nat.le_of_ble_eq_true rfl) (fun _ _ h => h.elim) ⟨by decide, by decide⟩ (fun r_ M_ q14 => ?_)
  obtain ⟨k1, k2, rfl⟩ := q14
  refine w_vret C hr dX0_forgetFlaws_17 (⟨(Fr.uI (f1.mono (fun k i q => by simp [ctK, q])) (by simp [ctK])).tr (k1.mono (fun k i q => by simp [spK] at q; simp [ctK, q])), k2, rfl⟩) (by decide) (by decide)
end Cloth
end
