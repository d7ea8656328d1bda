/-! the room: laying, taking off, reads of the marker -/
/-! a throw whose class passes the text up by a constructor of any index (NoSuchElementException: 13) -/
def nsW (own : String) (ic : Nat) (X : String) (ix : Nat) (rx : ByteArray) (Y : String) (names : List String) : List Cond :=
  Bundle.throwableAtoms ++ Bundle.throwableSAtoms ++ (Bundle.passSAtoms X Y ix rx ++ Bundle.chainSAtoms Y names) ++
  [.methodLink own ic (Bundle.initS X), .instantiable X 6, .castable X X, .selects X Bundle.tFill0 Bundle.tFill0, .selects X Bundle.tFill Bundle.tFill,
   .lays X Bundle.tN "cause" "Ljava/lang/Throwable;", .lays X Bundle.tN "stackTrace" Bundle.steD, .lays X Bundle.tN "suppressedExceptions" Bundle.listD, .lays X Bundle.tN "detailMessage" "Ljava/lang/String;",
   .isRef (.static Bundle.tN "UNASSIGNED_STACK" Bundle.steD), .isRef (.static Bundle.tN "SUPPRESSED_SENTINEL" Bundle.listD),
   .fieldLink Bundle.tN 198 Bundle.tN "backtrace" "Ljava/lang/Object;", .lays Bundle.tN Bundle.tN "backtrace" "Ljava/lang/Object;", .lays X Bundle.tN "backtrace" "Ljava/lang/Object;"]
set_option maxHeartbeats 1000000 in
theorem ns_ctor {p : Program} {l : Launch} {e : Env} {R : Room} {s : State} {m₀ : MethodId} {args : Array Value} {below : List Frame} {meth : Method} {c : Code} {W : State} {locs : List Loc} {cells slots : Nat} (X : Stand p l e R s m₀ args below meth c W locs cells slots) (hexec : p.tables.exec = Jvm.exec) (htr : e.platform.stackTraces = false) {own cls Y : String} {names : List String} {ic ix : Nat} {rx : ByteArray}
    (x0 : decode rx 0 = .ok (.aload_n 0, 1)) (x1 : decode rx 1 = .ok (.aload_n 1, 1)) (x2 : decode rx 2 = .ok (.invokespecial ix, 3)) (x5 : decode rx 5 = .ok (.return_, 1))
    (hown : s.vm.findClass own = some m₀.cls) (hcls : Bundle.fit cls = true) (hY : Bundle.fit Y = true) (hnames : ∀ n ∈ names, Bundle.fit n = true) (h : ∀ a ∈ nsW own ic cls ix rx Y names, a.before args s = true)
    (hlocs : ∀ x ∈ locs, ∀ cell, s.heap[x.base]? = some cell → cell.vm.isStatics = false)
    {a : Addr} {cX : ClassId} {kX : Class} (hfoundX : s.vm.findClass cls = some cX) (hkX : s.vm.classes[cX]? = some kX) (hcell : W.heap[a]? = some (freshCell cX kX)) (hnew : s.heap.size ≤ a)
    {msg : Value} (hmsg : msg.isRef = true)
    {g : JFrame} (hg : g.method = m₀) (hsize : g.locals.size = c.maxLocals) (hlocked : g.locked = none) (hentered : g.entered = []) {rest : List Value} (hstack : g.stack = msg :: .ref a :: .ref a :: rest)
    (hd6 : decode c.code g.pc = .ok (.invokespecial ic, 3)) (hd9 : decode c.code (g.pc + 3) = .ok (.athrow, 1)) (hout : ∀ x ∈ c.exceptionTable.toList, covers x (g.pc + 3) = false)
    (hRframes : names.length + 4 < R.frames) (hRlocals : 2 * g.monitorRoom + ((Value.ref a :: rest).map fun v => v.category).sum + (13 * (names.length + 2) + 42) ≤ R.locals) (hlocks : meth.locks = false) :
    ∃ U : State, Steps p.tables e below (W.setTop g) U ∧ U.status = .running ∧ Ended U below (.threw a) ∧ s.WarmedH U.vm ∧ s.sameButNew ({ U with vm := s.vm } : State) locs cells slots ∧
      ∃ ce, U.heap[a]? = some ce ∧ ce.vm = .none ∧ s.vm.findClass cls = some ce.cls := by
  have howns : e.platform.frameOwnsMonitors = true := by rw [X.admits.platform]
  have hfin : e.platform.finalization = false := by rw [X.admits.platform]
  have hpl : e.platform.magicAccessors = ({} : Platform).magicAccessors := by rw [X.admits.platform]
  have a' : ∀ x, x ∈ nsW own ic cls ix rx Y names → x.holds args s none s [] = true := fun x hx => h x hx
  obtain ⟨T, Z0, L, -, V⟩ := ThrowableC.of_atoms (args := args) howns hfin hpl (fun x hx => h x (by simp [nsW, hx]))
  obtain ⟨Z, M, LZ, LM, hnZ⟩ := Init0T.ofS_atoms (args := args) hpl L V (fun x hx => h x (by simp [nsW, hx]))
  obtain ⟨P0, L0, hP0m, hs0⟩ := PassC.ofS_atoms (args := args) (s := s) hpl (X := cls) (Y := Y) (Bundle.fit_spec hcls).1 (Bundle.fit_spec hY).2 x0 x1 x2 x5 (fun x hx => h x (by simp [nsW, hx]))
  obtain ⟨P1, Ps, hlen, L1, hL, hP1m, hlink1, hlink⟩ := Bundle.chainS (args := args) hpl hnZ names Y hY hnames (fun x hx => h x (by simp [nsW, hx]))
  have hfound : s.vm.findClass cls = some P0.m.cls := findClass_of_methodNamed hP0m
  cases Option.some.inj (hfoundX.symm.trans hfound)
  obtain ⟨c1, kX', hc1, hk, hord, -, -, hn6⟩ := Cond.instantiable_spec (a' (.instantiable cls 6) (by simp [nsW]))
  cases Option.some.inj (hc1.symm.trans hfound)
  cases Option.some.inj (hkX.symm.trans hk)
  have hsel0 : selectMethod e.platform s.vm P0.m.cls T.fill0 = .method T.fill0 := by
    obtain ⟨c2, r2, m2, q1, q2, q3, q4, -⟩ := Cond.selects_spec (a' (.selects cls Bundle.tFill0 Bundle.tFill0) (by simp [nsW]))
    cases Option.some.inj (q1.symm.trans hfound)
    cases Option.some.inj (q2.symm.trans (State.methodFound?_of_named V.fill0 (by decide)))
    cases Option.some.inj (q3.symm.trans V.fill0)
    rw [Launch.admits_selectMethod X.admits]; exact q4
  have hselF : selectMethod e.platform s.vm P0.m.cls T.fill = .method T.fill := by
    obtain ⟨c2, r2, m2, q1, q2, q3, q4, -⟩ := Cond.selects_spec (a' (.selects cls Bundle.tFill Bundle.tFill) (by simp [nsW]))
    cases Option.some.inj (q1.symm.trans hfound)
    cases Option.some.inj (q2.symm.trans (State.methodFound?_of_named V.fill (by decide)))
    cases Option.some.inj (q3.symm.trans V.fill)
    rw [Launch.admits_selectMethod X.admits]; exact q4
  obtain ⟨cellS0, hcS0, hiss⟩ := V.statics
  obtain ⟨u0, hu0⟩ := Cond.staticRefV V.unassigned L.unassignedStatic L.statics hcS0 hiss (a' (.isRef (.static Bundle.tN "UNASSIGNED_STACK" Bundle.steD)) (by simp [nsW]))
  obtain ⟨sen, hsen⟩ := Cond.staticRefV V.sentinel L.sentinelStatic L.statics hcS0 hiss (a' (.isRef (.static Bundle.tN "SUPPRESSED_SENTINEL" Bundle.listD)) (by simp [nsW]))
  obtain ⟨ci198, i198, fB, hk198, hg198, ha198, hsB, -, hnB, htB, hffB⟩ := Cond.ownField (t := .object "java/lang/Object") V.found L.cls (by decide +kernel) (a' (.fieldLink Bundle.tN 198 Bundle.tN "backtrace" "Ljava/lang/Object;") (by simp [nsW])) (a' (.lays Bundle.tN Bundle.tN "backtrace" "Ljava/lang/Object;") (by simp [nsW])) e.platform hpl
  obtain ⟨cellS, hcS', heS, -, hkeep⟩ := X.same.2.2.2.2.2 T.aS cellS0 hcS0
  have hcellS : W.heap[T.aS]? = some cellS := hcS'
  have hout' : ∀ i, (⟨T.aS, i⟩ : Loc) ∉ locs := fun i hmem => by
    have := hlocs _ hmem cellS0 hcS0
    rw [hiss] at this; cases this
  have hknownS : cellS.vm ≠ .unknown := by
    rw [heS]; intro hu
    rw [show cellS0.vm = .unknown from hu] at hiss
    cases hiss
  have hneS : T.aS ≠ a := Nat.ne_of_lt (Nat.lt_of_lt_of_le (Array.getElem?_eq_some_iff.mp hcS0).1 hnew)
  obtain ⟨iM, hffM⟩ := V.msg
  obtain ⟨tyC, dC, hdC, hdnC⟩ := Cond.laysAt hfound hk V.cause (a' (.lays cls Bundle.tN "cause" "Ljava/lang/Throwable;") (by simp [nsW]))
  obtain ⟨tyS, dS, hdS, hdnS⟩ := Cond.laysAt hfound hk V.stack (a' (.lays cls Bundle.tN "stackTrace" Bundle.steD) (by simp [nsW]))
  obtain ⟨tyP, dP, hdP, hdnP⟩ := Cond.laysAt hfound hk V.supp (a' (.lays cls Bundle.tN "suppressedExceptions" Bundle.listD) (by simp [nsW]))
  obtain ⟨tyM, dM, hdM, hdnM⟩ := Cond.laysAt hfound hk hffM (a' (.lays cls Bundle.tN "detailMessage" "Ljava/lang/String;") (by simp [nsW]))
  obtain ⟨tyB, dB, hdB, hdnB⟩ := Cond.laysAt hfound hk hffB (a' (.lays cls Bundle.tN "backtrace" "Ljava/lang/Object;") (by simp [nsW]))
  have bC := Cond.laysApart hdB hdC hdnB hdnC (by rw [hnB, V.causeName]; decide)
  have bS := Cond.laysApart hdB hdS hdnB hdnS (by rw [hnB, V.stackName]; decide)
  have bP := Cond.laysApart hdB hdP hdnB hdnP (by rw [hnB, V.suppName]; decide)
  have hskip : SkipFacts T e.platform s (fun u => u) u0 ((preparedCellV T.toThrowableT (freshCell P0.m.cls kX) a u0 sen).withEntry W.cur) :=
    ⟨{ ci198 := ci198, i198 := i198, fBack := fB }, ⟨hk198, hg198, ha198, hsB⟩, by
      have := fresh_default (c := P0.m.cls) tyB
      rw [htB] at this
      simpa [preparedCellV, Cell.setSlot, Cell.withEntry, Array.getElem?_setIfInBounds, bC, bS, bP, bC.symm, bS.symm, bP.symm, defaultValue] using this, fun _ _ => rfl⟩
  obtain ⟨tm, methC, cdC, kC, vm₁, hnC, -, -, -, -, -, -, -, hW₁, st1⟩ := Steps.initColdS (tb := p.tables) (e := e) (below := below) (s := s) (U := W) X.here hexec X.warmed hpl hown (t := Bundle.initS cls) rfl rfl (Bundle.fit_spec hcls).2
    (a' (.methodLink own ic (Bundle.initS cls)) (by simp [nsW])) (h (.instanceMethod (Bundle.initS cls)) (by simp [nsW, Bundle.passSAtoms])) (bytes := rx) (maxL := 2) (h (.code (Bundle.initS cls) rx 2 none) (by simp [nsW, Bundle.passSAtoms]))
    (f := g) hg (a := a) (msg := msg) (rest := .ref a :: rest) hstack hd6
  cases Option.some.inj (hnC.symm.trans hP0m)
  have X₁ := X.noted hW₁
  obtain ⟨vm₂, X₂, st2⟩ := X₁.ctorMessageOffV hexec (g := { g with stack := .ref a :: rest }) hg hsize T L Z LZ M LM (P0 :: P1 :: Ps)
    (fun P hP => by
      rcases List.mem_cons.mp hP with rfl | hP
      · exact L0
      · rcases List.mem_cons.mp hP with rfl | hP
        · exact L1
        · exact hL P hP) ⟨Option.some.inj (hs0.symm.trans hP1m), hlink1, hlink⟩ (u0 := u0) (sen := sen) (self := a) hmsg (cell := freshCell P0.m.cls kX) (cellS := cellS)
    hcell (fun _ => by simp) (by simp) rfl rfl hsel0 hselF hcellS hneS hknownS (by rw [hkeep _ (hout' _)]; exact hu0) (by rw [hkeep _ (hout' _)]; exact hsen)
    (Takes.of_laid hk hord tyC (by rw [V.causeType]; rfl)) (Takes.of_laid hk hord tyS (by rw [V.stackType]; exact fits_refV_array _ u0)) (Takes.of_laid hk hord tyP (by rw [V.suppType]; exact fits_refV_object _ sen))
    (Takes.of_laid hk hord tyM (by rw [V.msgType]; exact fits_refV_object _ ⟨msg, hmsg⟩)) V.objLocals hskip htr [] hd6
    (by simp only [List.length_cons, hlen]; omega) (by simp only [List.length_cons, hlen]; exact hRlocals)
  obtain ⟨hwalk, hrun, hended, hWU, hsame⟩ := X₂.athrowLeaves hexec (g := { g with stack := .ref a :: rest, pc := g.pc + 3 }) hg hlocked hentered hout (a := a) (rest := rest) rfl hd9
  have hlt : a < ((W.setVm vm₁).setVm vm₂).heap.size := (Array.getElem?_eq_some_iff.mp hcell).1
  have hU := heapAt_setCell_self (s := (W.setVm vm₁).setVm vm₂) (plainBareV T.toThrowableT (freshCell P0.m.cls kX) a u0 sen msg) hlt
  refine ⟨_, st1 _ (fun acts => ?_), hrun, hended, hWU, hsame.weaken (fun y hy hlt' => ?_) (Nat.le_refl _) (Nat.le_refl _), _, hU, rfl, hfound⟩
  · rw [doInvoke_state]
    exact st2 _ hwalk
  · rcases List.mem_append.mp hy with h1 | h1
    · exact h1
    · exfalso
      have hb : y.base = a := by
        simp only [List.mem_cons, List.not_mem_nil, or_false] at h1
        rcases h1 with rfl | rfl | rfl | rfl | rfl <;> rfl
      rw [hb] at hlt'
      exact Nat.not_lt.mpr hnew hlt'
section Ends
variable {p : Program} {l : Launch} {e : Env} {R : Room} {s : State} {m : MethodId} {args : Array Value} {below : List Frame} {meth : Method} {c : Code} {H : Heap} {locs : List Loc} {cells slots : Nat}
variable {free : Addr → Prop} {ls : Array Slot} {rest : List Value}
variable {Qc : Array Value → State → Outcome → State → Prop} {XC : String → State → State → Prop}
theorem ns_throwS {cc : ByteArray} {pc : Nat} (hexec : p.tables.exec = Jvm.exec) (hb : c.code = cc) (hl : l.stackTraces = false) {own cls Ys text : String} {names : List String} {ix : Nat} {rx : ByteArray} (x0 : decode rx 0 = .ok (.aload_n 0, 1)) (x1 : decode rx 1 = .ok (.aload_n 1, 1)) (x2 : decode rx 2 = .ok (.invokespecial ix, 3)) (x5 : decode rx 5 = .ok (.return_, 1)) {ik is ic mc ms sa : Nat} {A : Nat → Prop}
    (hown : s.vm.findClass own = some m.cls) (hcls : Bundle.fit cls = true) (hY : Bundle.fit Ys = true) (hnames : ∀ n ∈ names, Bundle.fit n = true)
    (hk : (Cond.classLink own ik cls).before args s = true) (hini : (Cond.initialized cls).before args s = true) (hstr : vk_R own is text sa s) (hat : ∀ w ∈ (nsW own ic cls ix rx Ys names).filter vx_no, w.before args s = true)
    (hgood : ∀ w ∈ Cond.classLink own ik cls :: Cond.initialized cls :: (nsW own ic cls ix rx Ys names).filter vx_no, vx_ot w = true)
    (hU : vx_Zq Bundle.tN "UNASSIGNED_STACK" Bundle.steD A s s.heap) (hN : vx_Zq Bundle.tN "SUPPRESSED_SENTINEL" Bundle.listD A s s.heap) (hS : va_S A s.heap H locs) (hsize : ls.size = c.maxLocals)
    (d0 : decode cc pc = .ok (.new ik, 3)) (d3 : decode cc (pc + 3) = .ok (.dup, 1)) (d4 : decode cc (pc + 4) = .ok (.ldc is, 2)) (d6 : decode cc (pc + 6) = .ok (.invokespecial ic, 3)) (d9 : decode cc (pc + 9) = .ok (.athrow, 1))
    (hout : ∀ x ∈ c.exceptionTable.toList, covers x (pc + 9) = false)
    (hRframes : names.length + 4 < R.frames) (hRlocals : (rest.map fun v => v.category).sum + (13 * (names.length + 2) + 43) ≤ R.locals) (hRcells : cells + 1 ≤ R.cells) (hRslots : slots + 6 ≤ R.slots) (hlocks : meth.locks = false)
    (hx : ∀ t : State, s.vm.Alike t.vm → H.size ≤ t.heap.size → (∀ q : Nat, q < H.size → t.heap[q]? = H[q]?) → XC cls s t)
    (hf : ∀ z ∈ locs, free z.base) (hc : cells + 1 ≤ mc) (hs : slots + 6 ≤ ms) :
    W p l e R s m args below meth c H locs cells slots (vx_MQ below Qc XC args s mc ms free) (F0 m pc ls rest) := by
  intro T hT X
  have htr : e.platform.stackTraces = false := (show e.platform.stackTraces = l.stackTraces by rw [X.admits.platform]).trans hl
  have Y := vx_rebase X (R' := { frames := R.frames, locals := R.locals, cells := 1, slots := 6 }) (Nat.le_refl _) (Nat.le_refl _) hRcells hRslots
  obtain ⟨s', hA⟩ : ∃ z, z = (T.setVm s.vm).setFrames (.invoking m args :: below) := ⟨_, rfl⟩
  rw [← hA] at Y
  have hvm : s'.vm = s.vm := by rw [hA]; rfl
  have hhp : s'.heap = H := by rw [hA]; exact hT
  have hW0 : s.WarmedH s'.vm := by rw [hvm]; exact State.WarmedH.refl s
  have hat' : ∀ w ∈ (nsW own ic cls ix rx Ys names).filter vx_no, w.before args s' = true := fun w hw => vx_ot_at hW0 hvm.symm (hgood w (List.mem_cons_of_mem _ (List.mem_cons_of_mem _ hw))) (hat w hw)
  have hk' : (Cond.classLink own ik cls).before args s' = true := vx_ot_at hW0 hvm.symm (hgood _ List.mem_cons_self) hk
  have hini' : (Cond.initialized cls).before args s' = true := vx_ot_at hW0 hvm.symm (hgood _ (List.mem_cons_of_mem _ List.mem_cons_self)) hini
  have hU' : vx_Zq Bundle.tN "UNASSIGNED_STACK" Bundle.steD A s' s'.heap := by rw [hhp]; exact vx_Zq.moved hW0.alike (hU.kept hS.2.1)
  have hN' : vx_Zq Bundle.tN "SUPPRESSED_SENTINEL" Bundle.listD A s' s'.heap := by rw [hhp]; exact vx_Zq.moved hW0.alike (hN.kept hS.2.1)
  have h : ∀ w ∈ nsW own ic cls ix rx Ys names, w.before args s' = true := vx_own hat' (vx_isRefq hU'.1) (vx_isRefq hN'.1) hU'.2.word hN'.2.word
  have hown' : s'.vm.findClass own = some m.cls := by rw [hvm]; exact hown
  have hins : (Cond.instantiable cls 6).before args s' = true := h _ (by simp [nsW])
  obtain ⟨vm₁, cX, kX, hfX, hkX, -, -, X₁, st1⟩ := Y.newCold hexec (own := own) (C := cls) (index := ik) (n := 6) hown' hk' hins hini'
    (g := F0 m pc ls rest) rfl (by rw [hb]; exact d0) (Nat.le_refl _) (Nat.le_refl _)
  generalize hT1 : (T.setVm vm₁).pushCell { cls := cX, slots := kX.instanceTypes.map defaultValue, vm := .none } = T1 at X₁ st1
  have hcat : (Value.ref T.heap.size).category = 1 := rfl
  have hcellA : T1.heap[T.heap.size]? = some (freshCell cX kX) := by rw [← hT1]; exact State.heap_pushCell_size _ _
  have d3' : decode c.code (pc + 3) = .ok (.dup, 1) := by rw [hb]; exact d3
  have d4' : decode c.code (pc + 4) = .ok (.ldc is, 2) := by rw [hb]; exact d4
  have hstr' : vk_R own is text sa s' := vk_R.warm hW0 hstr
  obtain ⟨U, hsteps, hrun, hend, hW, hsame, ce, hce, hO⟩ := ns_ctor X₁ hexec htr (own := own) (cls := cls) (names := names) (ic := ic) x0 x1 x2 x5 hown' hcls hY hnames h (fun x hx => nomatch hx) hfX hkX hcellA (by rw [hhp, hT]; exact Nat.le_refl _) (msg := .ref sa) rfl
    (g := { method := m, pc := pc + 6, locals := ls, stack := .ref sa :: .ref T.heap.size :: .ref T.heap.size :: rest, locked := none }) rfl hsize rfl rfl (rest := rest) rfl
    (by rw [hb]; exact d6) (by rw [hb]; exact d9) hout hRframes (by simp only [List.map_cons, List.sum_cons, hcat]; omega) hlocks
  obtain ⟨f1, f2⟩ := vx_frame hsame
  rw [hhp] at f1 f2
  have hWs : s.WarmedH U.vm := State.WarmedH.trans hW0 hW
  have hcl : s.vm.findClass cls = some ce.cls := by
    have h9 := hO.2
    rw [hvm] at h9
    exact h9
  have hall : s.sameButNew ({ U with vm := s.vm } : State) locs mc ms := by
    subst hA
    obtain ⟨e1, e2⟩ := hsame
    rw [State.setFrames_setFrames] at e1
    have h2 : (T.setVm s.vm).sameButNew ({ U with vm := s.vm } : State) [] (0 + 1) (0 + 6) := ⟨e1, e2⟩
    have h3 := X.same.trans h2
    rw [List.append_nil] at h3
    exact h3.mono hc hs
  refine ⟨U, ?_, .threw T.heap.size, hrun, hend, Or.inr ⟨T.heap.size, rfl, cls, ce, locs, hx U hWs.alike f1 (fun q hq => f2 q hq (fun z hz => nomatch hz)), hce, hO.1, hcl, hWs, hall, hf⟩⟩
  refine st1 _ ?_
  show Steps p.tables e below (T1.setTop { method := m, pc := pc + 3, locals := ls, stack := .ref T.heap.size :: rest, locked := none }) _
  jvm_step X₁.here [X₁.here.top, hexec, d3', Value.category]
  exact X₁.ldcString hexec (own := own) (text := text) (index := is) (a := sa) hown' hstr'.1 hstr'.2
    (g := { method := m, pc := pc + 4, locals := ls, stack := .ref T.heap.size :: .ref T.heap.size :: rest, locked := none }) rfl d4' _ hsteps
end Ends
theorem ns_x0 : decode prog_23_method_4_code 0 = .ok (.aload_n 0, 1) := by decide +kernel
theorem ns_x1 : decode prog_23_method_4_code 1 = .ok (.aload_n 1, 1) := by decide +kernel
theorem ns_x2 : decode prog_23_method_4_code 2 = .ok (.invokespecial 13, 3) := by decide +kernel
theorem ns_x5 : decode prog_23_method_4_code 5 = .ok (.return_, 1) := by decide +kernel
def nsL : List Cond := (nsW RX6 207 "java/util/NoSuchElementException" 13 prog_23_method_4_code "java/lang/RuntimeException" ["java/lang/Exception"]).filter vx_no
theorem ns_fit : Bundle.fit "java/util/NoSuchElementException" = true ∧ Bundle.fit "java/lang/RuntimeException" = true ∧ ∀ n ∈ ["java/lang/Exception"], Bundle.fit n = true := by decide +kernel
theorem ns_k : Cond.classLink RX6 203 "java/util/NoSuchElementException" ∈ GW := by decide +kernel
theorem ns_i : Cond.initialized "java/util/NoSuchElementException" ∈ GW := by decide +kernel
theorem ns_g : ∀ w ∈ nsL.filter goodWord, w ∈ GW := by decide +kernel
theorem ns_b : ∀ w ∈ nsL.filter (fun w => !goodWord w), w ∈ Cond.castable "java/util/NoSuchElementException" "java/util/NoSuchElementException" :: declL.map Cond.declares := by decide +kernel
theorem ns_c : ("java/util/NoSuchElementException", "java/util/NoSuchElementException") ∈ castL := by decide +kernel
theorem ns_o : ∀ w ∈ Cond.classLink RX6 203 "java/util/NoSuchElementException" :: Cond.initialized "java/util/NoSuchElementException" :: nsL, vx_ot w = true := by decide +kernel
theorem w_throwN {p : Program} {l : Launch} {e : Env} {R : Room} {s : State} {m : MethodId} {args : Array Value} {below : List Frame} {meth : Method} {c : Code} {cc : ByteArray} {nL : Nat} {D : va_G} {cA : Nat → ClassId} {b0 : Nat → Prop} {cells slots pc : Nat} {lv : Lv} {st : List AV} {ad : Ads} {ns nt : Nat} {M : Mem} (C : Cx l p s m args meth c cc RX6 nL D cA b0 []) {P : PT} {X : PX} {mc ms is p3 p4 p6 p9 p10 : Nat} {text : String} (hstr : (RX6, is, text) ∈ strL) (d0 : DI cc pc (.new 203) 3 p3) (d3 : DI cc p3 .dup 1 p4) (d4 : DI cc p4 (.ldc is) 2 p6) (d6 : DI cc p6 (.invokespecial 207) 3 p9) (d9 : DI cc p9 .athrow 1 p10)
    (hroom : 6 < R.frames ∧ 103 ≤ R.locals ∧ cells + 1 ≤ R.cells ∧ slots + 6 ≤ R.slots) (hwt : (st.map fun v => if cat2 v then 2 else 1).sum ≤ 8) (hX : X eNS M) (hc : cells + 1 ≤ mc) (hs : slots + 6 ≤ ms) : Wm p l e R s m args below meth c nL D cA b0 cells slots (vx_MQ below (mQ D cA b0 ad (cnt ns nt) P) (mX D cA b0 ad (cnt ns nt) X) args s mc ms b0) pc lv st ad (cnt ns nt) M := by
  intro H locs ls hw hS hl
  obtain ⟨sa, hsa⟩ := C.2.2.2.2.2.2.2.1.2.2.2.2.1 _ hstr
  have q3 : pc + 3 = p3 := d0.2
  have q4 : pc + 4 = p4 := by rw [← d3.2, ← q3]
  have q6 : pc + 6 = p6 := by rw [← d4.2, ← q4]
  have q9 : pc + 9 = p9 := by rw [← d6.2, ← q6]
  exact ns_throwS (sa := sa) C.1 C.2.1 C.2.2.2.2.2.2.1 ns_x0 ns_x1 ns_x2 ns_x5 C.2.2.2.1 ns_fit.1 ns_fit.2.1 ns_fit.2.2 (C.2.2.2.2.1 _ ns_k) (C.2.2.2.2.1 _ ns_i) hsa (vx_hat (B := Cond.castable "java/util/NoSuchElementException" "java/util/NoSuchElementException" :: declL.map Cond.declares) (fun w hw => C.2.2.2.2.1 _ (ns_g w hw)) ns_b (throwB C ns_c)) ns_o C.2.2.2.2.2.2.2.1.2.1 C.2.2.2.2.2.2.2.1.2.2.1 hS (by rw [hl.1, C.2.2.1]) d0.1 (by rw [q3]; exact d3.1) (by rw [q4]; exact d4.1) (by rw [q6]; exact d6.1) (by rw [q9]; exact d9.1)
    (fun x hx => by rw [C.2.2.2.2.2.2.2.2] at hx; cases hx) (by show 1 + 4 < R.frames; omega) (by rw [stk_cat]; show _ + (13 * (1 + 2) + 43) ≤ R.locals; omega) hroom.2.2.1 hroom.2.2.2 C.2.2.2.2.2.1
    (fun t hA hz hk9 => ⟨M, hX, ⟨fun k i hi => (hw.1 k i hi).kept (hk9 _ (hw.1 k i hi).lt), hw.2.1, hw.2.2⟩, ⟨Nat.le_trans hS.1 hz, fun q a1 a2 => (hk9 q (Nat.lt_of_lt_of_le a1 hS.1)).trans (hS.2.1 q a1 a2)⟩⟩) hS.2.2 hc hs
def oReason (a t b c : Int) (w : Nat) (S : Sg) (P : List Pc) (nx : Nat) : Res := if ¬ (0 ≤ a ∧ a < nsS S) then (1, 0, S, P, nx) else if ¬ (0 ≤ t ∧ t ≤ 3) then (2, 0, S, P, nx) else (0, reasonS S P a.toNat t.toNat w b c, S, P, nx)
def oLay (a t b c : Int) (w : Nat) (S : Sg) (P : List Pc) (nx : Nat) : Res := if ¬ (0 ≤ a ∧ a < nsS S) then (1, 0, S, P, nx) else if ¬ (0 ≤ t ∧ t ≤ 3) then (2, 0, S, P, nx) else if reasonS S P a.toNat t.toNat w b c ≠ 45 then (3, 0, S, P, nx) else if 40 ≤ P.length then (4, 0, S, P, nx) else (0, (nx : Int), S, P ++ [(nx, a.toNat, t.toNat, b.toNat, c.toNat, w)], nx + 1)
/-- z: what FSp says of the shape -/
def oNest (a : Int) (w : Nat) (z : Int) (S : Sg) (P : List Pc) (nx : Nat) : Res := if ¬ (0 ≤ a ∧ a < nsS S) then (1, 0, S, P, nx) else if z = -1 then (2, 0, S, P, nx) else if 40 ≤ P.length then (3, 0, S, P, nx) else (0, (nx : Int), S, P ++ [(nx, a.toNat, z.toNat % 4, z.toNat / 4 / 12, z.toNat / 4 % 12, w)], nx + 1)
def oTakeOff (a : Int) (S : Sg) (P : List Pc) (nx : Nat) : Res := match slotS P a with
  | none => (1, 0, S, P, nx)
  | some i => (0, (lenR S (P.eraseIdx i) : Int), S, P.eraseIdx i, nx)
def oPc (g : Pc → Nat) (a : Int) (S : Sg) (P : List Pc) (nx : Nat) : Res := match slotS P a with
  | none => (1, 0, S, P, nx)
  | some i => (0, (g (P.getD i (0, 0, 0, 0, 0, 0)) : Int), S, P, nx)
def oPieceAt (a b : Int) (S : Sg) (P : List Pc) (nx : Nat) : Res := if ¬ ((0 ≤ a ∧ a ≤ 59) ∧ 0 ≤ b ∧ b ≤ 11) then (1, 0, S, P, nx) else if clo S P (12 * a.toNat + b.toNat) = -1 then (2, 0, S, P, nx) else (0, clo S P (12 * a.toNat + b.toNat), S, P, nx)
theorem mkK_n {k i : Nat} (h : k ≠ 3 ∧ k ≠ 2 ∧ k ≠ 12 ∧ k ≠ 22 ∧ k ≠ 23 ∧ k ≠ 24 ∧ k ≠ 25 ∧ k ≠ 26) {mi : Nat} : ¬ mkK mi k i := fun q => by
  obtain ⟨h1, h2, h3, h4, h5, h6, h7, h8⟩ := h
  rcases q with q | q
  · exact h1 q.1
  · rcases q.1 with q | q | q | q | q | q | q <;> contradiction
/-- only the marker 0 has changed -/
theorem RepRoom.mk {S : Sg} {P P' : List Pc} {nx nx' : Nat} {M M' : Mem} (hF : Fr (mkK 0) M M') (hM' : RepMk 0 S P' nx' M') (hR : RepRoom S P nx M) : RepRoom S P' nx' M' := by
  obtain ⟨hC, hSh, hM, hSt, hRm, hTr⟩ := hR
  refine ⟨RepCl.fr hF (mkK_n (by decide)) (mkK_n (by decide)) (mkK_n (by decide)) hC, RepSh.fr hF (fun i => ⟨mkK_n (by decide), mkK_n (by decide), mkK_n (by decide), mkK_n (by decide), mkK_n (by decide)⟩) hSh, hM', RepSt.fr hF (fun i => ⟨mkK_n (by decide), mkK_n (by decide)⟩) hSt, RepRm.fr hF (mkK_n (by decide)) (mkK_n (by decide)) (mkK_n (by decide)) hRm, TrOK.fr hF ?_ hTr⟩
  rintro (q | q)
  · exact absurd q.1 (by decide)
  · exact absurd q.2 (by decide)
theorem RepRoom.mt {S : Sg} {P : List Pc} {nx : Nat} {M M' : Mem} (hP : P.length ≤ 40) (hF : Fr (metK 0) M M') (hR : RepRoom S P nx M) : RepRoom S P nx M' := by
  have h26 : ∀ {k i : Nat}, k ≠ 26 → ¬ metK 0 k i := fun h q => h q.1
  exact RepRoom.mk (hF.mono fun k i q => Or.inr ⟨by simp [q.1], q.2⟩) (RepMk.fr hP hF ⟨h26 (by decide), h26 (by decide), h26 (by decide), h26 (by decide), h26 (by decide), h26 (by decide)⟩ (fun _ _ => h26 (by decide)) hR.2.2.1) hR
section Rm
variable {l : Launch} {b0 : Nat → Prop} {ad : Ads} {ns nt : Nat} {M : Mem}
theorem c_X6_checkTurns (hl : l.stackTraces = false) (t : Int) (ht : -2147483648 ≤ t ∧ t ≤ 2147483647) : Con l b0 yX6_checkTurns cX6_checkTurns 1 none 9 1 6 [aI t] ad (cnt ns nt) M (fun r9 M' => M' = M ∧ (0 ≤ t ∧ t ≤ 3) ∧ r9 = none) (fun E M' => E = eIA ∧ M' = M ∧ ¬ (0 ≤ t ∧ t ≤ 3)) := by
  have b1 := b2_01 (0 ≤ t ∧ t ≤ 3)
  refine Con.of hl pl_X6 (Nat.le_of_ble_eq_true rfl) ?_
  intro D cA p e s m args below meth c C hr
  refine w_iload_n C dX6_checkTurns_0 rfl ?_
  refine w_iconst C dX6_checkTurns_1 ?_
  refine w_iconst C dX6_checkTurns_2 ?_
  refine w_callS C dX6_checkTurns_3 (c_X6_isWithin hl t 0 3 (by omega) (by omega) (by omega)) mX6_isWithin sX6_isWithin lk_X6_48 rfl rfl ⟨by first | decide | (simp only [rmd]; omega), by first | decide | (simp only [rmd]; omega), by first | decide | (simp only [rmd]; omega), by first | decide | (simp only [rmd]; omega)⟩ (Nat.le_of_ble_eq_true rfl) (fun _ _ h => h.elim) ⟨by decide, by decide⟩ (fun r_ M_ q3 => ?_)
  obtain ⟨rfl, rfl⟩ := q3
  refine w_if_ne C dX6_checkTurns_6 (by omega) (fun h6 => ?_) (fun h6 => ?_)
  · refine w_vret C hr dX6_checkTurns_19 (⟨rfl, Decidable.byContradiction fun q => h6 (b2_f q), rfl⟩) (by decide) (by decide)
  · refine w_throw C tk_52_56 ts_197 dX6_checkTurns_9 dX6_checkTurns_12 dX6_checkTurns_13 dX6_checkTurns_15 dX6_checkTurns_18 ⟨by decide, by decide, by decide, by decide⟩ (Nat.le_of_ble_eq_true rfl) (⟨rfl, rfl, fun q => h6 (by rw [b2_t q]; decide)⟩) (by decide) (by decide)
theorem c_X6_reason (hl : l.stackTraces = false) {S : Sg} {P : List Pc} {nx : Nat} (hI : Inv S P nx) (hns : nsS S ≤ ns) (hR : RepRoom S P nx M) (a t b c' : Int) (w : Nat) (hw : w ≤ 1) (ha : -2147483648 ≤ a ∧ a ≤ 2147483647) (ht : -2147483648 ≤ t ∧ t ≤ 2147483647) (hb : -2147483648 ≤ b ∧ b ≤ 2147483647) (hc : -2147483648 ≤ c' ∧ c' ≤ 2147483647) : Con l b0 yX6_reason cX6_reason 7 (some .char) 10 2 12 [aO 0 0, aI a, aI t, aI b, aI c', aI w] ad (cnt ns nt) M (okR (oReason a t b c' w S P nx)) (exR (oReason a t b c' w S P nx) [eIO, eIA]) := by
  have hR' := hR
  obtain ⟨hCl, hSh, ⟨f, hM⟩, hSt, hRm, hTr⟩ := hR'
  refine Con.of hl pl_X6 (Nat.le_of_ble_eq_true rfl) ?_
  intro D cA p e s m args below meth c C hr
  have X0 : ∀ (E9 : String) (M9 : Mem), (E9 = eIO ∧ M9 = M ∧ ¬ (0 ≤ a ∧ a < nsS S)) → exR (oReason a t b c' w S P nx) [eIO, eIA] E9 M9 := fun E9 M9 h9 => by
    obtain ⟨rfl, rfl, h9⟩ := h9
    exact exR_of (i := 0) (by unfold oReason; rw [if_pos h9]) rfl hR
  have X1 : (0 ≤ a ∧ a < nsS S) → ∀ (E9 : String) (M9 : Mem), (E9 = eIA ∧ M9 = M ∧ ¬ (0 ≤ t ∧ t ≤ 3)) → exR (oReason a t b c' w S P nx) [eIO, eIA] E9 M9 := fun hj E9 M9 h9 => by
    obtain ⟨rfl, rfl, h9⟩ := h9
    exact exR_of (i := 1) (by unfold oReason; rw [if_neg (fun q => q hj), if_pos h9]) rfl hR
  refine w_aload_n C dX6_reason_0 rfl ?_
  refine w_iload_n C dX6_reason_1 rfl ?_
  refine w_callV C dX6_reason_2 (c_X6_shapeOrThrow hl hI.1 hRm a ha) mX6_shapeOrThrow vX6_shapeOrThrow lk_X6_131 (by first | assumption | exact Nat.zero_lt_one | exact Nat.zero_lt_two | exact Nat.one_lt_two) rfl rfl rfl rfl ⟨by first | decide | (simp only [rmd]; omega), by first | decide | (simp only [rmd]; omega), by first | decide | (simp only [rmd]; omega), by first | decide | (simp only [rmd]; omega)⟩ (Nat.le_of_ble_eq_true rfl) X0 ⟨by decide, by decide⟩ (fun r_ M_ q2 => ?_)
  obtain ⟨rfl, hj, rfl⟩ := q2
  refine w_astore C dX6_reason_5 (by decide) ?_
  refine w_iload_n C dX6_reason_7 rfl ?_
  refine w_callS C dX6_reason_8 (c_X6_checkTurns hl t ht) mX6_checkTurns sX6_checkTurns lk_X6_177 rfl rfl ⟨by first | decide | (simp only [rmd]; omega), by first | decide | (simp only [rmd]; omega), by first | decide | (simp only [rmd]; omega), by first | decide | (simp only [rmd]; omega)⟩ (Nat.le_of_ble_eq_true rfl) (X1 hj) ⟨by decide, by decide⟩ (fun r_ M_ q8 => ?_)
  obtain ⟨rfl, htt, rfl⟩ := q8
  obtain ⟨t, rfl⟩ := Int.eq_ofNat_of_zero_le htt.1
  have hrs : 0 ≤ reasonS S P a.toNat t w b c' ∧ reasonS S P a.toNat t w b c' ≤ 127 := by
    unfold reasonS
    (repeat' split) <;> omega
  refine w_aload_n C dX6_reason_11 rfl ?_
  refine g_X6_19 C dX6_reason_12 (by first | assumption | exact Nat.zero_lt_one | exact Nat.zero_lt_two | exact Nat.one_lt_two) ?_
  refine w_aload_n C dX6_reason_15 rfl ?_
  refine g_X6_12 C dX6_reason_16 (by first | assumption | exact Nat.zero_lt_one | exact Nat.zero_lt_two | exact Nat.one_lt_two) ?_
  refine w_aload C dX6_reason_19 rfl ?_
  refine w_iload_n C dX6_reason_21 rfl ?_
  refine w_iload_n C dX6_reason_22 rfl ?_
  refine w_iload C dX6_reason_23 rfl ?_
  refine w_iload C dX6_reason_25 rfl ?_
  refine w_callV C dX6_reason_27 (c_X1_obstacle hl hI.1 (show inD (cnt ns nt) 2 0 from Nat.zero_lt_two) hI.2.2.1 hCl hSh hM hns (show a.toNat < nsS S by omega) t w (by omega) hw b c' hb hc) mX1_obstacle vX1_obstacle lk_X6_181 (by first | assumption | exact Nat.zero_lt_one | exact Nat.zero_lt_two | exact Nat.one_lt_two) rfl rfl rfl rfl ⟨by first | decide | (simp only [rmd]; omega), by first | decide | (simp only [rmd]; omega), by first | decide | (simp only [rmd]; omega), by first | decide | (simp only [rmd]; omega)⟩ (Nat.le_of_ble_eq_true rfl) (fun _ _ h => h.elim) ⟨by decide, by decide⟩ (fun r_ M_ q27 => ?_)
  obtain ⟨rfl, rfl⟩ := q27
  refine w_iret C hr dX6_reason_30 (narrow_c (by omega)).1 (okR_of (by unfold oReason; rw [if_neg (fun q => q hj), if_neg (fun q => q htt), Int.toNat_natCast]) rfl hR) (by decide) (by decide)
theorem c_X6_lay (hl : l.stackTraces = false) {S : Sg} {P : List Pc} {nx : Nat} (hI : Inv S P nx) (hnx : nx < 1000000) (hns : nsS S ≤ ns) (hR : RepRoom S P nx M) (a t b c' : Int) (w : Nat) (hw : w ≤ 1) (ha : -2147483648 ≤ a ∧ a ≤ 2147483647) (ht : -2147483648 ≤ t ∧ t ≤ 2147483647) (hb : -2147483648 ≤ b ∧ b ≤ 2147483647) (hc : -2147483648 ≤ c' ∧ c' ≤ 2147483647) : Con l b0 yX6_lay cX6_lay 7 (some .int) 10 3 18 [aO 0 0, aI a, aI t, aI b, aI c', aI w] ad (cnt ns nt) M (okR (oLay a t b c' w S P nx)) (exR (oLay a t b c' w S P nx) [eIO, eIA, eUO, eIS]) := by
  have hR' := hR
  obtain ⟨hCl, hSh, hMk, hSt, hRm, hTr⟩ := hR'
  have hMk' := hMk
  obtain ⟨f, hM⟩ := hMk'
  have hP40 := hI.2.2.1
  refine Con.of hl pl_X6 (Nat.le_of_ble_eq_true rfl) ?_
  intro D cA p e s m args below meth c C hr
  have X0 : ∀ (E9 : String) (M9 : Mem), (E9 = eIO ∧ M9 = M ∧ ¬ (0 ≤ a ∧ a < nsS S)) → exR (oLay a t b c' w S P nx) [eIO, eIA, eUO, eIS] E9 M9 := fun E9 M9 h9 => by
    obtain ⟨rfl, rfl, h9⟩ := h9
    exact exR_of (i := 0) (by unfold oLay; rw [if_pos h9]) rfl hR
  have X1 : (0 ≤ a ∧ a < nsS S) → ∀ (E9 : String) (M9 : Mem), (E9 = eIA ∧ M9 = M ∧ ¬ (0 ≤ t ∧ t ≤ 3)) → exR (oLay a t b c' w S P nx) [eIO, eIA, eUO, eIS] E9 M9 := fun hj E9 M9 h9 => by
    obtain ⟨rfl, rfl, h9⟩ := h9
    exact exR_of (i := 1) (by unfold oLay; rw [if_neg (fun q => q hj), if_pos h9]) rfl hR
  refine w_aload_n C dX6_lay_0 rfl ?_
  refine w_iload_n C dX6_lay_1 rfl ?_
  refine w_callV C dX6_lay_2 (c_X6_shapeOrThrow hl hI.1 hRm a ha) mX6_shapeOrThrow vX6_shapeOrThrow lk_X6_131 (by first | assumption | exact Nat.zero_lt_one | exact Nat.zero_lt_two | exact Nat.one_lt_two) rfl rfl rfl rfl ⟨by first | decide | (simp only [rmd]; omega), by first | decide | (simp only [rmd]; omega), by first | decide | (simp only [rmd]; omega), by first | decide | (simp only [rmd]; omega)⟩ (Nat.le_of_ble_eq_true rfl) X0 ⟨by decide, by decide⟩ (fun r_ M_ q2 => ?_)
  obtain ⟨rfl, hj, rfl⟩ := q2
  refine w_astore C dX6_lay_5 (by decide) ?_
  refine w_iload_n C dX6_lay_7 rfl ?_
  refine w_callS C dX6_lay_8 (c_X6_checkTurns hl t ht) mX6_checkTurns sX6_checkTurns lk_X6_177 rfl rfl ⟨by first | decide | (simp only [rmd]; omega), by first | decide | (simp only [rmd]; omega), by first | decide | (simp only [rmd]; omega), by first | decide | (simp only [rmd]; omega)⟩ (Nat.le_of_ble_eq_true rfl) (X1 hj) ⟨by decide, by decide⟩ (fun r_ M_ q8 => ?_)
  obtain ⟨rfl, htt, rfl⟩ := q8
  obtain ⟨t, rfl⟩ := Int.eq_ofNat_of_zero_le htt.1
  have hrs : 0 ≤ reasonS S P a.toNat t w b c' ∧ reasonS S P a.toNat t w b c' ≤ 127 := by
    unfold reasonS
    (repeat' split) <;> omega
  have Eq : oLay a t b c' w S P nx = if reasonS S P a.toNat t w b c' ≠ 45 then (3, 0, S, P, nx) else if 40 ≤ P.length then (4, 0, S, P, nx) else (0, (nx : Int), S, P ++ [(nx, a.toNat, t, b.toNat, c'.toNat, w)], nx + 1) := by
    unfold oLay
    rw [if_neg (fun q => q hj), if_neg (fun q => q htt), Int.toNat_natCast]
  refine w_aload_n C dX6_lay_11 rfl ?_
  refine g_X6_19 C dX6_lay_12 (by first | assumption | exact Nat.zero_lt_one | exact Nat.zero_lt_two | exact Nat.one_lt_two) ?_
  refine w_aload_n C dX6_lay_15 rfl ?_
  refine g_X6_12 C dX6_lay_16 (by first | assumption | exact Nat.zero_lt_one | exact Nat.zero_lt_two | exact Nat.one_lt_two) ?_
  refine w_aload C dX6_lay_19 rfl ?_
  refine w_iload_n C dX6_lay_21 rfl ?_
  refine w_iload_n C dX6_lay_22 rfl ?_
  refine w_iload C dX6_lay_23 rfl ?_
  refine w_iload C dX6_lay_25 rfl ?_
  refine w_callV C dX6_lay_27 (c_X1_obstacle hl hI.1 (show inD (cnt ns nt) 2 0 from Nat.zero_lt_two) hP40 hCl hSh hM hns (show a.toNat < nsS S by omega) t w (by omega) hw b c' hb hc) mX1_obstacle vX1_obstacle lk_X6_181 (by first | assumption | exact Nat.zero_lt_one | exact Nat.zero_lt_two | exact Nat.one_lt_two) rfl rfl rfl rfl ⟨by first | decide | (simp only [rmd]; omega), by first | decide | (simp only [rmd]; omega), by first | decide | (simp only [rmd]; omega), by first | decide | (simp only [rmd]; omega)⟩ (Nat.le_of_ble_eq_true rfl) (fun _ _ h => h.elim) ⟨by decide, by decide⟩ (fun r_ M_ q27 => ?_)
  obtain ⟨rfl, rfl⟩ := q27
  refine w_bipush (v := 45) C dX6_lay_30 rfl ?_
  refine w_icmp_eq C dX6_lay_32 (by omega) (by omega) (fun h32 => ?_) (fun h32 => ?_)
  · have hf := reason_free h32
    refine w_aload_n C dX6_lay_45 rfl ?_
    refine g_X6_19 C dX6_lay_46 (by first | assumption | exact Nat.zero_lt_one | exact Nat.zero_lt_two | exact Nat.one_lt_two) ?_
    refine w_callV C dX6_lay_49 (c_X1_isFull hl (show inD (cnt ns nt) 2 0 from Nat.zero_lt_two) hM.1 hP40) mX1_isFull vX1_isFull lk_X6_187 (by first | assumption | exact Nat.zero_lt_one | exact Nat.zero_lt_two | exact Nat.one_lt_two) rfl rfl rfl rfl ⟨by first | decide | (simp only [rmd]; omega), by first | decide | (simp only [rmd]; omega), by first | decide | (simp only [rmd]; omega), by first | decide | (simp only [rmd]; omega)⟩ (Nat.le_of_ble_eq_true rfl) (fun _ _ h => h.elim) ⟨by decide, by decide⟩ (fun r_ M_ q49 => ?_)
    obtain ⟨rfl, rfl⟩ := q49
    have h01 := b2_01 (40 ≤ P.length)
    refine w_if_eq C dX6_lay_52 (by omega) (fun h52 => ?_) (fun h52 => ?_)
    · have hP : P.length < 40 := by
        refine Nat.lt_of_not_le fun q => ?_
        rw [b2_t q] at h52
        omega
      obtain ⟨u, rfl⟩ := Int.eq_ofNat_of_zero_le hf.2.2.2.1.1.1
      obtain ⟨v, rfl⟩ := Int.eq_ofNat_of_zero_le hf.2.2.2.1.2.1
      rw [Int.toNat_natCast, Int.toNat_natCast] at Eq
      refine w_aload_n C dX6_lay_65 rfl ?_
      refine g_X6_19 C dX6_lay_66 (by first | assumption | exact Nat.zero_lt_one | exact Nat.zero_lt_two | exact Nat.one_lt_two) ?_
      refine w_aload_n C dX6_lay_69 rfl ?_
      refine g_X6_12 C dX6_lay_70 (by first | assumption | exact Nat.zero_lt_one | exact Nat.zero_lt_two | exact Nat.one_lt_two) ?_
      refine w_aload C dX6_lay_73 rfl ?_
      refine w_iload_n C dX6_lay_75 rfl ?_
      refine w_iload_n C dX6_lay_76 rfl ?_
      refine w_iload C dX6_lay_77 rfl ?_
      refine w_iload C dX6_lay_79 rfl ?_
      refine w_callV C dX6_lay_81 (c_X1_put hl hI.1 (show inD (cnt ns nt) 2 0 from Nat.zero_lt_two) hP hCl hSh hMk hI.2.1 hns (show a.toNat < nsS S by omega) t w (by omega) hw u v h32 hnx) mX1_put vX1_put lk_X6_193 (by first | assumption | exact Nat.zero_lt_one | exact Nat.zero_lt_two | exact Nat.one_lt_two) rfl rfl rfl rfl ⟨by first | decide | (simp only [rmd]; omega), by first | decide | (simp only [rmd]; omega), by first | decide | (simp only [rmd]; omega), by first | decide | (simp only [rmd]; omega)⟩ (Nat.le_of_ble_eq_true rfl) (fun _ _ h => h.elim) ⟨by decide, by decide⟩ (fun r_ M2 q81 => ?_)
      obtain ⟨k1, k2, rfl⟩ := q81
      refine w_iret C hr dX6_lay_84 rfl (okR_of (by rw [Eq, if_neg (fun q => q h32), if_neg (by omega)]) rfl (RepRoom.mk k1 k2 hR)) (by decide) (by decide)
    · refine w_throw C tk_66_70 ts_191 dX6_lay_55 dX6_lay_58 dX6_lay_59 dX6_lay_61 dX6_lay_64 ⟨by decide, by decide, by decide, by decide⟩ (Nat.le_of_ble_eq_true rfl) (exR_of (i := 3) (by rw [Eq, if_neg (fun q => q h32), if_pos (Decidable.byContradiction fun q => h52 (b2_f q))]) rfl hR) (by decide) (by decide)
  · refine w_throw C tk_96_100 ts_185 dX6_lay_35 dX6_lay_38 dX6_lay_39 dX6_lay_41 dX6_lay_44 ⟨by decide, by decide, by decide, by decide⟩ (Nat.le_of_ble_eq_true rfl) (exR_of (i := 2) (by rw [Eq, if_pos h32]) rfl hR) (by decide) (by decide)
theorem c_X6_nest (hl : l.stackTraces = false) {S : Sg} {P : List Pc} {nx : Nat} (hI : Inv S P nx) (hnx : nx < 1000000) (hns : nsS S ≤ ns) (hR : RepRoom S P nx M) (a : Int) (w : Nat) (hw : w ≤ 1) (ha : -2147483648 ≤ a ∧ a ≤ 2147483647) (z : Int) (hz : FSp S P a.toNat w z) : Con l b0 yX6_nest cX6_nest 5 (some .int) 10 2 12 [aO 0 0, aI a, aI w] ad (cnt ns nt) M (okR (oNest a w z S P nx)) (exR (oNest a w z S P nx) [eIO, eNS, eIS]) := by
  have hR' := hR
  obtain ⟨hCl, hSh, hMk, hSt, hRm, hTr⟩ := hR'
  have hMk' := hMk
  obtain ⟨f, hM⟩ := hMk'
  have hP40 := hI.2.2.1
  refine Con.of hl pl_X6 (Nat.le_of_ble_eq_true rfl) ?_
  intro D cA p e s m args below meth c C hr
  have X0 : ∀ (E9 : String) (M9 : Mem), (E9 = eIO ∧ M9 = M ∧ ¬ (0 ≤ a ∧ a < nsS S)) → exR (oNest a w z S P nx) [eIO, eNS, eIS] E9 M9 := fun E9 M9 h9 => by
    obtain ⟨rfl, rfl, h9⟩ := h9
    exact exR_of (i := 0) (by unfold oNest; rw [if_pos h9]) rfl hR
  refine w_aload_n C dX6_nest_0 rfl ?_
  refine w_iload_n C dX6_nest_1 rfl ?_
  refine w_callV C dX6_nest_2 (c_X6_shapeOrThrow hl hI.1 hRm a ha) mX6_shapeOrThrow vX6_shapeOrThrow lk_X6_131 (by first | assumption | exact Nat.zero_lt_one | exact Nat.zero_lt_two | exact Nat.one_lt_two) rfl rfl rfl rfl ⟨by first | decide | (simp only [rmd]; omega), by first | decide | (simp only [rmd]; omega), by first | decide | (simp only [rmd]; omega), by first | decide | (simp only [rmd]; omega)⟩ (Nat.le_of_ble_eq_true rfl) X0 ⟨by decide, by decide⟩ (fun r_ M_ q2 => ?_)
  obtain ⟨rfl, hj, rfl⟩ := q2
  have Eq : oNest a w z S P nx = if z = -1 then (2, 0, S, P, nx) else if 40 ≤ P.length then (3, 0, S, P, nx) else (0, (nx : Int), S, P ++ [(nx, a.toNat, z.toNat % 4, z.toNat / 4 / 12, z.toNat / 4 % 12, w)], nx + 1) := by
    unfold oNest
    rw [if_neg (fun q => q hj)]
  refine w_astore_n C dX6_nest_5 (by decide) ?_
  refine w_aload_n C dX6_nest_6 rfl ?_
  refine g_X6_19 C dX6_nest_7 (by first | assumption | exact Nat.zero_lt_one | exact Nat.zero_lt_two | exact Nat.one_lt_two) ?_
  refine w_aload_n C dX6_nest_10 rfl ?_
  refine g_X6_12 C dX6_nest_11 (by first | assumption | exact Nat.zero_lt_one | exact Nat.zero_lt_two | exact Nat.one_lt_two) ?_
  refine w_aload_n C dX6_nest_14 rfl ?_
  refine w_iload_n C dX6_nest_15 rfl ?_
  refine w_callV C dX6_nest_16 (c_X1_firstSpot hl hI.1 (show inD (cnt ns nt) 2 0 from Nat.zero_lt_two) hP40 hCl hSh hM hns (show a.toNat < nsS S by omega) w hw) mX1_firstSpot vX1_firstSpot lk_X6_199 (by first | assumption | exact Nat.zero_lt_one | exact Nat.zero_lt_two | exact Nat.one_lt_two) rfl rfl rfl rfl ⟨by first | decide | (simp only [rmd]; omega), by first | decide | (simp only [rmd]; omega), by first | decide | (simp only [rmd]; omega), by first | decide | (simp only [rmd]; omega)⟩ (Nat.le_of_ble_eq_true rfl) (fun _ _ h => h.elim) ⟨by decide, by decide⟩ (fun r_ M_ q16 => ?_)
  obtain ⟨rfl, z', rfl, hz'⟩ := q16
  have ez := hz'.uniq hz
  subst ez
  have hzb : -1 ≤ z' ∧ z' < 2880 := by
    rcases hz' with ⟨q, -⟩ | ⟨x, q1, q2, -⟩ <;> omega
  refine w_istore C dX6_nest_19 (by decide) ?_
  refine w_iload C dX6_nest_21 rfl ?_
  refine w_iconst C dX6_nest_23 ?_
  refine w_icmp_ne C dX6_nest_24 (by omega) (by omega) (fun h24 => ?_) (fun h24 => ?_)
  · refine w_aload_n C dX6_nest_37 rfl ?_
    refine g_X6_19 C dX6_nest_38 (by first | assumption | exact Nat.zero_lt_one | exact Nat.zero_lt_two | exact Nat.one_lt_two) ?_
    refine w_callV C dX6_nest_41 (c_X1_isFull hl (show inD (cnt ns nt) 2 0 from Nat.zero_lt_two) hM.1 hP40) mX1_isFull vX1_isFull lk_X6_187 (by first | assumption | exact Nat.zero_lt_one | exact Nat.zero_lt_two | exact Nat.one_lt_two) rfl rfl rfl rfl ⟨by first | decide | (simp only [rmd]; omega), by first | decide | (simp only [rmd]; omega), by first | decide | (simp only [rmd]; omega), by first | decide | (simp only [rmd]; omega)⟩ (Nat.le_of_ble_eq_true rfl) (fun _ _ h => h.elim) ⟨by decide, by decide⟩ (fun r_ M_ q41 => ?_)
    obtain ⟨rfl, rfl⟩ := q41
    have h01 := b2_01 (40 ≤ P.length)
    refine w_if_eq C dX6_nest_44 (by omega) (fun h44 => ?_) (fun h44 => ?_)
    · have hP : P.length < 40 := by
        refine Nat.lt_of_not_le fun q => ?_
        rw [b2_t q] at h44
        omega
      have hz9 : ∃ x : Nat, x < 2880 ∧ z' = x ∧ free S P a.toNat w x := by
        rcases hz' with ⟨q, -⟩ | ⟨x, q1, q2, q3, -⟩
        · exact absurd q h24
        · exact ⟨x, q1, q2, q3⟩
      obtain ⟨x, x1, rfl, x3⟩ := hz9
      rw [Int.toNat_natCast] at Eq
      refine w_aload_n C dX6_nest_57 rfl ?_
      refine g_X6_19 C dX6_nest_58 (by first | assumption | exact Nat.zero_lt_one | exact Nat.zero_lt_two | exact Nat.one_lt_two) ?_
      refine w_aload_n C dX6_nest_61 rfl ?_
      refine g_X6_12 C dX6_nest_62 (by first | assumption | exact Nat.zero_lt_one | exact Nat.zero_lt_two | exact Nat.one_lt_two) ?_
      refine w_aload_n C dX6_nest_65 rfl ?_
      refine w_iload C dX6_nest_66 rfl ?_
      refine w_iload_n C dX6_nest_68 rfl ?_
      refine w_callV C dX6_nest_69 (c_X1_putAtSpot hl hI.1 (show inD (cnt ns nt) 2 0 from Nat.zero_lt_two) hP hCl hSh hMk hI.2.1 hns (show a.toNat < nsS S by omega) w hw x x1 x3 hnx) mX1_putAtSpot vX1_putAtSpot lk_X6_208 (by first | assumption | exact Nat.zero_lt_one | exact Nat.zero_lt_two | exact Nat.one_lt_two) rfl rfl rfl rfl ⟨by first | decide | (simp only [rmd]; omega), by first | decide | (simp only [rmd]; omega), by first | decide | (simp only [rmd]; omega), by first | decide | (simp only [rmd]; omega)⟩ (Nat.le_of_ble_eq_true rfl) (fun _ _ h => h.elim) ⟨by decide, by decide⟩ (fun r_ M2 q69 => ?_)
      obtain ⟨k1, k2, rfl⟩ := q69
      refine w_iret C hr dX6_nest_72 rfl (okR_of (by rw [Eq, if_neg h24, if_neg (by omega)]) rfl (RepRoom.mk k1 k2 hR)) (by decide) (by decide)
    · refine w_throw C tk_66_70 ts_191 dX6_nest_47 dX6_nest_50 dX6_nest_51 dX6_nest_53 dX6_nest_56 ⟨by decide, by decide, by decide, by decide⟩ (Nat.le_of_ble_eq_true rfl) (exR_of (i := 2) (by rw [Eq, if_neg h24, if_pos (Decidable.byContradiction fun q => h44 (b2_f q))]) rfl hR) (by decide) (by decide)
  · refine w_throwN C ts_205 dX6_nest_27 dX6_nest_30 dX6_nest_31 dX6_nest_33 dX6_nest_36 ⟨by decide, by decide, by decide, by decide⟩ (Nat.le_of_ble_eq_true rfl) (exR_of (i := 1) (by rw [Eq, if_pos (Decidable.not_not.mp h24)]) rfl hR) (by decide) (by decide)
end Rm
