/-! methods with handlers: the law's wrappers -/
def wR (o : Res) (r : Option AV) (M' : Mem) : Prop := r = some (aI (o.1 : Nat)) ∧ RepRoom o.2.2.1 o.2.2.2.1 o.2.2.2.2 M' ∧ (o.1 = 0 → M'.2.2.1 80 0 0 = (Int32.ofInt o.2.1).toInt)
def ConH (l : Launch) (b0 : Nat → Prop) (y : MethodName) (cc : ByteArray) (nL : Nat) (ret : Option FieldType) (hh : List (Nat × Nat × Nat × Nat)) (d mc ms : Nat) (as : List AV) (ad : Ads) (cn : Nat → Nat) (M : Mem) (P : PT) : Prop :=
  ∀ (D : va_G) (cA : Nat → ClassId), vx_Met l y (.codeWith y cc nL ret hh :: GW) (rmd d mc ms) (va_Pc (as.map (tv ad)) (fun U => HW D cA b0 ad cn M U.heap ∧ EV D cA b0 U)) (mQ D cA b0 ad cn P) (mX D cA b0 ad cn (fun _ _ => False)) mc ms b0
theorem RepRoom.o80 {S : Sg} {P : List Pc} {nx s : Nat} {v : Int} {M : Mem} (h : RepRoom S P nx M) : RepRoom S P nx (uL M 80 0 s v) := h
theorem RepRoom.o81 {S : Sg} {P : List Pc} {nx s : Nat} {v : UInt64} {M : Mem} (h : RepRoom S P nx M) : RepRoom S P nx (uD M 81 0 s v) := h
section Rows
variable {p : Program} {l : Launch} {e : Env} {R : Room} {s : State} {m : MethodId} {args : Array Value} {below : List Frame} {meth : Method} {c : Code} {nL : Nat} {D : va_G} {cA : Nat → ClassId} {b0 : Nat → Prop} {cells slots : Nat} {Q : State → Prop} {lv : Lv} {st : List AV} {ad : Ads} {cn : Nat → Nat} {M : Mem} {cc : ByteArray} {own : String} {tab : List ExceptionTableEntry} {pc pc' : Nat}
theorem ConH.of {y : MethodName} {nLx d mc ms : Nat} {ret : Option FieldType} {hh : List (Nat × Nat × Nat × Nat)} {as : List AV} {P : PT} (hl : l.stackTraces = false) (hpl : plainName y.cls = true) (hlen : (as.map fun v => if cat2 v then 2 else 1).sum ≤ nLx)
    (body : ∀ (D : va_G) (cA : Nat → ClassId) (p : Program) (e : Env) (s : State) (m : MethodId) (args : Array Value) (below : List Frame) (meth : Method) (c : Code), Cx l p s m args meth c cc y.cls nLx D cA b0 (tableOf hh) → meth.sig.returnType = ret →
      Wm p l e (rmd d mc ms) s m args below meth c nLx D cA b0 0 0 (vx_MQ below (mQ D cA b0 ad cn P) (mX D cA b0 ad cn (fun _ _ => False)) args s mc ms b0) 0 (avargs 0 as) [] ad cn M) : ConH l b0 y cc nLx ret hh d mc ms as ad cn M P := by
  intro D cA
  refine vx_ofWH (cc := cc) (maxL := nLx) (ret := ret) (hh := hh) hpl rfl ?_
  intro p e s m args below meth c s₁ B hml hv
  obtain ⟨rfl, hw, hev⟩ := hv
  have hts := atoms_spec (ws := .codeWith y cc nLx ret hh :: GW) B.pre
  have hown : s.vm.findClass y.cls = some m.cls := findClass_of_methodNamed B.named
  have htab : c.exceptionTable.toList = tableOf hh := vx_table (x := y) B (hts _ List.mem_cons_self)
  have C : Cx l p s m (as.map (tv ad)).toArray meth c cc y.cls nLx D cA b0 (tableOf hh) := ⟨B.exec, B.bytes, hml, hown, fun w h => hts w (List.mem_cons_of_mem _ h), B.notSynchronized, hl, hev, htab⟩
  have k := body D cA p e s m _ below meth c C B.returns
  have hent := lv_entry (as.map (tv ad)) (n := nLx) (by rw [sl_len]; exact hlen)
  rw [avargs_lv] at hent
  rw [lg_entry_eq]
  exact k s.heap [] _ hw va_S.rf hent
theorem w_caught (C : Cx l p s m args meth c cc own nL D cA b0 tab) {E : String} {pre suf : List ExceptionTableEntry} {x : ExceptionTableEntry} {n pc2 : Nat} (hsplit : tab = pre ++ x :: suf) (hpass : ∀ z ∈ pre, z.catchType ≠ 0 ∧ ∃ nm, Cond.classLink own z.catchType nm ∈ GW ∧ (E, nm) ∈ ncL) (hx : covers x pc = true) (h0 : x.catchType ≠ 0) (hlink : Cond.classLink own x.catchType E ∈ GW) (hcast : (E, E) ∈ castL)
    (hd : DI cc x.handlerPc (.astore n) 2 pc2) (hn : n < nL) (kk : Wm p l e R s m args below meth c nL D cA b0 cells slots Q pc2 [] [] ad cn M) : Xm p l e R s m args below meth c nL D cA b0 cells slots Q pc lv st ad cn M E := by
  intro H locs ls ce q9 hw hS hl h1 h2 h3
  have EVv := C.2.2.2.2.2.2.2.1
  refine vx_catch (name := E) C.2.2.2.1 pre x suf (by rw [C.2.2.2.2.2.2.2.2]; exact hsplit) (fun z hz => ?_) hx h0 (C.2.2.2.2.1 _ hlink) (CaP.use (EVv.2.2.2.2.2.2.1 _ hcast)) h1 h2 h3 ?_
  · obtain ⟨g1, nm, g2, g3⟩ := hpass z hz
    exact Or.inr ⟨g1, nm, C.2.2.2.2.1 _ g2, EVv.2.2.2.2.2.2.2.1.1 _ g3⟩
  · refine lv_astore C.1 C.2.1 hd.1 hl hn rfl (fun ls1 hl1 => ?_)
    have k9 := kk H locs ls1 hw hS ⟨hl1.1, hl1.2.1, fun q hq => by cases hq⟩
    rw [← hd.2] at k9
    exact k9
theorem w_caughtN (C : Cx l p s m args meth c cc own nL D cA b0 tab) {E : String} {pre suf : List ExceptionTableEntry} {x : ExceptionTableEntry} {k : Fin 4} {pc2 : Nat} (hsplit : tab = pre ++ x :: suf) (hpass : ∀ z ∈ pre, z.catchType ≠ 0 ∧ ∃ nm, Cond.classLink own z.catchType nm ∈ GW ∧ (E, nm) ∈ ncL) (hx : covers x pc = true) (h0 : x.catchType ≠ 0) (hlink : Cond.classLink own x.catchType E ∈ GW) (hcast : (E, E) ∈ castL)
    (hd : DI cc x.handlerPc (.astore_n k) 1 pc2) (hn : (k : Nat) < nL) (kk : Wm p l e R s m args below meth c nL D cA b0 cells slots Q pc2 [] [] ad cn M) : Xm p l e R s m args below meth c nL D cA b0 cells slots Q pc lv st ad cn M E := by
  intro H locs ls ce q9 hw hS hl h1 h2 h3
  have EVv := C.2.2.2.2.2.2.2.1
  refine vx_catch (name := E) C.2.2.2.1 pre x suf (by rw [C.2.2.2.2.2.2.2.2]; exact hsplit) (fun z hz => ?_) hx h0 (C.2.2.2.2.1 _ hlink) (CaP.use (EVv.2.2.2.2.2.2.1 _ hcast)) h1 h2 h3 ?_
  · obtain ⟨g1, nm, g2, g3⟩ := hpass z hz
    exact Or.inr ⟨g1, nm, C.2.2.2.2.1 _ g2, EVv.2.2.2.2.2.2.2.1.1 _ g3⟩
  · refine lv_astore_n C.1 C.2.1 hd.1 rfl hl hn rfl (fun ls1 hl1 => ?_)
    have k9 := kk H locs ls1 hw hS ⟨hl1.1, hl1.2.1, fun q hq => by cases hq⟩
    rw [← hd.2] at k9
    exact k9
end Rows
