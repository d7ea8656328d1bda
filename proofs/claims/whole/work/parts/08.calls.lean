section Rows
variable {p : Program} {l : Launch} {e : Env} {R : Room} {s : State} {m : MethodId} {args : Array Value} {below : List Frame} {meth : Method} {c : Code} {nL : Nat} {D : va_G} {cA : Nat → ClassId} {b0 : Nat → Prop} {cells slots : Nat} {Q : State → Prop} {lv : Lv} {st : List AV} {ad : Ads} {cn : Nat → Nat} {M : Mem} {cc : ByteArray} {own : String} {tab : List ExceptionTableEntry} {pc pc' : Nat}
theorem my_call {P : PT} {X : PX} {mc ms : Nat} {ls : Array Slot} {st0 rest : List Value} {a : Array Value} {H : Heap} {locs : List Loc}
    (hr : vx_Run p l e R s m args below meth c H locs cells slots mc ms (F0 m pc ls st0) rest (mQ D cA b0 ad cn P a) (mX D cA b0 ad cn X) b0) (hS : va_S b0 s.heap H locs)
    (kx : ∀ (E : String) (ce : Cell) (q9 : Addr) (M' : Mem) (H1 : Heap) (locs1 : List Loc), X E M' → HW D cA b0 ad cn M' H1 → va_S b0 s.heap H1 locs1 → H1[q9]? = some ce → ce.vm = .none → s.vm.findClass E = some ce.cls → vx_W p l e R s m args below meth c H1 locs1 (cells + mc) (slots + ms) Q (F0 m pc ls rest) q9)
    (kk : ∀ (r : Option AV) (M' : Mem) (H1 : Heap) (locs1 : List Loc), P r M' → HW D cA b0 ad cn M' H1 → va_S b0 s.heap H1 locs1 → W p l e R s m args below meth c H1 locs1 (cells + mc) (slots + ms) Q (F0 m (pc + 3) ls ((r.map (tv ad)).toList ++ rest))) :
    W p l e R s m args below meth c H locs cells slots Q (F0 m pc ls st0) := by
  intro T hT X0
  rcases hr T hT X0 with ⟨v, st₀, t, T', L, h0, X', hL, e1, e2, ⟨r, M', hv, hp, hb, hF⟩, st1⟩ | ⟨q, st₀, t, T', L, E, ce, h0, X', hL, e1, e2, ⟨M', hp, hb, hF⟩, hce, hcv, hcl, st1⟩
  · cases hv
    obtain ⟨k1, k2, k3⟩ := vx_keep h0 e1 hS (fun _ _ h => h) (fun _ h => h) hL hF
    obtain ⟨t2, a1, b1⟩ := kk r M' T'.heap (locs ++ L) hp (by rw [e1]; exact hb) k3 T' rfl X'
    exact ⟨t2, st1 t2 a1, b1⟩
  · obtain ⟨k1, k2, k3⟩ := vx_keep h0 e1 hS (fun _ _ h => h) (fun _ h => h) hL hF
    obtain ⟨t2, a1, b1⟩ := kx E ce q M' T'.heap (locs ++ L) hp (by rw [e1]; exact hb) k3 (by rw [e1]; exact hce) hcv hcl T' rfl X'
    exact ⟨t2, st1.trans a1, b1⟩
/-- what is thrown over a frame, from every heap that holds the memory -/
def Xm (p : Program) (l : Launch) (e : Env) (R : Room) (s : State) (m : MethodId) (args : Array Value) (below : List Frame) (meth : Method) (c : Code) (nL : Nat) (D : va_G) (cA : Nat → ClassId) (b0 : Nat → Prop) (cells slots : Nat) (Q : State → Prop) (pc : Nat) (lv : Lv) (st : List AV) (ad : Ads) (cn : Nat → Nat) (M : Mem) (E : String) : Prop :=
  ∀ (H : Heap) (locs : List Loc) (ls : Array Slot) (ce : Cell) (q9 : Addr), HW D cA b0 ad cn M H → va_S b0 s.heap H locs → lv_has ls nL (lvm ad lv) → H[q9]? = some ce → ce.vm = .none → s.vm.findClass E = some ce.cls → vx_W p l e R s m args below meth c H locs cells slots Q (F0 m pc ls (st.map (tv ad))) q9
def MOK (y : MethodName) (bytes : ByteArray) (maxL : Nat) (ret : Option FieldType) (n : Nat) : Prop :=
  Cond.initialized y.cls ∈ GW ∧ Cond.code y bytes maxL ret ∈ GW ∧ (y.cls ≠ "java/lang/invoke/MethodHandle" ∧ y.cls ≠ "java/lang/invoke/VarHandle") ∧ (parseMethodDescriptor y.desc).map (fun d => d.parameters.length) = some n
def VOK (y : MethodName) : Prop := Cond.instanceMethod y ∈ GW ∧ Cond.selects y.cls y y ∈ GW
theorem ws_good {y : MethodName} {bytes : ByteArray} {maxL : Nat} {ret : Option FieldType} (hm : Cond.code y bytes maxL ret ∈ GW) {a0 : Array Value} {s0 : State} (hts : ∀ w ∈ GW, w.before a0 s0 = true) : ∀ w ∈ Cond.code y bytes maxL ret :: GW, ∀ (a' : Array Value) (U : State), s0.WarmedH U.vm → w.before a' U = true := by
  intro w hw a' U hW
  have hg : w ∈ GW := by
    rcases List.mem_cons.mp hw with q | q
    · rw [q]; exact hm
    · exact q
  exact word_at hW (good_of_word (GW_good hg)) (hts w hg)
theorem con_blind {as : List AV} : FrameBlind (va_Pc (as.map (tv ad)) (fun U => HW D cA b0 ad cn M U.heap ∧ EV D cA b0 U)) := fun a U g mk h => ⟨h.1, h.2.1, EV.same rfl rfl h.2.2⟩
theorem stk_cat (ad : Ads) (st : List AV) : ((st.map (tv ad)).map fun v => v.category).sum = (st.map fun v => if cat2 v then 2 else 1).sum := by
  induction st with
  | nil => rfl
  | cons v t ih => simp only [List.map_cons, List.sum_cons, ih, tv_cat2]
theorem w_callV0 (C : Cx l p s m args meth c cc own nL D cA b0 tab) {y : MethodName} {bytes : ByteArray} {maxL n d mc ms idx k i ci N : Nat} {ret : Option FieldType} {P : PT} {X : PX} {as stk : List AV} {fs : List Value} {T : u_T} (hd : DI cc pc (.invokevirtual idx) 3 pc') (hcon : Con l b0 y bytes maxL ret d mc ms (aO k i :: as) ad cn M P X) (hm : MOK y bytes maxL ret n) (hv : VOK y) (hk : Cond.methodLink own idx y ∈ GW) (hin : inD cn k i) (he : cM cA ad M k i = .inr (ci, fs)) (hc : clT[ci]? = some (y.cls, T, N))
    (hst : stk = as.reverse ++ aO k i :: st) (hn : as.length = n) (hroom : d + 1 ≤ R.frames ∧ 8 + (maxL + 11) + 40 * d ≤ R.locals ∧ cells + mc ≤ R.cells ∧ slots + ms ≤ R.slots) (hwt : (st.map fun v => if cat2 v then 2 else 1).sum ≤ 8)
    (kx : ∀ (E : String) (M' : Mem), X E M' → Xm p l e R s m args below meth c nL D cA b0 (cells + mc) (slots + ms) Q pc lv st ad cn M' E) (kk : ∀ (r : Option AV) (M' : Mem), P r M' → Wm p l e R s m args below meth c nL D cA b0 (cells + mc) (slots + ms) Q pc' lv (r.toList ++ st) ad cn M') : Wm p l e R s m args below meth c nL D cA b0 cells slots Q pc lv stk ad cn M := by
  intro H locs ls hw hS hl
  obtain ⟨q0, hq⟩ := wsM_get (hb := hw.2.2.2.1) (cA := cA) (ad := ad) (M := M) hin
  have hrecv := va_recv C.2.2.2.2.2.2.2.1.1 (HW_P hw) hc (cM_of hq he)
  have hN : ∀ sig, parseMethodDescriptor y.desc = some sig → n = sig.parameters.length := fun sig h => by
    have h2 := hm.2.2.2
    rw [h] at h2
    exact (Option.some.inj h2).symm
  refine my_call (rest := st.map (tv ad)) (vx_runV (C := y.cls) (n := n) (As := as.map (tv ad)) (b := ad k i) (rest := st.map (tv ad)) ⟨C.1, C.2.1, C.2.2.1, C.2.2.2.1, C.2.2.2.2.1⟩ (hcon D cA) ⟨⟨rfl, rfl, hroom.1, hroom.2.1, ws_good hm.2.1 C.2.2.2.2.1, List.mem_cons_self, C.2.2.2.2.1 _ hm.2.1, C.2.2.2.2.1 _ hm.1, hm.2.2.1, hN, C.2.2.2.2.1 _ hk⟩, C.2.2.2.2.1 _ hv.1, C.2.2.2.2.1 _ hv.2⟩ ⟨con_blind, hrecv, fun U hU hW => ⟨rfl, by rw [hU]; exact hw, EV.warm hW (by rw [hU]; exact hS) C.2.2.2.2.2.2.2.1⟩⟩ rfl (by rw [List.length_map]; exact hn) hl.1 (by rw [hst]; simp [List.map_append, List.map_reverse]; rfl) (lv_room (by rw [stk_cat]; exact hwt)) hd.1 ⟨hroom.2.2.1, hroom.2.2.2⟩) hS (fun E ce q9 M' H1 locs1 hX hw1 hS1 h1 h2 h3 => kx E M' hX H1 locs1 ls ce q9 hw1 hS1 hl h1 h2 h3) (fun r M' H1 locs1 hP hw1 hS1 => ?_)
  have k9 := kk r M' hP H1 locs1 ls hw1 hS1 hl
  rw [← hd.2] at k9
  have e9 : (r.toList ++ st).map (tv ad) = (r.map (tv ad)).toList ++ st.map (tv ad) := by cases r <;> rfl
  rw [e9] at k9
  exact k9
theorem w_callS0 (C : Cx l p s m args meth c cc own nL D cA b0 tab) {y : MethodName} {bytes : ByteArray} {maxL n d mc ms idx : Nat} {ret : Option FieldType} {P : PT} {X : PX} {as stk : List AV} (hd : DI cc pc (.invokestatic idx) 3 pc') (hcon : Con l b0 y bytes maxL ret d mc ms as ad cn M P X) (hm : MOK y bytes maxL ret n) (hv : Cond.static y ∈ GW) (hk : Cond.methodLink own idx y ∈ GW)
    (hst : stk = as.reverse ++ st) (hn : as.length = n) (hroom : d + 1 ≤ R.frames ∧ 8 + (maxL + 11) + 40 * d ≤ R.locals ∧ cells + mc ≤ R.cells ∧ slots + ms ≤ R.slots) (hwt : (st.map fun v => if cat2 v then 2 else 1).sum ≤ 8)
    (kx : ∀ (E : String) (M' : Mem), X E M' → Xm p l e R s m args below meth c nL D cA b0 (cells + mc) (slots + ms) Q pc lv st ad cn M' E) (kk : ∀ (r : Option AV) (M' : Mem), P r M' → Wm p l e R s m args below meth c nL D cA b0 (cells + mc) (slots + ms) Q pc' lv (r.toList ++ st) ad cn M') : Wm p l e R s m args below meth c nL D cA b0 cells slots Q pc lv stk ad cn M := by
  intro H locs ls hw hS hl
  have hN : ∀ sig, parseMethodDescriptor y.desc = some sig → n = sig.parameters.length := fun sig h => by
    have h2 := hm.2.2.2
    rw [h] at h2
    exact (Option.some.inj h2).symm
  refine my_call (rest := st.map (tv ad)) (vx_runS (n := n) (As := as.map (tv ad)) (rest := st.map (tv ad)) ⟨C.1, C.2.1, C.2.2.1, C.2.2.2.1, C.2.2.2.2.1⟩ (hcon D cA) ⟨⟨rfl, rfl, hroom.1, hroom.2.1, ws_good hm.2.1 C.2.2.2.2.1, List.mem_cons_self, C.2.2.2.2.1 _ hm.2.1, C.2.2.2.2.1 _ hm.1, hm.2.2.1, hN, C.2.2.2.2.1 _ hk⟩, C.2.2.2.2.1 _ hv⟩ ⟨con_blind, fun U hU hW => ⟨rfl, by rw [hU]; exact hw, EV.warm hW (by rw [hU]; exact hS) C.2.2.2.2.2.2.2.1⟩⟩ rfl (by rw [List.length_map]; exact hn) hl.1 (by rw [hst]; simp [List.map_append, List.map_reverse]) (lv_room (by rw [stk_cat]; exact hwt)) hd.1 ⟨hroom.2.2.1, hroom.2.2.2⟩) hS (fun E ce q9 M' H1 locs1 hX hw1 hS1 h1 h2 h3 => kx E M' hX H1 locs1 ls ce q9 hw1 hS1 hl h1 h2 h3) (fun r M' H1 locs1 hP hw1 hS1 => ?_)
  have k9 := kk r M' hP H1 locs1 ls hw1 hS1 hl
  rw [← hd.2] at k9
  have e9 : (r.toList ++ st).map (tv ad) = (r.map (tv ad)).toList ++ st.map (tv ad) := by cases r <;> rfl
  rw [e9] at k9
  exact k9
theorem w_callN0 (C : Cx l p s m args meth c cc own nL D cA b0 tab) {y : MethodName} {bytes : ByteArray} {maxL n d mc ms idx : Nat} {host : String} {ret : Option FieldType} {P : PT} {X : PX} {as stk : List AV} (hd : DI cc pc (.invokestatic idx) 3 pc') (hcon : Con l b0 y bytes maxL ret d mc ms as ad cn M P X) (hm : MOK y bytes maxL ret n) (hv : Cond.static y ∈ GW) (hk : (own, idx, y, host) ∈ nestL)
    (hst : stk = as.reverse ++ st) (hn : as.length = n) (hroom : d + 1 ≤ R.frames ∧ 8 + (maxL + 11) + 40 * d ≤ R.locals ∧ cells + mc ≤ R.cells ∧ slots + ms ≤ R.slots) (hwt : (st.map fun v => if cat2 v then 2 else 1).sum ≤ 8)
    (kx : ∀ (E : String) (M' : Mem), X E M' → Xm p l e R s m args below meth c nL D cA b0 (cells + mc) (slots + ms) Q pc lv st ad cn M' E) (kk : ∀ (r : Option AV) (M' : Mem), P r M' → Wm p l e R s m args below meth c nL D cA b0 (cells + mc) (slots + ms) Q pc' lv (r.toList ++ st) ad cn M') : Wm p l e R s m args below meth c nL D cA b0 cells slots Q pc lv stk ad cn M := by
  intro H locs ls hw hS hl
  have hN : ∀ sig, parseMethodDescriptor y.desc = some sig → n = sig.parameters.length := fun sig h => by
    have h2 := hm.2.2.2
    rw [h] at h2
    exact (Option.some.inj h2).symm
  refine my_call (rest := st.map (tv ad)) (vx_runSN (n := n) (host := host) (As := as.map (tv ad)) (rest := st.map (tv ad)) ⟨C.1, C.2.1, C.2.2.1, C.2.2.2.1, C.2.2.2.2.1⟩ (hcon D cA) ⟨⟨⟨rfl, rfl, hroom.1, hroom.2.1, ws_good hm.2.1 C.2.2.2.2.1, List.mem_cons_self⟩, C.2.2.2.2.1 _ hm.2.1, C.2.2.2.2.1 _ hm.1, hm.2.2.1, hN, va_Nw.use rfl (C.2.2.2.2.2.2.2.1.2.2.2.2.2.1 _ hk)⟩, C.2.2.2.2.1 _ hv, trivial⟩ ⟨con_blind, fun U hU hW => ⟨rfl, by rw [hU]; exact hw, EV.warm hW (by rw [hU]; exact hS) C.2.2.2.2.2.2.2.1⟩⟩ rfl (by rw [List.length_map]; exact hn) hl.1 (by rw [hst]; simp [List.map_append, List.map_reverse]) (lv_room (by rw [stk_cat]; exact hwt)) hd.1 ⟨hroom.2.2.1, hroom.2.2.2⟩) hS (fun E ce q9 M' H1 locs1 hX hw1 hS1 h1 h2 h3 => kx E M' hX H1 locs1 ls ce q9 hw1 hS1 hl h1 h2 h3) (fun r M' H1 locs1 hP hw1 hS1 => ?_)
  have k9 := kk r M' hP H1 locs1 ls hw1 hS1 hl
  rw [← hd.2] at k9
  have e9 : (r.toList ++ st).map (tv ad) = (r.map (tv ad)).toList ++ st.map (tv ad) := by cases r <;> rfl
  rw [e9] at k9
  exact k9
/-- out of a method without handlers -/
theorem x_out (C : Cx l p s m args meth c cc own nL D cA b0 []) {P : PT} {X : PX} {mc ms : Nat} {E : String} (hX : X E M) (hc : cells ≤ mc) (hs : slots ≤ ms) : Xm p l e R s m args below meth c nL D cA b0 cells slots (vx_MQ below (mQ D cA b0 ad cn P) (mX D cA b0 ad cn X) args s mc ms b0) pc lv st ad cn M E := fun H locs ls ce q9 hw hS hl h1 h2 h3 =>
  vx_out (fun x hx => by rw [C.2.2.2.2.2.2.2.2] at hx; cases hx) C.2.2.2.2.2.1 h1 h2 h3 (fun t ht hA => ⟨M, hX, by rw [ht]; exact hw, hS.F ht⟩) hS.2.2 hc hs
/-- new E(text), thrown here -/
def TOK (own : String) (ik ic : Nat) (cls : String) (names : List String) : Prop :=
  Bundle.fit cls = true ∧ (∀ n ∈ names, Bundle.fit n = true) ∧ names.length ≤ 3 ∧ Cond.classLink own ik cls ∈ GW ∧ Cond.initialized cls ∈ GW ∧ (∀ w ∈ (vx_atS own ic cls names).filter goodWord, w ∈ GW) ∧ (∀ w ∈ (vx_atS own ic cls names).filter (fun w => !goodWord w), w ∈ Cond.castable cls cls :: declL.map Cond.declares) ∧ (cls, cls) ∈ castL ∧ (∀ w ∈ Cond.classLink own ik cls :: Cond.initialized cls :: vx_atS own ic cls names, vx_ot w = true)
theorem throwB (C : Cx l p s m args meth c cc own nL D cA b0 tab) {cls : String} (h8 : (cls, cls) ∈ castL) : ∀ w ∈ Cond.castable cls cls :: declL.map Cond.declares, w.before args s = true := by
  intro w hw
  rcases List.mem_cons.mp hw with h | h
  · rw [h]; exact CaP.use (C.2.2.2.2.2.2.2.1.2.2.2.2.2.2.1 _ h8)
  · obtain ⟨x, hx, rfl⟩ := List.mem_map.mp h
    exact va_Nw.use rfl (C.2.2.2.2.2.2.2.1.2.2.2.2.2.2.2.2 x hx)
theorem w_throw (C : Cx l p s m args meth c cc own nL D cA b0 []) {P : PT} {X : PX} {mc ms ik is ic p3 p4 p6 p9 p10 : Nat} {cls text : String} {names : List String} (hk : TOK own ik ic cls names) (hstr : (own, is, text) ∈ strL) (d0 : DI cc pc (.new ik) 3 p3) (d3 : DI cc p3 .dup 1 p4) (d4 : DI cc p4 (.ldc is) 2 p6) (d6 : DI cc p6 (.invokespecial ic) 3 p9) (d9 : DI cc p9 .athrow 1 p10)
    (hroom : 6 < R.frames ∧ 103 ≤ R.locals ∧ cells + 1 ≤ R.cells ∧ slots + 6 ≤ R.slots) (hwt : (st.map fun v => if cat2 v then 2 else 1).sum ≤ 8) (hX : X cls M) (hc : cells + 1 ≤ mc) (hs : slots + 6 ≤ ms) : Wm p l e R s m args below meth c nL D cA b0 cells slots (vx_MQ below (mQ D cA b0 ad cn P) (mX D cA b0 ad cn X) args s mc ms b0) pc lv st ad cn M := by
  intro H locs ls hw hS hl
  obtain ⟨h1, h2, h3, h4, h5, h6, h7, h8, h9⟩ := hk
  obtain ⟨sa, hsa⟩ := C.2.2.2.2.2.2.2.1.2.2.2.2.1 _ hstr
  have q3 : pc + 3 = p3 := d0.2
  have q4 : pc + 4 = p4 := by rw [← d3.2, ← q3]
  have q6 : pc + 6 = p6 := by rw [← d4.2, ← q4]
  have q9 : pc + 9 = p9 := by rw [← d6.2, ← q6]
  exact vx_throwS (sa := sa) C.1 C.2.1 C.2.2.2.2.2.2.1 C.2.2.2.1 h1 h2 (C.2.2.2.2.1 _ h4) (C.2.2.2.2.1 _ h5) hsa (vx_hat (B := Cond.castable cls cls :: declL.map Cond.declares) (fun w hw => C.2.2.2.2.1 _ (h6 w hw)) h7 (throwB C h8)) h9 C.2.2.2.2.2.2.2.1.2.1 C.2.2.2.2.2.2.2.1.2.2.1 hS (by rw [hl.1, C.2.2.1]) d0.1 (by rw [q3]; exact d3.1) (by rw [q4]; exact d4.1) (by rw [q6]; exact d6.1) (by rw [q9]; exact d9.1)
    (fun x hx => by rw [C.2.2.2.2.2.2.2.2] at hx; cases hx) (by omega) (by rw [stk_cat]; omega) hroom.2.2.1 hroom.2.2.2 C.2.2.2.2.2.1
    (fun t hA hz hk9 => ⟨M, hX, ⟨fun k i hi => (hw.1 k i hi).kept (hk9 _ (hw.1 k i hi).lt), hw.2.1, hw.2.2⟩, ⟨Nat.le_trans hS.1 hz, fun q a1 a2 => (hk9 q (Nat.lt_of_lt_of_le a1 hS.1)).trans (hS.2.1 q a1 a2)⟩⟩) hS.2.2 hc hs
theorem w_throwW (C : Cx l p s m args meth c cc own nL D cA b0 []) {P : PT} {X : PX} {mc ms ik is ic p3 p4 p7 p10 p11 : Nat} {cls text : String} {names : List String} (hk : TOK own ik ic cls names) (hstr : (own, is, text) ∈ strL) (d0 : DI cc pc (.new ik) 3 p3) (d3 : DI cc p3 .dup 1 p4) (d4 : DI cc p4 (.ldc_w is) 3 p7) (d6 : DI cc p7 (.invokespecial ic) 3 p10) (d9 : DI cc p10 .athrow 1 p11)
    (hroom : 6 < R.frames ∧ 103 ≤ R.locals ∧ cells + 1 ≤ R.cells ∧ slots + 6 ≤ R.slots) (hwt : (st.map fun v => if cat2 v then 2 else 1).sum ≤ 8) (hX : X cls M) (hc : cells + 1 ≤ mc) (hs : slots + 6 ≤ ms) : Wm p l e R s m args below meth c nL D cA b0 cells slots (vx_MQ below (mQ D cA b0 ad cn P) (mX D cA b0 ad cn X) args s mc ms b0) pc lv st ad cn M := by
  intro H locs ls hw hS hl
  obtain ⟨h1, h2, h3, h4, h5, h6, h7, h8, h9⟩ := hk
  obtain ⟨sa, hsa⟩ := C.2.2.2.2.2.2.2.1.2.2.2.2.1 _ hstr
  have q3 : pc + 3 = p3 := d0.2
  have q4 : pc + 4 = p4 := by rw [← d3.2, ← q3]
  have q6 : pc + 7 = p7 := by rw [← d4.2, ← q4]
  have q9 : pc + 10 = p10 := by rw [← d6.2, ← q6]
  exact vx_throwSW (sa := sa) C.1 C.2.1 C.2.2.2.2.2.2.1 C.2.2.2.1 h1 h2 (C.2.2.2.2.1 _ h4) (C.2.2.2.2.1 _ h5) hsa (vx_hat (B := Cond.castable cls cls :: declL.map Cond.declares) (fun w hw => C.2.2.2.2.1 _ (h6 w hw)) h7 (throwB C h8)) h9 C.2.2.2.2.2.2.2.1.2.1 C.2.2.2.2.2.2.2.1.2.2.1 hS (by rw [hl.1, C.2.2.1]) d0.1 (by rw [q3]; exact d3.1) (by rw [q4]; exact d4.1) (by rw [q6]; exact d6.1) (by rw [q9]; exact d9.1)
    (fun x hx => by rw [C.2.2.2.2.2.2.2.2] at hx; cases hx) (by omega) (by rw [stk_cat]; omega) hroom.2.2.1 hroom.2.2.2 C.2.2.2.2.2.1
    (fun t hA hz hk9 => ⟨M, hX, ⟨fun k i hi => (hw.1 k i hi).kept (hk9 _ (hw.1 k i hi).lt), hw.2.1, hw.2.2⟩, ⟨Nat.le_trans hS.1 hz, fun q a1 a2 => (hk9 q (Nat.lt_of_lt_of_le a1 hS.1)).trans (hS.2.1 q a1 a2)⟩⟩) hS.2.2 hc hs
theorem sl_len (ad : Ads) (as : List AV) : (lg_sl (as.map (tv ad))).length = (as.map fun v => if cat2 v then 2 else 1).sum := by
  induction as with
  | nil => rfl
  | cons v t ih =>
    have h : lg_sl ((v :: t).map (tv ad)) = (if (tv ad v).category = 2 then [.val (tv ad v), .second] else [.val (tv ad v)]) ++ lg_sl (t.map (tv ad)) := by
      simp [lg_sl]
    rw [h, List.length_append, ih, List.map_cons, List.sum_cons, tv_cat2]
    cases cat2 v <;> rfl
theorem Con.of {y : MethodName} {nLx d mc ms : Nat} {ret : Option FieldType} {as : List AV} {P : PT} {X : PX} (hl : l.stackTraces = false) (hpl : plainName y.cls = true) (hlen : (as.map fun v => if cat2 v then 2 else 1).sum ≤ nLx)
    (body : ∀ (D : va_G) (cA : Nat → ClassId) (p : Program) (e : Env) (s : State) (m : MethodId) (args : Array Value) (below : List Frame) (meth : Method) (c : Code), Cx l p s m args meth c cc y.cls nLx D cA b0 [] → meth.sig.returnType = ret →
      Wm p l e (rmd d mc ms) s m args below meth c nLx D cA b0 0 0 (vx_MQ below (mQ D cA b0 ad cn P) (mX D cA b0 ad cn X) args s mc ms b0) 0 (avargs 0 as) [] ad cn M) : Con l b0 y cc nLx ret d mc ms as ad cn M P X := by
  intro D cA
  refine vx_ofW (cc := cc) (maxL := nLx) (ret := ret) hpl rfl ?_
  intro p e s m args below meth c s₁ B hml ht hv
  obtain ⟨rfl, hw, hev⟩ := hv
  have hts := atoms_spec (ws := .code y cc nLx ret :: GW) B.pre
  have hown : s.vm.findClass y.cls = some m.cls := findClass_of_methodNamed B.named
  have htab : c.exceptionTable.toList = [] := List.eq_nil_iff_forall_not_mem.mpr ht
  have C : Cx l p s m (as.map (tv ad)).toArray meth c cc y.cls nLx D cA b0 [] := ⟨B.exec, B.bytes, hml, hown, fun w h => hts w (List.mem_cons_of_mem _ h), B.notSynchronized, hl, hev, htab⟩
  have k := body D cA p e s m _ below meth c C B.returns
  have hent := lv_entry (as.map (tv ad)) (n := nLx) (by rw [sl_len]; exact hlen)
  rw [avargs_lv] at hent
  rw [lg_entry_eq]
  exact k s.heap [] _ hw va_S.rf hent
end Rows
