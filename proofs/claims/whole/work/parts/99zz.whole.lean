/-! the claim -/
def R_law : String := "CuttingRoomLaw"
def lw_P (b : Addr) (xs : List Int32) (args : Array Value) (s : State) : Prop := args = #[.ref b] ∧ s.IntsAt b xs ∧ xs.length ≤ 3072 ∧ (Jvm.Cond.and given_1 narrow_1).before args s = true
/-- what a walk over the start with the record d0 says of its end, said of the start itself -/
theorem lw_closed {s t : State} {o : Outcome} {d0 : Drawn} {L : List Loc} {k n : Nat} (hd0 : s.drawn.sameBut d0 lw_cs) (hv : ∃ v, o = .returned v) (hW : (s.setDrawn d0).WarmedH t.vm) (hs : (s.setDrawn d0).sameButNew ({ t with vm := s.vm } : State) L k n) : State.butDraws s t lw_cs (fun t1 => Framed s o t1 L k n) := by
  have h2 : t.drawn = d0 := congrArg State.drawn hs.1
  refine ⟨⟨hv, hW, State.sameButNew.setDrawn hs s.drawn⟩, ?_, by decide⟩
  rw [h2]
  exact hd0
def lw_Q (_ : Array Value) (s : State) (o : Outcome) (t : State) : Prop := o = .returned (some (.int 1)) ∧ State.butDraws s t lw_cs (fun t1 => Framed s o t1 [] 603072 7211114)
def lw_Z (below : List Frame) (a : Array Value) (s : State) : State → Prop := fun t => ∃ o, t.status = .running ∧ Ended t below o ∧ lw_Q a s o t
/-- the law's own end, with 1 on the stack, nothing written that was there before, its room as the claim has it; d0: the record of draws at this point (at the entry s.drawn: begin with 'refine W.base ?_' and 'have hd0 := Drawn.sameBut.refl s.drawn lw_cs') -/
theorem lw_ret {p : Program} {l : Launch} {e : Env} {s : State} {m : MethodId} {below : List Frame} {meth : Method} {c : Code} {b : Nat} {d0 : Drawn} (hd0 : s.drawn.sameBut d0 lw_cs) (hx : p.tables.exec = Jvm.exec) (hb : c.code = code) (hr : meth.sig.returnType = ret) (hlocks : meth.locks = false) {pc : Nat} {H : Heap} {ls : Array Slot} (hdg : decode code pc = .ok (.ireturn, 1)) : W p l e room_1 (s.setDrawn d0) m #[Value.ref b] below meth c H [] 603072 7211114 (lw_Z below #[Value.ref b] s) (F0 m pc ls [.int 1]) := by
  intro T hT X
  obtain ⟨fs, hret, hrun, hended, hW, hframe⟩ := X.leave (v := some (.int 1)) (hlocks := hlocks) (fun h => by rw [hr] at h; cases h)
  have hmeth' : T.vm.method? m = some meth := X.method'
  refine ⟨T.setFrames fs, ?_, .returned (some (.int 1)), hrun, hended, rfl, lw_closed hd0 ⟨_, rfl⟩ hW hframe⟩
  jvm_step X.here [X.here.top, hx, hb, hdg, hmeth', hr, ret, narrow_b1]
  (try refine ⟨rfl, ?_⟩); (try refine ⟨rfl, ?_⟩)
  first | (intro acts; rw [hret _ acts rfl rfl rfl]) | rw [hret _ _ rfl rfl rfl]
  exact Steps.refl _
/-- what holds at the law's entry: the machine, the code, the tables' words (any of lw_tbl by 'hts w (by decide +kernel)'), the script of L ints xs at the cell b, what the Statement gives of the start (any of its parts by flat_of_before) -/
def lw_At (p : Program) (s : State) (m : MethodId) (meth : Method) (c : Code) (b L : Nat) (xs : Nat → Int32) : Prop :=
  p.tables.exec = Jvm.exec ∧ c.code = code ∧ meth.sig.returnType = ret ∧ c.maxLocals = 9 ∧ s.vm.findClass R_law = some m.cls ∧ (∀ w ∈ lw_tbl, w.before #[Value.ref b] s = true) ∧ va_X b L xs s s.heap ∧ b < s.heap.size ∧ meth.locks = false ∧ (Jvm.Cond.and given_1 narrow_1).before #[Value.ref b] s = true
/-! what the start gives -/
theorem st_arr {s : State} {args : Array Value} {t : ArrayType} {ty : FieldType} (hty : newarray.typeOf t = ty) (hn : ∀ C, ty ≠ .object C) (h : (Cond.arrayClass (newarray.typeOf t)).before args s = true) : ∃ c : ClassId, ArrOfT s c ty ∧ va_RA s c ty := by
  rw [hty] at h
  obtain ⟨c, k, comp, h1, h2, h3⟩ := Cond.arrayClass_spec (first := s) (o := none) (s := s) (idx := []) h
  refine ⟨c, fun n z => ⟨fun k h => (by cases h), k, h2, comp, h3⟩, ?_⟩
  cases ty with
  | object C => exact absurd rfl (hn C)
  | _ => exact h1
theorem st_ao {s : State} {C : String} (h : va_AO C s) : ∃ c : ClassId, ArrOfT s c (.object C) ∧ va_RA s c (.object C) := by
  obtain ⟨comp, c, k, h1, h2, h3, h4, h5⟩ := Cond.arrayOver_spec (first := s) (o := none) (s := s) (idx := []) h
  exact ⟨c, fun n z => ⟨fun k h => (by cases h), k, h3, comp, h4⟩, k, comp, h3, h4, h1, h5⟩
theorem st_str : ∀ q ∈ strL, Cond.stringRef q.1 q.2.1 q.2.2 ∈ lw_tbl ∧ Cond.exactly (.string q.1 q.2.1) "java/lang/String" ∈ flatC (Cond.and given_1 narrow_1) := by decide +kernel
theorem st_nest : ∀ q ∈ nestL, Cond.methodLinkNest q.1 q.2.1 q.2.2.1 q.2.2.2 ∈ lw_tbl := by decide +kernel
theorem st_cast : ∀ q ∈ castL, Cond.castable q.1 q.2 ∈ lw_tbl := by decide +kernel
theorem st_nc : ∀ q ∈ ncL, Cond.not (.castable q.1 q.2) ∈ flatC (Cond.and given_1 narrow_1) := by decide +kernel
theorem st_aoL : ∀ C ∈ aoL, Cond.arrayOver (.object C) ∈ lw_tbl := by decide +kernel
theorem st_decl : ∀ x ∈ declL, Cond.declares x ∈ lw_tbl := by decide +kernel
theorem st_u1 : Cond.laysStatic Bundle.tN "UNASSIGNED_STACK" Bundle.steD ∈ lw_tbl ∧ Cond.laysStatic Bundle.tN "SUPPRESSED_SENTINEL" Bundle.listD ∈ lw_tbl ∧ Cond.initialized Bundle.tN ∈ lw_tbl := by decide +kernel
theorem st_u2 : Cond.isRef (.static Bundle.tN "UNASSIGNED_STACK" Bundle.steD) ∈ flatC (Cond.and given_1 narrow_1) ∧ Cond.isRef (.static Bundle.tN "SUPPRESSED_SENTINEL" Bundle.listD) ∈ flatC (Cond.and given_1 narrow_1) := by decide +kernel
theorem st_EV {s : State} {args : Array Value} (hts : ∀ w ∈ lw_tbl, w.before args s = true) (hgv : (Cond.and given_1 narrow_1).before args s = true) : ∃ (D : va_G) (cA : Nat → ClassId), EV D cA (fun q => s.heap.size ≤ q) s := by
  have hG : ∀ w ∈ GW, w.before args s = true := fun w h => hts w (List.mem_filter.mp h).1
  have hf := flat_of_before _ hgv
  have hA : ∀ a : Nat, a < s.heap.size → ¬ s.heap.size ≤ a := fun a h => Nat.not_le.mpr h
  obtain ⟨c0, i0, k0⟩ := u_known hG wi_X0 (hG _ mN_X0)
  obtain ⟨c1, i1, k1⟩ := u_known hG wi_X1 (hG _ mN_X1)
  obtain ⟨c2, i2, k2⟩ := u_known hG wi_X2 (hG _ mN_X2)
  obtain ⟨c3, i3, k3⟩ := u_known hG wi_X3 (hG _ mN_X3)
  obtain ⟨c4, i4, k4⟩ := u_known hG wi_X4 (hG _ mN_X4)
  obtain ⟨c5, i5, k5⟩ := u_known hG wi_X5 (hG _ mN_X5)
  obtain ⟨c6, i6, k6⟩ := u_known hG wi_X6 (hG _ mN_X6)
  obtain ⟨c7, i7, k7⟩ := u_known hG wi_X7 (hG _ mN_X7)
  have hao : ∀ C ∈ aoL, va_AO C s := fun C hC => va_AO.of (A := args) (hts _ (st_aoL C hC))
  obtain ⟨a0, r0⟩ := st_arr (t := .int) (ty := .int) rfl (fun C h => by cases h) (hG _ mA_int)
  obtain ⟨a1, r1⟩ := st_arr (t := .boolean) (ty := .boolean) rfl (fun C h => by cases h) (hG _ mA_boolean)
  obtain ⟨a2, r2⟩ := st_arr (t := .char) (ty := .char) rfl (fun C h => by cases h) (hG _ mA_char)
  obtain ⟨a3, r3⟩ := st_arr (t := .long) (ty := .long) rfl (fun C h => by cases h) (hG _ mA_long)
  obtain ⟨a4, r4⟩ := st_arr (t := .double) (ty := .double) rfl (fun C h => by cases h) (hG _ mA_double)
  obtain ⟨a5, r5⟩ := st_ao (hao RX4 (by decide +kernel))
  obtain ⟨a6, r6⟩ := st_ao (hao RX5 (by decide +kernel))
  obtain ⟨a7, r7⟩ := st_ao (hao RX3 (by decide +kernel))
  obtain ⟨a8, r8⟩ := st_ao (hao RX2 (by decide +kernel))
  refine ⟨(fun c => match c with | 0 => c0 | 1 => c1 | 2 => c2 | 3 => c3 | 4 => c4 | 5 => c5 | 6 => c6 | _ => c7, fun c => match c with | 0 => i0 | 1 => i1 | 2 => i2 | 3 => i3 | 4 => i4 | 5 => i5 | 6 => i6 | _ => i7), (fun c => match c with | 0 => a0 | 1 => a1 | 2 => a2 | 3 => a3 | 4 => a4 | 5 => a5 | 6 => a6 | 7 => a7 | _ => a8), ⟨fun c q hq => ?_, fun k q hk => ?_⟩, vx_Zqof (hts _ st_u1.1) (hts _ st_u1.2.2) (hf _ st_u2.1) hA, vx_Zqof (hts _ st_u1.2.1) (hts _ st_u1.2.2) (hf _ st_u2.2) hA, fun q h => h, fun q hq => ?_, fun q hq => va_Nw.of rfl (hts _ (st_nest q hq)), fun q hq => ?_, ⟨fun q hq => va_Nc.of (hf _ (st_nc q hq)), hao⟩, fun x hx => va_Nw.of rfl (hts _ (st_decl x hx))⟩
  · match c, hq with
    | 0, hq => cases hq; exact k0
    | 1, hq => cases hq; exact k1
    | 2, hq => cases hq; exact k2
    | 3, hq => cases hq; exact k3
    | 4, hq => cases hq; exact k4
    | 5, hq => cases hq; exact k5
    | 6, hq => cases hq; exact k6
    | 7, hq => cases hq; exact k7
    | _ + 8, hq => cases hq
  · match k, hk with
    | 0, hk => cases hk; exact r0
    | 1, hk => cases hk; exact r1
    | 2, hk => cases hk; exact r2
    | 3, hk => cases hk; exact r3
    | 4, hk => cases hk; exact r4
    | 5, hk => cases hk; exact r5
    | 6, hk => cases hk; exact r6
    | 7, hk => cases hk; exact r7
    | 8, hk => cases hk; exact r8
    | _ + 9, hk => cases hk
  · obtain ⟨a, c, cell, k, h1, -⟩ := Cond.exactly_spec (first := s) (o := none) (s := s) (idx := []) (hf _ (st_str q hq).2)
    exact ⟨a, vk_R.of (hts _ (st_str q hq).1) h1⟩
  · obtain ⟨c, t, h1, h2, h3⟩ := Cond.castable_spec (first := s) (o := none) (s := s) (idx := []) (hts _ (st_cast q hq))
    exact ⟨c, t, h1, h2, h3⟩
/-- the law's own end, over a walk that has written cells of its own alone -/
theorem lw_retN {p : Program} {l : Launch} {e : Env} {s : State} {m : MethodId} {below : List Frame} {meth : Method} {c : Code} {b : Nat} {d0 : Drawn} (hd0 : s.drawn.sameBut d0 lw_cs) (hx : p.tables.exec = Jvm.exec) (hb : c.code = code) (hr : meth.sig.returnType = ret) (hlocks : meth.locks = false) {pc : Nat} {H : Heap} {ls : Array Slot} {locs : List Loc} {cells slots : Nat} (hloc : ∀ y ∈ locs, s.heap.size ≤ y.base) (hc : cells ≤ 603072) (hs : slots ≤ 7211114) (hdg : decode code pc = .ok (.ireturn, 1)) : W p l e room_1 (s.setDrawn d0) m #[Value.ref b] below meth c H locs cells slots (lw_Z below #[Value.ref b] s) (F0 m pc ls [.int 1]) := by
  intro T hT X
  obtain ⟨fs, hret, hrun, hended, hW, hframe⟩ := X.leave (v := some (.int 1)) (hlocks := hlocks) (fun h => by rw [hr] at h; cases h)
  have hmeth' : T.vm.method? m = some meth := X.method'
  refine ⟨T.setFrames fs, ?_, .returned (some (.int 1)), hrun, hended, rfl, lw_closed hd0 ⟨_, rfl⟩ hW (hframe.weaken (l' := []) (fun y hy hlt => absurd hlt (Nat.not_lt.mpr (hloc y hy))) hc hs)⟩
  jvm_step X.here [X.here.top, hx, hb, hdg, hmeth', hr, ret, narrow_b1]
  (try refine ⟨rfl, ?_⟩); (try refine ⟨rfl, ?_⟩)
  first | (intro acts; rw [hret _ acts rfl rfl rfl]) | rw [hret _ _ rfl rfl rfl]
  exact Steps.refl _
/-- YOUR PART: from the entry, for every script of at most 3072 ints, the law comes to its end with true ('hflags': the launch's flags, for a law that throws: no stack traces) -/
theorem whole_start {p : Program} {e : Env} {s : State} {m : MethodId} {below : List Frame} {meth : Method} {c : Code} (l : Launch) (hflags : l.flags = flags0) {b L : Nat} {xs : Nat → Int32} (hL : L ≤ 3072) (C0 : lw_At p s m meth c b L xs) : W p l e room_1 s m #[Value.ref b] below meth c s.heap [] 0 0 (lw_Z below #[Value.ref b] s) (entryFrame m ([Value.ref b] : List Value).toArray 9) := by
  obtain ⟨hx, hb, hr, hml, hown, hts, hX, hbl, hlocks, hgv⟩ := C0
  have hl : l.stackTraces = false := by
    unfold Launch.stackTraces
    rw [hflags]
    decide +kernel
  obtain ⟨D, cA, hEV⟩ := st_EV hts hgv
  have C : Cx l p s m #[Value.ref b] meth c cL_law RL 9 D cA (fun q => s.heap.size ≤ q) c.exceptionTable.toList := ⟨hx, hb, hml, hown, fun w hw => hts w (List.mem_filter.mp hw).1, hlocks, hl, hEV, rfl⟩
  have hbA : ¬ s.heap.size ≤ b := Nat.not_le.mpr hbl
  have hd0 := Drawn.sameBut.refl s.drawn lw_cs
  have had : (fun _ _ => b : Ads) 99 0 = b := rfl
  have hend : ∀ (c2 s2 : Nat) (S : Sg) (ad : Ads) (M : Mem) (i : Int), c2 ≤ 200 + 520000 → s2 ≤ 6000 + 6240000 → Wm p l e room_1 s m #[Value.ref b] below meth c 9 D cA (fun q => s.heap.size ≤ q) c2 s2 (lw_Z below #[Value.ref b] s) 2551 (lvL i) [] ad (cnB (nsS S) (ntS S)) M := by
    intro c2 s2 S ad M i h1 h2
    refine w_iconst C dL_law_2551 ?_
    intro H locs ls hw hS hls
    exact lw_retN (d0 := s.drawn) hd0 hx hb hr hlocks (fun y hy => hS.2.2 y hy) (by omega) (by omega) dL_law_2552.1
  have hw0 : HW D cA (fun q => s.heap.size ≤ q) (fun _ _ => b) (fun _ => 0) (fun _ _ _ => 0, fun _ _ _ => none, fun _ _ _ => 0, fun _ _ _ => 0) s.heap := ⟨fun k i h => absurd h (Nat.not_lt_zero _), fun k i k' i' h => absurd h (Nat.not_lt_zero _), fun k i h => absurd h (Nat.not_lt_zero _), fun k _ => rfl, fun k i s j t h => absurd h (Nat.not_lt_zero _), fun k i h => absurd h (Nat.not_lt_zero _)⟩
  have k9 := lw_begin (ad := fun _ _ => b) (M := (fun _ _ _ => 0, fun _ _ _ => none, fun _ _ _ => 0, fun _ _ _ => 0)) (e := e) (below := below) (R := room_1) (Q := lw_Z below #[Value.ref b] s) hl C had ⟨by decide, by decide, by decide, by decide⟩ (fun c2 s2 ad2 M2 h1 h2 h3 hR hM => lw_loop hl C hX hbl hbA hL (c0 := 200) (s0 := 6000) ⟨by decide, by decide, by decide, by decide⟩ hend 513 0 (by omega) (by omega) c2 s2 S0 [] 0 ad2 M2 h3 ⟨inv0, invZ0, invC0, Nat.le_refl _, fun y => Nat.zero_le _⟩ hR hM (by omega) (by omega))
  have hent := lv_entry ([Value.ref b]) (n := 9) (Nat.le_of_ble_eq_true rfl)
  rw [lg_entry_eq]
  exact k9 s.heap [] _ hw0 va_S.rf hent
set_option maxHeartbeats 4000000 in
theorem lw_walk (l : Launch) (hflags : l.flags = flags0) (b : Addr) (xs : List Int32) : MetFree l x (headSpec (Jvm.Cond.code x code maxLocals ret :: tables_1) room_1) (lw_P b xs) (fun _ _ _ _ _ => True) lw_Q := by
  refine MetFree.of_bodyS (code := code) (maxLocals := maxLocals) (ret := ret) (by decide) ?_ ?_
  · intro args s m h hn
    obtain ⟨meth, c, h1, h2, h3, h4, h5, h6, -, -⟩ := Cond.code_spec hn (atoms_spec (ws := Jvm.Cond.code x code maxLocals ret :: tables_1) h _ List.mem_cons_self)
    exact ⟨meth, c, h1, h2, h3, h4, h5, h6⟩
  · intro p e s m args below meth c s₁ B hml0 hP _
    obtain ⟨rfl, hx, hbd, hgv⟩ := hP
    obtain ⟨scr, harrAt, hlist, hof, hsmall⟩ := hx
    obtain ⟨hcb, hkn, -, -⟩ := State.arrayAt?_spec harrAt
    have hown : s.vm.findClass R_law = some m.cls := findClass_of_methodNamed B.named
    have hts0 : ∀ c ∈ (Jvm.Cond.code x code maxLocals ret :: tables_1), c.before #[Value.ref b] s = true := atoms_spec (ws := Jvm.Cond.code x code maxLocals ret :: tables_1) B.pre
    have hts : ∀ w ∈ lw_tbl, w.before #[Value.ref b] s = true := k2_hts_sels lw_privs (fun w hw => hts0 w (List.mem_cons_of_mem _ hw)) lw_privs_ok
    have hml : c.maxLocals = 9 := B.maxLocals_eq (hts0 _ List.mem_cons_self)
    have X₀ : Stand p l e room_1 s m #[Value.ref b] below meth c s₁ [] 0 0 := Stand.of_body B
    have hh0 : s₁.heap = s.heap := by rw [B.state]; rfl
    have hsz : scr.slots.size = xs.length := by rw [← Array.length_toList, hlist, List.length_map]
    have hval : ∀ j : Nat, j < xs.length → scr.slots[j]? = some (.int (xs.getD j 0)) := fun j hj => by
      rw [← Array.getElem?_toList, hlist]
      simp [hj]
    have hbl : b < s.heap.size := (Array.getElem?_eq_some_iff.mp hcb).1
    have hX : va_X b xs.length (fun j => xs.getD j 0) s s.heap := ⟨scr, hcb, hof, hkn, hsz, hval⟩
    have K : W p l e room_1 s m #[Value.ref b] below meth c s₁.heap [] 0 0 (lw_Z below #[Value.ref b] s) (entryFrame m ([Value.ref b] : List Value).toArray 9) := by
      rw [hh0]
      exact whole_start l hflags hbd ⟨B.exec, B.bytes, B.returns, hml, hown, hts, hX, hbl, B.notSynchronized, hgv⟩
    obtain ⟨t, a1, o, b1, b2, b3⟩ := K s₁ rfl X₀
    exact ⟨t, o, a1, b1, b2, b3⟩
theorem lw_pre_spec {args : Array Value} {s : State} (h : (Jvm.Cond.and given_1 narrow_1).before args s = true) (hr : rest_1_c.before args s = true) : ∃ (b : Addr) (xs : List Int32), lw_P b xs args s := by
  have hs := flat_of_before _ h
  have hq := flat_of_before _ hr
  have hc : (Cond.count 1).before args s = true := hs _ (by decide +kernel)
  have harr : (Cond.arrayOf (.arg 0) .int).before args s = true := hs _ (by decide +kernel)
  have hle : (Cond.le (.length (.arg 0)) (.int 3072)).before args s = true := hs _ (by decide +kernel)
  have hlen : (Cond.isInt (.length (.arg 0))).before args s = true := hq _ (by decide +kernel)
  have hall : (Cond.all (.arg 0) (.isInt (.elem (.arg 0) (.index 0)))).before args s = true := hq _ (by decide +kernel)
  obtain ⟨b, xs, hb, hx⟩ := State.ints_of_pre rfl harr hlen hall
  have hsm : xs.length < 2 ^ 31 := hx.choose_spec.2.2.2
  have hev : (Term.length (.arg 0)).eval args s none [] s = some (.int xs.length.toInt32) := hx.length_eval hb
  have hv := Cond.le_ints hev (show (Term.int 3072).eval args s none [] s = some (.int 3072) from rfl)
  have hd : xs.length.toInt32 ≤ 3072 := by
    simpa [Cond.before, Cond.holds, hv] using hle
  have hN : xs.length ≤ 3072 := (Int32.ofNat_le_ofNat hsm (by decide)).mp (show Int32.ofNat xs.length ≤ Int32.ofNat 3072 from hd)
  exact ⟨b, xs, Cond.one_arg hc (show args[0]? = some (.ref b) from hb), hx, hN, h⟩
theorem lw_comes (l : Launch) (hflags : l.flags = flags0) : Comes l x (Jvm.Cond.code x code maxLocals ret :: tables_1) room_1 (fun tb e args s => Calls_1 tb e args s ∧ rest_1 tb e args s ∧ Pre_1 tb e args s)
    (fun _ _ args s o t => lw_Q args s o t) := by
  intro p e ha hc hk s m args below hf hfit hheap happ hpre
  obtain ⟨b, xs, hP⟩ := lw_pre_spec hpre.2.2 hpre.2.1
  obtain ⟨k, o, h1, h2, h3, hQ⟩ := lw_walk l hflags b xs p e ha hc hk s m args below hf ((Spec.applies_iff_loose hf).mp happ).1 hP trivial
  exact ⟨k, o, h1, h2, h3, hQ⟩
theorem lw_frame {s t : State} {o : Outcome} {args : Array Value} (h : State.butDraws s t lw_cs (fun t1 => Framed s o t1 [] 603072 7211114)) :
    State.butDraws s t [Jvm.Choice.named "NaN.bits"] (fun t1 => Framed s o t1 (fieldLocs frame_1_writes args s ++ arrayLocs frame_1_arrays args s ++ staticLocs frame_1_statics s) 603072 7211114) := h
theorem lw_limb (L : Cond) (hL : ∀ (args : Array Value) (s t : State), L.after args s (.returned (some (.int 1))) t = true) :
    ArmFor flags0 classFile x code maxLocals ret World_1 tables_1 room_1 Calls_1 rest_1 Pre_1
      (fun tb e a s o t => postC L tb e a s o t ∧ State.butDraws s t [Jvm.Choice.named "NaN.bits"] (fun t1 => Framed s o t1 (fieldLocs frame_1_writes a s ++ arrayLocs frame_1_arrays a s ++ staticLocs frame_1_statics s) 603072 7211114)) := by
  intro l hflags _ _ p e ha hc hk s m args below hf hfit hheap happ hpre
  obtain ⟨k, o, h1, h2, h3, rfl, hF⟩ := lw_comes l hflags p e ha hc hk s m args below hf hfit hheap happ hpre
  exact ⟨k, _, h1, h2, h3, hL args s _, lw_frame hF⟩
theorem i_vc : Claimed_1_1 ∧ Claimed_1_2 := ⟨lw_limb limb_1_1 (fun args s t => by simp [limb_1_1, Cond.after, Cond.holds, Cond.value]), lw_limb limb_1_2 (fun args s t => Cond.after_iff.mpr (by
  first | (rw [show limb_1_2 = Cond.eq .result (.int 1) from rfl, Cond.eq_ints (x := 1) (y := 1) rfl rfl]; simp; done) | (simp [limb_1_2, Cond.value, Term.eval]; done)))⟩
