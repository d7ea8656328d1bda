section Rows
variable {p : Program} {l : Launch} {e : Env} {R : Room} {s : State} {m : MethodId} {args : Array Value} {below : List Frame} {meth : Method} {c : Code} {nL : Nat} {D : va_G} {cA : Nat → ClassId} {b0 : Nat → Prop} {cells slots : Nat} {Q : State → Prop} {lv : Lv} {st : List AV} {ad : Ads} {cn : Nat → Nat} {M : Mem} {cc : ByteArray} {own : String} {tab : List ExceptionTableEntry} {pc pc' : Nat}
theorem e32_xs (x y : Int32) (hy : 0 ≤ y.toInt) : (0 ≤ (x ^^^ y).toInt ↔ 0 ≤ x.toInt) := by
  have h1 : ∀ z : Int32, 0 ≤ z.toInt ↔ z.toBitVec.msb = false := fun z => by
    show 0 ≤ z.toBitVec.toInt ↔ _
    rw [BitVec.msb_eq_toInt]
    simp
  have hy' := (h1 y).mp hy
  rw [h1, h1]
  show (x.toBitVec ^^^ y.toBitVec).msb = false ↔ _
  rw [BitVec.msb_xor, hy']
  simp
theorem e32_rg (x : Int32) : -2147483648 ≤ x.toInt ∧ x.toInt ≤ 2147483647 := ⟨x.le_toInt, x.toInt_le⟩
theorem e32_tdiv {x y : Int} (hx : -2147483648 ≤ x ∧ x ≤ 2147483647) (hy : 0 < y ∧ y ≤ 2147483647) : Int32.ofInt x / Int32.ofInt y = Int32.ofInt (x.tdiv y) :=
  (Int32.ofInt_tdiv (a := x) (b := y) (by show -2147483648 ≤ x; omega) (by show x ≤ 2147483647; omega) (by show -2147483648 ≤ y; omega) (by show y ≤ 2147483647; omega)).symm
theorem tm_eq (x y : Int) : x - x.tdiv y * y = x.tmod y := by
  have h := Int.tmod_def x y
  rw [h, Int.mul_comm]
theorem tm_b {x y : Int} (hy : 0 < y) : -y < x.tmod y ∧ x.tmod y < y := by
  have h1 := Int.lt_tmod_of_pos x hy
  have h2 := Int.tmod_lt_of_pos x hy
  omega
theorem tm_mod {x y : Int} (hy : 0 < y) : x % y = if 0 ≤ x ∨ x.tmod y = 0 then x.tmod y else x.tmod y + y := by
  have h := Int.tmod_eq_emod (a := x) (b := y)
  have h2 := Int.emod_nonneg x (show y ≠ 0 by omega)
  have h3 := Int.emod_lt_of_pos x hy
  have h4 := tm_b (x := x) hy
  by_cases h0 : 0 ≤ x
  · rw [if_pos (Or.inl h0), Int.tmod_eq_emod_of_nonneg h0]
  · rw [h] at h4 ⊢
    by_cases hd : y ∣ x
    · rw [if_pos (Or.inr hd), Int.emod_eq_zero_of_dvd hd]; simp
    · have e9 : (if 0 ≤ x ∨ y ∣ x then 0 else y.natAbs) = y.natAbs := if_neg (fun q => q.elim h0 hd)
      rw [e9] at h4 ⊢
      rw [if_neg (by omega)]
      omega
theorem w_iremT (C : Cx l p s m args meth c cc own nL D cA b0 tab) {x y : Int} (hd : DI cc pc .irem 1 pc') (hx : -2147483648 ≤ x ∧ x ≤ 2147483647) (hy : 0 < y ∧ y ≤ 2147483647) (kk : Wm p l e R s m args below meth c nL D cA b0 cells slots Q pc' lv (aI (x.tmod y) :: st) ad cn M) : Wm p l e R s m args below meth c nL D cA b0 cells slots Q pc lv (aI y :: aI x :: st) ad cn M := by
  intro H locs ls hw hS hl
  have k := kk H locs ls hw hS hl
  rw [← hd.2] at k
  have hne : ¬ Int32.ofInt y = 0 := fun h => by
    rw [z32, e32_eq (by omega) (by omega)] at h
    omega
  exact lv_irem C.1 C.2.1 hd.1 hne (by rw [e32_tdiv hx hy, ← Int32.ofInt_mul, ← Int32.ofInt_sub, tm_eq]; exact k)
theorem w_ixorS (C : Cx l p s m args meth c cc own nL D cA b0 tab) (hd : DI cc pc .ixor 1 pc') {x y : Int} (hx : -2147483648 ≤ x ∧ x ≤ 2147483647) (hy : 0 ≤ y ∧ y ≤ 2147483647) (kk : ∀ z : Int, (-2147483648 ≤ z ∧ z ≤ 2147483647) → (0 ≤ z ↔ 0 ≤ x) → Wm p l e R s m args below meth c nL D cA b0 cells slots Q pc' lv (aI z :: st) ad cn M) : Wm p l e R s m args below meth c nL D cA b0 cells slots Q pc lv (aI y :: aI x :: st) ad cn M := by
  intro H locs ls hw hS hl
  have h9 := e32_xs (Int32.ofInt x) (Int32.ofInt y) (by rw [e32 (by omega)]; exact hy.1)
  rw [e32 hx] at h9
  have k := kk _ (e32_rg (Int32.ofInt x ^^^ Int32.ofInt y)) h9 H locs ls hw hS hl
  rw [← hd.2] at k
  exact lv_ixor C.1 C.2.1 hd.1 (by rw [← Int32.ofInt_toInt (Int32.ofInt x ^^^ Int32.ofInt y)]; exact k)
theorem pl_J9 : plainFor yJ9_floorMod_7cf53 = true := by decide +kernel
theorem nm_max : yJ9_max_7cf53 = Lib.Math.max.name := by decide +kernel
theorem nm_min : yJ9_min_7cf53 = Lib.Math.min.name := by decide +kernel
theorem cd_max : cJ9_max_7cf53 = Lib.Math.max.code := by decide +kernel
theorem cd_min : cJ9_min_7cf53 = Lib.Math.min.code := by decide +kernel
theorem w_mmax (C : Cx l p s m args meth c cc own nL D cA b0 tab) {idx : Nat} (hlk : Cond.methodLink own idx yJ9_max_7cf53 ∈ GW) (hd : DI cc pc (.invokestatic idx) 3 pc') {x y : Int} (hx : -2147483648 ≤ x ∧ x ≤ 2147483647) (hy : -2147483648 ≤ y ∧ y ≤ 2147483647) (hroom : 1 ≤ R.frames ∧ 40 ≤ R.locals ∧ cells ≤ R.cells ∧ slots ≤ R.slots) (hwt : (st.map fun v => if cat2 v then 2 else 1).sum ≤ 8)
    (kk : Wm p l e R s m args below meth c nL D cA b0 cells slots Q pc' lv (aI (max x y) :: st) ad cn M) : Wm p l e R s m args below meth c nL D cA b0 cells slots Q pc lv (aI y :: aI x :: st) ad cn M := by
  intro H locs ls hw hS hl
  have k9 := kk H locs ls hw hS hl
  rw [← hd.2] at k9
  have h1 := C.2.2.2.2.1 _ hlk
  have h2 := C.2.2.2.2.1 _ sJ9_max_7cf53
  have h3 := C.2.2.2.2.1 _ mJ9_max_7cf53.1
  have h4 := C.2.2.2.2.1 _ mJ9_max_7cf53.2.1
  rw [nm_max] at h1 h2
  rw [nm_max, cd_max] at h4
  refine va_mmax C.1 C.2.1 (by rw [hl.1, C.2.2.1]) C.2.2.2.1 h1 h2 h3 h4 hroom.1 (by rw [stk_cat]; omega) hroom.2.2.1 hroom.2.2.2 hd.1 ?_
  have e9 : (if Int32.ofInt x < Int32.ofInt y then Int32.ofInt y else Int32.ofInt x) = Int32.ofInt (max x y) := by
    by_cases h : x < y
    · rw [if_pos ((e32_lt hx hy).mpr h), Int.max_eq_right (by omega)]
    · rw [if_neg (fun q => h ((e32_lt hx hy).mp q)), Int.max_eq_left (by omega)]
  rw [e9]
  exact k9
theorem w_mmin (C : Cx l p s m args meth c cc own nL D cA b0 tab) {idx : Nat} (hlk : Cond.methodLink own idx yJ9_min_7cf53 ∈ GW) (hd : DI cc pc (.invokestatic idx) 3 pc') {x y : Int} (hx : -2147483648 ≤ x ∧ x ≤ 2147483647) (hy : -2147483648 ≤ y ∧ y ≤ 2147483647) (hroom : 1 ≤ R.frames ∧ 40 ≤ R.locals ∧ cells ≤ R.cells ∧ slots ≤ R.slots) (hwt : (st.map fun v => if cat2 v then 2 else 1).sum ≤ 8)
    (kk : Wm p l e R s m args below meth c nL D cA b0 cells slots Q pc' lv (aI (min x y) :: st) ad cn M) : Wm p l e R s m args below meth c nL D cA b0 cells slots Q pc lv (aI y :: aI x :: st) ad cn M := by
  intro H locs ls hw hS hl
  have k9 := kk H locs ls hw hS hl
  rw [← hd.2] at k9
  have h1 := C.2.2.2.2.1 _ hlk
  have h2 := C.2.2.2.2.1 _ sJ9_min_7cf53
  have h3 := C.2.2.2.2.1 _ mJ9_min_7cf53.1
  have h4 := C.2.2.2.2.1 _ mJ9_min_7cf53.2.1
  rw [nm_min] at h1 h2
  rw [nm_min, cd_min] at h4
  refine va_mmin C.1 C.2.1 (by rw [hl.1, C.2.2.1]) C.2.2.2.1 h1 h2 h3 h4 hroom.1 (by rw [stk_cat]; omega) hroom.2.2.1 hroom.2.2.2 hd.1 ?_
  have e9 : (if Int32.ofInt y < Int32.ofInt x then Int32.ofInt y else Int32.ofInt x) = Int32.ofInt (min x y) := by
    by_cases h : y < x
    · rw [if_pos ((e32_lt hy hx).mpr h), Int.min_eq_right (by omega)]
    · rw [if_neg (fun q => h ((e32_lt hy hx).mp q)), Int.min_eq_left (by omega)]
  rw [e9]
  exact k9
theorem w_tsIn (C : Cx l p s m args meth c cc own nL D cA b0 tab) {dflt lo hi off z : Int} {offs : Array Int} {n tgt : Nat} (hd : DI cc pc (.tableswitch dflt lo hi offs) n pc') (hz : -2147483648 ≤ z ∧ z ≤ 2147483647) (h1 : lo ≤ z ∧ z ≤ hi) (ho : offs[(z - lo).toNat]? = some off) (ht : (pc : Int) + off = (tgt : Int))
    (kk : Wm p l e R s m args below meth c nL D cA b0 cells slots Q tgt lv st ad cn M) : Wm p l e R s m args below meth c nL D cA b0 cells slots Q pc lv (aI z :: st) ad cn M := fun H locs ls hw hS hl =>
  lv_tableIn C.1 C.2.1 hd.1 (by rw [e32 hz]; omega) (by rw [e32 hz]; omega) (by rw [e32 hz]; exact ho) ht (kk H locs ls hw hS hl)
theorem w_tsOut (C : Cx l p s m args meth c cc own nL D cA b0 tab) {dflt lo hi z : Int} {offs : Array Int} {n tgt : Nat} (hd : DI cc pc (.tableswitch dflt lo hi offs) n pc') (hz : -2147483648 ≤ z ∧ z ≤ 2147483647) (h1 : z < lo ∨ hi < z) (ht : (pc : Int) + dflt = (tgt : Int))
    (kk : Wm p l e R s m args below meth c nL D cA b0 cells slots Q tgt lv st ad cn M) : Wm p l e R s m args below meth c nL D cA b0 cells slots Q pc lv (aI z :: st) ad cn M := fun H locs ls hw hS hl =>
  lv_tableOut C.1 C.2.1 hd.1 (by rw [e32 hz]; exact h1) ht (kk H locs ls hw hS hl)
def andN (a b : Nat) : Nat := a ^^^ (a &&& b)
theorem andN_tb (a b i : Nat) : (andN a b).testBit i = (a.testBit i && !b.testBit i) := by
  unfold andN
  rw [Nat.testBit_xor, Nat.testBit_and]
  cases a.testBit i <;> cases b.testBit i <;> rfl
theorem e32_not (b : Nat) : Int32.ofInt (b : Int) ^^^ Int32.ofInt (-1) = Int32.ofInt (-(b : Int) - 1) := by
  have h9 : Int32.ofInt (-(b : Int) - 1) = -Int32.ofInt (b : Int) - 1 := by rw [Int32.ofInt_sub, Int32.ofInt_neg]; rfl
  rw [h9]
  refine Int32.toBitVec_inj.mp ?_
  show BitVec.ofInt 32 b ^^^ BitVec.allOnes 32 = -(BitVec.ofInt 32 b) - 1#32
  rw [BitVec.xor_allOnes, BitVec.neg_eq_not_add, BitVec.add_sub_cancel]
theorem w_ixorm (C : Cx l p s m args meth c cc own nL D cA b0 tab) (hd : DI cc pc .ixor 1 pc') {x : Nat} (kk : Wm p l e R s m args below meth c nL D cA b0 cells slots Q pc' lv (aI (-(x : Int) - 1) :: st) ad cn M) : Wm p l e R s m args below meth c nL D cA b0 cells slots Q pc lv (aI (-1) :: aI x :: st) ad cn M := by
  intro H locs ls hw hS hl
  have k := kk H locs ls hw hS hl
  rw [← hd.2] at k
  exact lv_ixor C.1 C.2.1 hd.1 (by rw [e32_not]; exact k)
theorem e32_andN {a b : Nat} (ha : a < 2147483648) (hb : b < 2147483648) : Int32.ofInt (a : Int) &&& Int32.ofInt (-(b : Int) - 1) = Int32.ofInt ((andN a b : Nat) : Int) := by
  rw [← e32_not]
  refine Int32.toBitVec_inj.mp ?_
  show BitVec.ofInt 32 a &&& (BitVec.ofInt 32 b ^^^ BitVec.allOnes 32) = BitVec.ofInt 32 ((andN a b : Nat) : Int)
  rw [BitVec.xor_allOnes, BitVec.ofInt_natCast, BitVec.ofInt_natCast, BitVec.ofInt_natCast]
  refine BitVec.eq_of_getLsbD_eq fun i hi => ?_
  rw [BitVec.getLsbD_and, BitVec.getLsbD_not, BitVec.getLsbD_ofNat, BitVec.getLsbD_ofNat, BitVec.getLsbD_ofNat, andN_tb]
  simp [hi]
theorem w_iandn (C : Cx l p s m args meth c cc own nL D cA b0 tab) (hd : DI cc pc .iand 1 pc') {x y : Nat} (hx : x < 2147483648) (hy : y < 2147483648) (kk : Wm p l e R s m args below meth c nL D cA b0 cells slots Q pc' lv (aI ((andN x y : Nat) : Int) :: st) ad cn M) : Wm p l e R s m args below meth c nL D cA b0 cells slots Q pc lv (aI (-(y : Int) - 1) :: aI x :: st) ad cn M := by
  intro H locs ls hw hS hl
  have k := kk H locs ls hw hS hl
  rw [← hd.2] at k
  exact lv_iand C.1 C.2.1 hd.1 (by rw [e32_andN hx hy]; exact k)
end Rows
theorem vx_ofWF {l : Launch} {y : MethodName} {ws ws' : List Cond} {rm : Room} {Pc : Array Value → State → Prop} {Qc : Array Value → State → Outcome → State → Prop} {XC : String → State → State → Prop} {mc ms : Nat} {free : Addr → Prop} {cc : ByteArray} {maxL : Nat} {ret : Option FieldType}
    (hy : plainFor y = true) (hw : ws = Cond.code y cc maxL ret :: ws')
    (body : ∀ p e s m args below meth c s₁, BodyLoose p l y (headSpec ws rm) cc maxL ret e s m args below meth c s₁ → c.maxLocals = maxL → (∀ x ∈ c.exceptionTable.toList, False) → Pc args s →
      W p l e (headSpec ws rm).room s m args below meth c s.heap [] 0 0 (vx_MQ below Qc XC args s mc ms free) (entryFrame m args maxL)) : vx_Met l y ws rm Pc Qc XC mc ms free := by
  refine MetFree.of_bodySF (code := cc) (maxLocals := maxL) (ret := ret) hy ?_ ?_
  · intro args s m h hn
    obtain ⟨meth, c, h1, h2, h3, h4, h5, h6, -, -⟩ := Cond.code_spec hn (atoms_spec (ws := ws) h _ (by rw [hw]; exact List.mem_cons_self))
    exact ⟨meth, c, h1, h2, h3, h4, h5, h6⟩
  · intro p e s m args below meth c s₁ B hml hP _
    have hh0 : s₁.heap = s.heap := by rw [B.state]; rfl
    have ht : ∀ x ∈ c.exceptionTable.toList, False := by
      obtain ⟨meth9, c9, h1, h2, -, -, -, -, h7, -⟩ := Cond.code_spec B.named (atoms_spec (ws := ws) B.pre _ (by rw [hw]; exact List.mem_cons_self))
      cases Option.some.inj (h1.symm.trans B.method)
      cases Option.some.inj (h2.symm.trans (Stand.of_body B).code)
      intro x hx
      rw [Array.isEmpty_iff.mp h7] at hx
      cases hx
    obtain ⟨t, a1, o, b1, b2, b3⟩ := body p e s m args below meth c s₁ B hml ht hP s₁ hh0 (Stand.of_body B)
    exact ⟨t, o, a1, b1, b2, b3⟩
theorem Con.ofF {l : Launch} {b0 : Nat → Prop} {cc : ByteArray} {ad : Ads} {cn : Nat → Nat} {M : Mem} {y : MethodName} {nLx d mc ms : Nat} {ret : Option FieldType} {as : List AV} {P : PT} {X : PX} (hl : l.stackTraces = false) (hpl : plainFor y = true) (hlen : (as.map fun v => if cat2 v then 2 else 1).sum ≤ nLx)
    (body : ∀ (D : va_G) (cA : Nat → ClassId) (p : Program) (e : Env) (s : State) (m : MethodId) (args : Array Value) (below : List Frame) (meth : Method) (c : Code), Cx l p s m args meth c cc y.cls nLx D cA b0 [] → meth.sig.returnType = ret →
      Wm p l e (rmd d mc ms) s m args below meth c nLx D cA b0 0 0 (vx_MQ below (mQ D cA b0 ad cn P) (mX D cA b0 ad cn X) args s mc ms b0) 0 (avargs 0 as) [] ad cn M) : Con l b0 y cc nLx ret d mc ms as ad cn M P X := by
  intro D cA
  refine vx_ofWF (cc := cc) (maxL := nLx) (ret := ret) hpl rfl ?_
  intro p e s m args below meth c s₁ B hml ht hv
  obtain ⟨rfl, hw, hev⟩ := hv
  have hts := atoms_spec (ws := .code y cc nLx ret :: GW) B.pre
  have hown : s.vm.findClass y.cls = some m.cls := findClass_of_methodNamed B.named
  have htab : c.exceptionTable.toList = [] := List.eq_nil_iff_forall_not_mem.mpr ht
  have C : Cx l p s m (as.map (tv ad)).toArray meth c cc y.cls nLx D cA b0 [] := ⟨B.exec, B.bytes, hml, hown, fun w h => hts w (List.mem_cons_of_mem _ h), B.notSynchronized, hl, hev, htab⟩
  have k := body D cA p e s m _ below meth c C B.returns
  have hent := lv_entry (as.map (tv ad)) (n := nLx) (by rw [sl_len]; exact hlen)
  rw [avargs_lv] at hent
  rw [lg_entry_eq]
  exact k s.heap [] _ hw va_S.rf hent
theorem c_J9_floorMod {l : Launch} {b0 : Nat → Prop} {ad : Ads} {cn : Nat → Nat} {M : Mem} (hl : l.stackTraces = false) {x y : Int} (hx : -2147483648 ≤ x ∧ x ≤ 2147483647) (hy : 0 < y ∧ y ≤ 1000) : Con l b0 yJ9_floorMod_7cf53 cJ9_floorMod_7cf53 3 (some .int) 1 0 0 [aI x, aI y] ad cn M (fun r M' => M' = M ∧ r = some (aI (x % y))) (fun _ _ => False) := by
  have h1 := tm_b (x := x) hy.1
  have h2 := tm_mod (x := x) hy.1
  refine Con.ofF hl pl_J9 (Nat.le_of_ble_eq_true rfl) ?_
  intro D cA p e s m args below meth c C hr
  refine w_iload_n C dJ9_floorMod_7cf53_0 rfl ?_
  refine w_iload_n C dJ9_floorMod_7cf53_1 rfl ?_
  refine w_iremT C dJ9_floorMod_7cf53_2 hx (by omega) ?_
  refine w_istore_n C dJ9_floorMod_7cf53_3 (by decide) ?_
  refine w_iload_n C dJ9_floorMod_7cf53_4 rfl ?_
  refine w_iload_n C dJ9_floorMod_7cf53_5 rfl ?_
  refine w_ixorS C dJ9_floorMod_7cf53_6 hx (by omega) (fun z hz hzx => ?_)
  refine w_if_ge C dJ9_floorMod_7cf53_7 hz (fun h7 => ?_) (fun h7 => ?_)
  · refine w_iload_n C dJ9_floorMod_7cf53_18 rfl ?_
    refine w_iret C hr dJ9_floorMod_7cf53_19 rfl (⟨rfl, by rw [h2, if_pos (Or.inl (hzx.mp h7))]⟩) (by decide) (by decide)
  · refine w_iload_n C dJ9_floorMod_7cf53_10 rfl ?_
    refine w_if_eq C dJ9_floorMod_7cf53_11 (by omega) (fun h11 => ?_) (fun h11 => ?_)
    · refine w_iload_n C dJ9_floorMod_7cf53_18 rfl ?_
      refine w_iret C hr dJ9_floorMod_7cf53_19 rfl (⟨rfl, by rw [h2, if_pos (Or.inr h11)]⟩) (by decide) (by decide)
    · refine w_iload_n C dJ9_floorMod_7cf53_14 rfl ?_
      refine w_iload_n C dJ9_floorMod_7cf53_15 rfl ?_
      refine w_iadd C dJ9_floorMod_7cf53_16 ?_
      refine w_iret C hr dJ9_floorMod_7cf53_17 rfl (⟨rfl, by rw [h2, if_neg (fun q => q.elim (fun q => h7 (hzx.mpr q)) h11)]⟩) (by decide) (by decide)
