section Rows
variable {p : Program} {l : Launch} {e : Env} {R : Room} {s : State} {m : MethodId} {args : Array Value} {below : List Frame} {meth : Method} {c : Code} {nL : Nat} {D : va_G} {cA : Nat → ClassId} {b0 : Nat → Prop} {cells slots : Nat} {Q : State → Prop} {lv : Lv} {st : List AV} {ad : Ads} {cn : Nat → Nat} {M : Mem} {cc : ByteArray} {own : String} {tab : List ExceptionTableEntry} {pc pc' : Nat}
theorem w_floorMod (C : Cx l p s m args meth c cc RX0 nL D cA b0 tab) (hd : DI cc pc (.invokestatic 29) 3 pc') {x y : Int} (hx : -2147483648 ≤ x ∧ x ≤ 2147483647) (hy : 0 < y ∧ y ≤ 1000) (hroom : 1 ≤ R.frames ∧ 40 ≤ R.locals) (hwt : (st.map fun v => if cat2 v then 2 else 1).sum ≤ 8)
    (kk : Wm p l e R s m args below meth c nL D cA b0 cells slots Q pc' lv (aI (x % y) :: st) ad cn M) : Wm p l e R s m args below meth c nL D cA b0 cells slots Q pc lv (aI y :: aI x :: st) ad cn M := by
  sorry
theorem nm_max : yJ9_max_7cf53 = Lib.Math.max.name := by decide +kernel
theorem nm_min : yJ9_min_7cf53 = Lib.Math.min.name := by decide +kernel
theorem cd_max : cJ9_max_7cf53 = Lib.Math.max.code := by decide +kernel
theorem cd_min : cJ9_min_7cf53 = Lib.Math.min.code := by decide +kernel
theorem w_mmax (C : Cx l p s m args meth c cc own nL D cA b0 tab) {idx : Nat} (hlk : Cond.methodLink own idx yJ9_max_7cf53 ∈ GW) (hd : DI cc pc (.invokestatic idx) 3 pc') {x y : Int} (hx : -2147483648 ≤ x ∧ x ≤ 2147483647) (hy : -2147483648 ≤ y ∧ y ≤ 2147483647) (hroom : 1 ≤ R.frames ∧ 40 ≤ R.locals ∧ cells ≤ R.cells ∧ slots ≤ R.slots) (hwt : (st.map fun v => if cat2 v then 2 else 1).sum ≤ 8)
    (kk : Wm p l e R s m args below meth c nL D cA b0 cells slots Q pc' lv (aI (max x y) :: st) ad cn M) : Wm p l e R s m args below meth c nL D cA b0 cells slots Q pc lv (aI y :: aI x :: st) ad cn M := by
  intro H locs ls hw hS hl
  have k9 := kk H locs ls hw hS hl
  rw [← hd.2] at k9
  have h1 := C.2.2.2.2.1 _ hlk
  have h2 := C.2.2.2.2.1 _ sJ9_max_7cf53
  have h3 := C.2.2.2.2.1 _ mJ9_max_7cf53.1
  have h4 := C.2.2.2.2.1 _ mJ9_max_7cf53.2.1
  rw [nm_max] at h1 h2
  rw [nm_max, cd_max] at h4
  refine va_mmax C.1 C.2.1 (by rw [hl.1, C.2.2.1]) C.2.2.2.1 h1 h2 h3 h4 hroom.1 (by rw [stk_cat]; omega) hroom.2.2.1 hroom.2.2.2 hd.1 ?_
  have e9 : (if Int32.ofInt x < Int32.ofInt y then Int32.ofInt y else Int32.ofInt x) = Int32.ofInt (max x y) := by
    by_cases h : x < y
    · rw [if_pos ((e32_lt hx hy).mpr h), Int.max_eq_right (by omega)]
    · rw [if_neg (fun q => h ((e32_lt hx hy).mp q)), Int.max_eq_left (by omega)]
  rw [e9]
  exact k9
theorem w_mmin (C : Cx l p s m args meth c cc own nL D cA b0 tab) {idx : Nat} (hlk : Cond.methodLink own idx yJ9_min_7cf53 ∈ GW) (hd : DI cc pc (.invokestatic idx) 3 pc') {x y : Int} (hx : -2147483648 ≤ x ∧ x ≤ 2147483647) (hy : -2147483648 ≤ y ∧ y ≤ 2147483647) (hroom : 1 ≤ R.frames ∧ 40 ≤ R.locals ∧ cells ≤ R.cells ∧ slots ≤ R.slots) (hwt : (st.map fun v => if cat2 v then 2 else 1).sum ≤ 8)
    (kk : Wm p l e R s m args below meth c nL D cA b0 cells slots Q pc' lv (aI (min x y) :: st) ad cn M) : Wm p l e R s m args below meth c nL D cA b0 cells slots Q pc lv (aI y :: aI x :: st) ad cn M := by
  intro H locs ls hw hS hl
  have k9 := kk H locs ls hw hS hl
  rw [← hd.2] at k9
  have h1 := C.2.2.2.2.1 _ hlk
  have h2 := C.2.2.2.2.1 _ sJ9_min_7cf53
  have h3 := C.2.2.2.2.1 _ mJ9_min_7cf53.1
  have h4 := C.2.2.2.2.1 _ mJ9_min_7cf53.2.1
  rw [nm_min] at h1 h2
  rw [nm_min, cd_min] at h4
  refine va_mmin C.1 C.2.1 (by rw [hl.1, C.2.2.1]) C.2.2.2.1 h1 h2 h3 h4 hroom.1 (by rw [stk_cat]; omega) hroom.2.2.1 hroom.2.2.2 hd.1 ?_
  have e9 : (if Int32.ofInt y < Int32.ofInt x then Int32.ofInt y else Int32.ofInt x) = Int32.ofInt (min x y) := by
    by_cases h : y < x
    · rw [if_pos ((e32_lt hy hx).mpr h), Int.min_eq_right (by omega)]
    · rw [if_neg (fun q => h ((e32_lt hy hx).mp q)), Int.min_eq_left (by omega)]
  rw [e9]
  exact k9
theorem w_tsIn (C : Cx l p s m args meth c cc own nL D cA b0 tab) {dflt lo hi off z : Int} {offs : Array Int} {n tgt : Nat} (hd : DI cc pc (.tableswitch dflt lo hi offs) n pc') (hz : -2147483648 ≤ z ∧ z ≤ 2147483647) (h1 : lo ≤ z ∧ z ≤ hi) (ho : offs[(z - lo).toNat]? = some off) (ht : (pc : Int) + off = (tgt : Int))
    (kk : Wm p l e R s m args below meth c nL D cA b0 cells slots Q tgt lv st ad cn M) : Wm p l e R s m args below meth c nL D cA b0 cells slots Q pc lv (aI z :: st) ad cn M := fun H locs ls hw hS hl =>
  lv_tableIn C.1 C.2.1 hd.1 (by rw [e32 hz]; omega) (by rw [e32 hz]; omega) (by rw [e32 hz]; exact ho) ht (kk H locs ls hw hS hl)
theorem w_tsOut (C : Cx l p s m args meth c cc own nL D cA b0 tab) {dflt lo hi z : Int} {offs : Array Int} {n tgt : Nat} (hd : DI cc pc (.tableswitch dflt lo hi offs) n pc') (hz : -2147483648 ≤ z ∧ z ≤ 2147483647) (h1 : z < lo ∨ hi < z) (ht : (pc : Int) + dflt = (tgt : Int))
    (kk : Wm p l e R s m args below meth c nL D cA b0 cells slots Q tgt lv st ad cn M) : Wm p l e R s m args below meth c nL D cA b0 cells slots Q pc lv (aI z :: st) ad cn M := fun H locs ls hw hS hl =>
  lv_tableOut C.1 C.2.1 hd.1 (by rw [e32 hz]; exact h1) ht (kk H locs ls hw hS hl)
def andN (a b : Nat) : Nat := a ^^^ (a &&& b)
theorem andN_tb (a b i : Nat) : (andN a b).testBit i = (a.testBit i && !b.testBit i) := by
  unfold andN
  rw [Nat.testBit_xor, Nat.testBit_and]
  cases a.testBit i <;> cases b.testBit i <;> rfl
theorem e32_not (b : Nat) : Int32.ofInt (b : Int) ^^^ Int32.ofInt (-1) = Int32.ofInt (-(b : Int) - 1) := by
  have h9 : Int32.ofInt (-(b : Int) - 1) = -Int32.ofInt (b : Int) - 1 := by rw [Int32.ofInt_sub, Int32.ofInt_neg]; rfl
  rw [h9]
  refine Int32.toBitVec_inj.mp ?_
  show BitVec.ofInt 32 b ^^^ BitVec.allOnes 32 = -(BitVec.ofInt 32 b) - 1#32
  rw [BitVec.xor_allOnes, BitVec.neg_eq_not_add, BitVec.add_sub_cancel]
theorem w_ixorm (C : Cx l p s m args meth c cc own nL D cA b0 tab) (hd : DI cc pc .ixor 1 pc') {x : Nat} (kk : Wm p l e R s m args below meth c nL D cA b0 cells slots Q pc' lv (aI (-(x : Int) - 1) :: st) ad cn M) : Wm p l e R s m args below meth c nL D cA b0 cells slots Q pc lv (aI (-1) :: aI x :: st) ad cn M := by
  intro H locs ls hw hS hl
  have k := kk H locs ls hw hS hl
  rw [← hd.2] at k
  exact lv_ixor C.1 C.2.1 hd.1 (by rw [e32_not]; exact k)
theorem e32_andN {a b : Nat} (ha : a < 2147483648) (hb : b < 2147483648) : Int32.ofInt (a : Int) &&& Int32.ofInt (-(b : Int) - 1) = Int32.ofInt ((andN a b : Nat) : Int) := by
  rw [← e32_not]
  refine Int32.toBitVec_inj.mp ?_
  show BitVec.ofInt 32 a &&& (BitVec.ofInt 32 b ^^^ BitVec.allOnes 32) = BitVec.ofInt 32 ((andN a b : Nat) : Int)
  rw [BitVec.xor_allOnes, BitVec.ofInt_natCast, BitVec.ofInt_natCast, BitVec.ofInt_natCast]
  refine BitVec.eq_of_getLsbD_eq fun i hi => ?_
  rw [BitVec.getLsbD_and, BitVec.getLsbD_not, BitVec.getLsbD_ofNat, BitVec.getLsbD_ofNat, BitVec.getLsbD_ofNat, andN_tb]
  simp [hi]
theorem w_iandn (C : Cx l p s m args meth c cc own nL D cA b0 tab) (hd : DI cc pc .iand 1 pc') {x y : Nat} (hx : x < 2147483648) (hy : y < 2147483648) (kk : Wm p l e R s m args below meth c nL D cA b0 cells slots Q pc' lv (aI ((andN x y : Nat) : Int) :: st) ad cn M) : Wm p l e R s m args below meth c nL D cA b0 cells slots Q pc lv (aI (-(y : Int) - 1) :: aI x :: st) ad cn M := by
  intro H locs ls hw hS hl
  have k := kk H locs ls hw hS hl
  rw [← hd.2] at k
  exact lv_iand C.1 C.2.1 hd.1 (by rw [e32_andN hx hy]; exact k)
end Rows
